section
-- ===== PART A: goes FIRST, ahead of the names: the tables' words, and 'selects' of the private methods out of them =====
/-- a private method of a class that the tables say can be made, by its rows of tables_1 -/
def lw_okq (q : MethodName × Nat) : Prop := (q.1.cls ≠ "java/lang/invoke/MethodHandle" ∧ q.1.cls ≠ "java/lang/invoke/VarHandle") ∧ Cond.instantiable q.1.cls q.2 ∈ tables_1 ∧ Cond.privateMethod q.1 ∈ tables_1 ∧ Cond.instanceMethod q.1 ∈ tables_1
theorem lw_p0 : lw_okq (⟨"GossipCounts", "save", "()V"⟩, 6) := ⟨⟨by decide +kernel, by decide +kernel⟩, List.mem_of_getElem? (i := 17) (by decide +kernel), List.mem_of_getElem? (i := 178) (by decide +kernel), List.mem_of_getElem? (i := 179) (by decide +kernel)⟩
theorem lw_p1 : lw_okq (⟨"GossipCounts$World", "judge", "(I)V"⟩, 17) := ⟨⟨by decide +kernel, by decide +kernel⟩, List.mem_of_getElem? (i := 25) (by decide +kernel), List.mem_of_getElem? (i := 206) (by decide +kernel), List.mem_of_getElem? (i := 207) (by decide +kernel)⟩
theorem lw_p2 : lw_okq (⟨"GossipCounts$Holdings", "heldAmong", "(III)I"⟩, 1) := ⟨⟨by decide +kernel, by decide +kernel⟩, List.mem_of_getElem? (i := 31) (by decide +kernel), List.mem_of_getElem? (i := 217) (by decide +kernel), List.mem_of_getElem? (i := 218) (by decide +kernel)⟩
theorem lw_p3 : lw_okq (⟨"GossipCounts$World", "withRest", "(I)I"⟩, 17) := ⟨⟨by decide +kernel, by decide +kernel⟩, List.mem_of_getElem? (i := 25) (by decide +kernel), List.mem_of_getElem? (i := 234) (by decide +kernel), List.mem_of_getElem? (i := 235) (by decide +kernel)⟩
theorem lw_p4 : lw_okq (⟨"GossipCounts$World", "highestOf", "(I)I"⟩, 17) := ⟨⟨by decide +kernel, by decide +kernel⟩, List.mem_of_getElem? (i := 25) (by decide +kernel), List.mem_of_getElem? (i := 244) (by decide +kernel), List.mem_of_getElem? (i := 245) (by decide +kernel)⟩
theorem lw_p5 : lw_okq (⟨"GossipCounts$World", "endThing", "(III)V"⟩, 17) := ⟨⟨by decide +kernel, by decide +kernel⟩, List.mem_of_getElem? (i := 25) (by decide +kernel), List.mem_of_getElem? (i := 248) (by decide +kernel), List.mem_of_getElem? (i := 249) (by decide +kernel)⟩
theorem lw_p6 : lw_okq (⟨"GossipCounts$World", "dueTime", "(I)I"⟩, 17) := ⟨⟨by decide +kernel, by decide +kernel⟩, List.mem_of_getElem? (i := 25) (by decide +kernel), List.mem_of_getElem? (i := 265) (by decide +kernel), List.mem_of_getElem? (i := 266) (by decide +kernel)⟩
theorem lw_p7 : lw_okq (⟨"GossipCounts$World", "hearDue", "()V"⟩, 17) := ⟨⟨by decide +kernel, by decide +kernel⟩, List.mem_of_getElem? (i := 25) (by decide +kernel), List.mem_of_getElem? (i := 280) (by decide +kernel), List.mem_of_getElem? (i := 281) (by decide +kernel)⟩
theorem lw_p8 : lw_okq (⟨"GossipCounts$World", "mustEnd", "(I)Z"⟩, 17) := ⟨⟨by decide +kernel, by decide +kernel⟩, List.mem_of_getElem? (i := 25) (by decide +kernel), List.mem_of_getElem? (i := 297) (by decide +kernel), List.mem_of_getElem? (i := 298) (by decide +kernel)⟩
theorem lw_p9 : lw_okq (⟨"GossipCounts$World", "isWrong", "(I)Z"⟩, 17) := ⟨⟨by decide +kernel, by decide +kernel⟩, List.mem_of_getElem? (i := 25) (by decide +kernel), List.mem_of_getElem? (i := 313) (by decide +kernel), List.mem_of_getElem? (i := 314) (by decide +kernel)⟩
theorem lw_p10 : lw_okq (⟨"GossipCounts$Holdings", "reachedWithout", "(I)I"⟩, 1) := ⟨⟨by decide +kernel, by decide +kernel⟩, List.mem_of_getElem? (i := 31) (by decide +kernel), List.mem_of_getElem? (i := 366) (by decide +kernel), List.mem_of_getElem? (i := 367) (by decide +kernel)⟩
theorem lw_p11 : lw_okq (⟨"GossipCounts$World", "endsInTrials", "()I"⟩, 17) := ⟨⟨by decide +kernel, by decide +kernel⟩, List.mem_of_getElem? (i := 25) (by decide +kernel), List.mem_of_getElem? (i := 374) (by decide +kernel), List.mem_of_getElem? (i := 375) (by decide +kernel)⟩
theorem lw_p12 : lw_okq (⟨"GossipCounts$World", "wrongCounts", "()I"⟩, 17) := ⟨⟨by decide +kernel, by decide +kernel⟩, List.mem_of_getElem? (i := 25) (by decide +kernel), List.mem_of_getElem? (i := 382) (by decide +kernel), List.mem_of_getElem? (i := 383) (by decide +kernel)⟩
theorem lw_p13 : lw_okq (⟨"java/lang/Throwable", "fillInStackTrace", "(I)Ljava/lang/Throwable;"⟩, 6) := ⟨⟨by decide +kernel, by decide +kernel⟩, List.mem_of_getElem? (i := 433) (by decide +kernel), List.mem_of_getElem? (i := 431) (by decide +kernel), List.mem_of_getElem? (i := 432) (by decide +kernel)⟩
theorem lw_p14 : lw_okq (⟨"GossipCounts", "foresee", "(I)V"⟩, 6) := ⟨⟨by decide +kernel, by decide +kernel⟩, List.mem_of_getElem? (i := 17) (by decide +kernel), List.mem_of_getElem? (i := 468) (by decide +kernel), List.mem_of_getElem? (i := 469) (by decide +kernel)⟩
theorem lw_p15 : lw_okq (⟨"GossipCounts", "withThings", "(J)J"⟩, 6) := ⟨⟨by decide +kernel, by decide +kernel⟩, List.mem_of_getElem? (i := 17) (by decide +kernel), List.mem_of_getElem? (i := 477) (by decide +kernel), List.mem_of_getElem? (i := 478) (by decide +kernel)⟩
def lw_privs_1 : List (MethodName × Nat) := [(⟨"GossipCounts", "save", "()V"⟩, 6), (⟨"GossipCounts$World", "judge", "(I)V"⟩, 17), (⟨"GossipCounts$Holdings", "heldAmong", "(III)I"⟩, 1), (⟨"GossipCounts$World", "withRest", "(I)I"⟩, 17), (⟨"GossipCounts$World", "highestOf", "(I)I"⟩, 17), (⟨"GossipCounts$World", "endThing", "(III)V"⟩, 17), (⟨"GossipCounts$World", "dueTime", "(I)I"⟩, 17), (⟨"GossipCounts$World", "hearDue", "()V"⟩, 17), (⟨"GossipCounts$World", "mustEnd", "(I)Z"⟩, 17), (⟨"GossipCounts$World", "isWrong", "(I)Z"⟩, 17), (⟨"GossipCounts$Holdings", "reachedWithout", "(I)I"⟩, 1), (⟨"GossipCounts$World", "endsInTrials", "()I"⟩, 17), (⟨"GossipCounts$World", "wrongCounts", "()I"⟩, 17), (⟨"java/lang/Throwable", "fillInStackTrace", "(I)Ljava/lang/Throwable;"⟩, 6), (⟨"GossipCounts", "foresee", "(I)V"⟩, 6), (⟨"GossipCounts", "withThings", "(J)J"⟩, 6)]
theorem lw_r1 : ∀ q ∈ lw_privs_1, lw_okq q := List.forall_mem_cons.mpr ⟨lw_p0, List.forall_mem_cons.mpr ⟨lw_p1, List.forall_mem_cons.mpr ⟨lw_p2, List.forall_mem_cons.mpr ⟨lw_p3, List.forall_mem_cons.mpr ⟨lw_p4, List.forall_mem_cons.mpr ⟨lw_p5, List.forall_mem_cons.mpr ⟨lw_p6, List.forall_mem_cons.mpr ⟨lw_p7, List.forall_mem_cons.mpr ⟨lw_p8, List.forall_mem_cons.mpr ⟨lw_p9, List.forall_mem_cons.mpr ⟨lw_p10, List.forall_mem_cons.mpr ⟨lw_p11, List.forall_mem_cons.mpr ⟨lw_p12, List.forall_mem_cons.mpr ⟨lw_p13, List.forall_mem_cons.mpr ⟨lw_p14, List.forall_mem_cons.mpr ⟨lw_p15, fun _ h => absurd h List.not_mem_nil⟩⟩⟩⟩⟩⟩⟩⟩⟩⟩⟩⟩⟩⟩⟩⟩
theorem lw_p16 : lw_okq (⟨"GossipCounts", "foreseenEnd", "(I)I"⟩, 6) := ⟨⟨by decide +kernel, by decide +kernel⟩, List.mem_of_getElem? (i := 17) (by decide +kernel), List.mem_of_getElem? (i := 495) (by decide +kernel), List.mem_of_getElem? (i := 496) (by decide +kernel)⟩
theorem lw_p17 : lw_okq (⟨"GossipCounts", "withReportsAndEnds", "(J)J"⟩, 6) := ⟨⟨by decide +kernel, by decide +kernel⟩, List.mem_of_getElem? (i := 17) (by decide +kernel), List.mem_of_getElem? (i := 500) (by decide +kernel), List.mem_of_getElem? (i := 501) (by decide +kernel)⟩
theorem lw_p18 : lw_okq (⟨"GossipCounts", "withPassed", "(J)J"⟩, 6) := ⟨⟨by decide +kernel, by decide +kernel⟩, List.mem_of_getElem? (i := 17) (by decide +kernel), List.mem_of_getElem? (i := 506) (by decide +kernel), List.mem_of_getElem? (i := 507) (by decide +kernel)⟩
theorem lw_p19 : lw_okq (⟨"GossipCounts", "passedPart", "(I)I"⟩, 6) := ⟨⟨by decide +kernel, by decide +kernel⟩, List.mem_of_getElem? (i := 17) (by decide +kernel), List.mem_of_getElem? (i := 510) (by decide +kernel), List.mem_of_getElem? (i := 511) (by decide +kernel)⟩
theorem lw_p20 : lw_okq (⟨"GossipCounts", "foreseeTrial", "()V"⟩, 6) := ⟨⟨by decide +kernel, by decide +kernel⟩, List.mem_of_getElem? (i := 17) (by decide +kernel), List.mem_of_getElem? (i := 516) (by decide +kernel), List.mem_of_getElem? (i := 517) (by decide +kernel)⟩
theorem lw_p21 : lw_okq (⟨"GossipCounts", "withTried", "(J)J"⟩, 6) := ⟨⟨by decide +kernel, by decide +kernel⟩, List.mem_of_getElem? (i := 17) (by decide +kernel), List.mem_of_getElem? (i := 520) (by decide +kernel), List.mem_of_getElem? (i := 521) (by decide +kernel)⟩
theorem lw_p22 : lw_okq (⟨"GossipCounts", "triedPart", "(I)I"⟩, 6) := ⟨⟨by decide +kernel, by decide +kernel⟩, List.mem_of_getElem? (i := 17) (by decide +kernel), List.mem_of_getElem? (i := 524) (by decide +kernel), List.mem_of_getElem? (i := 525) (by decide +kernel)⟩
theorem lw_p23 : lw_okq (⟨"GossipCounts", "withBestCut", "(J)J"⟩, 6) := ⟨⟨by decide +kernel, by decide +kernel⟩, List.mem_of_getElem? (i := 17) (by decide +kernel), List.mem_of_getElem? (i := 528) (by decide +kernel), List.mem_of_getElem? (i := 529) (by decide +kernel)⟩
theorem lw_p24 : lw_okq (⟨"GossipCounts", "slandersToEnd", "(I)I"⟩, 6) := ⟨⟨by decide +kernel, by decide +kernel⟩, List.mem_of_getElem? (i := 17) (by decide +kernel), List.mem_of_getElem? (i := 543) (by decide +kernel), List.mem_of_getElem? (i := 544) (by decide +kernel)⟩
theorem lw_p25 : lw_okq (⟨"GossipCounts", "isThingOrNone", "(I)Z"⟩, 6) := ⟨⟨by decide +kernel, by decide +kernel⟩, List.mem_of_getElem? (i := 17) (by decide +kernel), List.mem_of_getElem? (i := 599) (by decide +kernel), List.mem_of_getElem? (i := 600) (by decide +kernel)⟩
theorem lw_p26 : lw_okq (⟨"GossipCounts", "isThing", "(I)Z"⟩, 6) := ⟨⟨by decide +kernel, by decide +kernel⟩, List.mem_of_getElem? (i := 17) (by decide +kernel), List.mem_of_getElem? (i := 603) (by decide +kernel), List.mem_of_getElem? (i := 604) (by decide +kernel)⟩
theorem lw_p27 : lw_okq (⟨"GossipCounts$Text", "hasMore", "()Z"⟩, 5) := ⟨⟨by decide +kernel, by decide +kernel⟩, List.mem_of_getElem? (i := 129) (by decide +kernel), List.mem_of_getElem? (i := 715) (by decide +kernel), List.mem_of_getElem? (i := 716) (by decide +kernel)⟩
theorem lw_p28 : lw_okq (⟨"GossipCounts$Text", "readNumber", "()I"⟩, 5) := ⟨⟨by decide +kernel, by decide +kernel⟩, List.mem_of_getElem? (i := 129) (by decide +kernel), List.mem_of_getElem? (i := 719) (by decide +kernel), List.mem_of_getElem? (i := 720) (by decide +kernel)⟩
theorem lw_p29 : lw_okq (⟨"GossipCounts", "doStep", "()Z"⟩, 6) := ⟨⟨by decide +kernel, by decide +kernel⟩, List.mem_of_getElem? (i := 17) (by decide +kernel), List.mem_of_getElem? (i := 723) (by decide +kernel), List.mem_of_getElem? (i := 724) (by decide +kernel)⟩
theorem lw_p30 : lw_okq (⟨"GossipCountsModel", "whyNotAdded", "(I)I"⟩, 15) := ⟨⟨by decide +kernel, by decide +kernel⟩, List.mem_of_getElem? (i := 832) (by decide +kernel), List.mem_of_getElem? (i := 893) (by decide +kernel), List.mem_of_getElem? (i := 894) (by decide +kernel)⟩
theorem lw_p31 : lw_okq (⟨"GossipCountsModel", "save", "()V"⟩, 15) := ⟨⟨by decide +kernel, by decide +kernel⟩, List.mem_of_getElem? (i := 832) (by decide +kernel), List.mem_of_getElem? (i := 900) (by decide +kernel), List.mem_of_getElem? (i := 901) (by decide +kernel)⟩
def lw_privs_2 : List (MethodName × Nat) := [(⟨"GossipCounts", "foreseenEnd", "(I)I"⟩, 6), (⟨"GossipCounts", "withReportsAndEnds", "(J)J"⟩, 6), (⟨"GossipCounts", "withPassed", "(J)J"⟩, 6), (⟨"GossipCounts", "passedPart", "(I)I"⟩, 6), (⟨"GossipCounts", "foreseeTrial", "()V"⟩, 6), (⟨"GossipCounts", "withTried", "(J)J"⟩, 6), (⟨"GossipCounts", "triedPart", "(I)I"⟩, 6), (⟨"GossipCounts", "withBestCut", "(J)J"⟩, 6), (⟨"GossipCounts", "slandersToEnd", "(I)I"⟩, 6), (⟨"GossipCounts", "isThingOrNone", "(I)Z"⟩, 6), (⟨"GossipCounts", "isThing", "(I)Z"⟩, 6), (⟨"GossipCounts$Text", "hasMore", "()Z"⟩, 5), (⟨"GossipCounts$Text", "readNumber", "()I"⟩, 5), (⟨"GossipCounts", "doStep", "()Z"⟩, 6), (⟨"GossipCountsModel", "whyNotAdded", "(I)I"⟩, 15), (⟨"GossipCountsModel", "save", "()V"⟩, 15)]
theorem lw_r2 : ∀ q ∈ lw_privs_2, lw_okq q := List.forall_mem_cons.mpr ⟨lw_p16, List.forall_mem_cons.mpr ⟨lw_p17, List.forall_mem_cons.mpr ⟨lw_p18, List.forall_mem_cons.mpr ⟨lw_p19, List.forall_mem_cons.mpr ⟨lw_p20, List.forall_mem_cons.mpr ⟨lw_p21, List.forall_mem_cons.mpr ⟨lw_p22, List.forall_mem_cons.mpr ⟨lw_p23, List.forall_mem_cons.mpr ⟨lw_p24, List.forall_mem_cons.mpr ⟨lw_p25, List.forall_mem_cons.mpr ⟨lw_p26, List.forall_mem_cons.mpr ⟨lw_p27, List.forall_mem_cons.mpr ⟨lw_p28, List.forall_mem_cons.mpr ⟨lw_p29, List.forall_mem_cons.mpr ⟨lw_p30, List.forall_mem_cons.mpr ⟨lw_p31, fun _ h => absurd h List.not_mem_nil⟩⟩⟩⟩⟩⟩⟩⟩⟩⟩⟩⟩⟩⟩⟩⟩
theorem lw_p32 : lw_okq (⟨"GossipCountsModel", "added", "(I)I"⟩, 15) := ⟨⟨by decide +kernel, by decide +kernel⟩, List.mem_of_getElem? (i := 832) (by decide +kernel), List.mem_of_getElem? (i := 907) (by decide +kernel), List.mem_of_getElem? (i := 908) (by decide +kernel)⟩
theorem lw_p33 : lw_okq (⟨"GossipCountsModel", "setPart", "(III)V"⟩, 15) := ⟨⟨by decide +kernel, by decide +kernel⟩, List.mem_of_getElem? (i := 832) (by decide +kernel), List.mem_of_getElem? (i := 911) (by decide +kernel), List.mem_of_getElem? (i := 912) (by decide +kernel)⟩
theorem lw_p34 : lw_okq (⟨"GossipCountsModel", "whyNotTaken", "(II)I"⟩, 15) := ⟨⟨by decide +kernel, by decide +kernel⟩, List.mem_of_getElem? (i := 832) (by decide +kernel), List.mem_of_getElem? (i := 919) (by decide +kernel), List.mem_of_getElem? (i := 920) (by decide +kernel)⟩
theorem lw_p35 : lw_okq (⟨"GossipCountsModel", "isHeld", "(I)Z"⟩, 15) := ⟨⟨by decide +kernel, by decide +kernel⟩, List.mem_of_getElem? (i := 832) (by decide +kernel), List.mem_of_getElem? (i := 923) (by decide +kernel), List.mem_of_getElem? (i := 924) (by decide +kernel)⟩
theorem lw_p36 : lw_okq (⟨"GossipCountsModel", "isThing", "(I)Z"⟩, 15) := ⟨⟨by decide +kernel, by decide +kernel⟩, List.mem_of_getElem? (i := 832) (by decide +kernel), List.mem_of_getElem? (i := 927) (by decide +kernel), List.mem_of_getElem? (i := 928) (by decide +kernel)⟩
theorem lw_p37 : lw_okq (⟨"GossipCountsModel", "hasEnded", "(I)Z"⟩, 15) := ⟨⟨by decide +kernel, by decide +kernel⟩, List.mem_of_getElem? (i := 832) (by decide +kernel), List.mem_of_getElem? (i := 931) (by decide +kernel), List.mem_of_getElem? (i := 932) (by decide +kernel)⟩
theorem lw_p38 : lw_okq (⟨"GossipCountsModel", "lives", "(I)Z"⟩, 15) := ⟨⟨by decide +kernel, by decide +kernel⟩, List.mem_of_getElem? (i := 832) (by decide +kernel), List.mem_of_getElem? (i := 935) (by decide +kernel), List.mem_of_getElem? (i := 936) (by decide +kernel)⟩
theorem lw_p39 : lw_okq (⟨"GossipCountsModel", "part", "(II)I"⟩, 15) := ⟨⟨by decide +kernel, by decide +kernel⟩, List.mem_of_getElem? (i := 832) (by decide +kernel), List.mem_of_getElem? (i := 939) (by decide +kernel), List.mem_of_getElem? (i := 940) (by decide +kernel)⟩
theorem lw_p40 : lw_okq (⟨"GossipCountsModel", "changed", "(II)I"⟩, 15) := ⟨⟨by decide +kernel, by decide +kernel⟩, List.mem_of_getElem? (i := 832) (by decide +kernel), List.mem_of_getElem? (i := 943) (by decide +kernel), List.mem_of_getElem? (i := 944) (by decide +kernel)⟩
theorem lw_p41 : lw_okq (⟨"GossipCountsModel", "addReport", "(III)I"⟩, 15) := ⟨⟨by decide +kernel, by decide +kernel⟩, List.mem_of_getElem? (i := 832) (by decide +kernel), List.mem_of_getElem? (i := 947) (by decide +kernel), List.mem_of_getElem? (i := 948) (by decide +kernel)⟩
theorem lw_p42 : lw_okq (⟨"GossipCountsModel", "hearDue", "()V"⟩, 15) := ⟨⟨by decide +kernel, by decide +kernel⟩, List.mem_of_getElem? (i := 832) (by decide +kernel), List.mem_of_getElem? (i := 951) (by decide +kernel), List.mem_of_getElem? (i := 952) (by decide +kernel)⟩
theorem lw_p43 : lw_okq (⟨"GossipCountsModel", "firstDue", "()I"⟩, 15) := ⟨⟨by decide +kernel, by decide +kernel⟩, List.mem_of_getElem? (i := 832) (by decide +kernel), List.mem_of_getElem? (i := 955) (by decide +kernel), List.mem_of_getElem? (i := 956) (by decide +kernel)⟩
theorem lw_p44 : lw_okq (⟨"GossipCountsModel", "reportPart", "(II)I"⟩, 15) := ⟨⟨by decide +kernel, by decide +kernel⟩, List.mem_of_getElem? (i := 832) (by decide +kernel), List.mem_of_getElem? (i := 959) (by decide +kernel), List.mem_of_getElem? (i := 960) (by decide +kernel)⟩
theorem lw_p45 : lw_okq (⟨"GossipCountsModel", "hears", "(I)V"⟩, 15) := ⟨⟨by decide +kernel, by decide +kernel⟩, List.mem_of_getElem? (i := 832) (by decide +kernel), List.mem_of_getElem? (i := 963) (by decide +kernel), List.mem_of_getElem? (i := 964) (by decide +kernel)⟩
theorem lw_p46 : lw_okq (⟨"GossipCountsModel", "dropReport", "(I)V"⟩, 15) := ⟨⟨by decide +kernel, by decide +kernel⟩, List.mem_of_getElem? (i := 832) (by decide +kernel), List.mem_of_getElem? (i := 967) (by decide +kernel), List.mem_of_getElem? (i := 968) (by decide +kernel)⟩
theorem lw_p47 : lw_okq (⟨"GossipCountsModel", "underWay", "(I)I"⟩, 15) := ⟨⟨by decide +kernel, by decide +kernel⟩, List.mem_of_getElem? (i := 832) (by decide +kernel), List.mem_of_getElem? (i := 971) (by decide +kernel), List.mem_of_getElem? (i := 972) (by decide +kernel)⟩
def lw_privs_3 : List (MethodName × Nat) := [(⟨"GossipCountsModel", "added", "(I)I"⟩, 15), (⟨"GossipCountsModel", "setPart", "(III)V"⟩, 15), (⟨"GossipCountsModel", "whyNotTaken", "(II)I"⟩, 15), (⟨"GossipCountsModel", "isHeld", "(I)Z"⟩, 15), (⟨"GossipCountsModel", "isThing", "(I)Z"⟩, 15), (⟨"GossipCountsModel", "hasEnded", "(I)Z"⟩, 15), (⟨"GossipCountsModel", "lives", "(I)Z"⟩, 15), (⟨"GossipCountsModel", "part", "(II)I"⟩, 15), (⟨"GossipCountsModel", "changed", "(II)I"⟩, 15), (⟨"GossipCountsModel", "addReport", "(III)I"⟩, 15), (⟨"GossipCountsModel", "hearDue", "()V"⟩, 15), (⟨"GossipCountsModel", "firstDue", "()I"⟩, 15), (⟨"GossipCountsModel", "reportPart", "(II)I"⟩, 15), (⟨"GossipCountsModel", "hears", "(I)V"⟩, 15), (⟨"GossipCountsModel", "dropReport", "(I)V"⟩, 15), (⟨"GossipCountsModel", "underWay", "(I)I"⟩, 15)]
theorem lw_r3 : ∀ q ∈ lw_privs_3, lw_okq q := List.forall_mem_cons.mpr ⟨lw_p32, List.forall_mem_cons.mpr ⟨lw_p33, List.forall_mem_cons.mpr ⟨lw_p34, List.forall_mem_cons.mpr ⟨lw_p35, List.forall_mem_cons.mpr ⟨lw_p36, List.forall_mem_cons.mpr ⟨lw_p37, List.forall_mem_cons.mpr ⟨lw_p38, List.forall_mem_cons.mpr ⟨lw_p39, List.forall_mem_cons.mpr ⟨lw_p40, List.forall_mem_cons.mpr ⟨lw_p41, List.forall_mem_cons.mpr ⟨lw_p42, List.forall_mem_cons.mpr ⟨lw_p43, List.forall_mem_cons.mpr ⟨lw_p44, List.forall_mem_cons.mpr ⟨lw_p45, List.forall_mem_cons.mpr ⟨lw_p46, List.forall_mem_cons.mpr ⟨lw_p47, fun _ h => absurd h List.not_mem_nil⟩⟩⟩⟩⟩⟩⟩⟩⟩⟩⟩⟩⟩⟩⟩⟩
theorem lw_p48 : lw_okq (⟨"GossipCountsModel", "truth", "(I)I"⟩, 15) := ⟨⟨by decide +kernel, by decide +kernel⟩, List.mem_of_getElem? (i := 832) (by decide +kernel), List.mem_of_getElem? (i := 975) (by decide +kernel), List.mem_of_getElem? (i := 976) (by decide +kernel)⟩
theorem lw_p49 : lw_okq (⟨"GossipCountsModel", "slotOf", "(II)I"⟩, 15) := ⟨⟨by decide +kernel, by decide +kernel⟩, List.mem_of_getElem? (i := 832) (by decide +kernel), List.mem_of_getElem? (i := 979) (by decide +kernel), List.mem_of_getElem? (i := 980) (by decide +kernel)⟩
theorem lw_p50 : lw_okq (⟨"GossipCountsModel", "ends", "(II)V"⟩, 15) := ⟨⟨by decide +kernel, by decide +kernel⟩, List.mem_of_getElem? (i := 832) (by decide +kernel), List.mem_of_getElem? (i := 983) (by decide +kernel), List.mem_of_getElem? (i := 984) (by decide +kernel)⟩
theorem lw_p51 : lw_okq (⟨"GossipCountsModel", "endsToo", "(II)Z"⟩, 15) := ⟨⟨by decide +kernel, by decide +kernel⟩, List.mem_of_getElem? (i := 832) (by decide +kernel), List.mem_of_getElem? (i := 987) (by decide +kernel), List.mem_of_getElem? (i := 988) (by decide +kernel)⟩
theorem lw_p52 : lw_okq (⟨"GossipCountsModel", "whyNotPut", "(III)I"⟩, 15) := ⟨⟨by decide +kernel, by decide +kernel⟩, List.mem_of_getElem? (i := 832) (by decide +kernel), List.mem_of_getElem? (i := 995) (by decide +kernel), List.mem_of_getElem? (i := 996) (by decide +kernel)⟩
theorem lw_p53 : lw_okq (⟨"GossipCountsModel", "slandered", "(II)I"⟩, 15) := ⟨⟨by decide +kernel, by decide +kernel⟩, List.mem_of_getElem? (i := 832) (by decide +kernel), List.mem_of_getElem? (i := 1003) (by decide +kernel), List.mem_of_getElem? (i := 1004) (by decide +kernel)⟩
theorem lw_p54 : lw_okq (⟨"GossipCountsModel", "suspects", "()I"⟩, 15) := ⟨⟨by decide +kernel, by decide +kernel⟩, List.mem_of_getElem? (i := 832) (by decide +kernel), List.mem_of_getElem? (i := 1011) (by decide +kernel), List.mem_of_getElem? (i := 1012) (by decide +kernel)⟩
theorem lw_p55 : lw_okq (⟨"GossipCountsModel", "whyNotPassed", "(I)I"⟩, 15) := ⟨⟨by decide +kernel, by decide +kernel⟩, List.mem_of_getElem? (i := 832) (by decide +kernel), List.mem_of_getElem? (i := 1026) (by decide +kernel), List.mem_of_getElem? (i := 1027) (by decide +kernel)⟩
theorem lw_p56 : lw_okq (⟨"GossipCountsModel", "passed", "(I)I"⟩, 15) := ⟨⟨by decide +kernel, by decide +kernel⟩, List.mem_of_getElem? (i := 832) (by decide +kernel), List.mem_of_getElem? (i := 1030) (by decide +kernel), List.mem_of_getElem? (i := 1031) (by decide +kernel)⟩
theorem lw_p57 : lw_okq (⟨"GossipCountsModel", "tick", "()V"⟩, 15) := ⟨⟨by decide +kernel, by decide +kernel⟩, List.mem_of_getElem? (i := 832) (by decide +kernel), List.mem_of_getElem? (i := 1034) (by decide +kernel), List.mem_of_getElem? (i := 1035) (by decide +kernel)⟩
theorem lw_p58 : lw_okq (⟨"GossipCountsModel", "holdTrial", "()V"⟩, 15) := ⟨⟨by decide +kernel, by decide +kernel⟩, List.mem_of_getElem? (i := 832) (by decide +kernel), List.mem_of_getElem? (i := 1038) (by decide +kernel), List.mem_of_getElem? (i := 1039) (by decide +kernel)⟩
theorem lw_p59 : lw_okq (⟨"GossipCountsModel", "tries", "(I)V"⟩, 15) := ⟨⟨by decide +kernel, by decide +kernel⟩, List.mem_of_getElem? (i := 832) (by decide +kernel), List.mem_of_getElem? (i := 1042) (by decide +kernel), List.mem_of_getElem? (i := 1043) (by decide +kernel)⟩
theorem lw_p60 : lw_okq (⟨"GossipCountsModel", "findSet", "(I)Z"⟩, 15) := ⟨⟨by decide +kernel, by decide +kernel⟩, List.mem_of_getElem? (i := 832) (by decide +kernel), List.mem_of_getElem? (i := 1046) (by decide +kernel), List.mem_of_getElem? (i := 1047) (by decide +kernel)⟩
theorem lw_p61 : lw_okq (⟨"GossipCountsModel", "spread", "([I)V"⟩, 15) := ⟨⟨by decide +kernel, by decide +kernel⟩, List.mem_of_getElem? (i := 832) (by decide +kernel), List.mem_of_getElem? (i := 1053) (by decide +kernel), List.mem_of_getElem? (i := 1054) (by decide +kernel)⟩
theorem lw_p62 : lw_okq (⟨"GossipCountsModel", "findInnocent", "()V"⟩, 15) := ⟨⟨by decide +kernel, by decide +kernel⟩, List.mem_of_getElem? (i := 832) (by decide +kernel), List.mem_of_getElem? (i := 1057) (by decide +kernel), List.mem_of_getElem? (i := 1058) (by decide +kernel)⟩
theorem lw_p63 : lw_okq (⟨"GossipCountsModel", "restOf", "(I)I"⟩, 15) := ⟨⟨by decide +kernel, by decide +kernel⟩, List.mem_of_getElem? (i := 832) (by decide +kernel), List.mem_of_getElem? (i := 1061) (by decide +kernel), List.mem_of_getElem? (i := 1062) (by decide +kernel)⟩
def lw_privs_4 : List (MethodName × Nat) := [(⟨"GossipCountsModel", "truth", "(I)I"⟩, 15), (⟨"GossipCountsModel", "slotOf", "(II)I"⟩, 15), (⟨"GossipCountsModel", "ends", "(II)V"⟩, 15), (⟨"GossipCountsModel", "endsToo", "(II)Z"⟩, 15), (⟨"GossipCountsModel", "whyNotPut", "(III)I"⟩, 15), (⟨"GossipCountsModel", "slandered", "(II)I"⟩, 15), (⟨"GossipCountsModel", "suspects", "()I"⟩, 15), (⟨"GossipCountsModel", "whyNotPassed", "(I)I"⟩, 15), (⟨"GossipCountsModel", "passed", "(I)I"⟩, 15), (⟨"GossipCountsModel", "tick", "()V"⟩, 15), (⟨"GossipCountsModel", "holdTrial", "()V"⟩, 15), (⟨"GossipCountsModel", "tries", "(I)V"⟩, 15), (⟨"GossipCountsModel", "findSet", "(I)Z"⟩, 15), (⟨"GossipCountsModel", "spread", "([I)V"⟩, 15), (⟨"GossipCountsModel", "findInnocent", "()V"⟩, 15), (⟨"GossipCountsModel", "restOf", "(I)I"⟩, 15)]
theorem lw_r4 : ∀ q ∈ lw_privs_4, lw_okq q := List.forall_mem_cons.mpr ⟨lw_p48, List.forall_mem_cons.mpr ⟨lw_p49, List.forall_mem_cons.mpr ⟨lw_p50, List.forall_mem_cons.mpr ⟨lw_p51, List.forall_mem_cons.mpr ⟨lw_p52, List.forall_mem_cons.mpr ⟨lw_p53, List.forall_mem_cons.mpr ⟨lw_p54, List.forall_mem_cons.mpr ⟨lw_p55, List.forall_mem_cons.mpr ⟨lw_p56, List.forall_mem_cons.mpr ⟨lw_p57, List.forall_mem_cons.mpr ⟨lw_p58, List.forall_mem_cons.mpr ⟨lw_p59, List.forall_mem_cons.mpr ⟨lw_p60, List.forall_mem_cons.mpr ⟨lw_p61, List.forall_mem_cons.mpr ⟨lw_p62, List.forall_mem_cons.mpr ⟨lw_p63, fun _ h => absurd h List.not_mem_nil⟩⟩⟩⟩⟩⟩⟩⟩⟩⟩⟩⟩⟩⟩⟩⟩
theorem lw_p64 : lw_okq (⟨"GossipCountsModel", "nextToEnd", "()I"⟩, 15) := ⟨⟨by decide +kernel, by decide +kernel⟩, List.mem_of_getElem? (i := 832) (by decide +kernel), List.mem_of_getElem? (i := 1065) (by decide +kernel), List.mem_of_getElem? (i := 1066) (by decide +kernel)⟩
theorem lw_p65 : lw_okq (⟨"GossipCountsModel", "sumUnderWay", "(I)I"⟩, 15) := ⟨⟨by decide +kernel, by decide +kernel⟩, List.mem_of_getElem? (i := 832) (by decide +kernel), List.mem_of_getElem? (i := 1077) (by decide +kernel), List.mem_of_getElem? (i := 1078) (by decide +kernel)⟩
theorem lw_p66 : lw_okq (⟨"GossipCountsModel", "isProgram", "()Z"⟩, 15) := ⟨⟨by decide +kernel, by decide +kernel⟩, List.mem_of_getElem? (i := 832) (by decide +kernel), List.mem_of_getElem? (i := 1106) (by decide +kernel), List.mem_of_getElem? (i := 1107) (by decide +kernel)⟩
theorem lw_p67 : lw_okq (⟨"GossipCountsModel", "does", "()Z"⟩, 15) := ⟨⟨by decide +kernel, by decide +kernel⟩, List.mem_of_getElem? (i := 832) (by decide +kernel), List.mem_of_getElem? (i := 1113) (by decide +kernel), List.mem_of_getElem? (i := 1114) (by decide +kernel)⟩
theorem lw_p68 : lw_okq (⟨"GossipCountsModel", "note", "(II)V"⟩, 15) := ⟨⟨by decide +kernel, by decide +kernel⟩, List.mem_of_getElem? (i := 832) (by decide +kernel), List.mem_of_getElem? (i := 1117) (by decide +kernel), List.mem_of_getElem? (i := 1118) (by decide +kernel)⟩
theorem lw_p69 : lw_okq (⟨"GossipCountsModel", "thingPart", "(II)I"⟩, 15) := ⟨⟨by decide +kernel, by decide +kernel⟩, List.mem_of_getElem? (i := 832) (by decide +kernel), List.mem_of_getElem? (i := 1129) (by decide +kernel), List.mem_of_getElem? (i := 1130) (by decide +kernel)⟩
theorem lw_p70 : lw_okq (⟨"GossipCountsModel", "findReached", "()I"⟩, 15) := ⟨⟨by decide +kernel, by decide +kernel⟩, List.mem_of_getElem? (i := 832) (by decide +kernel), List.mem_of_getElem? (i := 1133) (by decide +kernel), List.mem_of_getElem? (i := 1134) (by decide +kernel)⟩
theorem lw_p71 : lw_okq (⟨"GossipCountsModel", "atPlace", "(I)I"⟩, 15) := ⟨⟨by decide +kernel, by decide +kernel⟩, List.mem_of_getElem? (i := 832) (by decide +kernel), List.mem_of_getElem? (i := 1149) (by decide +kernel), List.mem_of_getElem? (i := 1150) (by decide +kernel)⟩
theorem lw_p72 : lw_okq (⟨"GossipCountsModel", "countOf", "(I)I"⟩, 15) := ⟨⟨by decide +kernel, by decide +kernel⟩, List.mem_of_getElem? (i := 832) (by decide +kernel), List.mem_of_getElem? (i := 1161) (by decide +kernel), List.mem_of_getElem? (i := 1162) (by decide +kernel)⟩
theorem lw_p73 : lw_okq (⟨"GossipCountsModel", "living", "()I"⟩, 15) := ⟨⟨by decide +kernel, by decide +kernel⟩, List.mem_of_getElem? (i := 832) (by decide +kernel), List.mem_of_getElem? (i := 1165) (by decide +kernel), List.mem_of_getElem? (i := 1166) (by decide +kernel)⟩
theorem lw_p74 : lw_okq (⟨"GossipCountsModel", "holding", "()I"⟩, 15) := ⟨⟨by decide +kernel, by decide +kernel⟩, List.mem_of_getElem? (i := 832) (by decide +kernel), List.mem_of_getElem? (i := 1169) (by decide +kernel), List.mem_of_getElem? (i := 1170) (by decide +kernel)⟩
theorem lw_p75 : lw_okq (⟨"GossipCountsModel", "mistaken", "()I"⟩, 15) := ⟨⟨by decide +kernel, by decide +kernel⟩, List.mem_of_getElem? (i := 832) (by decide +kernel), List.mem_of_getElem? (i := 1173) (by decide +kernel), List.mem_of_getElem? (i := 1174) (by decide +kernel)⟩
theorem lw_p76 : lw_okq (⟨"GossipCountsModel", "wouldPass", "(II)I"⟩, 15) := ⟨⟨by decide +kernel, by decide +kernel⟩, List.mem_of_getElem? (i := 832) (by decide +kernel), List.mem_of_getElem? (i := 1185) (by decide +kernel), List.mem_of_getElem? (i := 1186) (by decide +kernel)⟩
theorem lw_p77 : lw_okq (⟨"GossipCountsModel", "wouldEnd", "(I)I"⟩, 15) := ⟨⟨by decide +kernel, by decide +kernel⟩, List.mem_of_getElem? (i := 832) (by decide +kernel), List.mem_of_getElem? (i := 1193) (by decide +kernel), List.mem_of_getElem? (i := 1194) (by decide +kernel)⟩
theorem lw_p78 : lw_okq (⟨"GossipCountsModel", "wouldTry", "(I)I"⟩, 15) := ⟨⟨by decide +kernel, by decide +kernel⟩, List.mem_of_getElem? (i := 832) (by decide +kernel), List.mem_of_getElem? (i := 1201) (by decide +kernel), List.mem_of_getElem? (i := 1202) (by decide +kernel)⟩
theorem lw_p79 : lw_okq (⟨"GossipCountsModel", "ringOf", "(I)I"⟩, 15) := ⟨⟨by decide +kernel, by decide +kernel⟩, List.mem_of_getElem? (i := 832) (by decide +kernel), List.mem_of_getElem? (i := 1209) (by decide +kernel), List.mem_of_getElem? (i := 1210) (by decide +kernel)⟩
def lw_privs_5 : List (MethodName × Nat) := [(⟨"GossipCountsModel", "nextToEnd", "()I"⟩, 15), (⟨"GossipCountsModel", "sumUnderWay", "(I)I"⟩, 15), (⟨"GossipCountsModel", "isProgram", "()Z"⟩, 15), (⟨"GossipCountsModel", "does", "()Z"⟩, 15), (⟨"GossipCountsModel", "note", "(II)V"⟩, 15), (⟨"GossipCountsModel", "thingPart", "(II)I"⟩, 15), (⟨"GossipCountsModel", "findReached", "()I"⟩, 15), (⟨"GossipCountsModel", "atPlace", "(I)I"⟩, 15), (⟨"GossipCountsModel", "countOf", "(I)I"⟩, 15), (⟨"GossipCountsModel", "living", "()I"⟩, 15), (⟨"GossipCountsModel", "holding", "()I"⟩, 15), (⟨"GossipCountsModel", "mistaken", "()I"⟩, 15), (⟨"GossipCountsModel", "wouldPass", "(II)I"⟩, 15), (⟨"GossipCountsModel", "wouldEnd", "(I)I"⟩, 15), (⟨"GossipCountsModel", "wouldTry", "(I)I"⟩, 15), (⟨"GossipCountsModel", "ringOf", "(I)I"⟩, 15)]
theorem lw_r5 : ∀ q ∈ lw_privs_5, lw_okq q := List.forall_mem_cons.mpr ⟨lw_p64, List.forall_mem_cons.mpr ⟨lw_p65, List.forall_mem_cons.mpr ⟨lw_p66, List.forall_mem_cons.mpr ⟨lw_p67, List.forall_mem_cons.mpr ⟨lw_p68, List.forall_mem_cons.mpr ⟨lw_p69, List.forall_mem_cons.mpr ⟨lw_p70, List.forall_mem_cons.mpr ⟨lw_p71, List.forall_mem_cons.mpr ⟨lw_p72, List.forall_mem_cons.mpr ⟨lw_p73, List.forall_mem_cons.mpr ⟨lw_p74, List.forall_mem_cons.mpr ⟨lw_p75, List.forall_mem_cons.mpr ⟨lw_p76, List.forall_mem_cons.mpr ⟨lw_p77, List.forall_mem_cons.mpr ⟨lw_p78, List.forall_mem_cons.mpr ⟨lw_p79, fun _ h => absurd h List.not_mem_nil⟩⟩⟩⟩⟩⟩⟩⟩⟩⟩⟩⟩⟩⟩⟩⟩
theorem lw_p80 : lw_okq (⟨"GossipCountsModel", "findFrom", "(I)V"⟩, 15) := ⟨⟨by decide +kernel, by decide +kernel⟩, List.mem_of_getElem? (i := 832) (by decide +kernel), List.mem_of_getElem? (i := 1213) (by decide +kernel), List.mem_of_getElem? (i := 1214) (by decide +kernel)⟩
theorem lw_p81 : lw_okq (⟨"GossipCountsModel", "cut", "(I)I"⟩, 15) := ⟨⟨by decide +kernel, by decide +kernel⟩, List.mem_of_getElem? (i := 832) (by decide +kernel), List.mem_of_getElem? (i := 1221) (by decide +kernel), List.mem_of_getElem? (i := 1222) (by decide +kernel)⟩
theorem lw_p82 : lw_okq (⟨"GossipCountsModel", "wouldBear", "(I)I"⟩, 15) := ⟨⟨by decide +kernel, by decide +kernel⟩, List.mem_of_getElem? (i := 832) (by decide +kernel), List.mem_of_getElem? (i := 1229) (by decide +kernel), List.mem_of_getElem? (i := 1230) (by decide +kernel)⟩
def lw_privs_6 : List (MethodName × Nat) := [(⟨"GossipCountsModel", "findFrom", "(I)V"⟩, 15), (⟨"GossipCountsModel", "cut", "(I)I"⟩, 15), (⟨"GossipCountsModel", "wouldBear", "(I)I"⟩, 15)]
theorem lw_r6 : ∀ q ∈ lw_privs_6, lw_okq q := List.forall_mem_cons.mpr ⟨lw_p80, List.forall_mem_cons.mpr ⟨lw_p81, List.forall_mem_cons.mpr ⟨lw_p82, fun _ h => absurd h List.not_mem_nil⟩⟩⟩
def lw_privs : List (MethodName × Nat) := lw_privs_1 ++ (lw_privs_2 ++ (lw_privs_3 ++ (lw_privs_4 ++ (lw_privs_5 ++ (lw_privs_6)))))
def lw_tbl : List Cond := k2_sels lw_privs ++ tables_1
theorem lw_privs_ok : ∀ q ∈ lw_privs, lw_okq q := by
  show ∀ q ∈ lw_privs_1 ++ (lw_privs_2 ++ (lw_privs_3 ++ (lw_privs_4 ++ (lw_privs_5 ++ (lw_privs_6))))), lw_okq q
  exact List.forall_mem_append.mpr ⟨lw_r1, List.forall_mem_append.mpr ⟨lw_r2, List.forall_mem_append.mpr ⟨lw_r3, List.forall_mem_append.mpr ⟨lw_r4, List.forall_mem_append.mpr ⟨lw_r5, lw_r6⟩⟩⟩⟩⟩
/-- the streams that the claim lets the run draw from -/
abbrev lw_cs : List Choice := [Jvm.Choice.named "NaN.bits"]
theorem lw_bits : nanBits ∈ lw_cs := by first | decide | exact List.mem_cons_self | simp [lw_cs, nanBits]
def RX0 : String := "GossipCounts$Holdings"
def TX0 : u_T := fun k => match k with
  | _ => ("GossipCounts$Holdings", "held", "[I", true)
def tyX0 : Nat → FieldType := fun k => match k with
  | _ => .array .int
abbrev wsX00 : List Cond := u_ws RX0 TX0 1
theorem nmX0 : ∀ a, a < 1 → ∀ b, b < 1 → a ≠ b → (TX0 a).2.1 ≠ (TX0 b).2.1 := by decide +kernel
theorem tyX0_ok : ∀ k, k < 1 → parseFieldDescriptor (TX0 k).2.2.1 = some (tyX0 k) := by decide +kernel
abbrev cX0_init : ByteArray := prog_2_method_1_code
def yX0_init : MethodName := ⟨RX0, "<init>", "()V"⟩
abbrev cX0_copyFrom : ByteArray := prog_2_method_2_code
def yX0_copyFrom : MethodName := ⟨RX0, "copyFrom", "(LGossipCounts$Holdings;)V"⟩
abbrev cX0_at : ByteArray := prog_2_method_3_code
def yX0_at : MethodName := ⟨RX0, "at", "(I)I"⟩
abbrev cX0_hold : ByteArray := prog_2_method_4_code
def yX0_hold : MethodName := ⟨RX0, "hold", "(II)V"⟩
abbrev cX0_taken : ByteArray := prog_2_method_5_code
def yX0_taken : MethodName := ⟨RX0, "taken", "()I"⟩
abbrev cX0_truthOf : ByteArray := prog_2_method_6_code
def yX0_truthOf : MethodName := ⟨RX0, "truthOf", "(I)I"⟩
abbrev cX0_slotsThatHold : ByteArray := prog_2_method_7_code
def yX0_slotsThatHold : MethodName := ⟨RX0, "slotsThatHold", "(II)I"⟩
abbrev cX0_letGo : ByteArray := prog_2_method_8_code
def yX0_letGo : MethodName := ⟨RX0, "letGo", "(II)Z"⟩
abbrev cX0_reached : ByteArray := prog_2_method_9_code
def yX0_reached : MethodName := ⟨RX0, "reached", "()I"⟩
abbrev cX0_reachOf : ByteArray := prog_2_method_10_code
def yX0_reachOf : MethodName := ⟨RX0, "reachOf", "(I)I"⟩
abbrev cX0_ringOf : ByteArray := prog_2_method_11_code
def yX0_ringOf : MethodName := ⟨RX0, "ringOf", "(I)I"⟩
abbrev cX0_cutWithMostLost : ByteArray := prog_2_method_12_code
def yX0_cutWithMostLost : MethodName := ⟨RX0, "cutWithMostLost", "()I"⟩
abbrev cX0_lostWithout : ByteArray := prog_2_method_13_code
def yX0_lostWithout : MethodName := ⟨RX0, "lostWithout", "(I)I"⟩
abbrev cX0_reachedFrom : ByteArray := prog_2_method_14_code
def yX0_reachedFrom : MethodName := ⟨RX0, "reachedFrom", "(II)I"⟩
abbrev cX0_reachedWithout : ByteArray := prog_2_method_15_code
def yX0_reachedWithout : MethodName := ⟨RX0, "reachedWithout", "(I)I"⟩
abbrev cX0_heldAmong : ByteArray := prog_2_method_16_code
def yX0_heldAmong : MethodName := ⟨RX0, "heldAmong", "(III)I"⟩
def RX1 : String := "GossipCounts$Reports"
def TX1 : u_T := fun k => match k with
  | 0 => ("GossipCounts$Reports", "heard", "I", false)
  | 1 => ("GossipCounts$Reports", "made", "I", false)
  | 2 => ("GossipCounts$Reports", "rows", "[I", true)
  | 3 => ("GossipCounts$Reports", "numbers", "[I", true)
  | _ => ("GossipCounts$Reports", "sums", "[I", true)
def tyX1 : Nat → FieldType := fun k => match k with
  | 0 => .int
  | 1 => .int
  | 2 => .array .int
  | 3 => .array .int
  | _ => .array .int
abbrev wsX10 : List Cond := u_ws RX1 TX1 5
theorem nmX1 : ∀ a, a < 5 → ∀ b, b < 5 → a ≠ b → (TX1 a).2.1 ≠ (TX1 b).2.1 := by decide +kernel
theorem tyX1_ok : ∀ k, k < 5 → parseFieldDescriptor (TX1 k).2.2.1 = some (tyX1 k) := by decide +kernel
abbrev cX1_init : ByteArray := prog_3_method_1_code
def yX1_init : MethodName := ⟨RX1, "<init>", "()V"⟩
abbrev cX1_copyFrom : ByteArray := prog_3_method_2_code
def yX1_copyFrom : MethodName := ⟨RX1, "copyFrom", "(LGossipCounts$Reports;)V"⟩
abbrev cX1_underWay : ByteArray := prog_3_method_3_code
def yX1_underWay : MethodName := ⟨RX1, "underWay", "()I"⟩
abbrev cX1_part : ByteArray := prog_3_method_4_code
def yX1_part : MethodName := ⟨RX1, "part", "(II)I"⟩
abbrev cX1_anyDue : ByteArray := prog_3_method_5_code
def yX1_anyDue : MethodName := ⟨RX1, "anyDue", "(I)Z"⟩
abbrev cX1_anyFor : ByteArray := prog_3_method_6_code
def yX1_anyFor : MethodName := ⟨RX1, "anyFor", "(I)Z"⟩
abbrev cX1_numberFor : ByteArray := prog_3_method_7_code
def yX1_numberFor : MethodName := ⟨RX1, "numberFor", "(I)I"⟩
abbrev cX1_sumFor : ByteArray := prog_3_method_8_code
def yX1_sumFor : MethodName := ⟨RX1, "sumFor", "(I)I"⟩
abbrev cX1_make : ByteArray := prog_3_method_9_code
def yX1_make : MethodName := ⟨RX1, "make", "(IIII)I"⟩
abbrev cX1_dropFirst : ByteArray := prog_3_method_10_code
def yX1_dropFirst : MethodName := ⟨RX1, "dropFirst", "()V"⟩
def RX2 : String := "GossipCounts$Text"
def TX2 : u_T := fun k => match k with
  | 0 => ("GossipCounts$Text", "length", "I", false)
  | 1 => ("GossipCounts$Text", "codes", "[I", true)
  | 2 => ("GossipCounts$Text", "letter", "I", false)
  | 3 => ("GossipCounts$Text", "numbers", "[I", true)
  | _ => ("GossipCounts$Text", "at", "I", false)
def tyX2 : Nat → FieldType := fun k => match k with
  | 0 => .int
  | 1 => .array .int
  | 2 => .int
  | 3 => .array .int
  | _ => .int
abbrev wsX20 : List Cond := u_ws RX2 TX2 5
theorem nmX2 : ∀ a, a < 5 → ∀ b, b < 5 → a ≠ b → (TX2 a).2.1 ≠ (TX2 b).2.1 := by decide +kernel
theorem tyX2_ok : ∀ k, k < 5 → parseFieldDescriptor (TX2 k).2.2.1 = some (tyX2 k) := by decide +kernel
abbrev cX2_init : ByteArray := prog_4_method_1_code
def yX2_init : MethodName := ⟨RX2, "<init>", "()V"⟩
abbrev cX2_errorAt : ByteArray := prog_4_method_2_code
def yX2_errorAt : MethodName := ⟨RX2, "errorAt", "()I"⟩
abbrev cX2_isProgram : ByteArray := prog_4_method_3_code
def yX2_isProgram : MethodName := ⟨RX2, "isProgram", "()Z"⟩
abbrev cX2_next : ByteArray := prog_4_method_4_code
def yX2_next : MethodName := ⟨RX2, "next", "(II)I"⟩
abbrev cX2_nextInStep : ByteArray := prog_4_method_5_code
def yX2_nextInStep : MethodName := ⟨RX2, "nextInStep", "(I)I"⟩
abbrev cX2_nextInThing : ByteArray := prog_4_method_6_code
def yX2_nextInThing : MethodName := ⟨RX2, "nextInThing", "(IIII)I"⟩
abbrev cX2_nextIf : ByteArray := prog_4_method_7_code
def yX2_nextIf : MethodName := ⟨RX2, "nextIf", "(III)I"⟩
abbrev cX2_isDigit : ByteArray := prog_4_method_8_code
def yX2_isDigit : MethodName := ⟨RX2, "isDigit", "(III)Z"⟩
abbrev cX2_toBegin : ByteArray := prog_4_method_9_code
def yX2_toBegin : MethodName := ⟨RX2, "toBegin", "()V"⟩
abbrev cX2_readStep : ByteArray := prog_4_method_10_code
def yX2_readStep : MethodName := ⟨RX2, "readStep", "()Z"⟩
abbrev cX2_readNumber : ByteArray := prog_4_method_11_code
def yX2_readNumber : MethodName := ⟨RX2, "readNumber", "()I"⟩
abbrev cX2_hasMore : ByteArray := prog_4_method_12_code
def yX2_hasMore : MethodName := ⟨RX2, "hasMore", "()Z"⟩
def RX3 : String := "GossipCounts$World"
def TX3 : u_T := fun k => match k with
  | 0 => ("GossipCounts$World", "time", "I", false)
  | 1 => ("GossipCounts$World", "things", "I", false)
  | 2 => ("GossipCounts$World", "living", "I", false)
  | 3 => ("GossipCounts$World", "suspects", "I", false)
  | 4 => ("GossipCounts$World", "wronged", "I", false)
  | 5 => ("GossipCounts$World", "ends", "I", false)
  | 6 => ("GossipCounts$World", "slanderFound", "I", false)
  | 7 => ("GossipCounts$World", "settings", "[I", true)
  | 8 => ("GossipCounts$World", "ranks", "[I", true)
  | 9 => ("GossipCounts$World", "counts", "[I", true)
  | 10 => ("GossipCounts$World", "came", "[I", true)
  | 11 => ("GossipCounts$World", "endNumbers", "[I", true)
  | 12 => ("GossipCounts$World", "endTimes", "[I", true)
  | 13 => ("GossipCounts$World", "endKinds", "[I", true)
  | 14 => ("GossipCounts$World", "endOrder", "[I", true)
  | 15 => ("GossipCounts$World", "holdings", "LGossipCounts$Holdings;", true)
  | _ => ("GossipCounts$World", "reports", "LGossipCounts$Reports;", true)
def tyX3 : Nat → FieldType := fun k => match k with
  | 0 => .int
  | 1 => .int
  | 2 => .int
  | 3 => .int
  | 4 => .int
  | 5 => .int
  | 6 => .int
  | 7 => .array .int
  | 8 => .array .int
  | 9 => .array .int
  | 10 => .array .int
  | 11 => .array .int
  | 12 => .array .int
  | 13 => .array .int
  | 14 => .array .int
  | 15 => .object "GossipCounts$Holdings"
  | _ => .object "GossipCounts$Reports"
abbrev wsX30 : List Cond := u_ws RX3 TX3 17
theorem nmX3 : ∀ a, a < 17 → ∀ b, b < 17 → a ≠ b → (TX3 a).2.1 ≠ (TX3 b).2.1 := by decide +kernel
theorem tyX3_ok : ∀ k, k < 17 → parseFieldDescriptor (TX3 k).2.2.1 = some (tyX3 k) := by decide +kernel
abbrev cX3_init : ByteArray := prog_5_method_1_code
def yX3_init : MethodName := ⟨RX3, "<init>", "()V"⟩
abbrev cX3_copyFrom : ByteArray := prog_5_method_2_code
def yX3_copyFrom : MethodName := ⟨RX3, "copyFrom", "(LGossipCounts$World;)V"⟩
abbrev cX3_lives : ByteArray := prog_5_method_3_code
def yX3_lives : MethodName := ⟨RX3, "lives", "(I)Z"⟩
abbrev cX3_mayBeHeld : ByteArray := prog_5_method_4_code
def yX3_mayBeHeld : MethodName := ⟨RX3, "mayBeHeld", "(I)Z"⟩
abbrev cX3_bring : ByteArray := prog_5_method_5_code
def yX3_bring : MethodName := ⟨RX3, "bring", "(I)I"⟩
abbrev cX3_change : ByteArray := prog_5_method_6_code
def yX3_change : MethodName := ⟨RX3, "change", "(II)I"⟩
abbrev cX3_lie : ByteArray := prog_5_method_7_code
def yX3_lie : MethodName := ⟨RX3, "lie", "(II)I"⟩
abbrev cX3_setCountsRight : ByteArray := prog_5_method_8_code
def yX3_setCountsRight : MethodName := ⟨RX3, "setCountsRight", "()I"⟩
abbrev cX3_passTicks : ByteArray := prog_5_method_9_code
def yX3_passTicks : MethodName := ⟨RX3, "passTicks", "(I)I"⟩
abbrev cX3_holdTrial : ByteArray := prog_5_method_10_code
def yX3_holdTrial : MethodName := ⟨RX3, "holdTrial", "()I"⟩
abbrev cX3_judge : ByteArray := prog_5_method_11_code
def yX3_judge : MethodName := ⟨RX3, "judge", "(I)V"⟩
abbrev cX3_withRest : ByteArray := prog_5_method_12_code
def yX3_withRest : MethodName := ⟨RX3, "withRest", "(I)I"⟩
abbrev cX3_highestOf : ByteArray := prog_5_method_13_code
def yX3_highestOf : MethodName := ⟨RX3, "highestOf", "(I)I"⟩
abbrev cX3_hearDue : ByteArray := prog_5_method_14_code
def yX3_hearDue : MethodName := ⟨RX3, "hearDue", "()V"⟩
abbrev cX3_mustEnd : ByteArray := prog_5_method_15_code
def yX3_mustEnd : MethodName := ⟨RX3, "mustEnd", "(I)Z"⟩
abbrev cX3_endThing : ByteArray := prog_5_method_16_code
def yX3_endThing : MethodName := ⟨RX3, "endThing", "(III)V"⟩
abbrev cX3_dueTime : ByteArray := prog_5_method_17_code
def yX3_dueTime : MethodName := ⟨RX3, "dueTime", "(I)I"⟩
abbrev cX3_isWrong : ByteArray := prog_5_method_18_code
def yX3_isWrong : MethodName := ⟨RX3, "isWrong", "(I)Z"⟩
abbrev cX3_property : ByteArray := prog_5_method_19_code
def yX3_property : MethodName := ⟨RX3, "property", "(II)I"⟩
abbrev cX3_total : ByteArray := prog_5_method_20_code
def yX3_total : MethodName := ⟨RX3, "total", "(I)I"⟩
abbrev cX3_endsInTrials : ByteArray := prog_5_method_21_code
def yX3_endsInTrials : MethodName := ⟨RX3, "endsInTrials", "()I"⟩
abbrev cX3_wrongCounts : ByteArray := prog_5_method_22_code
def yX3_wrongCounts : MethodName := ⟨RX3, "wrongCounts", "()I"⟩
def RX4 : String := "GossipCounts"
def TX4 : u_T := fun k => match k with
  | 0 => ("GossipCounts", "now", "LGossipCounts$World;", true)
  | 1 => ("GossipCounts", "ahead", "LGossipCounts$World;", true)
  | 2 => ("GossipCounts", "slandered", "LGossipCounts$World;", true)
  | 3 => ("GossipCounts", "saved", "[LGossipCounts$World;", true)
  | 4 => ("GossipCounts", "savedStates", "I", false)
  | _ => ("GossipCounts", "text", "LGossipCounts$Text;", true)
def tyX4 : Nat → FieldType := fun k => match k with
  | 0 => .object "GossipCounts$World"
  | 1 => .object "GossipCounts$World"
  | 2 => .object "GossipCounts$World"
  | 3 => .array (.object "GossipCounts$World")
  | 4 => .int
  | _ => .object "GossipCounts$Text"
abbrev wsX40 : List Cond := u_ws RX4 TX4 6
theorem nmX4 : ∀ a, a < 6 → ∀ b, b < 6 → a ≠ b → (TX4 a).2.1 ≠ (TX4 b).2.1 := by decide +kernel
theorem tyX4_ok : ∀ k, k < 6 → parseFieldDescriptor (TX4 k).2.2.1 = some (tyX4 k) := by decide +kernel
abbrev cX4_init : ByteArray := prog_1_method_1_code
def yX4_init : MethodName := ⟨RX4, "<init>", "()V"⟩
abbrev cX4_add : ByteArray := prog_1_method_2_code
def yX4_add : MethodName := ⟨RX4, "add", "(I)I"⟩
abbrev cX4_take : ByteArray := prog_1_method_3_code
def yX4_take : MethodName := ⟨RX4, "take", "(II)I"⟩
abbrev cX4_put : ByteArray := prog_1_method_4_code
def yX4_put : MethodName := ⟨RX4, "put", "(III)I"⟩
abbrev cX4_slander : ByteArray := prog_1_method_5_code
def yX4_slander : MethodName := ⟨RX4, "slander", "(II)I"⟩
abbrev cX4_suspect : ByteArray := prog_1_method_6_code
def yX4_suspect : MethodName := ⟨RX4, "suspect", "(I)I"⟩
abbrev cX4_set : ByteArray := prog_1_method_7_code
def yX4_set : MethodName := ⟨RX4, "set", "(II)I"⟩
abbrev cX4_pass : ByteArray := prog_1_method_8_code
def yX4_pass : MethodName := ⟨RX4, "pass", "(I)I"⟩
abbrev cX4_trial : ByteArray := prog_1_method_9_code
def yX4_trial : MethodName := ⟨RX4, "trial", "()I"⟩
abbrev cX4_audit : ByteArray := prog_1_method_10_code
def yX4_audit : MethodName := ⟨RX4, "audit", "()I"⟩
abbrev cX4_append : ByteArray := prog_1_method_11_code
def yX4_append : MethodName := ⟨RX4, "append", "(I)I"⟩
abbrev cX4_clearBuffer : ByteArray := prog_1_method_12_code
def yX4_clearBuffer : MethodName := ⟨RX4, "clearBuffer", "()I"⟩
abbrev cX4_firstError : ByteArray := prog_1_method_13_code
def yX4_firstError : MethodName := ⟨RX4, "firstError", "()I"⟩
abbrev cX4_run : ByteArray := prog_1_method_14_code
def yX4_run : MethodName := ⟨RX4, "run", "()I"⟩
abbrev cX4_undo : ByteArray := prog_1_method_15_code
def yX4_undo : MethodName := ⟨RX4, "undo", "()I"⟩
abbrev cX4_thing : ByteArray := prog_1_method_16_code
def yX4_thing : MethodName := ⟨RX4, "thing", "(II)I"⟩
abbrev cX4_slot : ByteArray := prog_1_method_17_code
def yX4_slot : MethodName := ⟨RX4, "slot", "(II)I"⟩
abbrev cX4_hand : ByteArray := prog_1_method_18_code
def yX4_hand : MethodName := ⟨RX4, "hand", "(I)I"⟩
abbrev cX4_report : ByteArray := prog_1_method_19_code
def yX4_report : MethodName := ⟨RX4, "report", "(II)I"⟩
abbrev cX4_ended : ByteArray := prog_1_method_20_code
def yX4_ended : MethodName := ⟨RX4, "ended", "(I)I"⟩
abbrev cX4_count : ByteArray := prog_1_method_21_code
def yX4_count : MethodName := ⟨RX4, "count", "(I)I"⟩
abbrev cX4_setting : ByteArray := prog_1_method_22_code
def yX4_setting : MethodName := ⟨RX4, "setting", "(I)I"⟩
abbrev cX4_ifPassed : ByteArray := prog_1_method_23_code
def yX4_ifPassed : MethodName := ⟨RX4, "ifPassed", "(II)I"⟩
abbrev cX4_endsIn : ByteArray := prog_1_method_24_code
def yX4_endsIn : MethodName := ⟨RX4, "endsIn", "(I)I"⟩
abbrev cX4_ifTried : ByteArray := prog_1_method_25_code
def yX4_ifTried : MethodName := ⟨RX4, "ifTried", "(I)I"⟩
abbrev cX4_ring : ByteArray := prog_1_method_26_code
def yX4_ring : MethodName := ⟨RX4, "ring", "(I)I"⟩
abbrev cX4_bestCut : ByteArray := prog_1_method_27_code
def yX4_bestCut : MethodName := ⟨RX4, "bestCut", "(I)I"⟩
abbrev cX4_bears : ByteArray := prog_1_method_28_code
def yX4_bears : MethodName := ⟨RX4, "bears", "(I)I"⟩
abbrev cX4_reachedShare : ByteArray := prog_1_method_29_code
def yX4_reachedShare : MethodName := ⟨RX4, "reachedShare", "()D"⟩
abbrev cX4_digest : ByteArray := prog_1_method_30_code
def yX4_digest : MethodName := ⟨RX4, "digest", "()J"⟩
abbrev cX4_mixed : ByteArray := prog_1_method_31_code
def yX4_mixed : MethodName := ⟨RX4, "mixed", "(JJ)J"⟩
abbrev cX4_withThings : ByteArray := prog_1_method_32_code
def yX4_withThings : MethodName := ⟨RX4, "withThings", "(J)J"⟩
abbrev cX4_withReportsAndEnds : ByteArray := prog_1_method_33_code
def yX4_withReportsAndEnds : MethodName := ⟨RX4, "withReportsAndEnds", "(J)J"⟩
abbrev cX4_withPassed : ByteArray := prog_1_method_34_code
def yX4_withPassed : MethodName := ⟨RX4, "withPassed", "(J)J"⟩
abbrev cX4_withTried : ByteArray := prog_1_method_35_code
def yX4_withTried : MethodName := ⟨RX4, "withTried", "(J)J"⟩
abbrev cX4_withBestCut : ByteArray := prog_1_method_36_code
def yX4_withBestCut : MethodName := ⟨RX4, "withBestCut", "(J)J"⟩
abbrev cX4_bitsOf : ByteArray := prog_1_method_37_code
def yX4_bitsOf : MethodName := ⟨RX4, "bitsOf", "(D)J"⟩
abbrev cX4_foresee : ByteArray := prog_1_method_38_code
def yX4_foresee : MethodName := ⟨RX4, "foresee", "(I)V"⟩
abbrev cX4_passedPart : ByteArray := prog_1_method_39_code
def yX4_passedPart : MethodName := ⟨RX4, "passedPart", "(I)I"⟩
abbrev cX4_foreseenEnd : ByteArray := prog_1_method_40_code
def yX4_foreseenEnd : MethodName := ⟨RX4, "foreseenEnd", "(I)I"⟩
abbrev cX4_foreseeTrial : ByteArray := prog_1_method_41_code
def yX4_foreseeTrial : MethodName := ⟨RX4, "foreseeTrial", "()V"⟩
abbrev cX4_triedPart : ByteArray := prog_1_method_42_code
def yX4_triedPart : MethodName := ⟨RX4, "triedPart", "(I)I"⟩
abbrev cX4_slandersToEnd : ByteArray := prog_1_method_43_code
def yX4_slandersToEnd : MethodName := ⟨RX4, "slandersToEnd", "(I)I"⟩
abbrev cX4_doStep : ByteArray := prog_1_method_44_code
def yX4_doStep : MethodName := ⟨RX4, "doStep", "()Z"⟩
abbrev cX4_save : ByteArray := prog_1_method_45_code
def yX4_save : MethodName := ⟨RX4, "save", "()V"⟩
abbrev cX4_isThing : ByteArray := prog_1_method_46_code
def yX4_isThing : MethodName := ⟨RX4, "isThing", "(I)Z"⟩
abbrev cX4_isThingOrNone : ByteArray := prog_1_method_47_code
def yX4_isThingOrNone : MethodName := ⟨RX4, "isThingOrNone", "(I)Z"⟩
abbrev cX4_isHand : ByteArray := prog_1_method_48_code
def yX4_isHand : MethodName := ⟨RX4, "isHand", "(I)Z"⟩
abbrev cX4_isSlot : ByteArray := prog_1_method_49_code
def yX4_isSlot : MethodName := ⟨RX4, "isSlot", "(I)Z"⟩
abbrev cX4_isSetting : ByteArray := prog_1_method_50_code
def yX4_isSetting : MethodName := ⟨RX4, "isSetting", "(I)Z"⟩
abbrev cX4_mostOf : ByteArray := prog_1_method_51_code
def yX4_mostOf : MethodName := ⟨RX4, "mostOf", "(I)I"⟩
abbrev cX4_placeOf : ByteArray := prog_1_method_52_code
def yX4_placeOf : MethodName := ⟨RX4, "placeOf", "(II)I"⟩
abbrev cX4_isIn : ByteArray := prog_1_method_53_code
def yX4_isIn : MethodName := ⟨RX4, "isIn", "(II)Z"⟩
def RX5 : String := "GossipCountsModel"
def TX5 : u_T := fun k => match k with
  | 0 => ("GossipCountsModel", "thrown", "I", false)
  | 1 => ("GossipCountsModel", "state", "[I", true)
  | 2 => ("GossipCountsModel", "kept", "[I", true)
  | 3 => ("GossipCountsModel", "saved", "[I", true)
  | 4 => ("GossipCountsModel", "savedMany", "I", false)
  | 5 => ("GossipCountsModel", "text", "[I", true)
  | 6 => ("GossipCountsModel", "textLength", "I", false)
  | 7 => ("GossipCountsModel", "isReached", "[I", true)
  | 8 => ("GossipCountsModel", "isInSet", "[I", true)
  | 9 => ("GossipCountsModel", "isInnocent", "[I", true)
  | 10 => ("GossipCountsModel", "isSuspect", "[I", true)
  | 11 => ("GossipCountsModel", "kind", "I", false)
  | 12 => ("GossipCountsModel", "first", "I", false)
  | 13 => ("GossipCountsModel", "second", "I", false)
  | _ => ("GossipCountsModel", "held", "I", false)
def tyX5 : Nat → FieldType := fun k => match k with
  | 0 => .int
  | 1 => .array .int
  | 2 => .array .int
  | 3 => .array .int
  | 4 => .int
  | 5 => .array .int
  | 6 => .int
  | 7 => .array .int
  | 8 => .array .int
  | 9 => .array .int
  | 10 => .array .int
  | 11 => .int
  | 12 => .int
  | 13 => .int
  | _ => .int
abbrev wsX50 : List Cond := u_ws RX5 TX5 15
theorem nmX5 : ∀ a, a < 15 → ∀ b, b < 15 → a ≠ b → (TX5 a).2.1 ≠ (TX5 b).2.1 := by decide +kernel
theorem tyX5_ok : ∀ k, k < 15 → parseFieldDescriptor (TX5 k).2.2.1 = some (tyX5 k) := by decide +kernel
abbrev cX5_init : ByteArray := prog_7_method_1_code
def yX5_init : MethodName := ⟨RX5, "<init>", "()V"⟩
abbrev cX5_thrown : ByteArray := prog_7_method_2_code
def yX5_thrown : MethodName := ⟨RX5, "thrown", "()I"⟩
abbrev cX5_copy : ByteArray := prog_7_method_3_code
def yX5_copy : MethodName := ⟨RX5, "copy", "([II[II)V"⟩
abbrev cX5_within : ByteArray := prog_7_method_4_code
def yX5_within : MethodName := ⟨RX5, "within", "(III)Z"⟩
abbrev cX5_save : ByteArray := prog_7_method_5_code
def yX5_save : MethodName := ⟨RX5, "save", "()V"⟩
abbrev cX5_isThing : ByteArray := prog_7_method_6_code
def yX5_isThing : MethodName := ⟨RX5, "isThing", "(I)Z"⟩
abbrev cX5_part : ByteArray := prog_7_method_7_code
def yX5_part : MethodName := ⟨RX5, "part", "(II)I"⟩
abbrev cX5_setPart : ByteArray := prog_7_method_8_code
def yX5_setPart : MethodName := ⟨RX5, "setPart", "(III)V"⟩
abbrev cX5_lives : ByteArray := prog_7_method_9_code
def yX5_lives : MethodName := ⟨RX5, "lives", "(I)Z"⟩
abbrev cX5_slotOf : ByteArray := prog_7_method_10_code
def yX5_slotOf : MethodName := ⟨RX5, "slotOf", "(II)I"⟩
abbrev cX5_reportPart : ByteArray := prog_7_method_11_code
def yX5_reportPart : MethodName := ⟨RX5, "reportPart", "(II)I"⟩
abbrev cX5_truth : ByteArray := prog_7_method_12_code
def yX5_truth : MethodName := ⟨RX5, "truth", "(I)I"⟩
abbrev cX5_underWay : ByteArray := prog_7_method_13_code
def yX5_underWay : MethodName := ⟨RX5, "underWay", "(I)I"⟩
abbrev cX5_sumUnderWay : ByteArray := prog_7_method_14_code
def yX5_sumUnderWay : MethodName := ⟨RX5, "sumUnderWay", "(I)I"⟩
abbrev cX5_suspects : ByteArray := prog_7_method_15_code
def yX5_suspects : MethodName := ⟨RX5, "suspects", "()I"⟩
abbrev cX5_spread : ByteArray := prog_7_method_16_code
def yX5_spread : MethodName := ⟨RX5, "spread", "([I)V"⟩
abbrev cX5_clear : ByteArray := prog_7_method_17_code
def yX5_clear : MethodName := ⟨RX5, "clear", "([I)V"⟩
abbrev cX5_findReached : ByteArray := prog_7_method_18_code
def yX5_findReached : MethodName := ⟨RX5, "findReached", "()I"⟩
abbrev cX5_addReport : ByteArray := prog_7_method_19_code
def yX5_addReport : MethodName := ⟨RX5, "addReport", "(III)I"⟩
abbrev cX5_atPlace : ByteArray := prog_7_method_20_code
def yX5_atPlace : MethodName := ⟨RX5, "atPlace", "(I)I"⟩
abbrev cX5_firstDue : ByteArray := prog_7_method_21_code
def yX5_firstDue : MethodName := ⟨RX5, "firstDue", "()I"⟩
abbrev cX5_dropReport : ByteArray := prog_7_method_22_code
def yX5_dropReport : MethodName := ⟨RX5, "dropReport", "(I)V"⟩
abbrev cX5_ends : ByteArray := prog_7_method_23_code
def yX5_ends : MethodName := ⟨RX5, "ends", "(II)V"⟩
abbrev cX5_endsToo : ByteArray := prog_7_method_24_code
def yX5_endsToo : MethodName := ⟨RX5, "endsToo", "(II)Z"⟩
abbrev cX5_hears : ByteArray := prog_7_method_25_code
def yX5_hears : MethodName := ⟨RX5, "hears", "(I)V"⟩
abbrev cX5_hearDue : ByteArray := prog_7_method_26_code
def yX5_hearDue : MethodName := ⟨RX5, "hearDue", "()V"⟩
abbrev cX5_whyNotAdded : ByteArray := prog_7_method_27_code
def yX5_whyNotAdded : MethodName := ⟨RX5, "whyNotAdded", "(I)I"⟩
abbrev cX5_added : ByteArray := prog_7_method_28_code
def yX5_added : MethodName := ⟨RX5, "added", "(I)I"⟩
abbrev cX5_add : ByteArray := prog_7_method_29_code
def yX5_add : MethodName := ⟨RX5, "add", "(I)I"⟩
abbrev cX5_isHeld : ByteArray := prog_7_method_30_code
def yX5_isHeld : MethodName := ⟨RX5, "isHeld", "(I)Z"⟩
abbrev cX5_hasEnded : ByteArray := prog_7_method_31_code
def yX5_hasEnded : MethodName := ⟨RX5, "hasEnded", "(I)Z"⟩
abbrev cX5_changed : ByteArray := prog_7_method_32_code
def yX5_changed : MethodName := ⟨RX5, "changed", "(II)I"⟩
abbrev cX5_whyNotTaken : ByteArray := prog_7_method_33_code
def yX5_whyNotTaken : MethodName := ⟨RX5, "whyNotTaken", "(II)I"⟩
abbrev cX5_take : ByteArray := prog_7_method_34_code
def yX5_take : MethodName := ⟨RX5, "take", "(II)I"⟩
abbrev cX5_whyNotPut : ByteArray := prog_7_method_35_code
def yX5_whyNotPut : MethodName := ⟨RX5, "whyNotPut", "(III)I"⟩
abbrev cX5_put : ByteArray := prog_7_method_36_code
def yX5_put : MethodName := ⟨RX5, "put", "(III)I"⟩
abbrev cX5_slandered : ByteArray := prog_7_method_37_code
def yX5_slandered : MethodName := ⟨RX5, "slandered", "(II)I"⟩
abbrev cX5_slander : ByteArray := prog_7_method_38_code
def yX5_slander : MethodName := ⟨RX5, "slander", "(II)I"⟩
abbrev cX5_suspect : ByteArray := prog_7_method_39_code
def yX5_suspect : MethodName := ⟨RX5, "suspect", "(I)I"⟩
abbrev cX5_isSetting : ByteArray := prog_7_method_40_code
def yX5_isSetting : MethodName := ⟨RX5, "isSetting", "(I)Z"⟩
abbrev cX5_set : ByteArray := prog_7_method_41_code
def yX5_set : MethodName := ⟨RX5, "set", "(II)I"⟩
abbrev cX5_findSet : ByteArray := prog_7_method_42_code
def yX5_findSet : MethodName := ⟨RX5, "findSet", "(I)Z"⟩
abbrev cX5_restOf : ByteArray := prog_7_method_43_code
def yX5_restOf : MethodName := ⟨RX5, "restOf", "(I)I"⟩
abbrev cX5_findInnocent : ByteArray := prog_7_method_44_code
def yX5_findInnocent : MethodName := ⟨RX5, "findInnocent", "()V"⟩
abbrev cX5_nextToEnd : ByteArray := prog_7_method_45_code
def yX5_nextToEnd : MethodName := ⟨RX5, "nextToEnd", "()I"⟩
abbrev cX5_tries : ByteArray := prog_7_method_46_code
def yX5_tries : MethodName := ⟨RX5, "tries", "(I)V"⟩
abbrev cX5_holdTrial : ByteArray := prog_7_method_47_code
def yX5_holdTrial : MethodName := ⟨RX5, "holdTrial", "()V"⟩
abbrev cX5_tick : ByteArray := prog_7_method_48_code
def yX5_tick : MethodName := ⟨RX5, "tick", "()V"⟩
abbrev cX5_passed : ByteArray := prog_7_method_49_code
def yX5_passed : MethodName := ⟨RX5, "passed", "(I)I"⟩
abbrev cX5_whyNotPassed : ByteArray := prog_7_method_50_code
def yX5_whyNotPassed : MethodName := ⟨RX5, "whyNotPassed", "(I)I"⟩
abbrev cX5_pass : ByteArray := prog_7_method_51_code
def yX5_pass : MethodName := ⟨RX5, "pass", "(I)I"⟩
abbrev cX5_trial : ByteArray := prog_7_method_52_code
def yX5_trial : MethodName := ⟨RX5, "trial", "()I"⟩
abbrev cX5_audit : ByteArray := prog_7_method_53_code
def yX5_audit : MethodName := ⟨RX5, "audit", "()I"⟩
abbrev cX5_append : ByteArray := prog_7_method_54_code
def yX5_append : MethodName := ⟨RX5, "append", "(I)I"⟩
abbrev cX5_clearBuffer : ByteArray := prog_7_method_55_code
def yX5_clearBuffer : MethodName := ⟨RX5, "clearBuffer", "()I"⟩
abbrev cX5_stepAt : ByteArray := prog_7_method_56_code
def yX5_stepAt : MethodName := ⟨RX5, "stepAt", "(I)I"⟩
abbrev cX5_afterDigit : ByteArray := prog_7_method_57_code
def yX5_afterDigit : MethodName := ⟨RX5, "afterDigit", "(IIII)I"⟩
abbrev cX5_next : ByteArray := prog_7_method_58_code
def yX5_next : MethodName := ⟨RX5, "next", "(II)I"⟩
abbrev cX5_firstError : ByteArray := prog_7_method_59_code
def yX5_firstError : MethodName := ⟨RX5, "firstError", "()I"⟩
abbrev cX5_isStepOver : ByteArray := prog_7_method_60_code
def yX5_isStepOver : MethodName := ⟨RX5, "isStepOver", "(I)Z"⟩
abbrev cX5_isProgram : ByteArray := prog_7_method_61_code
def yX5_isProgram : MethodName := ⟨RX5, "isProgram", "()Z"⟩
abbrev cX5_note : ByteArray := prog_7_method_62_code
def yX5_note : MethodName := ⟨RX5, "note", "(II)V"⟩
abbrev cX5_does : ByteArray := prog_7_method_63_code
def yX5_does : MethodName := ⟨RX5, "does", "()Z"⟩
abbrev cX5_run : ByteArray := prog_7_method_64_code
def yX5_run : MethodName := ⟨RX5, "run", "()I"⟩
abbrev cX5_undo : ByteArray := prog_7_method_65_code
def yX5_undo : MethodName := ⟨RX5, "undo", "()I"⟩
abbrev cX5_thingPart : ByteArray := prog_7_method_66_code
def yX5_thingPart : MethodName := ⟨RX5, "thingPart", "(II)I"⟩
abbrev cX5_thing : ByteArray := prog_7_method_67_code
def yX5_thing : MethodName := ⟨RX5, "thing", "(II)I"⟩
abbrev cX5_slot : ByteArray := prog_7_method_68_code
def yX5_slot : MethodName := ⟨RX5, "slot", "(II)I"⟩
abbrev cX5_hand : ByteArray := prog_7_method_69_code
def yX5_hand : MethodName := ⟨RX5, "hand", "(I)I"⟩
abbrev cX5_report : ByteArray := prog_7_method_70_code
def yX5_report : MethodName := ⟨RX5, "report", "(II)I"⟩
abbrev cX5_ended : ByteArray := prog_7_method_71_code
def yX5_ended : MethodName := ⟨RX5, "ended", "(I)I"⟩
abbrev cX5_living : ByteArray := prog_7_method_72_code
def yX5_living : MethodName := ⟨RX5, "living", "()I"⟩
abbrev cX5_holding : ByteArray := prog_7_method_73_code
def yX5_holding : MethodName := ⟨RX5, "holding", "()I"⟩
abbrev cX5_mistaken : ByteArray := prog_7_method_74_code
def yX5_mistaken : MethodName := ⟨RX5, "mistaken", "()I"⟩
abbrev cX5_countOf : ByteArray := prog_7_method_75_code
def yX5_countOf : MethodName := ⟨RX5, "countOf", "(I)I"⟩
abbrev cX5_count : ByteArray := prog_7_method_76_code
def yX5_count : MethodName := ⟨RX5, "count", "(I)I"⟩
abbrev cX5_setting : ByteArray := prog_7_method_77_code
def yX5_setting : MethodName := ⟨RX5, "setting", "(I)I"⟩
abbrev cX5_wouldPass : ByteArray := prog_7_method_78_code
def yX5_wouldPass : MethodName := ⟨RX5, "wouldPass", "(II)I"⟩
abbrev cX5_ifPassed : ByteArray := prog_7_method_79_code
def yX5_ifPassed : MethodName := ⟨RX5, "ifPassed", "(II)I"⟩
abbrev cX5_wouldEnd : ByteArray := prog_7_method_80_code
def yX5_wouldEnd : MethodName := ⟨RX5, "wouldEnd", "(I)I"⟩
abbrev cX5_endsIn : ByteArray := prog_7_method_81_code
def yX5_endsIn : MethodName := ⟨RX5, "endsIn", "(I)I"⟩
abbrev cX5_wouldTry : ByteArray := prog_7_method_82_code
def yX5_wouldTry : MethodName := ⟨RX5, "wouldTry", "(I)I"⟩
abbrev cX5_ifTried : ByteArray := prog_7_method_83_code
def yX5_ifTried : MethodName := ⟨RX5, "ifTried", "(I)I"⟩
abbrev cX5_findFrom : ByteArray := prog_7_method_84_code
def yX5_findFrom : MethodName := ⟨RX5, "findFrom", "(I)V"⟩
abbrev cX5_ringOf : ByteArray := prog_7_method_85_code
def yX5_ringOf : MethodName := ⟨RX5, "ringOf", "(I)I"⟩
abbrev cX5_ring : ByteArray := prog_7_method_86_code
def yX5_ring : MethodName := ⟨RX5, "ring", "(I)I"⟩
abbrev cX5_cut : ByteArray := prog_7_method_87_code
def yX5_cut : MethodName := ⟨RX5, "cut", "(I)I"⟩
abbrev cX5_bestCut : ByteArray := prog_7_method_88_code
def yX5_bestCut : MethodName := ⟨RX5, "bestCut", "(I)I"⟩
abbrev cX5_wouldBear : ByteArray := prog_7_method_89_code
def yX5_wouldBear : MethodName := ⟨RX5, "wouldBear", "(I)I"⟩
abbrev cX5_bears : ByteArray := prog_7_method_90_code
def yX5_bears : MethodName := ⟨RX5, "bears", "(I)I"⟩
abbrev cX5_reachedShare : ByteArray := prog_7_method_91_code
def yX5_reachedShare : MethodName := ⟨RX5, "reachedShare", "()D"⟩
abbrev cX5_doubleBits : ByteArray := prog_7_method_92_code
def yX5_doubleBits : MethodName := ⟨RX5, "doubleBits", "(II)J"⟩
abbrev cX5_digest : ByteArray := prog_7_method_93_code
def yX5_digest : MethodName := ⟨RX5, "digest", "()J"⟩
def RJ6 : String := "java/lang/Integer"
def TJ6 : u_T := fun k => match k with
  | _ => ("", "", "", false)
def tyJ6 : Nat → FieldType := fun k => match k with
  | _ => .int
abbrev wsJ60 : List Cond := u_ws RJ6 TJ6 0
theorem nmJ6 : ∀ a, a < 0 → ∀ b, b < 0 → a ≠ b → (TJ6 a).2.1 ≠ (TJ6 b).2.1 := by decide +kernel
theorem tyJ6_ok : ∀ k, k < 0 → parseFieldDescriptor (TJ6 k).2.2.1 = some (tyJ6 k) := by decide +kernel
abbrev cJ6_numberOfTrailingZeros_0f7a4 : ByteArray := prog_12_method_48_code
def yJ6_numberOfTrailingZeros_0f7a4 : MethodName := ⟨RJ6, "numberOfTrailingZeros", "(I)I"⟩
abbrev cJ6_bitCount_0f7a4 : ByteArray := prog_12_method_49_code
def yJ6_bitCount_0f7a4 : MethodName := ⟨RJ6, "bitCount", "(I)I"⟩
def RJ9 : String := "java/lang/Math"
def TJ9 : u_T := fun k => match k with
  | _ => ("", "", "", false)
def tyJ9 : Nat → FieldType := fun k => match k with
  | _ => .int
abbrev wsJ90 : List Cond := u_ws RJ9 TJ9 0
theorem nmJ9 : ∀ a, a < 0 → ∀ b, b < 0 → a ≠ b → (TJ9 a).2.1 ≠ (TJ9 b).2.1 := by decide +kernel
theorem tyJ9_ok : ∀ k, k < 0 → parseFieldDescriptor (TJ9 k).2.2.1 = some (tyJ9 k) := by decide +kernel
abbrev cJ9_floorMod_7cf53 : ByteArray := prog_13_method_50_code
def yJ9_floorMod_7cf53 : MethodName := ⟨RJ9, "floorMod", "(II)I"⟩
def RJ0 : String := "java/lang/String"
def TJ0 : u_T := fun k => match k with
  | _ => ("", "", "", false)
def tyJ0 : Nat → FieldType := fun k => match k with
  | _ => .int
abbrev wsJ00 : List Cond := u_ws RJ0 TJ0 0
theorem nmJ0 : ∀ a, a < 0 → ∀ b, b < 0 → a ≠ b → (TJ0 a).2.1 ≠ (TJ0 b).2.1 := by decide +kernel
theorem tyJ0_ok : ∀ k, k < 0 → parseFieldDescriptor (TJ0 k).2.2.1 = some (tyJ0 k) := by decide +kernel
def RJ10 : String := "java/lang/System"
def TJ10 : u_T := fun k => match k with
  | _ => ("", "", "", false)
def tyJ10 : Nat → FieldType := fun k => match k with
  | _ => .int
abbrev wsJ100 : List Cond := u_ws RJ10 TJ10 0
theorem nmJ10 : ∀ a, a < 0 → ∀ b, b < 0 → a ≠ b → (TJ10 a).2.1 ≠ (TJ10 b).2.1 := by decide +kernel
theorem tyJ10_ok : ∀ k, k < 0 → parseFieldDescriptor (TJ10 k).2.2.1 = some (tyJ10 k) := by decide +kernel
def RL : String := "GossipCountsLaw"
abbrev cL_add : ByteArray := method_3_code
def yL_add : MethodName := ⟨RL, "add", "(LGossipCounts;I[J)I"⟩
abbrev cL_take : ByteArray := method_4_code
def yL_take : MethodName := ⟨RL, "take", "(LGossipCounts;II[J)I"⟩
abbrev cL_put : ByteArray := method_5_code
def yL_put : MethodName := ⟨RL, "put", "(LGossipCounts;III[J)I"⟩
abbrev cL_slander : ByteArray := method_6_code
def yL_slander : MethodName := ⟨RL, "slander", "(LGossipCounts;II[J)I"⟩
abbrev cL_suspect : ByteArray := method_7_code
def yL_suspect : MethodName := ⟨RL, "suspect", "(LGossipCounts;I[J)I"⟩
abbrev cL_set : ByteArray := method_8_code
def yL_set : MethodName := ⟨RL, "set", "(LGossipCounts;II[J)I"⟩
abbrev cL_pass : ByteArray := method_9_code
def yL_pass : MethodName := ⟨RL, "pass", "(LGossipCounts;I[J)I"⟩
abbrev cL_append : ByteArray := method_10_code
def yL_append : MethodName := ⟨RL, "append", "(LGossipCounts;I[J)I"⟩
abbrev cL_run : ByteArray := method_11_code
def yL_run : MethodName := ⟨RL, "run", "(LGossipCounts;[J)I"⟩
abbrev cL_undo : ByteArray := method_12_code
def yL_undo : MethodName := ⟨RL, "undo", "(LGossipCounts;[J)I"⟩
abbrev cL_thing : ByteArray := method_13_code
def yL_thing : MethodName := ⟨RL, "thing", "(LGossipCounts;II[J)I"⟩
abbrev cL_slot : ByteArray := method_14_code
def yL_slot : MethodName := ⟨RL, "slot", "(LGossipCounts;II[J)I"⟩
abbrev cL_hand : ByteArray := method_15_code
def yL_hand : MethodName := ⟨RL, "hand", "(LGossipCounts;I[J)I"⟩
abbrev cL_report : ByteArray := method_16_code
def yL_report : MethodName := ⟨RL, "report", "(LGossipCounts;II[J)I"⟩
abbrev cL_ended : ByteArray := method_17_code
def yL_ended : MethodName := ⟨RL, "ended", "(LGossipCounts;I[J)I"⟩
abbrev cL_count : ByteArray := method_18_code
def yL_count : MethodName := ⟨RL, "count", "(LGossipCounts;I[J)I"⟩
abbrev cL_setting : ByteArray := method_19_code
def yL_setting : MethodName := ⟨RL, "setting", "(LGossipCounts;I[J)I"⟩
abbrev cL_ifPassed : ByteArray := method_20_code
def yL_ifPassed : MethodName := ⟨RL, "ifPassed", "(LGossipCounts;II[J)I"⟩
abbrev cL_endsIn : ByteArray := method_21_code
def yL_endsIn : MethodName := ⟨RL, "endsIn", "(LGossipCounts;I[J)I"⟩
abbrev cL_ifTried : ByteArray := method_22_code
def yL_ifTried : MethodName := ⟨RL, "ifTried", "(LGossipCounts;I[J)I"⟩
abbrev cL_ring : ByteArray := method_23_code
def yL_ring : MethodName := ⟨RL, "ring", "(LGossipCounts;I[J)I"⟩
abbrev cL_bestCut : ByteArray := method_24_code
def yL_bestCut : MethodName := ⟨RL, "bestCut", "(LGossipCounts;I[J)I"⟩
abbrev cL_bears : ByteArray := method_25_code
def yL_bears : MethodName := ⟨RL, "bears", "(LGossipCounts;I[J)I"⟩
abbrev cL_law : ByteArray := code
def yL_law : MethodName := ⟨RL, "law", "([I)Z"⟩
abbrev vwCl : List vw_C := [(RX0, TX0, 1), (RX1, TX1, 5), (RX2, TX2, 5), (RX3, TX3, 17), (RX4, TX4, 6), (RX5, TX5, 15)]
end
section
/-! ===== an abstract run of a method's body: locals, stack and cells as lists, references by places; one theorem carries it to the machine ===== -/
abbrev ev_E : Type := (Nat × vp_A) ⊕ (Nat × List Value)
abbrev ev_I : Type := Instr × Nat × Nat × Nat × Nat × Value
abbrev ev_L : Type := List (Option Value)
abbrev ev_T : Type := List (Nat × ev_I)
def ev_cv (ad : Nat → Nat) (v : Value) : Value := match v with
  | .ref a => .ref (ad a)
  | .int x => .int x
  | .long x => .long x
  | .float x => .float x
  | .double x => .double x
  | .null => .null
  | .retAddr x => .retAddr x
def ev_ca (ad : Nat → Nat) (a : vp_A) : vp_A := (a.1, match a.2 with
  | .inr (.inr (.inr (.inr f))) => .inr (.inr (.inr (.inr (fun i => (f i).map ad))))
  | .inr (.inr (.inr (.inl f))) => .inr (.inr (.inr (.inl f)))
  | .inr (.inr (.inl f)) => .inr (.inr (.inl f))
  | .inr (.inl f) => .inr (.inl f)
  | .inl f => .inl f)
def ev_ce (ad : Nat → Nat) (ct : Nat → ClassId) (E : ev_E) : va_E := match E with
  | .inl a => .inl (ct a.1, ev_ca ad a.2)
  | .inr o => .inr (o.1, o.2.map (ev_cv ad))
def ev_lay (ad : Nat → Nat) (ct : Nat → ClassId) (w : List ev_E) : va_W := w.mapIdx (fun k E => (ad k, ev_ce ad ct E))
def ev_tys (ct : Nat → ClassId) : List (ClassId × FieldType) := [(ct 0, .int), (ct 1, .long), (ct 2, .object "GossipCounts$World")]
theorem ev_lay_get {ad : Nat → Nat} {ct : Nat → ClassId} {w : List ev_E} {k : Nat} {E : ev_E} (h : w[k]? = some E) : (ev_lay ad ct w)[k]? = some (ad k, ev_ce ad ct E) := by
  unfold ev_lay
  rw [List.getElem?_mapIdx, h]
  rfl
theorem ev_lay_inv {ad : Nat → Nat} {ct : Nat → ClassId} {w : List ev_E} {k : Nat} {q : Nat × va_E} (h : (ev_lay ad ct w)[k]? = some q) : ∃ E, w[k]? = some E ∧ q = (ad k, ev_ce ad ct E) := by
  unfold ev_lay at h
  rw [List.getElem?_mapIdx] at h
  cases hw : w[k]? with
  | none => rw [hw] at h; cases h
  | some E => rw [hw] at h; exact ⟨E, rfl, (Option.some.inj h).symm⟩
theorem ev_lay_len {ad : Nat → Nat} {ct : Nat → ClassId} {w : List ev_E} : (ev_lay ad ct w).length = w.length := by
  unfold ev_lay
  simp
theorem ev_lay_set {ad : Nat → Nat} {ct : Nat → ClassId} {w : List ev_E} {k : Nat} {E : ev_E} : (ev_lay ad ct w).set k (ad k, ev_ce ad ct E) = ev_lay ad ct (w.set k E) := by
  apply List.ext_getElem?
  intro j
  unfold ev_lay
  rw [List.getElem?_set, List.getElem?_mapIdx, List.getElem?_mapIdx, List.getElem?_set]
  by_cases h : k = j
  · subst h
    simp only [if_true, List.length_mapIdx]
    by_cases h2 : k < w.length <;> simp [h2]
  · simp [h]
-- the words
def ev_okw (w : Jvm.Cond) : Bool := goodWord w || match w with
  | .fieldLinkNest _ _ _ _ _ _ => true
  | .methodLinkNest _ _ _ _ => true
  | _ => false
def ev_WA : List Jvm.Cond := lw_tbl.filter ev_okw
def ev_has (k : Nat) (w : Jvm.Cond) : Bool := decide (lw_tbl[k]? = some w) && ev_okw w
theorem ev_okw_warm {w : Jvm.Cond} (h : ev_okw w = true) {args a' : Array Value} {s U : State} (hW : s.WarmedH U.vm) (hb : w.before args s = true) : w.before a' U = true := by
  unfold ev_okw at h
  rw [Bool.or_eq_true] at h
  rcases h with h | h
  · exact word_at hW (good_of_word h) hb
  · split at h
    · exact va_Nw.use rfl (va_Nw.warmF hW (va_Nw.of rfl hb))
    · exact va_Nw.use rfl (va_Nw.warmM hW (va_Nw.of rfl hb))
    · cases h
theorem ev_has_in {k : Nat} {w : Jvm.Cond} (h : ev_has k w = true) : w ∈ ev_WA := by
  unfold ev_has at h
  rw [Bool.and_eq_true] at h
  exact List.mem_filter.mpr ⟨List.mem_of_getElem? (of_decide_eq_true h.1), h.2⟩
-- the classes
def ev_ty (ci : Nat) : Nat → FieldType := match ci with
  | 0 => tyX0
  | 1 => tyX1
  | 2 => tyX2
  | 3 => tyX3
  | 4 => tyX4
  | _ => tyX5
def ev_F (ci : Nat) : u_T := match ci with
  | 0 => TX0
  | 1 => TX1
  | 2 => TX2
  | 3 => TX3
  | 4 => TX4
  | _ => TX5
def ev_R (ci : Nat) : String := match ci with
  | 0 => RX0
  | 1 => RX1
  | 2 => RX2
  | 3 => RX3
  | 4 => RX4
  | _ => RX5
def ev_N (ci : Nat) : Nat := match ci with
  | 0 => 1
  | 1 => 5
  | 2 => 5
  | 3 => 17
  | 4 => 6
  | _ => 15
theorem ev_cl {ci : Nat} (h : ci < 6) : vwCl[ci]? = some (ev_R ci, ev_F ci, ev_N ci) := by
  match ci, h with
  | 0, _ => rfl
  | 1, _ => rfl
  | 2, _ => rfl
  | 3, _ => rfl
  | 4, _ => rfl
  | 5, _ => rfl
theorem ev_tyok {ci : Nat} (h : ci < 6) : ∀ k, k < ev_N ci → parseFieldDescriptor (ev_F ci k).2.2.1 = some (ev_ty ci k) := by
  match ci, h with
  | 0, _ => exact tyX0_ok
  | 1, _ => exact tyX1_ok
  | 2, _ => exact tyX2_ok
  | 3, _ => exact tyX3_ok
  | 4, _ => exact tyX4_ok
  | 5, _ => exact tyX5_ok
theorem ev_nm {ci : Nat} (h : ci < 6) : ∀ a, a < ev_N ci → ∀ b, b < ev_N ci → a ≠ b → (ev_F ci a).2.1 ≠ (ev_F ci b).2.1 := by
  match ci, h with
  | 0, _ => exact nmX0
  | 1, _ => exact nmX1
  | 2, _ => exact nmX2
  | 3, _ => exact nmX3
  | 4, _ => exact nmX4
  | 5, _ => exact nmX5
set_option maxRecDepth 20000 in
theorem ev_win : ((List.range 6).all fun ci => (u_ws (ev_R ci) (ev_F ci) (ev_N ci)).all fun w => decide (w ∈ lw_tbl) && ev_okw w) = true := by decide +kernel
theorem ev_wsin {ci : Nat} (h : ci < 6) : ∀ w ∈ u_ws (ev_R ci) (ev_F ci) (ev_N ci), w ∈ ev_WA := by
  intro w hw
  have h1 := List.all_eq_true.mp (List.all_eq_true.mp ev_win ci (List.mem_range.mpr h)) w hw
  rw [Bool.and_eq_true] at h1
  exact List.mem_filter.mpr ⟨of_decide_eq_true h1.1, h1.2⟩
/-- the link of a field, by its word's place -/
def ev_fl (own : String) (idx k ci f : Nat) : Bool :=
  decide (ci < 6) && decide (f < ev_N ci) && (ev_has k (.fieldLink own idx (ev_F ci f).1 (ev_F ci f).2.1 (ev_F ci f).2.2.1) ||
    match lw_tbl[k]? with
    | some (.fieldLinkNest _ _ _ _ _ h) => ev_has k (.fieldLinkNest own idx (ev_F ci f).1 (ev_F ci f).2.1 (ev_F ci f).2.2.1 h)
    | _ => false)
theorem ev_fl_use {own : String} {idx k ci f : Nat} (h : ev_fl own idx k ci f = true) : ci < 6 ∧ f < ev_N ci ∧ (Jvm.Cond.fieldLink own idx (ev_F ci f).1 (ev_F ci f).2.1 (ev_F ci f).2.2.1 ∈ ev_WA ∨ ∃ host, Jvm.Cond.fieldLinkNest own idx (ev_F ci f).1 (ev_F ci f).2.1 (ev_F ci f).2.2.1 host ∈ ev_WA) := by
  unfold ev_fl at h
  rw [Bool.and_eq_true, Bool.and_eq_true, Bool.or_eq_true] at h
  obtain ⟨⟨h1, h2⟩, h3⟩ := h
  refine ⟨of_decide_eq_true h1, of_decide_eq_true h2, ?_⟩
  rcases h3 with h3 | h3
  · exact Or.inl (ev_has_in h3)
  · split at h3
    · exact Or.inr ⟨_, ev_has_in h3⟩
    · cases h3
-- the locals
def ev_nth : ev_L → Nat → Option Value
  | [], _ => none
  | x :: _, 0 => x
  | _ :: l, n + 1 => ev_nth l n
def ev_clr (x : Option Value) : Option Value := match x with
  | some (.long _) => none
  | some (.double _) => none
  | some (.int v) => some (.int v)
  | some (.float v) => some (.float v)
  | some .null => some .null
  | some (.ref v) => some (.ref v)
  | some (.retAddr v) => some (.retAddr v)
  | none => none
def ev_st1 : ev_L → Nat → Option Value → ev_L
  | [], _, _ => []
  | _ :: l, 0, v => v :: l
  | x :: l, n + 1, v => (match n with | 0 => ev_clr x | _ => x) :: ev_st1 l n v
def ev_st2 (L : ev_L) (i : Nat) (v : Option Value) : ev_L := ev_st1 (ev_st1 L (i + 1) none) i v
def ev_LH (ad : Nat → Nat) (ls : Array Slot) (nL : Nat) (L : ev_L) : Prop := ls.size = nL ∧ lv_wf ls ∧ ∀ i v, ev_nth L i = some v → ls[i]? = some (.val (ev_cv ad v))
theorem ev_cv_cat (ad : Nat → Nat) (v : Value) : (ev_cv ad v).category = v.category := by cases v <;> rfl
-- the cells
def ev_wg : List ev_E → Nat → Option ev_E
  | [], _ => none
  | x :: _, 0 => some x
  | _ :: l, n + 1 => ev_wg l n
def ev_ws : List ev_E → Nat → ev_E → List ev_E
  | [], _, _ => []
  | _ :: l, 0, v => v :: l
  | x :: l, n + 1, v => x :: ev_ws l n v
def ev_fg : List Value → Nat → Option Value
  | [], _ => none
  | x :: _, 0 => some x
  | _ :: l, n + 1 => ev_fg l n
def ev_fs : List Value → Nat → Value → List Value
  | [], _, _ => []
  | _ :: l, 0, v => v :: l
  | x :: l, n + 1, v => x :: ev_fs l n v
theorem ev_wg_eq (w : List ev_E) (k : Nat) : ev_wg w k = w[k]? := by
  induction w generalizing k with
  | nil => simp [ev_wg]
  | cons x l ih => cases k <;> simp [ev_wg, ih]
theorem ev_ws_eq (w : List ev_E) (k : Nat) (E : ev_E) : ev_ws w k E = w.set k E := by
  induction w generalizing k with
  | nil => simp [ev_ws]
  | cons x l ih => cases k <;> simp [ev_ws, ih]
theorem ev_fg_eq (w : List Value) (k : Nat) : ev_fg w k = w[k]? := by
  induction w generalizing k with
  | nil => simp [ev_fg]
  | cons x l ih => cases k <;> simp [ev_fg, ih]
theorem ev_fs_eq (w : List Value) (k : Nat) (E : Value) : ev_fs w k E = w.set k E := by
  induction w generalizing k with
  | nil => simp [ev_fs]
  | cons x l ih => cases k <;> simp [ev_fs, ih]
def ev_fit (ty : FieldType) (v : Value) : Bool := match ty, v with
  | .int, .int _ => true
  | .object _, .ref _ => true
  | .array _, .ref _ => true
  | _, _ => false
theorem ev_fit_ok {ty : FieldType} {v : Value} (h : ev_fit ty v = true) (ad : Nat → Nat) : narrow ty (ev_cv ad v) = ev_cv ad v ∧ fits ty (ev_cv ad v) = true := by
  cases ty <;> cases v <;> first | exact absurd h Bool.false_ne_true | exact ⟨rfl, rfl⟩
abbrev ev_O : Type := List Prop × Nat × ev_L × List Value × List ev_E
/-- one instruction, where it has no branch and no call; what must hold stands ahead -/
def ev_step (i : ev_I) (L : ev_L) (st : List Value) (w : List ev_E) : Option ev_O := match i with
  | (ins, nx, _, x, y, v) => match ins with
    | .iconst _ => match v with | .int c => some ([], nx, L, .int c :: st, w) | _ => none
    | .bipush _ => match v with | .int c => some ([], nx, L, .int c :: st, w) | _ => none
    | .sipush _ => match v with | .int c => some ([], nx, L, .int c :: st, w) | _ => none
    | .ldc _ => match v with | .int c => some ([], nx, L, .int c :: st, w) | _ => none
    | .ldc_w _ => match v with | .int c => some ([], nx, L, .int c :: st, w) | _ => none
    | .lconst _ => match v with | .long c => some ([], nx, L, .long c :: st, w) | _ => none
    | .ldc2_w _ => match v with | .long c => some ([], nx, L, .long c :: st, w) | .double c => some ([], nx, L, .double c :: st, w) | _ => none
    | .dconst _ => match v with | .double c => some ([], nx, L, .double c :: st, w) | _ => none
    | .iload _ => match ev_nth L x with | some (.int c) => some ([], nx, L, .int c :: st, w) | _ => none
    | .iload_n _ => match ev_nth L x with | some (.int c) => some ([], nx, L, .int c :: st, w) | _ => none
    | .lload _ => match ev_nth L x with | some (.long c) => some ([], nx, L, .long c :: st, w) | _ => none
    | .lload_n _ => match ev_nth L x with | some (.long c) => some ([], nx, L, .long c :: st, w) | _ => none
    | .dload _ => match ev_nth L x with | some (.double c) => some ([], nx, L, .double c :: st, w) | _ => none
    | .dload_n _ => match ev_nth L x with | some (.double c) => some ([], nx, L, .double c :: st, w) | _ => none
    | .aload _ => match ev_nth L x with | some (.ref c) => some ([], nx, L, .ref c :: st, w) | _ => none
    | .aload_n _ => match ev_nth L x with | some (.ref c) => some ([], nx, L, .ref c :: st, w) | _ => none
    | .istore _ => match st with | .int c :: r => some ([], nx, ev_st1 L x (some (.int c)), r, w) | _ => none
    | .istore_n _ => match st with | .int c :: r => some ([], nx, ev_st1 L x (some (.int c)), r, w) | _ => none
    | .lstore _ => match st with | .long c :: r => some ([], nx, ev_st2 L x (some (.long c)), r, w) | _ => none
    | .lstore_n _ => match st with | .long c :: r => some ([], nx, ev_st2 L x (some (.long c)), r, w) | _ => none
    | .dstore _ => match st with | .double c :: r => some ([], nx, ev_st2 L x (some (.double c)), r, w) | _ => none
    | .dstore_n _ => match st with | .double c :: r => some ([], nx, ev_st2 L x (some (.double c)), r, w) | _ => none
    | .astore _ => match st with | .ref c :: r => some ([], nx, ev_st1 L x (some (.ref c)), r, w) | _ => none
    | .astore_n _ => match st with | .ref c :: r => some ([], nx, ev_st1 L x (some (.ref c)), r, w) | _ => none
    | .iinc _ _ => match ev_nth L x, v with | some (.int a), .int c => some ([], nx, ev_st1 L x (some (.int (a + c))), st, w) | _, _ => none
    | .iadd => match st with | .int b :: .int a :: r => some ([], nx, L, .int (a + b) :: r, w) | _ => none
    | .isub => match st with | .int b :: .int a :: r => some ([], nx, L, .int (a - b) :: r, w) | _ => none
    | .imul => match st with | .int b :: .int a :: r => some ([], nx, L, .int (a * b) :: r, w) | _ => none
    | .iand => match st with | .int b :: .int a :: r => some ([], nx, L, .int (a &&& b) :: r, w) | _ => none
    | .ior => match st with | .int b :: .int a :: r => some ([], nx, L, .int (a ||| b) :: r, w) | _ => none
    | .ixor => match st with | .int b :: .int a :: r => some ([], nx, L, .int (a ^^^ b) :: r, w) | _ => none
    | .ishl => match st with | .int b :: .int a :: r => some ([], nx, L, .int (a <<< (b &&& 31)) :: r, w) | _ => none
    | .ishr => match st with | .int b :: .int a :: r => some ([], nx, L, .int (a >>> (b &&& 31)) :: r, w) | _ => none
    | .iushr => match st with | .int b :: .int a :: r => some ([], nx, L, .int (a.toUInt32 >>> (b.toUInt32 &&& Int32.toUInt32 31)).toInt32 :: r, w) | _ => none
    | .idiv => match st with | .int b :: .int a :: r => some ([¬ b = 0], nx, L, .int (a / b) :: r, w) | _ => none
    | .irem => match st with | .int b :: .int a :: r => some ([¬ b = 0], nx, L, .int (a - a / b * b) :: r, w) | _ => none
    | .ladd => match st with | .long b :: .long a :: r => some ([], nx, L, .long (a + b) :: r, w) | _ => none
    | .lsub => match st with | .long b :: .long a :: r => some ([], nx, L, .long (a - b) :: r, w) | _ => none
    | .lmul => match st with | .long b :: .long a :: r => some ([], nx, L, .long (a * b) :: r, w) | _ => none
    | .ldiv => match st with | .long b :: .long a :: r => some ([¬ b = 0], nx, L, .long (a / b) :: r, w) | _ => none
    | .lrem => match st with | .long b :: .long a :: r => some ([¬ b = 0], nx, L, .long (a - a / b * b) :: r, w) | _ => none
    | .lshl => match st with | .int b :: .long a :: r => some ([], nx, L, .long (a <<< (b.toInt64 &&& 63)) :: r, w) | _ => none
    | .lcmp => match st with | .long b :: .long a :: r => some ([], nx, L, .int (lg_cmp a b) :: r, w) | _ => none
    | .i2l => match st with | .int a :: r => some ([], nx, L, .long a.toInt64 :: r, w) | _ => none
    | .i2d => match st with | .int a :: r => some ([], nx, L, .double (FP.i2d a) :: r, w) | _ => none
    | .d2l => match st with | .double a :: r => some ([], nx, L, .long (FP.d2l a) :: r, w) | _ => none
    | .dcmp op => match st with | .double b :: .double a :: r => some ([], nx, L, .int (Op.cmpValue (FP.dcmp a b) op) :: r, w) | _ => none
    | .dmul => match st with | .double b :: .double a :: r => some ([vf_n64 (FP.dmul a b)], nx, L, .double (FP.dmul a b) :: r, w) | _ => none
    | .ddiv => match st with | .double b :: .double a :: r => some ([vf_n64 (FP.ddiv a b)], nx, L, .double (FP.ddiv a b) :: r, w) | _ => none
    | .dsub => match st with | .double b :: .double a :: r => some ([vf_n64 (FP.dsub a b)], nx, L, .double (FP.dsub a b) :: r, w) | _ => none
    | .dup => match st with | .int a :: r => some ([], nx, L, .int a :: .int a :: r, w) | .ref a :: r => some ([], nx, L, .ref a :: .ref a :: r, w) | _ => none
    | .dup2 => match st with | .int b :: .ref a :: r => some ([], nx, L, .int b :: .ref a :: .int b :: .ref a :: r, w) | _ => none
    | .pop => match st with | .int _ :: r => some ([], nx, L, r, w) | .ref _ :: r => some ([], nx, L, r, w) | _ => none
    | .goto _ => some ([], x, L, st, w)
    | .getfield _ => match st with
      | .ref a :: r => match ev_wg w a with
        | some (.inr (ci, fs)) => match Nat.beq ci x with
          | true => match ev_fg fs y with
            | some u => some ([], nx, L, u :: r, w)
            | none => none
          | false => none
        | _ => none
      | _ => none
    | .putfield _ => match st with
      | u :: .ref a :: r => match ev_wg w a with
        | some (.inr (ci, fs)) => match Nat.beq ci x with
          | true => match ev_fg fs y, ev_fit (ev_ty x y) u with
            | some _, true => some ([], nx, L, r, ev_ws w a (.inr (ci, ev_fs fs y u)))
            | _, _ => none
          | false => none
        | _ => none
      | _ => none
    | .iaload => match st with
      | .int j :: .ref a :: r => match ev_wg w a with
        | some (.inl (0, n, .inl f)) => some ([vp_in j n], nx, L, .int (f j.toNatClampNeg) :: r, w)
        | _ => none
      | _ => none
    | .laload => match st with
      | .int j :: .ref a :: r => match ev_wg w a with
        | some (.inl (1, n, .inr (.inl f))) => some ([vp_in j n], nx, L, .long (f j.toNatClampNeg) :: r, w)
        | _ => none
      | _ => none
    | .iastore => match st with
      | .int u :: .int j :: .ref a :: r => match ev_wg w a with
        | some (.inl (0, n, .inl f)) => some ([vp_in j n], nx, L, r, ev_ws w a (.inl (0, n, .inl (upd f j.toNatClampNeg u))))
        | _ => none
      | _ => none
    | .lastore => match st with
      | .long u :: .int j :: .ref a :: r => match ev_wg w a with
        | some (.inl (1, n, .inr (.inl f))) => some ([vp_in j n], nx, L, r, ev_ws w a (.inl (1, n, .inr (.inl (vp_updL f j.toNatClampNeg u)))))
        | _ => none
      | _ => none
    | .tableswitch d lo hi offs => match st with
      | .int a :: r => match decide (a.toInt < lo), decide (hi < a.toInt) with
        | false, false => match offs[(a.toInt - lo).toNat]? with
          | some o => match decide ((y : Int) + o = ((y : Int) + o).toNat) with
            | true => some ([], ((y : Int) + o).toNat, L, r, w)
            | false => none
          | none => none
        | _, _ => none
      | _ => none
    | _ => none
def ev_look : ev_T → Nat → Option ev_I
  | [], _ => none
  | q :: l, pc => match Nat.beq q.1 pc with
    | true => some q.2
    | false => ev_look l pc
def ev_mem : List Nat → Nat → Bool
  | [], _ => false
  | q :: l, pc => match Nat.beq q pc with
    | true => true
    | false => ev_mem l pc
def ev_go (tab : ev_T) (cuts : List Nat) : Nat → List Prop → Nat → ev_L → List Value → List ev_E → ev_O
  | 0, cs, pc, L, st, w => (cs, pc, L, st, w)
  | n + 1, cs, pc, L, st, w => match ev_look tab pc with
    | none => (cs, pc, L, st, w)
    | some i => match ev_step i L st w with
      | none => (cs, pc, L, st, w)
      | some (c, pc', L', st', w') => match ev_mem cuts pc' with
        | true => (cs ++ c, pc', L', st', w')
        | false => ev_go tab cuts n (cs ++ c) pc' L' st' w'
def ev_all : List Prop → Prop
  | [] => True
  | [p] => p
  | p :: q => p ∧ ev_all q
end
section
/-! ===== the locals and the forced forms ===== -/
theorem ev_nth_st1 (L : ev_L) (i : Nat) (v : Option Value) (j : Nat) (u : Value) (h : ev_nth (ev_st1 L i v) j = some u) : (j = i ∧ v = some u) ∨ (j ≠ i ∧ ev_nth L j = some u ∧ ¬ (j + 1 = i ∧ u.category = 2)) := by
  induction L generalizing i j with
  | nil => simp [ev_st1, ev_nth] at h
  | cons x l ih =>
    cases i with
    | zero =>
      cases j with
      | zero => exact Or.inl ⟨rfl, h⟩
      | succ j => exact Or.inr ⟨by omega, h, by omega⟩
    | succ i =>
      cases j with
      | zero =>
        right
        refine ⟨by omega, ?_⟩
        cases i with
        | zero =>
          simp only [ev_st1, ev_nth] at h
          have hx : x = some u ∧ ¬ u.category = 2 := by
            unfold ev_clr at h
            split at h <;> first | (cases h; done) | (cases h; exact ⟨rfl, by decide⟩) | (cases h; exact ⟨rfl, by simp [Value.category]⟩)
          exact ⟨hx.1, fun q => hx.2 q.2⟩
        | succ i => exact ⟨h, by omega⟩
      | succ j =>
        simp only [ev_st1, ev_nth] at h
        rcases ih i j h with ⟨h1, h2⟩ | ⟨h1, h2, h3⟩
        · exact Or.inl ⟨by omega, h2⟩
        · exact Or.inr ⟨by omega, h2, fun q => h3 ⟨by omega, q.2⟩⟩
/-- the listed values, as the kit's rows have them -/
def ev_as (ad : Nat → Nat) (L : ev_L) : List (Nat × Value) := (List.range L.length).filterMap (fun i => (ev_nth L i).map (fun v => (i, ev_cv ad v)))
theorem ev_nth_lt {L : ev_L} {i : Nat} {v : Value} (h : ev_nth L i = some v) : i < L.length := by
  induction L generalizing i with
  | nil => simp [ev_nth] at h
  | cons x l ih =>
    cases i with
    | zero => simp
    | succ i => have := ih h; simp; omega
theorem ev_as_in {ad : Nat → Nat} {L : ev_L} {q : Nat × Value} : q ∈ ev_as ad L ↔ ∃ v, ev_nth L q.1 = some v ∧ q.2 = ev_cv ad v := by
  obtain ⟨i, u⟩ := q
  unfold ev_as
  rw [List.mem_filterMap]
  constructor
  · rintro ⟨j, -, hj⟩
    cases h : ev_nth L j with
    | none => rw [h] at hj; cases hj
    | some u => rw [h] at hj; cases hj; exact ⟨u, h, rfl⟩
  · rintro ⟨v, h, h2⟩
    exact ⟨i, List.mem_range.mpr (ev_nth_lt h), by dsimp only at h h2; rw [h, h2]; rfl⟩
theorem ev_LH.has {ad : Nat → Nat} {ls : Array Slot} {nL : Nat} {L : ev_L} (h : ev_LH ad ls nL L) : lv_has ls nL (ev_as ad L) := ⟨h.1, h.2.1, fun q hq => by
  obtain ⟨v, h1, h2⟩ := ev_as_in.mp hq
  rw [h2]
  exact h.2.2 _ _ h1⟩
theorem ev_LH.of {ad : Nat → Nat} {ls : Array Slot} {nL : Nat} {L : ev_L} {l : List (Nat × Value)} (h : lv_has ls nL l) (hl : ∀ i v, ev_nth L i = some v → (i, ev_cv ad v) ∈ l) : ev_LH ad ls nL L := ⟨h.1, h.2.1, fun i v hv => h.2.2 (i, ev_cv ad v) (hl i v hv)⟩
theorem ev_LH.st1 {ad : Nat → Nat} {ls : Array Slot} {nL : Nat} {L : ev_L} {i : Nat} {v : Value} (h : lv_has ls nL ((i, ev_cv ad v) :: (ev_as ad L).filter (fun q => !(q.1 == i) && !(q.1 + 1 == i && q.2.category == 2)))) : ev_LH ad ls nL (ev_st1 L i (some v)) := by
  refine ev_LH.of h fun j u hj => ?_
  rcases ev_nth_st1 L i (some v) j u hj with ⟨h1, h2⟩ | ⟨h1, h2, h3⟩
  · cases h2; subst h1; exact List.mem_cons_self
  · refine List.mem_cons_of_mem _ (List.mem_filter.mpr ⟨ev_as_in.mpr ⟨u, h2, rfl⟩, ?_⟩)
    have a : (j == i) = false := by simp [h1]
    have b : (j + 1 == i && (ev_cv ad u).category == 2) = false := by
      rw [Bool.and_eq_false_iff, ev_cv_cat]
      by_cases c : j + 1 = i
      · right; simp; exact fun q => h3 ⟨c, q⟩
      · left; simp [c]
    simp only [a, b]
    rfl
theorem ev_LH.st2 {ad : Nat → Nat} {ls : Array Slot} {nL : Nat} {L : ev_L} {i : Nat} {v : Value} (h : lv_has ls nL ((i, ev_cv ad v) :: (ev_as ad L).filter (fun q => !(q.1 == i) && (!(q.1 == i + 1) && !(q.1 + 1 == i && q.2.category == 2))))) : ev_LH ad ls nL (ev_st2 L i (some v)) := by
  refine ev_LH.of h fun j u hj => ?_
  unfold ev_st2 at hj
  rcases ev_nth_st1 _ i (some v) j u hj with ⟨h1, h2⟩ | ⟨h1, h2, h3⟩
  · cases h2; subst h1; exact List.mem_cons_self
  · rcases ev_nth_st1 L (i + 1) none j u h2 with ⟨g1, g2⟩ | ⟨g1, g2, g3⟩
    · cases g2
    · refine List.mem_cons_of_mem _ (List.mem_filter.mpr ⟨ev_as_in.mpr ⟨u, g2, rfl⟩, ?_⟩)
      have a : (j == i) = false := by simp [h1]
      have a2 : (j == i + 1) = false := by simp [g1]
      have b : (j + 1 == i && (ev_cv ad u).category == 2) = false := by
        rw [Bool.and_eq_false_iff, ev_cv_cat]
        by_cases c : j + 1 = i
        · right; simp; exact fun q => h3 ⟨c, q⟩
        · left; simp [c]
      simp only [a, a2, b]
      rfl
theorem ev_LH.k {ad : Nat → Nat} {ls : Array Slot} {nL : Nat} {L : ev_L} (h : ev_LH ad ls nL L) {i : Nat} {v : Value} (hi : ev_nth L i = some v) : ∃ k : Nat, (ev_as ad L)[k]? = some (i, ev_cv ad v) := List.getElem?_of_mem (ev_as_in.mpr ⟨v, hi, rfl⟩)
-- forced forms: what a run comes to, its lists written out
def ev_fv {α : Type} (v : Value) (k : Value → α) : α := match v with
  | .ref a => k (.ref a)
  | .int x => k (.int x)
  | .long x => k (.long x)
  | .float x => k (.float x)
  | .double x => k (.double x)
  | .null => k .null
  | .retAddr x => k (.retAddr x)
def ev_fov {α : Type} (v : Option Value) (k : Option Value → α) : α := match v with
  | none => k none
  | some u => ev_fv u fun u => k (some u)
def ev_fL {α : Type} : ev_L → (ev_L → α) → α
  | [], k => k []
  | x :: l, k => ev_fov x fun x => ev_fL l fun l => k (x :: l)
def ev_fV {α : Type} : List Value → (List Value → α) → α
  | [], k => k []
  | x :: l, k => ev_fv x fun x => ev_fV l fun l => k (x :: l)
def ev_fE {α : Type} (E : ev_E) (k : ev_E → α) : α := match E with
  | .inl (t, n, .inl f) => k (.inl (t, n, .inl f))
  | .inl (t, n, .inr (.inl f)) => k (.inl (t, n, .inr (.inl f)))
  | .inl (t, n, .inr (.inr (.inl f))) => k (.inl (t, n, .inr (.inr (.inl f))))
  | .inl (t, n, .inr (.inr (.inr (.inl f)))) => k (.inl (t, n, .inr (.inr (.inr (.inl f)))))
  | .inl (t, n, .inr (.inr (.inr (.inr f)))) => k (.inl (t, n, .inr (.inr (.inr (.inr f)))))
  | .inr (ci, fs) => ev_fV fs fun fs => k (.inr (ci, fs))
def ev_fW {α : Type} : List ev_E → (List ev_E → α) → α
  | [], k => k []
  | x :: l, k => ev_fE x fun x => ev_fW l fun l => k (x :: l)
def ev_fP {α : Type} : List Prop → (List Prop → α) → α
  | [], k => k []
  | x :: l, k => ev_fP l fun l => k (x :: l)
theorem ev_fv_eq {α : Type} (v : Value) (k : Value → α) : ev_fv v k = k v := by cases v <;> rfl
theorem ev_fov_eq {α : Type} (v : Option Value) (k : Option Value → α) : ev_fov v k = k v := by
  cases v with
  | none => rfl
  | some u => exact ev_fv_eq u (fun u => k (some u))
theorem ev_fL_eq {α : Type} (L : ev_L) (k : ev_L → α) : ev_fL L k = k L := by
  induction L generalizing k with
  | nil => rfl
  | cons x l ih => rw [ev_fL, ev_fov_eq, ih]
theorem ev_fV_eq {α : Type} (L : List Value) (k : List Value → α) : ev_fV L k = k L := by
  induction L generalizing k with
  | nil => rfl
  | cons x l ih => rw [ev_fV, ev_fv_eq, ih]
theorem ev_fE_eq {α : Type} (E : ev_E) (k : ev_E → α) : ev_fE E k = k E := by
  match E with
  | .inl (t, n, .inl f) => rfl
  | .inl (t, n, .inr (.inl f)) => rfl
  | .inl (t, n, .inr (.inr (.inl f))) => rfl
  | .inl (t, n, .inr (.inr (.inr (.inl f)))) => rfl
  | .inl (t, n, .inr (.inr (.inr (.inr f)))) => rfl
  | .inr (ci, fs) => exact ev_fV_eq fs _
theorem ev_fW_eq {α : Type} (L : List ev_E) (k : List ev_E → α) : ev_fW L k = k L := by
  induction L generalizing k with
  | nil => rfl
  | cons x l ih => rw [ev_fW, ev_fE_eq, ih]
theorem ev_fP_eq {α : Type} (L : List Prop) (k : List Prop → α) : ev_fP L k = k L := by
  induction L generalizing k with
  | nil => rfl
  | cons x l ih => rw [ev_fP, ih]
def ev_fO (o : ev_O) : ev_O := match o with
  | (cs, pc, L, st, w) => ev_fP cs fun cs => ev_fL L fun L => ev_fV st fun st => ev_fW w fun w => (cs, pc, L, st, w)
theorem ev_fO_eq (o : ev_O) : ev_fO o = o := by
  obtain ⟨cs, pc, L, st, w⟩ := o
  show (ev_fP cs fun cs => ev_fL L fun L => ev_fV st fun st => ev_fW w fun w => (cs, pc, L, st, w)) = _
  rw [ev_fP_eq, ev_fL_eq, ev_fV_eq, ev_fW_eq]
end
section
/-! ===== one instruction of the abstract run, carried to the machine ===== -/
/-- a method: its class, its name, its code, how many locals, what it returns, its table, its room (frames, locals' words, cells, slots) -/
abbrev ev_M : Type := String × String × ByteArray × Nat × Option FieldType × ev_T × Nat × Nat × Nat × Nat
def ev_own (μ : ev_M) : String := μ.1
def ev_mn (μ : ev_M) : String := μ.2.1
def ev_cc (μ : ev_M) : ByteArray := μ.2.2.1
def ev_nL (μ : ev_M) : Nat := μ.2.2.2.1
def ev_rt (μ : ev_M) : Option FieldType := μ.2.2.2.2.1
def ev_tab (μ : ev_M) : ev_T := μ.2.2.2.2.2.1
def ev_fr (μ : ev_M) : Nat := μ.2.2.2.2.2.2.1
def ev_lo (μ : ev_M) : Nat := μ.2.2.2.2.2.2.2.1
def ev_mc (μ : ev_M) : Nat := μ.2.2.2.2.2.2.2.2.1
def ev_ms (μ : ev_M) : Nat := μ.2.2.2.2.2.2.2.2.2
def ev_len (ins : Instr) (x : Nat) : Nat := match ins with
  | .iload _ => 2
  | .lload _ => 2
  | .dload _ => 2
  | .aload _ => 2
  | .istore _ => 2
  | .lstore _ => 2
  | .dstore _ => 2
  | .astore _ => 2
  | .bipush _ => 2
  | .ldc _ => 2
  | .newarray _ => 2
  | .sipush _ => 3
  | .ldc_w _ => 3
  | .ldc2_w _ => 3
  | .iinc _ _ => 3
  | .goto _ => 3
  | .getfield _ => 3
  | .putfield _ => 3
  | .ifCond _ _ => 3
  | .if_icmp _ _ => 3
  | .invokevirtual _ => 3
  | .invokespecial _ => 3
  | .invokestatic _ => 3
  | .new _ => 3
  | .anewarray _ => 3
  | .tableswitch _ _ _ _ => x
  | .lookupswitch _ _ => x
  | _ => 1
def ev_lk (own nm : String) (nL pc : Nat) (ins : Instr) (k x y : Nat) (v : Value) : Bool := match ins with
  | .iconst n => decide (v = .int (Int32.ofInt n))
  | .bipush n => decide (v = .int (Int8.ofInt n).toInt32)
  | .sipush n => decide (v = .int (Int16.ofInt n).toInt32)
  | .iinc i n => decide (v = .int (Int32.ofInt n)) && decide (i = x) && decide (x < nL)
  | .lconst n => decide (v = .long (Int64.ofNat (n : Nat)))
  | .dconst n => decide ((n = 0 ∧ v = .double FP.dconst0) ∨ (n = 1 ∧ v = .double FP.dconst1))
  | .ldc i => match v with | .int c => ev_has k (.constant own i c) | _ => false
  | .ldc_w i => match v with | .int c => ev_has k (.constant own i c) | _ => false
  | .ldc2_w i => match v with | .long c => ev_has k (.constantLong own i c) | .double c => ev_has k (.constantDouble own i c) | _ => false
  | .iload i => decide (i = x)
  | .lload i => decide (i = x)
  | .dload i => decide (i = x)
  | .aload i => decide (i = x)
  | .iload_n i => decide ((i : Nat) = x)
  | .lload_n i => decide ((i : Nat) = x)
  | .dload_n i => decide ((i : Nat) = x)
  | .aload_n i => decide ((i : Nat) = x)
  | .istore i => decide (i = x) && decide (x < nL)
  | .astore i => decide (i = x) && decide (x < nL)
  | .istore_n i => decide ((i : Nat) = x) && decide (x < nL)
  | .astore_n i => decide ((i : Nat) = x) && decide (x < nL)
  | .lstore i => decide (i = x) && decide (x + 1 < nL)
  | .dstore i => decide (i = x) && decide (x + 1 < nL)
  | .lstore_n i => decide ((i : Nat) = x) && decide (x + 1 < nL)
  | .dstore_n i => decide ((i : Nat) = x) && decide (x + 1 < nL)
  | .goto o => decide ((pc : Int) + o = (x : Int))
  | .ifCond _ o => decide ((pc : Int) + o = (x : Int))
  | .if_icmp _ o => decide ((pc : Int) + o = (x : Int))
  | .getfield i => ev_fl own i k x y
  | .putfield i => decide (x < 6) && decide (y < ev_N x) && (if (ev_F x y).2.2.2 = true then decide (nm = "<init>") && decide ((ev_F x y).1 = own) && ev_has k (.fieldLink own i (ev_F x y).1 (ev_F x y).2.1 (ev_F x y).2.2.1) else ev_fl own i k x y)
  | .tableswitch _ _ _ _ => decide (y = pc)
  | .lookupswitch _ _ => decide (y = pc)
  | _ => true
def ev_ck (own nm : String) (cc : ByteArray) (nL : Nat) (q : Nat × ev_I) : Bool := match q with
  | (pc, ins, nx, k, x, y, v) => decide (decode cc pc = .ok (ins, ev_len ins x)) && decide (nx = pc + ev_len ins x) && ev_lk own nm nL pc ins k x y v
def ev_OK (μ : ev_M) : Prop := (ev_tab μ).all (ev_ck (ev_own μ) (ev_mn μ) (ev_cc μ) (ev_nL μ)) = true
theorem ev_look_in {tab : ev_T} {pc : Nat} {i : ev_I} (h : ev_look tab pc = some i) : (pc, i) ∈ tab := by
  induction tab with
  | nil => cases h
  | cons q l ih =>
    unfold ev_look at h
    split at h
    · next hq => cases h; have := Nat.eq_of_beq_eq_true hq; subst this; exact List.mem_cons_self
    · exact List.mem_cons_of_mem _ (ih h)
theorem ev_use {μ : ev_M} (h : ev_OK μ) {pc nx k x y : Nat} {ins : Instr} {v : Value} (hl : ev_look (ev_tab μ) pc = some (ins, nx, k, x, y, v)) : decode (ev_cc μ) pc = .ok (ins, ev_len ins x) ∧ nx = pc + ev_len ins x ∧ ev_lk (ev_own μ) (ev_mn μ) (ev_nL μ) pc ins k x y v = true := by
  have h1 := List.all_eq_true.mp h _ (ev_look_in hl)
  unfold ev_ck at h1
  rw [Bool.and_eq_true, Bool.and_eq_true] at h1
  exact ⟨of_decide_eq_true h1.1.1, of_decide_eq_true h1.1.2, h1.2⟩
/-- what stays: the machine, the body, the tables' words, the room -/
def ev_Fix (μ : ev_M) (p : Program) (R : Room) (s : State) (m : MethodId) (args : Array Value) (meth : Method) (c : Code) : Prop :=
  p.tables.exec = Jvm.exec ∧ c.code = ev_cc μ ∧ c.maxLocals = ev_nL μ ∧ meth.sig.returnType = ev_rt μ ∧ s.vm.findClass (ev_own μ) = some m.cls ∧ (∀ w ∈ ev_WA, w.before args s = true) ∧ meth.locks = false ∧ meth.name = ev_mn μ ∧ (ev_fr μ ≤ R.frames ∧ ev_lo μ ≤ R.locals ∧ ev_mc μ ≤ R.cells ∧ ev_ms μ ≤ R.slots)
def ev_I0 (μ : ev_M) (p : Program) (R : Room) (s : State) (m : MethodId) (args : Array Value) (meth : Method) (c : Code) (D : va_G) (ct : Nat → ClassId) (A : Nat → Prop) : Prop :=
  ev_OK μ ∧ ev_Fix μ p R s m args meth c ∧ va_K D vwCl (ev_tys ct) s ∧ ∀ q, s.heap.size ≤ q → A q
/-- what changes: the cells, the locals -/
def ev_I1 (μ : ev_M) (s : State) (D : va_G) (ct : Nat → ClassId) (ad0 : Nat → Nat) (A : Nat → Prop) (N0 : Nat) (ad : Nat → Nat) (H : Heap) (locs : List Loc) (ls : Array Slot) (L : ev_L) (w : List ev_E) : Prop :=
  va_P D vwCl (ev_lay ad ct w) H ∧ va_D A (ev_lay ad ct w) ∧ va_S A s.heap H locs ∧ (∀ k, k < N0 → ad k = ad0 k) ∧ ev_LH ad ls (ev_nL μ) L
theorem ev_ca_i (ad : Nat → Nat) (n : Nat) (f : Nat → Int32) : ev_ca ad (n, .inl f) = (n, .inl f) := rfl
theorem ev_ca_l (ad : Nat → Nat) (n : Nat) (f : Nat → Int64) : ev_ca ad (n, .inr (.inl f)) = (n, .inr (.inl f)) := rfl
theorem ev_map_set (ad : Nat → Nat) (fs : List Value) (k : Nat) (v : Value) : (fs.map (ev_cv ad)).set k (ev_cv ad v) = (fs.set k v).map (ev_cv ad) := by rw [List.map_set]
section EVS
variable {μ : ev_M} {p : Program} {l : Launch} {e : Env} {R : Room} {s : State} {m : MethodId} {args : Array Value} {below : List Frame} {meth : Method} {c : Code} {D : va_G} {ct : Nat → ClassId} {ad0 ad : Nat → Nat} {A : Nat → Prop} {N0 : Nat} {Q : State → Prop} {kc ks pc : Nat}
theorem ev_I1.ls {H : Heap} {locs : List Loc} {ls ls' : Array Slot} {L L' : ev_L} {w : List ev_E} (h : ev_I1 μ s D ct ad0 A N0 ad H locs ls L w) (hl : ev_LH ad ls' (ev_nL μ) L') : ev_I1 μ s D ct ad0 A N0 ad H locs ls' L' w := ⟨h.1, h.2.1, h.2.2.1, h.2.2.2.1, hl⟩
theorem ev_I1.set {H H1 : Heap} {locs locs1 : List Loc} {ls : Array Slot} {L : ev_L} {w : List ev_E} {k : Nat} {E : ev_E} {E' : va_E} (h : ev_I1 μ s D ct ad0 A N0 ad H locs ls L w) (hE : ev_ce ad ct E = E') (hP : va_P D vwCl ((ev_lay ad ct w).set k (ad k, E')) H1) (hD : va_D A ((ev_lay ad ct w).set k (ad k, E'))) (hS : va_S A s.heap H1 locs1) : ev_I1 μ s D ct ad0 A N0 ad H1 locs1 ls L (ev_ws w k E) := by
  subst hE
  rw [ev_lay_set, ← ev_ws_eq] at hP hD
  exact ⟨hP, hD, hS, h.2.2.2.1, h.2.2.2.2⟩
/-- the goal of every step -/
def ev_kk (μ : ev_M) (p : Program) (l : Launch) (e : Env) (R : Room) (s : State) (m : MethodId) (args : Array Value) (below : List Frame) (meth : Method) (c : Code) (D : va_G) (ct : Nat → ClassId) (ad0 ad : Nat → Nat) (A : Nat → Prop) (N0 : Nat) (Q : State → Prop) (kc ks pc : Nat) (L : ev_L) (st : List Value) (w : List ev_E) : Prop :=
  ∀ (H : Heap) (locs : List Loc) (ls : Array Slot), ev_I1 μ s D ct ad0 A N0 ad H locs ls L w → W p l e R s m args below meth c H locs kc ks Q (F0 m pc ls (st.map (ev_cv ad)))
set_option maxHeartbeats 4000000 in
set_option maxRecDepth 100000 in
theorem ev_step_ok (h0 : ev_I0 μ p R s m args meth c D ct A) {i : ev_I} {L L' : ev_L} {st st' : List Value} {w w' : List ev_E} {cs : List Prop} {pc' : Nat} (hlk : ev_look (ev_tab μ) pc = some i) (hs : ev_step i L st w = some (cs, pc', L', st', w')) (hc : ev_all cs)
    (kk : ev_kk μ p l e R s m args below meth c D ct ad0 ad A N0 Q kc ks pc' L' st' w') : ev_kk μ p l e R s m args below meth c D ct ad0 ad A N0 Q kc ks pc L st w := by
  obtain ⟨hok, ⟨hx, hb, hml, hr, hown, hts, hlocks, hnm, hR⟩, hK, hA⟩ := h0
  obtain ⟨ins, nx, k, x, y, v⟩ := i
  obtain ⟨hd, hnx, hv⟩ := ev_use hok hlk
  intro H locs ls I1
  have I1' := I1
  obtain ⟨hP, hD, hS, had, hL⟩ := I1
  cases ins with
  | iconst n =>
    dsimp only [ev_step] at hs
    split at hs <;> cases hs
    subst hnx
    have hv := of_decide_eq_true hv
    cases hv
    exact lv_iconst hx hb hd rfl (kk _ _ _ I1')
  | bipush n =>
    dsimp only [ev_step] at hs
    split at hs <;> cases hs
    subst hnx
    have hv := of_decide_eq_true hv
    cases hv
    exact lv_bipush hx hb hd rfl (kk _ _ _ I1')
  | sipush n =>
    dsimp only [ev_step] at hs
    split at hs <;> cases hs
    subst hnx
    have hv := of_decide_eq_true hv
    cases hv
    exact lv_sipush hx hb hd rfl (kk _ _ _ I1')
  | ldc n =>
    dsimp only [ev_step] at hs
    split at hs <;> cases hs
    subst hnx
    exact lv_ldc hx hb hown (hts _ (ev_has_in hv)) hd (kk _ _ _ I1')
  | ldc_w n =>
    dsimp only [ev_step] at hs
    split at hs <;> cases hs
    subst hnx
    exact lv_ldcw hx hb hown (hts _ (ev_has_in hv)) hd (kk _ _ _ I1')
  | ldc2_w n =>
    dsimp only [ev_step] at hs
    split at hs <;> cases hs
    · subst hnx
      exact lv_ldc2 hx hb hown (hts _ (ev_has_in hv)) hd (kk _ _ _ I1')
    · subst hnx
      exact lv_ldc2d hx hb hown (hts _ (ev_has_in hv)) hd (kk _ _ _ I1')
  | lconst n =>
    dsimp only [ev_step] at hs
    split at hs <;> cases hs
    subst hnx
    have hv := of_decide_eq_true hv
    cases hv
    exact lv_lconst hx hb hd rfl (kk _ _ _ I1')
  | dconst n =>
    dsimp only [ev_step] at hs
    split at hs <;> cases hs
    subst hnx
    have hv9 := of_decide_eq_true hv
    clear hv
    rcases hv9 with ⟨h8, h9⟩ | ⟨h8, h9⟩
    · subst h8; cases h9
      exact lv_dconst0 hx hb hd (kk _ _ _ I1')
    · subst h8; cases h9
      exact lv_dconst1 hx hb hd (kk _ _ _ I1')
  | iload n =>
    dsimp only [ev_step] at hs
    split at hs <;> cases hs
    next hn =>
    have hv := of_decide_eq_true hv
    subst hnx; subst hv
    exact lv_iload hx hb hd (hL.2.2 _ _ hn) (kk _ _ _ I1')
  | lload n =>
    dsimp only [ev_step] at hs
    split at hs <;> cases hs
    next hn =>
    have hv := of_decide_eq_true hv
    subst hnx; subst hv
    exact lv_lload hx hb hd (hL.2.2 _ _ hn) (kk _ _ _ I1')
  | iload_n n =>
    dsimp only [ev_step] at hs
    split at hs <;> cases hs
    next hn =>
    have hv := of_decide_eq_true hv
    subst hnx
    exact lv_iload_n hx hb hd hv (hL.2.2 _ _ hn) (kk _ _ _ I1')
  | lload_n n =>
    dsimp only [ev_step] at hs
    split at hs <;> cases hs
    next hn =>
    have hv := of_decide_eq_true hv
    subst hnx
    exact lv_lload_n hx hb hd hv (hL.2.2 _ _ hn) (kk _ _ _ I1')
  | dload n =>
    dsimp only [ev_step] at hs
    split at hs <;> cases hs
    next hn =>
    have hv := of_decide_eq_true hv
    subst hnx; subst hv
    exact lv_dload hx hb hd (hL.2.2 _ _ hn) (kk _ _ _ I1')
  | dload_n n =>
    dsimp only [ev_step] at hs
    split at hs <;> cases hs
    next hn =>
    have hv := of_decide_eq_true hv
    subst hnx
    exact lv_dload_n hx hb hd hv (hL.2.2 _ _ hn) (kk _ _ _ I1')
  | aload n =>
    dsimp only [ev_step] at hs
    split at hs <;> cases hs
    next hn =>
    have hv := of_decide_eq_true hv
    subst hnx; subst hv
    exact lv_aload hx hb hd (hL.2.2 _ _ hn) (kk _ _ _ I1')
  | aload_n n =>
    dsimp only [ev_step] at hs
    split at hs <;> cases hs
    next hn =>
    have hv := of_decide_eq_true hv
    subst hnx
    exact lv_aload_n hx hb hd hv (hL.2.2 _ _ hn) (kk _ _ _ I1')
  | istore n =>
    dsimp only [ev_step] at hs
    split at hs <;> cases hs
    obtain ⟨hv, hv2⟩ := Bool.and_eq_true_iff.mp hv
    have hv := of_decide_eq_true hv
    have hv2 := of_decide_eq_true hv2
    subst hnx; subst hv
    exact lv_istore hx hb hd hL.has hv2 rfl (fun ls2 h2 => kk _ _ _ (I1'.ls (ev_LH.st1 h2)))
  | istore_n n =>
    dsimp only [ev_step] at hs
    split at hs <;> cases hs
    obtain ⟨hv, hv2⟩ := Bool.and_eq_true_iff.mp hv
    have hv := of_decide_eq_true hv
    have hv2 := of_decide_eq_true hv2
    subst hnx
    exact lv_istore_n hx hb hd hv hL.has hv2 rfl (fun ls2 h2 => kk _ _ _ (I1'.ls (ev_LH.st1 h2)))
  | lstore n =>
    dsimp only [ev_step] at hs
    split at hs <;> cases hs
    obtain ⟨hv, hv2⟩ := Bool.and_eq_true_iff.mp hv
    have hv := of_decide_eq_true hv
    have hv2 := of_decide_eq_true hv2
    subst hnx; subst hv
    exact lv_lstore hx hb hd hL.has hv2 rfl (fun ls2 h2 => kk _ _ _ (I1'.ls (ev_LH.st2 h2)))
  | lstore_n n =>
    dsimp only [ev_step] at hs
    split at hs <;> cases hs
    obtain ⟨hv, hv2⟩ := Bool.and_eq_true_iff.mp hv
    have hv := of_decide_eq_true hv
    have hv2 := of_decide_eq_true hv2
    subst hnx
    exact lv_lstore_n hx hb hd hv hL.has hv2 rfl (fun ls2 h2 => kk _ _ _ (I1'.ls (ev_LH.st2 h2)))
  | dstore n =>
    dsimp only [ev_step] at hs
    split at hs <;> cases hs
    obtain ⟨hv, hv2⟩ := Bool.and_eq_true_iff.mp hv
    have hv := of_decide_eq_true hv
    have hv2 := of_decide_eq_true hv2
    subst hnx; subst hv
    exact lv_dstore hx hb hd hL.has hv2 rfl (fun ls2 h2 => kk _ _ _ (I1'.ls (ev_LH.st2 h2)))
  | dstore_n n =>
    dsimp only [ev_step] at hs
    split at hs <;> cases hs
    obtain ⟨hv, hv2⟩ := Bool.and_eq_true_iff.mp hv
    have hv := of_decide_eq_true hv
    have hv2 := of_decide_eq_true hv2
    subst hnx
    exact lv_dstore_n hx hb hd hv hL.has hv2 rfl (fun ls2 h2 => kk _ _ _ (I1'.ls (ev_LH.st2 h2)))
  | astore n =>
    dsimp only [ev_step] at hs
    split at hs <;> cases hs
    obtain ⟨hv, hv2⟩ := Bool.and_eq_true_iff.mp hv
    have hv := of_decide_eq_true hv
    have hv2 := of_decide_eq_true hv2
    subst hnx; subst hv
    exact lv_astore hx hb hd hL.has hv2 rfl (fun ls2 h2 => kk _ _ _ (I1'.ls (ev_LH.st1 h2)))
  | astore_n n =>
    dsimp only [ev_step] at hs
    split at hs <;> cases hs
    obtain ⟨hv, hv2⟩ := Bool.and_eq_true_iff.mp hv
    have hv := of_decide_eq_true hv
    have hv2 := of_decide_eq_true hv2
    subst hnx
    exact lv_astore_n hx hb hd hv hL.has hv2 rfl (fun ls2 h2 => kk _ _ _ (I1'.ls (ev_LH.st1 h2)))
  | iinc i n =>
    dsimp only [ev_step] at hs
    split at hs <;> cases hs
    next hn =>
    have hw1 : (_ && _) = true := hv
    have hw2 := Bool.and_eq_true_iff.mp hw1
    have hw3 := Bool.and_eq_true_iff.mp hw2.1
    have g1 := of_decide_eq_true hw3.1
    have g2 := of_decide_eq_true hw2.2
    have g3 := of_decide_eq_true hw3.2
    have g4 := Value.int.inj g1
    clear hv hw1 hw2 hw3 g1
    subst hnx; subst g3; subst g4
    obtain ⟨q, hq⟩ := hL.k hn
    exact lv_iinc hx hb hd hL.has hq rfl g2 rfl (fun ls2 h2 => kk _ _ _ (I1'.ls (ev_LH.st1 (v := .int _) h2)))
  | iadd =>
    dsimp only [ev_step] at hs
    split at hs <;> cases hs
    subst hnx
    exact lv_iadd hx hb hd (kk _ _ _ I1')
  | isub =>
    dsimp only [ev_step] at hs
    split at hs <;> cases hs
    subst hnx
    exact lv_isub hx hb hd (kk _ _ _ I1')
  | imul =>
    dsimp only [ev_step] at hs
    split at hs <;> cases hs
    subst hnx
    exact lv_imul hx hb hd (kk _ _ _ I1')
  | iand =>
    dsimp only [ev_step] at hs
    split at hs <;> cases hs
    subst hnx
    exact lv_iand hx hb hd (kk _ _ _ I1')
  | ior =>
    dsimp only [ev_step] at hs
    split at hs <;> cases hs
    subst hnx
    exact lv_ior hx hb hd (kk _ _ _ I1')
  | ixor =>
    dsimp only [ev_step] at hs
    split at hs <;> cases hs
    subst hnx
    exact lv_ixor hx hb hd (kk _ _ _ I1')
  | ishl =>
    dsimp only [ev_step] at hs
    split at hs <;> cases hs
    subst hnx
    exact lv_ishl hx hb hd (kk _ _ _ I1')
  | ishr =>
    dsimp only [ev_step] at hs
    split at hs <;> cases hs
    subst hnx
    exact lv_ishr hx hb hd (kk _ _ _ I1')
  | ladd =>
    dsimp only [ev_step] at hs
    split at hs <;> cases hs
    subst hnx
    exact lv_ladd hx hb hd (kk _ _ _ I1')
  | lsub =>
    dsimp only [ev_step] at hs
    split at hs <;> cases hs
    subst hnx
    exact lv_lsub hx hb hd (kk _ _ _ I1')
  | lmul =>
    dsimp only [ev_step] at hs
    split at hs <;> cases hs
    subst hnx
    exact lv_lmul hx hb hd (kk _ _ _ I1')
  | iushr =>
    dsimp only [ev_step] at hs
    split at hs <;> cases hs
    subst hnx
    exact lv_iushr hx hb hd rfl (kk _ _ _ I1')
  | lshl =>
    dsimp only [ev_step] at hs
    split at hs <;> cases hs
    subst hnx
    exact lv_lshl hx hb hd rfl (kk _ _ _ I1')
  | i2l =>
    dsimp only [ev_step] at hs
    split at hs <;> cases hs
    subst hnx
    exact lv_i2l hx hb hd rfl (kk _ _ _ I1')
  | i2d =>
    dsimp only [ev_step] at hs
    split at hs <;> cases hs
    subst hnx
    exact lv_i2d hx hb hd (kk _ _ _ I1')
  | d2l =>
    dsimp only [ev_step] at hs
    split at hs <;> cases hs
    subst hnx
    exact lv_d2l hx hb hd (kk _ _ _ I1')
  | idiv =>
    dsimp only [ev_step] at hs
    split at hs <;> cases hs
    subst hnx
    exact lv_idiv hx hb hd hc (kk _ _ _ I1')
  | irem =>
    dsimp only [ev_step] at hs
    split at hs <;> cases hs
    subst hnx
    exact lv_irem hx hb hd hc (kk _ _ _ I1')
  | ldiv =>
    dsimp only [ev_step] at hs
    split at hs <;> cases hs
    subst hnx
    exact lv_ldiv hx hb hd hc (kk _ _ _ I1')
  | lrem =>
    dsimp only [ev_step] at hs
    split at hs <;> cases hs
    subst hnx
    exact lv_lrem hx hb hd hc (kk _ _ _ I1')
  | dmul =>
    dsimp only [ev_step] at hs
    split at hs <;> cases hs
    subst hnx
    exact lv_dmul hx hb hd hc (kk _ _ _ I1')
  | ddiv =>
    dsimp only [ev_step] at hs
    split at hs <;> cases hs
    subst hnx
    exact lv_ddiv hx hb hd hc (kk _ _ _ I1')
  | dsub =>
    dsimp only [ev_step] at hs
    split at hs <;> cases hs
    subst hnx
    exact lv_dsub hx hb hd hc (kk _ _ _ I1')
  | lcmp =>
    dsimp only [ev_step] at hs
    split at hs <;> cases hs
    subst hnx
    exact W.lcmp hx hb hd (kk _ _ _ I1')
  | dcmp op =>
    dsimp only [ev_step] at hs
    split at hs <;> cases hs
    subst hnx
    exact lv_dcmp hx hb hd (kk _ _ _ I1')
  | dup =>
    dsimp only [ev_step] at hs
    split at hs <;> cases hs
    · subst hnx
      exact lv_dup hx hb hd rfl (kk _ _ _ I1')
    · subst hnx
      exact lv_dup hx hb hd rfl (kk _ _ _ I1')
  | dup2 =>
    dsimp only [ev_step] at hs
    split at hs <;> cases hs
    subst hnx
    exact lv_dup2_11 hx hb hd rfl rfl (kk _ _ _ I1')
  | pop =>
    dsimp only [ev_step] at hs
    split at hs <;> cases hs
    · subst hnx
      exact lv_pop (va := .int _) hx hb hd rfl (kk _ _ _ I1')
    · subst hnx
      exact lv_pop (va := .ref _) hx hb hd rfl (kk _ _ _ I1')
  | goto o =>
    dsimp only [ev_step] at hs
    cases hs
    exact lv_goto hx hb hd (of_decide_eq_true hv) (kk _ _ _ I1')
  | getfield n =>
    dsimp only [ev_step] at hs
    split at hs
    · split at hs
      · next a r _ ci fs hw =>
        split at hs
        · next hci =>
          split at hs
          · next u hu =>
            cases hs
            subst hnx
            have hci := Nat.eq_of_beq_eq_true hci
            subst hci
            rw [ev_wg_eq] at hw
            rw [ev_fg_eq] at hu
            obtain ⟨q1, q2, q3⟩ := ev_fl_use hv
            have hlay := ev_lay_get (ad := ad) (ct := ct) hw
            have hval : (fs.map (ev_cv ad))[y]? = some (ev_cv ad u) := by rw [List.getElem?_map, hu]; rfl
            rcases q3 with q3 | ⟨host, q3⟩
            · exact va_get hx hb hts (ev_wsin q1) hown hK hP a hlay (ev_cl q1) y q2 (hts _ q3) (fun _ h9 => h9) hval hd (kk _ _ _ I1')
            · exact va_getN hx hb hts (ev_wsin q1) hown hK hP a hlay (ev_cl q1) y q2 (hts _ q3) (fun _ h9 => h9) hval hd (kk _ _ _ I1')
          · cases hs
        · cases hs
      · cases hs
    · cases hs
  | putfield n =>
    dsimp only [ev_step] at hs
    split at hs
    · split at hs
      · next u a r _ ci fs hw =>
        split at hs
        · next hci =>
          split at hs
          · next u0 hu hfit =>
            cases hs
            subst hnx
            have hci := Nat.eq_of_beq_eq_true hci
            subst hci
            rw [ev_wg_eq] at hw
            rw [ev_fg_eq] at hu
            have hlay := ev_lay_get (ad := ad) (ct := ct) hw
            have hlen : y < (fs.map (ev_cv ad)).length := by rw [List.length_map]; exact (List.getElem?_eq_some_iff.mp hu).1
            obtain ⟨f1, f2⟩ := ev_fit_ok hfit ad
            obtain ⟨hv, hv3⟩ := Bool.and_eq_true_iff.mp hv
            obtain ⟨hv1, hv2⟩ := Bool.and_eq_true_iff.mp hv
            have q1 := of_decide_eq_true hv1
            have q2 := of_decide_eq_true hv2
            have kk2 : ∀ (H1 : Heap) (locs1 : List Loc), va_P D vwCl ((ev_lay ad ct w).set a (ad a, .inr (ci, (fs.map (ev_cv ad)).set y (ev_cv ad u)))) H1 → va_D A ((ev_lay ad ct w).set a (ad a, .inr (ci, (fs.map (ev_cv ad)).set y (ev_cv ad u)))) → va_S A s.heap H1 locs1 → W p l e R s m args below meth c H1 locs1 kc ks Q (F0 m (pc + 3) ls (st'.map (ev_cv ad))) := by
              intro H1 locs1 g1 g2 g3
              exact kk _ _ _ (I1'.set (E := .inr (ci, ev_fs fs y u)) (by rw [ev_fs_eq, ev_map_set]; rfl) g1 g2 g3)
            by_cases hfin : (ev_F ci y).2.2.2 = true
            · rw [if_pos hfin] at hv3
              obtain ⟨hv4, hv5⟩ := Bool.and_eq_true_iff.mp hv3
              obtain ⟨hv6, hv7⟩ := Bool.and_eq_true_iff.mp hv4
              exact va_putF hx hb hts (ev_wsin q1) (ev_ty ci) (ev_tyok q1) (ev_nm q1) hown hK hP hD hS a hlay (ev_cl q1) y q2 (hts _ (ev_has_in hv5)) (fun _ h9 => h9) hfin (hnm.trans (of_decide_eq_true hv6)) (of_decide_eq_true hv7) (ev_tyok q1 y q2) f1 f2 hlen hd kk2
            · rw [if_neg hfin] at hv3
              have hfin : (ev_F ci y).2.2.2 = false := by simpa using hfin
              obtain ⟨-, -, q3⟩ := ev_fl_use hv3
              rcases q3 with q3 | ⟨host, q3⟩
              · exact va_put hx hb hts (ev_wsin q1) (ev_ty ci) (ev_tyok q1) (ev_nm q1) hown hK hP hD hS a hlay (ev_cl q1) y q2 (hts _ q3) (fun _ h9 => h9) hfin (ev_tyok q1 y q2) f1 f2 hlen hd kk2
              · exact va_putN hx hb hts (ev_wsin q1) (ev_ty ci) (ev_tyok q1) (ev_nm q1) hown hK hP hD hS a hlay (ev_cl q1) y q2 (hts _ q3) (fun _ h9 => h9) hfin (ev_tyok q1 y q2) f1 f2 hlen hd kk2
          · cases hs
        · cases hs
      · cases hs
    · cases hs
  | iaload =>
    dsimp only [ev_step] at hs
    split at hs
    · split at hs
      · next hw =>
        cases hs
        subst hnx
        rw [ev_wg_eq] at hw
        exact va_iald hx hb hK hP _ 0 (ev_lay_get (ad := ad) (ct := ct) hw) rfl hc hd (kk _ _ _ I1')
      · cases hs
    · cases hs
  | laload =>
    dsimp only [ev_step] at hs
    split at hs
    · split at hs
      · next hw =>
        cases hs
        subst hnx
        rw [ev_wg_eq] at hw
        exact va_lald hx hb hK hP _ 1 (ev_lay_get (ad := ad) (ct := ct) hw) rfl hc hd (kk _ _ _ I1')
      · cases hs
    · cases hs
  | iastore =>
    dsimp only [ev_step] at hs
    split at hs
    · split at hs
      · next hw =>
        cases hs
        subst hnx
        rw [ev_wg_eq] at hw
        exact va_iast hx hb hK hP hD hS _ 0 (ev_lay_get (ad := ad) (ct := ct) hw) rfl hc hd (fun H1 locs1 g1 g2 g3 => kk _ _ _ (I1'.set (E := .inl (0, _, .inl _)) rfl g1 g2 g3))
      · cases hs
    · cases hs
  | lastore =>
    dsimp only [ev_step] at hs
    split at hs
    · split at hs
      · next hw =>
        cases hs
        subst hnx
        rw [ev_wg_eq] at hw
        exact va_last hx hb hK hP hD hS _ 1 (ev_lay_get (ad := ad) (ct := ct) hw) rfl hc hd (fun H1 locs1 g1 g2 g3 => kk _ _ _ (I1'.set (E := .inl (1, _, .inr (.inl _))) rfl g1 g2 g3))
      · cases hs
    · cases hs
  | tableswitch d lo hi offs =>
    dsimp only [ev_step] at hs
    split at hs
    · split at hs
      · next e1 e2 =>
        split at hs
        · next o ho =>
          split at hs
          · next ht =>
            cases hs
            have hv := of_decide_eq_true hv
            subst hv
            exact lv_tableIn hx hb hd (of_decide_eq_false e1) (of_decide_eq_false e2) ho (of_decide_eq_true ht) (kk _ _ _ I1')
          · cases hs
        · cases hs
      · cases hs
    · cases hs
  | _ => cases hs
end EVS
end
section
/-! ===== the abstract run as a judgement: from here the body comes to one of the exits X ===== -/
abbrev ev_X : Type := Nat → ev_L → List Value → List ev_E → Nat → Nat → Prop
def ev_eqn (N0 : Option Nat) (ad ad0 : Nat → Nat) : Prop := match N0 with
  | none => ad = ad0
  | some n => ∀ k, k < n → ad k = ad0 k
/-- what changes: the cells, the locals -/
def ev_I2 (μ : ev_M) (s : State) (D : va_G) (ct : Nat → ClassId) (ad0 : Nat → Nat) (A : Nat → Prop) (N0 : Option Nat) (ad : Nat → Nat) (H : Heap) (locs : List Loc) (ls : Array Slot) (L : ev_L) (w : List ev_E) : Prop :=
  va_P D vwCl (ev_lay ad ct w) H ∧ va_D A (ev_lay ad ct w) ∧ va_S A s.heap H locs ∧ ev_eqn N0 ad ad0 ∧ ev_LH ad ls (ev_nL μ) L
def ev_k2 (μ : ev_M) (p : Program) (l : Launch) (e : Env) (R : Room) (s : State) (m : MethodId) (args : Array Value) (below : List Frame) (meth : Method) (c : Code) (D : va_G) (ct : Nat → ClassId) (ad0 : Nat → Nat) (A : Nat → Prop) (N0 : Option Nat) (Q : State → Prop) (pc : Nat) (L : ev_L) (st : List Value) (w : List ev_E) (kc ks : Nat) : Prop :=
  ∀ (ad : Nat → Nat) (H : Heap) (locs : List Loc) (ls : Array Slot), ev_I2 μ s D ct ad0 A N0 ad H locs ls L w → W p l e R s m args below meth c H locs kc ks Q (F0 m pc ls (st.map (ev_cv ad)))
def ev_V (μ : ev_M) (N0 : Option Nat) (X : ev_X) (pc : Nat) (L : ev_L) (st : List Value) (w : List ev_E) (kc ks : Nat) : Prop :=
  ∀ (p : Program) (l : Launch) (e : Env) (R : Room) (s : State) (m : MethodId) (args : Array Value) (below : List Frame) (meth : Method) (c : Code) (D : va_G) (ct : Nat → ClassId) (ad0 : Nat → Nat) (A : Nat → Prop) (Q : State → Prop),
    ev_I0 μ p R s m args meth c D ct A →
    (∀ pc' L' st' w' kc' ks', X pc' L' st' w' kc' ks' → ev_k2 μ p l e R s m args below meth c D ct ad0 A N0 Q pc' L' st' w' kc' ks') →
    ev_k2 μ p l e R s m args below meth c D ct ad0 A N0 Q pc L st w kc ks
theorem ev_exit {μ : ev_M} {N0 : Option Nat} {X : ev_X} {pc : Nat} {L : ev_L} {st : List Value} {w : List ev_E} {kc ks : Nat} (h : X pc L st w kc ks) : ev_V μ N0 X pc L st w kc ks := fun _ _ _ _ _ _ _ _ _ _ _ _ _ _ _ _ hx => hx _ _ _ _ _ _ h
theorem ev_bind {μ : ev_M} {N0 : Option Nat} {X Y : ev_X} {pc : Nat} {L : ev_L} {st : List Value} {w : List ev_E} {kc ks : Nat} (h : ev_V μ N0 X pc L st w kc ks) (hX : ∀ pc' L' st' w' kc' ks', X pc' L' st' w' kc' ks' → ev_V μ N0 Y pc' L' st' w' kc' ks') : ev_V μ N0 Y pc L st w kc ks :=
  fun p l e R s m args below meth c D ct ad0 A Q h0 hy => h p l e R s m args below meth c D ct ad0 A Q h0 fun pc' L' st' w' kc' ks' hx => hX pc' L' st' w' kc' ks' hx p l e R s m args below meth c D ct ad0 A Q h0 hy
theorem ev_step1 {μ : ev_M} {N0 : Option Nat} {X : ev_X} {pc : Nat} {L : ev_L} {st : List Value} {w : List ev_E} {kc ks : Nat} {i : ev_I} {cs : List Prop} {pc' : Nat} {L' : ev_L} {st' : List Value} {w' : List ev_E} (hlk : ev_look (ev_tab μ) pc = some i) (hs : ev_step i L st w = some (cs, pc', L', st', w')) (hc : ev_all cs)
    (k : ev_V μ N0 X pc' L' st' w' kc ks) : ev_V μ N0 X pc L st w kc ks := by
  intro p l e R s m args below meth c D ct ad0 A Q h0 hx ad H locs ls I
  refine ev_step_ok (N0 := 0) (ad0 := ad0) h0 hlk hs hc ?_ H locs ls ⟨I.1, I.2.1, I.2.2.1, fun k hk => absurd hk (Nat.not_lt_zero k), I.2.2.2.2⟩
  intro H' locs' ls' I1
  exact k p l e R s m args below meth c D ct ad0 A Q h0 hx ad H' locs' ls' ⟨I1.1, I1.2.1, I1.2.2.1, I.2.2.2.1, I1.2.2.2.2⟩
theorem ev_all_iff (l : List Prop) : ev_all l ↔ ∀ q ∈ l, q := by
  induction l with
  | nil => exact ⟨fun _ q hq => absurd hq List.not_mem_nil, fun _ => trivial⟩
  | cons a l ih =>
    cases l with
    | nil => exact ⟨fun h => List.forall_mem_cons.mpr ⟨h, List.forall_mem_nil _⟩, fun h => (List.forall_mem_cons.mp h).1⟩
    | cons b l => exact ⟨fun h => List.forall_mem_cons.mpr ⟨h.1, ih.mp h.2⟩, fun h => ⟨(List.forall_mem_cons.mp h).1, ih.mpr (List.forall_mem_cons.mp h).2⟩⟩
theorem ev_go_ok {μ : ev_M} {N0 : Option Nat} {X : ev_X} {cuts : List Nat} {kc ks : Nat} {pc' : Nat} {L' : ev_L} {st' : List Value} {w' : List ev_E} (k : ev_V μ N0 X pc' L' st' w' kc ks) (n : Nat) : ∀ (cs0 cs : List Prop) (pc : Nat) (L : ev_L) (st : List Value) (w : List ev_E), ev_go (ev_tab μ) cuts n cs0 pc L st w = (cs, pc', L', st', w') → (∀ q ∈ cs, q) → ev_V μ N0 X pc L st w kc ks ∧ ∀ q ∈ cs0, q := by
  induction n with
  | zero =>
    intro cs0 cs pc L st w h hc
    cases h
    exact ⟨k, hc⟩
  | succ n ih =>
    intro cs0 cs pc L st w h hc
    unfold ev_go at h
    split at h
    · cases h; exact ⟨k, hc⟩
    · next i hlk =>
      split at h
      · cases h; exact ⟨k, hc⟩
      · next c1 pc1 L1 st1 w1 hs =>
        split at h
        · cases h
          refine ⟨ev_step1 hlk hs ((ev_all_iff _).mpr fun q hq => hc q (List.mem_append_right _ hq)) k, fun q hq => hc q (List.mem_append_left _ hq)⟩
        · obtain ⟨h1, h2⟩ := ih _ _ _ _ _ _ h hc
          exact ⟨ev_step1 hlk hs ((ev_all_iff _).mpr fun q hq => h2 q (List.mem_append_right _ hq)) h1, fun q hq => h2 q (List.mem_append_left _ hq)⟩
/-- a straight stretch: by rfl -/
theorem ev_run {μ : ev_M} {N0 : Option Nat} {X : ev_X} (cuts : List Nat) (n : Nat) {pc : Nat} {L : ev_L} {st : List Value} {w : List ev_E} {kc ks : Nat} {cs : List Prop} {pc' : Nat} {L' : ev_L} {st' : List Value} {w' : List ev_E} (h : ev_fO (ev_go (ev_tab μ) cuts n [] pc L st w) = (cs, pc', L', st', w')) (hc : ev_all cs)
    (k : ev_V μ N0 X pc' L' st' w' kc ks) : ev_V μ N0 X pc L st w kc ks := by
  rw [ev_fO_eq] at h
  exact (ev_go_ok k n [] cs pc L st w h ((ev_all_iff _).mp hc)).1
-- branches
def ev_test (ins : Instr) (st : List Value) : Option (Prop × Prop × List Value) := match ins with
  | .ifCond .eq _ => match st with | .int a :: r => some (a = 0, ¬ a = 0, r) | _ => none
  | .ifCond .ne _ => match st with | .int a :: r => some (¬ a = 0, a = 0, r) | _ => none
  | .ifCond .lt _ => match st with | .int a :: r => some (a < 0, ¬ a < 0, r) | _ => none
  | .ifCond .ge _ => match st with | .int a :: r => some (0 ≤ a, ¬ 0 ≤ a, r) | _ => none
  | .ifCond .gt _ => match st with | .int a :: r => some (0 < a, ¬ 0 < a, r) | _ => none
  | .ifCond .le _ => match st with | .int a :: r => some (a ≤ 0, ¬ a ≤ 0, r) | _ => none
  | .if_icmp .eq _ => match st with | .int b :: .int a :: r => some (a = b, ¬ a = b, r) | _ => none
  | .if_icmp .ne _ => match st with | .int b :: .int a :: r => some (¬ a = b, a = b, r) | _ => none
  | .if_icmp .lt _ => match st with | .int b :: .int a :: r => some (a < b, ¬ a < b, r) | _ => none
  | .if_icmp .ge _ => match st with | .int b :: .int a :: r => some (b ≤ a, ¬ b ≤ a, r) | _ => none
  | .if_icmp .gt _ => match st with | .int b :: .int a :: r => some (b < a, ¬ b < a, r) | _ => none
  | .if_icmp .le _ => match st with | .int b :: .int a :: r => some (a ≤ b, ¬ a ≤ b, r) | _ => none
  | _ => none
set_option maxHeartbeats 1000000 in
theorem ev_br {μ : ev_M} {N0 : Option Nat} {X : ev_X} {pc : Nat} {L : ev_L} {st : List Value} {w : List ev_E} {kc ks : Nat} {ins : Instr} {nx k x y : Nat} {v : Value} {P N : Prop} {r : List Value} (hlk : ev_look (ev_tab μ) pc = some (ins, nx, k, x, y, v)) (ht : ev_test ins st = some (P, N, r))
    (kt : P → ev_V μ N0 X x L r w kc ks) (kf : N → ev_V μ N0 X nx L r w kc ks) : ev_V μ N0 X pc L st w kc ks := by
  intro p l e R s m args below meth c D ct ad0 A Q h0 hx ad H locs ls I
  have h0' := h0
  obtain ⟨hok, ⟨hx1, hb, -⟩, -⟩ := h0
  obtain ⟨hd, hnx, hv⟩ := ev_use hok hlk
  have kt' := fun hP => kt hP p l e R s m args below meth c D ct ad0 A Q h0' hx ad H locs ls I
  have kf' := fun hP => kf hP p l e R s m args below meth c D ct ad0 A Q h0' hx ad H locs ls I
  unfold ev_test at ht
  split at ht <;> first | (cases ht; done) | skip
  all_goals (split at ht <;> cases ht)
  all_goals (have hv := of_decide_eq_true hv; subst hnx)
  · exact lv_if_eq hx1 hb hd hv kt' kf'
  · exact lv_if_ne hx1 hb hd hv kt' kf'
  · exact lv_if_lt hx1 hb hd hv kt' kf'
  · exact lv_if_ge hx1 hb hd hv kt' kf'
  · exact lv_if_gt hx1 hb hd hv kt' kf'
  · exact lv_if_le hx1 hb hd hv kt' kf'
  · exact lv_icmp_eq hx1 hb hd hv kt' kf'
  · exact lv_icmp_ne hx1 hb hd hv kt' kf'
  · exact lv_icmp_lt hx1 hb hd hv kt' kf'
  · exact lv_icmp_ge hx1 hb hd hv kt' kf'
  · exact lv_icmp_gt hx1 hb hd hv kt' kf'
  · exact lv_icmp_le hx1 hb hd hv kt' kf'
/-- a switch beside its table -/
theorem ev_tso {μ : ev_M} {N0 : Option Nat} {X : ev_X} {pc : Nat} {L : ev_L} {w : List ev_E} {kc ks : Nat} {d lo hi : Int} {offs : Array Int} {nx k x y : Nat} {v : Value} {a : Int32} {r : List Value} (tgt : Nat) (hlk : ev_look (ev_tab μ) pc = some (.tableswitch d lo hi offs, nx, k, x, y, v)) (ha : a.toInt < lo ∨ hi < a.toInt) (ht : (pc : Int) + d = (tgt : Int))
    (kt : ev_V μ N0 X tgt L r w kc ks) : ev_V μ N0 X pc L (.int a :: r) w kc ks := by
  intro p l e R s m args below meth c D ct ad0 A Q h0 hx ad H locs ls I
  have h0' := h0
  obtain ⟨hok, ⟨hx1, hb, -⟩, -⟩ := h0
  obtain ⟨hd, hnx, hv⟩ := ev_use hok hlk
  exact lv_tableOut hx1 hb hd ha ht (kt p l e R s m args below meth c D ct ad0 A Q h0' hx ad H locs ls I)
theorem ev_lsw {μ : ev_M} {N0 : Option Nat} {X : ev_X} {pc : Nat} {L : ev_L} {w : List ev_E} {kc ks : Nat} {d : Int} {ps : Array (Int × Int)} {nx k x y : Nat} {v : Value} {a : Int32} {r : List Value} {off : Int} (tgt : Nat) (hlk : ev_look (ev_tab μ) pc = some (.lookupswitch d ps, nx, k, x, y, v)) (hp : (ps.toList.zip (ps.toList.drop 1)).all (fun (a, next) => a.1 < next.1) = true) (ho : Op.lookupswitch.offset ps.toList d a.toInt = off) (ht : (pc : Int) + off = (tgt : Int))
    (kt : ev_V μ N0 X tgt L r w kc ks) : ev_V μ N0 X pc L (.int a :: r) w kc ks := by
  intro p l e R s m args below meth c D ct ad0 A Q h0 hx ad H locs ls I
  have h0' := h0
  obtain ⟨hok, ⟨hx1, hb, -⟩, -⟩ := h0
  obtain ⟨hd, hnx, hv⟩ := ev_use hok hlk
  exact lv_lookup hx1 hb hd hp ho ht (kt p l e R s m args below meth c D ct ad0 A Q h0' hx ad H locs ls I)
-- a method's contract, and its start
def ev_Qc (D : va_G) (ct : Nat → ClassId) (ad0 : Nat → Nat) (N0 : Option Nat) (A : Nat → Prop) (post : Option Value → List ev_E → Prop) : Array Value → State → Outcome → State → Prop := fun _ st oc t =>
  (∃ (r : Option Value) (w' : List ev_E) (ad' : Nat → Nat), oc = .returned (r.map (ev_cv ad')) ∧ post r w' ∧ ev_eqn N0 ad' ad0 ∧ va_P D vwCl (ev_lay ad' ct w') t.heap ∧ va_K D vwCl (ev_tys ct) t ∧ va_D A (ev_lay ad' ct w')) ∧ va_F A st t
def ev_Pc (D : va_G) (ct : Nat → ClassId) (ad : Nat → Nat) (sz : Nat) (as : List Value) (w : List ev_E) : Array Value → State → Prop := va_Pc (as.map (ev_cv ad)) (fun U => U.heap.size = sz ∧ va_P D vwCl (ev_lay ad ct w) U.heap ∧ va_K D vwCl (ev_tys ct) U ∧ va_D (fun _ => True) (ev_lay ad ct w))
def ev_rm (μ : ev_M) : Room := { frames := ev_fr μ, cells := ev_mc μ, slots := ev_ms μ, locals := ev_lo μ }
def ev_wsm (y : MethodName) (μ : ev_M) : List Jvm.Cond := .code y (ev_cc μ) (ev_nL μ) (ev_rt μ) :: ev_WA
def ev_A (y : MethodName) (μ : ev_M) (N0 : Option Nat) (as : List Value) (w : List ev_E) (post : Option Value → List ev_E → Prop) : Prop :=
  ∀ (l : Launch) (D : va_G) (ct ad : Nat → Nat) (sz : Nat), Met l y (ev_wsm y μ) (ev_rm μ) (ev_Pc D ct ad sz as w) (ev_Qc D ct ad N0 (va_A (ev_lay ad ct w) sz) post) (ev_mc μ) (ev_ms μ) (va_A (ev_lay ad ct w) sz)
def ev_rk (rt : Option FieldType) (ins : Instr) (st : List Value) (r : Option Value) : Prop := match ins, st with
  | .ireturn, [.int v] => r = some (.int v) ∧ (rt = some .int ∨ (rt = some .boolean ∧ narrow .boolean (.int v) = .int v))
  | .lreturn, [.long v] => r = some (.long v) ∧ rt = some .long
  | .dreturn, [.double v] => r = some (.double v) ∧ rt = some .double
  | .return_, [] => r = none ∧ rt = none
  | _, _ => False
def ev_XR (μ : ev_M) (post : Option Value → List ev_E → Prop) : ev_X := fun pc _ st w kc ks => ∃ (i : ev_I) (r : Option Value), ev_look (ev_tab μ) pc = some i ∧ ev_rk (ev_rt μ) i.1 st r ∧ post r w ∧ kc ≤ ev_mc μ ∧ ks ≤ ev_ms μ
def ev_pad : Nat → ev_L
  | 0 => []
  | n + 1 => none :: ev_pad n
def ev_ent : List Value → Nat → ev_L
  | [], n => ev_pad n
  | v :: l, n => match v with
    | .long x => some (.long x) :: none :: ev_ent l (n - 2)
    | .double x => some (.double x) :: none :: ev_ent l (n - 2)
    | .int x => some (.int x) :: ev_ent l (n - 1)
    | .ref x => some (.ref x) :: ev_ent l (n - 1)
    | .null => some .null :: ev_ent l (n - 1)
    | .float x => some (.float x) :: ev_ent l (n - 1)
    | .retAddr x => some (.retAddr x) :: ev_ent l (n - 1)
theorem ev_ent_nil (n i : Nat) (v : Value) : ¬ ev_nth (ev_ent [] n) i = some v := by
  unfold ev_ent
  induction n generalizing i with
  | zero => simp [ev_pad, ev_nth]
  | succ n ih => cases i with
    | zero => simp [ev_pad, ev_nth]
    | succ i => simpa [ev_pad, ev_nth] using ih i
theorem ev_ent_ok (ad : Nat → Nat) (as : List Value) : ∀ (n j i : Nat) (v : Value), ev_nth (ev_ent as n) i = some v → (j + i, ev_cv ad v) ∈ lv_args j (as.map (ev_cv ad)) := by
  induction as with
  | nil => intro n j i v h; exact absurd h (ev_ent_nil n i v)
  | cons a l ih =>
    intro n j i v h
    rw [List.map_cons, lv_args]
    cases a with
    | long x =>
      cases i with
      | zero => cases h; exact List.mem_cons_self
      | succ i => cases i with
        | zero => cases h
        | succ i =>
          have := ih (n - 2) (j + 2) i v h
          rw [show j + (i + 1 + 1) = j + 2 + i by omega]
          exact List.mem_cons_of_mem _ this
    | double x =>
      cases i with
      | zero => cases h; exact List.mem_cons_self
      | succ i => cases i with
        | zero => cases h
        | succ i =>
          have := ih (n - 2) (j + 2) i v h
          rw [show j + (i + 1 + 1) = j + 2 + i by omega]
          exact List.mem_cons_of_mem _ this
    | int x =>
      cases i with
      | zero => cases h; exact List.mem_cons_self
      | succ i =>
        have := ih (n - 1) (j + 1) i v h
        rw [show j + (i + 1) = j + 1 + i by omega]
        exact List.mem_cons_of_mem _ this
    | ref x =>
      cases i with
      | zero => cases h; exact List.mem_cons_self
      | succ i =>
        have := ih (n - 1) (j + 1) i v h
        rw [show j + (i + 1) = j + 1 + i by omega]
        exact List.mem_cons_of_mem _ this
    | null =>
      cases i with
      | zero => cases h; exact List.mem_cons_self
      | succ i =>
        have := ih (n - 1) (j + 1) i v h
        rw [show j + (i + 1) = j + 1 + i by omega]
        exact List.mem_cons_of_mem _ this
    | float x =>
      cases i with
      | zero => cases h; exact List.mem_cons_self
      | succ i =>
        have := ih (n - 1) (j + 1) i v h
        rw [show j + (i + 1) = j + 1 + i by omega]
        exact List.mem_cons_of_mem _ this
    | retAddr x =>
      cases i with
      | zero => cases h; exact List.mem_cons_self
      | succ i =>
        have := ih (n - 1) (j + 1) i v h
        rw [show j + (i + 1) = j + 1 + i by omega]
        exact List.mem_cons_of_mem _ this
set_option maxHeartbeats 1000000 in
theorem ev_start {y : MethodName} {μ : ev_M} {N0 : Option Nat} {as : List Value} {w : List ev_E} {post : Option Value → List ev_E → Prop} (hok : ev_OK μ) (hy : plainName y.cls = true) (hc : y.cls = ev_own μ) (hn : y.name = ev_mn μ) (hsl : (lg_sl as).length ≤ ev_nL μ) (k : ev_V μ N0 (ev_XR μ post) 0 (ev_ent as (ev_nL μ)) [] w 0 0) : ev_A y μ N0 as w post := by
  intro l D ct ad sz
  refine Met.ofW (cc := ev_cc μ) (maxL := ev_nL μ) (ret := ev_rt μ) hy rfl ?_
  intro p e s m args below meth c s₁ B hml hv
  obtain ⟨rfl, hsz, hP, hK, hD0⟩ := hv
  have hts := atoms_spec (ws := ev_wsm y μ) B.pre
  have hD := hD0.self (sz := s.heap.size)
  subst hsz
  have hsl2 : (lg_sl (as.map (ev_cv ad))).length ≤ ev_nL μ := by
    have : (lg_sl (as.map (ev_cv ad))).length = (lg_sl as).length := by
      clear k hsl hP hD hD0 B hts
      induction as with
      | nil => rfl
      | cons a l ih =>
        unfold lg_sl at ih ⊢
        rw [List.map_cons, List.flatMap_cons, List.flatMap_cons, List.length_append, List.length_append, ih, ev_cv_cat]
        by_cases h : a.category = 2 <;> simp [h]
    omega
  have hl := lv_entry (as.map (ev_cv ad)) (n := ev_nL μ) hsl2
  rw [lg_entry_eq]
  refine k p l e _ s m _ below meth c D ct ad _ _ ⟨hok, ⟨B.exec, B.bytes, hml, B.returns, hc ▸ findClass_of_methodNamed B.named, fun w hw => hts w (List.mem_cons_of_mem _ hw), B.notSynchronized, (name_of_methodNamed B.named B.method).1.trans hn, Nat.le_refl _, Nat.le_refl _, Nat.le_refl _, Nat.le_refl _⟩, hK, fun q hq => Or.inr hq⟩ ?_ ad s.heap [] _ ⟨hP, hD, va_S.rf, (by cases N0 with
    | none => rfl
    | some n => exact fun _ _ => rfl), ev_LH.of hl (fun i v h => by simpa using ev_ent_ok ad as (ev_nL μ) 0 i v h)⟩
  intro pc' L' st' w' kc' ks' hX ad' H locs ls I
  obtain ⟨i, r, hlk, hrk, hpost, hkc, hks⟩ := hX
  obtain ⟨ins, nx, kk, x, yy, v⟩ := i
  obtain ⟨hd, -, -⟩ := ev_use hok hlk
  obtain ⟨hP2, hD2, hS2, hE2, -⟩ := I
  refine W.widen hkc hks ?_
  have hr := B.returns
  have hlocks := B.notSynchronized
  unfold ev_rk at hrk
  dsimp only at hrk
  split at hrk
  · obtain ⟨rfl, hrt⟩ := hrk
    rcases hrt with hrt | ⟨hrt, hnar⟩
    · exact W.iret B.exec B.bytes (hr.trans hrt) (fun t ht hW => ⟨⟨_, w', ad', rfl, hpost, hE2, by rw [ht]; exact hP2, va_K.moved hW.alike hK, hD2⟩, hS2.F ht⟩) hS2.2.2 hd
    · exact W.zret B.exec B.bytes (hr.trans hrt) hnar (fun t ht hW => ⟨⟨_, w', ad', rfl, hpost, hE2, by rw [ht]; exact hP2, va_K.moved hW.alike hK, hD2⟩, hS2.F ht⟩) hS2.2.2 hd
  · obtain ⟨rfl, hrt⟩ := hrk
    exact W.lret B.exec B.bytes (hr.trans hrt) (fun t ht hW => ⟨⟨_, w', ad', rfl, hpost, hE2, by rw [ht]; exact hP2, va_K.moved hW.alike hK, hD2⟩, hS2.F ht⟩) hS2.2.2 hd
  · obtain ⟨rfl, hrt⟩ := hrk
    exact W.dret B.exec B.bytes (hr.trans hrt) (fun t ht hW => ⟨⟨_, w', ad', rfl, hpost, hE2, by rw [ht]; exact hP2, va_K.moved hW.alike hK, hD2⟩, hS2.F ht⟩) hS2.2.2 hd
  · obtain ⟨rfl, hrt⟩ := hrk
    exact W.vret B.exec B.bytes (hr.trans hrt) (fun t ht hW => ⟨⟨_, w', ad', rfl, hpost, hE2, by rw [ht]; exact hP2, va_K.moved hW.alike hK, hD2⟩, hS2.F ht⟩) hS2.2.2 hd
  · exact hrk.elim
end
section
/-! ===== calls ===== -/
def ev_ren (em : Nat → Nat) (E : ev_E) : ev_E := match E with
  | .inl a => .inl (a.1, ev_ca em a.2)
  | .inr o => .inr (o.1, o.2.map (ev_cv em))
theorem ev_cv_cv (f g : Nat → Nat) (v : Value) : ev_cv f (ev_cv g v) = ev_cv (fun k => f (g k)) v := by cases v <;> rfl
theorem ev_ca_ca (f g : Nat → Nat) (a : vp_A) : ev_ca f (ev_ca g a) = ev_ca (fun k => f (g k)) a := by
  match a with
  | (n, .inl h) => rfl
  | (n, .inr (.inl h)) => rfl
  | (n, .inr (.inr (.inl h))) => rfl
  | (n, .inr (.inr (.inr (.inl h)))) => rfl
  | (n, .inr (.inr (.inr (.inr h)))) =>
    show (n, _) = (n, _)
    refine congrArg (fun z => (n, z)) ?_
    show Sum.inr (Sum.inr (Sum.inr (Sum.inr _))) = Sum.inr (Sum.inr (Sum.inr (Sum.inr _)))
    refine congrArg (fun z => Sum.inr (Sum.inr (Sum.inr (Sum.inr z)))) ?_
    funext i
    show Option.map f (Option.map g (h i)) = _
    rw [Option.map_map]
    rfl
theorem ev_ce_ren (ad em : Nat → Nat) (ct : Nat → ClassId) (E : ev_E) : ev_ce ad ct (ev_ren em E) = ev_ce (fun k => ad (em k)) ct E := by
  cases E with
  | inl a => show Sum.inl _ = Sum.inl _; rw [ev_ca_ca]
  | inr o => show Sum.inr (o.1, _) = Sum.inr (o.1, _); rw [List.map_map]; exact congrArg (fun z => Sum.inr (o.1, z)) (List.map_congr_left fun v _ => ev_cv_cv ad em v)
def ev_pick (w : List ev_E) (em : Nat → Nat) : Nat → Nat → List ev_E
  | _, 0 => []
  | k, n + 1 => match ev_wg w (em k) with
    | some E => E :: ev_pick w em (k + 1) n
    | none => []
theorem ev_pick_get {w : List ev_E} {em : Nat → Nat} (l : List ev_E) : ∀ (k0 : Nat), ev_pick w em k0 l.length = l.map (ev_ren em) → ∀ (k : Nat) (E : ev_E), l[k]? = some E → w[em (k0 + k)]? = some (ev_ren em E) := by
  induction l with
  | nil => intro k0 _ k E h; simp at h
  | cons a l ih =>
    intro k0 h k E hk
    rw [List.length_cons, ev_pick, List.map_cons] at h
    split at h
    · next E0 hE =>
      injection h with h1 h2
      cases k with
      | zero => simp at hk; subst hk; rw [ev_wg_eq] at hE; rw [Nat.add_zero, hE, h1]
      | succ k =>
        have := ih (k0 + 1) h2 k E (by simpa using hk)
        rw [show k0 + (k + 1) = k0 + 1 + k by omega]
        exact this
    · cases h
def ev_putm (em : Nat → Nat) : List ev_E → Nat → List ev_E → List ev_E
  | w, _, [] => w
  | w, k, E :: l => ev_putm em (ev_ws w (em k) (ev_ren em E)) (k + 1) l
theorem ev_putm_len {em : Nat → Nat} (l : List ev_E) : ∀ (w : List ev_E) (k : Nat), (ev_putm em w k l).length = w.length := by
  induction l with
  | nil => intro w k; rfl
  | cons a l ih => intro w k; rw [ev_putm, ih, ev_ws_eq, List.length_set]
theorem ev_putm_get {em : Nat → Nat} (l : List ev_E) : ∀ (w : List ev_E) (k0 j : Nat) (E : ev_E), (ev_putm em w k0 l)[j]? = some E →
    (∃ i E0, l[i]? = some E0 ∧ j = em (k0 + i) ∧ E = ev_ren em E0) ∨ ((∀ i, i < l.length → ¬ em (k0 + i) = j) ∧ w[j]? = some E) := by
  induction l with
  | nil => intro w k0 j E h; exact Or.inr ⟨fun i hi => absurd hi (Nat.not_lt_zero _), h⟩
  | cons a l ih =>
    intro w k0 j E h
    rw [ev_putm] at h
    rcases ih _ _ _ _ h with ⟨i, E0, h1, h2, h3⟩ | ⟨h1, h2⟩
    · exact Or.inl ⟨i + 1, E0, by simpa using h1, by rw [h2]; congr 1; omega, h3⟩
    · rw [ev_ws_eq, List.getElem?_set] at h2
      by_cases hj : em k0 = j
      · rw [if_pos hj] at h2
        split at h2
        · cases h2; exact Or.inl ⟨0, a, rfl, hj.symm, rfl⟩
        · cases h2
      · rw [if_neg hj] at h2
        refine Or.inr ⟨fun i hi => ?_, h2⟩
        cases i with
        | zero => exact hj
        | succ i =>
          have := h1 i (by simpa using hi)
          rw [show k0 + (i + 1) = k0 + 1 + i by omega]
          exact this
/-- what the tables say of a callee: found by the receiver's class; static; a constructor -/
def ev_CV (y : MethodName) (μ : ev_M) (ci n : Nat) : Prop := Jvm.Cond.code y (ev_cc μ) (ev_nL μ) (ev_rt μ) ∈ ev_WA ∧ Jvm.Cond.initialized y.cls ∈ ev_WA ∧ Jvm.Cond.instanceMethod y ∈ ev_WA ∧ Jvm.Cond.selects y.cls y y ∈ ev_WA ∧ (y.cls ≠ "java/lang/invoke/MethodHandle" ∧ y.cls ≠ "java/lang/invoke/VarHandle" ∧ (parseMethodDescriptor y.desc).map (fun d => d.parameters.length) = some n) ∧ y.cls = ev_R ci ∧ ci < 6
def ev_CS (y : MethodName) (μ : ev_M) (n : Nat) : Prop := Jvm.Cond.code y (ev_cc μ) (ev_nL μ) (ev_rt μ) ∈ ev_WA ∧ Jvm.Cond.initialized y.cls ∈ ev_WA ∧ Jvm.Cond.static y ∈ ev_WA ∧ (y.cls ≠ "java/lang/invoke/MethodHandle" ∧ y.cls ≠ "java/lang/invoke/VarHandle" ∧ (parseMethodDescriptor y.desc).map (fun d => d.parameters.length) = some n)
def ev_CI (y : MethodName) (μ : ev_M) (n : Nat) : Prop := Jvm.Cond.code y (ev_cc μ) (ev_nL μ) (ev_rt μ) ∈ ev_WA ∧ Jvm.Cond.initialized y.cls ∈ ev_WA ∧ Jvm.Cond.instanceMethod y ∈ ev_WA ∧ (y.cls ≠ "java/lang/invoke/MethodHandle" ∧ y.cls ≠ "java/lang/invoke/VarHandle" ∧ (parseMethodDescriptor y.desc).map (fun d => d.parameters.length) = some n) ∧ y.name = "<init>"
def ev_ml (own : String) (idx : Nat) (y : MethodName) : Prop := Jvm.Cond.methodLink own idx y ∈ ev_WA ∨ ∃ host, Jvm.Cond.methodLinkNest own idx y host ∈ ev_WA
theorem ev_pay {y : MethodName} {μ : ev_M} {args : Array Value} {s : State} (hts : ∀ w ∈ ev_WA, w.before args s = true) (h : Jvm.Cond.code y (ev_cc μ) (ev_nL μ) (ev_rt μ) ∈ ev_WA) : ∀ w ∈ ev_wsm y μ, ∀ (a' : Array Value) (U : State), s.WarmedH U.vm → w.before a' U = true := by
  intro w hw a' U hW
  have h1 : w ∈ ev_WA := by
    rcases List.mem_cons.mp hw with rfl | hw
    · exact h
    · exact hw
  exact ev_okw_warm (List.mem_filter.mp h1).2 hW (hts w h1)
theorem ev_blind {D : va_G} {ct ad : Nat → Nat} {sz : Nat} {as : List Value} {w : List ev_E} : FrameBlind (ev_Pc D ct ad sz as w) := fun a U g mk q => by
  obtain ⟨q0, q1, qP, qK, qD⟩ := q
  exact ⟨q0, q1, qP, va_K.moved (u := U) (U := U.calling g mk a) (Vm.Alike.refl U.vm) qK, qD⟩
section EVC
variable {μ μc : ev_M} {p : Program} {l : Launch} {e : Env} {R : Room} {s : State} {m : MethodId} {args : Array Value} {below : List Frame} {meth : Method} {c : Code} {D : va_G} {ct : Nat → ClassId} {ad0 ad : Nat → Nat} {A : Nat → Prop} {N0 : Option Nat} {Q : State → Prop} {kc ks pc n idx ci : Nat} {H : Heap} {locs : List Loc} {ls : Array Slot} {y : MethodName} {Pc : Array Value → State → Prop} {Qc : Array Value → State → Outcome → State → Prop} {free : Addr → Prop} {b : Addr} {As rest : List Value}
theorem ev_runV (h0 : ev_I0 μ p R s m args meth c D ct A) (hM : Met l y (ev_wsm y μc) (ev_rm μc) Pc Qc (ev_mc μc) (ev_ms μc) free) (cv : ev_CV y μc ci n) (hl : ev_ml (ev_own μ) idx y) (hroom : ev_fr μc + 1 ≤ ev_fr μ ∧ 8 + (ev_nL μc + 11) + ev_lo μc ≤ ev_lo μ) (hmc : kc + ev_mc μc ≤ ev_mc μ ∧ ks + ev_ms μc ≤ ev_ms μ)
    (hp : PreV s H y.cls b Pc As) (hn : As.length = n) (hsize : ls.size = ev_nL μ) (hW : (rest.map fun v => v.category).sum ≤ 8) (hdg : decode (ev_cc μ) pc = .ok (.invokevirtual idx, 3)) :
    va_Run p l e R s m args below meth c H locs kc ks (ev_mc μc) (ev_ms μc) (F0 m pc ls (As.reverse ++ .ref b :: rest)) rest (Qc (Value.ref b :: As).toArray) free := by
  obtain ⟨hok, ⟨hx, hb, hml, hr, hown, hts, hlocks, hnm, hR1, hR2, hR3, hR4⟩, hK, hA⟩ := h0
  obtain ⟨w1, w2, w3, w4, w5, w6⟩ := cv
  have hRR : (ev_rm μc).frames + 1 ≤ R.frames ∧ 8 + (ev_nL μc + 11) + (ev_rm μc).locals ≤ R.locals := ⟨Nat.le_trans hroom.1 hR1, Nat.le_trans hroom.2 hR2⟩
  have hmm : kc + ev_mc μc ≤ R.cells ∧ ks + ev_ms μc ≤ R.slots := ⟨Nat.le_trans hmc.1 hR3, Nat.le_trans hmc.2 hR4⟩
  have hW0 : 2 * (F0 m pc ls (As.reverse ++ .ref b :: rest)).monitorRoom + (rest.map fun v => v.category).sum ≤ 8 := by
    have : (F0 m pc ls (As.reverse ++ .ref b :: rest)).monitorRoom = 0 := rfl
    rw [this]; omega
  have hlen : ∀ sig, parseMethodDescriptor y.desc = some sig → n = sig.parameters.length := by
    intro sig h
    have h2 := w5.2.2
    rw [h] at h2
    exact (Option.some.inj h2).symm
  rcases hl with hl | ⟨host, hl⟩
  · exact va_runV ⟨hx, hb, hml, hown, hts⟩ hM ⟨⟨rfl, rfl, hRR.1, hRR.2, ev_pay hts w1, List.mem_cons_self, hts _ w1, hts _ w2, ⟨w5.1, w5.2.1⟩, hlen, hts _ hl⟩, hts _ w3, hts _ w4⟩ hp rfl hn hsize rfl hW0 hdg hmm
  · exact va_runVN ⟨hx, hb, hml, hown, hts⟩ hM ⟨⟨⟨rfl, rfl, hRR.1, hRR.2, ev_pay hts w1, List.mem_cons_self⟩, hts _ w1, hts _ w2, ⟨w5.1, w5.2.1⟩, hlen, hts _ hl⟩, hts _ w3, hts _ w4⟩ hp rfl hn hsize rfl hW0 hdg hmm
theorem ev_runS (h0 : ev_I0 μ p R s m args meth c D ct A) (hM : Met l y (ev_wsm y μc) (ev_rm μc) Pc Qc (ev_mc μc) (ev_ms μc) free) (cv : ev_CS y μc n) (hl : ev_ml (ev_own μ) idx y) (hroom : ev_fr μc + 1 ≤ ev_fr μ ∧ 8 + (ev_nL μc + 11) + ev_lo μc ≤ ev_lo μ) (hmc : kc + ev_mc μc ≤ ev_mc μ ∧ ks + ev_ms μc ≤ ev_ms μ)
    (hp : PreS s H Pc As) (hn : As.length = n) (hsize : ls.size = ev_nL μ) (hW : (rest.map fun v => v.category).sum ≤ 8) (hdg : decode (ev_cc μ) pc = .ok (.invokestatic idx, 3)) :
    va_Run p l e R s m args below meth c H locs kc ks (ev_mc μc) (ev_ms μc) (F0 m pc ls (As.reverse ++ rest)) rest (Qc As.toArray) free := by
  obtain ⟨hok, ⟨hx, hb, hml, hr, hown, hts, hlocks, hnm, hR1, hR2, hR3, hR4⟩, hK, hA⟩ := h0
  obtain ⟨w1, w2, w3, w5⟩ := cv
  have hRR : (ev_rm μc).frames + 1 ≤ R.frames ∧ 8 + (ev_nL μc + 11) + (ev_rm μc).locals ≤ R.locals := ⟨Nat.le_trans hroom.1 hR1, Nat.le_trans hroom.2 hR2⟩
  have hmm : kc + ev_mc μc ≤ R.cells ∧ ks + ev_ms μc ≤ R.slots := ⟨Nat.le_trans hmc.1 hR3, Nat.le_trans hmc.2 hR4⟩
  have hW0 : 2 * (F0 m pc ls (As.reverse ++ rest)).monitorRoom + (rest.map fun v => v.category).sum ≤ 8 := by
    have : (F0 m pc ls (As.reverse ++ rest)).monitorRoom = 0 := rfl
    rw [this]; omega
  have hlen : ∀ sig, parseMethodDescriptor y.desc = some sig → n = sig.parameters.length := by
    intro sig h
    have h2 := w5.2.2
    rw [h] at h2
    exact (Option.some.inj h2).symm
  rcases hl with hl | ⟨host, hl⟩
  · exact va_runS ⟨hx, hb, hml, hown, hts⟩ hM ⟨⟨rfl, rfl, hRR.1, hRR.2, ev_pay hts w1, List.mem_cons_self, hts _ w1, hts _ w2, ⟨w5.1, w5.2.1⟩, hlen, hts _ hl⟩, hts _ w3⟩ hp rfl hn hsize rfl hW0 hdg hmm
  · exact va_runSN ⟨hx, hb, hml, hown, hts⟩ hM ⟨⟨⟨rfl, rfl, hRR.1, hRR.2, ev_pay hts w1, List.mem_cons_self⟩, hts _ w1, hts _ w2, ⟨w5.1, w5.2.1⟩, hlen, hts _ hl⟩, hts _ w3, trivial⟩ hp rfl hn hsize rfl hW0 hdg hmm
/-- behind the call -/
theorem ev_back {adc : Nat → Nat} {Nc : Option Nat} {A1 : Nat → Prop} {post : Option Value → List ev_E → Prop} {a : Array Value} {mc ms : Nat} {st0 : List Value} (hr : va_Run p l e R s m args below meth c H locs kc ks mc ms (F0 m pc ls st0) rest (ev_Qc D ct adc Nc A1 post a) free) (hS : va_S A s.heap H locs) (hA : ∀ q, A1 q → A q) (hf : ∀ q, free q → A q)
    (kk : ∀ (r : Option Value) (w' : List ev_E) (ad' : Nat → Nat) (H1 : Heap) (locs1 : List Loc), post r w' → ev_eqn Nc ad' adc → va_P D vwCl (ev_lay ad' ct w') H1 → va_D A1 (ev_lay ad' ct w') → H.size ≤ H1.size → (∀ q : Nat, q < H.size → ¬ A1 q → H1[q]? = H[q]?) → va_S A s.heap H1 locs1 → W p l e R s m args below meth c H1 locs1 (kc + mc) (ks + ms) Q (F0 m (pc + 3) ls ((r.map (ev_cv ad')).toList ++ rest))) : W p l e R s m args below meth c H locs kc ks Q (F0 m pc ls st0) := by
  intro T hT X
  obtain ⟨v, st₀, t, T', L, h0, X', hL, e1, e2, ⟨⟨r, w', ad', hv, hp, hn, hP1, hK1, hD1⟩, hz, hk⟩, st⟩ := hr T hT X
  cases hv
  rw [h0] at hz hk
  rw [← e1] at hP1
  obtain ⟨t2, a1, b1⟩ := kk r w' ad' T'.heap (locs ++ L) hp hn hP1 hD1 (by rw [e1]; exact hz) (fun q h1 h2 => by rw [e1]; exact hk q h1 h2)
    ⟨Nat.le_trans hS.1 (by rw [e1]; exact hz), fun q h1 h2 => by rw [e1, hk q (Nat.lt_of_lt_of_le h1 hS.1) (fun z => h2 (hA q z))]; exact hS.2.1 q h1 h2, fun q hq => by
      rcases List.mem_append.mp hq with h | h
      · exact hS.2.2 q h
      · exact hf _ (hL q h)⟩ T' rfl X'
  exact ⟨t2, st t2 a1, b1⟩
/-- the callee's cells, cut out -/
theorem ev_cut {w wc : List ev_E} {em : Nat → Nat} (hP : va_P D vwCl (ev_lay ad ct w) H) (hD : va_D A (ev_lay ad ct w)) (hA : ∀ q, s.heap.size ≤ q → A q) (hS : va_S A s.heap H locs) (hsel : ev_pick w em 0 wc.length = wc.map (ev_ren em)) (hinj : ∀ i, i < wc.length → ∀ j, j < wc.length → em i = em j → i = j) :
    va_P D vwCl (ev_lay (fun k => ad (em k)) ct wc) H ∧ va_D (fun _ => True) (ev_lay (fun k => ad (em k)) ct wc) ∧ (∀ q, va_A (ev_lay (fun k => ad (em k)) ct wc) H.size q → A q) := by
  have hg := ev_pick_get wc 0 hsel
  have hat : ∀ (k : Nat) (q : Nat × va_E), (ev_lay (fun k => ad (em k)) ct wc)[k]? = some q → k < wc.length ∧ (ev_lay ad ct w)[em k]? = some q := by
    intro k q hq
    obtain ⟨E, h1, h2⟩ := ev_lay_inv hq
    have h3 := hg k E h1
    rw [Nat.zero_add] at h3
    exact ⟨(List.getElem?_eq_some_iff.mp h1).1, by rw [ev_lay_get h3, ev_ce_ren, h2]⟩
  refine ⟨fun k q hq => hP _ q (hat k q hq).2, ⟨fun i j a b hi hj hab => ?_, fun _ _ _ => trivial⟩, fun q hq => ?_⟩
  · obtain ⟨i1, i2⟩ := hat i a hi
    obtain ⟨j1, j2⟩ := hat j b hj
    exact hinj i i1 j j1 (hD.1 _ _ a b i2 j2 hab)
  · rcases hq with ⟨k, E, h⟩ | h
    · exact hD.2 _ (q, E) (hat k (q, E) h).2
    · exact hA q (Nat.le_trans hS.1 h)
/-- the callee's cells, put back -/
theorem ev_paste {w wc w' : List ev_E} {em : Nat → Nat} {H1 : Heap} (hP : va_P D vwCl (ev_lay ad ct w) H) (hD : va_D A (ev_lay ad ct w)) (hsel : ev_pick w em 0 wc.length = wc.map (ev_ren em)) (hlen : w'.length = wc.length)
    (hP1 : va_P D vwCl (ev_lay (fun k => ad (em k)) ct w') H1) (hk : ∀ q : Nat, q < H.size → ¬ va_A (ev_lay (fun k => ad (em k)) ct wc) H.size q → H1[q]? = H[q]?) :
    va_P D vwCl (ev_lay ad ct (ev_putm em w 0 w')) H1 ∧ va_D A (ev_lay ad ct (ev_putm em w 0 w')) := by
  have hg := ev_pick_get wc 0 hsel
  have hin : ∀ (j : Nat) (E : ev_E), (ev_putm em w 0 w')[j]? = some E → ∃ E0, w[j]? = some E0 := by
    intro j E h
    have h1 := (List.getElem?_eq_some_iff.mp h).1
    rw [ev_putm_len] at h1
    exact ⟨_, List.getElem?_eq_getElem h1⟩
  refine ⟨fun j q hq => ?_, ⟨fun i j a b hi hj hab => ?_, fun j q hq => ?_⟩⟩
  · obtain ⟨E, h1, rfl⟩ := ev_lay_inv hq
    rcases ev_putm_get w' w 0 j E h1 with ⟨i, E0, g1, g2, g3⟩ | ⟨g1, g2⟩
    · rw [Nat.zero_add] at g2
      subst g2; subst g3
      have := hP1 i _ (ev_lay_get g1)
      rw [ev_ce_ren]
      exact this
    · have h2 := hP j _ (ev_lay_get g2)
      refine h2.kept (hk _ h2.lt fun hq => ?_)
      rcases hq with ⟨k, E1, h⟩ | h
      · obtain ⟨E2, k1, k2⟩ := ev_lay_inv h
        have k3 := hg k E2 k1
        rw [Nat.zero_add] at k3
        have k4 := hD.1 _ _ _ _ (ev_lay_get g2) (ev_lay_get k3) (by have := congrArg Prod.fst k2; exact this)
        exact g1 k (by rw [hlen]; exact (List.getElem?_eq_some_iff.mp k1).1) (by rw [Nat.zero_add]; exact k4.symm)
      · have := h2.lt
        dsimp only at this h
        omega
  · obtain ⟨E1, h1, rfl⟩ := ev_lay_inv hi
    obtain ⟨E2, h2, rfl⟩ := ev_lay_inv hj
    obtain ⟨F1, g1⟩ := hin i E1 h1
    obtain ⟨F2, g2⟩ := hin j E2 h2
    exact hD.1 i j (ad i, ev_ce ad ct F1) (ad j, ev_ce ad ct F2) (ev_lay_get g1) (ev_lay_get g2) hab
  · obtain ⟨E1, h1, rfl⟩ := ev_lay_inv hq
    obtain ⟨F1, g1⟩ := hin j E1 h1
    exact hD.2 j (ad j, ev_ce ad ct F1) (ev_lay_get g1)
end EVC
theorem ev_sum_cat (ad : Nat → Nat) (l : List Value) : ((l.map (ev_cv ad)).map fun v => v.category).sum = (l.map fun v => v.category).sum := by
  rw [List.map_map]
  exact congrArg List.sum (List.map_congr_left fun v _ => ev_cv_cat ad v)
/-- a virtual call: the callee's cells at the places em 0, em 1 .. of the caller's -/
theorem ev_callV {μ μc : ev_M} {N0 : Option Nat} {X : ev_X} (em : Nat → Nat) {pc : Nat} {L : ev_L} {st rest : List Value} {w : List ev_E} {kc ks ci n idx nx k x yy : Nat} {v : Value} {y : MethodName} {as1 : List Value} {fs : List Value} {wt : List ev_E} {post : Option Value → List ev_E → Prop}
    (hM : ev_A y μc none (.ref 0 :: as1) (.inr (ci, fs) :: wt) post) (cv : ev_CV y μc ci n) (hl : ev_ml (ev_own μ) idx y) (hlk : ev_look (ev_tab μ) pc = some (.invokevirtual idx, nx, k, x, yy, v))
    (hst : (as1.map (ev_cv em)).reverse ++ (.ref (em 0) :: rest) = st) (hn : as1.length = n) (hsel : ev_pick w em 0 (.inr (ci, fs) :: wt : List ev_E).length = (.inr (ci, fs) :: wt : List ev_E).map (ev_ren em)) (hinj : ∀ i, i < (.inr (ci, fs) :: wt : List ev_E).length → ∀ j, j < (.inr (ci, fs) :: wt : List ev_E).length → em i = em j → i = j)
    (hW : (rest.map fun v => v.category).sum ≤ 8) (hroom : ev_fr μc + 1 ≤ ev_fr μ ∧ 8 + (ev_nL μc + 11) + ev_lo μc ≤ ev_lo μ) (hmc : kc + ev_mc μc ≤ ev_mc μ ∧ ks + ev_ms μc ≤ ev_ms μ) (hlen : ∀ r w', post r w' → w'.length = (.inr (ci, fs) :: wt : List ev_E).length)
    (kk : ∀ r w', post r w' → ev_V μ N0 X (pc + 3) L ((r.map (ev_cv em)).toList ++ rest) (ev_putm em w 0 w') (kc + ev_mc μc) (ks + ev_ms μc)) : ev_V μ N0 X pc L st w kc ks := by
  subst hst
  intro p l e R s m args below meth c D ct ad0 A Q h0 hx ad H locs ls I
  have h0' := h0
  obtain ⟨hP, hD, hS, hE, hL⟩ := I
  obtain ⟨hok, hfix, hK, hA⟩ := h0
  obtain ⟨hd, -, -⟩ := ev_use hok hlk
  obtain ⟨hPc, hDc, hFc⟩ := ev_cut (H := H) (locs := locs) (s := s) hP hD hA hS hsel hinj
  have hrun := ev_runV (l := l) (e := e) (below := below) (locs := locs) (H := H) (kc := kc) (ks := ks) (ls := ls) (pc := pc) (b := ad (em 0)) (As := as1.map (ev_cv fun k => ad (em k))) (rest := rest.map (ev_cv ad)) h0' (hM l D ct (fun k => ad (em k)) H.size) cv hl hroom hmc
    ⟨ev_blind, by rw [cv.2.2.2.2.2.1]; exact va_recv (a := ad (em 0)) (fs := fs.map (ev_cv fun k => ad (em k))) hK hPc (ci := ci) (q0 := 0) (ev_cl cv.2.2.2.2.2.2) (ev_lay_get (ad := fun k => ad (em k)) (ct := ct) (w := .inr (ci, fs) :: wt) (k := 0) (E := .inr (ci, fs)) rfl), fun U hU hWu => ⟨rfl, by rw [hU], by rw [hU]; exact hPc, va_K.moved hWu.alike hK, hDc⟩⟩ (by rw [List.length_map]; exact hn) hL.1 (by rw [ev_sum_cat]; exact hW) hd
  have e1 : ((as1.map (ev_cv em)).reverse ++ (.ref (em 0) :: rest)).map (ev_cv ad) = (as1.map (ev_cv fun k => ad (em k))).reverse ++ .ref (ad (em 0)) :: rest.map (ev_cv ad) := by
    rw [List.map_append, List.map_reverse, List.map_map]
    rw [show (ev_cv ad ∘ ev_cv em) = ev_cv (fun k => ad (em k)) from funext fun v => ev_cv_cv ad em v]
    first | done | rfl
  rw [e1]
  refine ev_back hrun hS hFc hFc fun r w' ad' H1 locs1 hp hn' hP1 hD1 hz hk hS1 => ?_
  cases hn'
  obtain ⟨hP2, hD2⟩ := ev_paste hP hD hsel (hlen r w' hp) hP1 hk
  have := kk r w' hp p l e R s m args below meth c D ct ad0 A Q h0' hx ad H1 locs1 ls ⟨hP2, hD2, hS1, hE, hL⟩
  have e2 : ((r.map (ev_cv em)).toList ++ rest).map (ev_cv ad) = (r.map (ev_cv fun k => ad (em k))).toList ++ rest.map (ev_cv ad) := by
    rw [List.map_append]
    cases r with
    | none => rfl
    | some v => exact congrArg (fun z => z :: rest.map (ev_cv ad)) (ev_cv_cv ad em v)
  rw [e2] at this
  exact this
theorem ev_callS {μ μc : ev_M} {N0 : Option Nat} {X : ev_X} (em : Nat → Nat) {pc : Nat} {L : ev_L} {st rest : List Value} {w : List ev_E} {kc ks n idx nx k x yy : Nat} {v : Value} {y : MethodName} {as1 : List Value} {wt : List ev_E} {post : Option Value → List ev_E → Prop}
    (hM : ev_A y μc none as1 wt post) (cv : ev_CS y μc n) (hl : ev_ml (ev_own μ) idx y) (hlk : ev_look (ev_tab μ) pc = some (.invokestatic idx, nx, k, x, yy, v))
    (hst : (as1.map (ev_cv em)).reverse ++ rest = st) (hn : as1.length = n) (hsel : ev_pick w em 0 wt.length = wt.map (ev_ren em)) (hinj : ∀ i, i < wt.length → ∀ j, j < wt.length → em i = em j → i = j)
    (hW : (rest.map fun v => v.category).sum ≤ 8) (hroom : ev_fr μc + 1 ≤ ev_fr μ ∧ 8 + (ev_nL μc + 11) + ev_lo μc ≤ ev_lo μ) (hmc : kc + ev_mc μc ≤ ev_mc μ ∧ ks + ev_ms μc ≤ ev_ms μ) (hlen : ∀ r w', post r w' → w'.length = wt.length)
    (kk : ∀ r w', post r w' → ev_V μ N0 X (pc + 3) L ((r.map (ev_cv em)).toList ++ rest) (ev_putm em w 0 w') (kc + ev_mc μc) (ks + ev_ms μc)) : ev_V μ N0 X pc L st w kc ks := by
  subst hst
  intro p l e R s m args below meth c D ct ad0 A Q h0 hx ad H locs ls I
  have h0' := h0
  obtain ⟨hP, hD, hS, hE, hL⟩ := I
  obtain ⟨hok, hfix, hK, hA⟩ := h0
  obtain ⟨hd, -, -⟩ := ev_use hok hlk
  obtain ⟨hPc, hDc, hFc⟩ := ev_cut (H := H) (locs := locs) (s := s) hP hD hA hS hsel hinj
  have hrun := ev_runS (l := l) (e := e) (below := below) (locs := locs) (H := H) (kc := kc) (ks := ks) (ls := ls) (pc := pc) (As := as1.map (ev_cv fun k => ad (em k))) (rest := rest.map (ev_cv ad)) h0' (hM l D ct (fun k => ad (em k)) H.size) cv hl hroom hmc
    ⟨ev_blind, fun U hU hWu => ⟨rfl, by rw [hU], by rw [hU]; exact hPc, va_K.moved hWu.alike hK, hDc⟩⟩ (by rw [List.length_map]; exact hn) hL.1 (by rw [ev_sum_cat]; exact hW) hd
  have e1 : ((as1.map (ev_cv em)).reverse ++ rest).map (ev_cv ad) = (as1.map (ev_cv fun k => ad (em k))).reverse ++ rest.map (ev_cv ad) := by
    rw [List.map_append, List.map_reverse, List.map_map]
    rw [show (ev_cv ad ∘ ev_cv em) = ev_cv (fun k => ad (em k)) from funext fun v => ev_cv_cv ad em v]
  rw [e1]
  refine ev_back hrun hS hFc hFc fun r w' ad' H1 locs1 hp hn' hP1 hD1 hz hk hS1 => ?_
  cases hn'
  obtain ⟨hP2, hD2⟩ := ev_paste hP hD hsel (hlen r w' hp) hP1 hk
  have := kk r w' hp p l e R s m args below meth c D ct ad0 A Q h0' hx ad H1 locs1 ls ⟨hP2, hD2, hS1, hE, hL⟩
  have e2 : ((r.map (ev_cv em)).toList ++ rest).map (ev_cv ad) = (r.map (ev_cv fun k => ad (em k))).toList ++ rest.map (ev_cv ad) := by
    rw [List.map_append]
    cases r with
    | none => rfl
    | some v => exact congrArg (fun z => z :: rest.map (ev_cv ad)) (ev_cv_cv ad em v)
  rw [e2] at this
  exact this
end
section
/-! tables of the methods of java/lang/Integer, laid by wip/whole/gen/tabs.py -/
def tb_J6_numberOfTrailingZeros_0f7a4 : ev_T := [(0, .iload_n 0, 1, 0, 0, 0, .null),
  (1, .iconst (-1), 2, 0, 0, 0, .int (-1)),
  (2, .ixor, 3, 0, 0, 0, .null),
  (3, .iload_n 0, 4, 0, 0, 0, .null),
  (4, .iconst 1, 5, 0, 0, 0, .int 1),
  (5, .isub, 6, 0, 0, 0, .null),
  (6, .iand, 7, 0, 0, 0, .null),
  (7, .istore_n 0, 8, 0, 0, 0, .null),
  (8, .iload_n 0, 9, 0, 0, 0, .null),
  (9, .ifCond .gt 8, 12, 0, 17, 0, .null),
  (12, .iload_n 0, 13, 0, 0, 0, .null),
  (13, .bipush 32, 15, 0, 0, 0, .int 32),
  (15, .iand, 16, 0, 0, 0, .null),
  (16, .ireturn, 17, 0, 0, 0, .null),
  (17, .iconst 1, 18, 0, 0, 0, .int 1),
  (18, .istore_n 1, 19, 0, 1, 0, .null),
  (19, .iload_n 0, 20, 0, 0, 0, .null),
  (20, .ldc_w 264, 23, 310, 0, 0, .int 65536),
  (23, .if_icmp .le 11, 26, 0, 34, 0, .null),
  (26, .iinc 1 16, 29, 0, 1, 0, .int 16),
  (29, .iload_n 0, 30, 0, 0, 0, .null),
  (30, .bipush 16, 32, 0, 0, 0, .int 16),
  (32, .iushr, 33, 0, 0, 0, .null),
  (33, .istore_n 0, 34, 0, 0, 0, .null),
  (34, .iload_n 0, 35, 0, 0, 0, .null),
  (35, .sipush 256, 38, 0, 0, 0, .int 256),
  (38, .if_icmp .le 11, 41, 0, 49, 0, .null),
  (41, .iinc 1 8, 44, 0, 1, 0, .int 8),
  (44, .iload_n 0, 45, 0, 0, 0, .null),
  (45, .bipush 8, 47, 0, 0, 0, .int 8),
  (47, .iushr, 48, 0, 0, 0, .null),
  (48, .istore_n 0, 49, 0, 0, 0, .null),
  (49, .iload_n 0, 50, 0, 0, 0, .null),
  (50, .bipush 16, 52, 0, 0, 0, .int 16),
  (52, .if_icmp .le 10, 55, 0, 62, 0, .null),
  (55, .iinc 1 4, 58, 0, 1, 0, .int 4),
  (58, .iload_n 0, 59, 0, 0, 0, .null),
  (59, .iconst 4, 60, 0, 0, 0, .int 4),
  (60, .iushr, 61, 0, 0, 0, .null),
  (61, .istore_n 0, 62, 0, 0, 0, .null),
  (62, .iload_n 0, 63, 0, 0, 0, .null),
  (63, .iconst 4, 64, 0, 0, 0, .int 4),
  (64, .if_icmp .le 10, 67, 0, 74, 0, .null),
  (67, .iinc 1 2, 70, 0, 1, 0, .int 2),
  (70, .iload_n 0, 71, 0, 0, 0, .null),
  (71, .iconst 2, 72, 0, 0, 0, .int 2),
  (72, .iushr, 73, 0, 0, 0, .null),
  (73, .istore_n 0, 74, 0, 0, 0, .null),
  (74, .iload_n 1, 75, 0, 1, 0, .null),
  (75, .iload_n 0, 76, 0, 0, 0, .null),
  (76, .iconst 1, 77, 0, 0, 0, .int 1),
  (77, .iushr, 78, 0, 0, 0, .null),
  (78, .iadd, 79, 0, 0, 0, .null),
  (79, .ireturn, 80, 0, 0, 0, .null)]
def mm_J6_numberOfTrailingZeros_0f7a4 : ev_M := (RJ6, "numberOfTrailingZeros", cJ6_numberOfTrailingZeros_0f7a4, 2, (some .int), tb_J6_numberOfTrailingZeros_0f7a4, 0, 0, 0, 0)
set_option maxRecDepth 100000 in
theorem ok_J6_numberOfTrailingZeros_0f7a4 : ev_OK mm_J6_numberOfTrailingZeros_0f7a4 := by unfold ev_OK; decide +kernel
theorem cs_J6_numberOfTrailingZeros_0f7a4 : ev_CS yJ6_numberOfTrailingZeros_0f7a4 mm_J6_numberOfTrailingZeros_0f7a4 1 := ⟨ev_has_in (k := 309) (by decide +kernel), ev_has_in (k := 98) (by decide +kernel), ev_has_in (k := 308) (by decide +kernel), ⟨by decide +kernel, by decide +kernel, by decide +kernel⟩⟩
def tb_J6_bitCount_0f7a4 : ev_T := [(0, .iload_n 0, 1, 0, 0, 0, .null),
  (1, .iload_n 0, 2, 0, 0, 0, .null),
  (2, .iconst 1, 3, 0, 0, 0, .int 1),
  (3, .iushr, 4, 0, 0, 0, .null),
  (4, .ldc_w 265, 7, 441, 0, 0, .int 1431655765),
  (7, .iand, 8, 0, 0, 0, .null),
  (8, .isub, 9, 0, 0, 0, .null),
  (9, .istore_n 0, 10, 0, 0, 0, .null),
  (10, .iload_n 0, 11, 0, 0, 0, .null),
  (11, .ldc_w 266, 14, 442, 0, 0, .int 858993459),
  (14, .iand, 15, 0, 0, 0, .null),
  (15, .iload_n 0, 16, 0, 0, 0, .null),
  (16, .iconst 2, 17, 0, 0, 0, .int 2),
  (17, .iushr, 18, 0, 0, 0, .null),
  (18, .ldc_w 266, 21, 442, 0, 0, .int 858993459),
  (21, .iand, 22, 0, 0, 0, .null),
  (22, .iadd, 23, 0, 0, 0, .null),
  (23, .istore_n 0, 24, 0, 0, 0, .null),
  (24, .iload_n 0, 25, 0, 0, 0, .null),
  (25, .iload_n 0, 26, 0, 0, 0, .null),
  (26, .iconst 4, 27, 0, 0, 0, .int 4),
  (27, .iushr, 28, 0, 0, 0, .null),
  (28, .iadd, 29, 0, 0, 0, .null),
  (29, .ldc_w 267, 32, 443, 0, 0, .int 252645135),
  (32, .iand, 33, 0, 0, 0, .null),
  (33, .istore_n 0, 34, 0, 0, 0, .null),
  (34, .iload_n 0, 35, 0, 0, 0, .null),
  (35, .iload_n 0, 36, 0, 0, 0, .null),
  (36, .bipush 8, 38, 0, 0, 0, .int 8),
  (38, .iushr, 39, 0, 0, 0, .null),
  (39, .iadd, 40, 0, 0, 0, .null),
  (40, .istore_n 0, 41, 0, 0, 0, .null),
  (41, .iload_n 0, 42, 0, 0, 0, .null),
  (42, .iload_n 0, 43, 0, 0, 0, .null),
  (43, .bipush 16, 45, 0, 0, 0, .int 16),
  (45, .iushr, 46, 0, 0, 0, .null),
  (46, .iadd, 47, 0, 0, 0, .null),
  (47, .istore_n 0, 48, 0, 0, 0, .null),
  (48, .iload_n 0, 49, 0, 0, 0, .null),
  (49, .bipush 63, 51, 0, 0, 0, .int 63),
  (51, .iand, 52, 0, 0, 0, .null),
  (52, .ireturn, 53, 0, 0, 0, .null)]
def mm_J6_bitCount_0f7a4 : ev_M := (RJ6, "bitCount", cJ6_bitCount_0f7a4, 1, (some .int), tb_J6_bitCount_0f7a4, 0, 0, 0, 0)
set_option maxRecDepth 100000 in
theorem ok_J6_bitCount_0f7a4 : ev_OK mm_J6_bitCount_0f7a4 := by unfold ev_OK; decide +kernel
theorem cs_J6_bitCount_0f7a4 : ev_CS yJ6_bitCount_0f7a4 mm_J6_bitCount_0f7a4 1 := ⟨ev_has_in (k := 440) (by decide +kernel), ev_has_in (k := 98) (by decide +kernel), ev_has_in (k := 439) (by decide +kernel), ⟨by decide +kernel, by decide +kernel, by decide +kernel⟩⟩
end
section
/-! tables of the methods of java/lang/Math, laid by wip/whole/gen/tabs.py -/
def tb_J9_floorMod_7cf53 : ev_T := [(0, .iload_n 0, 1, 0, 0, 0, .null),
  (1, .iload_n 1, 2, 0, 1, 0, .null),
  (2, .irem, 3, 0, 0, 0, .null),
  (3, .istore_n 2, 4, 0, 2, 0, .null),
  (4, .iload_n 0, 5, 0, 0, 0, .null),
  (5, .iload_n 1, 6, 0, 1, 0, .null),
  (6, .ixor, 7, 0, 0, 0, .null),
  (7, .ifCond .ge 11, 10, 0, 18, 0, .null),
  (10, .iload_n 2, 11, 0, 2, 0, .null),
  (11, .ifCond .eq 7, 14, 0, 18, 0, .null),
  (14, .iload_n 2, 15, 0, 2, 0, .null),
  (15, .iload_n 1, 16, 0, 1, 0, .null),
  (16, .iadd, 17, 0, 0, 0, .null),
  (17, .ireturn, 18, 0, 0, 0, .null),
  (18, .iload_n 2, 19, 0, 2, 0, .null),
  (19, .ireturn, 20, 0, 0, 0, .null)]
def mm_J9_floorMod_7cf53 : ev_M := (RJ9, "floorMod", cJ9_floorMod_7cf53, 3, (some .int), tb_J9_floorMod_7cf53, 0, 0, 0, 0)
set_option maxRecDepth 100000 in
theorem ok_J9_floorMod_7cf53 : ev_OK mm_J9_floorMod_7cf53 := by unfold ev_OK; decide +kernel
theorem cs_J9_floorMod_7cf53 : ev_CS yJ9_floorMod_7cf53 mm_J9_floorMod_7cf53 2 := ⟨ev_has_in (k := 353) (by decide +kernel), ev_has_in (k := 97) (by decide +kernel), ev_has_in (k := 352) (by decide +kernel), ⟨by decide +kernel, by decide +kernel, by decide +kernel⟩⟩
end
section
/-! tables of the methods of GossipCountsLaw, laid by wip/whole/gen/tabs.py -/
def tb_L_add : ev_T := [(0, .aload_n 2, 1, 0, 2, 0, .null),
  (1, .iconst 0, 2, 0, 0, 0, .int 0),
  (2, .aload_n 0, 3, 0, 0, 0, .null),
  (3, .iload_n 1, 4, 0, 1, 0, .null),
  (4, .invokevirtual 7, 7, 0, 0, 0, .null),
  (7, .i2l, 8, 0, 0, 0, .null),
  (8, .lastore, 9, 0, 0, 0, .null),
  (9, .goto 9, 12, 0, 18, 0, .null),
  (12, .astore_n 3, 13, 0, 3, 0, .null),
  (13, .iconst 1, 14, 0, 0, 0, .int 1),
  (14, .ireturn, 15, 0, 0, 0, .null),
  (15, .astore_n 3, 16, 0, 3, 0, .null),
  (16, .iconst 2, 17, 0, 0, 0, .int 2),
  (17, .ireturn, 18, 0, 0, 0, .null),
  (18, .iconst 0, 19, 0, 0, 0, .int 0),
  (19, .ireturn, 20, 0, 0, 0, .null)]
def mm_L_add : ev_M := (RL, "add", cL_add, 4, (some .int), tb_L_add, 7, 181, 0, 0)
set_option maxRecDepth 100000 in
theorem ok_L_add : ev_OK mm_L_add := by unfold ev_OK; decide +kernel
def tb_L_take : ev_T := [(0, .aload_n 3, 1, 0, 3, 0, .null),
  (1, .iconst 0, 2, 0, 0, 0, .int 0),
  (2, .aload_n 0, 3, 0, 0, 0, .null),
  (3, .iload_n 1, 4, 0, 1, 0, .null),
  (4, .iload_n 2, 5, 0, 2, 0, .null),
  (5, .invokevirtual 17, 8, 0, 0, 0, .null),
  (8, .i2l, 9, 0, 0, 0, .null),
  (9, .lastore, 10, 0, 0, 0, .null),
  (10, .goto 11, 13, 0, 21, 0, .null),
  (13, .astore 4, 15, 0, 4, 0, .null),
  (15, .iconst 1, 16, 0, 0, 0, .int 1),
  (16, .ireturn, 17, 0, 0, 0, .null),
  (17, .astore 4, 19, 0, 4, 0, .null),
  (19, .iconst 2, 20, 0, 0, 0, .int 2),
  (20, .ireturn, 21, 0, 0, 0, .null),
  (21, .iconst 0, 22, 0, 0, 0, .int 0),
  (22, .ireturn, 23, 0, 0, 0, .null)]
def mm_L_take : ev_M := (RL, "take", cL_take, 5, (some .int), tb_L_take, 7, 182, 0, 0)
set_option maxRecDepth 100000 in
theorem ok_L_take : ev_OK mm_L_take := by unfold ev_OK; decide +kernel
def tb_L_put : ev_T := [(0, .aload 4, 2, 0, 4, 0, .null),
  (2, .iconst 0, 3, 0, 0, 0, .int 0),
  (3, .aload_n 0, 4, 0, 0, 0, .null),
  (4, .iload_n 1, 5, 0, 1, 0, .null),
  (5, .iload_n 2, 6, 0, 2, 0, .null),
  (6, .iload_n 3, 7, 0, 3, 0, .null),
  (7, .invokevirtual 23, 10, 0, 0, 0, .null),
  (10, .i2l, 11, 0, 0, 0, .null),
  (11, .lastore, 12, 0, 0, 0, .null),
  (12, .goto 11, 15, 0, 23, 0, .null),
  (15, .astore 5, 17, 0, 5, 0, .null),
  (17, .iconst 1, 18, 0, 0, 0, .int 1),
  (18, .ireturn, 19, 0, 0, 0, .null),
  (19, .astore 5, 21, 0, 5, 0, .null),
  (21, .iconst 2, 22, 0, 0, 0, .int 2),
  (22, .ireturn, 23, 0, 0, 0, .null),
  (23, .iconst 0, 24, 0, 0, 0, .int 0),
  (24, .ireturn, 25, 0, 0, 0, .null)]
def mm_L_put : ev_M := (RL, "put", cL_put, 6, (some .int), tb_L_put, 7, 183, 0, 0)
set_option maxRecDepth 100000 in
theorem ok_L_put : ev_OK mm_L_put := by unfold ev_OK; decide +kernel
def tb_L_slander : ev_T := [(0, .aload_n 3, 1, 0, 3, 0, .null),
  (1, .iconst 0, 2, 0, 0, 0, .int 0),
  (2, .aload_n 0, 3, 0, 0, 0, .null),
  (3, .iload_n 1, 4, 0, 1, 0, .null),
  (4, .iload_n 2, 5, 0, 2, 0, .null),
  (5, .invokevirtual 27, 8, 0, 0, 0, .null),
  (8, .i2l, 9, 0, 0, 0, .null),
  (9, .lastore, 10, 0, 0, 0, .null),
  (10, .goto 15, 13, 0, 25, 0, .null),
  (13, .astore 4, 15, 0, 4, 0, .null),
  (15, .iconst 1, 16, 0, 0, 0, .int 1),
  (16, .ireturn, 17, 0, 0, 0, .null),
  (17, .astore 4, 19, 0, 4, 0, .null),
  (19, .iconst 2, 20, 0, 0, 0, .int 2),
  (20, .ireturn, 21, 0, 0, 0, .null),
  (21, .astore 4, 23, 0, 4, 0, .null),
  (23, .iconst 3, 24, 0, 0, 0, .int 3),
  (24, .ireturn, 25, 0, 0, 0, .null),
  (25, .iconst 0, 26, 0, 0, 0, .int 0),
  (26, .ireturn, 27, 0, 0, 0, .null)]
def mm_L_slander : ev_M := (RL, "slander", cL_slander, 5, (some .int), tb_L_slander, 7, 182, 0, 0)
set_option maxRecDepth 100000 in
theorem ok_L_slander : ev_OK mm_L_slander := by unfold ev_OK; decide +kernel
def tb_L_suspect : ev_T := [(0, .aload_n 2, 1, 0, 2, 0, .null),
  (1, .iconst 0, 2, 0, 0, 0, .int 0),
  (2, .aload_n 0, 3, 0, 0, 0, .null),
  (3, .iload_n 1, 4, 0, 1, 0, .null),
  (4, .invokevirtual 30, 7, 0, 0, 0, .null),
  (7, .i2l, 8, 0, 0, 0, .null),
  (8, .lastore, 9, 0, 0, 0, .null),
  (9, .goto 9, 12, 0, 18, 0, .null),
  (12, .astore_n 3, 13, 0, 3, 0, .null),
  (13, .iconst 1, 14, 0, 0, 0, .int 1),
  (14, .ireturn, 15, 0, 0, 0, .null),
  (15, .astore_n 3, 16, 0, 3, 0, .null),
  (16, .iconst 2, 17, 0, 0, 0, .int 2),
  (17, .ireturn, 18, 0, 0, 0, .null),
  (18, .iconst 0, 19, 0, 0, 0, .int 0),
  (19, .ireturn, 20, 0, 0, 0, .null)]
def mm_L_suspect : ev_M := (RL, "suspect", cL_suspect, 4, (some .int), tb_L_suspect, 7, 181, 0, 0)
set_option maxRecDepth 100000 in
theorem ok_L_suspect : ev_OK mm_L_suspect := by unfold ev_OK; decide +kernel
def tb_L_set : ev_T := [(0, .aload_n 3, 1, 0, 3, 0, .null),
  (1, .iconst 0, 2, 0, 0, 0, .int 0),
  (2, .aload_n 0, 3, 0, 0, 0, .null),
  (3, .iload_n 1, 4, 0, 1, 0, .null),
  (4, .iload_n 2, 5, 0, 2, 0, .null),
  (5, .invokevirtual 33, 8, 0, 0, 0, .null),
  (8, .i2l, 9, 0, 0, 0, .null),
  (9, .lastore, 10, 0, 0, 0, .null),
  (10, .goto 11, 13, 0, 21, 0, .null),
  (13, .astore 4, 15, 0, 4, 0, .null),
  (15, .iconst 1, 16, 0, 0, 0, .int 1),
  (16, .ireturn, 17, 0, 0, 0, .null),
  (17, .astore 4, 19, 0, 4, 0, .null),
  (19, .iconst 2, 20, 0, 0, 0, .int 2),
  (20, .ireturn, 21, 0, 0, 0, .null),
  (21, .iconst 0, 22, 0, 0, 0, .int 0),
  (22, .ireturn, 23, 0, 0, 0, .null)]
def mm_L_set : ev_M := (RL, "set", cL_set, 5, (some .int), tb_L_set, 7, 183, 0, 0)
set_option maxRecDepth 100000 in
theorem ok_L_set : ev_OK mm_L_set := by unfold ev_OK; decide +kernel
def tb_L_pass : ev_T := [(0, .aload_n 2, 1, 0, 2, 0, .null),
  (1, .iconst 0, 2, 0, 0, 0, .int 0),
  (2, .aload_n 0, 3, 0, 0, 0, .null),
  (3, .iload_n 1, 4, 0, 1, 0, .null),
  (4, .invokevirtual 36, 7, 0, 0, 0, .null),
  (7, .i2l, 8, 0, 0, 0, .null),
  (8, .lastore, 9, 0, 0, 0, .null),
  (9, .goto 9, 12, 0, 18, 0, .null),
  (12, .astore_n 3, 13, 0, 3, 0, .null),
  (13, .iconst 1, 14, 0, 0, 0, .int 1),
  (14, .ireturn, 15, 0, 0, 0, .null),
  (15, .astore_n 3, 16, 0, 3, 0, .null),
  (16, .iconst 2, 17, 0, 0, 0, .int 2),
  (17, .ireturn, 18, 0, 0, 0, .null),
  (18, .iconst 0, 19, 0, 0, 0, .int 0),
  (19, .ireturn, 20, 0, 0, 0, .null)]
def mm_L_pass : ev_M := (RL, "pass", cL_pass, 4, (some .int), tb_L_pass, 7, 207, 0, 0)
set_option maxRecDepth 100000 in
theorem ok_L_pass : ev_OK mm_L_pass := by unfold ev_OK; decide +kernel
def tb_L_append : ev_T := [(0, .aload_n 2, 1, 0, 2, 0, .null),
  (1, .iconst 0, 2, 0, 0, 0, .int 0),
  (2, .aload_n 0, 3, 0, 0, 0, .null),
  (3, .iload_n 1, 4, 0, 1, 0, .null),
  (4, .invokevirtual 39, 7, 0, 0, 0, .null),
  (7, .i2l, 8, 0, 0, 0, .null),
  (8, .lastore, 9, 0, 0, 0, .null),
  (9, .goto 9, 12, 0, 18, 0, .null),
  (12, .astore_n 3, 13, 0, 3, 0, .null),
  (13, .iconst 1, 14, 0, 0, 0, .int 1),
  (14, .ireturn, 15, 0, 0, 0, .null),
  (15, .astore_n 3, 16, 0, 3, 0, .null),
  (16, .iconst 2, 17, 0, 0, 0, .int 2),
  (17, .ireturn, 18, 0, 0, 0, .null),
  (18, .iconst 0, 19, 0, 0, 0, .int 0),
  (19, .ireturn, 20, 0, 0, 0, .null)]
def mm_L_append : ev_M := (RL, "append", cL_append, 4, (some .int), tb_L_append, 7, 181, 0, 0)
set_option maxRecDepth 100000 in
theorem ok_L_append : ev_OK mm_L_append := by unfold ev_OK; decide +kernel
def tb_L_run : ev_T := [(0, .aload_n 1, 1, 0, 1, 0, .null),
  (1, .iconst 0, 2, 0, 0, 0, .int 0),
  (2, .aload_n 0, 3, 0, 0, 0, .null),
  (3, .invokevirtual 42, 6, 0, 0, 0, .null),
  (6, .i2l, 7, 0, 0, 0, .null),
  (7, .lastore, 8, 0, 0, 0, .null),
  (8, .goto 6, 11, 0, 14, 0, .null),
  (11, .astore_n 2, 12, 0, 2, 0, .null),
  (12, .iconst 1, 13, 0, 0, 0, .int 1),
  (13, .ireturn, 14, 0, 0, 0, .null),
  (14, .iconst 0, 15, 0, 0, 0, .int 0),
  (15, .ireturn, 16, 0, 0, 0, .null)]
def mm_L_run : ev_M := (RL, "run", cL_run, 3, (some .int), tb_L_run, 8, 230, 0, 0)
set_option maxRecDepth 100000 in
theorem ok_L_run : ev_OK mm_L_run := by unfold ev_OK; decide +kernel
def tb_L_undo : ev_T := [(0, .aload_n 1, 1, 0, 1, 0, .null),
  (1, .iconst 0, 2, 0, 0, 0, .int 0),
  (2, .aload_n 0, 3, 0, 0, 0, .null),
  (3, .invokevirtual 46, 6, 0, 0, 0, .null),
  (6, .i2l, 7, 0, 0, 0, .null),
  (7, .lastore, 8, 0, 0, 0, .null),
  (8, .goto 6, 11, 0, 14, 0, .null),
  (11, .astore_n 2, 12, 0, 2, 0, .null),
  (12, .iconst 1, 13, 0, 0, 0, .int 1),
  (13, .ireturn, 14, 0, 0, 0, .null),
  (14, .iconst 0, 15, 0, 0, 0, .int 0),
  (15, .ireturn, 16, 0, 0, 0, .null)]
def mm_L_undo : ev_M := (RL, "undo", cL_undo, 3, (some .int), tb_L_undo, 7, 180, 0, 0)
set_option maxRecDepth 100000 in
theorem ok_L_undo : ev_OK mm_L_undo := by unfold ev_OK; decide +kernel
def tb_L_thing : ev_T := [(0, .aload_n 3, 1, 0, 3, 0, .null),
  (1, .iconst 0, 2, 0, 0, 0, .int 0),
  (2, .aload_n 0, 3, 0, 0, 0, .null),
  (3, .iload_n 1, 4, 0, 1, 0, .null),
  (4, .iload_n 2, 5, 0, 2, 0, .null),
  (5, .invokevirtual 49, 8, 0, 0, 0, .null),
  (8, .i2l, 9, 0, 0, 0, .null),
  (9, .lastore, 10, 0, 0, 0, .null),
  (10, .goto 11, 13, 0, 21, 0, .null),
  (13, .astore 4, 15, 0, 4, 0, .null),
  (15, .iconst 1, 16, 0, 0, 0, .int 1),
  (16, .ireturn, 17, 0, 0, 0, .null),
  (17, .astore 4, 19, 0, 4, 0, .null),
  (19, .iconst 2, 20, 0, 0, 0, .int 2),
  (20, .ireturn, 21, 0, 0, 0, .null),
  (21, .iconst 0, 22, 0, 0, 0, .int 0),
  (22, .ireturn, 23, 0, 0, 0, .null)]
def mm_L_thing : ev_M := (RL, "thing", cL_thing, 5, (some .int), tb_L_thing, 7, 182, 0, 0)
set_option maxRecDepth 100000 in
theorem ok_L_thing : ev_OK mm_L_thing := by unfold ev_OK; decide +kernel
def tb_L_slot : ev_T := [(0, .aload_n 3, 1, 0, 3, 0, .null),
  (1, .iconst 0, 2, 0, 0, 0, .int 0),
  (2, .aload_n 0, 3, 0, 0, 0, .null),
  (3, .iload_n 1, 4, 0, 1, 0, .null),
  (4, .iload_n 2, 5, 0, 2, 0, .null),
  (5, .invokevirtual 52, 8, 0, 0, 0, .null),
  (8, .i2l, 9, 0, 0, 0, .null),
  (9, .lastore, 10, 0, 0, 0, .null),
  (10, .goto 7, 13, 0, 17, 0, .null),
  (13, .astore 4, 15, 0, 4, 0, .null),
  (15, .iconst 1, 16, 0, 0, 0, .int 1),
  (16, .ireturn, 17, 0, 0, 0, .null),
  (17, .iconst 0, 18, 0, 0, 0, .int 0),
  (18, .ireturn, 19, 0, 0, 0, .null)]
def mm_L_slot : ev_M := (RL, "slot", cL_slot, 5, (some .int), tb_L_slot, 7, 182, 0, 0)
set_option maxRecDepth 100000 in
theorem ok_L_slot : ev_OK mm_L_slot := by unfold ev_OK; decide +kernel
def tb_L_hand : ev_T := [(0, .aload_n 2, 1, 0, 2, 0, .null),
  (1, .iconst 0, 2, 0, 0, 0, .int 0),
  (2, .aload_n 0, 3, 0, 0, 0, .null),
  (3, .iload_n 1, 4, 0, 1, 0, .null),
  (4, .invokevirtual 55, 7, 0, 0, 0, .null),
  (7, .i2l, 8, 0, 0, 0, .null),
  (8, .lastore, 9, 0, 0, 0, .null),
  (9, .goto 6, 12, 0, 15, 0, .null),
  (12, .astore_n 3, 13, 0, 3, 0, .null),
  (13, .iconst 1, 14, 0, 0, 0, .int 1),
  (14, .ireturn, 15, 0, 0, 0, .null),
  (15, .iconst 0, 16, 0, 0, 0, .int 0),
  (16, .ireturn, 17, 0, 0, 0, .null)]
def mm_L_hand : ev_M := (RL, "hand", cL_hand, 4, (some .int), tb_L_hand, 7, 181, 0, 0)
set_option maxRecDepth 100000 in
theorem ok_L_hand : ev_OK mm_L_hand := by unfold ev_OK; decide +kernel
def tb_L_report : ev_T := [(0, .aload_n 3, 1, 0, 3, 0, .null),
  (1, .iconst 0, 2, 0, 0, 0, .int 0),
  (2, .aload_n 0, 3, 0, 0, 0, .null),
  (3, .iload_n 1, 4, 0, 1, 0, .null),
  (4, .iload_n 2, 5, 0, 2, 0, .null),
  (5, .invokevirtual 58, 8, 0, 0, 0, .null),
  (8, .i2l, 9, 0, 0, 0, .null),
  (9, .lastore, 10, 0, 0, 0, .null),
  (10, .goto 11, 13, 0, 21, 0, .null),
  (13, .astore 4, 15, 0, 4, 0, .null),
  (15, .iconst 1, 16, 0, 0, 0, .int 1),
  (16, .ireturn, 17, 0, 0, 0, .null),
  (17, .astore 4, 19, 0, 4, 0, .null),
  (19, .iconst 2, 20, 0, 0, 0, .int 2),
  (20, .ireturn, 21, 0, 0, 0, .null),
  (21, .iconst 0, 22, 0, 0, 0, .int 0),
  (22, .ireturn, 23, 0, 0, 0, .null)]
def mm_L_report : ev_M := (RL, "report", cL_report, 5, (some .int), tb_L_report, 7, 182, 0, 0)
set_option maxRecDepth 100000 in
theorem ok_L_report : ev_OK mm_L_report := by unfold ev_OK; decide +kernel
def tb_L_ended : ev_T := [(0, .aload_n 2, 1, 0, 2, 0, .null),
  (1, .iconst 0, 2, 0, 0, 0, .int 0),
  (2, .aload_n 0, 3, 0, 0, 0, .null),
  (3, .iload_n 1, 4, 0, 1, 0, .null),
  (4, .invokevirtual 61, 7, 0, 0, 0, .null),
  (7, .i2l, 8, 0, 0, 0, .null),
  (8, .lastore, 9, 0, 0, 0, .null),
  (9, .goto 6, 12, 0, 15, 0, .null),
  (12, .astore_n 3, 13, 0, 3, 0, .null),
  (13, .iconst 1, 14, 0, 0, 0, .int 1),
  (14, .ireturn, 15, 0, 0, 0, .null),
  (15, .iconst 0, 16, 0, 0, 0, .int 0),
  (16, .ireturn, 17, 0, 0, 0, .null)]
def mm_L_ended : ev_M := (RL, "ended", cL_ended, 4, (some .int), tb_L_ended, 7, 181, 0, 0)
set_option maxRecDepth 100000 in
theorem ok_L_ended : ev_OK mm_L_ended := by unfold ev_OK; decide +kernel
def tb_L_count : ev_T := [(0, .aload_n 2, 1, 0, 2, 0, .null),
  (1, .iconst 0, 2, 0, 0, 0, .int 0),
  (2, .aload_n 0, 3, 0, 0, 0, .null),
  (3, .iload_n 1, 4, 0, 1, 0, .null),
  (4, .invokevirtual 64, 7, 0, 0, 0, .null),
  (7, .i2l, 8, 0, 0, 0, .null),
  (8, .lastore, 9, 0, 0, 0, .null),
  (9, .goto 6, 12, 0, 15, 0, .null),
  (12, .astore_n 3, 13, 0, 3, 0, .null),
  (13, .iconst 1, 14, 0, 0, 0, .int 1),
  (14, .ireturn, 15, 0, 0, 0, .null),
  (15, .iconst 0, 16, 0, 0, 0, .int 0),
  (16, .ireturn, 17, 0, 0, 0, .null)]
def mm_L_count : ev_M := (RL, "count", cL_count, 4, (some .int), tb_L_count, 7, 181, 0, 0)
set_option maxRecDepth 100000 in
theorem ok_L_count : ev_OK mm_L_count := by unfold ev_OK; decide +kernel
def tb_L_setting : ev_T := [(0, .aload_n 2, 1, 0, 2, 0, .null),
  (1, .iconst 0, 2, 0, 0, 0, .int 0),
  (2, .aload_n 0, 3, 0, 0, 0, .null),
  (3, .iload_n 1, 4, 0, 1, 0, .null),
  (4, .invokevirtual 67, 7, 0, 0, 0, .null),
  (7, .i2l, 8, 0, 0, 0, .null),
  (8, .lastore, 9, 0, 0, 0, .null),
  (9, .goto 6, 12, 0, 15, 0, .null),
  (12, .astore_n 3, 13, 0, 3, 0, .null),
  (13, .iconst 1, 14, 0, 0, 0, .int 1),
  (14, .ireturn, 15, 0, 0, 0, .null),
  (15, .iconst 0, 16, 0, 0, 0, .int 0),
  (16, .ireturn, 17, 0, 0, 0, .null)]
def mm_L_setting : ev_M := (RL, "setting", cL_setting, 4, (some .int), tb_L_setting, 7, 181, 0, 0)
set_option maxRecDepth 100000 in
theorem ok_L_setting : ev_OK mm_L_setting := by unfold ev_OK; decide +kernel
def tb_L_ifPassed : ev_T := [(0, .aload_n 3, 1, 0, 3, 0, .null),
  (1, .iconst 0, 2, 0, 0, 0, .int 0),
  (2, .aload_n 0, 3, 0, 0, 0, .null),
  (3, .iload_n 1, 4, 0, 1, 0, .null),
  (4, .iload_n 2, 5, 0, 2, 0, .null),
  (5, .invokevirtual 70, 8, 0, 0, 0, .null),
  (8, .i2l, 9, 0, 0, 0, .null),
  (9, .lastore, 10, 0, 0, 0, .null),
  (10, .goto 7, 13, 0, 17, 0, .null),
  (13, .astore 4, 15, 0, 4, 0, .null),
  (15, .iconst 1, 16, 0, 0, 0, .int 1),
  (16, .ireturn, 17, 0, 0, 0, .null),
  (17, .iconst 0, 18, 0, 0, 0, .int 0),
  (18, .ireturn, 19, 0, 0, 0, .null)]
def mm_L_ifPassed : ev_M := (RL, "ifPassed", cL_ifPassed, 5, (some .int), tb_L_ifPassed, 8, 229, 0, 0)
set_option maxRecDepth 100000 in
theorem ok_L_ifPassed : ev_OK mm_L_ifPassed := by unfold ev_OK; decide +kernel
def tb_L_endsIn : ev_T := [(0, .aload_n 2, 1, 0, 2, 0, .null),
  (1, .iconst 0, 2, 0, 0, 0, .int 0),
  (2, .aload_n 0, 3, 0, 0, 0, .null),
  (3, .iload_n 1, 4, 0, 1, 0, .null),
  (4, .invokevirtual 73, 7, 0, 0, 0, .null),
  (7, .i2l, 8, 0, 0, 0, .null),
  (8, .lastore, 9, 0, 0, 0, .null),
  (9, .goto 6, 12, 0, 15, 0, .null),
  (12, .astore_n 3, 13, 0, 3, 0, .null),
  (13, .iconst 1, 14, 0, 0, 0, .int 1),
  (14, .ireturn, 15, 0, 0, 0, .null),
  (15, .iconst 0, 16, 0, 0, 0, .int 0),
  (16, .ireturn, 17, 0, 0, 0, .null)]
def mm_L_endsIn : ev_M := (RL, "endsIn", cL_endsIn, 4, (some .int), tb_L_endsIn, 8, 228, 0, 0)
set_option maxRecDepth 100000 in
theorem ok_L_endsIn : ev_OK mm_L_endsIn := by unfold ev_OK; decide +kernel
def tb_L_ifTried : ev_T := [(0, .aload_n 2, 1, 0, 2, 0, .null),
  (1, .iconst 0, 2, 0, 0, 0, .int 0),
  (2, .aload_n 0, 3, 0, 0, 0, .null),
  (3, .iload_n 1, 4, 0, 1, 0, .null),
  (4, .invokevirtual 76, 7, 0, 0, 0, .null),
  (7, .i2l, 8, 0, 0, 0, .null),
  (8, .lastore, 9, 0, 0, 0, .null),
  (9, .goto 6, 12, 0, 15, 0, .null),
  (12, .astore_n 3, 13, 0, 3, 0, .null),
  (13, .iconst 1, 14, 0, 0, 0, .int 1),
  (14, .ireturn, 15, 0, 0, 0, .null),
  (15, .iconst 0, 16, 0, 0, 0, .int 0),
  (16, .ireturn, 17, 0, 0, 0, .null)]
def mm_L_ifTried : ev_M := (RL, "ifTried", cL_ifTried, 4, (some .int), tb_L_ifTried, 7, 203, 0, 0)
set_option maxRecDepth 100000 in
theorem ok_L_ifTried : ev_OK mm_L_ifTried := by unfold ev_OK; decide +kernel
def tb_L_ring : ev_T := [(0, .aload_n 2, 1, 0, 2, 0, .null),
  (1, .iconst 0, 2, 0, 0, 0, .int 0),
  (2, .aload_n 0, 3, 0, 0, 0, .null),
  (3, .iload_n 1, 4, 0, 1, 0, .null),
  (4, .invokevirtual 79, 7, 0, 0, 0, .null),
  (7, .i2l, 8, 0, 0, 0, .null),
  (8, .lastore, 9, 0, 0, 0, .null),
  (9, .goto 6, 12, 0, 15, 0, .null),
  (12, .astore_n 3, 13, 0, 3, 0, .null),
  (13, .iconst 1, 14, 0, 0, 0, .int 1),
  (14, .ireturn, 15, 0, 0, 0, .null),
  (15, .iconst 0, 16, 0, 0, 0, .int 0),
  (16, .ireturn, 17, 0, 0, 0, .null)]
def mm_L_ring : ev_M := (RL, "ring", cL_ring, 4, (some .int), tb_L_ring, 7, 181, 0, 0)
set_option maxRecDepth 100000 in
theorem ok_L_ring : ev_OK mm_L_ring := by unfold ev_OK; decide +kernel
def tb_L_bestCut : ev_T := [(0, .aload_n 2, 1, 0, 2, 0, .null),
  (1, .iconst 0, 2, 0, 0, 0, .int 0),
  (2, .aload_n 0, 3, 0, 0, 0, .null),
  (3, .iload_n 1, 4, 0, 1, 0, .null),
  (4, .invokevirtual 82, 7, 0, 0, 0, .null),
  (7, .i2l, 8, 0, 0, 0, .null),
  (8, .lastore, 9, 0, 0, 0, .null),
  (9, .goto 6, 12, 0, 15, 0, .null),
  (12, .astore_n 3, 13, 0, 3, 0, .null),
  (13, .iconst 1, 14, 0, 0, 0, .int 1),
  (14, .ireturn, 15, 0, 0, 0, .null),
  (15, .iconst 0, 16, 0, 0, 0, .int 0),
  (16, .ireturn, 17, 0, 0, 0, .null)]
def mm_L_bestCut : ev_M := (RL, "bestCut", cL_bestCut, 4, (some .int), tb_L_bestCut, 7, 182, 0, 0)
set_option maxRecDepth 100000 in
theorem ok_L_bestCut : ev_OK mm_L_bestCut := by unfold ev_OK; decide +kernel
def tb_L_bears : ev_T := [(0, .aload_n 2, 1, 0, 2, 0, .null),
  (1, .iconst 0, 2, 0, 0, 0, .int 0),
  (2, .aload_n 0, 3, 0, 0, 0, .null),
  (3, .iload_n 1, 4, 0, 1, 0, .null),
  (4, .invokevirtual 85, 7, 0, 0, 0, .null),
  (7, .i2l, 8, 0, 0, 0, .null),
  (8, .lastore, 9, 0, 0, 0, .null),
  (9, .goto 6, 12, 0, 15, 0, .null),
  (12, .astore_n 3, 13, 0, 3, 0, .null),
  (13, .iconst 1, 14, 0, 0, 0, .int 1),
  (14, .ireturn, 15, 0, 0, 0, .null),
  (15, .iconst 0, 16, 0, 0, 0, .int 0),
  (16, .ireturn, 17, 0, 0, 0, .null)]
def mm_L_bears : ev_M := (RL, "bears", cL_bears, 4, (some .int), tb_L_bears, 8, 229, 0, 0)
set_option maxRecDepth 100000 in
theorem ok_L_bears : ev_OK mm_L_bears := by unfold ev_OK; decide +kernel
theorem ml_L_7 : ev_ml RL 7 yX4_add := Or.inl (ev_has_in (k := 645) (by decide +kernel))
theorem ml_L_17 : ev_ml RL 17 yX4_take := Or.inl (ev_has_in (k := 674) (by decide +kernel))
theorem ml_L_23 : ev_ml RL 23 yX4_put := Or.inl (ev_has_in (k := 717) (by decide +kernel))
theorem ml_L_27 : ev_ml RL 27 yX4_slander := Or.inl (ev_has_in (k := 729) (by decide +kernel))
theorem ml_L_30 : ev_ml RL 30 yX4_suspect := Or.inl (ev_has_in (k := 738) (by decide +kernel))
theorem ml_L_33 : ev_ml RL 33 yX4_set := Or.inl (ev_has_in (k := 747) (by decide +kernel))
theorem ml_L_36 : ev_ml RL 36 yX4_pass := Or.inl (ev_has_in (k := 762) (by decide +kernel))
theorem ml_L_39 : ev_ml RL 39 yX4_append := Or.inl (ev_has_in (k := 771) (by decide +kernel))
theorem ml_L_42 : ev_ml RL 42 yX4_run := Or.inl (ev_has_in (k := 780) (by decide +kernel))
theorem ml_L_46 : ev_ml RL 46 yX4_undo := Or.inl (ev_has_in (k := 812) (by decide +kernel))
theorem ml_L_49 : ev_ml RL 49 yX4_thing := Or.inl (ev_has_in (k := 820) (by decide +kernel))
theorem ml_L_52 : ev_ml RL 52 yX4_slot := Or.inl (ev_has_in (k := 828) (by decide +kernel))
theorem ml_L_55 : ev_ml RL 55 yX4_hand := Or.inl (ev_has_in (k := 836) (by decide +kernel))
theorem ml_L_58 : ev_ml RL 58 yX4_report := Or.inl (ev_has_in (k := 844) (by decide +kernel))
theorem ml_L_61 : ev_ml RL 61 yX4_ended := Or.inl (ev_has_in (k := 853) (by decide +kernel))
theorem ml_L_64 : ev_ml RL 64 yX4_count := Or.inl (ev_has_in (k := 861) (by decide +kernel))
theorem ml_L_67 : ev_ml RL 67 yX4_setting := Or.inl (ev_has_in (k := 865) (by decide +kernel))
theorem ml_L_70 : ev_ml RL 70 yX4_ifPassed := Or.inl (ev_has_in (k := 872) (by decide +kernel))
theorem ml_L_73 : ev_ml RL 73 yX4_endsIn := Or.inl (ev_has_in (k := 880) (by decide +kernel))
theorem ml_L_76 : ev_ml RL 76 yX4_ifTried := Or.inl (ev_has_in (k := 887) (by decide +kernel))
theorem ml_L_79 : ev_ml RL 79 yX4_ring := Or.inl (ev_has_in (k := 895) (by decide +kernel))
theorem ml_L_82 : ev_ml RL 82 yX4_bestCut := Or.inl (ev_has_in (k := 902) (by decide +kernel))
theorem ml_L_85 : ev_ml RL 85 yX4_bears := Or.inl (ev_has_in (k := 910) (by decide +kernel))
end
section
/-! tables of the methods of GossipCounts$Holdings, laid by wip/whole/gen/tabs.py -/
def tb_X0_init : ev_T := [(0, .aload_n 0, 1, 0, 0, 0, .null),
  (1, .invokespecial 3, 4, 0, 0, 0, .null),
  (4, .aload_n 0, 5, 0, 0, 0, .null),
  (5, .bipush 100, 7, 0, 0, 0, .int 100),
  (7, .newarray .int, 9, 0, 0, 0, .null),
  (9, .putfield 9, 12, 119, 0, 0, .null),
  (12, .iconst 0, 13, 0, 0, 0, .int 0),
  (13, .istore_n 1, 14, 0, 1, 0, .null),
  (14, .iload_n 1, 15, 0, 1, 0, .null),
  (15, .bipush 100, 17, 0, 0, 0, .int 100),
  (17, .if_icmp .ge 16, 20, 0, 33, 0, .null),
  (20, .aload_n 0, 21, 0, 0, 0, .null),
  (21, .getfield 9, 24, 119, 0, 0, .null),
  (24, .iload_n 1, 25, 0, 1, 0, .null),
  (25, .iconst (-1), 26, 0, 0, 0, .int (-1)),
  (26, .iastore, 27, 0, 0, 0, .null),
  (27, .iinc 1 1, 30, 0, 1, 0, .int 1),
  (30, .goto (-16), 33, 0, 14, 0, .null),
  (33, .return_, 34, 0, 0, 0, .null)]
def mm_X0_init : ev_M := (RX0, "<init>", cX0_init, 2, none, tb_X0_init, 1, 30, 0, 0)
set_option maxRecDepth 100000 in
theorem ok_X0_init : ev_OK mm_X0_init := by unfold ev_OK; decide +kernel
theorem ci_X0_init : ev_CI yX0_init mm_X0_init 0 := ⟨ev_has_in (k := 117) (by decide +kernel), ev_has_in (k := 86) (by decide +kernel), ev_has_in (k := 116) (by decide +kernel), ⟨by decide +kernel, by decide +kernel, by decide +kernel⟩, rfl⟩
def tb_X0_copyFrom : ev_T := [(0, .aload_n 1, 1, 0, 1, 0, .null),
  (1, .getfield 9, 4, 119, 0, 0, .null),
  (4, .iconst 0, 5, 0, 0, 0, .int 0),
  (5, .aload_n 0, 6, 0, 0, 0, .null),
  (6, .getfield 9, 9, 119, 0, 0, .null),
  (9, .iconst 0, 10, 0, 0, 0, .int 0),
  (10, .bipush 100, 12, 0, 0, 0, .int 100),
  (12, .invokestatic 15, 15, 0, 0, 0, .null),
  (15, .return_, 16, 0, 0, 0, .null)]
def mm_X0_copyFrom : ev_M := (RX0, "copyFrom", cX0_copyFrom, 2, none, tb_X0_copyFrom, 1, 60, 0, 0)
set_option maxRecDepth 100000 in
theorem ok_X0_copyFrom : ev_OK mm_X0_copyFrom := by unfold ev_OK; decide +kernel
theorem cv_X0_copyFrom : ev_CV yX0_copyFrom mm_X0_copyFrom 0 1 := ⟨ev_has_in (k := 274) (by decide +kernel), ev_has_in (k := 86) (by decide +kernel), ev_has_in (k := 272) (by decide +kernel), ev_has_in (k := 273) (by decide +kernel), ⟨by decide +kernel, by decide +kernel, by decide +kernel⟩, rfl, by decide⟩
def tb_X0_at : ev_T := [(0, .iload_n 1, 1, 0, 1, 0, .null),
  (1, .ifCond .lt 18, 4, 0, 19, 0, .null),
  (4, .iload_n 1, 5, 0, 1, 0, .null),
  (5, .bipush 100, 7, 0, 0, 0, .int 100),
  (7, .if_icmp .ge 12, 10, 0, 19, 0, .null),
  (10, .aload_n 0, 11, 0, 0, 0, .null),
  (11, .getfield 9, 14, 119, 0, 0, .null),
  (14, .iload_n 1, 15, 0, 1, 0, .null),
  (15, .iaload, 16, 0, 0, 0, .null),
  (16, .goto 4, 19, 0, 20, 0, .null),
  (19, .iconst (-1), 20, 0, 0, 0, .int (-1)),
  (20, .ireturn, 21, 0, 0, 0, .null)]
def mm_X0_at : ev_M := (RX0, "at", cX0_at, 2, (some .int), tb_X0_at, 0, 0, 0, 0)
set_option maxRecDepth 100000 in
theorem ok_X0_at : ev_OK mm_X0_at := by unfold ev_OK; decide +kernel
theorem cv_X0_at : ev_CV yX0_at mm_X0_at 0 1 := ⟨ev_has_in (k := 342) (by decide +kernel), ev_has_in (k := 86) (by decide +kernel), ev_has_in (k := 340) (by decide +kernel), ev_has_in (k := 341) (by decide +kernel), ⟨by decide +kernel, by decide +kernel, by decide +kernel⟩, rfl, by decide⟩
def tb_X0_hold : ev_T := [(0, .iload_n 1, 1, 0, 1, 0, .null),
  (1, .ifCond .lt 16, 4, 0, 17, 0, .null),
  (4, .iload_n 1, 5, 0, 1, 0, .null),
  (5, .bipush 100, 7, 0, 0, 0, .int 100),
  (7, .if_icmp .ge 10, 10, 0, 17, 0, .null),
  (10, .aload_n 0, 11, 0, 0, 0, .null),
  (11, .getfield 9, 14, 119, 0, 0, .null),
  (14, .iload_n 1, 15, 0, 1, 0, .null),
  (15, .iload_n 2, 16, 0, 2, 0, .null),
  (16, .iastore, 17, 0, 0, 0, .null),
  (17, .return_, 18, 0, 0, 0, .null)]
def mm_X0_hold : ev_M := (RX0, "hold", cX0_hold, 3, none, tb_X0_hold, 0, 0, 0, 0)
set_option maxRecDepth 100000 in
theorem ok_X0_hold : ev_OK mm_X0_hold := by unfold ev_OK; decide +kernel
theorem cv_X0_hold : ev_CV yX0_hold mm_X0_hold 0 2 := ⟨ev_has_in (k := 346) (by decide +kernel), ev_has_in (k := 86) (by decide +kernel), ev_has_in (k := 344) (by decide +kernel), ev_has_in (k := 345) (by decide +kernel), ⟨by decide +kernel, by decide +kernel, by decide +kernel⟩, rfl, by decide⟩
def tb_X0_taken : ev_T := [(0, .iconst 0, 1, 0, 0, 0, .int 0),
  (1, .istore_n 1, 2, 0, 1, 0, .null),
  (2, .iconst 0, 3, 0, 0, 0, .int 0),
  (3, .istore_n 2, 4, 0, 2, 0, .null),
  (4, .iload_n 2, 5, 0, 2, 0, .null),
  (5, .bipush 100, 7, 0, 0, 0, .int 100),
  (7, .if_icmp .ge 22, 10, 0, 29, 0, .null),
  (10, .aload_n 0, 11, 0, 0, 0, .null),
  (11, .getfield 9, 14, 119, 0, 0, .null),
  (14, .iload_n 2, 15, 0, 2, 0, .null),
  (15, .iaload, 16, 0, 0, 0, .null),
  (16, .iconst (-1), 17, 0, 0, 0, .int (-1)),
  (17, .if_icmp .eq 6, 20, 0, 23, 0, .null),
  (20, .iinc 1 1, 23, 0, 1, 0, .int 1),
  (23, .iinc 2 1, 26, 0, 2, 0, .int 1),
  (26, .goto (-22), 29, 0, 4, 0, .null),
  (29, .iload_n 1, 30, 0, 1, 0, .null),
  (30, .ireturn, 31, 0, 0, 0, .null)]
def mm_X0_taken : ev_M := (RX0, "taken", cX0_taken, 3, (some .int), tb_X0_taken, 0, 0, 0, 0)
set_option maxRecDepth 100000 in
theorem ok_X0_taken : ev_OK mm_X0_taken := by unfold ev_OK; decide +kernel
theorem cv_X0_taken : ev_CV yX0_taken mm_X0_taken 0 0 := ⟨ev_has_in (k := 463) (by decide +kernel), ev_has_in (k := 86) (by decide +kernel), ev_has_in (k := 461) (by decide +kernel), ev_has_in (k := 462) (by decide +kernel), ⟨by decide +kernel, by decide +kernel, by decide +kernel⟩, rfl, by decide⟩
def tb_X0_truthOf : ev_T := [(0, .iconst 0, 1, 0, 0, 0, .int 0),
  (1, .istore_n 2, 2, 0, 2, 0, .null),
  (2, .iconst 0, 3, 0, 0, 0, .int 0),
  (3, .istore_n 3, 4, 0, 3, 0, .null),
  (4, .iload_n 3, 5, 0, 3, 0, .null),
  (5, .bipush 100, 7, 0, 0, 0, .int 100),
  (7, .if_icmp .ge 22, 10, 0, 29, 0, .null),
  (10, .aload_n 0, 11, 0, 0, 0, .null),
  (11, .getfield 9, 14, 119, 0, 0, .null),
  (14, .iload_n 3, 15, 0, 3, 0, .null),
  (15, .iaload, 16, 0, 0, 0, .null),
  (16, .iload_n 1, 17, 0, 1, 0, .null),
  (17, .if_icmp .ne 6, 20, 0, 23, 0, .null),
  (20, .iinc 2 1, 23, 0, 2, 0, .int 1),
  (23, .iinc 3 1, 26, 0, 3, 0, .int 1),
  (26, .goto (-22), 29, 0, 4, 0, .null),
  (29, .iload_n 2, 30, 0, 2, 0, .null),
  (30, .ireturn, 31, 0, 0, 0, .null)]
def mm_X0_truthOf : ev_M := (RX0, "truthOf", cX0_truthOf, 4, (some .int), tb_X0_truthOf, 0, 0, 0, 0)
set_option maxRecDepth 100000 in
theorem ok_X0_truthOf : ev_OK mm_X0_truthOf := by unfold ev_OK; decide +kernel
theorem cv_X0_truthOf : ev_CV yX0_truthOf mm_X0_truthOf 0 1 := ⟨ev_has_in (k := 386) (by decide +kernel), ev_has_in (k := 86) (by decide +kernel), ev_has_in (k := 384) (by decide +kernel), ev_has_in (k := 385) (by decide +kernel), ⟨by decide +kernel, by decide +kernel, by decide +kernel⟩, rfl, by decide⟩
def tb_X0_slotsThatHold : ev_T := [(0, .iconst 0, 1, 0, 0, 0, .int 0),
  (1, .istore_n 3, 2, 0, 3, 0, .null),
  (2, .iconst 4, 3, 0, 0, 0, .int 4),
  (3, .istore 4, 5, 0, 4, 0, .null),
  (5, .iload 4, 7, 0, 4, 0, .null),
  (7, .bipush 100, 9, 0, 0, 0, .int 100),
  (9, .if_icmp .ge 36, 12, 0, 45, 0, .null),
  (12, .aload_n 0, 13, 0, 0, 0, .null),
  (13, .getfield 9, 16, 119, 0, 0, .null),
  (16, .iload 4, 18, 0, 4, 0, .null),
  (18, .iaload, 19, 0, 0, 0, .null),
  (19, .iload_n 1, 20, 0, 1, 0, .null),
  (20, .if_icmp .ne 19, 23, 0, 39, 0, .null),
  (23, .iload_n 2, 24, 0, 2, 0, .null),
  (24, .iload 4, 26, 0, 4, 0, .null),
  (26, .iconst 4, 27, 0, 0, 0, .int 4),
  (27, .isub, 28, 0, 0, 0, .null),
  (28, .iconst 4, 29, 0, 0, 0, .int 4),
  (29, .idiv, 30, 0, 0, 0, .null),
  (30, .invokestatic 21, 33, 0, 0, 0, .null),
  (33, .ifCond .eq 6, 36, 0, 39, 0, .null),
  (36, .iinc 3 1, 39, 0, 3, 0, .int 1),
  (39, .iinc 4 1, 42, 0, 4, 0, .int 1),
  (42, .goto (-37), 45, 0, 5, 0, .null),
  (45, .iload_n 3, 46, 0, 3, 0, .null),
  (46, .ireturn, 47, 0, 0, 0, .null)]
def mm_X0_slotsThatHold : ev_M := (RX0, "slotsThatHold", cX0_slotsThatHold, 5, (some .int), tb_X0_slotsThatHold, 1, 21, 0, 0)
set_option maxRecDepth 100000 in
theorem ok_X0_slotsThatHold : ev_OK mm_X0_slotsThatHold := by unfold ev_OK; decide +kernel
theorem cv_X0_slotsThatHold : ev_CV yX0_slotsThatHold mm_X0_slotsThatHold 0 2 := ⟨ev_has_in (k := 323) (by decide +kernel), ev_has_in (k := 86) (by decide +kernel), ev_has_in (k := 321) (by decide +kernel), ev_has_in (k := 322) (by decide +kernel), ⟨by decide +kernel, by decide +kernel, by decide +kernel⟩, rfl, by decide⟩
def tb_X0_letGo : ev_T := [(0, .iconst 0, 1, 0, 0, 0, .int 0),
  (1, .istore_n 3, 2, 0, 3, 0, .null),
  (2, .iconst 0, 3, 0, 0, 0, .int 0),
  (3, .istore 4, 5, 0, 4, 0, .null),
  (5, .iload 4, 7, 0, 4, 0, .null),
  (7, .bipush 100, 9, 0, 0, 0, .int 100),
  (9, .if_icmp .ge 57, 12, 0, 66, 0, .null),
  (12, .aload_n 0, 13, 0, 0, 0, .null),
  (13, .getfield 9, 16, 119, 0, 0, .null),
  (16, .iload 4, 18, 0, 4, 0, .null),
  (18, .iaload, 19, 0, 0, 0, .null),
  (19, .iload_n 1, 20, 0, 1, 0, .null),
  (20, .if_icmp .ne 40, 23, 0, 60, 0, .null),
  (23, .aload_n 0, 24, 0, 0, 0, .null),
  (24, .getfield 9, 27, 119, 0, 0, .null),
  (27, .iload 4, 29, 0, 4, 0, .null),
  (29, .iconst (-1), 30, 0, 0, 0, .int (-1)),
  (30, .iastore, 31, 0, 0, 0, .null),
  (31, .iload_n 3, 32, 0, 3, 0, .null),
  (32, .ifCond .ne 22, 35, 0, 54, 0, .null),
  (35, .iload 4, 37, 0, 4, 0, .null),
  (37, .iconst 4, 38, 0, 0, 0, .int 4),
  (38, .if_icmp .lt 16, 41, 0, 54, 0, .null),
  (41, .iload_n 2, 42, 0, 2, 0, .null),
  (42, .iload 4, 44, 0, 4, 0, .null),
  (44, .iconst 4, 45, 0, 0, 0, .int 4),
  (45, .isub, 46, 0, 0, 0, .null),
  (46, .iconst 4, 47, 0, 0, 0, .int 4),
  (47, .idiv, 48, 0, 0, 0, .null),
  (48, .invokestatic 21, 51, 0, 0, 0, .null),
  (51, .ifCond .ne 7, 54, 0, 58, 0, .null),
  (54, .iconst 1, 55, 0, 0, 0, .int 1),
  (55, .goto 4, 58, 0, 59, 0, .null),
  (58, .iconst 0, 59, 0, 0, 0, .int 0),
  (59, .istore_n 3, 60, 0, 3, 0, .null),
  (60, .iinc 4 1, 63, 0, 4, 0, .int 1),
  (63, .goto (-58), 66, 0, 5, 0, .null),
  (66, .iload_n 3, 67, 0, 3, 0, .null),
  (67, .ireturn, 68, 0, 0, 0, .null)]
def mm_X0_letGo : ev_M := (RX0, "letGo", cX0_letGo, 5, (some .boolean), tb_X0_letGo, 1, 21, 0, 0)
set_option maxRecDepth 100000 in
theorem ok_X0_letGo : ev_OK mm_X0_letGo := by unfold ev_OK; decide +kernel
theorem cv_X0_letGo : ev_CV yX0_letGo mm_X0_letGo 0 2 := ⟨ev_has_in (k := 361) (by decide +kernel), ev_has_in (k := 86) (by decide +kernel), ev_has_in (k := 359) (by decide +kernel), ev_has_in (k := 360) (by decide +kernel), ⟨by decide +kernel, by decide +kernel, by decide +kernel⟩, rfl, by decide⟩
def tb_X0_reached : ev_T := [(0, .aload_n 0, 1, 0, 0, 0, .null),
  (1, .iconst (-1), 2, 0, 0, 0, .int (-1)),
  (2, .invokevirtual 25, 5, 0, 0, 0, .null),
  (5, .ireturn, 6, 0, 0, 0, .null)]
def mm_X0_reached : ev_M := (RX0, "reached", cX0_reached, 1, (some .int), tb_X0_reached, 3, 73, 0, 0)
set_option maxRecDepth 100000 in
theorem ok_X0_reached : ev_OK mm_X0_reached := by unfold ev_OK; decide +kernel
theorem cv_X0_reached : ev_CV yX0_reached mm_X0_reached 0 0 := ⟨ev_has_in (k := 447) (by decide +kernel), ev_has_in (k := 86) (by decide +kernel), ev_has_in (k := 445) (by decide +kernel), ev_has_in (k := 446) (by decide +kernel), ⟨by decide +kernel, by decide +kernel, by decide +kernel⟩, rfl, by decide⟩
def tb_X0_reachOf : ev_T := [(0, .aload_n 0, 1, 0, 0, 0, .null),
  (1, .aload_n 0, 2, 0, 0, 0, .null),
  (2, .iload_n 1, 3, 0, 1, 0, .null),
  (3, .iconst 0, 4, 0, 0, 0, .int 0),
  (4, .invokestatic 29, 7, 0, 0, 0, .null),
  (7, .iconst 4, 8, 0, 0, 0, .int 4),
  (8, .iconst (-1), 9, 0, 0, 0, .int (-1)),
  (9, .invokevirtual 33, 12, 0, 0, 0, .null),
  (12, .iconst (-1), 13, 0, 0, 0, .int (-1)),
  (13, .invokevirtual 37, 16, 0, 0, 0, .null),
  (16, .ireturn, 17, 0, 0, 0, .null)]
def mm_X0_reachOf : ev_M := (RX0, "reachOf", cX0_reachOf, 2, (some .int), tb_X0_reachOf, 2, 52, 0, 0)
set_option maxRecDepth 100000 in
theorem ok_X0_reachOf : ev_OK mm_X0_reachOf := by unfold ev_OK; decide +kernel
theorem cv_X0_reachOf : ev_CV yX0_reachOf mm_X0_reachOf 0 1 := ⟨ev_has_in (k := 295) (by decide +kernel), ev_has_in (k := 86) (by decide +kernel), ev_has_in (k := 293) (by decide +kernel), ev_has_in (k := 294) (by decide +kernel), ⟨by decide +kernel, by decide +kernel, by decide +kernel⟩, rfl, by decide⟩
def tb_X0_ringOf : ev_T := [(0, .aload_n 0, 1, 0, 0, 0, .null),
  (1, .iload_n 1, 2, 0, 1, 0, .null),
  (2, .invokevirtual 40, 5, 0, 0, 0, .null),
  (5, .istore_n 2, 6, 0, 2, 0, .null),
  (6, .iconst 0, 7, 0, 0, 0, .int 0),
  (7, .istore_n 3, 8, 0, 3, 0, .null),
  (8, .iconst 0, 9, 0, 0, 0, .int 0),
  (9, .istore 4, 11, 0, 4, 0, .null),
  (11, .iload 4, 13, 0, 4, 0, .null),
  (13, .bipush 24, 15, 0, 0, 0, .int 24),
  (15, .if_icmp .ge 38, 18, 0, 53, 0, .null),
  (18, .iload_n 2, 19, 0, 2, 0, .null),
  (19, .iload 4, 21, 0, 4, 0, .null),
  (21, .invokestatic 21, 24, 0, 0, 0, .null),
  (24, .ifCond .eq 23, 27, 0, 47, 0, .null),
  (27, .aload_n 0, 28, 0, 0, 0, .null),
  (28, .iload 4, 30, 0, 4, 0, .null),
  (30, .invokevirtual 40, 33, 0, 0, 0, .null),
  (33, .iload_n 1, 34, 0, 1, 0, .null),
  (34, .invokestatic 21, 37, 0, 0, 0, .null),
  (37, .ifCond .eq 10, 40, 0, 47, 0, .null),
  (40, .iload_n 3, 41, 0, 3, 0, .null),
  (41, .iconst 1, 42, 0, 0, 0, .int 1),
  (42, .iload 4, 44, 0, 4, 0, .null),
  (44, .ishl, 45, 0, 0, 0, .null),
  (45, .ior, 46, 0, 0, 0, .null),
  (46, .istore_n 3, 47, 0, 3, 0, .null),
  (47, .iinc 4 1, 50, 0, 4, 0, .int 1),
  (50, .goto (-39), 53, 0, 11, 0, .null),
  (53, .iload_n 3, 54, 0, 3, 0, .null),
  (54, .ireturn, 55, 0, 0, 0, .null)]
def mm_X0_ringOf : ev_M := (RX0, "ringOf", cX0_ringOf, 5, (some .int), tb_X0_ringOf, 3, 73, 0, 0)
set_option maxRecDepth 100000 in
theorem ok_X0_ringOf : ev_OK mm_X0_ringOf := by unfold ev_OK; decide +kernel
theorem cv_X0_ringOf : ev_CV yX0_ringOf mm_X0_ringOf 0 1 := ⟨ev_has_in (k := 575) (by decide +kernel), ev_has_in (k := 86) (by decide +kernel), ev_has_in (k := 573) (by decide +kernel), ev_has_in (k := 574) (by decide +kernel), ⟨by decide +kernel, by decide +kernel, by decide +kernel⟩, rfl, by decide⟩
def tb_X0_cutWithMostLost : ev_T := [(0, .iconst (-1), 1, 0, 0, 0, .int (-1)),
  (1, .istore_n 1, 2, 0, 1, 0, .null),
  (2, .iconst 0, 3, 0, 0, 0, .int 0),
  (3, .istore_n 2, 4, 0, 2, 0, .null),
  (4, .iconst 0, 5, 0, 0, 0, .int 0),
  (5, .istore_n 3, 6, 0, 3, 0, .null),
  (6, .iload_n 3, 7, 0, 3, 0, .null),
  (7, .bipush 100, 9, 0, 0, 0, .int 100),
  (9, .if_icmp .ge 41, 12, 0, 50, 0, .null),
  (12, .aload_n 0, 13, 0, 0, 0, .null),
  (13, .getfield 9, 16, 119, 0, 0, .null),
  (16, .iload_n 3, 17, 0, 3, 0, .null),
  (17, .iaload, 18, 0, 0, 0, .null),
  (18, .iconst (-1), 19, 0, 0, 0, .int (-1)),
  (19, .if_icmp .ne 7, 22, 0, 26, 0, .null),
  (22, .iconst 0, 23, 0, 0, 0, .int 0),
  (23, .goto 8, 26, 0, 31, 0, .null),
  (26, .aload_n 0, 27, 0, 0, 0, .null),
  (27, .iload_n 3, 28, 0, 3, 0, .null),
  (28, .invokevirtual 43, 31, 0, 0, 0, .null),
  (31, .istore 4, 33, 0, 4, 0, .null),
  (33, .iload 4, 35, 0, 4, 0, .null),
  (35, .iload_n 2, 36, 0, 2, 0, .null),
  (36, .if_icmp .le 8, 39, 0, 44, 0, .null),
  (39, .iload_n 3, 40, 0, 3, 0, .null),
  (40, .istore_n 1, 41, 0, 1, 0, .null),
  (41, .iload 4, 43, 0, 4, 0, .null),
  (43, .istore_n 2, 44, 0, 2, 0, .null),
  (44, .iinc 3 1, 47, 0, 3, 0, .int 1),
  (47, .goto (-41), 50, 0, 6, 0, .null),
  (50, .iload_n 1, 51, 0, 1, 0, .null),
  (51, .ireturn, 52, 0, 0, 0, .null)]
def mm_X0_cutWithMostLost : ev_M := (RX0, "cutWithMostLost", cX0_cutWithMostLost, 5, (some .int), tb_X0_cutWithMostLost, 5, 114, 0, 0)
set_option maxRecDepth 100000 in
theorem ok_X0_cutWithMostLost : ev_OK mm_X0_cutWithMostLost := by unfold ev_OK; decide +kernel
theorem cv_X0_cutWithMostLost : ev_CV yX0_cutWithMostLost mm_X0_cutWithMostLost 0 0 := ⟨ev_has_in (k := 617) (by decide +kernel), ev_has_in (k := 86) (by decide +kernel), ev_has_in (k := 615) (by decide +kernel), ev_has_in (k := 616) (by decide +kernel), ⟨by decide +kernel, by decide +kernel, by decide +kernel⟩, rfl, by decide⟩
def tb_X0_lostWithout : ev_T := [(0, .aload_n 0, 1, 0, 0, 0, .null),
  (1, .invokevirtual 46, 4, 0, 0, 0, .null),
  (4, .invokestatic 50, 7, 0, 0, 0, .null),
  (7, .aload_n 0, 8, 0, 0, 0, .null),
  (8, .iload_n 1, 9, 0, 1, 0, .null),
  (9, .invokevirtual 25, 12, 0, 0, 0, .null),
  (12, .invokestatic 50, 15, 0, 0, 0, .null),
  (15, .isub, 16, 0, 0, 0, .null),
  (16, .ireturn, 17, 0, 0, 0, .null)]
def mm_X0_lostWithout : ev_M := (RX0, "lostWithout", cX0_lostWithout, 2, (some .int), tb_X0_lostWithout, 4, 93, 0, 0)
set_option maxRecDepth 100000 in
theorem ok_X0_lostWithout : ev_OK mm_X0_lostWithout := by unfold ev_OK; decide +kernel
theorem cv_X0_lostWithout : ev_CV yX0_lostWithout mm_X0_lostWithout 0 1 := ⟨ev_has_in (k := 621) (by decide +kernel), ev_has_in (k := 86) (by decide +kernel), ev_has_in (k := 619) (by decide +kernel), ev_has_in (k := 620) (by decide +kernel), ⟨by decide +kernel, by decide +kernel, by decide +kernel⟩, rfl, by decide⟩
def tb_X0_reachedFrom : ev_T := [(0, .iload_n 1, 1, 0, 1, 0, .null),
  (1, .istore_n 3, 2, 0, 3, 0, .null),
  (2, .iload_n 1, 3, 0, 1, 0, .null),
  (3, .istore 4, 5, 0, 4, 0, .null),
  (5, .iconst 0, 6, 0, 0, 0, .int 0),
  (6, .istore 5, 8, 0, 5, 0, .null),
  (8, .iload 5, 10, 0, 5, 0, .null),
  (10, .bipush 24, 12, 0, 0, 0, .int 24),
  (12, .if_icmp .ge 58, 15, 0, 70, 0, .null),
  (15, .iload 4, 17, 0, 4, 0, .null),
  (17, .ifCond .eq 53, 20, 0, 70, 0, .null),
  (20, .iload 4, 22, 0, 4, 0, .null),
  (22, .invokestatic 55, 25, 0, 0, 0, .null),
  (25, .istore 6, 27, 0, 6, 0, .null),
  (27, .aload_n 0, 28, 0, 0, 0, .null),
  (28, .iload 6, 30, 0, 6, 0, .null),
  (30, .iconst 0, 31, 0, 0, 0, .int 0),
  (31, .invokestatic 29, 34, 0, 0, 0, .null),
  (34, .iconst 4, 35, 0, 0, 0, .int 4),
  (35, .iload_n 2, 36, 0, 2, 0, .null),
  (36, .invokevirtual 33, 39, 0, 0, 0, .null),
  (39, .iload_n 3, 40, 0, 3, 0, .null),
  (40, .iconst (-1), 41, 0, 0, 0, .int (-1)),
  (41, .ixor, 42, 0, 0, 0, .null),
  (42, .iand, 43, 0, 0, 0, .null),
  (43, .istore 7, 45, 0, 7, 0, .null),
  (45, .iload_n 3, 46, 0, 3, 0, .null),
  (46, .iload 7, 48, 0, 7, 0, .null),
  (48, .ior, 49, 0, 0, 0, .null),
  (49, .istore_n 3, 50, 0, 3, 0, .null),
  (50, .iload 4, 52, 0, 4, 0, .null),
  (52, .iconst 1, 53, 0, 0, 0, .int 1),
  (53, .iload 6, 55, 0, 6, 0, .null),
  (55, .ishl, 56, 0, 0, 0, .null),
  (56, .iconst (-1), 57, 0, 0, 0, .int (-1)),
  (57, .ixor, 58, 0, 0, 0, .null),
  (58, .iand, 59, 0, 0, 0, .null),
  (59, .iload 7, 61, 0, 7, 0, .null),
  (61, .ior, 62, 0, 0, 0, .null),
  (62, .istore 4, 64, 0, 4, 0, .null),
  (64, .iinc 5 1, 67, 0, 5, 0, .int 1),
  (67, .goto (-59), 70, 0, 8, 0, .null),
  (70, .iload_n 3, 71, 0, 3, 0, .null),
  (71, .ireturn, 72, 0, 0, 0, .null)]
def mm_X0_reachedFrom : ev_M := (RX0, "reachedFrom", cX0_reachedFrom, 8, (some .int), tb_X0_reachedFrom, 1, 25, 0, 0)
set_option maxRecDepth 100000 in
theorem ok_X0_reachedFrom : ev_OK mm_X0_reachedFrom := by unfold ev_OK; decide +kernel
theorem cv_X0_reachedFrom : ev_CV yX0_reachedFrom mm_X0_reachedFrom 0 2 := ⟨ev_has_in (k := 306) (by decide +kernel), ev_has_in (k := 86) (by decide +kernel), ev_has_in (k := 304) (by decide +kernel), ev_has_in (k := 305) (by decide +kernel), ⟨by decide +kernel, by decide +kernel, by decide +kernel⟩, rfl, by decide⟩
def tb_X0_reachedWithout : ev_T := [(0, .aload_n 0, 1, 0, 0, 0, .null),
  (1, .aload_n 0, 2, 0, 0, 0, .null),
  (2, .iconst 0, 3, 0, 0, 0, .int 0),
  (3, .iconst 4, 4, 0, 0, 0, .int 4),
  (4, .iload_n 1, 5, 0, 1, 0, .null),
  (5, .invokevirtual 33, 8, 0, 0, 0, .null),
  (8, .iload_n 1, 9, 0, 1, 0, .null),
  (9, .invokevirtual 37, 12, 0, 0, 0, .null),
  (12, .ireturn, 13, 0, 0, 0, .null)]
def mm_X0_reachedWithout : ev_M := (RX0, "reachedWithout", cX0_reachedWithout, 2, (some .int), tb_X0_reachedWithout, 2, 52, 0, 0)
set_option maxRecDepth 100000 in
theorem ok_X0_reachedWithout : ev_OK mm_X0_reachedWithout := by unfold ev_OK; decide +kernel
theorem cv_X0_reachedWithout : ev_CV yX0_reachedWithout mm_X0_reachedWithout 0 1 := ⟨ev_has_in (k := 451) (by decide +kernel), ev_has_in (k := 86) (by decide +kernel), ev_has_in (k := 450) (by decide +kernel), ev_has_in (k := 10) (by decide +kernel), ⟨by decide +kernel, by decide +kernel, by decide +kernel⟩, rfl, by decide⟩
def tb_X0_heldAmong : ev_T := [(0, .iconst 0, 1, 0, 0, 0, .int 0),
  (1, .istore 4, 3, 0, 4, 0, .null),
  (3, .iload_n 1, 4, 0, 1, 0, .null),
  (4, .istore 5, 6, 0, 5, 0, .null),
  (6, .iload 5, 8, 0, 5, 0, .null),
  (8, .ifCond .lt 55, 11, 0, 63, 0, .null),
  (11, .iload 5, 13, 0, 5, 0, .null),
  (13, .iload_n 1, 14, 0, 1, 0, .null),
  (14, .iload_n 2, 15, 0, 2, 0, .null),
  (15, .iadd, 16, 0, 0, 0, .null),
  (16, .if_icmp .ge 47, 19, 0, 63, 0, .null),
  (19, .iload 5, 21, 0, 5, 0, .null),
  (21, .bipush 100, 23, 0, 0, 0, .int 100),
  (23, .if_icmp .ge 40, 26, 0, 63, 0, .null),
  (26, .iload 5, 28, 0, 5, 0, .null),
  (28, .iload_n 3, 29, 0, 3, 0, .null),
  (29, .if_icmp .eq 28, 32, 0, 57, 0, .null),
  (32, .aload_n 0, 33, 0, 0, 0, .null),
  (33, .getfield 9, 36, 119, 0, 0, .null),
  (36, .iload 5, 38, 0, 5, 0, .null),
  (38, .iaload, 39, 0, 0, 0, .null),
  (39, .iconst (-1), 40, 0, 0, 0, .int (-1)),
  (40, .if_icmp .eq 17, 43, 0, 57, 0, .null),
  (43, .iload 4, 45, 0, 4, 0, .null),
  (45, .iconst 1, 46, 0, 0, 0, .int 1),
  (46, .aload_n 0, 47, 0, 0, 0, .null),
  (47, .getfield 9, 50, 119, 0, 0, .null),
  (50, .iload 5, 52, 0, 5, 0, .null),
  (52, .iaload, 53, 0, 0, 0, .null),
  (53, .ishl, 54, 0, 0, 0, .null),
  (54, .ior, 55, 0, 0, 0, .null),
  (55, .istore 4, 57, 0, 4, 0, .null),
  (57, .iinc 5 1, 60, 0, 5, 0, .int 1),
  (60, .goto (-54), 63, 0, 6, 0, .null),
  (63, .iload 4, 65, 0, 4, 0, .null),
  (65, .ireturn, 66, 0, 0, 0, .null)]
def mm_X0_heldAmong : ev_M := (RX0, "heldAmong", cX0_heldAmong, 6, (some .int), tb_X0_heldAmong, 0, 0, 0, 0)
set_option maxRecDepth 100000 in
theorem ok_X0_heldAmong : ev_OK mm_X0_heldAmong := by unfold ev_OK; decide +kernel
theorem cv_X0_heldAmong : ev_CV yX0_heldAmong mm_X0_heldAmong 0 3 := ⟨ev_has_in (k := 302) (by decide +kernel), ev_has_in (k := 86) (by decide +kernel), ev_has_in (k := 301) (by decide +kernel), ev_has_in (k := 2) (by decide +kernel), ⟨by decide +kernel, by decide +kernel, by decide +kernel⟩, rfl, by decide⟩
theorem ml_X0_21 : ev_ml RX0 21 yX4_isIn := Or.inr ⟨"GossipCounts", ev_has_in (k := 324) (by decide +kernel)⟩
theorem ml_X0_25 : ev_ml RX0 25 yX0_reachedWithout := Or.inl (ev_has_in (k := 448) (by decide +kernel))
theorem ml_X0_29 : ev_ml RX0 29 yX4_placeOf := Or.inr ⟨"GossipCounts", ev_has_in (k := 296) (by decide +kernel)⟩
theorem ml_X0_33 : ev_ml RX0 33 yX0_heldAmong := Or.inl (ev_has_in (k := 299) (by decide +kernel))
theorem ml_X0_37 : ev_ml RX0 37 yX0_reachedFrom := Or.inl (ev_has_in (k := 303) (by decide +kernel))
theorem ml_X0_40 : ev_ml RX0 40 yX0_reachOf := Or.inl (ev_has_in (k := 576) (by decide +kernel))
theorem ml_X0_43 : ev_ml RX0 43 yX0_lostWithout := Or.inl (ev_has_in (k := 618) (by decide +kernel))
theorem ml_X0_46 : ev_ml RX0 46 yX0_reached := Or.inl (ev_has_in (k := 622) (by decide +kernel))
theorem ml_X0_50 : ev_ml RX0 50 yJ6_bitCount_0f7a4 := Or.inl (ev_has_in (k := 623) (by decide +kernel))
theorem ml_X0_55 : ev_ml RX0 55 yJ6_numberOfTrailingZeros_0f7a4 := Or.inl (ev_has_in (k := 307) (by decide +kernel))
end
section
/-! tables of the methods of GossipCounts$Reports, laid by wip/whole/gen/tabs.py -/
def tb_X1_init : ev_T := [(0, .aload_n 0, 1, 0, 0, 0, .null),
  (1, .invokespecial 3, 4, 0, 0, 0, .null),
  (4, .aload_n 0, 5, 0, 0, 0, .null),
  (5, .sipush 6000, 8, 0, 0, 0, .int 6000),
  (8, .newarray .int, 10, 0, 0, 0, .null),
  (10, .putfield 9, 13, 133, 1, 2, .null),
  (13, .aload_n 0, 14, 0, 0, 0, .null),
  (14, .bipush 24, 16, 0, 0, 0, .int 24),
  (16, .newarray .int, 18, 0, 0, 0, .null),
  (18, .putfield 15, 21, 134, 1, 3, .null),
  (21, .aload_n 0, 22, 0, 0, 0, .null),
  (22, .bipush 24, 24, 0, 0, 0, .int 24),
  (24, .newarray .int, 26, 0, 0, 0, .null),
  (26, .putfield 18, 29, 135, 1, 4, .null),
  (29, .return_, 30, 0, 0, 0, .null)]
def mm_X1_init : ev_M := (RX1, "<init>", cX1_init, 1, none, tb_X1_init, 1, 30, 0, 0)
set_option maxRecDepth 100000 in
theorem ok_X1_init : ev_OK mm_X1_init := by unfold ev_OK; decide +kernel
theorem ci_X1_init : ev_CI yX1_init mm_X1_init 0 := ⟨ev_has_in (k := 128) (by decide +kernel), ev_has_in (k := 87) (by decide +kernel), ev_has_in (k := 127) (by decide +kernel), ⟨by decide +kernel, by decide +kernel, by decide +kernel⟩, rfl⟩
def tb_X1_copyFrom : ev_T := [(0, .aload_n 0, 1, 0, 0, 0, .null),
  (1, .aload_n 1, 2, 0, 1, 0, .null),
  (2, .getfield 21, 5, 130, 1, 0, .null),
  (5, .putfield 21, 8, 130, 1, 0, .null),
  (8, .aload_n 0, 9, 0, 0, 0, .null),
  (9, .aload_n 1, 10, 0, 1, 0, .null),
  (10, .getfield 25, 13, 131, 1, 1, .null),
  (13, .putfield 25, 16, 131, 1, 1, .null),
  (16, .aload_n 1, 17, 0, 1, 0, .null),
  (17, .getfield 15, 20, 134, 1, 3, .null),
  (20, .iconst 0, 21, 0, 0, 0, .int 0),
  (21, .aload_n 0, 22, 0, 0, 0, .null),
  (22, .getfield 15, 25, 134, 1, 3, .null),
  (25, .iconst 0, 26, 0, 0, 0, .int 0),
  (26, .bipush 24, 28, 0, 0, 0, .int 24),
  (28, .invokestatic 28, 31, 0, 0, 0, .null),
  (31, .aload_n 1, 32, 0, 1, 0, .null),
  (32, .getfield 18, 35, 135, 1, 4, .null),
  (35, .iconst 0, 36, 0, 0, 0, .int 0),
  (36, .aload_n 0, 37, 0, 0, 0, .null),
  (37, .getfield 18, 40, 135, 1, 4, .null),
  (40, .iconst 0, 41, 0, 0, 0, .int 0),
  (41, .bipush 24, 43, 0, 0, 0, .int 24),
  (43, .invokestatic 28, 46, 0, 0, 0, .null),
  (46, .aload_n 1, 47, 0, 1, 0, .null),
  (47, .getfield 9, 50, 133, 1, 2, .null),
  (50, .iconst 5, 51, 0, 0, 0, .int 5),
  (51, .aload_n 0, 52, 0, 0, 0, .null),
  (52, .getfield 21, 55, 130, 1, 0, .null),
  (55, .imul, 56, 0, 0, 0, .null),
  (56, .aload_n 0, 57, 0, 0, 0, .null),
  (57, .getfield 9, 60, 133, 1, 2, .null),
  (60, .iconst 5, 61, 0, 0, 0, .int 5),
  (61, .aload_n 0, 62, 0, 0, 0, .null),
  (62, .getfield 21, 65, 130, 1, 0, .null),
  (65, .imul, 66, 0, 0, 0, .null),
  (66, .iconst 5, 67, 0, 0, 0, .int 5),
  (67, .aload_n 0, 68, 0, 0, 0, .null),
  (68, .getfield 25, 71, 131, 1, 1, .null),
  (71, .aload_n 0, 72, 0, 0, 0, .null),
  (72, .getfield 21, 75, 130, 1, 0, .null),
  (75, .isub, 76, 0, 0, 0, .null),
  (76, .imul, 77, 0, 0, 0, .null),
  (77, .invokestatic 28, 80, 0, 0, 0, .null),
  (80, .return_, 81, 0, 0, 0, .null)]
def mm_X1_copyFrom : ev_M := (RX1, "copyFrom", cX1_copyFrom, 2, none, tb_X1_copyFrom, 1, 60, 0, 0)
set_option maxRecDepth 100000 in
theorem ok_X1_copyFrom : ev_OK mm_X1_copyFrom := by unfold ev_OK; decide +kernel
theorem cv_X1_copyFrom : ev_CV yX1_copyFrom mm_X1_copyFrom 1 1 := ⟨ev_has_in (k := 279) (by decide +kernel), ev_has_in (k := 87) (by decide +kernel), ev_has_in (k := 277) (by decide +kernel), ev_has_in (k := 278) (by decide +kernel), ⟨by decide +kernel, by decide +kernel, by decide +kernel⟩, rfl, by decide⟩
def tb_X1_underWay : ev_T := [(0, .aload_n 0, 1, 0, 0, 0, .null),
  (1, .getfield 25, 4, 131, 1, 1, .null),
  (4, .aload_n 0, 5, 0, 0, 0, .null),
  (5, .getfield 21, 8, 130, 1, 0, .null),
  (8, .isub, 9, 0, 0, 0, .null),
  (9, .ireturn, 10, 0, 0, 0, .null)]
def mm_X1_underWay : ev_M := (RX1, "underWay", cX1_underWay, 1, (some .int), tb_X1_underWay, 0, 0, 0, 0)
set_option maxRecDepth 100000 in
theorem ok_X1_underWay : ev_OK mm_X1_underWay := by unfold ev_OK; decide +kernel
theorem cv_X1_underWay : ev_CV yX1_underWay mm_X1_underWay 1 0 := ⟨ev_has_in (k := 455) (by decide +kernel), ev_has_in (k := 87) (by decide +kernel), ev_has_in (k := 453) (by decide +kernel), ev_has_in (k := 454) (by decide +kernel), ⟨by decide +kernel, by decide +kernel, by decide +kernel⟩, rfl, by decide⟩
def tb_X1_part : ev_T := [(0, .iconst 5, 1, 0, 0, 0, .int 5),
  (1, .aload_n 0, 2, 0, 0, 0, .null),
  (2, .getfield 21, 5, 130, 1, 0, .null),
  (5, .iload_n 1, 6, 0, 1, 0, .null),
  (6, .iadd, 7, 0, 0, 0, .null),
  (7, .imul, 8, 0, 0, 0, .null),
  (8, .iload_n 2, 9, 0, 2, 0, .null),
  (9, .iadd, 10, 0, 0, 0, .null),
  (10, .istore_n 3, 11, 0, 3, 0, .null),
  (11, .iload_n 3, 12, 0, 3, 0, .null),
  (12, .ifCond .lt 19, 15, 0, 31, 0, .null),
  (15, .iload_n 3, 16, 0, 3, 0, .null),
  (16, .sipush 6000, 19, 0, 0, 0, .int 6000),
  (19, .if_icmp .ge 12, 22, 0, 31, 0, .null),
  (22, .aload_n 0, 23, 0, 0, 0, .null),
  (23, .getfield 9, 26, 133, 1, 2, .null),
  (26, .iload_n 3, 27, 0, 3, 0, .null),
  (27, .iaload, 28, 0, 0, 0, .null),
  (28, .goto 4, 31, 0, 32, 0, .null),
  (31, .iconst 0, 32, 0, 0, 0, .int 0),
  (32, .ireturn, 33, 0, 0, 0, .null)]
def mm_X1_part : ev_M := (RX1, "part", cX1_part, 4, (some .int), tb_X1_part, 0, 0, 0, 0)
set_option maxRecDepth 100000 in
theorem ok_X1_part : ev_OK mm_X1_part := by unfold ev_OK; decide +kernel
theorem cv_X1_part : ev_CV yX1_part mm_X1_part 1 2 := ⟨ev_has_in (k := 373) (by decide +kernel), ev_has_in (k := 87) (by decide +kernel), ev_has_in (k := 371) (by decide +kernel), ev_has_in (k := 372) (by decide +kernel), ⟨by decide +kernel, by decide +kernel, by decide +kernel⟩, rfl, by decide⟩
def tb_X1_anyDue : ev_T := [(0, .aload_n 0, 1, 0, 0, 0, .null),
  (1, .getfield 21, 4, 130, 1, 0, .null),
  (4, .aload_n 0, 5, 0, 0, 0, .null),
  (5, .getfield 25, 8, 131, 1, 1, .null),
  (8, .if_icmp .ge 17, 11, 0, 25, 0, .null),
  (11, .aload_n 0, 12, 0, 0, 0, .null),
  (12, .iconst 0, 13, 0, 0, 0, .int 0),
  (13, .iconst 3, 14, 0, 0, 0, .int 3),
  (14, .invokevirtual 34, 17, 0, 0, 0, .null),
  (17, .iload_n 1, 18, 0, 1, 0, .null),
  (18, .if_icmp .gt 7, 21, 0, 25, 0, .null),
  (21, .iconst 1, 22, 0, 0, 0, .int 1),
  (22, .goto 4, 25, 0, 26, 0, .null),
  (25, .iconst 0, 26, 0, 0, 0, .int 0),
  (26, .ireturn, 27, 0, 0, 0, .null)]
def mm_X1_anyDue : ev_M := (RX1, "anyDue", cX1_anyDue, 2, (some .boolean), tb_X1_anyDue, 1, 23, 0, 0)
set_option maxRecDepth 100000 in
theorem ok_X1_anyDue : ev_OK mm_X1_anyDue := by unfold ev_OK; decide +kernel
theorem cv_X1_anyDue : ev_CV yX1_anyDue mm_X1_anyDue 1 1 := ⟨ev_has_in (k := 369) (by decide +kernel), ev_has_in (k := 87) (by decide +kernel), ev_has_in (k := 367) (by decide +kernel), ev_has_in (k := 368) (by decide +kernel), ⟨by decide +kernel, by decide +kernel, by decide +kernel⟩, rfl, by decide⟩
def tb_X1_anyFor : ev_T := [(0, .iconst 0, 1, 0, 0, 0, .int 0),
  (1, .istore_n 2, 2, 0, 2, 0, .null),
  (2, .iload_n 2, 3, 0, 2, 0, .null),
  (3, .bipush 24, 5, 0, 0, 0, .int 24),
  (5, .if_icmp .ge 28, 8, 0, 33, 0, .null),
  (8, .iload_n 1, 9, 0, 1, 0, .null),
  (9, .iload_n 2, 10, 0, 2, 0, .null),
  (10, .invokestatic 38, 13, 0, 0, 0, .null),
  (13, .ifCond .eq 14, 16, 0, 27, 0, .null),
  (16, .aload_n 0, 17, 0, 0, 0, .null),
  (17, .getfield 15, 20, 134, 1, 3, .null),
  (20, .iload_n 2, 21, 0, 2, 0, .null),
  (21, .iaload, 22, 0, 0, 0, .null),
  (22, .ifCond .le 5, 25, 0, 27, 0, .null),
  (25, .iconst 1, 26, 0, 0, 0, .int 1),
  (26, .ireturn, 27, 0, 0, 0, .null),
  (27, .iinc 2 1, 30, 0, 2, 0, .int 1),
  (30, .goto (-28), 33, 0, 2, 0, .null),
  (33, .iconst 0, 34, 0, 0, 0, .int 0),
  (34, .ireturn, 35, 0, 0, 0, .null)]
def mm_X1_anyFor : ev_M := (RX1, "anyFor", cX1_anyFor, 3, (some .boolean), tb_X1_anyFor, 1, 21, 0, 0)
set_option maxRecDepth 100000 in
theorem ok_X1_anyFor : ev_OK mm_X1_anyFor := by unfold ev_OK; decide +kernel
theorem cv_X1_anyFor : ev_CV yX1_anyFor mm_X1_anyFor 1 1 := ⟨ev_has_in (k := 314) (by decide +kernel), ev_has_in (k := 87) (by decide +kernel), ev_has_in (k := 312) (by decide +kernel), ev_has_in (k := 313) (by decide +kernel), ⟨by decide +kernel, by decide +kernel, by decide +kernel⟩, rfl, by decide⟩
def tb_X1_numberFor : ev_T := [(0, .iload_n 1, 1, 0, 1, 0, .null),
  (1, .ifCond .lt 18, 4, 0, 19, 0, .null),
  (4, .iload_n 1, 5, 0, 1, 0, .null),
  (5, .bipush 24, 7, 0, 0, 0, .int 24),
  (7, .if_icmp .ge 12, 10, 0, 19, 0, .null),
  (10, .aload_n 0, 11, 0, 0, 0, .null),
  (11, .getfield 15, 14, 134, 1, 3, .null),
  (14, .iload_n 1, 15, 0, 1, 0, .null),
  (15, .iaload, 16, 0, 0, 0, .null),
  (16, .goto 4, 19, 0, 20, 0, .null),
  (19, .iconst 0, 20, 0, 0, 0, .int 0),
  (20, .ireturn, 21, 0, 0, 0, .null)]
def mm_X1_numberFor : ev_M := (RX1, "numberFor", cX1_numberFor, 2, (some .int), tb_X1_numberFor, 0, 0, 0, 0)
set_option maxRecDepth 100000 in
theorem ok_X1_numberFor : ev_OK mm_X1_numberFor := by unfold ev_OK; decide +kernel
theorem cv_X1_numberFor : ev_CV yX1_numberFor mm_X1_numberFor 1 1 := ⟨ev_has_in (k := 570) (by decide +kernel), ev_has_in (k := 87) (by decide +kernel), ev_has_in (k := 568) (by decide +kernel), ev_has_in (k := 569) (by decide +kernel), ⟨by decide +kernel, by decide +kernel, by decide +kernel⟩, rfl, by decide⟩
def tb_X1_sumFor : ev_T := [(0, .iload_n 1, 1, 0, 1, 0, .null),
  (1, .ifCond .lt 18, 4, 0, 19, 0, .null),
  (4, .iload_n 1, 5, 0, 1, 0, .null),
  (5, .bipush 24, 7, 0, 0, 0, .int 24),
  (7, .if_icmp .ge 12, 10, 0, 19, 0, .null),
  (10, .aload_n 0, 11, 0, 0, 0, .null),
  (11, .getfield 18, 14, 135, 1, 4, .null),
  (14, .iload_n 1, 15, 0, 1, 0, .null),
  (15, .iaload, 16, 0, 0, 0, .null),
  (16, .goto 4, 19, 0, 20, 0, .null),
  (19, .iconst 0, 20, 0, 0, 0, .int 0),
  (20, .ireturn, 21, 0, 0, 0, .null)]
def mm_X1_sumFor : ev_M := (RX1, "sumFor", cX1_sumFor, 2, (some .int), tb_X1_sumFor, 0, 0, 0, 0)
set_option maxRecDepth 100000 in
theorem ok_X1_sumFor : ev_OK mm_X1_sumFor := by unfold ev_OK; decide +kernel
theorem cv_X1_sumFor : ev_CV yX1_sumFor mm_X1_sumFor 1 1 := ⟨ev_has_in (k := 402) (by decide +kernel), ev_has_in (k := 87) (by decide +kernel), ev_has_in (k := 400) (by decide +kernel), ev_has_in (k := 401) (by decide +kernel), ⟨by decide +kernel, by decide +kernel, by decide +kernel⟩, rfl, by decide⟩
def tb_X1_make : ev_T := [(0, .aload_n 0, 1, 0, 0, 0, .null),
  (1, .getfield 25, 4, 131, 1, 1, .null),
  (4, .istore 5, 6, 0, 5, 0, .null),
  (6, .iload 5, 8, 0, 5, 0, .null),
  (8, .ifCond .lt 21, 11, 0, 29, 0, .null),
  (11, .iload 5, 13, 0, 5, 0, .null),
  (13, .sipush 1200, 16, 0, 0, 0, .int 1200),
  (16, .if_icmp .ge 13, 19, 0, 29, 0, .null),
  (19, .iload_n 1, 20, 0, 1, 0, .null),
  (20, .ifCond .lt 9, 23, 0, 29, 0, .null),
  (23, .iload_n 1, 24, 0, 1, 0, .null),
  (24, .bipush 24, 26, 0, 0, 0, .int 24),
  (26, .if_icmp .lt 6, 29, 0, 32, 0, .null),
  (29, .iload 5, 31, 0, 5, 0, .null),
  (31, .ireturn, 32, 0, 0, 0, .null),
  (32, .iload 5, 34, 0, 5, 0, .null),
  (34, .istore 6, 36, 0, 6, 0, .null),
  (36, .iload 6, 38, 0, 6, 0, .null),
  (38, .aload_n 0, 39, 0, 0, 0, .null),
  (39, .getfield 21, 42, 130, 1, 0, .null),
  (42, .if_icmp .le 31, 45, 0, 73, 0, .null),
  (45, .iload 6, 47, 0, 6, 0, .null),
  (47, .ifCond .le 26, 50, 0, 73, 0, .null),
  (50, .aload_n 0, 51, 0, 0, 0, .null),
  (51, .getfield 9, 54, 133, 1, 2, .null),
  (54, .iconst 5, 55, 0, 0, 0, .int 5),
  (55, .iload 6, 57, 0, 6, 0, .null),
  (57, .iconst 1, 58, 0, 0, 0, .int 1),
  (58, .isub, 59, 0, 0, 0, .null),
  (59, .imul, 60, 0, 0, 0, .null),
  (60, .iconst 3, 61, 0, 0, 0, .int 3),
  (61, .iadd, 62, 0, 0, 0, .null),
  (62, .iaload, 63, 0, 0, 0, .null),
  (63, .iload_n 3, 64, 0, 3, 0, .null),
  (64, .if_icmp .le 9, 67, 0, 73, 0, .null),
  (67, .iinc 6 (-1), 70, 0, 6, 0, .int (-1)),
  (70, .goto (-34), 73, 0, 36, 0, .null),
  (73, .iconst 5, 74, 0, 0, 0, .int 5),
  (74, .iload 6, 76, 0, 6, 0, .null),
  (76, .imul, 77, 0, 0, 0, .null),
  (77, .istore 7, 79, 0, 7, 0, .null),
  (79, .aload_n 0, 80, 0, 0, 0, .null),
  (80, .getfield 9, 83, 133, 1, 2, .null),
  (83, .iload 7, 85, 0, 7, 0, .null),
  (85, .aload_n 0, 86, 0, 0, 0, .null),
  (86, .getfield 9, 89, 133, 1, 2, .null),
  (89, .iload 7, 91, 0, 7, 0, .null),
  (91, .iconst 5, 92, 0, 0, 0, .int 5),
  (92, .iadd, 93, 0, 0, 0, .null),
  (93, .iconst 5, 94, 0, 0, 0, .int 5),
  (94, .iload 5, 96, 0, 5, 0, .null),
  (96, .iload 6, 98, 0, 6, 0, .null),
  (98, .isub, 99, 0, 0, 0, .null),
  (99, .imul, 100, 0, 0, 0, .null),
  (100, .invokestatic 28, 103, 0, 0, 0, .null),
  (103, .aload_n 0, 104, 0, 0, 0, .null),
  (104, .getfield 9, 107, 133, 1, 2, .null),
  (107, .iload 7, 109, 0, 7, 0, .null),
  (109, .iconst 0, 110, 0, 0, 0, .int 0),
  (110, .iadd, 111, 0, 0, 0, .null),
  (111, .iload 5, 113, 0, 5, 0, .null),
  (113, .iastore, 114, 0, 0, 0, .null),
  (114, .aload_n 0, 115, 0, 0, 0, .null),
  (115, .getfield 9, 118, 133, 1, 2, .null),
  (118, .iload 7, 120, 0, 7, 0, .null),
  (120, .iconst 1, 121, 0, 0, 0, .int 1),
  (121, .iadd, 122, 0, 0, 0, .null),
  (122, .iload_n 1, 123, 0, 1, 0, .null),
  (123, .iastore, 124, 0, 0, 0, .null),
  (124, .aload_n 0, 125, 0, 0, 0, .null),
  (125, .getfield 9, 128, 133, 1, 2, .null),
  (128, .iload 7, 130, 0, 7, 0, .null),
  (130, .iconst 2, 131, 0, 0, 0, .int 2),
  (131, .iadd, 132, 0, 0, 0, .null),
  (132, .iload_n 2, 133, 0, 2, 0, .null),
  (133, .iastore, 134, 0, 0, 0, .null),
  (134, .aload_n 0, 135, 0, 0, 0, .null),
  (135, .getfield 9, 138, 133, 1, 2, .null),
  (138, .iload 7, 140, 0, 7, 0, .null),
  (140, .iconst 3, 141, 0, 0, 0, .int 3),
  (141, .iadd, 142, 0, 0, 0, .null),
  (142, .iload_n 3, 143, 0, 3, 0, .null),
  (143, .iastore, 144, 0, 0, 0, .null),
  (144, .aload_n 0, 145, 0, 0, 0, .null),
  (145, .getfield 9, 148, 133, 1, 2, .null),
  (148, .iload 7, 150, 0, 7, 0, .null),
  (150, .iconst 4, 151, 0, 0, 0, .int 4),
  (151, .iadd, 152, 0, 0, 0, .null),
  (152, .iload 4, 154, 0, 4, 0, .null),
  (154, .iastore, 155, 0, 0, 0, .null),
  (155, .aload_n 0, 156, 0, 0, 0, .null),
  (156, .getfield 15, 159, 134, 1, 3, .null),
  (159, .iload_n 1, 160, 0, 1, 0, .null),
  (160, .dup2, 161, 0, 0, 0, .null),
  (161, .iaload, 162, 0, 0, 0, .null),
  (162, .iconst 1, 163, 0, 0, 0, .int 1),
  (163, .iadd, 164, 0, 0, 0, .null),
  (164, .iastore, 165, 0, 0, 0, .null),
  (165, .aload_n 0, 166, 0, 0, 0, .null),
  (166, .getfield 18, 169, 135, 1, 4, .null),
  (169, .iload_n 1, 170, 0, 1, 0, .null),
  (170, .dup2, 171, 0, 0, 0, .null),
  (171, .iaload, 172, 0, 0, 0, .null),
  (172, .iload_n 2, 173, 0, 2, 0, .null),
  (173, .iadd, 174, 0, 0, 0, .null),
  (174, .iastore, 175, 0, 0, 0, .null),
  (175, .aload_n 0, 176, 0, 0, 0, .null),
  (176, .dup, 177, 0, 0, 0, .null),
  (177, .getfield 25, 180, 131, 1, 1, .null),
  (180, .iconst 1, 181, 0, 0, 0, .int 1),
  (181, .iadd, 182, 0, 0, 0, .null),
  (182, .putfield 25, 185, 131, 1, 1, .null),
  (185, .iload 5, 187, 0, 5, 0, .null),
  (187, .ireturn, 188, 0, 0, 0, .null)]
def mm_X1_make : ev_M := (RX1, "make", cX1_make, 8, (some .int), tb_X1_make, 1, 60, 0, 0)
set_option maxRecDepth 100000 in
theorem ok_X1_make : ev_OK mm_X1_make := by unfold ev_OK; decide +kernel
theorem cv_X1_make : ev_CV yX1_make mm_X1_make 1 4 := ⟨ev_has_in (k := 357) (by decide +kernel), ev_has_in (k := 87) (by decide +kernel), ev_has_in (k := 355) (by decide +kernel), ev_has_in (k := 356) (by decide +kernel), ⟨by decide +kernel, by decide +kernel, by decide +kernel⟩, rfl, by decide⟩
def tb_X1_dropFirst : ev_T := [(0, .aload_n 0, 1, 0, 0, 0, .null),
  (1, .iconst 0, 2, 0, 0, 0, .int 0),
  (2, .iconst 1, 3, 0, 0, 0, .int 1),
  (3, .invokevirtual 34, 6, 0, 0, 0, .null),
  (6, .istore_n 1, 7, 0, 1, 0, .null),
  (7, .aload_n 0, 8, 0, 0, 0, .null),
  (8, .getfield 21, 11, 130, 1, 0, .null),
  (11, .aload_n 0, 12, 0, 0, 0, .null),
  (12, .getfield 25, 15, 131, 1, 1, .null),
  (15, .if_icmp .ge 48, 18, 0, 63, 0, .null),
  (18, .iload_n 1, 19, 0, 1, 0, .null),
  (19, .ifCond .lt 44, 22, 0, 63, 0, .null),
  (22, .iload_n 1, 23, 0, 1, 0, .null),
  (23, .bipush 24, 25, 0, 0, 0, .int 24),
  (25, .if_icmp .ge 38, 28, 0, 63, 0, .null),
  (28, .aload_n 0, 29, 0, 0, 0, .null),
  (29, .getfield 15, 32, 134, 1, 3, .null),
  (32, .iload_n 1, 33, 0, 1, 0, .null),
  (33, .dup2, 34, 0, 0, 0, .null),
  (34, .iaload, 35, 0, 0, 0, .null),
  (35, .iconst 1, 36, 0, 0, 0, .int 1),
  (36, .isub, 37, 0, 0, 0, .null),
  (37, .iastore, 38, 0, 0, 0, .null),
  (38, .aload_n 0, 39, 0, 0, 0, .null),
  (39, .getfield 18, 42, 135, 1, 4, .null),
  (42, .iload_n 1, 43, 0, 1, 0, .null),
  (43, .dup2, 44, 0, 0, 0, .null),
  (44, .iaload, 45, 0, 0, 0, .null),
  (45, .aload_n 0, 46, 0, 0, 0, .null),
  (46, .iconst 0, 47, 0, 0, 0, .int 0),
  (47, .iconst 2, 48, 0, 0, 0, .int 2),
  (48, .invokevirtual 34, 51, 0, 0, 0, .null),
  (51, .isub, 52, 0, 0, 0, .null),
  (52, .iastore, 53, 0, 0, 0, .null),
  (53, .aload_n 0, 54, 0, 0, 0, .null),
  (54, .dup, 55, 0, 0, 0, .null),
  (55, .getfield 21, 58, 130, 1, 0, .null),
  (58, .iconst 1, 59, 0, 0, 0, .int 1),
  (59, .iadd, 60, 0, 0, 0, .null),
  (60, .putfield 21, 63, 130, 1, 0, .null),
  (63, .return_, 64, 0, 0, 0, .null)]
def mm_X1_dropFirst : ev_M := (RX1, "dropFirst", cX1_dropFirst, 2, none, tb_X1_dropFirst, 1, 23, 0, 0)
set_option maxRecDepth 100000 in
theorem ok_X1_dropFirst : ev_OK mm_X1_dropFirst := by unfold ev_OK; decide +kernel
theorem cv_X1_dropFirst : ev_CV yX1_dropFirst mm_X1_dropFirst 1 0 := ⟨ev_has_in (k := 378) (by decide +kernel), ev_has_in (k := 87) (by decide +kernel), ev_has_in (k := 376) (by decide +kernel), ev_has_in (k := 377) (by decide +kernel), ⟨by decide +kernel, by decide +kernel, by decide +kernel⟩, rfl, by decide⟩
theorem ml_X1_34 : ev_ml RX1 34 yX1_part := Or.inl (ev_has_in (k := 370) (by decide +kernel))
theorem ml_X1_38 : ev_ml RX1 38 yX4_isIn := Or.inr ⟨"GossipCounts", ev_has_in (k := 315) (by decide +kernel)⟩
end
section
/-! tables of the methods of GossipCounts$Text, laid by wip/whole/gen/tabs.py -/
def tb_X2_init : ev_T := [(0, .aload_n 0, 1, 0, 0, 0, .null),
  (1, .invokespecial 3, 4, 0, 0, 0, .null),
  (4, .aload_n 0, 5, 0, 0, 0, .null),
  (5, .bipush 60, 7, 0, 0, 0, .int 60),
  (7, .newarray .int, 9, 0, 0, 0, .null),
  (9, .putfield 9, 12, 219, 2, 1, .null),
  (12, .aload_n 0, 13, 0, 0, 0, .null),
  (13, .iconst 3, 14, 0, 0, 0, .int 3),
  (14, .newarray .int, 16, 0, 0, 0, .null),
  (16, .putfield 15, 19, 223, 2, 3, .null),
  (19, .return_, 20, 0, 0, 0, .null)]
def mm_X2_init : ev_M := (RX2, "<init>", cX2_init, 1, none, tb_X2_init, 1, 30, 0, 0)
set_option maxRecDepth 100000 in
theorem ok_X2_init : ev_OK mm_X2_init := by unfold ev_OK; decide +kernel
theorem ci_X2_init : ev_CI yX2_init mm_X2_init 0 := ⟨ev_has_in (k := 215) (by decide +kernel), ev_has_in (k := 88) (by decide +kernel), ev_has_in (k := 214) (by decide +kernel), ⟨by decide +kernel, by decide +kernel, by decide +kernel⟩, rfl⟩
def tb_X2_errorAt : ev_T := [(0, .iconst 0, 1, 0, 0, 0, .int 0),
  (1, .istore_n 1, 2, 0, 1, 0, .null),
  (2, .iconst 0, 3, 0, 0, 0, .int 0),
  (3, .istore_n 2, 4, 0, 2, 0, .null),
  (4, .iload_n 2, 5, 0, 2, 0, .null),
  (5, .aload_n 0, 6, 0, 0, 0, .null),
  (6, .getfield 18, 9, 217, 2, 0, .null),
  (9, .if_icmp .ge 33, 12, 0, 42, 0, .null),
  (12, .iload_n 2, 13, 0, 2, 0, .null),
  (13, .bipush 60, 15, 0, 0, 0, .int 60),
  (15, .if_icmp .ge 27, 18, 0, 42, 0, .null),
  (18, .iload_n 1, 19, 0, 1, 0, .null),
  (19, .aload_n 0, 20, 0, 0, 0, .null),
  (20, .getfield 9, 23, 219, 2, 1, .null),
  (23, .iload_n 2, 24, 0, 2, 0, .null),
  (24, .iaload, 25, 0, 0, 0, .null),
  (25, .invokestatic 22, 28, 0, 0, 0, .null),
  (28, .istore_n 1, 29, 0, 1, 0, .null),
  (29, .iload_n 1, 30, 0, 1, 0, .null),
  (30, .iconst (-1), 31, 0, 0, 0, .int (-1)),
  (31, .if_icmp .ne 5, 34, 0, 36, 0, .null),
  (34, .iload_n 2, 35, 0, 2, 0, .null),
  (35, .ireturn, 36, 0, 0, 0, .null),
  (36, .iinc 2 1, 39, 0, 2, 0, .int 1),
  (39, .goto (-35), 42, 0, 4, 0, .null),
  (42, .aload_n 0, 43, 0, 0, 0, .null),
  (43, .getfield 18, 46, 217, 2, 0, .null),
  (46, .ireturn, 47, 0, 0, 0, .null)]
def mm_X2_errorAt : ev_M := (RX2, "errorAt", cX2_errorAt, 3, (some .int), tb_X2_errorAt, 3, 66, 0, 0)
set_option maxRecDepth 100000 in
theorem ok_X2_errorAt : ev_OK mm_X2_errorAt := by unfold ev_OK; decide +kernel
theorem cv_X2_errorAt : ev_CV yX2_errorAt mm_X2_errorAt 2 0 := ⟨ev_has_in (k := 414) (by decide +kernel), ev_has_in (k := 88) (by decide +kernel), ev_has_in (k := 412) (by decide +kernel), ev_has_in (k := 413) (by decide +kernel), ⟨by decide +kernel, by decide +kernel, by decide +kernel⟩, rfl, by decide⟩
def tb_X2_isProgram : ev_T := [(0, .iconst 0, 1, 0, 0, 0, .int 0),
  (1, .istore_n 1, 2, 0, 1, 0, .null),
  (2, .iconst 0, 3, 0, 0, 0, .int 0),
  (3, .istore_n 2, 4, 0, 2, 0, .null),
  (4, .iload_n 2, 5, 0, 2, 0, .null),
  (5, .aload_n 0, 6, 0, 0, 0, .null),
  (6, .getfield 18, 9, 217, 2, 0, .null),
  (9, .if_icmp .ge 26, 12, 0, 35, 0, .null),
  (12, .iload_n 2, 13, 0, 2, 0, .null),
  (13, .bipush 60, 15, 0, 0, 0, .int 60),
  (15, .if_icmp .ge 20, 18, 0, 35, 0, .null),
  (18, .iload_n 1, 19, 0, 1, 0, .null),
  (19, .aload_n 0, 20, 0, 0, 0, .null),
  (20, .getfield 9, 23, 219, 2, 1, .null),
  (23, .iload_n 2, 24, 0, 2, 0, .null),
  (24, .iaload, 25, 0, 0, 0, .null),
  (25, .invokestatic 22, 28, 0, 0, 0, .null),
  (28, .istore_n 1, 29, 0, 1, 0, .null),
  (29, .iinc 2 1, 32, 0, 2, 0, .int 1),
  (32, .goto (-28), 35, 0, 4, 0, .null),
  (35, .iload_n 1, 36, 0, 1, 0, .null),
  (36, .bipush 14, 38, 0, 0, 0, .int 14),
  (38, .if_icmp .eq 21, 41, 0, 59, 0, .null),
  (41, .iload_n 1, 42, 0, 1, 0, .null),
  (42, .bipush 6, 44, 0, 0, 0, .int 6),
  (44, .if_icmp .eq 15, 47, 0, 59, 0, .null),
  (47, .iload_n 1, 48, 0, 1, 0, .null),
  (48, .bipush 7, 50, 0, 0, 0, .int 7),
  (50, .if_icmp .eq 9, 53, 0, 59, 0, .null),
  (53, .iload_n 1, 54, 0, 1, 0, .null),
  (54, .bipush 13, 56, 0, 0, 0, .int 13),
  (56, .if_icmp .ne 7, 59, 0, 63, 0, .null),
  (59, .iconst 1, 60, 0, 0, 0, .int 1),
  (60, .goto 4, 63, 0, 64, 0, .null),
  (63, .iconst 0, 64, 0, 0, 0, .int 0),
  (64, .ireturn, 65, 0, 0, 0, .null)]
def mm_X2_isProgram : ev_M := (RX2, "isProgram", cX2_isProgram, 3, (some .boolean), tb_X2_isProgram, 3, 66, 0, 0)
set_option maxRecDepth 100000 in
theorem ok_X2_isProgram : ev_OK mm_X2_isProgram := by unfold ev_OK; decide +kernel
theorem cv_X2_isProgram : ev_CV yX2_isProgram mm_X2_isProgram 2 0 := ⟨ev_has_in (k := 787) (by decide +kernel), ev_has_in (k := 88) (by decide +kernel), ev_has_in (k := 785) (by decide +kernel), ev_has_in (k := 786) (by decide +kernel), ⟨by decide +kernel, by decide +kernel, by decide +kernel⟩, rfl, by decide⟩
def tb_X2_next : ev_T := [(0, .iload_n 0, 1, 0, 0, 0, .null),
  (1, .tableswitch 280 0 14 #[75, 80, 97, 97, 112, 124, 174, 197, 146, 227, 250, 272, 157, 174, 219], 76, 0, 75, 1, .null),
  (76, .iload_n 1, 77, 0, 1, 0, .null),
  (77, .invokestatic 26, 80, 0, 0, 0, .null),
  (80, .ireturn, 81, 0, 0, 0, .null),
  (81, .iload_n 1, 82, 0, 1, 0, .null),
  (82, .iconst 0, 83, 0, 0, 0, .int 0),
  (83, .bipush 9, 85, 0, 0, 0, .int 9),
  (85, .invokestatic 30, 88, 0, 0, 0, .null),
  (88, .ifCond .eq 8, 91, 0, 96, 0, .null),
  (91, .bipush 14, 93, 0, 0, 0, .int 14),
  (93, .goto 4, 96, 0, 97, 0, .null),
  (96, .iconst (-1), 97, 0, 0, 0, .int (-1)),
  (97, .ireturn, 98, 0, 0, 0, .null),
  (98, .iload_n 1, 99, 0, 1, 0, .null),
  (99, .iconst 0, 100, 0, 0, 0, .int 0),
  (100, .iconst 3, 101, 0, 0, 0, .int 3),
  (101, .invokestatic 30, 104, 0, 0, 0, .null),
  (104, .ifCond .eq 7, 107, 0, 111, 0, .null),
  (107, .iconst 4, 108, 0, 0, 0, .int 4),
  (108, .goto 4, 111, 0, 112, 0, .null),
  (111, .iconst (-1), 112, 0, 0, 0, .int (-1)),
  (112, .ireturn, 113, 0, 0, 0, .null),
  (113, .iload_n 1, 114, 0, 1, 0, .null),
  (114, .bipush 61, 116, 0, 0, 0, .int 61),
  (116, .if_icmp .ne 7, 119, 0, 123, 0, .null),
  (119, .iconst 5, 120, 0, 0, 0, .int 5),
  (120, .goto 4, 123, 0, 124, 0, .null),
  (123, .iconst (-1), 124, 0, 0, 0, .int (-1)),
  (124, .ireturn, 125, 0, 0, 0, .null),
  (125, .iload_n 1, 126, 0, 1, 0, .null),
  (126, .bipush 45, 128, 0, 0, 0, .int 45),
  (128, .if_icmp .ne 8, 131, 0, 136, 0, .null),
  (131, .bipush 14, 133, 0, 0, 0, .int 14),
  (133, .goto 13, 136, 0, 146, 0, .null),
  (136, .iload_n 1, 137, 0, 1, 0, .null),
  (137, .bipush 14, 139, 0, 0, 0, .int 14),
  (139, .bipush 6, 141, 0, 0, 0, .int 6),
  (141, .bipush 7, 143, 0, 0, 0, .int 7),
  (143, .invokestatic 34, 146, 0, 0, 0, .null),
  (146, .ireturn, 147, 0, 0, 0, .null),
  (147, .iload_n 1, 148, 0, 1, 0, .null),
  (148, .bipush 11, 150, 0, 0, 0, .int 11),
  (150, .bipush 9, 152, 0, 0, 0, .int 9),
  (152, .bipush 10, 154, 0, 0, 0, .int 10),
  (154, .invokestatic 34, 157, 0, 0, 0, .null),
  (157, .ireturn, 158, 0, 0, 0, .null),
  (158, .iload_n 1, 159, 0, 1, 0, .null),
  (159, .iconst 1, 160, 0, 0, 0, .int 1),
  (160, .bipush 9, 162, 0, 0, 0, .int 9),
  (162, .invokestatic 30, 165, 0, 0, 0, .null),
  (165, .ifCond .eq 8, 168, 0, 173, 0, .null),
  (168, .bipush 13, 170, 0, 0, 0, .int 13),
  (170, .goto 4, 173, 0, 174, 0, .null),
  (173, .iconst (-1), 174, 0, 0, 0, .int (-1)),
  (174, .ireturn, 175, 0, 0, 0, .null),
  (175, .iload_n 1, 176, 0, 1, 0, .null),
  (176, .iconst 0, 177, 0, 0, 0, .int 0),
  (177, .bipush 9, 179, 0, 0, 0, .int 9),
  (179, .invokestatic 30, 182, 0, 0, 0, .null),
  (182, .ifCond .eq 8, 185, 0, 190, 0, .null),
  (185, .bipush 14, 187, 0, 0, 0, .int 14),
  (187, .goto 10, 190, 0, 197, 0, .null),
  (190, .iload_n 1, 191, 0, 1, 0, .null),
  (191, .bipush 59, 193, 0, 0, 0, .int 59),
  (193, .iconst 0, 194, 0, 0, 0, .int 0),
  (194, .invokestatic 38, 197, 0, 0, 0, .null),
  (197, .ireturn, 198, 0, 0, 0, .null),
  (198, .iload_n 1, 199, 0, 1, 0, .null),
  (199, .iconst 0, 200, 0, 0, 0, .int 0),
  (200, .iconst 3, 201, 0, 0, 0, .int 3),
  (201, .invokestatic 30, 204, 0, 0, 0, .null),
  (204, .ifCond .eq 8, 207, 0, 212, 0, .null),
  (207, .bipush 14, 209, 0, 0, 0, .int 14),
  (209, .goto 10, 212, 0, 219, 0, .null),
  (212, .iload_n 1, 213, 0, 1, 0, .null),
  (213, .bipush 59, 215, 0, 0, 0, .int 59),
  (215, .iconst 0, 216, 0, 0, 0, .int 0),
  (216, .invokestatic 38, 219, 0, 0, 0, .null),
  (219, .ireturn, 220, 0, 0, 0, .null),
  (220, .iload_n 1, 221, 0, 1, 0, .null),
  (221, .bipush 59, 223, 0, 0, 0, .int 59),
  (223, .iconst 0, 224, 0, 0, 0, .int 0),
  (224, .invokestatic 38, 227, 0, 0, 0, .null),
  (227, .ireturn, 228, 0, 0, 0, .null),
  (228, .iload_n 1, 229, 0, 1, 0, .null),
  (229, .iconst 0, 230, 0, 0, 0, .int 0),
  (230, .bipush 9, 232, 0, 0, 0, .int 9),
  (232, .invokestatic 30, 235, 0, 0, 0, .null),
  (235, .ifCond .eq 8, 238, 0, 243, 0, .null),
  (238, .bipush 11, 240, 0, 0, 0, .int 11),
  (240, .goto 10, 243, 0, 250, 0, .null),
  (243, .iload_n 1, 244, 0, 1, 0, .null),
  (244, .bipush 46, 246, 0, 0, 0, .int 46),
  (246, .iconst 3, 247, 0, 0, 0, .int 3),
  (247, .invokestatic 38, 250, 0, 0, 0, .null),
  (250, .ireturn, 251, 0, 0, 0, .null),
  (251, .iload_n 1, 252, 0, 1, 0, .null),
  (252, .iconst 0, 253, 0, 0, 0, .int 0),
  (253, .iconst 3, 254, 0, 0, 0, .int 3),
  (254, .invokestatic 30, 257, 0, 0, 0, .null),
  (257, .ifCond .eq 8, 260, 0, 265, 0, .null),
  (260, .bipush 11, 262, 0, 0, 0, .int 11),
  (262, .goto 10, 265, 0, 272, 0, .null),
  (265, .iload_n 1, 266, 0, 1, 0, .null),
  (266, .bipush 46, 268, 0, 0, 0, .int 46),
  (268, .iconst 3, 269, 0, 0, 0, .int 3),
  (269, .invokestatic 38, 272, 0, 0, 0, .null),
  (272, .ireturn, 273, 0, 0, 0, .null),
  (273, .iload_n 1, 274, 0, 1, 0, .null),
  (274, .bipush 46, 276, 0, 0, 0, .int 46),
  (276, .iconst 3, 277, 0, 0, 0, .int 3),
  (277, .invokestatic 38, 280, 0, 0, 0, .null),
  (280, .ireturn, 281, 0, 0, 0, .null),
  (281, .iconst (-1), 282, 0, 0, 0, .int (-1)),
  (282, .ireturn, 283, 0, 0, 0, .null)]
def mm_X2_next : ev_M := (RX2, "next", cX2_next, 2, (some .int), tb_X2_next, 2, 45, 0, 0)
set_option maxRecDepth 100000 in
theorem ok_X2_next : ev_OK mm_X2_next := by unfold ev_OK; decide +kernel
theorem cs_X2_next : ev_CS yX2_next mm_X2_next 2 := ⟨ev_has_in (k := 417) (by decide +kernel), ev_has_in (k := 88) (by decide +kernel), ev_has_in (k := 416) (by decide +kernel), ⟨by decide +kernel, by decide +kernel, by decide +kernel⟩⟩
def tb_X2_nextInStep : ev_T := [(0, .iload_n 0, 1, 0, 0, 0, .null),
  (1, .tableswitch 80 104 116 #[69, 80, 77, 80, 80, 80, 67, 80, 80, 80, 80, 71, 74], 68, 0, 67, 1, .null),
  (68, .iconst 1, 69, 0, 0, 0, .int 1),
  (69, .ireturn, 70, 0, 0, 0, .null),
  (70, .iconst 2, 71, 0, 0, 0, .int 2),
  (71, .ireturn, 72, 0, 0, 0, .null),
  (72, .bipush 8, 74, 0, 0, 0, .int 8),
  (74, .ireturn, 75, 0, 0, 0, .null),
  (75, .bipush 12, 77, 0, 0, 0, .int 12),
  (77, .ireturn, 78, 0, 0, 0, .null),
  (78, .bipush 14, 80, 0, 0, 0, .int 14),
  (80, .ireturn, 81, 0, 0, 0, .null),
  (81, .iconst (-1), 82, 0, 0, 0, .int (-1)),
  (82, .ireturn, 83, 0, 0, 0, .null)]
def mm_X2_nextInStep : ev_M := (RX2, "nextInStep", cX2_nextInStep, 1, (some .int), tb_X2_nextInStep, 0, 0, 0, 0)
set_option maxRecDepth 100000 in
theorem ok_X2_nextInStep : ev_OK mm_X2_nextInStep := by unfold ev_OK; decide +kernel
theorem cs_X2_nextInStep : ev_CS yX2_nextInStep mm_X2_nextInStep 1 := ⟨ev_has_in (k := 420) (by decide +kernel), ev_has_in (k := 88) (by decide +kernel), ev_has_in (k := 419) (by decide +kernel), ⟨by decide +kernel, by decide +kernel, by decide +kernel⟩⟩
def tb_X2_nextInThing : ev_T := [(0, .iload_n 0, 1, 0, 0, 0, .null),
  (1, .bipush 49, 3, 0, 0, 0, .int 49),
  (3, .if_icmp .ne 5, 6, 0, 8, 0, .null),
  (6, .iload_n 2, 7, 0, 2, 0, .null),
  (7, .ireturn, 8, 0, 0, 0, .null),
  (8, .iload_n 0, 9, 0, 0, 0, .null),
  (9, .bipush 50, 11, 0, 0, 0, .int 50),
  (11, .if_icmp .ne 5, 14, 0, 16, 0, .null),
  (14, .iload_n 3, 15, 0, 3, 0, .null),
  (15, .ireturn, 16, 0, 0, 0, .null),
  (16, .iload_n 0, 17, 0, 0, 0, .null),
  (17, .iconst 0, 18, 0, 0, 0, .int 0),
  (18, .bipush 9, 20, 0, 0, 0, .int 9),
  (20, .invokestatic 30, 23, 0, 0, 0, .null),
  (23, .ifCond .eq 7, 26, 0, 30, 0, .null),
  (26, .iload_n 1, 27, 0, 1, 0, .null),
  (27, .goto 4, 30, 0, 31, 0, .null),
  (30, .iconst (-1), 31, 0, 0, 0, .int (-1)),
  (31, .ireturn, 32, 0, 0, 0, .null)]
def mm_X2_nextInThing : ev_M := (RX2, "nextInThing", cX2_nextInThing, 4, (some .int), tb_X2_nextInThing, 1, 22, 0, 0)
set_option maxRecDepth 100000 in
theorem ok_X2_nextInThing : ev_OK mm_X2_nextInThing := by unfold ev_OK; decide +kernel
theorem cs_X2_nextInThing : ev_CS yX2_nextInThing mm_X2_nextInThing 4 := ⟨ev_has_in (k := 426) (by decide +kernel), ev_has_in (k := 88) (by decide +kernel), ev_has_in (k := 425) (by decide +kernel), ⟨by decide +kernel, by decide +kernel, by decide +kernel⟩⟩
def tb_X2_nextIf : ev_T := [(0, .iload_n 0, 1, 0, 0, 0, .null),
  (1, .iload_n 1, 2, 0, 1, 0, .null),
  (2, .if_icmp .ne 7, 5, 0, 9, 0, .null),
  (5, .iload_n 2, 6, 0, 2, 0, .null),
  (6, .goto 4, 9, 0, 10, 0, .null),
  (9, .iconst (-1), 10, 0, 0, 0, .int (-1)),
  (10, .ireturn, 11, 0, 0, 0, .null)]
def mm_X2_nextIf : ev_M := (RX2, "nextIf", cX2_nextIf, 3, (some .int), tb_X2_nextIf, 0, 0, 0, 0)
set_option maxRecDepth 100000 in
theorem ok_X2_nextIf : ev_OK mm_X2_nextIf := by unfold ev_OK; decide +kernel
theorem cs_X2_nextIf : ev_CS yX2_nextIf mm_X2_nextIf 3 := ⟨ev_has_in (k := 429) (by decide +kernel), ev_has_in (k := 88) (by decide +kernel), ev_has_in (k := 428) (by decide +kernel), ⟨by decide +kernel, by decide +kernel, by decide +kernel⟩⟩
def tb_X2_isDigit : ev_T := [(0, .iload_n 0, 1, 0, 0, 0, .null),
  (1, .bipush 48, 3, 0, 0, 0, .int 48),
  (3, .iload_n 1, 4, 0, 1, 0, .null),
  (4, .iadd, 5, 0, 0, 0, .null),
  (5, .if_icmp .lt 15, 8, 0, 20, 0, .null),
  (8, .iload_n 0, 9, 0, 0, 0, .null),
  (9, .bipush 48, 11, 0, 0, 0, .int 48),
  (11, .iload_n 2, 12, 0, 2, 0, .null),
  (12, .iadd, 13, 0, 0, 0, .null),
  (13, .if_icmp .gt 7, 16, 0, 20, 0, .null),
  (16, .iconst 1, 17, 0, 0, 0, .int 1),
  (17, .goto 4, 20, 0, 21, 0, .null),
  (20, .iconst 0, 21, 0, 0, 0, .int 0),
  (21, .ireturn, 22, 0, 0, 0, .null)]
def mm_X2_isDigit : ev_M := (RX2, "isDigit", cX2_isDigit, 3, (some .boolean), tb_X2_isDigit, 0, 0, 0, 0)
set_option maxRecDepth 100000 in
theorem ok_X2_isDigit : ev_OK mm_X2_isDigit := by unfold ev_OK; decide +kernel
theorem cs_X2_isDigit : ev_CS yX2_isDigit mm_X2_isDigit 3 := ⟨ev_has_in (k := 423) (by decide +kernel), ev_has_in (k := 88) (by decide +kernel), ev_has_in (k := 422) (by decide +kernel), ⟨by decide +kernel, by decide +kernel, by decide +kernel⟩⟩
def tb_X2_toBegin : ev_T := [(0, .aload_n 0, 1, 0, 0, 0, .null),
  (1, .iconst 0, 2, 0, 0, 0, .int 0),
  (2, .putfield 42, 5, 225, 2, 4, .null),
  (5, .return_, 6, 0, 0, 0, .null)]
def mm_X2_toBegin : ev_M := (RX2, "toBegin", cX2_toBegin, 1, none, tb_X2_toBegin, 0, 0, 0, 0)
set_option maxRecDepth 100000 in
theorem ok_X2_toBegin : ev_OK mm_X2_toBegin := by unfold ev_OK; decide +kernel
theorem cv_X2_toBegin : ev_CV yX2_toBegin mm_X2_toBegin 2 0 := ⟨ev_has_in (k := 792) (by decide +kernel), ev_has_in (k := 88) (by decide +kernel), ev_has_in (k := 790) (by decide +kernel), ev_has_in (k := 791) (by decide +kernel), ⟨by decide +kernel, by decide +kernel, by decide +kernel⟩, rfl, by decide⟩
def tb_X2_readStep : ev_T := [(0, .aload_n 0, 1, 0, 0, 0, .null),
  (1, .invokevirtual 45, 4, 0, 0, 0, .null),
  (4, .ifCond .ne 5, 7, 0, 9, 0, .null),
  (7, .iconst 0, 8, 0, 0, 0, .int 0),
  (8, .ireturn, 9, 0, 0, 0, .null),
  (9, .aload_n 0, 10, 0, 0, 0, .null),
  (10, .aload_n 0, 11, 0, 0, 0, .null),
  (11, .getfield 9, 14, 219, 2, 1, .null),
  (14, .aload_n 0, 15, 0, 0, 0, .null),
  (15, .getfield 42, 18, 225, 2, 4, .null),
  (18, .iaload, 19, 0, 0, 0, .null),
  (19, .putfield 49, 22, 221, 2, 2, .null),
  (22, .aload_n 0, 23, 0, 0, 0, .null),
  (23, .dup, 24, 0, 0, 0, .null),
  (24, .getfield 42, 27, 225, 2, 4, .null),
  (27, .iconst 1, 28, 0, 0, 0, .int 1),
  (28, .iadd, 29, 0, 0, 0, .null),
  (29, .putfield 42, 32, 225, 2, 4, .null),
  (32, .iconst 0, 33, 0, 0, 0, .int 0),
  (33, .istore_n 1, 34, 0, 1, 0, .null),
  (34, .iload_n 1, 35, 0, 1, 0, .null),
  (35, .iconst 3, 36, 0, 0, 0, .int 3),
  (36, .if_icmp .ge 85, 39, 0, 121, 0, .null),
  (39, .aload_n 0, 40, 0, 0, 0, .null),
  (40, .invokevirtual 45, 43, 0, 0, 0, .null),
  (43, .ifCond .eq 78, 46, 0, 121, 0, .null),
  (46, .aload_n 0, 47, 0, 0, 0, .null),
  (47, .getfield 9, 50, 219, 2, 1, .null),
  (50, .aload_n 0, 51, 0, 0, 0, .null),
  (51, .getfield 42, 54, 225, 2, 4, .null),
  (54, .iaload, 55, 0, 0, 0, .null),
  (55, .bipush 59, 57, 0, 0, 0, .int 59),
  (57, .if_icmp .eq 64, 60, 0, 121, 0, .null),
  (60, .aload_n 0, 61, 0, 0, 0, .null),
  (61, .getfield 15, 64, 223, 2, 3, .null),
  (64, .iload_n 1, 65, 0, 1, 0, .null),
  (65, .aload_n 0, 66, 0, 0, 0, .null),
  (66, .invokevirtual 52, 69, 0, 0, 0, .null),
  (69, .iastore, 70, 0, 0, 0, .null),
  (70, .aload_n 0, 71, 0, 0, 0, .null),
  (71, .invokevirtual 45, 74, 0, 0, 0, .null),
  (74, .ifCond .eq 41, 77, 0, 115, 0, .null),
  (77, .aload_n 0, 78, 0, 0, 0, .null),
  (78, .getfield 9, 81, 219, 2, 1, .null),
  (81, .aload_n 0, 82, 0, 0, 0, .null),
  (82, .getfield 42, 85, 225, 2, 4, .null),
  (85, .iaload, 86, 0, 0, 0, .null),
  (86, .bipush 46, 88, 0, 0, 0, .int 46),
  (88, .if_icmp .eq 17, 91, 0, 105, 0, .null),
  (91, .aload_n 0, 92, 0, 0, 0, .null),
  (92, .getfield 9, 95, 219, 2, 1, .null),
  (95, .aload_n 0, 96, 0, 0, 0, .null),
  (96, .getfield 42, 99, 225, 2, 4, .null),
  (99, .iaload, 100, 0, 0, 0, .null),
  (100, .bipush 61, 102, 0, 0, 0, .int 61),
  (102, .if_icmp .ne 13, 105, 0, 115, 0, .null),
  (105, .aload_n 0, 106, 0, 0, 0, .null),
  (106, .dup, 107, 0, 0, 0, .null),
  (107, .getfield 42, 110, 225, 2, 4, .null),
  (110, .iconst 1, 111, 0, 0, 0, .int 1),
  (111, .iadd, 112, 0, 0, 0, .null),
  (112, .putfield 42, 115, 225, 2, 4, .null),
  (115, .iinc 1 1, 118, 0, 1, 0, .int 1),
  (118, .goto (-84), 121, 0, 34, 0, .null),
  (121, .aload_n 0, 122, 0, 0, 0, .null),
  (122, .dup, 123, 0, 0, 0, .null),
  (123, .getfield 42, 126, 225, 2, 4, .null),
  (126, .iconst 1, 127, 0, 0, 0, .int 1),
  (127, .iadd, 128, 0, 0, 0, .null),
  (128, .putfield 42, 131, 225, 2, 4, .null),
  (131, .iconst 1, 132, 0, 0, 0, .int 1),
  (132, .ireturn, 133, 0, 0, 0, .null)]
def mm_X2_readStep : ev_M := (RX2, "readStep", cX2_readStep, 2, (some .boolean), tb_X2_readStep, 2, 44, 0, 0)
set_option maxRecDepth 100000 in
theorem ok_X2_readStep : ev_OK mm_X2_readStep := by unfold ev_OK; decide +kernel
theorem cv_X2_readStep : ev_CV yX2_readStep mm_X2_readStep 2 0 := ⟨ev_has_in (k := 796) (by decide +kernel), ev_has_in (k := 88) (by decide +kernel), ev_has_in (k := 794) (by decide +kernel), ev_has_in (k := 795) (by decide +kernel), ⟨by decide +kernel, by decide +kernel, by decide +kernel⟩, rfl, by decide⟩
def tb_X2_readNumber : ev_T := [(0, .aload_n 0, 1, 0, 0, 0, .null),
  (1, .invokevirtual 45, 4, 0, 0, 0, .null),
  (4, .ifCond .eq 29, 7, 0, 33, 0, .null),
  (7, .aload_n 0, 8, 0, 0, 0, .null),
  (8, .getfield 9, 11, 219, 2, 1, .null),
  (11, .aload_n 0, 12, 0, 0, 0, .null),
  (12, .getfield 42, 15, 225, 2, 4, .null),
  (15, .iaload, 16, 0, 0, 0, .null),
  (16, .bipush 45, 18, 0, 0, 0, .int 45),
  (18, .if_icmp .ne 15, 21, 0, 33, 0, .null),
  (21, .aload_n 0, 22, 0, 0, 0, .null),
  (22, .dup, 23, 0, 0, 0, .null),
  (23, .getfield 42, 26, 225, 2, 4, .null),
  (26, .iconst 1, 27, 0, 0, 0, .int 1),
  (27, .iadd, 28, 0, 0, 0, .null),
  (28, .putfield 42, 31, 225, 2, 4, .null),
  (31, .iconst (-1), 32, 0, 0, 0, .int (-1)),
  (32, .ireturn, 33, 0, 0, 0, .null),
  (33, .iconst 0, 34, 0, 0, 0, .int 0),
  (34, .istore_n 1, 35, 0, 1, 0, .null),
  (35, .iconst 0, 36, 0, 0, 0, .int 0),
  (36, .istore_n 2, 37, 0, 2, 0, .null),
  (37, .iload_n 2, 38, 0, 2, 0, .null),
  (38, .bipush 60, 40, 0, 0, 0, .int 60),
  (40, .if_icmp .ge 62, 43, 0, 102, 0, .null),
  (43, .aload_n 0, 44, 0, 0, 0, .null),
  (44, .invokevirtual 45, 47, 0, 0, 0, .null),
  (47, .ifCond .eq 55, 50, 0, 102, 0, .null),
  (50, .aload_n 0, 51, 0, 0, 0, .null),
  (51, .getfield 9, 54, 219, 2, 1, .null),
  (54, .aload_n 0, 55, 0, 0, 0, .null),
  (55, .getfield 42, 58, 225, 2, 4, .null),
  (58, .iaload, 59, 0, 0, 0, .null),
  (59, .iconst 0, 60, 0, 0, 0, .int 0),
  (60, .bipush 9, 62, 0, 0, 0, .int 9),
  (62, .invokestatic 30, 65, 0, 0, 0, .null),
  (65, .ifCond .eq 37, 68, 0, 102, 0, .null),
  (68, .bipush 10, 70, 0, 0, 0, .int 10),
  (70, .iload_n 1, 71, 0, 1, 0, .null),
  (71, .imul, 72, 0, 0, 0, .null),
  (72, .aload_n 0, 73, 0, 0, 0, .null),
  (73, .getfield 9, 76, 219, 2, 1, .null),
  (76, .aload_n 0, 77, 0, 0, 0, .null),
  (77, .getfield 42, 80, 225, 2, 4, .null),
  (80, .iaload, 81, 0, 0, 0, .null),
  (81, .iadd, 82, 0, 0, 0, .null),
  (82, .bipush 48, 84, 0, 0, 0, .int 48),
  (84, .isub, 85, 0, 0, 0, .null),
  (85, .istore_n 1, 86, 0, 1, 0, .null),
  (86, .aload_n 0, 87, 0, 0, 0, .null),
  (87, .dup, 88, 0, 0, 0, .null),
  (88, .getfield 42, 91, 225, 2, 4, .null),
  (91, .iconst 1, 92, 0, 0, 0, .int 1),
  (92, .iadd, 93, 0, 0, 0, .null),
  (93, .putfield 42, 96, 225, 2, 4, .null),
  (96, .iinc 2 1, 99, 0, 2, 0, .int 1),
  (99, .goto (-62), 102, 0, 37, 0, .null),
  (102, .iload_n 1, 103, 0, 1, 0, .null),
  (103, .ireturn, 104, 0, 0, 0, .null)]
def mm_X2_readNumber : ev_M := (RX2, "readNumber", cX2_readNumber, 3, (some .int), tb_X2_readNumber, 1, 22, 0, 0)
set_option maxRecDepth 100000 in
theorem ok_X2_readNumber : ev_OK mm_X2_readNumber := by unfold ev_OK; decide +kernel
theorem cv_X2_readNumber : ev_CV yX2_readNumber mm_X2_readNumber 2 0 := ⟨ev_has_in (k := 804) (by decide +kernel), ev_has_in (k := 88) (by decide +kernel), ev_has_in (k := 803) (by decide +kernel), ev_has_in (k := 28) (by decide +kernel), ⟨by decide +kernel, by decide +kernel, by decide +kernel⟩, rfl, by decide⟩
def tb_X2_hasMore : ev_T := [(0, .aload_n 0, 1, 0, 0, 0, .null),
  (1, .getfield 42, 4, 225, 2, 4, .null),
  (4, .ifCond .lt 27, 7, 0, 31, 0, .null),
  (7, .aload_n 0, 8, 0, 0, 0, .null),
  (8, .getfield 42, 11, 225, 2, 4, .null),
  (11, .aload_n 0, 12, 0, 0, 0, .null),
  (12, .getfield 18, 15, 217, 2, 0, .null),
  (15, .if_icmp .ge 16, 18, 0, 31, 0, .null),
  (18, .aload_n 0, 19, 0, 0, 0, .null),
  (19, .getfield 42, 22, 225, 2, 4, .null),
  (22, .bipush 60, 24, 0, 0, 0, .int 60),
  (24, .if_icmp .ge 7, 27, 0, 31, 0, .null),
  (27, .iconst 1, 28, 0, 0, 0, .int 1),
  (28, .goto 4, 31, 0, 32, 0, .null),
  (31, .iconst 0, 32, 0, 0, 0, .int 0),
  (32, .ireturn, 33, 0, 0, 0, .null)]
def mm_X2_hasMore : ev_M := (RX2, "hasMore", cX2_hasMore, 1, (some .boolean), tb_X2_hasMore, 0, 0, 0, 0)
set_option maxRecDepth 100000 in
theorem ok_X2_hasMore : ev_OK mm_X2_hasMore := by unfold ev_OK; decide +kernel
theorem cv_X2_hasMore : ev_CV yX2_hasMore mm_X2_hasMore 2 0 := ⟨ev_has_in (k := 800) (by decide +kernel), ev_has_in (k := 88) (by decide +kernel), ev_has_in (k := 799) (by decide +kernel), ev_has_in (k := 27) (by decide +kernel), ⟨by decide +kernel, by decide +kernel, by decide +kernel⟩, rfl, by decide⟩
theorem ml_X2_22 : ev_ml RX2 22 yX2_next := Or.inl (ev_has_in (k := 415) (by decide +kernel))
theorem ml_X2_26 : ev_ml RX2 26 yX2_nextInStep := Or.inl (ev_has_in (k := 418) (by decide +kernel))
theorem ml_X2_30 : ev_ml RX2 30 yX2_isDigit := Or.inl (ev_has_in (k := 421) (by decide +kernel))
theorem ml_X2_34 : ev_ml RX2 34 yX2_nextInThing := Or.inl (ev_has_in (k := 424) (by decide +kernel))
theorem ml_X2_38 : ev_ml RX2 38 yX2_nextIf := Or.inl (ev_has_in (k := 427) (by decide +kernel))
theorem ml_X2_45 : ev_ml RX2 45 yX2_hasMore := Or.inl (ev_has_in (k := 797) (by decide +kernel))
theorem ml_X2_52 : ev_ml RX2 52 yX2_readNumber := Or.inl (ev_has_in (k := 801) (by decide +kernel))
end
section
/-! tables of the methods of GossipCounts$World, laid by wip/whole/gen/tabs.py -/
def tb_X3_init : ev_T := [(0, .aload_n 0, 1, 0, 0, 0, .null),
  (1, .invokespecial 3, 4, 0, 0, 0, .null),
  (4, .aload_n 0, 5, 0, 0, 0, .null),
  (5, .iconst 5, 6, 0, 0, 0, .int 5),
  (6, .newarray .int, 8, 0, 0, 0, .null),
  (8, .dup, 9, 0, 0, 0, .null),
  (9, .iconst 0, 10, 0, 0, 0, .int 0),
  (10, .iconst 1, 11, 0, 0, 0, .int 1),
  (11, .iastore, 12, 0, 0, 0, .null),
  (12, .dup, 13, 0, 0, 0, .null),
  (13, .iconst 1, 14, 0, 0, 0, .int 1),
  (14, .iconst 3, 15, 0, 0, 0, .int 3),
  (15, .iastore, 16, 0, 0, 0, .null),
  (16, .dup, 17, 0, 0, 0, .null),
  (17, .iconst 2, 18, 0, 0, 0, .int 2),
  (18, .iconst 2, 19, 0, 0, 0, .int 2),
  (19, .iastore, 20, 0, 0, 0, .null),
  (20, .dup, 21, 0, 0, 0, .null),
  (21, .iconst 3, 22, 0, 0, 0, .int 3),
  (22, .iconst 0, 23, 0, 0, 0, .int 0),
  (23, .iastore, 24, 0, 0, 0, .null),
  (24, .dup, 25, 0, 0, 0, .null),
  (25, .iconst 4, 26, 0, 0, 0, .int 4),
  (26, .iconst 0, 27, 0, 0, 0, .int 0),
  (27, .iastore, 28, 0, 0, 0, .null),
  (28, .putfield 9, 31, 160, 3, 7, .null),
  (31, .aload_n 0, 32, 0, 0, 0, .null),
  (32, .bipush 24, 34, 0, 0, 0, .int 24),
  (34, .newarray .int, 36, 0, 0, 0, .null),
  (36, .putfield 15, 39, 162, 3, 8, .null),
  (39, .aload_n 0, 40, 0, 0, 0, .null),
  (40, .bipush 24, 42, 0, 0, 0, .int 24),
  (42, .newarray .int, 44, 0, 0, 0, .null),
  (44, .putfield 18, 47, 163, 3, 9, .null),
  (47, .aload_n 0, 48, 0, 0, 0, .null),
  (48, .bipush 24, 50, 0, 0, 0, .int 24),
  (50, .newarray .int, 52, 0, 0, 0, .null),
  (52, .putfield 21, 55, 164, 3, 10, .null),
  (55, .aload_n 0, 56, 0, 0, 0, .null),
  (56, .bipush 24, 58, 0, 0, 0, .int 24),
  (58, .newarray .int, 60, 0, 0, 0, .null),
  (60, .putfield 24, 63, 165, 3, 11, .null),
  (63, .aload_n 0, 64, 0, 0, 0, .null),
  (64, .bipush 24, 66, 0, 0, 0, .int 24),
  (66, .newarray .int, 68, 0, 0, 0, .null),
  (68, .putfield 27, 71, 166, 3, 12, .null),
  (71, .aload_n 0, 72, 0, 0, 0, .null),
  (72, .bipush 24, 74, 0, 0, 0, .int 24),
  (74, .newarray .int, 76, 0, 0, 0, .null),
  (76, .putfield 30, 79, 168, 3, 13, .null),
  (79, .aload_n 0, 80, 0, 0, 0, .null),
  (80, .bipush 24, 82, 0, 0, 0, .int 24),
  (82, .newarray .int, 84, 0, 0, 0, .null),
  (84, .putfield 33, 87, 169, 3, 14, .null),
  (87, .aload_n 0, 88, 0, 0, 0, .null),
  (88, .new 36, 91, 0, 0, 0, .null),
  (91, .dup, 92, 0, 0, 0, .null),
  (92, .invokespecial 38, 95, 0, 0, 0, .null),
  (95, .putfield 39, 98, 171, 3, 15, .null),
  (98, .aload_n 0, 99, 0, 0, 0, .null),
  (99, .new 43, 102, 0, 0, 0, .null),
  (102, .dup, 103, 0, 0, 0, .null),
  (103, .invokespecial 45, 106, 0, 0, 0, .null),
  (106, .putfield 46, 109, 173, 3, 16, .null),
  (109, .return_, 110, 0, 0, 0, .null)]
def mm_X3_init : ev_M := (RX3, "<init>", cX3_init, 1, none, tb_X3_init, 2, 51, 0, 0)
set_option maxRecDepth 100000 in
theorem ok_X3_init : ev_OK mm_X3_init := by unfold ev_OK; decide +kernel
theorem ci_X3_init : ev_CI yX3_init mm_X3_init 0 := ⟨ev_has_in (k := 111) (by decide +kernel), ev_has_in (k := 85) (by decide +kernel), ev_has_in (k := 110) (by decide +kernel), ⟨by decide +kernel, by decide +kernel, by decide +kernel⟩, rfl⟩
def tb_X3_copyFrom : ev_T := [(0, .aload_n 0, 1, 0, 0, 0, .null),
  (1, .aload_n 1, 2, 0, 1, 0, .null),
  (2, .getfield 50, 5, 147, 3, 0, .null),
  (5, .putfield 50, 8, 147, 3, 0, .null),
  (8, .aload_n 0, 9, 0, 0, 0, .null),
  (9, .aload_n 1, 10, 0, 1, 0, .null),
  (10, .getfield 54, 13, 149, 3, 1, .null),
  (13, .putfield 54, 16, 149, 3, 1, .null),
  (16, .aload_n 0, 17, 0, 0, 0, .null),
  (17, .aload_n 1, 18, 0, 1, 0, .null),
  (18, .getfield 57, 21, 151, 3, 2, .null),
  (21, .putfield 57, 24, 151, 3, 2, .null),
  (24, .aload_n 0, 25, 0, 0, 0, .null),
  (25, .aload_n 1, 26, 0, 1, 0, .null),
  (26, .getfield 60, 29, 153, 3, 3, .null),
  (29, .putfield 60, 32, 153, 3, 3, .null),
  (32, .aload_n 0, 33, 0, 0, 0, .null),
  (33, .aload_n 1, 34, 0, 1, 0, .null),
  (34, .getfield 63, 37, 155, 3, 4, .null),
  (37, .putfield 63, 40, 155, 3, 4, .null),
  (40, .aload_n 0, 41, 0, 0, 0, .null),
  (41, .aload_n 1, 42, 0, 1, 0, .null),
  (42, .getfield 66, 45, 157, 3, 5, .null),
  (45, .putfield 66, 48, 157, 3, 5, .null),
  (48, .aload_n 0, 49, 0, 0, 0, .null),
  (49, .aload_n 1, 50, 0, 1, 0, .null),
  (50, .getfield 69, 53, 159, 3, 6, .null),
  (53, .putfield 69, 56, 159, 3, 6, .null),
  (56, .aload_n 1, 57, 0, 1, 0, .null),
  (57, .getfield 9, 60, 160, 3, 7, .null),
  (60, .iconst 0, 61, 0, 0, 0, .int 0),
  (61, .aload_n 0, 62, 0, 0, 0, .null),
  (62, .getfield 9, 65, 160, 3, 7, .null),
  (65, .iconst 0, 66, 0, 0, 0, .int 0),
  (66, .iconst 5, 67, 0, 0, 0, .int 5),
  (67, .invokestatic 72, 70, 0, 0, 0, .null),
  (70, .aload_n 1, 71, 0, 1, 0, .null),
  (71, .getfield 15, 74, 162, 3, 8, .null),
  (74, .iconst 0, 75, 0, 0, 0, .int 0),
  (75, .aload_n 0, 76, 0, 0, 0, .null),
  (76, .getfield 15, 79, 162, 3, 8, .null),
  (79, .iconst 0, 80, 0, 0, 0, .int 0),
  (80, .bipush 24, 82, 0, 0, 0, .int 24),
  (82, .invokestatic 72, 85, 0, 0, 0, .null),
  (85, .aload_n 1, 86, 0, 1, 0, .null),
  (86, .getfield 18, 89, 163, 3, 9, .null),
  (89, .iconst 0, 90, 0, 0, 0, .int 0),
  (90, .aload_n 0, 91, 0, 0, 0, .null),
  (91, .getfield 18, 94, 163, 3, 9, .null),
  (94, .iconst 0, 95, 0, 0, 0, .int 0),
  (95, .bipush 24, 97, 0, 0, 0, .int 24),
  (97, .invokestatic 72, 100, 0, 0, 0, .null),
  (100, .aload_n 1, 101, 0, 1, 0, .null),
  (101, .getfield 21, 104, 164, 3, 10, .null),
  (104, .iconst 0, 105, 0, 0, 0, .int 0),
  (105, .aload_n 0, 106, 0, 0, 0, .null),
  (106, .getfield 21, 109, 164, 3, 10, .null),
  (109, .iconst 0, 110, 0, 0, 0, .int 0),
  (110, .bipush 24, 112, 0, 0, 0, .int 24),
  (112, .invokestatic 72, 115, 0, 0, 0, .null),
  (115, .aload_n 1, 116, 0, 1, 0, .null),
  (116, .getfield 24, 119, 165, 3, 11, .null),
  (119, .iconst 0, 120, 0, 0, 0, .int 0),
  (120, .aload_n 0, 121, 0, 0, 0, .null),
  (121, .getfield 24, 124, 165, 3, 11, .null),
  (124, .iconst 0, 125, 0, 0, 0, .int 0),
  (125, .bipush 24, 127, 0, 0, 0, .int 24),
  (127, .invokestatic 72, 130, 0, 0, 0, .null),
  (130, .aload_n 1, 131, 0, 1, 0, .null),
  (131, .getfield 27, 134, 166, 3, 12, .null),
  (134, .iconst 0, 135, 0, 0, 0, .int 0),
  (135, .aload_n 0, 136, 0, 0, 0, .null),
  (136, .getfield 27, 139, 166, 3, 12, .null),
  (139, .iconst 0, 140, 0, 0, 0, .int 0),
  (140, .bipush 24, 142, 0, 0, 0, .int 24),
  (142, .invokestatic 72, 145, 0, 0, 0, .null),
  (145, .aload_n 1, 146, 0, 1, 0, .null),
  (146, .getfield 30, 149, 168, 3, 13, .null),
  (149, .iconst 0, 150, 0, 0, 0, .int 0),
  (150, .aload_n 0, 151, 0, 0, 0, .null),
  (151, .getfield 30, 154, 168, 3, 13, .null),
  (154, .iconst 0, 155, 0, 0, 0, .int 0),
  (155, .bipush 24, 157, 0, 0, 0, .int 24),
  (157, .invokestatic 72, 160, 0, 0, 0, .null),
  (160, .aload_n 1, 161, 0, 1, 0, .null),
  (161, .getfield 33, 164, 169, 3, 14, .null),
  (164, .iconst 0, 165, 0, 0, 0, .int 0),
  (165, .aload_n 0, 166, 0, 0, 0, .null),
  (166, .getfield 33, 169, 169, 3, 14, .null),
  (169, .iconst 0, 170, 0, 0, 0, .int 0),
  (170, .bipush 24, 172, 0, 0, 0, .int 24),
  (172, .invokestatic 72, 175, 0, 0, 0, .null),
  (175, .aload_n 0, 176, 0, 0, 0, .null),
  (176, .getfield 39, 179, 171, 3, 15, .null),
  (179, .aload_n 1, 180, 0, 1, 0, .null),
  (180, .getfield 39, 183, 171, 3, 15, .null),
  (183, .invokevirtual 78, 186, 0, 0, 0, .null),
  (186, .aload_n 0, 187, 0, 0, 0, .null),
  (187, .getfield 46, 190, 173, 3, 16, .null),
  (190, .aload_n 1, 191, 0, 1, 0, .null),
  (191, .getfield 46, 194, 173, 3, 16, .null),
  (194, .invokevirtual 82, 197, 0, 0, 0, .null),
  (197, .return_, 198, 0, 0, 0, .null)]
def mm_X3_copyFrom : ev_M := (RX3, "copyFrom", cX3_copyFrom, 2, none, tb_X3_copyFrom, 2, 81, 0, 0)
set_option maxRecDepth 100000 in
theorem ok_X3_copyFrom : ev_OK mm_X3_copyFrom := by unfold ev_OK; decide +kernel
theorem cv_X3_copyFrom : ev_CV yX3_copyFrom mm_X3_copyFrom 3 1 := ⟨ev_has_in (k := 267) (by decide +kernel), ev_has_in (k := 85) (by decide +kernel), ev_has_in (k := 265) (by decide +kernel), ev_has_in (k := 266) (by decide +kernel), ⟨by decide +kernel, by decide +kernel, by decide +kernel⟩, rfl, by decide⟩
def tb_X3_lives : ev_T := [(0, .iload_n 1, 1, 0, 1, 0, .null),
  (1, .ifCond .lt 24, 4, 0, 25, 0, .null),
  (4, .iload_n 1, 5, 0, 1, 0, .null),
  (5, .bipush 24, 7, 0, 0, 0, .int 24),
  (7, .if_icmp .ge 18, 10, 0, 25, 0, .null),
  (10, .aload_n 0, 11, 0, 0, 0, .null),
  (11, .getfield 57, 14, 151, 3, 2, .null),
  (14, .iload_n 1, 15, 0, 1, 0, .null),
  (15, .invokestatic 85, 18, 0, 0, 0, .null),
  (18, .ifCond .eq 7, 21, 0, 25, 0, .null),
  (21, .iconst 1, 22, 0, 0, 0, .int 1),
  (22, .goto 4, 25, 0, 26, 0, .null),
  (25, .iconst 0, 26, 0, 0, 0, .int 0),
  (26, .ireturn, 27, 0, 0, 0, .null)]
def mm_X3_lives : ev_M := (RX3, "lives", cX3_lives, 2, (some .boolean), tb_X3_lives, 1, 21, 0, 0)
set_option maxRecDepth 100000 in
theorem ok_X3_lives : ev_OK mm_X3_lives := by unfold ev_OK; decide +kernel
theorem cv_X3_lives : ev_CV yX3_lives mm_X3_lives 3 1 := ⟨ev_has_in (k := 337) (by decide +kernel), ev_has_in (k := 85) (by decide +kernel), ev_has_in (k := 335) (by decide +kernel), ev_has_in (k := 336) (by decide +kernel), ⟨by decide +kernel, by decide +kernel, by decide +kernel⟩, rfl, by decide⟩
def tb_X3_mayBeHeld : ev_T := [(0, .iload_n 1, 1, 0, 1, 0, .null),
  (1, .iconst (-1), 2, 0, 0, 0, .int (-1)),
  (2, .if_icmp .eq 11, 5, 0, 13, 0, .null),
  (5, .aload_n 0, 6, 0, 0, 0, .null),
  (6, .iload_n 1, 7, 0, 1, 0, .null),
  (7, .invokevirtual 89, 10, 0, 0, 0, .null),
  (10, .ifCond .eq 7, 13, 0, 17, 0, .null),
  (13, .iconst 1, 14, 0, 0, 0, .int 1),
  (14, .goto 4, 17, 0, 18, 0, .null),
  (17, .iconst 0, 18, 0, 0, 0, .int 0),
  (18, .ireturn, 19, 0, 0, 0, .null)]
def mm_X3_mayBeHeld : ev_M := (RX3, "mayBeHeld", cX3_mayBeHeld, 2, (some .boolean), tb_X3_mayBeHeld, 2, 42, 0, 0)
set_option maxRecDepth 100000 in
theorem ok_X3_mayBeHeld : ev_OK mm_X3_mayBeHeld := by unfold ev_OK; decide +kernel
theorem cv_X3_mayBeHeld : ev_CV yX3_mayBeHeld mm_X3_mayBeHeld 3 1 := ⟨ev_has_in (k := 708) (by decide +kernel), ev_has_in (k := 85) (by decide +kernel), ev_has_in (k := 706) (by decide +kernel), ev_has_in (k := 707) (by decide +kernel), ⟨by decide +kernel, by decide +kernel, by decide +kernel⟩, rfl, by decide⟩
def tb_X3_bring : ev_T := [(0, .aload_n 0, 1, 0, 0, 0, .null),
  (1, .getfield 54, 4, 149, 3, 1, .null),
  (4, .istore_n 2, 5, 0, 2, 0, .null),
  (5, .iload_n 2, 6, 0, 2, 0, .null),
  (6, .ifCond .lt 9, 9, 0, 15, 0, .null),
  (9, .iload_n 2, 10, 0, 2, 0, .null),
  (10, .bipush 24, 12, 0, 0, 0, .int 24),
  (12, .if_icmp .lt 5, 15, 0, 17, 0, .null),
  (15, .iconst (-1), 16, 0, 0, 0, .int (-1)),
  (16, .ireturn, 17, 0, 0, 0, .null),
  (17, .aload_n 0, 18, 0, 0, 0, .null),
  (18, .getfield 15, 21, 162, 3, 8, .null),
  (21, .iload_n 2, 22, 0, 2, 0, .null),
  (22, .iload_n 1, 23, 0, 1, 0, .null),
  (23, .iastore, 24, 0, 0, 0, .null),
  (24, .aload_n 0, 25, 0, 0, 0, .null),
  (25, .getfield 21, 28, 164, 3, 10, .null),
  (28, .iload_n 2, 29, 0, 2, 0, .null),
  (29, .aload_n 0, 30, 0, 0, 0, .null),
  (30, .getfield 50, 33, 147, 3, 0, .null),
  (33, .iastore, 34, 0, 0, 0, .null),
  (34, .aload_n 0, 35, 0, 0, 0, .null),
  (35, .getfield 24, 38, 165, 3, 11, .null),
  (38, .iload_n 2, 39, 0, 2, 0, .null),
  (39, .iconst (-1), 40, 0, 0, 0, .int (-1)),
  (40, .iastore, 41, 0, 0, 0, .null),
  (41, .aload_n 0, 42, 0, 0, 0, .null),
  (42, .getfield 27, 45, 166, 3, 12, .null),
  (45, .iload_n 2, 46, 0, 2, 0, .null),
  (46, .iconst (-1), 47, 0, 0, 0, .int (-1)),
  (47, .iastore, 48, 0, 0, 0, .null),
  (48, .aload_n 0, 49, 0, 0, 0, .null),
  (49, .dup, 50, 0, 0, 0, .null),
  (50, .getfield 57, 53, 151, 3, 2, .null),
  (53, .iconst 1, 54, 0, 0, 0, .int 1),
  (54, .iload_n 2, 55, 0, 2, 0, .null),
  (55, .ishl, 56, 0, 0, 0, .null),
  (56, .ior, 57, 0, 0, 0, .null),
  (57, .putfield 57, 60, 151, 3, 2, .null),
  (60, .aload_n 0, 61, 0, 0, 0, .null),
  (61, .dup, 62, 0, 0, 0, .null),
  (62, .getfield 54, 65, 149, 3, 1, .null),
  (65, .iconst 1, 66, 0, 0, 0, .int 1),
  (66, .iadd, 67, 0, 0, 0, .null),
  (67, .putfield 54, 70, 149, 3, 1, .null),
  (70, .iload_n 2, 71, 0, 2, 0, .null),
  (71, .ireturn, 72, 0, 0, 0, .null)]
def mm_X3_bring : ev_M := (RX3, "bring", cX3_bring, 3, (some .int), tb_X3_bring, 0, 0, 0, 0)
set_option maxRecDepth 100000 in
theorem ok_X3_bring : ev_OK mm_X3_bring := by unfold ev_OK; decide +kernel
theorem cv_X3_bring : ev_CV yX3_bring mm_X3_bring 3 1 := ⟨ev_has_in (k := 669) (by decide +kernel), ev_has_in (k := 85) (by decide +kernel), ev_has_in (k := 667) (by decide +kernel), ev_has_in (k := 668) (by decide +kernel), ⟨by decide +kernel, by decide +kernel, by decide +kernel⟩, rfl, by decide⟩
def tb_X3_change : ev_T := [(0, .aload_n 0, 1, 0, 0, 0, .null),
  (1, .getfield 39, 4, 171, 3, 15, .null),
  (4, .iload_n 1, 5, 0, 1, 0, .null),
  (5, .invokevirtual 93, 8, 0, 0, 0, .null),
  (8, .istore_n 3, 9, 0, 3, 0, .null),
  (9, .aload_n 0, 10, 0, 0, 0, .null),
  (10, .getfield 39, 13, 171, 3, 15, .null),
  (13, .iload_n 1, 14, 0, 1, 0, .null),
  (14, .iload_n 2, 15, 0, 2, 0, .null),
  (15, .invokevirtual 97, 18, 0, 0, 0, .null),
  (18, .iload_n 2, 19, 0, 2, 0, .null),
  (19, .iconst (-1), 20, 0, 0, 0, .int (-1)),
  (20, .if_icmp .eq 19, 23, 0, 39, 0, .null),
  (23, .aload_n 0, 24, 0, 0, 0, .null),
  (24, .getfield 46, 27, 173, 3, 16, .null),
  (27, .iload_n 2, 28, 0, 2, 0, .null),
  (28, .iconst 1, 29, 0, 0, 0, .int 1),
  (29, .aload_n 0, 30, 0, 0, 0, .null),
  (30, .iload_n 2, 31, 0, 2, 0, .null),
  (31, .invokevirtual 101, 34, 0, 0, 0, .null),
  (34, .iconst 0, 35, 0, 0, 0, .int 0),
  (35, .invokevirtual 104, 38, 0, 0, 0, .null),
  (38, .pop, 39, 0, 0, 0, .null),
  (39, .iload_n 3, 40, 0, 3, 0, .null),
  (40, .iconst (-1), 41, 0, 0, 0, .int (-1)),
  (41, .if_icmp .eq 19, 44, 0, 60, 0, .null),
  (44, .aload_n 0, 45, 0, 0, 0, .null),
  (45, .getfield 46, 48, 173, 3, 16, .null),
  (48, .iload_n 3, 49, 0, 3, 0, .null),
  (49, .iconst (-1), 50, 0, 0, 0, .int (-1)),
  (50, .aload_n 0, 51, 0, 0, 0, .null),
  (51, .iload_n 3, 52, 0, 3, 0, .null),
  (52, .invokevirtual 101, 55, 0, 0, 0, .null),
  (55, .iconst 0, 56, 0, 0, 0, .int 0),
  (56, .invokevirtual 104, 59, 0, 0, 0, .null),
  (59, .pop, 60, 0, 0, 0, .null),
  (60, .aload_n 0, 61, 0, 0, 0, .null),
  (61, .invokevirtual 108, 64, 0, 0, 0, .null),
  (64, .iload_n 3, 65, 0, 3, 0, .null),
  (65, .ireturn, 66, 0, 0, 0, .null)]
def mm_X3_change : ev_M := (RX3, "change", cX3_change, 4, (some .int), tb_X3_change, 4, 136, 0, 0)
set_option maxRecDepth 100000 in
theorem ok_X3_change : ev_OK mm_X3_change := by unfold ev_OK; decide +kernel
theorem cv_X3_change : ev_CV yX3_change mm_X3_change 3 2 := ⟨ev_has_in (k := 713) (by decide +kernel), ev_has_in (k := 85) (by decide +kernel), ev_has_in (k := 711) (by decide +kernel), ev_has_in (k := 712) (by decide +kernel), ⟨by decide +kernel, by decide +kernel, by decide +kernel⟩, rfl, by decide⟩
def tb_X3_lie : ev_T := [(0, .aload_n 0, 1, 0, 0, 0, .null),
  (1, .getfield 46, 4, 173, 3, 16, .null),
  (4, .iload_n 1, 5, 0, 1, 0, .null),
  (5, .iload_n 2, 6, 0, 2, 0, .null),
  (6, .aload_n 0, 7, 0, 0, 0, .null),
  (7, .iload_n 1, 8, 0, 1, 0, .null),
  (8, .invokevirtual 101, 11, 0, 0, 0, .null),
  (11, .iconst 1, 12, 0, 0, 0, .int 1),
  (12, .invokevirtual 104, 15, 0, 0, 0, .null),
  (15, .istore_n 3, 16, 0, 3, 0, .null),
  (16, .aload_n 0, 17, 0, 0, 0, .null),
  (17, .invokevirtual 108, 20, 0, 0, 0, .null),
  (20, .iload_n 3, 21, 0, 3, 0, .null),
  (21, .ireturn, 22, 0, 0, 0, .null)]
def mm_X3_lie : ev_M := (RX3, "lie", cX3_lie, 4, (some .int), tb_X3_lie, 4, 136, 0, 0)
set_option maxRecDepth 100000 in
theorem ok_X3_lie : ev_OK mm_X3_lie := by unfold ev_OK; decide +kernel
theorem cv_X3_lie : ev_CV yX3_lie mm_X3_lie 3 2 := ⟨ev_has_in (k := 632) (by decide +kernel), ev_has_in (k := 85) (by decide +kernel), ev_has_in (k := 630) (by decide +kernel), ev_has_in (k := 631) (by decide +kernel), ⟨by decide +kernel, by decide +kernel, by decide +kernel⟩, rfl, by decide⟩
def tb_X3_setCountsRight : ev_T := [(0, .iconst 0, 1, 0, 0, 0, .int 0),
  (1, .istore_n 1, 2, 0, 1, 0, .null),
  (2, .iconst 0, 3, 0, 0, 0, .int 0),
  (3, .istore_n 2, 4, 0, 2, 0, .null),
  (4, .iload_n 2, 5, 0, 2, 0, .null),
  (5, .bipush 24, 7, 0, 0, 0, .int 24),
  (7, .if_icmp .ge 51, 10, 0, 58, 0, .null),
  (10, .aload_n 0, 11, 0, 0, 0, .null),
  (11, .iload_n 2, 12, 0, 2, 0, .null),
  (12, .invokevirtual 89, 15, 0, 0, 0, .null),
  (15, .ifCond .eq 37, 18, 0, 52, 0, .null),
  (18, .aload_n 0, 19, 0, 0, 0, .null),
  (19, .iload_n 2, 20, 0, 2, 0, .null),
  (20, .invokevirtual 111, 23, 0, 0, 0, .null),
  (23, .ifCond .eq 29, 26, 0, 52, 0, .null),
  (26, .aload_n 0, 27, 0, 0, 0, .null),
  (27, .getfield 18, 30, 163, 3, 9, .null),
  (30, .iload_n 2, 31, 0, 2, 0, .null),
  (31, .aload_n 0, 32, 0, 0, 0, .null),
  (32, .getfield 39, 35, 171, 3, 15, .null),
  (35, .iload_n 2, 36, 0, 2, 0, .null),
  (36, .invokevirtual 114, 39, 0, 0, 0, .null),
  (39, .aload_n 0, 40, 0, 0, 0, .null),
  (40, .getfield 46, 43, 173, 3, 16, .null),
  (43, .iload_n 2, 44, 0, 2, 0, .null),
  (44, .invokevirtual 117, 47, 0, 0, 0, .null),
  (47, .isub, 48, 0, 0, 0, .null),
  (48, .iastore, 49, 0, 0, 0, .null),
  (49, .iinc 1 1, 52, 0, 1, 0, .int 1),
  (52, .iinc 2 1, 55, 0, 2, 0, .int 1),
  (55, .goto (-51), 58, 0, 4, 0, .null),
  (58, .iload_n 1, 59, 0, 1, 0, .null),
  (59, .ireturn, 60, 0, 0, 0, .null)]
def mm_X3_setCountsRight : ev_M := (RX3, "setCountsRight", cX3_setCountsRight, 3, (some .int), tb_X3_setCountsRight, 2, 44, 0, 0)
set_option maxRecDepth 100000 in
theorem ok_X3_setCountsRight : ev_OK mm_X3_setCountsRight := by unfold ev_OK; decide +kernel
theorem cv_X3_setCountsRight : ev_CV yX3_setCountsRight mm_X3_setCountsRight 3 0 := ⟨ev_has_in (k := 394) (by decide +kernel), ev_has_in (k := 85) (by decide +kernel), ev_has_in (k := 392) (by decide +kernel), ev_has_in (k := 393) (by decide +kernel), ⟨by decide +kernel, by decide +kernel, by decide +kernel⟩, rfl, by decide⟩
def tb_X3_passTicks : ev_T := [(0, .aload_n 0, 1, 0, 0, 0, .null),
  (1, .getfield 66, 4, 157, 3, 5, .null),
  (4, .istore_n 2, 5, 0, 2, 0, .null),
  (5, .iconst 0, 6, 0, 0, 0, .int 0),
  (6, .istore_n 3, 7, 0, 3, 0, .null),
  (7, .iload_n 3, 8, 0, 3, 0, .null),
  (8, .iload_n 1, 9, 0, 1, 0, .null),
  (9, .if_icmp .ge 51, 12, 0, 60, 0, .null),
  (12, .aload_n 0, 13, 0, 0, 0, .null),
  (13, .dup, 14, 0, 0, 0, .null),
  (14, .getfield 50, 17, 147, 3, 0, .null),
  (17, .iconst 1, 18, 0, 0, 0, .int 1),
  (18, .iadd, 19, 0, 0, 0, .null),
  (19, .putfield 50, 22, 147, 3, 0, .null),
  (22, .aload_n 0, 23, 0, 0, 0, .null),
  (23, .invokevirtual 108, 26, 0, 0, 0, .null),
  (26, .aload_n 0, 27, 0, 0, 0, .null),
  (27, .getfield 9, 30, 160, 3, 7, .null),
  (30, .iconst 4, 31, 0, 0, 0, .int 4),
  (31, .iaload, 32, 0, 0, 0, .null),
  (32, .istore 4, 34, 0, 4, 0, .null),
  (34, .iload 4, 36, 0, 4, 0, .null),
  (36, .ifCond .le 18, 39, 0, 54, 0, .null),
  (39, .aload_n 0, 40, 0, 0, 0, .null),
  (40, .getfield 50, 43, 147, 3, 0, .null),
  (43, .iload 4, 45, 0, 4, 0, .null),
  (45, .irem, 46, 0, 0, 0, .null),
  (46, .ifCond .ne 8, 49, 0, 54, 0, .null),
  (49, .aload_n 0, 50, 0, 0, 0, .null),
  (50, .invokevirtual 120, 53, 0, 0, 0, .null),
  (53, .pop, 54, 0, 0, 0, .null),
  (54, .iinc 3 1, 57, 0, 3, 0, .int 1),
  (57, .goto (-50), 60, 0, 7, 0, .null),
  (60, .aload_n 0, 61, 0, 0, 0, .null),
  (61, .getfield 66, 64, 157, 3, 5, .null),
  (64, .iload_n 2, 65, 0, 2, 0, .null),
  (65, .isub, 66, 0, 0, 0, .null),
  (66, .ireturn, 67, 0, 0, 0, .null)]
def mm_X3_passTicks : ev_M := (RX3, "passTicks", cX3_passTicks, 5, (some .int), tb_X3_passTicks, 5, 162, 0, 0)
set_option maxRecDepth 100000 in
theorem ok_X3_passTicks : ev_OK mm_X3_passTicks := by unfold ev_OK; decide +kernel
theorem cv_X3_passTicks : ev_CV yX3_passTicks mm_X3_passTicks 3 1 := ⟨ev_has_in (k := 557) (by decide +kernel), ev_has_in (k := 85) (by decide +kernel), ev_has_in (k := 555) (by decide +kernel), ev_has_in (k := 556) (by decide +kernel), ⟨by decide +kernel, by decide +kernel, by decide +kernel⟩, rfl, by decide⟩
def tb_X3_holdTrial : ev_T := [(0, .aload_n 0, 1, 0, 0, 0, .null),
  (1, .getfield 66, 4, 157, 3, 5, .null),
  (4, .istore_n 1, 5, 0, 1, 0, .null),
  (5, .aload_n 0, 6, 0, 0, 0, .null),
  (6, .getfield 60, 9, 153, 3, 3, .null),
  (9, .istore_n 2, 10, 0, 2, 0, .null),
  (10, .iconst 0, 11, 0, 0, 0, .int 0),
  (11, .istore_n 3, 12, 0, 3, 0, .null),
  (12, .iload_n 3, 13, 0, 3, 0, .null),
  (13, .bipush 24, 15, 0, 0, 0, .int 24),
  (15, .if_icmp .ge 31, 18, 0, 46, 0, .null),
  (18, .iload_n 2, 19, 0, 2, 0, .null),
  (19, .aload_n 0, 20, 0, 0, 0, .null),
  (20, .getfield 60, 23, 153, 3, 3, .null),
  (23, .iand, 24, 0, 0, 0, .null),
  (24, .iload_n 3, 25, 0, 3, 0, .null),
  (25, .invokestatic 85, 28, 0, 0, 0, .null),
  (28, .ifCond .eq 12, 31, 0, 40, 0, .null),
  (31, .aload_n 0, 32, 0, 0, 0, .null),
  (32, .iload_n 3, 33, 0, 3, 0, .null),
  (33, .invokevirtual 124, 36, 0, 0, 0, .null),
  (36, .aload_n 0, 37, 0, 0, 0, .null),
  (37, .invokevirtual 108, 40, 0, 0, 0, .null),
  (40, .iinc 3 1, 43, 0, 3, 0, .int 1),
  (43, .goto (-31), 46, 0, 12, 0, .null),
  (46, .aload_n 0, 47, 0, 0, 0, .null),
  (47, .getfield 66, 50, 157, 3, 5, .null),
  (50, .iload_n 1, 51, 0, 1, 0, .null),
  (51, .isub, 52, 0, 0, 0, .null),
  (52, .ireturn, 53, 0, 0, 0, .null)]
def mm_X3_holdTrial : ev_M := (RX3, "holdTrial", cX3_holdTrial, 4, (some .int), tb_X3_holdTrial, 4, 139, 0, 0)
set_option maxRecDepth 100000 in
theorem ok_X3_holdTrial : ev_OK mm_X3_holdTrial := by unfold ev_OK; decide +kernel
theorem cv_X3_holdTrial : ev_CV yX3_holdTrial mm_X3_holdTrial 3 0 := ⟨ev_has_in (k := 284) (by decide +kernel), ev_has_in (k := 85) (by decide +kernel), ev_has_in (k := 282) (by decide +kernel), ev_has_in (k := 283) (by decide +kernel), ⟨by decide +kernel, by decide +kernel, by decide +kernel⟩, rfl, by decide⟩
def tb_X3_judge : ev_T := [(0, .aload_n 0, 1, 0, 0, 0, .null),
  (1, .getfield 39, 4, 171, 3, 15, .null),
  (4, .iload_n 1, 5, 0, 1, 0, .null),
  (5, .invokevirtual 128, 8, 0, 0, 0, .null),
  (8, .iconst 1, 9, 0, 0, 0, .int 1),
  (9, .iload_n 1, 10, 0, 1, 0, .null),
  (10, .ishl, 11, 0, 0, 0, .null),
  (11, .ior, 12, 0, 0, 0, .null),
  (12, .istore_n 2, 13, 0, 2, 0, .null),
  (13, .aload_n 0, 14, 0, 0, 0, .null),
  (14, .getfield 46, 17, 173, 3, 16, .null),
  (17, .iload_n 2, 18, 0, 2, 0, .null),
  (18, .invokevirtual 131, 21, 0, 0, 0, .null),
  (21, .ifCond .eq 4, 24, 0, 25, 0, .null),
  (24, .return_, 25, 0, 0, 0, .null),
  (25, .aload_n 0, 26, 0, 0, 0, .null),
  (26, .dup, 27, 0, 0, 0, .null),
  (27, .getfield 60, 30, 153, 3, 3, .null),
  (30, .iconst 1, 31, 0, 0, 0, .int 1),
  (31, .iload_n 1, 32, 0, 1, 0, .null),
  (32, .ishl, 33, 0, 0, 0, .null),
  (33, .iconst (-1), 34, 0, 0, 0, .int (-1)),
  (34, .ixor, 35, 0, 0, 0, .null),
  (35, .iand, 36, 0, 0, 0, .null),
  (36, .putfield 60, 39, 153, 3, 3, .null),
  (39, .iload_n 2, 40, 0, 2, 0, .null),
  (40, .aload_n 0, 41, 0, 0, 0, .null),
  (41, .getfield 39, 44, 171, 3, 15, .null),
  (44, .aload_n 0, 45, 0, 0, 0, .null),
  (45, .iload_n 2, 46, 0, 2, 0, .null),
  (46, .invokevirtual 134, 49, 0, 0, 0, .null),
  (49, .iconst (-1), 50, 0, 0, 0, .int (-1)),
  (50, .invokevirtual 137, 53, 0, 0, 0, .null),
  (53, .iconst (-1), 54, 0, 0, 0, .int (-1)),
  (54, .ixor, 55, 0, 0, 0, .null),
  (55, .iand, 56, 0, 0, 0, .null),
  (56, .istore_n 3, 57, 0, 3, 0, .null),
  (57, .iload_n 3, 58, 0, 3, 0, .null),
  (58, .istore 4, 60, 0, 4, 0, .null),
  (60, .iconst 0, 61, 0, 0, 0, .int 0),
  (61, .istore 5, 63, 0, 5, 0, .null),
  (63, .iload 5, 65, 0, 5, 0, .null),
  (65, .bipush 24, 67, 0, 0, 0, .int 24),
  (67, .if_icmp .ge 41, 70, 0, 108, 0, .null),
  (70, .iload 4, 72, 0, 4, 0, .null),
  (72, .ifCond .eq 36, 75, 0, 108, 0, .null),
  (75, .aload_n 0, 76, 0, 0, 0, .null),
  (76, .iload 4, 78, 0, 4, 0, .null),
  (78, .invokevirtual 141, 81, 0, 0, 0, .null),
  (81, .istore 6, 83, 0, 6, 0, .null),
  (83, .aload_n 0, 84, 0, 0, 0, .null),
  (84, .iload 6, 86, 0, 6, 0, .null),
  (86, .iload_n 3, 87, 0, 3, 0, .null),
  (87, .iconst 2, 88, 0, 0, 0, .int 2),
  (88, .invokevirtual 144, 91, 0, 0, 0, .null),
  (91, .iload 4, 93, 0, 4, 0, .null),
  (93, .iconst 1, 94, 0, 0, 0, .int 1),
  (94, .iload 6, 96, 0, 6, 0, .null),
  (96, .ishl, 97, 0, 0, 0, .null),
  (97, .iconst (-1), 98, 0, 0, 0, .int (-1)),
  (98, .ixor, 99, 0, 0, 0, .null),
  (99, .iand, 100, 0, 0, 0, .null),
  (100, .istore 4, 102, 0, 4, 0, .null),
  (102, .iinc 5 1, 105, 0, 5, 0, .int 1),
  (105, .goto (-42), 108, 0, 63, 0, .null),
  (108, .return_, 109, 0, 0, 0, .null)]
def mm_X3_judge : ev_M := (RX3, "judge", cX3_judge, 7, none, tb_X3_judge, 3, 113, 0, 0)
set_option maxRecDepth 100000 in
theorem ok_X3_judge : ev_OK mm_X3_judge := by unfold ev_OK; decide +kernel
theorem cv_X3_judge : ev_CV yX3_judge mm_X3_judge 3 1 := ⟨ev_has_in (k := 291) (by decide +kernel), ev_has_in (k := 85) (by decide +kernel), ev_has_in (k := 290) (by decide +kernel), ev_has_in (k := 1) (by decide +kernel), ⟨by decide +kernel, by decide +kernel, by decide +kernel⟩, rfl, by decide⟩
def tb_X3_withRest : ev_T := [(0, .iconst 0, 1, 0, 0, 0, .int 0),
  (1, .istore_n 2, 2, 0, 2, 0, .null),
  (2, .iconst 0, 3, 0, 0, 0, .int 0),
  (3, .istore_n 3, 4, 0, 3, 0, .null),
  (4, .iload_n 3, 5, 0, 3, 0, .null),
  (5, .bipush 24, 7, 0, 0, 0, .int 24),
  (7, .if_icmp .ge 41, 10, 0, 48, 0, .null),
  (10, .iload_n 1, 11, 0, 1, 0, .null),
  (11, .iload_n 3, 12, 0, 3, 0, .null),
  (12, .invokestatic 85, 15, 0, 0, 0, .null),
  (15, .ifCond .eq 27, 18, 0, 42, 0, .null),
  (18, .aload_n 0, 19, 0, 0, 0, .null),
  (19, .getfield 18, 22, 163, 3, 9, .null),
  (22, .iload_n 3, 23, 0, 3, 0, .null),
  (23, .iaload, 24, 0, 0, 0, .null),
  (24, .aload_n 0, 25, 0, 0, 0, .null),
  (25, .getfield 39, 28, 171, 3, 15, .null),
  (28, .iload_n 3, 29, 0, 3, 0, .null),
  (29, .iload_n 1, 30, 0, 1, 0, .null),
  (30, .invokevirtual 148, 33, 0, 0, 0, .null),
  (33, .if_icmp .le 9, 36, 0, 42, 0, .null),
  (36, .iload_n 2, 37, 0, 2, 0, .null),
  (37, .iconst 1, 38, 0, 0, 0, .int 1),
  (38, .iload_n 3, 39, 0, 3, 0, .null),
  (39, .ishl, 40, 0, 0, 0, .null),
  (40, .ior, 41, 0, 0, 0, .null),
  (41, .istore_n 2, 42, 0, 2, 0, .null),
  (42, .iinc 3 1, 45, 0, 3, 0, .int 1),
  (45, .goto (-41), 48, 0, 4, 0, .null),
  (48, .iload_n 2, 49, 0, 2, 0, .null),
  (49, .ireturn, 50, 0, 0, 0, .null)]
def mm_X3_withRest : ev_M := (RX3, "withRest", cX3_withRest, 4, (some .int), tb_X3_withRest, 2, 45, 0, 0)
set_option maxRecDepth 100000 in
theorem ok_X3_withRest : ev_OK mm_X3_withRest := by unfold ev_OK; decide +kernel
theorem cv_X3_withRest : ev_CV yX3_withRest mm_X3_withRest 3 1 := ⟨ev_has_in (k := 319) (by decide +kernel), ev_has_in (k := 85) (by decide +kernel), ev_has_in (k := 318) (by decide +kernel), ev_has_in (k := 3) (by decide +kernel), ⟨by decide +kernel, by decide +kernel, by decide +kernel⟩, rfl, by decide⟩
def tb_X3_highestOf : ev_T := [(0, .iconst 0, 1, 0, 0, 0, .int 0),
  (1, .istore_n 2, 2, 0, 2, 0, .null),
  (2, .iconst (-1), 3, 0, 0, 0, .int (-1)),
  (3, .istore_n 3, 4, 0, 3, 0, .null),
  (4, .iconst 0, 5, 0, 0, 0, .int 0),
  (5, .istore 4, 7, 0, 4, 0, .null),
  (7, .iload 4, 9, 0, 4, 0, .null),
  (9, .bipush 24, 11, 0, 0, 0, .int 24),
  (11, .if_icmp .ge 40, 14, 0, 51, 0, .null),
  (14, .iload_n 1, 15, 0, 1, 0, .null),
  (15, .iload 4, 17, 0, 4, 0, .null),
  (17, .invokestatic 85, 20, 0, 0, 0, .null),
  (20, .ifCond .eq 25, 23, 0, 45, 0, .null),
  (23, .aload_n 0, 24, 0, 0, 0, .null),
  (24, .getfield 15, 27, 162, 3, 8, .null),
  (27, .iload 4, 29, 0, 4, 0, .null),
  (29, .iaload, 30, 0, 0, 0, .null),
  (30, .iload_n 3, 31, 0, 3, 0, .null),
  (31, .if_icmp .le 14, 34, 0, 45, 0, .null),
  (34, .iload 4, 36, 0, 4, 0, .null),
  (36, .istore_n 2, 37, 0, 2, 0, .null),
  (37, .aload_n 0, 38, 0, 0, 0, .null),
  (38, .getfield 15, 41, 162, 3, 8, .null),
  (41, .iload 4, 43, 0, 4, 0, .null),
  (43, .iaload, 44, 0, 0, 0, .null),
  (44, .istore_n 3, 45, 0, 3, 0, .null),
  (45, .iinc 4 1, 48, 0, 4, 0, .int 1),
  (48, .goto (-41), 51, 0, 7, 0, .null),
  (51, .iload_n 2, 52, 0, 2, 0, .null),
  (52, .ireturn, 53, 0, 0, 0, .null)]
def mm_X3_highestOf : ev_M := (RX3, "highestOf", cX3_highestOf, 5, (some .int), tb_X3_highestOf, 1, 21, 0, 0)
set_option maxRecDepth 100000 in
theorem ok_X3_highestOf : ev_OK mm_X3_highestOf := by unfold ev_OK; decide +kernel
theorem cv_X3_highestOf : ev_CV yX3_highestOf mm_X3_highestOf 3 1 := ⟨ev_has_in (k := 329) (by decide +kernel), ev_has_in (k := 85) (by decide +kernel), ev_has_in (k := 328) (by decide +kernel), ev_has_in (k := 4) (by decide +kernel), ⟨by decide +kernel, by decide +kernel, by decide +kernel⟩, rfl, by decide⟩
def tb_X3_hearDue : ev_T := [(0, .iconst 0, 1, 0, 0, 0, .int 0),
  (1, .istore_n 1, 2, 0, 1, 0, .null),
  (2, .iload_n 1, 3, 0, 1, 0, .null),
  (3, .sipush 1200, 6, 0, 0, 0, .int 1200),
  (6, .if_icmp .ge 89, 9, 0, 95, 0, .null),
  (9, .aload_n 0, 10, 0, 0, 0, .null),
  (10, .getfield 46, 13, 173, 3, 16, .null),
  (13, .aload_n 0, 14, 0, 0, 0, .null),
  (14, .getfield 50, 17, 147, 3, 0, .null),
  (17, .invokevirtual 151, 20, 0, 0, 0, .null),
  (20, .ifCond .eq 75, 23, 0, 95, 0, .null),
  (23, .aload_n 0, 24, 0, 0, 0, .null),
  (24, .getfield 46, 27, 173, 3, 16, .null),
  (27, .iconst 0, 28, 0, 0, 0, .int 0),
  (28, .iconst 1, 29, 0, 0, 0, .int 1),
  (29, .invokevirtual 154, 32, 0, 0, 0, .null),
  (32, .istore_n 2, 33, 0, 2, 0, .null),
  (33, .aload_n 0, 34, 0, 0, 0, .null),
  (34, .getfield 46, 37, 173, 3, 16, .null),
  (37, .iconst 0, 38, 0, 0, 0, .int 0),
  (38, .iconst 2, 39, 0, 0, 0, .int 2),
  (39, .invokevirtual 154, 42, 0, 0, 0, .null),
  (42, .istore_n 3, 43, 0, 3, 0, .null),
  (43, .aload_n 0, 44, 0, 0, 0, .null),
  (44, .getfield 46, 47, 173, 3, 16, .null),
  (47, .invokevirtual 157, 50, 0, 0, 0, .null),
  (50, .aload_n 0, 51, 0, 0, 0, .null),
  (51, .iload_n 2, 52, 0, 2, 0, .null),
  (52, .invokevirtual 89, 55, 0, 0, 0, .null),
  (55, .ifCond .eq 34, 58, 0, 89, 0, .null),
  (58, .aload_n 0, 59, 0, 0, 0, .null),
  (59, .getfield 18, 62, 163, 3, 9, .null),
  (62, .iload_n 2, 63, 0, 2, 0, .null),
  (63, .dup2, 64, 0, 0, 0, .null),
  (64, .iaload, 65, 0, 0, 0, .null),
  (65, .iload_n 3, 66, 0, 3, 0, .null),
  (66, .iadd, 67, 0, 0, 0, .null),
  (67, .iastore, 68, 0, 0, 0, .null),
  (68, .iload_n 3, 69, 0, 3, 0, .null),
  (69, .ifCond .ge 20, 72, 0, 89, 0, .null),
  (72, .aload_n 0, 73, 0, 0, 0, .null),
  (73, .iload_n 2, 74, 0, 2, 0, .null),
  (74, .invokevirtual 160, 77, 0, 0, 0, .null),
  (77, .ifCond .eq 12, 80, 0, 89, 0, .null),
  (80, .aload_n 0, 81, 0, 0, 0, .null),
  (81, .iload_n 2, 82, 0, 2, 0, .null),
  (82, .iconst 1, 83, 0, 0, 0, .int 1),
  (83, .iload_n 2, 84, 0, 2, 0, .null),
  (84, .ishl, 85, 0, 0, 0, .null),
  (85, .iconst 1, 86, 0, 0, 0, .int 1),
  (86, .invokevirtual 144, 89, 0, 0, 0, .null),
  (89, .iinc 1 1, 92, 0, 1, 0, .int 1),
  (92, .goto (-90), 95, 0, 2, 0, .null),
  (95, .return_, 96, 0, 0, 0, .null)]
def mm_X3_hearDue : ev_M := (RX3, "hearDue", cX3_hearDue, 4, none, tb_X3_hearDue, 3, 113, 0, 0)
set_option maxRecDepth 100000 in
theorem ok_X3_hearDue : ev_OK mm_X3_hearDue := by unfold ev_OK; decide +kernel
theorem cv_X3_hearDue : ev_CV yX3_hearDue mm_X3_hearDue 3 0 := ⟨ev_has_in (k := 365) (by decide +kernel), ev_has_in (k := 85) (by decide +kernel), ev_has_in (k := 364) (by decide +kernel), ev_has_in (k := 7) (by decide +kernel), ⟨by decide +kernel, by decide +kernel, by decide +kernel⟩, rfl, by decide⟩
def tb_X3_mustEnd : ev_T := [(0, .aload_n 0, 1, 0, 0, 0, .null),
  (1, .getfield 18, 4, 163, 3, 9, .null),
  (4, .iload_n 1, 5, 0, 1, 0, .null),
  (5, .iaload, 6, 0, 0, 0, .null),
  (6, .ifCond .le 17, 9, 0, 23, 0, .null),
  (9, .aload_n 0, 10, 0, 0, 0, .null),
  (10, .dup, 11, 0, 0, 0, .null),
  (11, .getfield 60, 14, 153, 3, 3, .null),
  (14, .iconst 1, 15, 0, 0, 0, .int 1),
  (15, .iload_n 1, 16, 0, 1, 0, .null),
  (16, .ishl, 17, 0, 0, 0, .null),
  (17, .ior, 18, 0, 0, 0, .null),
  (18, .putfield 60, 21, 153, 3, 3, .null),
  (21, .iconst 0, 22, 0, 0, 0, .int 0),
  (22, .ireturn, 23, 0, 0, 0, .null),
  (23, .aload_n 0, 24, 0, 0, 0, .null),
  (24, .getfield 46, 27, 173, 3, 16, .null),
  (27, .iconst 1, 28, 0, 0, 0, .int 1),
  (28, .iload_n 1, 29, 0, 1, 0, .null),
  (29, .ishl, 30, 0, 0, 0, .null),
  (30, .invokevirtual 131, 33, 0, 0, 0, .null),
  (33, .ifCond .eq 5, 36, 0, 38, 0, .null),
  (36, .iconst 0, 37, 0, 0, 0, .int 0),
  (37, .ireturn, 38, 0, 0, 0, .null),
  (38, .aload_n 0, 39, 0, 0, 0, .null),
  (39, .getfield 9, 42, 160, 3, 7, .null),
  (42, .iconst 3, 43, 0, 0, 0, .int 3),
  (43, .iaload, 44, 0, 0, 0, .null),
  (44, .ifCond .ne 7, 47, 0, 51, 0, .null),
  (47, .iconst 0, 48, 0, 0, 0, .int 0),
  (48, .goto 11, 51, 0, 59, 0, .null),
  (51, .aload_n 0, 52, 0, 0, 0, .null),
  (52, .getfield 39, 55, 171, 3, 15, .null),
  (55, .iload_n 1, 56, 0, 1, 0, .null),
  (56, .invokevirtual 114, 59, 0, 0, 0, .null),
  (59, .istore_n 2, 60, 0, 2, 0, .null),
  (60, .iload_n 2, 61, 0, 2, 0, .null),
  (61, .ifCond .ne 5, 64, 0, 66, 0, .null),
  (64, .iconst 1, 65, 0, 0, 0, .int 1),
  (65, .ireturn, 66, 0, 0, 0, .null),
  (66, .aload_n 0, 67, 0, 0, 0, .null),
  (67, .getfield 18, 70, 163, 3, 9, .null),
  (70, .iload_n 1, 71, 0, 1, 0, .null),
  (71, .iload_n 2, 72, 0, 2, 0, .null),
  (72, .iastore, 73, 0, 0, 0, .null),
  (73, .aload_n 0, 74, 0, 0, 0, .null),
  (74, .dup, 75, 0, 0, 0, .null),
  (75, .getfield 69, 78, 159, 3, 6, .null),
  (78, .iconst 1, 79, 0, 0, 0, .int 1),
  (79, .iadd, 80, 0, 0, 0, .null),
  (80, .putfield 69, 83, 159, 3, 6, .null),
  (83, .iconst 0, 84, 0, 0, 0, .int 0),
  (84, .ireturn, 85, 0, 0, 0, .null)]
def mm_X3_mustEnd : ev_M := (RX3, "mustEnd", cX3_mustEnd, 3, (some .boolean), tb_X3_mustEnd, 2, 43, 0, 0)
set_option maxRecDepth 100000 in
theorem ok_X3_mustEnd : ev_OK mm_X3_mustEnd := by unfold ev_OK; decide +kernel
theorem cv_X3_mustEnd : ev_CV yX3_mustEnd mm_X3_mustEnd 3 1 := ⟨ev_has_in (k := 382) (by decide +kernel), ev_has_in (k := 85) (by decide +kernel), ev_has_in (k := 381) (by decide +kernel), ev_has_in (k := 8) (by decide +kernel), ⟨by decide +kernel, by decide +kernel, by decide +kernel⟩, rfl, by decide⟩
def tb_X3_endThing : ev_T := [(0, .aload_n 0, 1, 0, 0, 0, .null),
  (1, .iload_n 1, 2, 0, 1, 0, .null),
  (2, .invokevirtual 89, 5, 0, 0, 0, .null),
  (5, .ifCond .eq 19, 8, 0, 24, 0, .null),
  (8, .aload_n 0, 9, 0, 0, 0, .null),
  (9, .getfield 66, 12, 157, 3, 5, .null),
  (12, .ifCond .lt 12, 15, 0, 24, 0, .null),
  (15, .aload_n 0, 16, 0, 0, 0, .null),
  (16, .getfield 66, 19, 157, 3, 5, .null),
  (19, .bipush 24, 21, 0, 0, 0, .int 24),
  (21, .if_icmp .lt 4, 24, 0, 25, 0, .null),
  (24, .return_, 25, 0, 0, 0, .null),
  (25, .aload_n 0, 26, 0, 0, 0, .null),
  (26, .dup, 27, 0, 0, 0, .null),
  (27, .getfield 57, 30, 151, 3, 2, .null),
  (30, .iconst 1, 31, 0, 0, 0, .int 1),
  (31, .iload_n 1, 32, 0, 1, 0, .null),
  (32, .ishl, 33, 0, 0, 0, .null),
  (33, .iconst (-1), 34, 0, 0, 0, .int (-1)),
  (34, .ixor, 35, 0, 0, 0, .null),
  (35, .iand, 36, 0, 0, 0, .null),
  (36, .putfield 57, 39, 151, 3, 2, .null),
  (39, .aload_n 0, 40, 0, 0, 0, .null),
  (40, .dup, 41, 0, 0, 0, .null),
  (41, .getfield 60, 44, 153, 3, 3, .null),
  (44, .iconst 1, 45, 0, 0, 0, .int 1),
  (45, .iload_n 1, 46, 0, 1, 0, .null),
  (46, .ishl, 47, 0, 0, 0, .null),
  (47, .iconst (-1), 48, 0, 0, 0, .int (-1)),
  (48, .ixor, 49, 0, 0, 0, .null),
  (49, .iand, 50, 0, 0, 0, .null),
  (50, .putfield 60, 53, 153, 3, 3, .null),
  (53, .aload_n 0, 54, 0, 0, 0, .null),
  (54, .getfield 24, 57, 165, 3, 11, .null),
  (57, .iload_n 1, 58, 0, 1, 0, .null),
  (58, .aload_n 0, 59, 0, 0, 0, .null),
  (59, .getfield 66, 62, 157, 3, 5, .null),
  (62, .iastore, 63, 0, 0, 0, .null),
  (63, .aload_n 0, 64, 0, 0, 0, .null),
  (64, .getfield 27, 67, 166, 3, 12, .null),
  (67, .iload_n 1, 68, 0, 1, 0, .null),
  (68, .aload_n 0, 69, 0, 0, 0, .null),
  (69, .getfield 50, 72, 147, 3, 0, .null),
  (72, .iastore, 73, 0, 0, 0, .null),
  (73, .aload_n 0, 74, 0, 0, 0, .null),
  (74, .getfield 30, 77, 168, 3, 13, .null),
  (77, .iload_n 1, 78, 0, 1, 0, .null),
  (78, .iload_n 3, 79, 0, 3, 0, .null),
  (79, .iastore, 80, 0, 0, 0, .null),
  (80, .aload_n 0, 81, 0, 0, 0, .null),
  (81, .getfield 33, 84, 169, 3, 14, .null),
  (84, .aload_n 0, 85, 0, 0, 0, .null),
  (85, .getfield 66, 88, 157, 3, 5, .null),
  (88, .iload_n 1, 89, 0, 1, 0, .null),
  (89, .iastore, 90, 0, 0, 0, .null),
  (90, .aload_n 0, 91, 0, 0, 0, .null),
  (91, .dup, 92, 0, 0, 0, .null),
  (92, .getfield 66, 95, 157, 3, 5, .null),
  (95, .iconst 1, 96, 0, 0, 0, .int 1),
  (96, .iadd, 97, 0, 0, 0, .null),
  (97, .putfield 66, 100, 157, 3, 5, .null),
  (100, .iconst 0, 101, 0, 0, 0, .int 0),
  (101, .istore 4, 103, 0, 4, 0, .null),
  (103, .iload 4, 105, 0, 4, 0, .null),
  (105, .iconst 4, 106, 0, 0, 0, .int 4),
  (106, .if_icmp .ge 71, 109, 0, 177, 0, .null),
  (109, .iload_n 1, 110, 0, 1, 0, .null),
  (110, .iload 4, 112, 0, 4, 0, .null),
  (112, .invokestatic 163, 115, 0, 0, 0, .null),
  (115, .istore 5, 117, 0, 5, 0, .null),
  (117, .aload_n 0, 118, 0, 0, 0, .null),
  (118, .getfield 39, 121, 171, 3, 15, .null),
  (121, .iload 5, 123, 0, 5, 0, .null),
  (123, .invokevirtual 93, 126, 0, 0, 0, .null),
  (126, .istore 6, 128, 0, 6, 0, .null),
  (128, .aload_n 0, 129, 0, 0, 0, .null),
  (129, .getfield 39, 132, 171, 3, 15, .null),
  (132, .iload 5, 134, 0, 5, 0, .null),
  (134, .iconst (-1), 135, 0, 0, 0, .int (-1)),
  (135, .invokevirtual 97, 138, 0, 0, 0, .null),
  (138, .iload 6, 140, 0, 6, 0, .null),
  (140, .iconst (-1), 141, 0, 0, 0, .int (-1)),
  (141, .if_icmp .eq 30, 144, 0, 171, 0, .null),
  (144, .iload_n 2, 145, 0, 2, 0, .null),
  (145, .iload 6, 147, 0, 6, 0, .null),
  (147, .invokestatic 85, 150, 0, 0, 0, .null),
  (150, .ifCond .ne 21, 153, 0, 171, 0, .null),
  (153, .aload_n 0, 154, 0, 0, 0, .null),
  (154, .getfield 46, 157, 173, 3, 16, .null),
  (157, .iload 6, 159, 0, 6, 0, .null),
  (159, .iconst (-1), 160, 0, 0, 0, .int (-1)),
  (160, .aload_n 0, 161, 0, 0, 0, .null),
  (161, .iload 6, 163, 0, 6, 0, .null),
  (163, .invokevirtual 101, 166, 0, 0, 0, .null),
  (166, .iconst 0, 167, 0, 0, 0, .int 0),
  (167, .invokevirtual 104, 170, 0, 0, 0, .null),
  (170, .pop, 171, 0, 0, 0, .null),
  (171, .iinc 4 1, 174, 0, 4, 0, .int 1),
  (174, .goto (-71), 177, 0, 103, 0, .null),
  (177, .aload_n 0, 178, 0, 0, 0, .null),
  (178, .getfield 39, 181, 171, 3, 15, .null),
  (181, .iload_n 1, 182, 0, 1, 0, .null),
  (182, .iload_n 2, 183, 0, 2, 0, .null),
  (183, .invokevirtual 166, 186, 0, 0, 0, .null),
  (186, .ifCond .eq 15, 189, 0, 201, 0, .null),
  (189, .aload_n 0, 190, 0, 0, 0, .null),
  (190, .dup, 191, 0, 0, 0, .null),
  (191, .getfield 63, 194, 155, 3, 4, .null),
  (194, .iconst 1, 195, 0, 0, 0, .int 1),
  (195, .iload_n 1, 196, 0, 1, 0, .null),
  (196, .ishl, 197, 0, 0, 0, .null),
  (197, .ior, 198, 0, 0, 0, .null),
  (198, .putfield 63, 201, 155, 3, 4, .null),
  (201, .return_, 202, 0, 0, 0, .null)]
def mm_X3_endThing : ev_M := (RX3, "endThing", cX3_endThing, 7, none, tb_X3_endThing, 2, 87, 0, 0)
set_option maxRecDepth 100000 in
theorem ok_X3_endThing : ev_OK mm_X3_endThing := by unfold ev_OK; decide +kernel
theorem cv_X3_endThing : ev_CV yX3_endThing mm_X3_endThing 3 3 := ⟨ev_has_in (k := 333) (by decide +kernel), ev_has_in (k := 85) (by decide +kernel), ev_has_in (k := 332) (by decide +kernel), ev_has_in (k := 5) (by decide +kernel), ⟨by decide +kernel, by decide +kernel, by decide +kernel⟩, rfl, by decide⟩
def tb_X3_dueTime : ev_T := [(0, .aload_n 0, 1, 0, 0, 0, .null),
  (1, .getfield 50, 4, 147, 3, 0, .null),
  (4, .aload_n 0, 5, 0, 0, 0, .null),
  (5, .getfield 9, 8, 160, 3, 7, .null),
  (8, .iload_n 1, 9, 0, 1, 0, .null),
  (9, .iconst 3, 10, 0, 0, 0, .int 3),
  (10, .invokestatic 169, 13, 0, 0, 0, .null),
  (13, .iaload, 14, 0, 0, 0, .null),
  (14, .iadd, 15, 0, 0, 0, .null),
  (15, .ireturn, 16, 0, 0, 0, .null)]
def mm_X3_dueTime : ev_M := (RX3, "dueTime", cX3_dueTime, 2, (some .int), tb_X3_dueTime, 1, 22, 0, 0)
set_option maxRecDepth 100000 in
theorem ok_X3_dueTime : ev_OK mm_X3_dueTime := by unfold ev_OK; decide +kernel
theorem cv_X3_dueTime : ev_CV yX3_dueTime mm_X3_dueTime 3 1 := ⟨ev_has_in (k := 350) (by decide +kernel), ev_has_in (k := 85) (by decide +kernel), ev_has_in (k := 349) (by decide +kernel), ev_has_in (k := 6) (by decide +kernel), ⟨by decide +kernel, by decide +kernel, by decide +kernel⟩, rfl, by decide⟩
def tb_X3_isWrong : ev_T := [(0, .aload_n 0, 1, 0, 0, 0, .null),
  (1, .getfield 18, 4, 163, 3, 9, .null),
  (4, .iload_n 1, 5, 0, 1, 0, .null),
  (5, .iaload, 6, 0, 0, 0, .null),
  (6, .aload_n 0, 7, 0, 0, 0, .null),
  (7, .getfield 46, 10, 173, 3, 16, .null),
  (10, .iload_n 1, 11, 0, 1, 0, .null),
  (11, .invokevirtual 117, 14, 0, 0, 0, .null),
  (14, .iadd, 15, 0, 0, 0, .null),
  (15, .aload_n 0, 16, 0, 0, 0, .null),
  (16, .getfield 39, 19, 171, 3, 15, .null),
  (19, .iload_n 1, 20, 0, 1, 0, .null),
  (20, .invokevirtual 114, 23, 0, 0, 0, .null),
  (23, .if_icmp .eq 7, 26, 0, 30, 0, .null),
  (26, .iconst 1, 27, 0, 0, 0, .int 1),
  (27, .goto 4, 30, 0, 31, 0, .null),
  (30, .iconst 0, 31, 0, 0, 0, .int 0),
  (31, .ireturn, 32, 0, 0, 0, .null)]
def mm_X3_isWrong : ev_M := (RX3, "isWrong", cX3_isWrong, 2, (some .boolean), tb_X3_isWrong, 1, 23, 0, 0)
set_option maxRecDepth 100000 in
theorem ok_X3_isWrong : ev_OK mm_X3_isWrong := by unfold ev_OK; decide +kernel
theorem cv_X3_isWrong : ev_CV yX3_isWrong mm_X3_isWrong 3 1 := ⟨ev_has_in (k := 398) (by decide +kernel), ev_has_in (k := 85) (by decide +kernel), ev_has_in (k := 397) (by decide +kernel), ev_has_in (k := 9) (by decide +kernel), ⟨by decide +kernel, by decide +kernel, by decide +kernel⟩, rfl, by decide⟩
def tb_X3_property : ev_T := [(0, .iload_n 1, 1, 0, 1, 0, .null),
  (1, .ifCond .lt 9, 4, 0, 10, 0, .null),
  (4, .iload_n 1, 5, 0, 1, 0, .null),
  (5, .bipush 24, 7, 0, 0, 0, .int 24),
  (7, .if_icmp .lt 5, 10, 0, 12, 0, .null),
  (10, .iconst 0, 11, 0, 0, 0, .int 0),
  (11, .ireturn, 12, 0, 0, 0, .null),
  (12, .iload_n 2, 13, 0, 2, 0, .null),
  (13, .tableswitch 162 0 11 #[63, 72, 79, 86, 95, 104, 113, 122, 134, 141, 148, 155], 76, 0, 63, 13, .null),
  (76, .aload_n 0, 77, 0, 0, 0, .null),
  (77, .getfield 57, 80, 151, 3, 2, .null),
  (80, .iload_n 1, 81, 0, 1, 0, .null),
  (81, .ishr, 82, 0, 0, 0, .null),
  (82, .iconst 1, 83, 0, 0, 0, .int 1),
  (83, .iand, 84, 0, 0, 0, .null),
  (84, .ireturn, 85, 0, 0, 0, .null),
  (85, .aload_n 0, 86, 0, 0, 0, .null),
  (86, .getfield 15, 89, 162, 3, 8, .null),
  (89, .iload_n 1, 90, 0, 1, 0, .null),
  (90, .iaload, 91, 0, 0, 0, .null),
  (91, .ireturn, 92, 0, 0, 0, .null),
  (92, .aload_n 0, 93, 0, 0, 0, .null),
  (93, .getfield 18, 96, 163, 3, 9, .null),
  (96, .iload_n 1, 97, 0, 1, 0, .null),
  (97, .iaload, 98, 0, 0, 0, .null),
  (98, .ireturn, 99, 0, 0, 0, .null),
  (99, .aload_n 0, 100, 0, 0, 0, .null),
  (100, .getfield 39, 103, 171, 3, 15, .null),
  (103, .iload_n 1, 104, 0, 1, 0, .null),
  (104, .invokevirtual 114, 107, 0, 0, 0, .null),
  (107, .ireturn, 108, 0, 0, 0, .null),
  (108, .aload_n 0, 109, 0, 0, 0, .null),
  (109, .getfield 46, 112, 173, 3, 16, .null),
  (112, .iload_n 1, 113, 0, 1, 0, .null),
  (113, .invokevirtual 174, 116, 0, 0, 0, .null),
  (116, .ireturn, 117, 0, 0, 0, .null),
  (117, .aload_n 0, 118, 0, 0, 0, .null),
  (118, .getfield 46, 121, 173, 3, 16, .null),
  (121, .iload_n 1, 122, 0, 1, 0, .null),
  (122, .invokevirtual 117, 125, 0, 0, 0, .null),
  (125, .ireturn, 126, 0, 0, 0, .null),
  (126, .aload_n 0, 127, 0, 0, 0, .null),
  (127, .getfield 60, 130, 153, 3, 3, .null),
  (130, .iload_n 1, 131, 0, 1, 0, .null),
  (131, .ishr, 132, 0, 0, 0, .null),
  (132, .iconst 1, 133, 0, 0, 0, .int 1),
  (133, .iand, 134, 0, 0, 0, .null),
  (134, .ireturn, 135, 0, 0, 0, .null),
  (135, .aload_n 0, 136, 0, 0, 0, .null),
  (136, .getfield 39, 139, 171, 3, 15, .null),
  (139, .invokevirtual 177, 142, 0, 0, 0, .null),
  (142, .iload_n 1, 143, 0, 1, 0, .null),
  (143, .ishr, 144, 0, 0, 0, .null),
  (144, .iconst 1, 145, 0, 0, 0, .int 1),
  (145, .iand, 146, 0, 0, 0, .null),
  (146, .ireturn, 147, 0, 0, 0, .null),
  (147, .aload_n 0, 148, 0, 0, 0, .null),
  (148, .getfield 21, 151, 164, 3, 10, .null),
  (151, .iload_n 1, 152, 0, 1, 0, .null),
  (152, .iaload, 153, 0, 0, 0, .null),
  (153, .ireturn, 154, 0, 0, 0, .null),
  (154, .aload_n 0, 155, 0, 0, 0, .null),
  (155, .getfield 24, 158, 165, 3, 11, .null),
  (158, .iload_n 1, 159, 0, 1, 0, .null),
  (159, .iaload, 160, 0, 0, 0, .null),
  (160, .ireturn, 161, 0, 0, 0, .null),
  (161, .aload_n 0, 162, 0, 0, 0, .null),
  (162, .getfield 27, 165, 166, 3, 12, .null),
  (165, .iload_n 1, 166, 0, 1, 0, .null),
  (166, .iaload, 167, 0, 0, 0, .null),
  (167, .ireturn, 168, 0, 0, 0, .null),
  (168, .aload_n 0, 169, 0, 0, 0, .null),
  (169, .getfield 30, 172, 168, 3, 13, .null),
  (172, .iload_n 1, 173, 0, 1, 0, .null),
  (173, .iaload, 174, 0, 0, 0, .null),
  (174, .ireturn, 175, 0, 0, 0, .null),
  (175, .aload_n 0, 176, 0, 0, 0, .null),
  (176, .getfield 63, 179, 155, 3, 4, .null),
  (179, .iload_n 1, 180, 0, 1, 0, .null),
  (180, .ishr, 181, 0, 0, 0, .null),
  (181, .iconst 1, 182, 0, 0, 0, .int 1),
  (182, .iand, 183, 0, 0, 0, .null),
  (183, .ireturn, 184, 0, 0, 0, .null)]
def mm_X3_property : ev_M := (RX3, "property", cX3_property, 3, (some .int), tb_X3_property, 4, 93, 0, 0)
set_option maxRecDepth 100000 in
theorem ok_X3_property : ev_OK mm_X3_property := by unfold ev_OK; decide +kernel
theorem cv_X3_property : ev_CV yX3_property mm_X3_property 3 2 := ⟨ev_has_in (k := 566) (by decide +kernel), ev_has_in (k := 85) (by decide +kernel), ev_has_in (k := 564) (by decide +kernel), ev_has_in (k := 565) (by decide +kernel), ⟨by decide +kernel, by decide +kernel, by decide +kernel⟩, rfl, by decide⟩
def tb_X3_total : ev_T := [(0, .iload_n 1, 1, 0, 1, 0, .null),
  (1, .tableswitch 147 0 11 #[63, 68, 73, 81, 92, 100, 108, 116, 121, 126, 134, 139], 64, 0, 63, 1, .null),
  (64, .aload_n 0, 65, 0, 0, 0, .null),
  (65, .getfield 50, 68, 147, 3, 0, .null),
  (68, .ireturn, 69, 0, 0, 0, .null),
  (69, .aload_n 0, 70, 0, 0, 0, .null),
  (70, .getfield 54, 73, 149, 3, 1, .null),
  (73, .ireturn, 74, 0, 0, 0, .null),
  (74, .aload_n 0, 75, 0, 0, 0, .null),
  (75, .getfield 57, 78, 151, 3, 2, .null),
  (78, .invokestatic 180, 81, 0, 0, 0, .null),
  (81, .ireturn, 82, 0, 0, 0, .null),
  (82, .aload_n 0, 83, 0, 0, 0, .null),
  (83, .getfield 39, 86, 171, 3, 15, .null),
  (86, .invokevirtual 177, 89, 0, 0, 0, .null),
  (89, .invokestatic 180, 92, 0, 0, 0, .null),
  (92, .ireturn, 93, 0, 0, 0, .null),
  (93, .aload_n 0, 94, 0, 0, 0, .null),
  (94, .getfield 60, 97, 153, 3, 3, .null),
  (97, .invokestatic 180, 100, 0, 0, 0, .null),
  (100, .ireturn, 101, 0, 0, 0, .null),
  (101, .aload_n 0, 102, 0, 0, 0, .null),
  (102, .getfield 46, 105, 173, 3, 16, .null),
  (105, .invokevirtual 185, 108, 0, 0, 0, .null),
  (108, .ireturn, 109, 0, 0, 0, .null),
  (109, .aload_n 0, 110, 0, 0, 0, .null),
  (110, .getfield 46, 113, 173, 3, 16, .null),
  (113, .getfield 188, 116, 132, 1, 1, .null),
  (116, .ireturn, 117, 0, 0, 0, .null),
  (117, .aload_n 0, 118, 0, 0, 0, .null),
  (118, .getfield 66, 121, 157, 3, 5, .null),
  (121, .ireturn, 122, 0, 0, 0, .null),
  (122, .aload_n 0, 123, 0, 0, 0, .null),
  (123, .invokevirtual 191, 126, 0, 0, 0, .null),
  (126, .ireturn, 127, 0, 0, 0, .null),
  (127, .aload_n 0, 128, 0, 0, 0, .null),
  (128, .getfield 63, 131, 155, 3, 4, .null),
  (131, .invokestatic 180, 134, 0, 0, 0, .null),
  (134, .ireturn, 135, 0, 0, 0, .null),
  (135, .aload_n 0, 136, 0, 0, 0, .null),
  (136, .getfield 69, 139, 159, 3, 6, .null),
  (139, .ireturn, 140, 0, 0, 0, .null),
  (140, .aload_n 0, 141, 0, 0, 0, .null),
  (141, .getfield 39, 144, 171, 3, 15, .null),
  (144, .invokevirtual 194, 147, 0, 0, 0, .null),
  (147, .ireturn, 148, 0, 0, 0, .null),
  (148, .aload_n 0, 149, 0, 0, 0, .null),
  (149, .invokevirtual 197, 152, 0, 0, 0, .null),
  (152, .ireturn, 153, 0, 0, 0, .null)]
def mm_X3_total : ev_M := (RX3, "total", cX3_total, 2, (some .int), tb_X3_total, 4, 93, 0, 0)
set_option maxRecDepth 100000 in
theorem ok_X3_total : ev_OK mm_X3_total := by unfold ev_OK; decide +kernel
theorem cv_X3_total : ev_CV yX3_total mm_X3_total 3 1 := ⟨ev_has_in (k := 437) (by decide +kernel), ev_has_in (k := 85) (by decide +kernel), ev_has_in (k := 435) (by decide +kernel), ev_has_in (k := 436) (by decide +kernel), ⟨by decide +kernel, by decide +kernel, by decide +kernel⟩, rfl, by decide⟩
def tb_X3_endsInTrials : ev_T := [(0, .iconst 0, 1, 0, 0, 0, .int 0),
  (1, .istore_n 1, 2, 0, 1, 0, .null),
  (2, .iconst 0, 3, 0, 0, 0, .int 0),
  (3, .istore_n 2, 4, 0, 2, 0, .null),
  (4, .iload_n 2, 5, 0, 2, 0, .null),
  (5, .aload_n 0, 6, 0, 0, 0, .null),
  (6, .getfield 54, 9, 149, 3, 1, .null),
  (9, .if_icmp .ge 28, 12, 0, 37, 0, .null),
  (12, .iload_n 2, 13, 0, 2, 0, .null),
  (13, .bipush 24, 15, 0, 0, 0, .int 24),
  (15, .if_icmp .ge 22, 18, 0, 37, 0, .null),
  (18, .aload_n 0, 19, 0, 0, 0, .null),
  (19, .getfield 30, 22, 168, 3, 13, .null),
  (22, .iload_n 2, 23, 0, 2, 0, .null),
  (23, .iaload, 24, 0, 0, 0, .null),
  (24, .iconst 2, 25, 0, 0, 0, .int 2),
  (25, .if_icmp .ne 6, 28, 0, 31, 0, .null),
  (28, .iinc 1 1, 31, 0, 1, 0, .int 1),
  (31, .iinc 2 1, 34, 0, 2, 0, .int 1),
  (34, .goto (-30), 37, 0, 4, 0, .null),
  (37, .iload_n 1, 38, 0, 1, 0, .null),
  (38, .ireturn, 39, 0, 0, 0, .null)]
def mm_X3_endsInTrials : ev_M := (RX3, "endsInTrials", cX3_endsInTrials, 3, (some .int), tb_X3_endsInTrials, 0, 0, 0, 0)
set_option maxRecDepth 100000 in
theorem ok_X3_endsInTrials : ev_OK mm_X3_endsInTrials := by unfold ev_OK; decide +kernel
theorem cv_X3_endsInTrials : ev_CV yX3_endsInTrials mm_X3_endsInTrials 3 0 := ⟨ev_has_in (k := 459) (by decide +kernel), ev_has_in (k := 85) (by decide +kernel), ev_has_in (k := 458) (by decide +kernel), ev_has_in (k := 11) (by decide +kernel), ⟨by decide +kernel, by decide +kernel, by decide +kernel⟩, rfl, by decide⟩
def tb_X3_wrongCounts : ev_T := [(0, .iconst 0, 1, 0, 0, 0, .int 0),
  (1, .istore_n 1, 2, 0, 1, 0, .null),
  (2, .iconst 0, 3, 0, 0, 0, .int 0),
  (3, .istore_n 2, 4, 0, 2, 0, .null),
  (4, .iload_n 2, 5, 0, 2, 0, .null),
  (5, .bipush 24, 7, 0, 0, 0, .int 24),
  (7, .if_icmp .ge 28, 10, 0, 35, 0, .null),
  (10, .aload_n 0, 11, 0, 0, 0, .null),
  (11, .iload_n 2, 12, 0, 2, 0, .null),
  (12, .invokevirtual 89, 15, 0, 0, 0, .null),
  (15, .ifCond .eq 14, 18, 0, 29, 0, .null),
  (18, .aload_n 0, 19, 0, 0, 0, .null),
  (19, .iload_n 2, 20, 0, 2, 0, .null),
  (20, .invokevirtual 111, 23, 0, 0, 0, .null),
  (23, .ifCond .eq 6, 26, 0, 29, 0, .null),
  (26, .iinc 1 1, 29, 0, 1, 0, .int 1),
  (29, .iinc 2 1, 32, 0, 2, 0, .int 1),
  (32, .goto (-28), 35, 0, 4, 0, .null),
  (35, .iload_n 1, 36, 0, 1, 0, .null),
  (36, .ireturn, 37, 0, 0, 0, .null)]
def mm_X3_wrongCounts : ev_M := (RX3, "wrongCounts", cX3_wrongCounts, 3, (some .int), tb_X3_wrongCounts, 2, 44, 0, 0)
set_option maxRecDepth 100000 in
theorem ok_X3_wrongCounts : ev_OK mm_X3_wrongCounts := by unfold ev_OK; decide +kernel
theorem cv_X3_wrongCounts : ev_CV yX3_wrongCounts mm_X3_wrongCounts 3 0 := ⟨ev_has_in (k := 467) (by decide +kernel), ev_has_in (k := 85) (by decide +kernel), ev_has_in (k := 466) (by decide +kernel), ev_has_in (k := 12) (by decide +kernel), ⟨by decide +kernel, by decide +kernel, by decide +kernel⟩, rfl, by decide⟩
theorem ml_X3_38 : ev_ml RX3 38 yX0_init := Or.inl (ev_has_in (k := 115) (by decide +kernel))
theorem ml_X3_45 : ev_ml RX3 45 yX1_init := Or.inl (ev_has_in (k := 126) (by decide +kernel))
theorem ml_X3_78 : ev_ml RX3 78 yX0_copyFrom := Or.inl (ev_has_in (k := 271) (by decide +kernel))
theorem ml_X3_82 : ev_ml RX3 82 yX1_copyFrom := Or.inl (ev_has_in (k := 276) (by decide +kernel))
theorem ml_X3_85 : ev_ml RX3 85 yX4_isIn := Or.inr ⟨"GossipCounts", ev_has_in (k := 285) (by decide +kernel)⟩
theorem ml_X3_89 : ev_ml RX3 89 yX3_lives := Or.inl (ev_has_in (k := 334) (by decide +kernel))
theorem ml_X3_93 : ev_ml RX3 93 yX0_at := Or.inl (ev_has_in (k := 339) (by decide +kernel))
theorem ml_X3_97 : ev_ml RX3 97 yX0_hold := Or.inl (ev_has_in (k := 343) (by decide +kernel))
theorem ml_X3_101 : ev_ml RX3 101 yX3_dueTime := Or.inl (ev_has_in (k := 347) (by decide +kernel))
theorem ml_X3_104 : ev_ml RX3 104 yX1_make := Or.inl (ev_has_in (k := 354) (by decide +kernel))
theorem ml_X3_108 : ev_ml RX3 108 yX3_hearDue := Or.inl (ev_has_in (k := 362) (by decide +kernel))
theorem ml_X3_111 : ev_ml RX3 111 yX3_isWrong := Or.inl (ev_has_in (k := 395) (by decide +kernel))
theorem ml_X3_114 : ev_ml RX3 114 yX0_truthOf := Or.inl (ev_has_in (k := 383) (by decide +kernel))
theorem ml_X3_117 : ev_ml RX3 117 yX1_sumFor := Or.inl (ev_has_in (k := 399) (by decide +kernel))
theorem ml_X3_120 : ev_ml RX3 120 yX3_holdTrial := Or.inl (ev_has_in (k := 558) (by decide +kernel))
theorem ml_X3_124 : ev_ml RX3 124 yX3_judge := Or.inl (ev_has_in (k := 288) (by decide +kernel))
theorem ml_X3_128 : ev_ml RX3 128 yX0_reachOf := Or.inl (ev_has_in (k := 292) (by decide +kernel))
theorem ml_X3_131 : ev_ml RX3 131 yX1_anyFor := Or.inl (ev_has_in (k := 311) (by decide +kernel))
theorem ml_X3_134 : ev_ml RX3 134 yX3_withRest := Or.inl (ev_has_in (k := 316) (by decide +kernel))
theorem ml_X3_137 : ev_ml RX3 137 yX0_reachedFrom := Or.inl (ev_has_in (k := 325) (by decide +kernel))
theorem ml_X3_141 : ev_ml RX3 141 yX3_highestOf := Or.inl (ev_has_in (k := 326) (by decide +kernel))
theorem ml_X3_144 : ev_ml RX3 144 yX3_endThing := Or.inl (ev_has_in (k := 330) (by decide +kernel))
theorem ml_X3_148 : ev_ml RX3 148 yX0_slotsThatHold := Or.inl (ev_has_in (k := 320) (by decide +kernel))
theorem ml_X3_151 : ev_ml RX3 151 yX1_anyDue := Or.inl (ev_has_in (k := 366) (by decide +kernel))
theorem ml_X3_154 : ev_ml RX3 154 yX1_part := Or.inl (ev_has_in (k := 374) (by decide +kernel))
theorem ml_X3_157 : ev_ml RX3 157 yX1_dropFirst := Or.inl (ev_has_in (k := 375) (by decide +kernel))
theorem ml_X3_160 : ev_ml RX3 160 yX3_mustEnd := Or.inl (ev_has_in (k := 379) (by decide +kernel))
theorem ml_X3_163 : ev_ml RX3 163 yX4_placeOf := Or.inr ⟨"GossipCounts", ev_has_in (k := 338) (by decide +kernel)⟩
theorem ml_X3_166 : ev_ml RX3 166 yX0_letGo := Or.inl (ev_has_in (k := 358) (by decide +kernel))
theorem ml_X3_169 : ev_ml RX3 169 yJ9_floorMod_7cf53 := Or.inl (ev_has_in (k := 351) (by decide +kernel))
theorem ml_X3_174 : ev_ml RX3 174 yX1_numberFor := Or.inl (ev_has_in (k := 567) (by decide +kernel))
theorem ml_X3_177 : ev_ml RX3 177 yX0_reached := Or.inl (ev_has_in (k := 444) (by decide +kernel))
theorem ml_X3_180 : ev_ml RX3 180 yJ6_bitCount_0f7a4 := Or.inl (ev_has_in (k := 438) (by decide +kernel))
theorem ml_X3_185 : ev_ml RX3 185 yX1_underWay := Or.inl (ev_has_in (k := 452) (by decide +kernel))
theorem ml_X3_191 : ev_ml RX3 191 yX3_endsInTrials := Or.inl (ev_has_in (k := 456) (by decide +kernel))
theorem ml_X3_194 : ev_ml RX3 194 yX0_taken := Or.inl (ev_has_in (k := 460) (by decide +kernel))
theorem ml_X3_197 : ev_ml RX3 197 yX3_wrongCounts := Or.inl (ev_has_in (k := 464) (by decide +kernel))
end
section
/-! tables of the methods of GossipCounts, laid by wip/whole/gen/tabs.py -/
def tb_X4_init : ev_T := [(0, .aload_n 0, 1, 0, 0, 0, .null),
  (1, .invokespecial 3, 4, 0, 0, 0, .null),
  (4, .aload_n 0, 5, 0, 0, 0, .null),
  (5, .new 9, 8, 0, 0, 0, .null),
  (8, .dup, 9, 0, 0, 0, .null),
  (9, .invokespecial 11, 12, 0, 0, 0, .null),
  (12, .putfield 12, 15, 237, 4, 0, .null),
  (15, .aload_n 0, 16, 0, 0, 0, .null),
  (16, .new 9, 19, 0, 0, 0, .null),
  (19, .dup, 20, 0, 0, 0, .null),
  (20, .invokespecial 11, 23, 0, 0, 0, .null),
  (23, .putfield 16, 26, 238, 4, 1, .null),
  (26, .aload_n 0, 27, 0, 0, 0, .null),
  (27, .new 9, 30, 0, 0, 0, .null),
  (30, .dup, 31, 0, 0, 0, .null),
  (31, .invokespecial 11, 34, 0, 0, 0, .null),
  (34, .putfield 19, 37, 239, 4, 2, .null),
  (37, .aload_n 0, 38, 0, 0, 0, .null),
  (38, .bipush 6, 40, 0, 0, 0, .int 6),
  (40, .anewarray 9, 43, 0, 0, 0, .null),
  (43, .putfield 22, 46, 240, 4, 3, .null),
  (46, .iconst 0, 47, 0, 0, 0, .int 0),
  (47, .istore_n 1, 48, 0, 1, 0, .null),
  (48, .iload_n 1, 49, 0, 1, 0, .null),
  (49, .bipush 6, 51, 0, 0, 0, .int 6),
  (51, .if_icmp .ge 22, 54, 0, 73, 0, .null),
  (54, .aload_n 0, 55, 0, 0, 0, .null),
  (55, .getfield 22, 58, 240, 4, 3, .null),
  (58, .iload_n 1, 59, 0, 1, 0, .null),
  (59, .new 9, 62, 0, 0, 0, .null),
  (62, .dup, 63, 0, 0, 0, .null),
  (63, .invokespecial 11, 66, 0, 0, 0, .null),
  (66, .aastore, 67, 0, 0, 0, .null),
  (67, .iinc 1 1, 70, 0, 1, 0, .int 1),
  (70, .goto (-22), 73, 0, 48, 0, .null),
  (73, .aload_n 0, 74, 0, 0, 0, .null),
  (74, .new 26, 77, 0, 0, 0, .null),
  (77, .dup, 78, 0, 0, 0, .null),
  (78, .invokespecial 28, 81, 0, 0, 0, .null),
  (81, .putfield 29, 84, 242, 4, 5, .null),
  (84, .return_, 85, 0, 0, 0, .null)]
def mm_X4_init : ev_M := (RX4, "<init>", cX4_init, 2, none, tb_X4_init, 3, 71, 0, 0)
set_option maxRecDepth 100000 in
theorem ok_X4_init : ev_OK mm_X4_init := by unfold ev_OK; decide +kernel
theorem ci_X4_init : ev_CI yX4_init mm_X4_init 0 := ⟨ev_has_in (k := 103) (by decide +kernel), ev_has_in (k := 84) (by decide +kernel), ev_has_in (k := 102) (by decide +kernel), ⟨by decide +kernel, by decide +kernel, by decide +kernel⟩, rfl⟩
def tb_X4_add : ev_T := [(0, .iload_n 1, 1, 0, 1, 0, .null),
  (1, .ifCond .lt 9, 4, 0, 10, 0, .null),
  (4, .iload_n 1, 5, 0, 1, 0, .null),
  (5, .bipush 9, 7, 0, 0, 0, .int 9),
  (7, .if_icmp .le 13, 10, 0, 20, 0, .null),
  (10, .new 33, 13, 0, 0, 0, .null),
  (13, .dup, 14, 0, 0, 0, .null),
  (16, .invokespecial 37, 19, 0, 0, 0, .null),
  (19, .athrow, 20, 0, 0, 0, .null),
  (20, .aload_n 0, 21, 0, 0, 0, .null),
  (21, .getfield 12, 24, 237, 4, 0, .null),
  (24, .getfield 40, 27, 150, 3, 1, .null),
  (27, .bipush 24, 29, 0, 0, 0, .int 24),
  (29, .if_icmp .lt 13, 32, 0, 42, 0, .null),
  (32, .new 44, 35, 0, 0, 0, .null),
  (35, .dup, 36, 0, 0, 0, .null),
  (38, .invokespecial 48, 41, 0, 0, 0, .null),
  (41, .athrow, 42, 0, 0, 0, .null),
  (42, .aload_n 0, 43, 0, 0, 0, .null),
  (43, .invokevirtual 49, 46, 0, 0, 0, .null),
  (46, .aload_n 0, 47, 0, 0, 0, .null),
  (47, .getfield 12, 50, 237, 4, 0, .null),
  (50, .iload_n 1, 51, 0, 1, 0, .null),
  (51, .invokevirtual 52, 54, 0, 0, 0, .null),
  (54, .ireturn, 55, 0, 0, 0, .null)]
def mm_X4_add : ev_M := (RX4, "add", cX4_add, 2, (some .int), tb_X4_add, 6, 160, 0, 0)
set_option maxRecDepth 100000 in
theorem ok_X4_add : ev_OK mm_X4_add := by unfold ev_OK; decide +kernel
theorem cv_X4_add : ev_CV yX4_add mm_X4_add 4 1 := ⟨ev_has_in (k := 648) (by decide +kernel), ev_has_in (k := 84) (by decide +kernel), ev_has_in (k := 646) (by decide +kernel), ev_has_in (k := 647) (by decide +kernel), ⟨by decide +kernel, by decide +kernel, by decide +kernel⟩, rfl, by decide⟩
def tb_X4_take : ev_T := [(0, .iload_n 1, 1, 0, 1, 0, .null),
  (1, .invokestatic 56, 4, 0, 0, 0, .null),
  (4, .ifCond .eq 11, 7, 0, 15, 0, .null),
  (7, .aload_n 0, 8, 0, 0, 0, .null),
  (8, .iload_n 2, 9, 0, 2, 0, .null),
  (9, .invokevirtual 60, 12, 0, 0, 0, .null),
  (12, .ifCond .ne 13, 15, 0, 25, 0, .null),
  (15, .new 63, 18, 0, 0, 0, .null),
  (18, .dup, 19, 0, 0, 0, .null),
  (21, .invokespecial 67, 24, 0, 0, 0, .null),
  (24, .athrow, 25, 0, 0, 0, .null),
  (25, .aload_n 0, 26, 0, 0, 0, .null),
  (26, .getfield 12, 29, 237, 4, 0, .null),
  (29, .iload_n 2, 30, 0, 2, 0, .null),
  (30, .invokevirtual 68, 33, 0, 0, 0, .null),
  (33, .ifCond .ne 13, 36, 0, 46, 0, .null),
  (36, .new 44, 39, 0, 0, 0, .null),
  (39, .dup, 40, 0, 0, 0, .null),
  (42, .invokespecial 48, 45, 0, 0, 0, .null),
  (45, .athrow, 46, 0, 0, 0, .null),
  (46, .aload_n 0, 47, 0, 0, 0, .null),
  (47, .invokevirtual 49, 50, 0, 0, 0, .null),
  (50, .aload_n 0, 51, 0, 0, 0, .null),
  (51, .getfield 12, 54, 237, 4, 0, .null),
  (54, .iload_n 1, 55, 0, 1, 0, .null),
  (55, .iload_n 2, 56, 0, 2, 0, .null),
  (56, .invokevirtual 73, 59, 0, 0, 0, .null),
  (59, .ireturn, 60, 0, 0, 0, .null)]
def mm_X4_take : ev_M := (RX4, "take", cX4_take, 3, (some .int), tb_X4_take, 6, 160, 0, 0)
set_option maxRecDepth 100000 in
theorem ok_X4_take : ev_OK mm_X4_take := by unfold ev_OK; decide +kernel
theorem cv_X4_take : ev_CV yX4_take mm_X4_take 4 2 := ⟨ev_has_in (k := 677) (by decide +kernel), ev_has_in (k := 84) (by decide +kernel), ev_has_in (k := 675) (by decide +kernel), ev_has_in (k := 676) (by decide +kernel), ⟨by decide +kernel, by decide +kernel, by decide +kernel⟩, rfl, by decide⟩
def tb_X4_put : ev_T := [(0, .aload_n 0, 1, 0, 0, 0, .null),
  (1, .iload_n 1, 2, 0, 1, 0, .null),
  (2, .invokevirtual 77, 5, 0, 0, 0, .null),
  (5, .ifCond .eq 18, 8, 0, 23, 0, .null),
  (8, .iload_n 2, 9, 0, 2, 0, .null),
  (9, .invokestatic 80, 12, 0, 0, 0, .null),
  (12, .ifCond .eq 11, 15, 0, 23, 0, .null),
  (15, .aload_n 0, 16, 0, 0, 0, .null),
  (16, .iload_n 3, 17, 0, 3, 0, .null),
  (17, .invokevirtual 60, 20, 0, 0, 0, .null),
  (20, .ifCond .ne 13, 23, 0, 33, 0, .null),
  (23, .new 63, 26, 0, 0, 0, .null),
  (26, .dup, 27, 0, 0, 0, .null),
  (29, .invokespecial 67, 32, 0, 0, 0, .null),
  (32, .athrow, 33, 0, 0, 0, .null),
  (33, .aload_n 0, 34, 0, 0, 0, .null),
  (34, .getfield 12, 37, 237, 4, 0, .null),
  (37, .iload_n 1, 38, 0, 1, 0, .null),
  (38, .invokevirtual 85, 41, 0, 0, 0, .null),
  (41, .ifCond .eq 14, 44, 0, 55, 0, .null),
  (44, .aload_n 0, 45, 0, 0, 0, .null),
  (45, .getfield 12, 48, 237, 4, 0, .null),
  (48, .iload_n 3, 49, 0, 3, 0, .null),
  (49, .invokevirtual 68, 52, 0, 0, 0, .null),
  (52, .ifCond .ne 13, 55, 0, 65, 0, .null),
  (55, .new 44, 58, 0, 0, 0, .null),
  (58, .dup, 59, 0, 0, 0, .null),
  (61, .invokespecial 48, 64, 0, 0, 0, .null),
  (64, .athrow, 65, 0, 0, 0, .null),
  (65, .aload_n 0, 66, 0, 0, 0, .null),
  (66, .invokevirtual 49, 69, 0, 0, 0, .null),
  (69, .aload_n 0, 70, 0, 0, 0, .null),
  (70, .getfield 12, 73, 237, 4, 0, .null),
  (73, .iload_n 1, 74, 0, 1, 0, .null),
  (74, .iload_n 2, 75, 0, 2, 0, .null),
  (75, .invokestatic 90, 78, 0, 0, 0, .null),
  (78, .iload_n 3, 79, 0, 3, 0, .null),
  (79, .invokevirtual 73, 82, 0, 0, 0, .null),
  (82, .ireturn, 83, 0, 0, 0, .null)]
def mm_X4_put : ev_M := (RX4, "put", cX4_put, 4, (some .int), tb_X4_put, 6, 160, 0, 0)
set_option maxRecDepth 100000 in
theorem ok_X4_put : ev_OK mm_X4_put := by unfold ev_OK; decide +kernel
theorem cv_X4_put : ev_CV yX4_put mm_X4_put 4 3 := ⟨ev_has_in (k := 720) (by decide +kernel), ev_has_in (k := 84) (by decide +kernel), ev_has_in (k := 718) (by decide +kernel), ev_has_in (k := 719) (by decide +kernel), ⟨by decide +kernel, by decide +kernel, by decide +kernel⟩, rfl, by decide⟩
def tb_X4_slander : ev_T := [(0, .aload_n 0, 1, 0, 0, 0, .null),
  (1, .iload_n 1, 2, 0, 1, 0, .null),
  (2, .invokevirtual 77, 5, 0, 0, 0, .null),
  (5, .ifCond .ne 13, 8, 0, 18, 0, .null),
  (8, .new 63, 11, 0, 0, 0, .null),
  (11, .dup, 12, 0, 0, 0, .null),
  (14, .invokespecial 67, 17, 0, 0, 0, .null),
  (17, .athrow, 18, 0, 0, 0, .null),
  (18, .iload_n 2, 19, 0, 2, 0, .null),
  (19, .iconst (-1), 20, 0, 0, 0, .int (-1)),
  (20, .if_icmp .eq 18, 23, 0, 38, 0, .null),
  (23, .iload_n 2, 24, 0, 2, 0, .null),
  (24, .iconst 1, 25, 0, 0, 0, .int 1),
  (25, .if_icmp .eq 13, 28, 0, 38, 0, .null),
  (28, .new 33, 31, 0, 0, 0, .null),
  (31, .dup, 32, 0, 0, 0, .null),
  (34, .invokespecial 37, 37, 0, 0, 0, .null),
  (37, .athrow, 38, 0, 0, 0, .null),
  (38, .aload_n 0, 39, 0, 0, 0, .null),
  (39, .getfield 12, 42, 237, 4, 0, .null),
  (42, .iload_n 1, 43, 0, 1, 0, .null),
  (43, .invokevirtual 85, 46, 0, 0, 0, .null),
  (46, .ifCond .ne 13, 49, 0, 59, 0, .null),
  (49, .new 44, 52, 0, 0, 0, .null),
  (52, .dup, 53, 0, 0, 0, .null),
  (55, .invokespecial 48, 58, 0, 0, 0, .null),
  (58, .athrow, 59, 0, 0, 0, .null),
  (59, .aload_n 0, 60, 0, 0, 0, .null),
  (60, .invokevirtual 49, 63, 0, 0, 0, .null),
  (63, .aload_n 0, 64, 0, 0, 0, .null),
  (64, .getfield 12, 67, 237, 4, 0, .null),
  (67, .iload_n 1, 68, 0, 1, 0, .null),
  (68, .iload_n 2, 69, 0, 2, 0, .null),
  (69, .invokevirtual 97, 72, 0, 0, 0, .null),
  (72, .ireturn, 73, 0, 0, 0, .null)]
def mm_X4_slander : ev_M := (RX4, "slander", cX4_slander, 3, (some .int), tb_X4_slander, 6, 160, 0, 0)
set_option maxRecDepth 100000 in
theorem ok_X4_slander : ev_OK mm_X4_slander := by unfold ev_OK; decide +kernel
theorem cv_X4_slander : ev_CV yX4_slander mm_X4_slander 4 2 := ⟨ev_has_in (k := 732) (by decide +kernel), ev_has_in (k := 84) (by decide +kernel), ev_has_in (k := 730) (by decide +kernel), ev_has_in (k := 731) (by decide +kernel), ⟨by decide +kernel, by decide +kernel, by decide +kernel⟩, rfl, by decide⟩
def tb_X4_suspect : ev_T := [(0, .aload_n 0, 1, 0, 0, 0, .null),
  (1, .iload_n 1, 2, 0, 1, 0, .null),
  (2, .invokevirtual 77, 5, 0, 0, 0, .null),
  (5, .ifCond .ne 13, 8, 0, 18, 0, .null),
  (8, .new 63, 11, 0, 0, 0, .null),
  (11, .dup, 12, 0, 0, 0, .null),
  (14, .invokespecial 67, 17, 0, 0, 0, .null),
  (17, .athrow, 18, 0, 0, 0, .null),
  (18, .aload_n 0, 19, 0, 0, 0, .null),
  (19, .getfield 12, 22, 237, 4, 0, .null),
  (22, .iload_n 1, 23, 0, 1, 0, .null),
  (23, .invokevirtual 85, 26, 0, 0, 0, .null),
  (26, .ifCond .eq 17, 29, 0, 43, 0, .null),
  (29, .aload_n 0, 30, 0, 0, 0, .null),
  (30, .getfield 12, 33, 237, 4, 0, .null),
  (33, .getfield 100, 36, 154, 3, 3, .null),
  (36, .iload_n 1, 37, 0, 1, 0, .null),
  (37, .invokestatic 103, 40, 0, 0, 0, .null),
  (40, .ifCond .eq 13, 43, 0, 53, 0, .null),
  (43, .new 44, 46, 0, 0, 0, .null),
  (46, .dup, 47, 0, 0, 0, .null),
  (49, .invokespecial 48, 52, 0, 0, 0, .null),
  (52, .athrow, 53, 0, 0, 0, .null),
  (53, .aload_n 0, 54, 0, 0, 0, .null),
  (54, .invokevirtual 49, 57, 0, 0, 0, .null),
  (57, .aload_n 0, 58, 0, 0, 0, .null),
  (58, .getfield 12, 61, 237, 4, 0, .null),
  (61, .dup, 62, 0, 0, 0, .null),
  (62, .getfield 100, 65, 154, 3, 3, .null),
  (65, .iconst 1, 66, 0, 0, 0, .int 1),
  (66, .iload_n 1, 67, 0, 1, 0, .null),
  (67, .ishl, 68, 0, 0, 0, .null),
  (68, .ior, 69, 0, 0, 0, .null),
  (69, .putfield 100, 72, 154, 3, 3, .null),
  (72, .aload_n 0, 73, 0, 0, 0, .null),
  (73, .getfield 12, 76, 237, 4, 0, .null),
  (76, .getfield 100, 79, 154, 3, 3, .null),
  (79, .invokestatic 109, 82, 0, 0, 0, .null),
  (82, .ireturn, 83, 0, 0, 0, .null)]
def mm_X4_suspect : ev_M := (RX4, "suspect", cX4_suspect, 2, (some .int), tb_X4_suspect, 6, 160, 0, 0)
set_option maxRecDepth 100000 in
theorem ok_X4_suspect : ev_OK mm_X4_suspect := by unfold ev_OK; decide +kernel
theorem cv_X4_suspect : ev_CV yX4_suspect mm_X4_suspect 4 1 := ⟨ev_has_in (k := 741) (by decide +kernel), ev_has_in (k := 84) (by decide +kernel), ev_has_in (k := 739) (by decide +kernel), ev_has_in (k := 740) (by decide +kernel), ⟨by decide +kernel, by decide +kernel, by decide +kernel⟩, rfl, by decide⟩
def tb_X4_set : ev_T := [(0, .iload_n 1, 1, 0, 1, 0, .null),
  (1, .invokestatic 114, 4, 0, 0, 0, .null),
  (4, .ifCond .ne 13, 7, 0, 17, 0, .null),
  (7, .new 63, 10, 0, 0, 0, .null),
  (10, .dup, 11, 0, 0, 0, .null),
  (13, .invokespecial 67, 16, 0, 0, 0, .null),
  (16, .athrow, 17, 0, 0, 0, .null),
  (17, .iload_n 2, 18, 0, 2, 0, .null),
  (18, .ifCond .lt 11, 21, 0, 29, 0, .null),
  (21, .iload_n 2, 22, 0, 2, 0, .null),
  (22, .iload_n 1, 23, 0, 1, 0, .null),
  (23, .invokestatic 119, 26, 0, 0, 0, .null),
  (26, .if_icmp .le 13, 29, 0, 39, 0, .null),
  (29, .new 33, 32, 0, 0, 0, .null),
  (32, .dup, 33, 0, 0, 0, .null),
  (35, .invokespecial 37, 38, 0, 0, 0, .null),
  (38, .athrow, 39, 0, 0, 0, .null),
  (39, .aload_n 0, 40, 0, 0, 0, .null),
  (40, .invokevirtual 49, 43, 0, 0, 0, .null),
  (43, .aload_n 0, 44, 0, 0, 0, .null),
  (44, .getfield 12, 47, 237, 4, 0, .null),
  (47, .getfield 124, 50, 161, 3, 7, .null),
  (50, .iload_n 1, 51, 0, 1, 0, .null),
  (51, .iaload, 52, 0, 0, 0, .null),
  (52, .istore_n 3, 53, 0, 3, 0, .null),
  (53, .aload_n 0, 54, 0, 0, 0, .null),
  (54, .getfield 12, 57, 237, 4, 0, .null),
  (57, .getfield 124, 60, 161, 3, 7, .null),
  (60, .iload_n 1, 61, 0, 1, 0, .null),
  (61, .iload_n 2, 62, 0, 2, 0, .null),
  (62, .iastore, 63, 0, 0, 0, .null),
  (63, .iload_n 3, 64, 0, 3, 0, .null),
  (64, .ireturn, 65, 0, 0, 0, .null)]
def mm_X4_set : ev_M := (RX4, "set", cX4_set, 4, (some .int), tb_X4_set, 6, 160, 0, 0)
set_option maxRecDepth 100000 in
theorem ok_X4_set : ev_OK mm_X4_set := by unfold ev_OK; decide +kernel
theorem cv_X4_set : ev_CV yX4_set mm_X4_set 4 2 := ⟨ev_has_in (k := 750) (by decide +kernel), ev_has_in (k := 84) (by decide +kernel), ev_has_in (k := 748) (by decide +kernel), ev_has_in (k := 749) (by decide +kernel), ⟨by decide +kernel, by decide +kernel, by decide +kernel⟩, rfl, by decide⟩
def tb_X4_pass : ev_T := [(0, .iload_n 1, 1, 0, 1, 0, .null),
  (1, .iconst 1, 2, 0, 0, 0, .int 1),
  (2, .if_icmp .lt 9, 5, 0, 11, 0, .null),
  (5, .iload_n 1, 6, 0, 1, 0, .null),
  (6, .bipush 100, 8, 0, 0, 0, .int 100),
  (8, .if_icmp .le 13, 11, 0, 21, 0, .null),
  (11, .new 33, 14, 0, 0, 0, .null),
  (14, .dup, 15, 0, 0, 0, .null),
  (17, .invokespecial 37, 20, 0, 0, 0, .null),
  (20, .athrow, 21, 0, 0, 0, .null),
  (21, .aload_n 0, 22, 0, 0, 0, .null),
  (22, .getfield 12, 25, 237, 4, 0, .null),
  (25, .getfield 130, 28, 148, 3, 0, .null),
  (28, .iload_n 1, 29, 0, 1, 0, .null),
  (29, .iadd, 30, 0, 0, 0, .null),
  (30, .sipush 5000, 33, 0, 0, 0, .int 5000),
  (33, .if_icmp .le 13, 36, 0, 46, 0, .null),
  (36, .new 44, 39, 0, 0, 0, .null),
  (39, .dup, 40, 0, 0, 0, .null),
  (42, .invokespecial 48, 45, 0, 0, 0, .null),
  (45, .athrow, 46, 0, 0, 0, .null),
  (46, .aload_n 0, 47, 0, 0, 0, .null),
  (47, .invokevirtual 49, 50, 0, 0, 0, .null),
  (50, .aload_n 0, 51, 0, 0, 0, .null),
  (51, .getfield 12, 54, 237, 4, 0, .null),
  (54, .iload_n 1, 55, 0, 1, 0, .null),
  (55, .invokevirtual 135, 58, 0, 0, 0, .null),
  (58, .ireturn, 59, 0, 0, 0, .null)]
def mm_X4_pass : ev_M := (RX4, "pass", cX4_pass, 2, (some .int), tb_X4_pass, 6, 186, 0, 0)
set_option maxRecDepth 100000 in
theorem ok_X4_pass : ev_OK mm_X4_pass := by unfold ev_OK; decide +kernel
theorem cv_X4_pass : ev_CV yX4_pass mm_X4_pass 4 1 := ⟨ev_has_in (k := 765) (by decide +kernel), ev_has_in (k := 84) (by decide +kernel), ev_has_in (k := 763) (by decide +kernel), ev_has_in (k := 764) (by decide +kernel), ⟨by decide +kernel, by decide +kernel, by decide +kernel⟩, rfl, by decide⟩
def tb_X4_trial : ev_T := [(0, .aload_n 0, 1, 0, 0, 0, .null),
  (1, .invokevirtual 49, 4, 0, 0, 0, .null),
  (4, .aload_n 0, 5, 0, 0, 0, .null),
  (5, .getfield 12, 8, 237, 4, 0, .null),
  (8, .invokevirtual 138, 11, 0, 0, 0, .null),
  (11, .ireturn, 12, 0, 0, 0, .null)]
def mm_X4_trial : ev_M := (RX4, "trial", cX4_trial, 1, (some .int), tb_X4_trial, 5, 162, 0, 0)
set_option maxRecDepth 100000 in
theorem ok_X4_trial : ev_OK mm_X4_trial := by unfold ev_OK; decide +kernel
theorem cv_X4_trial : ev_CV yX4_trial mm_X4_trial 4 0 := ⟨ev_has_in (k := 259) (by decide +kernel), ev_has_in (k := 84) (by decide +kernel), ev_has_in (k := 257) (by decide +kernel), ev_has_in (k := 258) (by decide +kernel), ⟨by decide +kernel, by decide +kernel, by decide +kernel⟩, rfl, by decide⟩
def tb_X4_audit : ev_T := [(0, .aload_n 0, 1, 0, 0, 0, .null),
  (1, .invokevirtual 49, 4, 0, 0, 0, .null),
  (4, .aload_n 0, 5, 0, 0, 0, .null),
  (5, .getfield 12, 8, 237, 4, 0, .null),
  (8, .invokevirtual 142, 11, 0, 0, 0, .null),
  (11, .ireturn, 12, 0, 0, 0, .null)]
def mm_X4_audit : ev_M := (RX4, "audit", cX4_audit, 1, (some .int), tb_X4_audit, 4, 124, 0, 0)
set_option maxRecDepth 100000 in
theorem ok_X4_audit : ev_OK mm_X4_audit := by unfold ev_OK; decide +kernel
theorem cv_X4_audit : ev_CV yX4_audit mm_X4_audit 4 0 := ⟨ev_has_in (k := 390) (by decide +kernel), ev_has_in (k := 84) (by decide +kernel), ev_has_in (k := 388) (by decide +kernel), ev_has_in (k := 389) (by decide +kernel), ⟨by decide +kernel, by decide +kernel, by decide +kernel⟩, rfl, by decide⟩
def tb_X4_append : ev_T := [(0, .iload_n 1, 1, 0, 1, 0, .null),
  (1, .bipush 33, 3, 0, 0, 0, .int 33),
  (3, .if_icmp .lt 9, 6, 0, 12, 0, .null),
  (6, .iload_n 1, 7, 0, 1, 0, .null),
  (7, .bipush 126, 9, 0, 0, 0, .int 126),
  (9, .if_icmp .le 13, 12, 0, 22, 0, .null),
  (12, .new 33, 15, 0, 0, 0, .null),
  (15, .dup, 16, 0, 0, 0, .null),
  (18, .invokespecial 37, 21, 0, 0, 0, .null),
  (21, .athrow, 22, 0, 0, 0, .null),
  (22, .aload_n 0, 23, 0, 0, 0, .null),
  (23, .getfield 29, 26, 242, 4, 5, .null),
  (26, .getfield 147, 29, 218, 2, 0, .null),
  (29, .bipush 60, 31, 0, 0, 0, .int 60),
  (31, .if_icmp .lt 13, 34, 0, 44, 0, .null),
  (34, .new 44, 37, 0, 0, 0, .null),
  (37, .dup, 38, 0, 0, 0, .null),
  (40, .invokespecial 48, 43, 0, 0, 0, .null),
  (43, .athrow, 44, 0, 0, 0, .null),
  (44, .aload_n 0, 45, 0, 0, 0, .null),
  (45, .getfield 29, 48, 242, 4, 5, .null),
  (48, .getfield 152, 51, 220, 2, 1, .null),
  (51, .aload_n 0, 52, 0, 0, 0, .null),
  (52, .getfield 29, 55, 242, 4, 5, .null),
  (55, .getfield 147, 58, 218, 2, 0, .null),
  (58, .iload_n 1, 59, 0, 1, 0, .null),
  (59, .iastore, 60, 0, 0, 0, .null),
  (60, .aload_n 0, 61, 0, 0, 0, .null),
  (61, .getfield 29, 64, 242, 4, 5, .null),
  (64, .dup, 65, 0, 0, 0, .null),
  (65, .getfield 147, 68, 218, 2, 0, .null),
  (68, .iconst 1, 69, 0, 0, 0, .int 1),
  (69, .iadd, 70, 0, 0, 0, .null),
  (70, .putfield 147, 73, 218, 2, 0, .null),
  (73, .aload_n 0, 74, 0, 0, 0, .null),
  (74, .getfield 29, 77, 242, 4, 5, .null),
  (77, .getfield 147, 80, 218, 2, 0, .null),
  (80, .ireturn, 81, 0, 0, 0, .null)]
def mm_X4_append : ev_M := (RX4, "append", cX4_append, 2, (some .int), tb_X4_append, 6, 160, 0, 0)
set_option maxRecDepth 100000 in
theorem ok_X4_append : ev_OK mm_X4_append := by unfold ev_OK; decide +kernel
theorem cv_X4_append : ev_CV yX4_append mm_X4_append 4 1 := ⟨ev_has_in (k := 774) (by decide +kernel), ev_has_in (k := 84) (by decide +kernel), ev_has_in (k := 772) (by decide +kernel), ev_has_in (k := 773) (by decide +kernel), ⟨by decide +kernel, by decide +kernel, by decide +kernel⟩, rfl, by decide⟩
def tb_X4_clearBuffer : ev_T := [(0, .aload_n 0, 1, 0, 0, 0, .null),
  (1, .getfield 29, 4, 242, 4, 5, .null),
  (4, .getfield 147, 7, 218, 2, 0, .null),
  (7, .istore_n 1, 8, 0, 1, 0, .null),
  (8, .aload_n 0, 9, 0, 0, 0, .null),
  (9, .getfield 29, 12, 242, 4, 5, .null),
  (12, .iconst 0, 13, 0, 0, 0, .int 0),
  (13, .putfield 147, 16, 218, 2, 0, .null),
  (16, .iload_n 1, 17, 0, 1, 0, .null),
  (17, .ireturn, 18, 0, 0, 0, .null)]
def mm_X4_clearBuffer : ev_M := (RX4, "clearBuffer", cX4_clearBuffer, 2, (some .int), tb_X4_clearBuffer, 0, 0, 0, 0)
set_option maxRecDepth 100000 in
theorem ok_X4_clearBuffer : ev_OK mm_X4_clearBuffer := by unfold ev_OK; decide +kernel
theorem cv_X4_clearBuffer : ev_CV yX4_clearBuffer mm_X4_clearBuffer 4 0 := ⟨ev_has_in (k := 406) (by decide +kernel), ev_has_in (k := 84) (by decide +kernel), ev_has_in (k := 404) (by decide +kernel), ev_has_in (k := 405) (by decide +kernel), ⟨by decide +kernel, by decide +kernel, by decide +kernel⟩, rfl, by decide⟩
def tb_X4_firstError : ev_T := [(0, .aload_n 0, 1, 0, 0, 0, .null),
  (1, .getfield 29, 4, 242, 4, 5, .null),
  (4, .invokevirtual 155, 7, 0, 0, 0, .null),
  (7, .ireturn, 8, 0, 0, 0, .null)]
def mm_X4_firstError : ev_M := (RX4, "firstError", cX4_firstError, 1, (some .int), tb_X4_firstError, 4, 88, 0, 0)
set_option maxRecDepth 100000 in
theorem ok_X4_firstError : ev_OK mm_X4_firstError := by unfold ev_OK; decide +kernel
theorem cv_X4_firstError : ev_CV yX4_firstError mm_X4_firstError 4 0 := ⟨ev_has_in (k := 410) (by decide +kernel), ev_has_in (k := 84) (by decide +kernel), ev_has_in (k := 408) (by decide +kernel), ev_has_in (k := 409) (by decide +kernel), ⟨by decide +kernel, by decide +kernel, by decide +kernel⟩, rfl, by decide⟩
def tb_X4_run : ev_T := [(0, .aload_n 0, 1, 0, 0, 0, .null),
  (1, .getfield 29, 4, 242, 4, 5, .null),
  (4, .invokevirtual 158, 7, 0, 0, 0, .null),
  (7, .ifCond .ne 13, 10, 0, 20, 0, .null),
  (10, .new 33, 13, 0, 0, 0, .null),
  (13, .dup, 14, 0, 0, 0, .null),
  (16, .invokespecial 37, 19, 0, 0, 0, .null),
  (19, .athrow, 20, 0, 0, 0, .null),
  (20, .aload_n 0, 21, 0, 0, 0, .null),
  (21, .invokevirtual 49, 24, 0, 0, 0, .null),
  (24, .aload_n 0, 25, 0, 0, 0, .null),
  (25, .getfield 29, 28, 242, 4, 5, .null),
  (28, .invokevirtual 164, 31, 0, 0, 0, .null),
  (31, .iconst 0, 32, 0, 0, 0, .int 0),
  (32, .istore_n 1, 33, 0, 1, 0, .null),
  (33, .iload_n 1, 34, 0, 1, 0, .null),
  (34, .bipush 60, 36, 0, 0, 0, .int 60),
  (36, .if_icmp .ge 26, 39, 0, 62, 0, .null),
  (39, .aload_n 0, 40, 0, 0, 0, .null),
  (40, .getfield 29, 43, 242, 4, 5, .null),
  (43, .invokevirtual 167, 46, 0, 0, 0, .null),
  (46, .ifCond .eq 16, 49, 0, 62, 0, .null),
  (49, .aload_n 0, 50, 0, 0, 0, .null),
  (50, .invokevirtual 170, 53, 0, 0, 0, .null),
  (53, .ifCond .eq 9, 56, 0, 62, 0, .null),
  (56, .iinc 1 1, 59, 0, 1, 0, .int 1),
  (59, .goto (-26), 62, 0, 33, 0, .null),
  (62, .aload_n 0, 63, 0, 0, 0, .null),
  (63, .getfield 29, 66, 242, 4, 5, .null),
  (66, .iconst 0, 67, 0, 0, 0, .int 0),
  (67, .putfield 147, 70, 218, 2, 0, .null),
  (70, .iload_n 1, 71, 0, 1, 0, .null),
  (71, .ireturn, 72, 0, 0, 0, .null)]
def mm_X4_run : ev_M := (RX4, "run", cX4_run, 2, (some .int), tb_X4_run, 7, 209, 0, 0)
set_option maxRecDepth 100000 in
theorem ok_X4_run : ev_OK mm_X4_run := by unfold ev_OK; decide +kernel
theorem cv_X4_run : ev_CV yX4_run mm_X4_run 4 0 := ⟨ev_has_in (k := 783) (by decide +kernel), ev_has_in (k := 84) (by decide +kernel), ev_has_in (k := 781) (by decide +kernel), ev_has_in (k := 782) (by decide +kernel), ⟨by decide +kernel, by decide +kernel, by decide +kernel⟩, rfl, by decide⟩
def tb_X4_undo : ev_T := [(0, .aload_n 0, 1, 0, 0, 0, .null),
  (1, .getfield 173, 4, 241, 4, 4, .null),
  (4, .ifCond .gt 13, 7, 0, 17, 0, .null),
  (7, .new 44, 10, 0, 0, 0, .null),
  (10, .dup, 11, 0, 0, 0, .null),
  (13, .invokespecial 48, 16, 0, 0, 0, .null),
  (16, .athrow, 17, 0, 0, 0, .null),
  (17, .aload_n 0, 18, 0, 0, 0, .null),
  (18, .dup, 19, 0, 0, 0, .null),
  (19, .getfield 173, 22, 241, 4, 4, .null),
  (22, .iconst 1, 23, 0, 0, 0, .int 1),
  (23, .isub, 24, 0, 0, 0, .null),
  (24, .putfield 173, 27, 241, 4, 4, .null),
  (27, .aload_n 0, 28, 0, 0, 0, .null),
  (28, .getfield 12, 31, 237, 4, 0, .null),
  (31, .aload_n 0, 32, 0, 0, 0, .null),
  (32, .getfield 22, 35, 240, 4, 3, .null),
  (35, .aload_n 0, 36, 0, 0, 0, .null),
  (36, .getfield 173, 39, 241, 4, 4, .null),
  (39, .aaload, 40, 0, 0, 0, .null),
  (40, .invokevirtual 178, 43, 0, 0, 0, .null),
  (43, .aload_n 0, 44, 0, 0, 0, .null),
  (44, .getfield 173, 47, 241, 4, 4, .null),
  (47, .ireturn, 48, 0, 0, 0, .null)]
def mm_X4_undo : ev_M := (RX4, "undo", cX4_undo, 1, (some .int), tb_X4_undo, 6, 160, 0, 0)
set_option maxRecDepth 100000 in
theorem ok_X4_undo : ev_OK mm_X4_undo := by unfold ev_OK; decide +kernel
theorem cv_X4_undo : ev_CV yX4_undo mm_X4_undo 4 0 := ⟨ev_has_in (k := 815) (by decide +kernel), ev_has_in (k := 84) (by decide +kernel), ev_has_in (k := 813) (by decide +kernel), ev_has_in (k := 814) (by decide +kernel), ⟨by decide +kernel, by decide +kernel, by decide +kernel⟩, rfl, by decide⟩
def tb_X4_thing : ev_T := [(0, .aload_n 0, 1, 0, 0, 0, .null),
  (1, .iload_n 1, 2, 0, 1, 0, .null),
  (2, .invokevirtual 77, 5, 0, 0, 0, .null),
  (5, .ifCond .ne 13, 8, 0, 18, 0, .null),
  (8, .new 63, 11, 0, 0, 0, .null),
  (11, .dup, 12, 0, 0, 0, .null),
  (14, .invokespecial 67, 17, 0, 0, 0, .null),
  (17, .athrow, 18, 0, 0, 0, .null),
  (18, .iload_n 2, 19, 0, 2, 0, .null),
  (19, .ifCond .lt 9, 22, 0, 28, 0, .null),
  (22, .iload_n 2, 23, 0, 2, 0, .null),
  (23, .bipush 13, 25, 0, 0, 0, .int 13),
  (25, .if_icmp .lt 13, 28, 0, 38, 0, .null),
  (28, .new 33, 31, 0, 0, 0, .null),
  (31, .dup, 32, 0, 0, 0, .null),
  (34, .invokespecial 37, 37, 0, 0, 0, .null),
  (37, .athrow, 38, 0, 0, 0, .null),
  (38, .aload_n 0, 39, 0, 0, 0, .null),
  (39, .getfield 12, 42, 237, 4, 0, .null),
  (42, .iload_n 1, 43, 0, 1, 0, .null),
  (43, .iload_n 2, 44, 0, 2, 0, .null),
  (44, .invokevirtual 184, 47, 0, 0, 0, .null),
  (47, .ireturn, 48, 0, 0, 0, .null)]
def mm_X4_thing : ev_M := (RX4, "thing", cX4_thing, 3, (some .int), tb_X4_thing, 6, 160, 0, 0)
set_option maxRecDepth 100000 in
theorem ok_X4_thing : ev_OK mm_X4_thing := by unfold ev_OK; decide +kernel
theorem cv_X4_thing : ev_CV yX4_thing mm_X4_thing 4 2 := ⟨ev_has_in (k := 823) (by decide +kernel), ev_has_in (k := 84) (by decide +kernel), ev_has_in (k := 821) (by decide +kernel), ev_has_in (k := 822) (by decide +kernel), ⟨by decide +kernel, by decide +kernel, by decide +kernel⟩, rfl, by decide⟩
def tb_X4_slot : ev_T := [(0, .aload_n 0, 1, 0, 0, 0, .null),
  (1, .iload_n 1, 2, 0, 1, 0, .null),
  (2, .invokevirtual 77, 5, 0, 0, 0, .null),
  (5, .ifCond .eq 10, 8, 0, 15, 0, .null),
  (8, .iload_n 2, 9, 0, 2, 0, .null),
  (9, .invokestatic 80, 12, 0, 0, 0, .null),
  (12, .ifCond .ne 13, 15, 0, 25, 0, .null),
  (15, .new 63, 18, 0, 0, 0, .null),
  (18, .dup, 19, 0, 0, 0, .null),
  (21, .invokespecial 67, 24, 0, 0, 0, .null),
  (24, .athrow, 25, 0, 0, 0, .null),
  (25, .aload_n 0, 26, 0, 0, 0, .null),
  (26, .getfield 12, 29, 237, 4, 0, .null),
  (29, .getfield 189, 32, 172, 3, 15, .null),
  (32, .iload_n 1, 33, 0, 1, 0, .null),
  (33, .iload_n 2, 34, 0, 2, 0, .null),
  (34, .invokestatic 90, 37, 0, 0, 0, .null),
  (37, .invokevirtual 193, 40, 0, 0, 0, .null),
  (40, .ireturn, 41, 0, 0, 0, .null)]
def mm_X4_slot : ev_M := (RX4, "slot", cX4_slot, 3, (some .int), tb_X4_slot, 6, 160, 0, 0)
set_option maxRecDepth 100000 in
theorem ok_X4_slot : ev_OK mm_X4_slot := by unfold ev_OK; decide +kernel
theorem cv_X4_slot : ev_CV yX4_slot mm_X4_slot 4 2 := ⟨ev_has_in (k := 831) (by decide +kernel), ev_has_in (k := 84) (by decide +kernel), ev_has_in (k := 829) (by decide +kernel), ev_has_in (k := 830) (by decide +kernel), ⟨by decide +kernel, by decide +kernel, by decide +kernel⟩, rfl, by decide⟩
def tb_X4_hand : ev_T := [(0, .iload_n 1, 1, 0, 1, 0, .null),
  (1, .invokestatic 56, 4, 0, 0, 0, .null),
  (4, .ifCond .ne 13, 7, 0, 17, 0, .null),
  (7, .new 63, 10, 0, 0, 0, .null),
  (10, .dup, 11, 0, 0, 0, .null),
  (13, .invokespecial 67, 16, 0, 0, 0, .null),
  (16, .athrow, 17, 0, 0, 0, .null),
  (17, .aload_n 0, 18, 0, 0, 0, .null),
  (18, .getfield 12, 21, 237, 4, 0, .null),
  (21, .getfield 189, 24, 172, 3, 15, .null),
  (24, .iload_n 1, 25, 0, 1, 0, .null),
  (25, .invokevirtual 193, 28, 0, 0, 0, .null),
  (28, .ireturn, 29, 0, 0, 0, .null)]
def mm_X4_hand : ev_M := (RX4, "hand", cX4_hand, 2, (some .int), tb_X4_hand, 6, 160, 0, 0)
set_option maxRecDepth 100000 in
theorem ok_X4_hand : ev_OK mm_X4_hand := by unfold ev_OK; decide +kernel
theorem cv_X4_hand : ev_CV yX4_hand mm_X4_hand 4 1 := ⟨ev_has_in (k := 839) (by decide +kernel), ev_has_in (k := 84) (by decide +kernel), ev_has_in (k := 837) (by decide +kernel), ev_has_in (k := 838) (by decide +kernel), ⟨by decide +kernel, by decide +kernel, by decide +kernel⟩, rfl, by decide⟩
def tb_X4_report : ev_T := [(0, .iload_n 1, 1, 0, 1, 0, .null),
  (1, .ifCond .lt 17, 4, 0, 18, 0, .null),
  (4, .iload_n 1, 5, 0, 1, 0, .null),
  (5, .aload_n 0, 6, 0, 0, 0, .null),
  (6, .getfield 12, 9, 237, 4, 0, .null),
  (9, .getfield 200, 12, 174, 3, 16, .null),
  (12, .invokevirtual 204, 15, 0, 0, 0, .null),
  (15, .if_icmp .lt 13, 18, 0, 28, 0, .null),
  (18, .new 63, 21, 0, 0, 0, .null),
  (21, .dup, 22, 0, 0, 0, .null),
  (24, .invokespecial 67, 27, 0, 0, 0, .null),
  (27, .athrow, 28, 0, 0, 0, .null),
  (28, .iload_n 2, 29, 0, 2, 0, .null),
  (29, .ifCond .lt 8, 32, 0, 37, 0, .null),
  (32, .iload_n 2, 33, 0, 2, 0, .null),
  (33, .iconst 5, 34, 0, 0, 0, .int 5),
  (34, .if_icmp .lt 13, 37, 0, 47, 0, .null),
  (37, .new 33, 40, 0, 0, 0, .null),
  (40, .dup, 41, 0, 0, 0, .null),
  (43, .invokespecial 37, 46, 0, 0, 0, .null),
  (46, .athrow, 47, 0, 0, 0, .null),
  (47, .aload_n 0, 48, 0, 0, 0, .null),
  (48, .getfield 12, 51, 237, 4, 0, .null),
  (51, .getfield 200, 54, 174, 3, 16, .null),
  (54, .iload_n 1, 55, 0, 1, 0, .null),
  (55, .iload_n 2, 56, 0, 2, 0, .null),
  (56, .invokevirtual 213, 59, 0, 0, 0, .null),
  (59, .ireturn, 60, 0, 0, 0, .null)]
def mm_X4_report : ev_M := (RX4, "report", cX4_report, 3, (some .int), tb_X4_report, 6, 160, 0, 0)
set_option maxRecDepth 100000 in
theorem ok_X4_report : ev_OK mm_X4_report := by unfold ev_OK; decide +kernel
theorem cv_X4_report : ev_CV yX4_report mm_X4_report 4 2 := ⟨ev_has_in (k := 847) (by decide +kernel), ev_has_in (k := 84) (by decide +kernel), ev_has_in (k := 845) (by decide +kernel), ev_has_in (k := 846) (by decide +kernel), ⟨by decide +kernel, by decide +kernel, by decide +kernel⟩, rfl, by decide⟩
def tb_X4_ended : ev_T := [(0, .iload_n 1, 1, 0, 1, 0, .null),
  (1, .ifCond .lt 20, 4, 0, 21, 0, .null),
  (4, .iload_n 1, 5, 0, 1, 0, .null),
  (5, .aload_n 0, 6, 0, 0, 0, .null),
  (6, .getfield 12, 9, 237, 4, 0, .null),
  (9, .getfield 216, 12, 158, 3, 5, .null),
  (12, .if_icmp .ge 9, 15, 0, 21, 0, .null),
  (15, .iload_n 1, 16, 0, 1, 0, .null),
  (16, .bipush 24, 18, 0, 0, 0, .int 24),
  (18, .if_icmp .lt 13, 21, 0, 31, 0, .null),
  (21, .new 63, 24, 0, 0, 0, .null),
  (24, .dup, 25, 0, 0, 0, .null),
  (27, .invokespecial 67, 30, 0, 0, 0, .null),
  (30, .athrow, 31, 0, 0, 0, .null),
  (31, .aload_n 0, 32, 0, 0, 0, .null),
  (32, .getfield 12, 35, 237, 4, 0, .null),
  (35, .getfield 221, 38, 170, 3, 14, .null),
  (38, .iload_n 1, 39, 0, 1, 0, .null),
  (39, .iaload, 40, 0, 0, 0, .null),
  (40, .ireturn, 41, 0, 0, 0, .null)]
def mm_X4_ended : ev_M := (RX4, "ended", cX4_ended, 2, (some .int), tb_X4_ended, 6, 160, 0, 0)
set_option maxRecDepth 100000 in
theorem ok_X4_ended : ev_OK mm_X4_ended := by unfold ev_OK; decide +kernel
theorem cv_X4_ended : ev_CV yX4_ended mm_X4_ended 4 1 := ⟨ev_has_in (k := 856) (by decide +kernel), ev_has_in (k := 84) (by decide +kernel), ev_has_in (k := 854) (by decide +kernel), ev_has_in (k := 855) (by decide +kernel), ⟨by decide +kernel, by decide +kernel, by decide +kernel⟩, rfl, by decide⟩
def tb_X4_count : ev_T := [(0, .iload_n 1, 1, 0, 1, 0, .null),
  (1, .ifCond .lt 9, 4, 0, 10, 0, .null),
  (4, .iload_n 1, 5, 0, 1, 0, .null),
  (5, .bipush 14, 7, 0, 0, 0, .int 14),
  (7, .if_icmp .lt 13, 10, 0, 20, 0, .null),
  (10, .new 33, 13, 0, 0, 0, .null),
  (13, .dup, 14, 0, 0, 0, .null),
  (16, .invokespecial 37, 19, 0, 0, 0, .null),
  (19, .athrow, 20, 0, 0, 0, .null),
  (20, .iload_n 1, 21, 0, 1, 0, .null),
  (21, .bipush 13, 23, 0, 0, 0, .int 13),
  (23, .if_icmp .ne 10, 26, 0, 33, 0, .null),
  (26, .aload_n 0, 27, 0, 0, 0, .null),
  (27, .getfield 173, 30, 241, 4, 4, .null),
  (30, .goto 11, 33, 0, 41, 0, .null),
  (33, .aload_n 0, 34, 0, 0, 0, .null),
  (34, .getfield 12, 37, 237, 4, 0, .null),
  (37, .iload_n 1, 38, 0, 1, 0, .null),
  (38, .invokevirtual 226, 41, 0, 0, 0, .null),
  (41, .ireturn, 42, 0, 0, 0, .null)]
def mm_X4_count : ev_M := (RX4, "count", cX4_count, 2, (some .int), tb_X4_count, 6, 160, 0, 0)
set_option maxRecDepth 100000 in
theorem ok_X4_count : ev_OK mm_X4_count := by unfold ev_OK; decide +kernel
theorem cv_X4_count : ev_CV yX4_count mm_X4_count 4 1 := ⟨ev_has_in (k := 476) (by decide +kernel), ev_has_in (k := 84) (by decide +kernel), ev_has_in (k := 474) (by decide +kernel), ev_has_in (k := 475) (by decide +kernel), ⟨by decide +kernel, by decide +kernel, by decide +kernel⟩, rfl, by decide⟩
def tb_X4_setting : ev_T := [(0, .iload_n 1, 1, 0, 1, 0, .null),
  (1, .invokestatic 114, 4, 0, 0, 0, .null),
  (4, .ifCond .ne 13, 7, 0, 17, 0, .null),
  (7, .new 63, 10, 0, 0, 0, .null),
  (10, .dup, 11, 0, 0, 0, .null),
  (13, .invokespecial 67, 16, 0, 0, 0, .null),
  (16, .athrow, 17, 0, 0, 0, .null),
  (17, .aload_n 0, 18, 0, 0, 0, .null),
  (18, .getfield 12, 21, 237, 4, 0, .null),
  (21, .getfield 124, 24, 161, 3, 7, .null),
  (24, .iload_n 1, 25, 0, 1, 0, .null),
  (25, .iaload, 26, 0, 0, 0, .null),
  (26, .ireturn, 27, 0, 0, 0, .null)]
def mm_X4_setting : ev_M := (RX4, "setting", cX4_setting, 2, (some .int), tb_X4_setting, 6, 160, 0, 0)
set_option maxRecDepth 100000 in
theorem ok_X4_setting : ev_OK mm_X4_setting := by unfold ev_OK; decide +kernel
theorem cv_X4_setting : ev_CV yX4_setting mm_X4_setting 4 1 := ⟨ev_has_in (k := 868) (by decide +kernel), ev_has_in (k := 84) (by decide +kernel), ev_has_in (k := 866) (by decide +kernel), ev_has_in (k := 867) (by decide +kernel), ⟨by decide +kernel, by decide +kernel, by decide +kernel⟩, rfl, by decide⟩
def tb_X4_ifPassed : ev_T := [(0, .iload_n 1, 1, 0, 1, 0, .null),
  (1, .iconst 1, 2, 0, 0, 0, .int 1),
  (2, .if_icmp .lt 18, 5, 0, 20, 0, .null),
  (5, .iload_n 1, 6, 0, 1, 0, .null),
  (6, .bipush 100, 8, 0, 0, 0, .int 100),
  (8, .if_icmp .gt 12, 11, 0, 20, 0, .null),
  (11, .iload_n 2, 12, 0, 2, 0, .null),
  (12, .ifCond .lt 8, 15, 0, 20, 0, .null),
  (15, .iload_n 2, 16, 0, 2, 0, .null),
  (16, .iconst 3, 17, 0, 0, 0, .int 3),
  (17, .if_icmp .le 13, 20, 0, 30, 0, .null),
  (20, .new 33, 23, 0, 0, 0, .null),
  (23, .dup, 24, 0, 0, 0, .null),
  (26, .invokespecial 37, 29, 0, 0, 0, .null),
  (29, .athrow, 30, 0, 0, 0, .null),
  (30, .aload_n 0, 31, 0, 0, 0, .null),
  (31, .iload_n 1, 32, 0, 1, 0, .null),
  (32, .invokevirtual 231, 35, 0, 0, 0, .null),
  (35, .aload_n 0, 36, 0, 0, 0, .null),
  (36, .iload_n 2, 37, 0, 2, 0, .null),
  (37, .invokevirtual 235, 40, 0, 0, 0, .null),
  (40, .ireturn, 41, 0, 0, 0, .null)]
def mm_X4_ifPassed : ev_M := (RX4, "ifPassed", cX4_ifPassed, 3, (some .int), tb_X4_ifPassed, 7, 207, 0, 0)
set_option maxRecDepth 100000 in
theorem ok_X4_ifPassed : ev_OK mm_X4_ifPassed := by unfold ev_OK; decide +kernel
theorem cv_X4_ifPassed : ev_CV yX4_ifPassed mm_X4_ifPassed 4 2 := ⟨ev_has_in (k := 875) (by decide +kernel), ev_has_in (k := 84) (by decide +kernel), ev_has_in (k := 873) (by decide +kernel), ev_has_in (k := 874) (by decide +kernel), ⟨by decide +kernel, by decide +kernel, by decide +kernel⟩, rfl, by decide⟩
def tb_X4_endsIn : ev_T := [(0, .aload_n 0, 1, 0, 0, 0, .null),
  (1, .iload_n 1, 2, 0, 1, 0, .null),
  (2, .invokevirtual 77, 5, 0, 0, 0, .null),
  (5, .ifCond .ne 13, 8, 0, 18, 0, .null),
  (8, .new 63, 11, 0, 0, 0, .null),
  (11, .dup, 12, 0, 0, 0, .null),
  (14, .invokespecial 67, 17, 0, 0, 0, .null),
  (17, .athrow, 18, 0, 0, 0, .null),
  (18, .aload_n 0, 19, 0, 0, 0, .null),
  (19, .sipush 200, 22, 0, 0, 0, .int 200),
  (22, .invokevirtual 231, 25, 0, 0, 0, .null),
  (25, .aload_n 0, 26, 0, 0, 0, .null),
  (26, .iload_n 1, 27, 0, 1, 0, .null),
  (27, .invokevirtual 238, 30, 0, 0, 0, .null),
  (30, .ireturn, 31, 0, 0, 0, .null)]
def mm_X4_endsIn : ev_M := (RX4, "endsIn", cX4_endsIn, 2, (some .int), tb_X4_endsIn, 7, 207, 0, 0)
set_option maxRecDepth 100000 in
theorem ok_X4_endsIn : ev_OK mm_X4_endsIn := by unfold ev_OK; decide +kernel
theorem cv_X4_endsIn : ev_CV yX4_endsIn mm_X4_endsIn 4 1 := ⟨ev_has_in (k := 883) (by decide +kernel), ev_has_in (k := 84) (by decide +kernel), ev_has_in (k := 881) (by decide +kernel), ev_has_in (k := 882) (by decide +kernel), ⟨by decide +kernel, by decide +kernel, by decide +kernel⟩, rfl, by decide⟩
def tb_X4_ifTried : ev_T := [(0, .iload_n 1, 1, 0, 1, 0, .null),
  (1, .ifCond .lt 8, 4, 0, 9, 0, .null),
  (4, .iload_n 1, 5, 0, 1, 0, .null),
  (5, .iconst 2, 6, 0, 0, 0, .int 2),
  (6, .if_icmp .le 13, 9, 0, 19, 0, .null),
  (9, .new 33, 12, 0, 0, 0, .null),
  (12, .dup, 13, 0, 0, 0, .null),
  (15, .invokespecial 37, 18, 0, 0, 0, .null),
  (18, .athrow, 19, 0, 0, 0, .null),
  (19, .aload_n 0, 20, 0, 0, 0, .null),
  (20, .invokevirtual 243, 23, 0, 0, 0, .null),
  (23, .aload_n 0, 24, 0, 0, 0, .null),
  (24, .iload_n 1, 25, 0, 1, 0, .null),
  (25, .invokevirtual 246, 28, 0, 0, 0, .null),
  (28, .ireturn, 29, 0, 0, 0, .null)]
def mm_X4_ifTried : ev_M := (RX4, "ifTried", cX4_ifTried, 2, (some .int), tb_X4_ifTried, 6, 182, 0, 0)
set_option maxRecDepth 100000 in
theorem ok_X4_ifTried : ev_OK mm_X4_ifTried := by unfold ev_OK; decide +kernel
theorem cv_X4_ifTried : ev_CV yX4_ifTried mm_X4_ifTried 4 1 := ⟨ev_has_in (k := 890) (by decide +kernel), ev_has_in (k := 84) (by decide +kernel), ev_has_in (k := 888) (by decide +kernel), ev_has_in (k := 889) (by decide +kernel), ⟨by decide +kernel, by decide +kernel, by decide +kernel⟩, rfl, by decide⟩
def tb_X4_ring : ev_T := [(0, .aload_n 0, 1, 0, 0, 0, .null),
  (1, .iload_n 1, 2, 0, 1, 0, .null),
  (2, .invokevirtual 77, 5, 0, 0, 0, .null),
  (5, .ifCond .ne 13, 8, 0, 18, 0, .null),
  (8, .new 63, 11, 0, 0, 0, .null),
  (11, .dup, 12, 0, 0, 0, .null),
  (14, .invokespecial 67, 17, 0, 0, 0, .null),
  (17, .athrow, 18, 0, 0, 0, .null),
  (18, .aload_n 0, 19, 0, 0, 0, .null),
  (19, .getfield 12, 22, 237, 4, 0, .null),
  (22, .getfield 189, 25, 172, 3, 15, .null),
  (25, .iload_n 1, 26, 0, 1, 0, .null),
  (26, .invokevirtual 249, 29, 0, 0, 0, .null),
  (29, .ireturn, 30, 0, 0, 0, .null)]
def mm_X4_ring : ev_M := (RX4, "ring", cX4_ring, 2, (some .int), tb_X4_ring, 6, 160, 0, 0)
set_option maxRecDepth 100000 in
theorem ok_X4_ring : ev_OK mm_X4_ring := by unfold ev_OK; decide +kernel
theorem cv_X4_ring : ev_CV yX4_ring mm_X4_ring 4 1 := ⟨ev_has_in (k := 898) (by decide +kernel), ev_has_in (k := 84) (by decide +kernel), ev_has_in (k := 896) (by decide +kernel), ev_has_in (k := 897) (by decide +kernel), ⟨by decide +kernel, by decide +kernel, by decide +kernel⟩, rfl, by decide⟩
def tb_X4_bestCut : ev_T := [(0, .iload_n 1, 1, 0, 1, 0, .null),
  (1, .ifCond .eq 18, 4, 0, 19, 0, .null),
  (4, .iload_n 1, 5, 0, 1, 0, .null),
  (5, .iconst 1, 6, 0, 0, 0, .int 1),
  (6, .if_icmp .eq 13, 9, 0, 19, 0, .null),
  (9, .new 33, 12, 0, 0, 0, .null),
  (12, .dup, 13, 0, 0, 0, .null),
  (15, .invokespecial 37, 18, 0, 0, 0, .null),
  (18, .athrow, 19, 0, 0, 0, .null),
  (19, .aload_n 0, 20, 0, 0, 0, .null),
  (20, .getfield 12, 23, 237, 4, 0, .null),
  (23, .getfield 189, 26, 172, 3, 15, .null),
  (26, .invokevirtual 254, 29, 0, 0, 0, .null),
  (29, .istore_n 2, 30, 0, 2, 0, .null),
  (30, .iload_n 1, 31, 0, 1, 0, .null),
  (31, .ifCond .ne 5, 34, 0, 36, 0, .null),
  (34, .iload_n 2, 35, 0, 2, 0, .null),
  (35, .ireturn, 36, 0, 0, 0, .null),
  (36, .iload_n 2, 37, 0, 2, 0, .null),
  (37, .iconst (-1), 38, 0, 0, 0, .int (-1)),
  (38, .if_icmp .ne 7, 41, 0, 45, 0, .null),
  (41, .iconst 0, 42, 0, 0, 0, .int 0),
  (42, .goto 14, 45, 0, 56, 0, .null),
  (45, .aload_n 0, 46, 0, 0, 0, .null),
  (46, .getfield 12, 49, 237, 4, 0, .null),
  (49, .getfield 189, 52, 172, 3, 15, .null),
  (52, .iload_n 2, 53, 0, 2, 0, .null),
  (53, .invokevirtual 257, 56, 0, 0, 0, .null),
  (56, .ireturn, 57, 0, 0, 0, .null)]
def mm_X4_bestCut : ev_M := (RX4, "bestCut", cX4_bestCut, 3, (some .int), tb_X4_bestCut, 6, 160, 0, 0)
set_option maxRecDepth 100000 in
theorem ok_X4_bestCut : ev_OK mm_X4_bestCut := by unfold ev_OK; decide +kernel
theorem cv_X4_bestCut : ev_CV yX4_bestCut mm_X4_bestCut 4 1 := ⟨ev_has_in (k := 905) (by decide +kernel), ev_has_in (k := 84) (by decide +kernel), ev_has_in (k := 903) (by decide +kernel), ev_has_in (k := 904) (by decide +kernel), ⟨by decide +kernel, by decide +kernel, by decide +kernel⟩, rfl, by decide⟩
def tb_X4_bears : ev_T := [(0, .aload_n 0, 1, 0, 0, 0, .null),
  (1, .iload_n 1, 2, 0, 1, 0, .null),
  (2, .invokevirtual 77, 5, 0, 0, 0, .null),
  (5, .ifCond .ne 13, 8, 0, 18, 0, .null),
  (8, .new 63, 11, 0, 0, 0, .null),
  (11, .dup, 12, 0, 0, 0, .null),
  (14, .invokespecial 67, 17, 0, 0, 0, .null),
  (17, .athrow, 18, 0, 0, 0, .null),
  (18, .aload_n 0, 19, 0, 0, 0, .null),
  (19, .iload_n 1, 20, 0, 1, 0, .null),
  (20, .invokevirtual 260, 23, 0, 0, 0, .null),
  (23, .ireturn, 24, 0, 0, 0, .null)]
def mm_X4_bears : ev_M := (RX4, "bears", cX4_bears, 2, (some .int), tb_X4_bears, 7, 208, 0, 0)
set_option maxRecDepth 100000 in
theorem ok_X4_bears : ev_OK mm_X4_bears := by unfold ev_OK; decide +kernel
theorem cv_X4_bears : ev_CV yX4_bears mm_X4_bears 4 1 := ⟨ev_has_in (k := 913) (by decide +kernel), ev_has_in (k := 84) (by decide +kernel), ev_has_in (k := 911) (by decide +kernel), ev_has_in (k := 912) (by decide +kernel), ⟨by decide +kernel, by decide +kernel, by decide +kernel⟩, rfl, by decide⟩
def tb_X4_reachedShare : ev_T := [(0, .aload_n 0, 1, 0, 0, 0, .null),
  (1, .getfield 12, 4, 237, 4, 0, .null),
  (4, .iconst 2, 5, 0, 0, 0, .int 2),
  (5, .invokevirtual 226, 8, 0, 0, 0, .null),
  (8, .istore_n 1, 9, 0, 1, 0, .null),
  (9, .iload_n 1, 10, 0, 1, 0, .null),
  (10, .ifCond .ne 7, 13, 0, 17, 0, .null),
  (13, .dconst 0, 14, 0, 0, 0, .double FP.dconst0),
  (14, .goto 15, 17, 0, 29, 0, .null),
  (17, .aload_n 0, 18, 0, 0, 0, .null),
  (18, .getfield 12, 21, 237, 4, 0, .null),
  (21, .iconst 3, 22, 0, 0, 0, .int 3),
  (22, .invokevirtual 226, 25, 0, 0, 0, .null),
  (25, .i2d, 26, 0, 0, 0, .null),
  (26, .iload_n 1, 27, 0, 1, 0, .null),
  (27, .i2d, 28, 0, 0, 0, .null),
  (28, .ddiv, 29, 0, 0, 0, .null),
  (29, .dreturn, 30, 0, 0, 0, .null)]
def mm_X4_reachedShare : ev_M := (RX4, "reachedShare", cX4_reachedShare, 2, (some .double), tb_X4_reachedShare, 5, 114, 0, 0)
set_option maxRecDepth 100000 in
theorem ok_X4_reachedShare : ev_OK mm_X4_reachedShare := by unfold ev_OK; decide +kernel
theorem cv_X4_reachedShare : ev_CV yX4_reachedShare mm_X4_reachedShare 4 0 := ⟨ev_has_in (k := 433) (by decide +kernel), ev_has_in (k := 84) (by decide +kernel), ev_has_in (k := 431) (by decide +kernel), ev_has_in (k := 432) (by decide +kernel), ⟨by decide +kernel, by decide +kernel, by decide +kernel⟩, rfl, by decide⟩
def tb_X4_digest : ev_T := [(0, .ldc2_w 263, 3, 472, 0, 0, .long 2389),
  (3, .lstore_n 1, 4, 0, 1, 0, .null),
  (4, .iconst 0, 5, 0, 0, 0, .int 0),
  (5, .istore_n 3, 6, 0, 3, 0, .null),
  (6, .iload_n 3, 7, 0, 3, 0, .null),
  (7, .bipush 14, 9, 0, 0, 0, .int 14),
  (9, .if_icmp .ge 20, 12, 0, 29, 0, .null),
  (12, .lload_n 1, 13, 0, 1, 0, .null),
  (13, .aload_n 0, 14, 0, 0, 0, .null),
  (14, .iload_n 3, 15, 0, 3, 0, .null),
  (15, .invokevirtual 265, 18, 0, 0, 0, .null),
  (18, .i2l, 19, 0, 0, 0, .null),
  (19, .invokestatic 268, 22, 0, 0, 0, .null),
  (22, .lstore_n 1, 23, 0, 1, 0, .null),
  (23, .iinc 3 1, 26, 0, 3, 0, .int 1),
  (26, .goto (-20), 29, 0, 6, 0, .null),
  (29, .iconst 0, 30, 0, 0, 0, .int 0),
  (30, .istore_n 3, 31, 0, 3, 0, .null),
  (31, .iload_n 3, 32, 0, 3, 0, .null),
  (32, .iconst 5, 33, 0, 0, 0, .int 5),
  (33, .if_icmp .ge 24, 36, 0, 57, 0, .null),
  (36, .lload_n 1, 37, 0, 1, 0, .null),
  (37, .aload_n 0, 38, 0, 0, 0, .null),
  (38, .getfield 12, 41, 237, 4, 0, .null),
  (41, .getfield 124, 44, 161, 3, 7, .null),
  (44, .iload_n 3, 45, 0, 3, 0, .null),
  (45, .iaload, 46, 0, 0, 0, .null),
  (46, .i2l, 47, 0, 0, 0, .null),
  (47, .invokestatic 268, 50, 0, 0, 0, .null),
  (50, .lstore_n 1, 51, 0, 1, 0, .null),
  (51, .iinc 3 1, 54, 0, 3, 0, .int 1),
  (54, .goto (-23), 57, 0, 31, 0, .null),
  (57, .iconst 0, 58, 0, 0, 0, .int 0),
  (58, .istore_n 3, 59, 0, 3, 0, .null),
  (59, .iload_n 3, 60, 0, 3, 0, .null),
  (60, .iconst 4, 61, 0, 0, 0, .int 4),
  (61, .if_icmp .ge 26, 64, 0, 87, 0, .null),
  (64, .lload_n 1, 65, 0, 1, 0, .null),
  (65, .aload_n 0, 66, 0, 0, 0, .null),
  (66, .getfield 12, 69, 237, 4, 0, .null),
  (69, .getfield 189, 72, 172, 3, 15, .null),
  (72, .iload_n 3, 73, 0, 3, 0, .null),
  (73, .invokevirtual 193, 76, 0, 0, 0, .null),
  (76, .i2l, 77, 0, 0, 0, .null),
  (77, .invokestatic 268, 80, 0, 0, 0, .null),
  (80, .lstore_n 1, 81, 0, 1, 0, .null),
  (81, .iinc 3 1, 84, 0, 3, 0, .int 1),
  (84, .goto (-25), 87, 0, 59, 0, .null),
  (87, .aload_n 0, 88, 0, 0, 0, .null),
  (88, .sipush 200, 91, 0, 0, 0, .int 200),
  (91, .invokevirtual 231, 94, 0, 0, 0, .null),
  (94, .aload_n 0, 95, 0, 0, 0, .null),
  (95, .lload_n 1, 96, 0, 1, 0, .null),
  (96, .invokevirtual 272, 99, 0, 0, 0, .null),
  (99, .lstore_n 1, 100, 0, 1, 0, .null),
  (100, .aload_n 0, 101, 0, 0, 0, .null),
  (101, .lload_n 1, 102, 0, 1, 0, .null),
  (102, .invokevirtual 276, 105, 0, 0, 0, .null),
  (105, .lstore_n 1, 106, 0, 1, 0, .null),
  (106, .aload_n 0, 107, 0, 0, 0, .null),
  (107, .bipush 20, 109, 0, 0, 0, .int 20),
  (109, .invokevirtual 231, 112, 0, 0, 0, .null),
  (112, .aload_n 0, 113, 0, 0, 0, .null),
  (113, .lload_n 1, 114, 0, 1, 0, .null),
  (114, .invokevirtual 279, 117, 0, 0, 0, .null),
  (117, .lstore_n 1, 118, 0, 1, 0, .null),
  (118, .aload_n 0, 119, 0, 0, 0, .null),
  (119, .invokevirtual 243, 122, 0, 0, 0, .null),
  (122, .aload_n 0, 123, 0, 0, 0, .null),
  (123, .lload_n 1, 124, 0, 1, 0, .null),
  (124, .invokevirtual 282, 127, 0, 0, 0, .null),
  (127, .lstore_n 1, 128, 0, 1, 0, .null),
  (128, .aload_n 0, 129, 0, 0, 0, .null),
  (129, .lload_n 1, 130, 0, 1, 0, .null),
  (130, .invokevirtual 285, 133, 0, 0, 0, .null),
  (133, .lstore_n 1, 134, 0, 1, 0, .null),
  (134, .aload_n 0, 135, 0, 0, 0, .null),
  (135, .getfield 12, 138, 237, 4, 0, .null),
  (138, .getfield 40, 141, 150, 3, 1, .null),
  (141, .ifCond .le 14, 144, 0, 155, 0, .null),
  (144, .lload_n 1, 145, 0, 1, 0, .null),
  (145, .aload_n 0, 146, 0, 0, 0, .null),
  (146, .iconst 0, 147, 0, 0, 0, .int 0),
  (147, .invokevirtual 260, 150, 0, 0, 0, .null),
  (150, .i2l, 151, 0, 0, 0, .null),
  (151, .invokestatic 268, 154, 0, 0, 0, .null),
  (154, .lstore_n 1, 155, 0, 1, 0, .null),
  (155, .lload_n 1, 156, 0, 1, 0, .null),
  (156, .aload_n 0, 157, 0, 0, 0, .null),
  (157, .invokevirtual 288, 160, 0, 0, 0, .null),
  (160, .invokestatic 292, 163, 0, 0, 0, .null),
  (163, .invokestatic 268, 166, 0, 0, 0, .null),
  (166, .lstore_n 1, 167, 0, 1, 0, .null),
  (167, .lload_n 1, 168, 0, 1, 0, .null),
  (168, .aload_n 0, 169, 0, 0, 0, .null),
  (169, .getfield 29, 172, 242, 4, 5, .null),
  (172, .getfield 147, 175, 218, 2, 0, .null),
  (175, .i2l, 176, 0, 0, 0, .null),
  (176, .invokestatic 268, 179, 0, 0, 0, .null),
  (179, .lstore_n 1, 180, 0, 1, 0, .null),
  (180, .iconst 0, 181, 0, 0, 0, .int 0),
  (181, .istore_n 3, 182, 0, 3, 0, .null),
  (182, .iload_n 3, 183, 0, 3, 0, .null),
  (183, .aload_n 0, 184, 0, 0, 0, .null),
  (184, .getfield 29, 187, 242, 4, 5, .null),
  (187, .getfield 147, 190, 218, 2, 0, .null),
  (190, .if_icmp .ge 30, 193, 0, 220, 0, .null),
  (193, .iload_n 3, 194, 0, 3, 0, .null),
  (194, .bipush 60, 196, 0, 0, 0, .int 60),
  (196, .if_icmp .ge 24, 199, 0, 220, 0, .null),
  (199, .lload_n 1, 200, 0, 1, 0, .null),
  (200, .aload_n 0, 201, 0, 0, 0, .null),
  (201, .getfield 29, 204, 242, 4, 5, .null),
  (204, .getfield 152, 207, 220, 2, 1, .null),
  (207, .iload_n 3, 208, 0, 3, 0, .null),
  (208, .iaload, 209, 0, 0, 0, .null),
  (209, .i2l, 210, 0, 0, 0, .null),
  (210, .invokestatic 268, 213, 0, 0, 0, .null),
  (213, .lstore_n 1, 214, 0, 1, 0, .null),
  (214, .iinc 3 1, 217, 0, 3, 0, .int 1),
  (217, .goto (-35), 220, 0, 182, 0, .null),
  (220, .lload_n 1, 221, 0, 1, 0, .null),
  (221, .lreturn, 222, 0, 0, 0, .null)]
def mm_X4_digest : ev_M := (RX4, "digest", cX4_digest, 4, (some .long), tb_X4_digest, 7, 208, 0, 0)
set_option maxRecDepth 100000 in
theorem ok_X4_digest : ev_OK mm_X4_digest := by unfold ev_OK; decide +kernel
theorem cv_X4_digest : ev_CV yX4_digest mm_X4_digest 4 0 := ⟨ev_has_in (k := 471) (by decide +kernel), ev_has_in (k := 84) (by decide +kernel), ev_has_in (k := 469) (by decide +kernel), ev_has_in (k := 470) (by decide +kernel), ⟨by decide +kernel, by decide +kernel, by decide +kernel⟩, rfl, by decide⟩
def tb_X4_mixed : ev_T := [(0, .ldc2_w 296, 3, 548, 0, 0, .long 31),
  (3, .lload_n 0, 4, 0, 0, 0, .null),
  (4, .lmul, 5, 0, 0, 0, .null),
  (5, .lload_n 2, 6, 0, 2, 0, .null),
  (6, .ladd, 7, 0, 0, 0, .null),
  (7, .lreturn, 8, 0, 0, 0, .null)]
def mm_X4_mixed : ev_M := (RX4, "mixed", cX4_mixed, 4, (some .long), tb_X4_mixed, 0, 0, 0, 0)
set_option maxRecDepth 100000 in
theorem ok_X4_mixed : ev_OK mm_X4_mixed := by unfold ev_OK; decide +kernel
theorem cs_X4_mixed : ev_CS yX4_mixed mm_X4_mixed 2 := ⟨ev_has_in (k := 547) (by decide +kernel), ev_has_in (k := 84) (by decide +kernel), ev_has_in (k := 546) (by decide +kernel), ⟨by decide +kernel, by decide +kernel, by decide +kernel⟩⟩
def tb_X4_withThings : ev_T := [(0, .lload_n 1, 1, 0, 1, 0, .null),
  (1, .lstore_n 3, 2, 0, 3, 0, .null),
  (2, .iconst 0, 3, 0, 0, 0, .int 0),
  (3, .istore 5, 5, 0, 5, 0, .null),
  (5, .iload 5, 7, 0, 5, 0, .null),
  (7, .aload_n 0, 8, 0, 0, 0, .null),
  (8, .getfield 12, 11, 237, 4, 0, .null),
  (11, .getfield 40, 14, 150, 3, 1, .null),
  (14, .if_icmp .ge 117, 17, 0, 131, 0, .null),
  (17, .iload 5, 19, 0, 5, 0, .null),
  (19, .bipush 24, 21, 0, 0, 0, .int 24),
  (21, .if_icmp .ge 110, 24, 0, 131, 0, .null),
  (24, .iconst 0, 25, 0, 0, 0, .int 0),
  (25, .istore 6, 27, 0, 6, 0, .null),
  (27, .iload 6, 29, 0, 6, 0, .null),
  (29, .bipush 13, 31, 0, 0, 0, .int 13),
  (31, .if_icmp .ge 26, 34, 0, 57, 0, .null),
  (34, .lload_n 3, 35, 0, 3, 0, .null),
  (35, .aload_n 0, 36, 0, 0, 0, .null),
  (36, .getfield 12, 39, 237, 4, 0, .null),
  (39, .iload 5, 41, 0, 5, 0, .null),
  (41, .iload 6, 43, 0, 6, 0, .null),
  (43, .invokevirtual 184, 46, 0, 0, 0, .null),
  (46, .i2l, 47, 0, 0, 0, .null),
  (47, .invokestatic 268, 50, 0, 0, 0, .null),
  (50, .lstore_n 3, 51, 0, 3, 0, .null),
  (51, .iinc 6 1, 54, 0, 6, 0, .int 1),
  (54, .goto (-27), 57, 0, 27, 0, .null),
  (57, .iconst 0, 58, 0, 0, 0, .int 0),
  (58, .istore 6, 60, 0, 6, 0, .null),
  (60, .iload 6, 62, 0, 6, 0, .null),
  (62, .iconst 4, 63, 0, 0, 0, .int 4),
  (63, .if_icmp .ge 32, 66, 0, 95, 0, .null),
  (66, .lload_n 3, 67, 0, 3, 0, .null),
  (67, .aload_n 0, 68, 0, 0, 0, .null),
  (68, .getfield 12, 71, 237, 4, 0, .null),
  (71, .getfield 189, 74, 172, 3, 15, .null),
  (74, .iload 5, 76, 0, 5, 0, .null),
  (76, .iload 6, 78, 0, 6, 0, .null),
  (78, .invokestatic 90, 81, 0, 0, 0, .null),
  (81, .invokevirtual 193, 84, 0, 0, 0, .null),
  (84, .i2l, 85, 0, 0, 0, .null),
  (85, .invokestatic 268, 88, 0, 0, 0, .null),
  (88, .lstore_n 3, 89, 0, 3, 0, .null),
  (89, .iinc 6 1, 92, 0, 6, 0, .int 1),
  (92, .goto (-32), 95, 0, 60, 0, .null),
  (95, .lload_n 3, 96, 0, 3, 0, .null),
  (96, .aload_n 0, 97, 0, 0, 0, .null),
  (97, .getfield 12, 100, 237, 4, 0, .null),
  (100, .getfield 189, 103, 172, 3, 15, .null),
  (103, .iload 5, 105, 0, 5, 0, .null),
  (105, .invokevirtual 249, 108, 0, 0, 0, .null),
  (108, .i2l, 109, 0, 0, 0, .null),
  (109, .invokestatic 268, 112, 0, 0, 0, .null),
  (112, .lstore_n 3, 113, 0, 3, 0, .null),
  (113, .lload_n 3, 114, 0, 3, 0, .null),
  (114, .aload_n 0, 115, 0, 0, 0, .null),
  (115, .iload 5, 117, 0, 5, 0, .null),
  (117, .invokevirtual 238, 120, 0, 0, 0, .null),
  (120, .i2l, 121, 0, 0, 0, .null),
  (121, .invokestatic 268, 124, 0, 0, 0, .null),
  (124, .lstore_n 3, 125, 0, 3, 0, .null),
  (125, .iinc 5 1, 128, 0, 5, 0, .int 1),
  (128, .goto (-123), 131, 0, 5, 0, .null),
  (131, .lload_n 3, 132, 0, 3, 0, .null),
  (132, .lreturn, 133, 0, 0, 0, .null)]
def mm_X4_withThings : ev_M := (RX4, "withThings", cX4_withThings, 7, (some .long), tb_X4_withThings, 5, 115, 0, 0)
set_option maxRecDepth 100000 in
theorem ok_X4_withThings : ev_OK mm_X4_withThings := by unfold ev_OK; decide +kernel
theorem cv_X4_withThings : ev_CV yX4_withThings mm_X4_withThings 4 1 := ⟨ev_has_in (k := 562) (by decide +kernel), ev_has_in (k := 84) (by decide +kernel), ev_has_in (k := 561) (by decide +kernel), ev_has_in (k := 15) (by decide +kernel), ⟨by decide +kernel, by decide +kernel, by decide +kernel⟩, rfl, by decide⟩
def tb_X4_withReportsAndEnds : ev_T := [(0, .lload_n 1, 1, 0, 1, 0, .null),
  (1, .lstore_n 3, 2, 0, 3, 0, .null),
  (2, .iconst 0, 3, 0, 0, 0, .int 0),
  (3, .istore 5, 5, 0, 5, 0, .null),
  (5, .iload 5, 7, 0, 5, 0, .null),
  (7, .aload_n 0, 8, 0, 0, 0, .null),
  (8, .getfield 12, 11, 237, 4, 0, .null),
  (11, .getfield 200, 14, 174, 3, 16, .null),
  (14, .invokevirtual 204, 17, 0, 0, 0, .null),
  (17, .if_icmp .ge 44, 20, 0, 61, 0, .null),
  (20, .iconst 0, 21, 0, 0, 0, .int 0),
  (21, .istore 6, 23, 0, 6, 0, .null),
  (23, .iload 6, 25, 0, 6, 0, .null),
  (25, .iconst 5, 26, 0, 0, 0, .int 5),
  (26, .if_icmp .ge 29, 29, 0, 55, 0, .null),
  (29, .lload_n 3, 30, 0, 3, 0, .null),
  (30, .aload_n 0, 31, 0, 0, 0, .null),
  (31, .getfield 12, 34, 237, 4, 0, .null),
  (34, .getfield 200, 37, 174, 3, 16, .null),
  (37, .iload 5, 39, 0, 5, 0, .null),
  (39, .iload 6, 41, 0, 6, 0, .null),
  (41, .invokevirtual 213, 44, 0, 0, 0, .null),
  (44, .i2l, 45, 0, 0, 0, .null),
  (45, .invokestatic 268, 48, 0, 0, 0, .null),
  (48, .lstore_n 3, 49, 0, 3, 0, .null),
  (49, .iinc 6 1, 52, 0, 6, 0, .int 1),
  (52, .goto (-29), 55, 0, 23, 0, .null),
  (55, .iinc 5 1, 58, 0, 5, 0, .int 1),
  (58, .goto (-53), 61, 0, 5, 0, .null),
  (61, .iconst 0, 62, 0, 0, 0, .int 0),
  (62, .istore 5, 64, 0, 5, 0, .null),
  (64, .iload 5, 66, 0, 5, 0, .null),
  (66, .aload_n 0, 67, 0, 0, 0, .null),
  (67, .getfield 12, 70, 237, 4, 0, .null),
  (70, .getfield 216, 73, 158, 3, 5, .null),
  (73, .if_icmp .ge 32, 76, 0, 105, 0, .null),
  (76, .iload 5, 78, 0, 5, 0, .null),
  (78, .bipush 24, 80, 0, 0, 0, .int 24),
  (80, .if_icmp .ge 25, 83, 0, 105, 0, .null),
  (83, .lload_n 3, 84, 0, 3, 0, .null),
  (84, .aload_n 0, 85, 0, 0, 0, .null),
  (85, .getfield 12, 88, 237, 4, 0, .null),
  (88, .getfield 221, 91, 170, 3, 14, .null),
  (91, .iload 5, 93, 0, 5, 0, .null),
  (93, .iaload, 94, 0, 0, 0, .null),
  (94, .i2l, 95, 0, 0, 0, .null),
  (95, .invokestatic 268, 98, 0, 0, 0, .null),
  (98, .lstore_n 3, 99, 0, 3, 0, .null),
  (99, .iinc 5 1, 102, 0, 5, 0, .int 1),
  (102, .goto (-38), 105, 0, 64, 0, .null),
  (105, .lload_n 3, 106, 0, 3, 0, .null),
  (106, .lreturn, 107, 0, 0, 0, .null)]
def mm_X4_withReportsAndEnds : ev_M := (RX4, "withReportsAndEnds", cX4_withReportsAndEnds, 7, (some .long), tb_X4_withReportsAndEnds, 1, 23, 0, 0)
set_option maxRecDepth 100000 in
theorem ok_X4_withReportsAndEnds : ev_OK mm_X4_withReportsAndEnds := by unfold ev_OK; decide +kernel
theorem cv_X4_withReportsAndEnds : ev_CV yX4_withReportsAndEnds mm_X4_withReportsAndEnds 4 1 := ⟨ev_has_in (k := 585) (by decide +kernel), ev_has_in (k := 84) (by decide +kernel), ev_has_in (k := 584) (by decide +kernel), ev_has_in (k := 17) (by decide +kernel), ⟨by decide +kernel, by decide +kernel, by decide +kernel⟩, rfl, by decide⟩
def tb_X4_withPassed : ev_T := [(0, .lload_n 1, 1, 0, 1, 0, .null),
  (1, .lstore_n 3, 2, 0, 3, 0, .null),
  (2, .iconst 0, 3, 0, 0, 0, .int 0),
  (3, .istore 5, 5, 0, 5, 0, .null),
  (5, .iload 5, 7, 0, 5, 0, .null),
  (7, .iconst 3, 8, 0, 0, 0, .int 3),
  (8, .if_icmp .gt 21, 11, 0, 29, 0, .null),
  (11, .lload_n 3, 12, 0, 3, 0, .null),
  (12, .aload_n 0, 13, 0, 0, 0, .null),
  (13, .iload 5, 15, 0, 5, 0, .null),
  (15, .invokevirtual 235, 18, 0, 0, 0, .null),
  (18, .i2l, 19, 0, 0, 0, .null),
  (19, .invokestatic 268, 22, 0, 0, 0, .null),
  (22, .lstore_n 3, 23, 0, 3, 0, .null),
  (23, .iinc 5 1, 26, 0, 5, 0, .int 1),
  (26, .goto (-21), 29, 0, 5, 0, .null),
  (29, .lload_n 3, 30, 0, 3, 0, .null),
  (30, .lreturn, 31, 0, 0, 0, .null)]
def mm_X4_withPassed : ev_M := (RX4, "withPassed", cX4_withPassed, 6, (some .long), tb_X4_withPassed, 5, 114, 0, 0)
set_option maxRecDepth 100000 in
theorem ok_X4_withPassed : ev_OK mm_X4_withPassed := by unfold ev_OK; decide +kernel
theorem cv_X4_withPassed : ev_CV yX4_withPassed mm_X4_withPassed 4 1 := ⟨ev_has_in (k := 591) (by decide +kernel), ev_has_in (k := 84) (by decide +kernel), ev_has_in (k := 590) (by decide +kernel), ev_has_in (k := 18) (by decide +kernel), ⟨by decide +kernel, by decide +kernel, by decide +kernel⟩, rfl, by decide⟩
def tb_X4_withTried : ev_T := [(0, .lload_n 1, 1, 0, 1, 0, .null),
  (1, .lstore_n 3, 2, 0, 3, 0, .null),
  (2, .iconst 0, 3, 0, 0, 0, .int 0),
  (3, .istore 5, 5, 0, 5, 0, .null),
  (5, .iload 5, 7, 0, 5, 0, .null),
  (7, .iconst 2, 8, 0, 0, 0, .int 2),
  (8, .if_icmp .gt 21, 11, 0, 29, 0, .null),
  (11, .lload_n 3, 12, 0, 3, 0, .null),
  (12, .aload_n 0, 13, 0, 0, 0, .null),
  (13, .iload 5, 15, 0, 5, 0, .null),
  (15, .invokevirtual 246, 18, 0, 0, 0, .null),
  (18, .i2l, 19, 0, 0, 0, .null),
  (19, .invokestatic 268, 22, 0, 0, 0, .null),
  (22, .lstore_n 3, 23, 0, 3, 0, .null),
  (23, .iinc 5 1, 26, 0, 5, 0, .int 1),
  (26, .goto (-21), 29, 0, 5, 0, .null),
  (29, .lload_n 3, 30, 0, 3, 0, .null),
  (30, .lreturn, 31, 0, 0, 0, .null)]
def mm_X4_withTried : ev_M := (RX4, "withTried", cX4_withTried, 6, (some .long), tb_X4_withTried, 2, 41, 0, 0)
set_option maxRecDepth 100000 in
theorem ok_X4_withTried : ev_OK mm_X4_withTried := by unfold ev_OK; decide +kernel
theorem cv_X4_withTried : ev_CV yX4_withTried mm_X4_withTried 4 1 := ⟨ev_has_in (k := 605) (by decide +kernel), ev_has_in (k := 84) (by decide +kernel), ev_has_in (k := 604) (by decide +kernel), ev_has_in (k := 21) (by decide +kernel), ⟨by decide +kernel, by decide +kernel, by decide +kernel⟩, rfl, by decide⟩
def tb_X4_withBestCut : ev_T := [(0, .aload_n 0, 1, 0, 0, 0, .null),
  (1, .getfield 12, 4, 237, 4, 0, .null),
  (4, .getfield 189, 7, 172, 3, 15, .null),
  (7, .invokevirtual 254, 10, 0, 0, 0, .null),
  (10, .istore_n 3, 11, 0, 3, 0, .null),
  (11, .lload_n 1, 12, 0, 1, 0, .null),
  (12, .iload_n 3, 13, 0, 3, 0, .null),
  (13, .i2l, 14, 0, 0, 0, .null),
  (14, .invokestatic 268, 17, 0, 0, 0, .null),
  (17, .lstore 4, 19, 0, 4, 0, .null),
  (19, .lload 4, 21, 0, 4, 0, .null),
  (21, .iload_n 3, 22, 0, 3, 0, .null),
  (22, .iconst (-1), 23, 0, 0, 0, .int (-1)),
  (23, .if_icmp .ne 7, 26, 0, 30, 0, .null),
  (26, .lconst 0, 27, 0, 0, 0, .long 0),
  (27, .goto 15, 30, 0, 42, 0, .null),
  (30, .aload_n 0, 31, 0, 0, 0, .null),
  (31, .getfield 12, 34, 237, 4, 0, .null),
  (34, .getfield 189, 37, 172, 3, 15, .null),
  (37, .iload_n 3, 38, 0, 3, 0, .null),
  (38, .invokevirtual 257, 41, 0, 0, 0, .null),
  (41, .i2l, 42, 0, 0, 0, .null),
  (42, .invokestatic 268, 45, 0, 0, 0, .null),
  (45, .lreturn, 46, 0, 0, 0, .null)]
def mm_X4_withBestCut : ev_M := (RX4, "withBestCut", cX4_withBestCut, 6, (some .long), tb_X4_withBestCut, 6, 138, 0, 0)
set_option maxRecDepth 100000 in
theorem ok_X4_withBestCut : ev_OK mm_X4_withBestCut := by unfold ev_OK; decide +kernel
theorem cv_X4_withBestCut : ev_CV yX4_withBestCut mm_X4_withBestCut 4 1 := ⟨ev_has_in (k := 613) (by decide +kernel), ev_has_in (k := 84) (by decide +kernel), ev_has_in (k := 612) (by decide +kernel), ev_has_in (k := 23) (by decide +kernel), ⟨by decide +kernel, by decide +kernel, by decide +kernel⟩, rfl, by decide⟩
def tb_X4_bitsOf : ev_T := [(0, .dload_n 0, 1, 0, 0, 0, .null),
  (1, .dconst 0, 2, 0, 0, 0, .double FP.dconst0),
  (2, .dcmp .g, 3, 0, 0, 0, .null),
  (3, .ifCond .gt 5, 6, 0, 8, 0, .null),
  (6, .lconst 0, 7, 0, 0, 0, .long 0),
  (7, .lreturn, 8, 0, 0, 0, .null),
  (8, .dload_n 0, 9, 0, 0, 0, .null),
  (9, .dstore_n 2, 10, 0, 2, 0, .null),
  (10, .ldc2_w 298, 13, 637, 0, 0, .long 1023),
  (13, .lstore 4, 15, 0, 4, 0, .null),
  (15, .iconst 0, 16, 0, 0, 0, .int 0),
  (16, .istore 6, 18, 0, 6, 0, .null),
  (18, .iload 6, 20, 0, 6, 0, .null),
  (20, .bipush 64, 22, 0, 0, 0, .int 64),
  (22, .if_icmp .ge 27, 25, 0, 49, 0, .null),
  (25, .dload_n 2, 26, 0, 2, 0, .null),
  (26, .dconst 1, 27, 0, 0, 0, .double FP.dconst1),
  (27, .dcmp .g, 28, 0, 0, 0, .null),
  (28, .ifCond .ge 21, 31, 0, 49, 0, .null),
  (31, .dload_n 2, 32, 0, 2, 0, .null),
  (32, .ldc2_w 300, 35, 638, 0, 0, .double 4611686018427387904),
  (35, .dmul, 36, 0, 0, 0, .null),
  (36, .dstore_n 2, 37, 0, 2, 0, .null),
  (37, .lload 4, 39, 0, 4, 0, .null),
  (39, .lconst 1, 40, 0, 0, 0, .long 1),
  (40, .lsub, 41, 0, 0, 0, .null),
  (41, .lstore 4, 43, 0, 4, 0, .null),
  (43, .iinc 6 1, 46, 0, 6, 0, .int 1),
  (46, .goto (-28), 49, 0, 18, 0, .null),
  (49, .dload_n 2, 50, 0, 2, 0, .null),
  (50, .dconst 1, 51, 0, 0, 0, .double FP.dconst1),
  (51, .dsub, 52, 0, 0, 0, .null),
  (52, .ldc2_w 302, 55, 639, 0, 0, .double 4841369599423283200),
  (55, .dmul, 56, 0, 0, 0, .null),
  (56, .d2l, 57, 0, 0, 0, .null),
  (57, .lstore 6, 59, 0, 6, 0, .null),
  (59, .lload 4, 61, 0, 4, 0, .null),
  (61, .bipush 52, 63, 0, 0, 0, .int 52),
  (63, .lshl, 64, 0, 0, 0, .null),
  (64, .lload 6, 66, 0, 6, 0, .null),
  (66, .ladd, 67, 0, 0, 0, .null),
  (67, .lreturn, 68, 0, 0, 0, .null)]
def mm_X4_bitsOf : ev_M := (RX4, "bitsOf", cX4_bitsOf, 8, (some .long), tb_X4_bitsOf, 0, 0, 0, 0)
set_option maxRecDepth 100000 in
theorem ok_X4_bitsOf : ev_OK mm_X4_bitsOf := by unfold ev_OK; decide +kernel
theorem cs_X4_bitsOf : ev_CS yX4_bitsOf mm_X4_bitsOf 1 := ⟨ev_has_in (k := 636) (by decide +kernel), ev_has_in (k := 84) (by decide +kernel), ev_has_in (k := 635) (by decide +kernel), ⟨by decide +kernel, by decide +kernel, by decide +kernel⟩⟩
def tb_X4_foresee : ev_T := [(0, .aload_n 0, 1, 0, 0, 0, .null),
  (1, .getfield 16, 4, 238, 4, 1, .null),
  (4, .aload_n 0, 5, 0, 0, 0, .null),
  (5, .getfield 12, 8, 237, 4, 0, .null),
  (8, .invokevirtual 178, 11, 0, 0, 0, .null),
  (11, .aload_n 0, 12, 0, 0, 0, .null),
  (12, .getfield 16, 15, 238, 4, 1, .null),
  (15, .iload_n 1, 16, 0, 1, 0, .null),
  (16, .invokevirtual 135, 19, 0, 0, 0, .null),
  (19, .pop, 20, 0, 0, 0, .null),
  (20, .return_, 21, 0, 0, 0, .null)]
def mm_X4_foresee : ev_M := (RX4, "foresee", cX4_foresee, 2, none, tb_X4_foresee, 6, 186, 0, 0)
set_option maxRecDepth 100000 in
theorem ok_X4_foresee : ev_OK mm_X4_foresee := by unfold ev_OK; decide +kernel
theorem cv_X4_foresee : ev_CV yX4_foresee mm_X4_foresee 4 1 := ⟨ev_has_in (k := 553) (by decide +kernel), ev_has_in (k := 84) (by decide +kernel), ev_has_in (k := 552) (by decide +kernel), ev_has_in (k := 14) (by decide +kernel), ⟨by decide +kernel, by decide +kernel, by decide +kernel⟩, rfl, by decide⟩
def tb_X4_passedPart : ev_T := [(0, .iload_n 1, 1, 0, 1, 0, .null),
  (1, .tableswitch 76 0 2 #[27, 43, 65], 28, 0, 27, 1, .null),
  (28, .aload_n 0, 29, 0, 0, 0, .null),
  (29, .getfield 16, 32, 238, 4, 1, .null),
  (32, .getfield 216, 35, 158, 3, 5, .null),
  (35, .aload_n 0, 36, 0, 0, 0, .null),
  (36, .getfield 12, 39, 237, 4, 0, .null),
  (39, .getfield 216, 42, 158, 3, 5, .null),
  (42, .isub, 43, 0, 0, 0, .null),
  (43, .ireturn, 44, 0, 0, 0, .null),
  (44, .aload_n 0, 45, 0, 0, 0, .null),
  (45, .getfield 16, 48, 238, 4, 1, .null),
  (48, .getfield 304, 51, 156, 3, 4, .null),
  (51, .invokestatic 109, 54, 0, 0, 0, .null),
  (54, .aload_n 0, 55, 0, 0, 0, .null),
  (55, .getfield 12, 58, 237, 4, 0, .null),
  (58, .getfield 304, 61, 156, 3, 4, .null),
  (61, .invokestatic 109, 64, 0, 0, 0, .null),
  (64, .isub, 65, 0, 0, 0, .null),
  (65, .ireturn, 66, 0, 0, 0, .null),
  (66, .aload_n 0, 67, 0, 0, 0, .null),
  (67, .getfield 16, 70, 238, 4, 1, .null),
  (70, .getfield 200, 73, 174, 3, 16, .null),
  (73, .invokevirtual 204, 76, 0, 0, 0, .null),
  (76, .ireturn, 77, 0, 0, 0, .null),
  (77, .aload_n 0, 78, 0, 0, 0, .null),
  (78, .getfield 16, 81, 238, 4, 1, .null),
  (81, .getfield 307, 84, 152, 3, 2, .null),
  (84, .aload_n 0, 85, 0, 0, 0, .null),
  (85, .getfield 16, 88, 238, 4, 1, .null),
  (88, .getfield 189, 91, 172, 3, 15, .null),
  (91, .invokevirtual 310, 94, 0, 0, 0, .null),
  (94, .iconst (-1), 95, 0, 0, 0, .int (-1)),
  (95, .ixor, 96, 0, 0, 0, .null),
  (96, .iand, 97, 0, 0, 0, .null),
  (97, .invokestatic 109, 100, 0, 0, 0, .null),
  (100, .ireturn, 101, 0, 0, 0, .null)]
def mm_X4_passedPart : ev_M := (RX4, "passedPart", cX4_passedPart, 2, (some .int), tb_X4_passedPart, 4, 93, 0, 0)
set_option maxRecDepth 100000 in
theorem ok_X4_passedPart : ev_OK mm_X4_passedPart := by unfold ev_OK; decide +kernel
theorem cv_X4_passedPart : ev_CV yX4_passedPart mm_X4_passedPart 4 1 := ⟨ev_has_in (k := 595) (by decide +kernel), ev_has_in (k := 84) (by decide +kernel), ev_has_in (k := 594) (by decide +kernel), ev_has_in (k := 19) (by decide +kernel), ⟨by decide +kernel, by decide +kernel, by decide +kernel⟩, rfl, by decide⟩
def tb_X4_foreseenEnd : ev_T := [(0, .aload_n 0, 1, 0, 0, 0, .null),
  (1, .getfield 12, 4, 237, 4, 0, .null),
  (4, .iload_n 1, 5, 0, 1, 0, .null),
  (5, .invokevirtual 85, 8, 0, 0, 0, .null),
  (8, .ifCond .ne 5, 11, 0, 13, 0, .null),
  (11, .iconst 0, 12, 0, 0, 0, .int 0),
  (12, .ireturn, 13, 0, 0, 0, .null),
  (13, .aload_n 0, 14, 0, 0, 0, .null),
  (14, .getfield 16, 17, 238, 4, 1, .null),
  (17, .iload_n 1, 18, 0, 1, 0, .null),
  (18, .invokevirtual 85, 21, 0, 0, 0, .null),
  (21, .ifCond .eq 7, 24, 0, 28, 0, .null),
  (24, .iconst (-1), 25, 0, 0, 0, .int (-1)),
  (25, .goto 20, 28, 0, 45, 0, .null),
  (28, .aload_n 0, 29, 0, 0, 0, .null),
  (29, .getfield 16, 32, 238, 4, 1, .null),
  (32, .getfield 313, 35, 167, 3, 12, .null),
  (35, .iload_n 1, 36, 0, 1, 0, .null),
  (36, .iaload, 37, 0, 0, 0, .null),
  (37, .aload_n 0, 38, 0, 0, 0, .null),
  (38, .getfield 12, 41, 237, 4, 0, .null),
  (41, .getfield 130, 44, 148, 3, 0, .null),
  (44, .isub, 45, 0, 0, 0, .null),
  (45, .ireturn, 46, 0, 0, 0, .null)]
def mm_X4_foreseenEnd : ev_M := (RX4, "foreseenEnd", cX4_foreseenEnd, 2, (some .int), tb_X4_foreseenEnd, 2, 42, 0, 0)
set_option maxRecDepth 100000 in
theorem ok_X4_foreseenEnd : ev_OK mm_X4_foreseenEnd := by unfold ev_OK; decide +kernel
theorem cv_X4_foreseenEnd : ev_CV yX4_foreseenEnd mm_X4_foreseenEnd 4 1 := ⟨ev_has_in (k := 580) (by decide +kernel), ev_has_in (k := 84) (by decide +kernel), ev_has_in (k := 579) (by decide +kernel), ev_has_in (k := 16) (by decide +kernel), ⟨by decide +kernel, by decide +kernel, by decide +kernel⟩, rfl, by decide⟩
def tb_X4_foreseeTrial : ev_T := [(0, .aload_n 0, 1, 0, 0, 0, .null),
  (1, .getfield 16, 4, 238, 4, 1, .null),
  (4, .aload_n 0, 5, 0, 0, 0, .null),
  (5, .getfield 12, 8, 237, 4, 0, .null),
  (8, .invokevirtual 178, 11, 0, 0, 0, .null),
  (11, .aload_n 0, 12, 0, 0, 0, .null),
  (12, .getfield 16, 15, 238, 4, 1, .null),
  (15, .invokevirtual 138, 18, 0, 0, 0, .null),
  (18, .pop, 19, 0, 0, 0, .null),
  (19, .return_, 20, 0, 0, 0, .null)]
def mm_X4_foreseeTrial : ev_M := (RX4, "foreseeTrial", cX4_foreseeTrial, 1, none, tb_X4_foreseeTrial, 5, 162, 0, 0)
set_option maxRecDepth 100000 in
theorem ok_X4_foreseeTrial : ev_OK mm_X4_foreseeTrial := by unfold ev_OK; decide +kernel
theorem cv_X4_foreseeTrial : ev_CV yX4_foreseeTrial mm_X4_foreseeTrial 4 0 := ⟨ev_has_in (k := 601) (by decide +kernel), ev_has_in (k := 84) (by decide +kernel), ev_has_in (k := 600) (by decide +kernel), ev_has_in (k := 20) (by decide +kernel), ⟨by decide +kernel, by decide +kernel, by decide +kernel⟩, rfl, by decide⟩
def tb_X4_triedPart : ev_T := [(0, .iload_n 1, 1, 0, 1, 0, .null),
  (1, .lookupswitch 54 #[(0, 27), (1, 43)], 28, 0, 27, 1, .null),
  (28, .aload_n 0, 29, 0, 0, 0, .null),
  (29, .getfield 16, 32, 238, 4, 1, .null),
  (32, .getfield 216, 35, 158, 3, 5, .null),
  (35, .aload_n 0, 36, 0, 0, 0, .null),
  (36, .getfield 12, 39, 237, 4, 0, .null),
  (39, .getfield 216, 42, 158, 3, 5, .null),
  (42, .isub, 43, 0, 0, 0, .null),
  (43, .ireturn, 44, 0, 0, 0, .null),
  (44, .aload_n 0, 45, 0, 0, 0, .null),
  (45, .getfield 16, 48, 238, 4, 1, .null),
  (48, .getfield 100, 51, 154, 3, 3, .null),
  (51, .invokestatic 109, 54, 0, 0, 0, .null),
  (54, .ireturn, 55, 0, 0, 0, .null),
  (55, .aload_n 0, 56, 0, 0, 0, .null),
  (56, .getfield 16, 59, 238, 4, 1, .null),
  (59, .getfield 304, 62, 156, 3, 4, .null),
  (62, .invokestatic 109, 65, 0, 0, 0, .null),
  (65, .aload_n 0, 66, 0, 0, 0, .null),
  (66, .getfield 12, 69, 237, 4, 0, .null),
  (69, .getfield 304, 72, 156, 3, 4, .null),
  (72, .invokestatic 109, 75, 0, 0, 0, .null),
  (75, .isub, 76, 0, 0, 0, .null),
  (76, .ireturn, 77, 0, 0, 0, .null)]
def mm_X4_triedPart : ev_M := (RX4, "triedPart", cX4_triedPart, 2, (some .int), tb_X4_triedPart, 1, 20, 0, 0)
set_option maxRecDepth 100000 in
theorem ok_X4_triedPart : ev_OK mm_X4_triedPart := by unfold ev_OK; decide +kernel
theorem cv_X4_triedPart : ev_CV yX4_triedPart mm_X4_triedPart 4 1 := ⟨ev_has_in (k := 609) (by decide +kernel), ev_has_in (k := 84) (by decide +kernel), ev_has_in (k := 608) (by decide +kernel), ev_has_in (k := 22) (by decide +kernel), ⟨by decide +kernel, by decide +kernel, by decide +kernel⟩, rfl, by decide⟩
def tb_X4_slandersToEnd : ev_T := [(0, .aload_n 0, 1, 0, 0, 0, .null),
  (1, .getfield 19, 4, 239, 4, 2, .null),
  (4, .aload_n 0, 5, 0, 0, 0, .null),
  (5, .getfield 12, 8, 237, 4, 0, .null),
  (8, .invokevirtual 178, 11, 0, 0, 0, .null),
  (11, .iconst 0, 12, 0, 0, 0, .int 0),
  (12, .istore_n 2, 13, 0, 2, 0, .null),
  (13, .iload_n 2, 14, 0, 2, 0, .null),
  (14, .bipush 12, 16, 0, 0, 0, .int 12),
  (16, .if_icmp .gt 53, 19, 0, 69, 0, .null),
  (19, .aload_n 0, 20, 0, 0, 0, .null),
  (20, .getfield 16, 23, 238, 4, 1, .null),
  (23, .aload_n 0, 24, 0, 0, 0, .null),
  (24, .getfield 19, 27, 239, 4, 2, .null),
  (27, .invokevirtual 178, 30, 0, 0, 0, .null),
  (30, .aload_n 0, 31, 0, 0, 0, .null),
  (31, .getfield 16, 34, 238, 4, 1, .null),
  (34, .bipush 30, 36, 0, 0, 0, .int 30),
  (36, .invokevirtual 135, 39, 0, 0, 0, .null),
  (39, .pop, 40, 0, 0, 0, .null),
  (40, .aload_n 0, 41, 0, 0, 0, .null),
  (41, .getfield 16, 44, 238, 4, 1, .null),
  (44, .iload_n 1, 45, 0, 1, 0, .null),
  (45, .invokevirtual 85, 48, 0, 0, 0, .null),
  (48, .ifCond .ne 5, 51, 0, 53, 0, .null),
  (51, .iload_n 2, 52, 0, 2, 0, .null),
  (52, .ireturn, 53, 0, 0, 0, .null),
  (53, .aload_n 0, 54, 0, 0, 0, .null),
  (54, .getfield 19, 57, 239, 4, 2, .null),
  (57, .iload_n 1, 58, 0, 1, 0, .null),
  (58, .iconst (-1), 59, 0, 0, 0, .int (-1)),
  (59, .invokevirtual 97, 62, 0, 0, 0, .null),
  (62, .pop, 63, 0, 0, 0, .null),
  (63, .iinc 2 1, 66, 0, 2, 0, .int 1),
  (66, .goto (-53), 69, 0, 13, 0, .null),
  (69, .iconst (-1), 70, 0, 0, 0, .int (-1)),
  (70, .ireturn, 71, 0, 0, 0, .null)]
def mm_X4_slandersToEnd : ev_M := (RX4, "slandersToEnd", cX4_slandersToEnd, 3, (some .int), tb_X4_slandersToEnd, 6, 186, 0, 0)
set_option maxRecDepth 100000 in
theorem ok_X4_slandersToEnd : ev_OK mm_X4_slandersToEnd := by unfold ev_OK; decide +kernel
theorem cv_X4_slandersToEnd : ev_CV yX4_slandersToEnd mm_X4_slandersToEnd 4 1 := ⟨ev_has_in (k := 628) (by decide +kernel), ev_has_in (k := 84) (by decide +kernel), ev_has_in (k := 627) (by decide +kernel), ev_has_in (k := 24) (by decide +kernel), ⟨by decide +kernel, by decide +kernel, by decide +kernel⟩, rfl, by decide⟩
def tb_X4_doStep : ev_T := [(0, .aload_n 0, 1, 0, 0, 0, .null),
  (1, .getfield 29, 4, 242, 4, 5, .null),
  (4, .getfield 316, 7, 224, 2, 3, .null),
  (7, .iconst 0, 8, 0, 0, 0, .int 0),
  (8, .iaload, 9, 0, 0, 0, .null),
  (9, .istore_n 1, 10, 0, 1, 0, .null),
  (10, .aload_n 0, 11, 0, 0, 0, .null),
  (11, .getfield 29, 14, 242, 4, 5, .null),
  (14, .getfield 316, 17, 224, 2, 3, .null),
  (17, .iconst 1, 18, 0, 0, 0, .int 1),
  (18, .iaload, 19, 0, 0, 0, .null),
  (19, .istore_n 2, 20, 0, 2, 0, .null),
  (20, .aload_n 0, 21, 0, 0, 0, .null),
  (21, .getfield 29, 24, 242, 4, 5, .null),
  (24, .getfield 316, 27, 224, 2, 3, .null),
  (27, .iconst 2, 28, 0, 0, 0, .int 2),
  (28, .iaload, 29, 0, 0, 0, .null),
  (29, .istore_n 3, 30, 0, 3, 0, .null),
  (30, .aload_n 0, 31, 0, 0, 0, .null),
  (31, .getfield 29, 34, 242, 4, 5, .null),
  (34, .getfield 319, 37, 222, 2, 2, .null),
  (37, .lookupswitch 180 #[(104, 73), (110, 43), (115, 105), (116, 152)], 80, 0, 43, 37, .null),
  (80, .aload_n 0, 81, 0, 0, 0, .null),
  (81, .getfield 12, 84, 237, 4, 0, .null),
  (84, .getfield 40, 87, 150, 3, 1, .null),
  (87, .bipush 24, 89, 0, 0, 0, .int 24),
  (89, .if_icmp .ge 19, 92, 0, 108, 0, .null),
  (92, .aload_n 0, 93, 0, 0, 0, .null),
  (93, .getfield 12, 96, 237, 4, 0, .null),
  (96, .iload_n 1, 97, 0, 1, 0, .null),
  (97, .invokevirtual 52, 100, 0, 0, 0, .null),
  (100, .iconst (-1), 101, 0, 0, 0, .int (-1)),
  (101, .if_icmp .eq 7, 104, 0, 108, 0, .null),
  (104, .iconst 1, 105, 0, 0, 0, .int 1),
  (105, .goto 4, 108, 0, 109, 0, .null),
  (108, .iconst 0, 109, 0, 0, 0, .int 0),
  (109, .ireturn, 110, 0, 0, 0, .null),
  (110, .iload_n 1, 111, 0, 1, 0, .null),
  (111, .invokestatic 56, 114, 0, 0, 0, .null),
  (114, .ifCond .eq 14, 117, 0, 128, 0, .null),
  (117, .aload_n 0, 118, 0, 0, 0, .null),
  (118, .getfield 12, 121, 237, 4, 0, .null),
  (121, .iload_n 2, 122, 0, 2, 0, .null),
  (122, .invokevirtual 68, 125, 0, 0, 0, .null),
  (125, .ifCond .ne 5, 128, 0, 130, 0, .null),
  (128, .iconst 0, 129, 0, 0, 0, .int 0),
  (129, .ireturn, 130, 0, 0, 0, .null),
  (130, .aload_n 0, 131, 0, 0, 0, .null),
  (131, .getfield 12, 134, 237, 4, 0, .null),
  (134, .iload_n 1, 135, 0, 1, 0, .null),
  (135, .iload_n 2, 136, 0, 2, 0, .null),
  (136, .invokevirtual 73, 139, 0, 0, 0, .null),
  (139, .pop, 140, 0, 0, 0, .null),
  (140, .iconst 1, 141, 0, 0, 0, .int 1),
  (141, .ireturn, 142, 0, 0, 0, .null),
  (142, .aload_n 0, 143, 0, 0, 0, .null),
  (143, .getfield 12, 146, 237, 4, 0, .null),
  (146, .iload_n 1, 147, 0, 1, 0, .null),
  (147, .invokevirtual 85, 150, 0, 0, 0, .null),
  (150, .ifCond .eq 21, 153, 0, 171, 0, .null),
  (153, .iload_n 2, 154, 0, 2, 0, .null),
  (154, .invokestatic 80, 157, 0, 0, 0, .null),
  (157, .ifCond .eq 14, 160, 0, 171, 0, .null),
  (160, .aload_n 0, 161, 0, 0, 0, .null),
  (161, .getfield 12, 164, 237, 4, 0, .null),
  (164, .iload_n 3, 165, 0, 3, 0, .null),
  (165, .invokevirtual 68, 168, 0, 0, 0, .null),
  (168, .ifCond .ne 5, 171, 0, 173, 0, .null),
  (171, .iconst 0, 172, 0, 0, 0, .int 0),
  (172, .ireturn, 173, 0, 0, 0, .null),
  (173, .aload_n 0, 174, 0, 0, 0, .null),
  (174, .getfield 12, 177, 237, 4, 0, .null),
  (177, .iload_n 1, 178, 0, 1, 0, .null),
  (178, .iload_n 2, 179, 0, 2, 0, .null),
  (179, .invokestatic 90, 182, 0, 0, 0, .null),
  (182, .iload_n 3, 183, 0, 3, 0, .null),
  (183, .invokevirtual 73, 186, 0, 0, 0, .null),
  (186, .pop, 187, 0, 0, 0, .null),
  (187, .iconst 1, 188, 0, 0, 0, .int 1),
  (188, .ireturn, 189, 0, 0, 0, .null),
  (189, .aload_n 0, 190, 0, 0, 0, .null),
  (190, .getfield 12, 193, 237, 4, 0, .null),
  (193, .getfield 130, 196, 148, 3, 0, .null),
  (196, .iload_n 1, 197, 0, 1, 0, .null),
  (197, .iadd, 198, 0, 0, 0, .null),
  (198, .sipush 5000, 201, 0, 0, 0, .int 5000),
  (201, .if_icmp .le 5, 204, 0, 206, 0, .null),
  (204, .iconst 0, 205, 0, 0, 0, .int 0),
  (205, .ireturn, 206, 0, 0, 0, .null),
  (206, .aload_n 0, 207, 0, 0, 0, .null),
  (207, .getfield 12, 210, 237, 4, 0, .null),
  (210, .iload_n 1, 211, 0, 1, 0, .null),
  (211, .invokevirtual 135, 214, 0, 0, 0, .null),
  (214, .pop, 215, 0, 0, 0, .null),
  (215, .iconst 1, 216, 0, 0, 0, .int 1),
  (216, .ireturn, 217, 0, 0, 0, .null),
  (217, .aload_n 0, 218, 0, 0, 0, .null),
  (218, .getfield 12, 221, 237, 4, 0, .null),
  (221, .invokevirtual 138, 224, 0, 0, 0, .null),
  (224, .pop, 225, 0, 0, 0, .null),
  (225, .iconst 1, 226, 0, 0, 0, .int 1),
  (226, .ireturn, 227, 0, 0, 0, .null)]
def mm_X4_doStep : ev_M := (RX4, "doStep", cX4_doStep, 4, (some .boolean), tb_X4_doStep, 6, 186, 0, 0)
set_option maxRecDepth 100000 in
theorem ok_X4_doStep : ev_OK mm_X4_doStep := by unfold ev_OK; decide +kernel
theorem cv_X4_doStep : ev_CV yX4_doStep mm_X4_doStep 4 0 := ⟨ev_has_in (k := 808) (by decide +kernel), ev_has_in (k := 84) (by decide +kernel), ev_has_in (k := 807) (by decide +kernel), ev_has_in (k := 29) (by decide +kernel), ⟨by decide +kernel, by decide +kernel, by decide +kernel⟩, rfl, by decide⟩
def tb_X4_save : ev_T := [(0, .aload_n 0, 1, 0, 0, 0, .null),
  (1, .getfield 173, 4, 241, 4, 4, .null),
  (4, .bipush 6, 6, 0, 0, 0, .int 6),
  (6, .if_icmp .lt 50, 9, 0, 56, 0, .null),
  (9, .aload_n 0, 10, 0, 0, 0, .null),
  (10, .getfield 22, 13, 240, 4, 3, .null),
  (13, .iconst 0, 14, 0, 0, 0, .int 0),
  (14, .aaload, 15, 0, 0, 0, .null),
  (15, .astore_n 1, 16, 0, 1, 0, .null),
  (16, .iconst 1, 17, 0, 0, 0, .int 1),
  (17, .istore_n 2, 18, 0, 2, 0, .null),
  (18, .iload_n 2, 19, 0, 2, 0, .null),
  (19, .bipush 6, 21, 0, 0, 0, .int 6),
  (21, .if_icmp .ge 23, 24, 0, 44, 0, .null),
  (24, .aload_n 0, 25, 0, 0, 0, .null),
  (25, .getfield 22, 28, 240, 4, 3, .null),
  (28, .iload_n 2, 29, 0, 2, 0, .null),
  (29, .iconst 1, 30, 0, 0, 0, .int 1),
  (30, .isub, 31, 0, 0, 0, .null),
  (31, .aload_n 0, 32, 0, 0, 0, .null),
  (32, .getfield 22, 35, 240, 4, 3, .null),
  (35, .iload_n 2, 36, 0, 2, 0, .null),
  (36, .aaload, 37, 0, 0, 0, .null),
  (37, .aastore, 38, 0, 0, 0, .null),
  (38, .iinc 2 1, 41, 0, 2, 0, .int 1),
  (41, .goto (-23), 44, 0, 18, 0, .null),
  (44, .aload_n 0, 45, 0, 0, 0, .null),
  (45, .getfield 22, 48, 240, 4, 3, .null),
  (48, .iconst 5, 49, 0, 0, 0, .int 5),
  (49, .aload_n 1, 50, 0, 1, 0, .null),
  (50, .aastore, 51, 0, 0, 0, .null),
  (51, .aload_n 0, 52, 0, 0, 0, .null),
  (52, .iconst 5, 53, 0, 0, 0, .int 5),
  (53, .putfield 173, 56, 241, 4, 4, .null),
  (56, .aload_n 0, 57, 0, 0, 0, .null),
  (57, .getfield 22, 60, 240, 4, 3, .null),
  (60, .aload_n 0, 61, 0, 0, 0, .null),
  (61, .getfield 173, 64, 241, 4, 4, .null),
  (64, .aaload, 65, 0, 0, 0, .null),
  (65, .aload_n 0, 66, 0, 0, 0, .null),
  (66, .getfield 12, 69, 237, 4, 0, .null),
  (69, .invokevirtual 178, 72, 0, 0, 0, .null),
  (72, .aload_n 0, 73, 0, 0, 0, .null),
  (73, .dup, 74, 0, 0, 0, .null),
  (74, .getfield 173, 77, 241, 4, 4, .null),
  (77, .iconst 1, 78, 0, 0, 0, .int 1),
  (78, .iadd, 79, 0, 0, 0, .null),
  (79, .putfield 173, 82, 241, 4, 4, .null),
  (82, .return_, 83, 0, 0, 0, .null)]
def mm_X4_save : ev_M := (RX4, "save", cX4_save, 3, none, tb_X4_save, 3, 102, 0, 0)
set_option maxRecDepth 100000 in
theorem ok_X4_save : ev_OK mm_X4_save := by unfold ev_OK; decide +kernel
theorem cv_X4_save : ev_CV yX4_save mm_X4_save 4 0 := ⟨ev_has_in (k := 263) (by decide +kernel), ev_has_in (k := 84) (by decide +kernel), ev_has_in (k := 262) (by decide +kernel), ev_has_in (k := 0) (by decide +kernel), ⟨by decide +kernel, by decide +kernel, by decide +kernel⟩, rfl, by decide⟩
def tb_X4_isThing : ev_T := [(0, .iload_n 1, 1, 0, 1, 0, .null),
  (1, .ifCond .lt 18, 4, 0, 19, 0, .null),
  (4, .iload_n 1, 5, 0, 1, 0, .null),
  (5, .aload_n 0, 6, 0, 0, 0, .null),
  (6, .getfield 12, 9, 237, 4, 0, .null),
  (9, .getfield 40, 12, 150, 3, 1, .null),
  (12, .if_icmp .ge 7, 15, 0, 19, 0, .null),
  (15, .iconst 1, 16, 0, 0, 0, .int 1),
  (16, .goto 4, 19, 0, 20, 0, .null),
  (19, .iconst 0, 20, 0, 0, 0, .int 0),
  (20, .ireturn, 21, 0, 0, 0, .null)]
def mm_X4_isThing : ev_M := (RX4, "isThing", cX4_isThing, 2, (some .boolean), tb_X4_isThing, 0, 0, 0, 0)
set_option maxRecDepth 100000 in
theorem ok_X4_isThing : ev_OK mm_X4_isThing := by unfold ev_OK; decide +kernel
theorem cv_X4_isThing : ev_CV yX4_isThing mm_X4_isThing 4 1 := ⟨ev_has_in (k := 688) (by decide +kernel), ev_has_in (k := 84) (by decide +kernel), ev_has_in (k := 687) (by decide +kernel), ev_has_in (k := 26) (by decide +kernel), ⟨by decide +kernel, by decide +kernel, by decide +kernel⟩, rfl, by decide⟩
def tb_X4_isThingOrNone : ev_T := [(0, .iload_n 1, 1, 0, 1, 0, .null),
  (1, .iconst (-1), 2, 0, 0, 0, .int (-1)),
  (2, .if_icmp .eq 11, 5, 0, 13, 0, .null),
  (5, .aload_n 0, 6, 0, 0, 0, .null),
  (6, .iload_n 1, 7, 0, 1, 0, .null),
  (7, .invokevirtual 77, 10, 0, 0, 0, .null),
  (10, .ifCond .eq 7, 13, 0, 17, 0, .null),
  (13, .iconst 1, 14, 0, 0, 0, .int 1),
  (14, .goto 4, 17, 0, 18, 0, .null),
  (17, .iconst 0, 18, 0, 0, 0, .int 0),
  (18, .ireturn, 19, 0, 0, 0, .null)]
def mm_X4_isThingOrNone : ev_M := (RX4, "isThingOrNone", cX4_isThingOrNone, 2, (some .boolean), tb_X4_isThingOrNone, 1, 21, 0, 0)
set_option maxRecDepth 100000 in
theorem ok_X4_isThingOrNone : ev_OK mm_X4_isThingOrNone := by unfold ev_OK; decide +kernel
theorem cv_X4_isThingOrNone : ev_CV yX4_isThingOrNone mm_X4_isThingOrNone 4 1 := ⟨ev_has_in (k := 684) (by decide +kernel), ev_has_in (k := 84) (by decide +kernel), ev_has_in (k := 683) (by decide +kernel), ev_has_in (k := 25) (by decide +kernel), ⟨by decide +kernel, by decide +kernel, by decide +kernel⟩, rfl, by decide⟩
def tb_X4_isHand : ev_T := [(0, .iload_n 0, 1, 0, 0, 0, .null),
  (1, .ifCond .lt 12, 4, 0, 13, 0, .null),
  (4, .iload_n 0, 5, 0, 0, 0, .null),
  (5, .iconst 4, 6, 0, 0, 0, .int 4),
  (6, .if_icmp .ge 7, 9, 0, 13, 0, .null),
  (9, .iconst 1, 10, 0, 0, 0, .int 1),
  (10, .goto 4, 13, 0, 14, 0, .null),
  (13, .iconst 0, 14, 0, 0, 0, .int 0),
  (14, .ireturn, 15, 0, 0, 0, .null)]
def mm_X4_isHand : ev_M := (RX4, "isHand", cX4_isHand, 1, (some .boolean), tb_X4_isHand, 0, 0, 0, 0)
set_option maxRecDepth 100000 in
theorem ok_X4_isHand : ev_OK mm_X4_isHand := by unfold ev_OK; decide +kernel
theorem cs_X4_isHand : ev_CS yX4_isHand mm_X4_isHand 1 := ⟨ev_has_in (k := 680) (by decide +kernel), ev_has_in (k := 84) (by decide +kernel), ev_has_in (k := 679) (by decide +kernel), ⟨by decide +kernel, by decide +kernel, by decide +kernel⟩⟩
def tb_X4_isSlot : ev_T := [(0, .iload_n 0, 1, 0, 0, 0, .null),
  (1, .ifCond .lt 12, 4, 0, 13, 0, .null),
  (4, .iload_n 0, 5, 0, 0, 0, .null),
  (5, .iconst 4, 6, 0, 0, 0, .int 4),
  (6, .if_icmp .ge 7, 9, 0, 13, 0, .null),
  (9, .iconst 1, 10, 0, 0, 0, .int 1),
  (10, .goto 4, 13, 0, 14, 0, .null),
  (13, .iconst 0, 14, 0, 0, 0, .int 0),
  (14, .ireturn, 15, 0, 0, 0, .null)]
def mm_X4_isSlot : ev_M := (RX4, "isSlot", cX4_isSlot, 1, (some .boolean), tb_X4_isSlot, 0, 0, 0, 0)
set_option maxRecDepth 100000 in
theorem ok_X4_isSlot : ev_OK mm_X4_isSlot := by unfold ev_OK; decide +kernel
theorem cs_X4_isSlot : ev_CS yX4_isSlot mm_X4_isSlot 1 := ⟨ev_has_in (k := 723) (by decide +kernel), ev_has_in (k := 84) (by decide +kernel), ev_has_in (k := 722) (by decide +kernel), ⟨by decide +kernel, by decide +kernel, by decide +kernel⟩⟩
def tb_X4_isSetting : ev_T := [(0, .iload_n 0, 1, 0, 0, 0, .null),
  (1, .ifCond .lt 12, 4, 0, 13, 0, .null),
  (4, .iload_n 0, 5, 0, 0, 0, .null),
  (5, .iconst 5, 6, 0, 0, 0, .int 5),
  (6, .if_icmp .ge 7, 9, 0, 13, 0, .null),
  (9, .iconst 1, 10, 0, 0, 0, .int 1),
  (10, .goto 4, 13, 0, 14, 0, .null),
  (13, .iconst 0, 14, 0, 0, 0, .int 0),
  (14, .ireturn, 15, 0, 0, 0, .null)]
def mm_X4_isSetting : ev_M := (RX4, "isSetting", cX4_isSetting, 1, (some .boolean), tb_X4_isSetting, 0, 0, 0, 0)
set_option maxRecDepth 100000 in
theorem ok_X4_isSetting : ev_OK mm_X4_isSetting := by unfold ev_OK; decide +kernel
theorem cs_X4_isSetting : ev_CS yX4_isSetting mm_X4_isSetting 1 := ⟨ev_has_in (k := 753) (by decide +kernel), ev_has_in (k := 84) (by decide +kernel), ev_has_in (k := 752) (by decide +kernel), ⟨by decide +kernel, by decide +kernel, by decide +kernel⟩⟩
def tb_X4_mostOf : ev_T := [(0, .iload_n 0, 1, 0, 0, 0, .null),
  (1, .iconst 3, 2, 0, 0, 0, .int 3),
  (2, .if_icmp .ge 6, 5, 0, 8, 0, .null),
  (5, .bipush 20, 7, 0, 0, 0, .int 20),
  (7, .ireturn, 8, 0, 0, 0, .null),
  (8, .iload_n 0, 9, 0, 0, 0, .null),
  (9, .iconst 3, 10, 0, 0, 0, .int 3),
  (10, .if_icmp .ne 7, 13, 0, 17, 0, .null),
  (13, .iconst 1, 14, 0, 0, 0, .int 1),
  (14, .goto 5, 17, 0, 19, 0, .null),
  (17, .bipush 50, 19, 0, 0, 0, .int 50),
  (19, .ireturn, 20, 0, 0, 0, .null)]
def mm_X4_mostOf : ev_M := (RX4, "mostOf", cX4_mostOf, 1, (some .int), tb_X4_mostOf, 0, 0, 0, 0)
set_option maxRecDepth 100000 in
theorem ok_X4_mostOf : ev_OK mm_X4_mostOf := by unfold ev_OK; decide +kernel
theorem cs_X4_mostOf : ev_CS yX4_mostOf mm_X4_mostOf 1 := ⟨ev_has_in (k := 757) (by decide +kernel), ev_has_in (k := 84) (by decide +kernel), ev_has_in (k := 756) (by decide +kernel), ⟨by decide +kernel, by decide +kernel, by decide +kernel⟩⟩
def tb_X4_placeOf : ev_T := [(0, .iconst 4, 1, 0, 0, 0, .int 4),
  (1, .iconst 4, 2, 0, 0, 0, .int 4),
  (2, .iload_n 0, 3, 0, 0, 0, .null),
  (3, .imul, 4, 0, 0, 0, .null),
  (4, .iadd, 5, 0, 0, 0, .null),
  (5, .iload_n 1, 6, 0, 1, 0, .null),
  (6, .iadd, 7, 0, 0, 0, .null),
  (7, .ireturn, 8, 0, 0, 0, .null)]
def mm_X4_placeOf : ev_M := (RX4, "placeOf", cX4_placeOf, 2, (some .int), tb_X4_placeOf, 0, 0, 0, 0)
set_option maxRecDepth 100000 in
theorem ok_X4_placeOf : ev_OK mm_X4_placeOf := by unfold ev_OK; decide +kernel
theorem cs_X4_placeOf : ev_CS yX4_placeOf mm_X4_placeOf 2 := ⟨ev_has_in (k := 298) (by decide +kernel), ev_has_in (k := 84) (by decide +kernel), ev_has_in (k := 297) (by decide +kernel), ⟨by decide +kernel, by decide +kernel, by decide +kernel⟩⟩
def tb_X4_isIn : ev_T := [(0, .iload_n 0, 1, 0, 0, 0, .null),
  (1, .iload_n 1, 2, 0, 1, 0, .null),
  (2, .ishr, 3, 0, 0, 0, .null),
  (3, .iconst 1, 4, 0, 0, 0, .int 1),
  (4, .iand, 5, 0, 0, 0, .null),
  (5, .ifCond .eq 7, 8, 0, 12, 0, .null),
  (8, .iconst 1, 9, 0, 0, 0, .int 1),
  (9, .goto 4, 12, 0, 13, 0, .null),
  (12, .iconst 0, 13, 0, 0, 0, .int 0),
  (13, .ireturn, 14, 0, 0, 0, .null)]
def mm_X4_isIn : ev_M := (RX4, "isIn", cX4_isIn, 2, (some .boolean), tb_X4_isIn, 0, 0, 0, 0)
set_option maxRecDepth 100000 in
theorem ok_X4_isIn : ev_OK mm_X4_isIn := by unfold ev_OK; decide +kernel
theorem cs_X4_isIn : ev_CS yX4_isIn mm_X4_isIn 2 := ⟨ev_has_in (k := 287) (by decide +kernel), ev_has_in (k := 84) (by decide +kernel), ev_has_in (k := 286) (by decide +kernel), ⟨by decide +kernel, by decide +kernel, by decide +kernel⟩⟩
theorem ml_X4_11 : ev_ml RX4 11 yX3_init := Or.inl (ev_has_in (k := 109) (by decide +kernel))
theorem ml_X4_28 : ev_ml RX4 28 yX2_init := Or.inl (ev_has_in (k := 213) (by decide +kernel))
theorem ml_X4_49 : ev_ml RX4 49 yX4_save := Or.inl (ev_has_in (k := 260) (by decide +kernel))
theorem ml_X4_52 : ev_ml RX4 52 yX3_bring := Or.inl (ev_has_in (k := 666) (by decide +kernel))
theorem ml_X4_56 : ev_ml RX4 56 yX4_isHand := Or.inl (ev_has_in (k := 678) (by decide +kernel))
theorem ml_X4_60 : ev_ml RX4 60 yX4_isThingOrNone := Or.inl (ev_has_in (k := 681) (by decide +kernel))
theorem ml_X4_68 : ev_ml RX4 68 yX3_mayBeHeld := Or.inl (ev_has_in (k := 705) (by decide +kernel))
theorem ml_X4_73 : ev_ml RX4 73 yX3_change := Or.inl (ev_has_in (k := 710) (by decide +kernel))
theorem ml_X4_77 : ev_ml RX4 77 yX4_isThing := Or.inl (ev_has_in (k := 685) (by decide +kernel))
theorem ml_X4_80 : ev_ml RX4 80 yX4_isSlot := Or.inl (ev_has_in (k := 721) (by decide +kernel))
theorem ml_X4_85 : ev_ml RX4 85 yX3_lives := Or.inl (ev_has_in (k := 581) (by decide +kernel))
theorem ml_X4_90 : ev_ml RX4 90 yX4_placeOf := Or.inl (ev_has_in (k := 571) (by decide +kernel))
theorem ml_X4_97 : ev_ml RX4 97 yX3_lie := Or.inl (ev_has_in (k := 629) (by decide +kernel))
theorem ml_X4_103 : ev_ml RX4 103 yX4_isIn := Or.inl (ev_has_in (k := 742) (by decide +kernel))
theorem ml_X4_109 : ev_ml RX4 109 yJ6_bitCount_0f7a4 := Or.inl (ev_has_in (k := 596) (by decide +kernel))
theorem ml_X4_114 : ev_ml RX4 114 yX4_isSetting := Or.inl (ev_has_in (k := 751) (by decide +kernel))
theorem ml_X4_119 : ev_ml RX4 119 yX4_mostOf := Or.inl (ev_has_in (k := 755) (by decide +kernel))
theorem ml_X4_135 : ev_ml RX4 135 yX3_passTicks := Or.inl (ev_has_in (k := 554) (by decide +kernel))
theorem ml_X4_138 : ev_ml RX4 138 yX3_holdTrial := Or.inl (ev_has_in (k := 281) (by decide +kernel))
theorem ml_X4_142 : ev_ml RX4 142 yX3_setCountsRight := Or.inl (ev_has_in (k := 391) (by decide +kernel))
theorem ml_X4_155 : ev_ml RX4 155 yX2_errorAt := Or.inl (ev_has_in (k := 411) (by decide +kernel))
theorem ml_X4_158 : ev_ml RX4 158 yX2_isProgram := Or.inl (ev_has_in (k := 784) (by decide +kernel))
theorem ml_X4_164 : ev_ml RX4 164 yX2_toBegin := Or.inl (ev_has_in (k := 789) (by decide +kernel))
theorem ml_X4_167 : ev_ml RX4 167 yX2_readStep := Or.inl (ev_has_in (k := 793) (by decide +kernel))
theorem ml_X4_170 : ev_ml RX4 170 yX4_doStep := Or.inl (ev_has_in (k := 805) (by decide +kernel))
theorem ml_X4_178 : ev_ml RX4 178 yX3_copyFrom := Or.inl (ev_has_in (k := 264) (by decide +kernel))
theorem ml_X4_184 : ev_ml RX4 184 yX3_property := Or.inl (ev_has_in (k := 563) (by decide +kernel))
theorem ml_X4_193 : ev_ml RX4 193 yX0_at := Or.inl (ev_has_in (k := 549) (by decide +kernel))
theorem ml_X4_204 : ev_ml RX4 204 yX1_underWay := Or.inl (ev_has_in (k := 586) (by decide +kernel))
theorem ml_X4_213 : ev_ml RX4 213 yX1_part := Or.inl (ev_has_in (k := 587) (by decide +kernel))
theorem ml_X4_226 : ev_ml RX4 226 yX3_total := Or.inl (ev_has_in (k := 434) (by decide +kernel))
theorem ml_X4_231 : ev_ml RX4 231 yX4_foresee := Or.inl (ev_has_in (k := 550) (by decide +kernel))
theorem ml_X4_235 : ev_ml RX4 235 yX4_passedPart := Or.inl (ev_has_in (k := 592) (by decide +kernel))
theorem ml_X4_238 : ev_ml RX4 238 yX4_foreseenEnd := Or.inl (ev_has_in (k := 577) (by decide +kernel))
theorem ml_X4_243 : ev_ml RX4 243 yX4_foreseeTrial := Or.inl (ev_has_in (k := 598) (by decide +kernel))
theorem ml_X4_246 : ev_ml RX4 246 yX4_triedPart := Or.inl (ev_has_in (k := 606) (by decide +kernel))
theorem ml_X4_249 : ev_ml RX4 249 yX0_ringOf := Or.inl (ev_has_in (k := 572) (by decide +kernel))
theorem ml_X4_254 : ev_ml RX4 254 yX0_cutWithMostLost := Or.inl (ev_has_in (k := 614) (by decide +kernel))
theorem ml_X4_257 : ev_ml RX4 257 yX0_lostWithout := Or.inl (ev_has_in (k := 624) (by decide +kernel))
theorem ml_X4_260 : ev_ml RX4 260 yX4_slandersToEnd := Or.inl (ev_has_in (k := 625) (by decide +kernel))
theorem ml_X4_265 : ev_ml RX4 265 yX4_count := Or.inl (ev_has_in (k := 473) (by decide +kernel))
theorem ml_X4_268 : ev_ml RX4 268 yX4_mixed := Or.inl (ev_has_in (k := 545) (by decide +kernel))
theorem ml_X4_272 : ev_ml RX4 272 yX4_withThings := Or.inl (ev_has_in (k := 559) (by decide +kernel))
theorem ml_X4_276 : ev_ml RX4 276 yX4_withReportsAndEnds := Or.inl (ev_has_in (k := 582) (by decide +kernel))
theorem ml_X4_279 : ev_ml RX4 279 yX4_withPassed := Or.inl (ev_has_in (k := 588) (by decide +kernel))
theorem ml_X4_282 : ev_ml RX4 282 yX4_withTried := Or.inl (ev_has_in (k := 602) (by decide +kernel))
theorem ml_X4_285 : ev_ml RX4 285 yX4_withBestCut := Or.inl (ev_has_in (k := 610) (by decide +kernel))
theorem ml_X4_288 : ev_ml RX4 288 yX4_reachedShare := Or.inl (ev_has_in (k := 633) (by decide +kernel))
theorem ml_X4_292 : ev_ml RX4 292 yX4_bitsOf := Or.inl (ev_has_in (k := 634) (by decide +kernel))
theorem ml_X4_310 : ev_ml RX4 310 yX0_reached := Or.inl (ev_has_in (k := 597) (by decide +kernel))
end
section
/-! tables of the methods of GossipCountsModel, laid by wip/whole/gen/tabs.py -/
def tb_X5_init : ev_T := [(0, .aload_n 0, 1, 0, 0, 0, .null),
  (1, .invokespecial 1, 4, 0, 0, 0, .null),
  (4, .aload_n 0, 5, 0, 0, 0, .null),
  (5, .sipush 20377, 8, 0, 0, 0, .int 20377),
  (8, .newarray .int, 10, 0, 0, 0, .null),
  (10, .putfield 7, 13, 922, 5, 1, .null),
  (13, .aload_n 0, 14, 0, 0, 0, .null),
  (14, .sipush 20377, 17, 0, 0, 0, .int 20377),
  (17, .newarray .int, 19, 0, 0, 0, .null),
  (19, .putfield 13, 22, 923, 5, 2, .null),
  (22, .aload_n 0, 23, 0, 0, 0, .null),
  (23, .ldc 16, 25, 920, 0, 0, .int 122262),
  (25, .newarray .int, 27, 0, 0, 0, .null),
  (27, .putfield 17, 30, 924, 5, 3, .null),
  (30, .aload_n 0, 31, 0, 0, 0, .null),
  (31, .bipush 60, 33, 0, 0, 0, .int 60),
  (33, .newarray .int, 35, 0, 0, 0, .null),
  (35, .putfield 20, 38, 926, 5, 5, .null),
  (38, .aload_n 0, 39, 0, 0, 0, .null),
  (39, .bipush 24, 41, 0, 0, 0, .int 24),
  (41, .newarray .int, 43, 0, 0, 0, .null),
  (43, .putfield 23, 46, 928, 5, 7, .null),
  (46, .aload_n 0, 47, 0, 0, 0, .null),
  (47, .bipush 24, 49, 0, 0, 0, .int 24),
  (49, .newarray .int, 51, 0, 0, 0, .null),
  (51, .putfield 26, 54, 929, 5, 8, .null),
  (54, .aload_n 0, 55, 0, 0, 0, .null),
  (55, .bipush 24, 57, 0, 0, 0, .int 24),
  (57, .newarray .int, 59, 0, 0, 0, .null),
  (59, .putfield 29, 62, 930, 5, 9, .null),
  (62, .aload_n 0, 63, 0, 0, 0, .null),
  (63, .bipush 24, 65, 0, 0, 0, .int 24),
  (65, .newarray .int, 67, 0, 0, 0, .null),
  (67, .putfield 32, 70, 931, 5, 10, .null),
  (70, .aload_n 0, 71, 0, 0, 0, .null),
  (71, .getfield 7, 74, 922, 5, 1, .null),
  (74, .bipush 8, 76, 0, 0, 0, .int 8),
  (76, .iconst 1, 77, 0, 0, 0, .int 1),
  (77, .iastore, 78, 0, 0, 0, .null),
  (78, .aload_n 0, 79, 0, 0, 0, .null),
  (79, .getfield 7, 82, 922, 5, 1, .null),
  (82, .bipush 9, 84, 0, 0, 0, .int 9),
  (84, .iconst 3, 85, 0, 0, 0, .int 3),
  (85, .iastore, 86, 0, 0, 0, .null),
  (86, .aload_n 0, 87, 0, 0, 0, .null),
  (87, .getfield 7, 90, 922, 5, 1, .null),
  (90, .bipush 10, 92, 0, 0, 0, .int 10),
  (92, .iconst 2, 93, 0, 0, 0, .int 2),
  (93, .iastore, 94, 0, 0, 0, .null),
  (94, .iconst 0, 95, 0, 0, 0, .int 0),
  (95, .istore_n 1, 96, 0, 1, 0, .null),
  (96, .iload_n 1, 97, 0, 1, 0, .null),
  (97, .iconst 4, 98, 0, 0, 0, .int 4),
  (98, .if_icmp .ge 19, 101, 0, 117, 0, .null),
  (101, .aload_n 0, 102, 0, 0, 0, .null),
  (102, .getfield 7, 105, 922, 5, 1, .null),
  (105, .bipush 13, 107, 0, 0, 0, .int 13),
  (107, .iload_n 1, 108, 0, 1, 0, .null),
  (108, .iadd, 109, 0, 0, 0, .null),
  (109, .iconst (-1), 110, 0, 0, 0, .int (-1)),
  (110, .iastore, 111, 0, 0, 0, .null),
  (111, .iinc 1 1, 114, 0, 1, 0, .int 1),
  (114, .goto (-18), 117, 0, 96, 0, .null),
  (117, .return_, 118, 0, 0, 0, .null)]
def mm_X5_init : ev_M := (RX5, "<init>", cX5_init, 2, none, tb_X5_init, 1, 30, 0, 0)
set_option maxRecDepth 100000 in
theorem ok_X5_init : ev_OK mm_X5_init := by unfold ev_OK; decide +kernel
theorem ci_X5_init : ev_CI yX5_init mm_X5_init 0 := ⟨ev_has_in (k := 918) (by decide +kernel), ev_has_in (k := 89) (by decide +kernel), ev_has_in (k := 917) (by decide +kernel), ⟨by decide +kernel, by decide +kernel, by decide +kernel⟩, rfl⟩
def tb_X5_thrown : ev_T := [(0, .aload_n 0, 1, 0, 0, 0, .null),
  (1, .getfield 35, 4, 921, 5, 0, .null),
  (4, .ireturn, 5, 0, 0, 0, .null)]
def mm_X5_thrown : ev_M := (RX5, "thrown", cX5_thrown, 1, (some .int), tb_X5_thrown, 0, 0, 0, 0)
set_option maxRecDepth 100000 in
theorem ok_X5_thrown : ev_OK mm_X5_thrown := by unfold ev_OK; decide +kernel
theorem cv_X5_thrown : ev_CV yX5_thrown mm_X5_thrown 5 0 := ⟨ev_has_in (k := 970) (by decide +kernel), ev_has_in (k := 89) (by decide +kernel), ev_has_in (k := 968) (by decide +kernel), ev_has_in (k := 969) (by decide +kernel), ⟨by decide +kernel, by decide +kernel, by decide +kernel⟩, rfl, by decide⟩
def tb_X5_copy : ev_T := [(0, .sipush 377, 3, 0, 0, 0, .int 377),
  (3, .iconst 5, 4, 0, 0, 0, .int 5),
  (4, .aload_n 0, 5, 0, 0, 0, .null),
  (5, .iload_n 1, 6, 0, 1, 0, .null),
  (6, .iconst 3, 7, 0, 0, 0, .int 3),
  (7, .iadd, 8, 0, 0, 0, .null),
  (8, .iaload, 9, 0, 0, 0, .null),
  (9, .imul, 10, 0, 0, 0, .null),
  (10, .iadd, 11, 0, 0, 0, .null),
  (11, .istore 4, 13, 0, 4, 0, .null),
  (13, .iconst 0, 14, 0, 0, 0, .int 0),
  (14, .istore 5, 16, 0, 5, 0, .null),
  (16, .iload 5, 18, 0, 5, 0, .null),
  (18, .iload 4, 20, 0, 4, 0, .null),
  (20, .if_icmp .ge 21, 23, 0, 41, 0, .null),
  (23, .aload_n 2, 24, 0, 2, 0, .null),
  (24, .iload_n 3, 25, 0, 3, 0, .null),
  (25, .iload 5, 27, 0, 5, 0, .null),
  (27, .iadd, 28, 0, 0, 0, .null),
  (28, .aload_n 0, 29, 0, 0, 0, .null),
  (29, .iload_n 1, 30, 0, 1, 0, .null),
  (30, .iload 5, 32, 0, 5, 0, .null),
  (32, .iadd, 33, 0, 0, 0, .null),
  (33, .iaload, 34, 0, 0, 0, .null),
  (34, .iastore, 35, 0, 0, 0, .null),
  (35, .iinc 5 1, 38, 0, 5, 0, .int 1),
  (38, .goto (-22), 41, 0, 16, 0, .null),
  (41, .return_, 42, 0, 0, 0, .null)]
def mm_X5_copy : ev_M := (RX5, "copy", cX5_copy, 6, none, tb_X5_copy, 0, 0, 0, 0)
set_option maxRecDepth 100000 in
theorem ok_X5_copy : ev_OK mm_X5_copy := by unfold ev_OK; decide +kernel
theorem cs_X5_copy : ev_CS yX5_copy mm_X5_copy 4 := ⟨ev_has_in (k := 988) (by decide +kernel), ev_has_in (k := 89) (by decide +kernel), ev_has_in (k := 987) (by decide +kernel), ⟨by decide +kernel, by decide +kernel, by decide +kernel⟩⟩
def tb_X5_within : ev_T := [(0, .iload_n 0, 1, 0, 0, 0, .null),
  (1, .iload_n 1, 2, 0, 1, 0, .null),
  (2, .if_icmp .lt 12, 5, 0, 14, 0, .null),
  (5, .iload_n 0, 6, 0, 0, 0, .null),
  (6, .iload_n 2, 7, 0, 2, 0, .null),
  (7, .if_icmp .gt 7, 10, 0, 14, 0, .null),
  (10, .iconst 1, 11, 0, 0, 0, .int 1),
  (11, .goto 4, 14, 0, 15, 0, .null),
  (14, .iconst 0, 15, 0, 0, 0, .int 0),
  (15, .ireturn, 16, 0, 0, 0, .null)]
def mm_X5_within : ev_M := (RX5, "within", cX5_within, 3, (some .boolean), tb_X5_within, 0, 0, 0, 0)
set_option maxRecDepth 100000 in
theorem ok_X5_within : ev_OK mm_X5_within := by unfold ev_OK; decide +kernel
theorem cs_X5_within : ev_CS yX5_within mm_X5_within 3 := ⟨ev_has_in (k := 981) (by decide +kernel), ev_has_in (k := 89) (by decide +kernel), ev_has_in (k := 980) (by decide +kernel), ⟨by decide +kernel, by decide +kernel, by decide +kernel⟩⟩
def tb_X5_save : ev_T := [(0, .aload_n 0, 1, 0, 0, 0, .null),
  (1, .getfield 39, 4, 925, 5, 4, .null),
  (4, .bipush 6, 6, 0, 0, 0, .int 6),
  (6, .if_icmp .ne 50, 9, 0, 56, 0, .null),
  (9, .iconst 1, 10, 0, 0, 0, .int 1),
  (10, .istore_n 1, 11, 0, 1, 0, .null),
  (11, .iload_n 1, 12, 0, 1, 0, .null),
  (12, .bipush 6, 14, 0, 0, 0, .int 6),
  (14, .if_icmp .ge 32, 17, 0, 46, 0, .null),
  (17, .aload_n 0, 18, 0, 0, 0, .null),
  (18, .getfield 17, 21, 924, 5, 3, .null),
  (21, .iload_n 1, 22, 0, 1, 0, .null),
  (22, .sipush 20377, 25, 0, 0, 0, .int 20377),
  (25, .imul, 26, 0, 0, 0, .null),
  (26, .aload_n 0, 27, 0, 0, 0, .null),
  (27, .getfield 17, 30, 924, 5, 3, .null),
  (30, .iload_n 1, 31, 0, 1, 0, .null),
  (31, .iconst 1, 32, 0, 0, 0, .int 1),
  (32, .isub, 33, 0, 0, 0, .null),
  (33, .sipush 20377, 36, 0, 0, 0, .int 20377),
  (36, .imul, 37, 0, 0, 0, .null),
  (37, .invokestatic 42, 40, 0, 0, 0, .null),
  (40, .iinc 1 1, 43, 0, 1, 0, .int 1),
  (43, .goto (-32), 46, 0, 11, 0, .null),
  (46, .aload_n 0, 47, 0, 0, 0, .null),
  (47, .dup, 48, 0, 0, 0, .null),
  (48, .getfield 39, 51, 925, 5, 4, .null),
  (51, .iconst 1, 52, 0, 0, 0, .int 1),
  (52, .isub, 53, 0, 0, 0, .null),
  (53, .putfield 39, 56, 925, 5, 4, .null),
  (56, .aload_n 0, 57, 0, 0, 0, .null),
  (57, .getfield 7, 60, 922, 5, 1, .null),
  (60, .iconst 0, 61, 0, 0, 0, .int 0),
  (61, .aload_n 0, 62, 0, 0, 0, .null),
  (62, .getfield 17, 65, 924, 5, 3, .null),
  (65, .aload_n 0, 66, 0, 0, 0, .null),
  (66, .getfield 39, 69, 925, 5, 4, .null),
  (69, .sipush 20377, 72, 0, 0, 0, .int 20377),
  (72, .imul, 73, 0, 0, 0, .null),
  (73, .invokestatic 42, 76, 0, 0, 0, .null),
  (76, .aload_n 0, 77, 0, 0, 0, .null),
  (77, .dup, 78, 0, 0, 0, .null),
  (78, .getfield 39, 81, 925, 5, 4, .null),
  (81, .iconst 1, 82, 0, 0, 0, .int 1),
  (82, .iadd, 83, 0, 0, 0, .null),
  (83, .putfield 39, 86, 925, 5, 4, .null),
  (86, .return_, 87, 0, 0, 0, .null)]
def mm_X5_save : ev_M := (RX5, "save", cX5_save, 2, none, tb_X5_save, 1, 25, 0, 0)
set_option maxRecDepth 100000 in
theorem ok_X5_save : ev_OK mm_X5_save := by unfold ev_OK; decide +kernel
theorem cv_X5_save : ev_CV yX5_save mm_X5_save 5 0 := ⟨ev_has_in (k := 985) (by decide +kernel), ev_has_in (k := 89) (by decide +kernel), ev_has_in (k := 984) (by decide +kernel), ev_has_in (k := 31) (by decide +kernel), ⟨by decide +kernel, by decide +kernel, by decide +kernel⟩, rfl, by decide⟩
def tb_X5_isThing : ev_T := [(0, .iload_n 1, 1, 0, 1, 0, .null),
  (1, .iconst 0, 2, 0, 0, 0, .int 0),
  (2, .aload_n 0, 3, 0, 0, 0, .null),
  (3, .getfield 7, 6, 922, 5, 1, .null),
  (6, .iconst 1, 7, 0, 0, 0, .int 1),
  (7, .iaload, 8, 0, 0, 0, .null),
  (8, .iconst 1, 9, 0, 0, 0, .int 1),
  (9, .isub, 10, 0, 0, 0, .null),
  (10, .invokestatic 46, 13, 0, 0, 0, .null),
  (13, .ireturn, 14, 0, 0, 0, .null)]
def mm_X5_isThing : ev_M := (RX5, "isThing", cX5_isThing, 2, (some .boolean), tb_X5_isThing, 1, 22, 0, 0)
set_option maxRecDepth 100000 in
theorem ok_X5_isThing : ev_OK mm_X5_isThing := by unfold ev_OK; decide +kernel
theorem cv_X5_isThing : ev_CV yX5_isThing mm_X5_isThing 5 1 := ⟨ev_has_in (k := 1012) (by decide +kernel), ev_has_in (k := 89) (by decide +kernel), ev_has_in (k := 1011) (by decide +kernel), ev_has_in (k := 36) (by decide +kernel), ⟨by decide +kernel, by decide +kernel, by decide +kernel⟩, rfl, by decide⟩
def tb_X5_part : ev_T := [(0, .aload_n 0, 1, 0, 0, 0, .null),
  (1, .getfield 7, 4, 922, 5, 1, .null),
  (4, .bipush 17, 6, 0, 0, 0, .int 17),
  (6, .bipush 10, 8, 0, 0, 0, .int 10),
  (8, .iload_n 1, 9, 0, 1, 0, .null),
  (9, .imul, 10, 0, 0, 0, .null),
  (10, .iadd, 11, 0, 0, 0, .null),
  (11, .iload_n 2, 12, 0, 2, 0, .null),
  (12, .iadd, 13, 0, 0, 0, .null),
  (13, .iaload, 14, 0, 0, 0, .null),
  (14, .ireturn, 15, 0, 0, 0, .null)]
def mm_X5_part : ev_M := (RX5, "part", cX5_part, 3, (some .int), tb_X5_part, 0, 0, 0, 0)
set_option maxRecDepth 100000 in
theorem ok_X5_part : ev_OK mm_X5_part := by unfold ev_OK; decide +kernel
theorem cv_X5_part : ev_CV yX5_part mm_X5_part 5 2 := ⟨ev_has_in (k := 1024) (by decide +kernel), ev_has_in (k := 89) (by decide +kernel), ev_has_in (k := 1023) (by decide +kernel), ev_has_in (k := 39) (by decide +kernel), ⟨by decide +kernel, by decide +kernel, by decide +kernel⟩, rfl, by decide⟩
def tb_X5_setPart : ev_T := [(0, .aload_n 0, 1, 0, 0, 0, .null),
  (1, .getfield 7, 4, 922, 5, 1, .null),
  (4, .bipush 17, 6, 0, 0, 0, .int 17),
  (6, .bipush 10, 8, 0, 0, 0, .int 10),
  (8, .iload_n 1, 9, 0, 1, 0, .null),
  (9, .imul, 10, 0, 0, 0, .null),
  (10, .iadd, 11, 0, 0, 0, .null),
  (11, .iload_n 2, 12, 0, 2, 0, .null),
  (12, .iadd, 13, 0, 0, 0, .null),
  (13, .iload_n 3, 14, 0, 3, 0, .null),
  (14, .iastore, 15, 0, 0, 0, .null),
  (15, .return_, 16, 0, 0, 0, .null)]
def mm_X5_setPart : ev_M := (RX5, "setPart", cX5_setPart, 4, none, tb_X5_setPart, 0, 0, 0, 0)
set_option maxRecDepth 100000 in
theorem ok_X5_setPart : ev_OK mm_X5_setPart := by unfold ev_OK; decide +kernel
theorem cv_X5_setPart : ev_CV yX5_setPart mm_X5_setPart 5 3 := ⟨ev_has_in (k := 996) (by decide +kernel), ev_has_in (k := 89) (by decide +kernel), ev_has_in (k := 995) (by decide +kernel), ev_has_in (k := 33) (by decide +kernel), ⟨by decide +kernel, by decide +kernel, by decide +kernel⟩, rfl, by decide⟩
def tb_X5_lives : ev_T := [(0, .aload_n 0, 1, 0, 0, 0, .null),
  (1, .iload_n 1, 2, 0, 1, 0, .null),
  (2, .iconst 0, 3, 0, 0, 0, .int 0),
  (3, .invokevirtual 50, 6, 0, 0, 0, .null),
  (6, .iconst 1, 7, 0, 0, 0, .int 1),
  (7, .if_icmp .ne 7, 10, 0, 14, 0, .null),
  (10, .iconst 1, 11, 0, 0, 0, .int 1),
  (11, .goto 4, 14, 0, 15, 0, .null),
  (14, .iconst 0, 15, 0, 0, 0, .int 0),
  (15, .ireturn, 16, 0, 0, 0, .null)]
def mm_X5_lives : ev_M := (RX5, "lives", cX5_lives, 2, (some .boolean), tb_X5_lives, 1, 22, 0, 0)
set_option maxRecDepth 100000 in
theorem ok_X5_lives : ev_OK mm_X5_lives := by unfold ev_OK; decide +kernel
theorem cv_X5_lives : ev_CV yX5_lives mm_X5_lives 5 1 := ⟨ev_has_in (k := 1020) (by decide +kernel), ev_has_in (k := 89) (by decide +kernel), ev_has_in (k := 1019) (by decide +kernel), ev_has_in (k := 38) (by decide +kernel), ⟨by decide +kernel, by decide +kernel, by decide +kernel⟩, rfl, by decide⟩
def tb_X5_slotOf : ev_T := [(0, .aload_n 0, 1, 0, 0, 0, .null),
  (1, .getfield 7, 4, 922, 5, 1, .null),
  (4, .sipush 257, 7, 0, 0, 0, .int 257),
  (7, .iconst 4, 8, 0, 0, 0, .int 4),
  (8, .iload_n 1, 9, 0, 1, 0, .null),
  (9, .imul, 10, 0, 0, 0, .null),
  (10, .iadd, 11, 0, 0, 0, .null),
  (11, .iload_n 2, 12, 0, 2, 0, .null),
  (12, .iadd, 13, 0, 0, 0, .null),
  (13, .iaload, 14, 0, 0, 0, .null),
  (14, .ireturn, 15, 0, 0, 0, .null)]
def mm_X5_slotOf : ev_M := (RX5, "slotOf", cX5_slotOf, 3, (some .int), tb_X5_slotOf, 0, 0, 0, 0)
set_option maxRecDepth 100000 in
theorem ok_X5_slotOf : ev_OK mm_X5_slotOf := by unfold ev_OK; decide +kernel
theorem cv_X5_slotOf : ev_CV yX5_slotOf mm_X5_slotOf 5 2 := ⟨ev_has_in (k := 1064) (by decide +kernel), ev_has_in (k := 89) (by decide +kernel), ev_has_in (k := 1063) (by decide +kernel), ev_has_in (k := 49) (by decide +kernel), ⟨by decide +kernel, by decide +kernel, by decide +kernel⟩, rfl, by decide⟩
def tb_X5_reportPart : ev_T := [(0, .aload_n 0, 1, 0, 0, 0, .null),
  (1, .getfield 7, 4, 922, 5, 1, .null),
  (4, .sipush 377, 7, 0, 0, 0, .int 377),
  (7, .iconst 5, 8, 0, 0, 0, .int 5),
  (8, .iload_n 1, 9, 0, 1, 0, .null),
  (9, .imul, 10, 0, 0, 0, .null),
  (10, .iadd, 11, 0, 0, 0, .null),
  (11, .iload_n 2, 12, 0, 2, 0, .null),
  (12, .iadd, 13, 0, 0, 0, .null),
  (13, .iaload, 14, 0, 0, 0, .null),
  (14, .ireturn, 15, 0, 0, 0, .null)]
def mm_X5_reportPart : ev_M := (RX5, "reportPart", cX5_reportPart, 3, (some .int), tb_X5_reportPart, 0, 0, 0, 0)
set_option maxRecDepth 100000 in
theorem ok_X5_reportPart : ev_OK mm_X5_reportPart := by unfold ev_OK; decide +kernel
theorem cv_X5_reportPart : ev_CV yX5_reportPart mm_X5_reportPart 5 2 := ⟨ev_has_in (k := 1044) (by decide +kernel), ev_has_in (k := 89) (by decide +kernel), ev_has_in (k := 1043) (by decide +kernel), ev_has_in (k := 44) (by decide +kernel), ⟨by decide +kernel, by decide +kernel, by decide +kernel⟩, rfl, by decide⟩
def tb_X5_truth : ev_T := [(0, .iconst 0, 1, 0, 0, 0, .int 0),
  (1, .istore_n 2, 2, 0, 2, 0, .null),
  (2, .iconst 0, 3, 0, 0, 0, .int 0),
  (3, .istore_n 3, 4, 0, 3, 0, .null),
  (4, .iload_n 3, 5, 0, 3, 0, .null),
  (5, .iconst 4, 6, 0, 0, 0, .int 4),
  (6, .if_icmp .ge 30, 9, 0, 36, 0, .null),
  (9, .iload_n 2, 10, 0, 2, 0, .null),
  (10, .aload_n 0, 11, 0, 0, 0, .null),
  (11, .getfield 7, 14, 922, 5, 1, .null),
  (14, .bipush 13, 16, 0, 0, 0, .int 13),
  (16, .iload_n 3, 17, 0, 3, 0, .null),
  (17, .iadd, 18, 0, 0, 0, .null),
  (18, .iaload, 19, 0, 0, 0, .null),
  (19, .iload_n 1, 20, 0, 1, 0, .null),
  (20, .if_icmp .ne 7, 23, 0, 27, 0, .null),
  (23, .iconst 1, 24, 0, 0, 0, .int 1),
  (24, .goto 4, 27, 0, 28, 0, .null),
  (27, .iconst 0, 28, 0, 0, 0, .int 0),
  (28, .iadd, 29, 0, 0, 0, .null),
  (29, .istore_n 2, 30, 0, 2, 0, .null),
  (30, .iinc 3 1, 33, 0, 3, 0, .int 1),
  (33, .goto (-29), 36, 0, 4, 0, .null),
  (36, .iconst 0, 37, 0, 0, 0, .int 0),
  (37, .istore_n 3, 38, 0, 3, 0, .null),
  (38, .iload_n 3, 39, 0, 3, 0, .null),
  (39, .aload_n 0, 40, 0, 0, 0, .null),
  (40, .getfield 7, 43, 922, 5, 1, .null),
  (43, .iconst 1, 44, 0, 0, 0, .int 1),
  (44, .iaload, 45, 0, 0, 0, .null),
  (45, .if_icmp .ge 51, 48, 0, 96, 0, .null),
  (48, .iconst 0, 49, 0, 0, 0, .int 0),
  (49, .istore 4, 51, 0, 4, 0, .null),
  (51, .iload 4, 53, 0, 4, 0, .null),
  (53, .iconst 4, 54, 0, 0, 0, .int 4),
  (54, .if_icmp .ge 36, 57, 0, 90, 0, .null),
  (57, .aload_n 0, 58, 0, 0, 0, .null),
  (58, .iload_n 3, 59, 0, 3, 0, .null),
  (59, .invokevirtual 54, 62, 0, 0, 0, .null),
  (62, .ifCond .eq 28, 65, 0, 90, 0, .null),
  (65, .iload_n 2, 66, 0, 2, 0, .null),
  (66, .aload_n 0, 67, 0, 0, 0, .null),
  (67, .iload_n 3, 68, 0, 3, 0, .null),
  (68, .iload 4, 70, 0, 4, 0, .null),
  (70, .invokevirtual 58, 73, 0, 0, 0, .null),
  (73, .iload_n 1, 74, 0, 1, 0, .null),
  (74, .if_icmp .ne 7, 77, 0, 81, 0, .null),
  (77, .iconst 1, 78, 0, 0, 0, .int 1),
  (78, .goto 4, 81, 0, 82, 0, .null),
  (81, .iconst 0, 82, 0, 0, 0, .int 0),
  (82, .iadd, 83, 0, 0, 0, .null),
  (83, .istore_n 2, 84, 0, 2, 0, .null),
  (84, .iinc 4 1, 87, 0, 4, 0, .int 1),
  (87, .goto (-36), 90, 0, 51, 0, .null),
  (90, .iinc 3 1, 93, 0, 3, 0, .int 1),
  (93, .goto (-55), 96, 0, 38, 0, .null),
  (96, .aload_n 0, 97, 0, 0, 0, .null),
  (97, .iload_n 1, 98, 0, 1, 0, .null),
  (98, .invokevirtual 54, 101, 0, 0, 0, .null),
  (101, .ifCond .eq 7, 104, 0, 108, 0, .null),
  (104, .iload_n 2, 105, 0, 2, 0, .null),
  (105, .goto 4, 108, 0, 109, 0, .null),
  (108, .iconst 0, 109, 0, 0, 0, .int 0),
  (109, .ireturn, 110, 0, 0, 0, .null)]
def mm_X5_truth : ev_M := (RX5, "truth", cX5_truth, 5, (some .int), tb_X5_truth, 2, 43, 0, 0)
set_option maxRecDepth 100000 in
theorem ok_X5_truth : ev_OK mm_X5_truth := by unfold ev_OK; decide +kernel
theorem cv_X5_truth : ev_CV yX5_truth mm_X5_truth 5 1 := ⟨ev_has_in (k := 1060) (by decide +kernel), ev_has_in (k := 89) (by decide +kernel), ev_has_in (k := 1059) (by decide +kernel), ev_has_in (k := 48) (by decide +kernel), ⟨by decide +kernel, by decide +kernel, by decide +kernel⟩, rfl, by decide⟩
def tb_X5_underWay : ev_T := [(0, .iconst 0, 1, 0, 0, 0, .int 0),
  (1, .istore_n 2, 2, 0, 2, 0, .null),
  (2, .iconst 0, 3, 0, 0, 0, .int 0),
  (3, .istore_n 3, 4, 0, 3, 0, .null),
  (4, .iload_n 3, 5, 0, 3, 0, .null),
  (5, .aload_n 0, 6, 0, 0, 0, .null),
  (6, .getfield 7, 9, 922, 5, 1, .null),
  (9, .iconst 3, 10, 0, 0, 0, .int 3),
  (10, .iaload, 11, 0, 0, 0, .null),
  (11, .if_icmp .ge 27, 14, 0, 38, 0, .null),
  (14, .iload_n 2, 15, 0, 2, 0, .null),
  (15, .aload_n 0, 16, 0, 0, 0, .null),
  (16, .iload_n 3, 17, 0, 3, 0, .null),
  (17, .iconst 1, 18, 0, 0, 0, .int 1),
  (18, .invokevirtual 61, 21, 0, 0, 0, .null),
  (21, .iload_n 1, 22, 0, 1, 0, .null),
  (22, .if_icmp .ne 7, 25, 0, 29, 0, .null),
  (25, .iconst 1, 26, 0, 0, 0, .int 1),
  (26, .goto 4, 29, 0, 30, 0, .null),
  (29, .iconst 0, 30, 0, 0, 0, .int 0),
  (30, .iadd, 31, 0, 0, 0, .null),
  (31, .istore_n 2, 32, 0, 2, 0, .null),
  (32, .iinc 3 1, 35, 0, 3, 0, .int 1),
  (35, .goto (-31), 38, 0, 4, 0, .null),
  (38, .iload_n 2, 39, 0, 2, 0, .null),
  (39, .ireturn, 40, 0, 0, 0, .null)]
def mm_X5_underWay : ev_M := (RX5, "underWay", cX5_underWay, 4, (some .int), tb_X5_underWay, 1, 22, 0, 0)
set_option maxRecDepth 100000 in
theorem ok_X5_underWay : ev_OK mm_X5_underWay := by unfold ev_OK; decide +kernel
theorem cv_X5_underWay : ev_CV yX5_underWay mm_X5_underWay 5 1 := ⟨ev_has_in (k := 1056) (by decide +kernel), ev_has_in (k := 89) (by decide +kernel), ev_has_in (k := 1055) (by decide +kernel), ev_has_in (k := 47) (by decide +kernel), ⟨by decide +kernel, by decide +kernel, by decide +kernel⟩, rfl, by decide⟩
def tb_X5_sumUnderWay : ev_T := [(0, .iconst 0, 1, 0, 0, 0, .int 0),
  (1, .istore_n 2, 2, 0, 2, 0, .null),
  (2, .iconst 0, 3, 0, 0, 0, .int 0),
  (3, .istore_n 3, 4, 0, 3, 0, .null),
  (4, .iload_n 3, 5, 0, 3, 0, .null),
  (5, .aload_n 0, 6, 0, 0, 0, .null),
  (6, .getfield 7, 9, 922, 5, 1, .null),
  (9, .iconst 3, 10, 0, 0, 0, .int 3),
  (10, .iaload, 11, 0, 0, 0, .null),
  (11, .if_icmp .ge 32, 14, 0, 43, 0, .null),
  (14, .iload_n 2, 15, 0, 2, 0, .null),
  (15, .aload_n 0, 16, 0, 0, 0, .null),
  (16, .iload_n 3, 17, 0, 3, 0, .null),
  (17, .iconst 1, 18, 0, 0, 0, .int 1),
  (18, .invokevirtual 61, 21, 0, 0, 0, .null),
  (21, .iload_n 1, 22, 0, 1, 0, .null),
  (22, .if_icmp .ne 12, 25, 0, 34, 0, .null),
  (25, .aload_n 0, 26, 0, 0, 0, .null),
  (26, .iload_n 3, 27, 0, 3, 0, .null),
  (27, .iconst 2, 28, 0, 0, 0, .int 2),
  (28, .invokevirtual 61, 31, 0, 0, 0, .null),
  (31, .goto 4, 34, 0, 35, 0, .null),
  (34, .iconst 0, 35, 0, 0, 0, .int 0),
  (35, .iadd, 36, 0, 0, 0, .null),
  (36, .istore_n 2, 37, 0, 2, 0, .null),
  (37, .iinc 3 1, 40, 0, 3, 0, .int 1),
  (40, .goto (-36), 43, 0, 4, 0, .null),
  (43, .iload_n 2, 44, 0, 2, 0, .null),
  (44, .ireturn, 45, 0, 0, 0, .null)]
def mm_X5_sumUnderWay : ev_M := (RX5, "sumUnderWay", cX5_sumUnderWay, 4, (some .int), tb_X5_sumUnderWay, 1, 22, 0, 0)
set_option maxRecDepth 100000 in
theorem ok_X5_sumUnderWay : ev_OK mm_X5_sumUnderWay := by unfold ev_OK; decide +kernel
theorem cv_X5_sumUnderWay : ev_CV yX5_sumUnderWay mm_X5_sumUnderWay 5 1 := ⟨ev_has_in (k := 1162) (by decide +kernel), ev_has_in (k := 89) (by decide +kernel), ev_has_in (k := 1161) (by decide +kernel), ev_has_in (k := 65) (by decide +kernel), ⟨by decide +kernel, by decide +kernel, by decide +kernel⟩, rfl, by decide⟩
def tb_X5_suspects : ev_T := [(0, .iconst 0, 1, 0, 0, 0, .int 0),
  (1, .istore_n 1, 2, 0, 1, 0, .null),
  (2, .iconst 0, 3, 0, 0, 0, .int 0),
  (3, .istore_n 2, 4, 0, 2, 0, .null),
  (4, .iload_n 2, 5, 0, 2, 0, .null),
  (5, .aload_n 0, 6, 0, 0, 0, .null),
  (6, .getfield 7, 9, 922, 5, 1, .null),
  (9, .iconst 1, 10, 0, 0, 0, .int 1),
  (10, .iaload, 11, 0, 0, 0, .null),
  (11, .if_icmp .ge 18, 14, 0, 29, 0, .null),
  (14, .iload_n 1, 15, 0, 1, 0, .null),
  (15, .aload_n 0, 16, 0, 0, 0, .null),
  (16, .iload_n 2, 17, 0, 2, 0, .null),
  (17, .iconst 3, 18, 0, 0, 0, .int 3),
  (18, .invokevirtual 50, 21, 0, 0, 0, .null),
  (21, .iadd, 22, 0, 0, 0, .null),
  (22, .istore_n 1, 23, 0, 1, 0, .null),
  (23, .iinc 2 1, 26, 0, 2, 0, .int 1),
  (26, .goto (-22), 29, 0, 4, 0, .null),
  (29, .iload_n 1, 30, 0, 1, 0, .null),
  (30, .ireturn, 31, 0, 0, 0, .null)]
def mm_X5_suspects : ev_M := (RX5, "suspects", cX5_suspects, 3, (some .int), tb_X5_suspects, 1, 22, 0, 0)
set_option maxRecDepth 100000 in
theorem ok_X5_suspects : ev_OK mm_X5_suspects := by unfold ev_OK; decide +kernel
theorem cv_X5_suspects : ev_CV yX5_suspects mm_X5_suspects 5 0 := ⟨ev_has_in (k := 1096) (by decide +kernel), ev_has_in (k := 89) (by decide +kernel), ev_has_in (k := 1095) (by decide +kernel), ev_has_in (k := 54) (by decide +kernel), ⟨by decide +kernel, by decide +kernel, by decide +kernel⟩, rfl, by decide⟩
def tb_X5_spread : ev_T := [(0, .iconst 1, 1, 0, 0, 0, .int 1),
  (1, .istore_n 2, 2, 0, 2, 0, .null),
  (2, .iload_n 2, 3, 0, 2, 0, .null),
  (3, .ifCond .eq 85, 6, 0, 88, 0, .null),
  (6, .iconst 0, 7, 0, 0, 0, .int 0),
  (7, .istore_n 2, 8, 0, 2, 0, .null),
  (8, .iconst 0, 9, 0, 0, 0, .int 0),
  (9, .istore_n 3, 10, 0, 3, 0, .null),
  (10, .iload_n 3, 11, 0, 3, 0, .null),
  (11, .aload_n 0, 12, 0, 0, 0, .null),
  (12, .getfield 7, 15, 922, 5, 1, .null),
  (15, .iconst 1, 16, 0, 0, 0, .int 1),
  (16, .iaload, 17, 0, 0, 0, .null),
  (17, .if_icmp .ge 68, 20, 0, 85, 0, .null),
  (20, .iconst 0, 21, 0, 0, 0, .int 0),
  (21, .istore 4, 23, 0, 4, 0, .null),
  (23, .iload 4, 25, 0, 4, 0, .null),
  (25, .iconst 4, 26, 0, 0, 0, .int 4),
  (26, .if_icmp .ge 53, 29, 0, 79, 0, .null),
  (29, .aload_n 1, 30, 0, 1, 0, .null),
  (30, .iload_n 3, 31, 0, 3, 0, .null),
  (31, .iaload, 32, 0, 0, 0, .null),
  (32, .iconst 1, 33, 0, 0, 0, .int 1),
  (33, .if_icmp .ne 46, 36, 0, 79, 0, .null),
  (36, .aload_n 0, 37, 0, 0, 0, .null),
  (37, .iload_n 3, 38, 0, 3, 0, .null),
  (38, .invokevirtual 54, 41, 0, 0, 0, .null),
  (41, .ifCond .eq 38, 44, 0, 79, 0, .null),
  (44, .aload_n 0, 45, 0, 0, 0, .null),
  (45, .iload_n 3, 46, 0, 3, 0, .null),
  (46, .iload 4, 48, 0, 4, 0, .null),
  (48, .invokevirtual 58, 51, 0, 0, 0, .null),
  (51, .istore 5, 53, 0, 5, 0, .null),
  (53, .iload 5, 55, 0, 5, 0, .null),
  (55, .iconst (-1), 56, 0, 0, 0, .int (-1)),
  (56, .if_icmp .eq 17, 59, 0, 73, 0, .null),
  (59, .aload_n 1, 60, 0, 1, 0, .null),
  (60, .iload 5, 62, 0, 5, 0, .null),
  (62, .iaload, 63, 0, 0, 0, .null),
  (63, .ifCond .ne 10, 66, 0, 73, 0, .null),
  (66, .aload_n 1, 67, 0, 1, 0, .null),
  (67, .iload 5, 69, 0, 5, 0, .null),
  (69, .iconst 1, 70, 0, 0, 0, .int 1),
  (70, .iastore, 71, 0, 0, 0, .null),
  (71, .iconst 1, 72, 0, 0, 0, .int 1),
  (72, .istore_n 2, 73, 0, 2, 0, .null),
  (73, .iinc 4 1, 76, 0, 4, 0, .int 1),
  (76, .goto (-53), 79, 0, 23, 0, .null),
  (79, .iinc 3 1, 82, 0, 3, 0, .int 1),
  (82, .goto (-72), 85, 0, 10, 0, .null),
  (85, .goto (-83), 88, 0, 2, 0, .null),
  (88, .return_, 89, 0, 0, 0, .null)]
def mm_X5_spread : ev_M := (RX5, "spread", cX5_spread, 6, none, tb_X5_spread, 2, 43, 0, 0)
set_option maxRecDepth 100000 in
theorem ok_X5_spread : ev_OK mm_X5_spread := by unfold ev_OK; decide +kernel
theorem cv_X5_spread : ev_CV yX5_spread mm_X5_spread 5 1 := ⟨ev_has_in (k := 1138) (by decide +kernel), ev_has_in (k := 89) (by decide +kernel), ev_has_in (k := 1137) (by decide +kernel), ev_has_in (k := 61) (by decide +kernel), ⟨by decide +kernel, by decide +kernel, by decide +kernel⟩, rfl, by decide⟩
def tb_X5_clear : ev_T := [(0, .iconst 0, 1, 0, 0, 0, .int 0),
  (1, .istore_n 1, 2, 0, 1, 0, .null),
  (2, .iload_n 1, 3, 0, 1, 0, .null),
  (3, .bipush 24, 5, 0, 0, 0, .int 24),
  (5, .if_icmp .ge 13, 8, 0, 18, 0, .null),
  (8, .aload_n 0, 9, 0, 0, 0, .null),
  (9, .iload_n 1, 10, 0, 1, 0, .null),
  (10, .iconst 0, 11, 0, 0, 0, .int 0),
  (11, .iastore, 12, 0, 0, 0, .null),
  (12, .iinc 1 1, 15, 0, 1, 0, .int 1),
  (15, .goto (-13), 18, 0, 2, 0, .null),
  (18, .return_, 19, 0, 0, 0, .null)]
def mm_X5_clear : ev_M := (RX5, "clear", cX5_clear, 2, none, tb_X5_clear, 0, 0, 0, 0)
set_option maxRecDepth 100000 in
theorem ok_X5_clear : ev_OK mm_X5_clear := by unfold ev_OK; decide +kernel
theorem cs_X5_clear : ev_CS yX5_clear mm_X5_clear 1 := ⟨ev_has_in (k := 1134) (by decide +kernel), ev_has_in (k := 89) (by decide +kernel), ev_has_in (k := 1133) (by decide +kernel), ⟨by decide +kernel, by decide +kernel, by decide +kernel⟩⟩
def tb_X5_findReached : ev_T := [(0, .aload_n 0, 1, 0, 0, 0, .null),
  (1, .getfield 23, 4, 928, 5, 7, .null),
  (4, .invokestatic 64, 7, 0, 0, 0, .null),
  (7, .iconst 0, 8, 0, 0, 0, .int 0),
  (8, .istore_n 1, 9, 0, 1, 0, .null),
  (9, .iload_n 1, 10, 0, 1, 0, .null),
  (10, .iconst 4, 11, 0, 0, 0, .int 4),
  (11, .if_icmp .ge 37, 14, 0, 48, 0, .null),
  (14, .aload_n 0, 15, 0, 0, 0, .null),
  (15, .getfield 7, 18, 922, 5, 1, .null),
  (18, .bipush 13, 20, 0, 0, 0, .int 13),
  (20, .iload_n 1, 21, 0, 1, 0, .null),
  (21, .iadd, 22, 0, 0, 0, .null),
  (22, .iaload, 23, 0, 0, 0, .null),
  (23, .iconst (-1), 24, 0, 0, 0, .int (-1)),
  (24, .if_icmp .eq 18, 27, 0, 42, 0, .null),
  (27, .aload_n 0, 28, 0, 0, 0, .null),
  (28, .getfield 23, 31, 928, 5, 7, .null),
  (31, .aload_n 0, 32, 0, 0, 0, .null),
  (32, .getfield 7, 35, 922, 5, 1, .null),
  (35, .bipush 13, 37, 0, 0, 0, .int 13),
  (37, .iload_n 1, 38, 0, 1, 0, .null),
  (38, .iadd, 39, 0, 0, 0, .null),
  (39, .iaload, 40, 0, 0, 0, .null),
  (40, .iconst 1, 41, 0, 0, 0, .int 1),
  (41, .iastore, 42, 0, 0, 0, .null),
  (42, .iinc 1 1, 45, 0, 1, 0, .int 1),
  (45, .goto (-36), 48, 0, 9, 0, .null),
  (48, .aload_n 0, 49, 0, 0, 0, .null),
  (49, .aload_n 0, 50, 0, 0, 0, .null),
  (50, .getfield 23, 53, 928, 5, 7, .null),
  (53, .invokevirtual 68, 56, 0, 0, 0, .null),
  (56, .iconst 0, 57, 0, 0, 0, .int 0),
  (57, .istore_n 1, 58, 0, 1, 0, .null),
  (58, .iconst 0, 59, 0, 0, 0, .int 0),
  (59, .istore_n 2, 60, 0, 2, 0, .null),
  (60, .iload_n 2, 61, 0, 2, 0, .null),
  (61, .bipush 24, 63, 0, 0, 0, .int 24),
  (63, .if_icmp .ge 18, 66, 0, 81, 0, .null),
  (66, .iload_n 1, 67, 0, 1, 0, .null),
  (67, .aload_n 0, 68, 0, 0, 0, .null),
  (68, .getfield 23, 71, 928, 5, 7, .null),
  (71, .iload_n 2, 72, 0, 2, 0, .null),
  (72, .iaload, 73, 0, 0, 0, .null),
  (73, .iadd, 74, 0, 0, 0, .null),
  (74, .istore_n 1, 75, 0, 1, 0, .null),
  (75, .iinc 2 1, 78, 0, 2, 0, .int 1),
  (78, .goto (-18), 81, 0, 60, 0, .null),
  (81, .iload_n 1, 82, 0, 1, 0, .null),
  (82, .ireturn, 83, 0, 0, 0, .null)]
def mm_X5_findReached : ev_M := (RX5, "findReached", cX5_findReached, 3, (some .int), tb_X5_findReached, 3, 68, 0, 0)
set_option maxRecDepth 100000 in
theorem ok_X5_findReached : ev_OK mm_X5_findReached := by unfold ev_OK; decide +kernel
theorem cv_X5_findReached : ev_CV yX5_findReached mm_X5_findReached 5 0 := ⟨ev_has_in (k := 1218) (by decide +kernel), ev_has_in (k := 89) (by decide +kernel), ev_has_in (k := 1217) (by decide +kernel), ev_has_in (k := 70) (by decide +kernel), ⟨by decide +kernel, by decide +kernel, by decide +kernel⟩, rfl, by decide⟩
def tb_X5_addReport : ev_T := [(0, .sipush 377, 3, 0, 0, 0, .int 377),
  (3, .iconst 5, 4, 0, 0, 0, .int 5),
  (4, .aload_n 0, 5, 0, 0, 0, .null),
  (5, .getfield 7, 8, 922, 5, 1, .null),
  (8, .iconst 3, 9, 0, 0, 0, .int 3),
  (9, .iaload, 10, 0, 0, 0, .null),
  (10, .imul, 11, 0, 0, 0, .null),
  (11, .iadd, 12, 0, 0, 0, .null),
  (12, .istore 4, 14, 0, 4, 0, .null),
  (14, .aload_n 0, 15, 0, 0, 0, .null),
  (15, .getfield 7, 18, 922, 5, 1, .null),
  (18, .iconst 2, 19, 0, 0, 0, .int 2),
  (19, .iaload, 20, 0, 0, 0, .null),
  (20, .istore 5, 22, 0, 5, 0, .null),
  (22, .aload_n 0, 23, 0, 0, 0, .null),
  (23, .getfield 7, 26, 922, 5, 1, .null),
  (26, .iload 4, 28, 0, 4, 0, .null),
  (28, .iconst 0, 29, 0, 0, 0, .int 0),
  (29, .iadd, 30, 0, 0, 0, .null),
  (30, .iload 5, 32, 0, 5, 0, .null),
  (32, .iastore, 33, 0, 0, 0, .null),
  (33, .aload_n 0, 34, 0, 0, 0, .null),
  (34, .getfield 7, 37, 922, 5, 1, .null),
  (37, .iload 4, 39, 0, 4, 0, .null),
  (39, .iconst 1, 40, 0, 0, 0, .int 1),
  (40, .iadd, 41, 0, 0, 0, .null),
  (41, .iload_n 1, 42, 0, 1, 0, .null),
  (42, .iastore, 43, 0, 0, 0, .null),
  (43, .aload_n 0, 44, 0, 0, 0, .null),
  (44, .getfield 7, 47, 922, 5, 1, .null),
  (47, .iload 4, 49, 0, 4, 0, .null),
  (49, .iconst 2, 50, 0, 0, 0, .int 2),
  (50, .iadd, 51, 0, 0, 0, .null),
  (51, .iload_n 2, 52, 0, 2, 0, .null),
  (52, .iastore, 53, 0, 0, 0, .null),
  (53, .aload_n 0, 54, 0, 0, 0, .null),
  (54, .getfield 7, 57, 922, 5, 1, .null),
  (57, .iload 4, 59, 0, 4, 0, .null),
  (59, .iconst 3, 60, 0, 0, 0, .int 3),
  (60, .iadd, 61, 0, 0, 0, .null),
  (61, .aload_n 0, 62, 0, 0, 0, .null),
  (62, .getfield 7, 65, 922, 5, 1, .null),
  (65, .iconst 0, 66, 0, 0, 0, .int 0),
  (66, .iaload, 67, 0, 0, 0, .null),
  (67, .aload_n 0, 68, 0, 0, 0, .null),
  (68, .getfield 7, 71, 922, 5, 1, .null),
  (71, .bipush 8, 73, 0, 0, 0, .int 8),
  (73, .iload_n 1, 74, 0, 1, 0, .null),
  (74, .iconst 3, 75, 0, 0, 0, .int 3),
  (75, .irem, 76, 0, 0, 0, .null),
  (76, .iadd, 77, 0, 0, 0, .null),
  (77, .iaload, 78, 0, 0, 0, .null),
  (78, .iadd, 79, 0, 0, 0, .null),
  (79, .iastore, 80, 0, 0, 0, .null),
  (80, .aload_n 0, 81, 0, 0, 0, .null),
  (81, .getfield 7, 84, 922, 5, 1, .null),
  (84, .iload 4, 86, 0, 4, 0, .null),
  (86, .iconst 4, 87, 0, 0, 0, .int 4),
  (87, .iadd, 88, 0, 0, 0, .null),
  (88, .iload_n 3, 89, 0, 3, 0, .null),
  (89, .iastore, 90, 0, 0, 0, .null),
  (90, .aload_n 0, 91, 0, 0, 0, .null),
  (91, .getfield 7, 94, 922, 5, 1, .null),
  (94, .iconst 3, 95, 0, 0, 0, .int 3),
  (95, .dup2, 96, 0, 0, 0, .null),
  (96, .iaload, 97, 0, 0, 0, .null),
  (97, .iconst 1, 98, 0, 0, 0, .int 1),
  (98, .iadd, 99, 0, 0, 0, .null),
  (99, .iastore, 100, 0, 0, 0, .null),
  (100, .aload_n 0, 101, 0, 0, 0, .null),
  (101, .getfield 7, 104, 922, 5, 1, .null),
  (104, .iconst 2, 105, 0, 0, 0, .int 2),
  (105, .dup2, 106, 0, 0, 0, .null),
  (106, .iaload, 107, 0, 0, 0, .null),
  (107, .iconst 1, 108, 0, 0, 0, .int 1),
  (108, .iadd, 109, 0, 0, 0, .null),
  (109, .iastore, 110, 0, 0, 0, .null),
  (110, .iload 5, 112, 0, 5, 0, .null),
  (112, .ireturn, 113, 0, 0, 0, .null)]
def mm_X5_addReport : ev_M := (RX5, "addReport", cX5_addReport, 6, (some .int), tb_X5_addReport, 0, 0, 0, 0)
set_option maxRecDepth 100000 in
theorem ok_X5_addReport : ev_OK mm_X5_addReport := by unfold ev_OK; decide +kernel
theorem cv_X5_addReport : ev_CV yX5_addReport mm_X5_addReport 5 3 := ⟨ev_has_in (k := 1032) (by decide +kernel), ev_has_in (k := 89) (by decide +kernel), ev_has_in (k := 1031) (by decide +kernel), ev_has_in (k := 41) (by decide +kernel), ⟨by decide +kernel, by decide +kernel, by decide +kernel⟩, rfl, by decide⟩
def tb_X5_atPlace : ev_T := [(0, .iconst (-1), 1, 0, 0, 0, .int (-1)),
  (1, .istore_n 2, 2, 0, 2, 0, .null),
  (2, .iconst 0, 3, 0, 0, 0, .int 0),
  (3, .istore_n 3, 4, 0, 3, 0, .null),
  (4, .iload_n 3, 5, 0, 3, 0, .null),
  (5, .aload_n 0, 6, 0, 0, 0, .null),
  (6, .getfield 7, 9, 922, 5, 1, .null),
  (9, .iconst 3, 10, 0, 0, 0, .int 3),
  (10, .iaload, 11, 0, 0, 0, .null),
  (11, .if_icmp .ge 91, 14, 0, 102, 0, .null),
  (14, .iload_n 2, 15, 0, 2, 0, .null),
  (15, .iconst (-1), 16, 0, 0, 0, .int (-1)),
  (16, .if_icmp .ne 86, 19, 0, 102, 0, .null),
  (19, .iconst 0, 20, 0, 0, 0, .int 0),
  (20, .istore 4, 22, 0, 4, 0, .null),
  (22, .iconst 0, 23, 0, 0, 0, .int 0),
  (23, .istore 5, 25, 0, 5, 0, .null),
  (25, .iload 5, 27, 0, 5, 0, .null),
  (27, .aload_n 0, 28, 0, 0, 0, .null),
  (28, .getfield 7, 31, 922, 5, 1, .null),
  (31, .iconst 3, 32, 0, 0, 0, .int 3),
  (32, .iaload, 33, 0, 0, 0, .null),
  (33, .if_icmp .ge 51, 36, 0, 84, 0, .null),
  (36, .aload_n 0, 37, 0, 0, 0, .null),
  (37, .iload 5, 39, 0, 5, 0, .null),
  (39, .iconst 3, 40, 0, 0, 0, .int 3),
  (40, .invokevirtual 61, 43, 0, 0, 0, .null),
  (43, .aload_n 0, 44, 0, 0, 0, .null),
  (44, .iload_n 3, 45, 0, 3, 0, .null),
  (45, .iconst 3, 46, 0, 0, 0, .int 3),
  (46, .invokevirtual 61, 49, 0, 0, 0, .null),
  (49, .isub, 50, 0, 0, 0, .null),
  (50, .istore 6, 52, 0, 6, 0, .null),
  (52, .iload 4, 54, 0, 4, 0, .null),
  (54, .iload 6, 56, 0, 6, 0, .null),
  (56, .ifCond .lt 14, 59, 0, 70, 0, .null),
  (59, .iload 6, 61, 0, 6, 0, .null),
  (61, .ifCond .ne 13, 64, 0, 74, 0, .null),
  (64, .iload 5, 66, 0, 5, 0, .null),
  (66, .iload_n 3, 67, 0, 3, 0, .null),
  (67, .if_icmp .ge 7, 70, 0, 74, 0, .null),
  (70, .iconst 1, 71, 0, 0, 0, .int 1),
  (71, .goto 4, 74, 0, 75, 0, .null),
  (74, .iconst 0, 75, 0, 0, 0, .int 0),
  (75, .iadd, 76, 0, 0, 0, .null),
  (76, .istore 4, 78, 0, 4, 0, .null),
  (78, .iinc 5 1, 81, 0, 5, 0, .int 1),
  (81, .goto (-56), 84, 0, 25, 0, .null),
  (84, .iload 4, 86, 0, 4, 0, .null),
  (86, .iload_n 1, 87, 0, 1, 0, .null),
  (87, .if_icmp .ne 7, 90, 0, 94, 0, .null),
  (90, .iload_n 3, 91, 0, 3, 0, .null),
  (91, .goto 4, 94, 0, 95, 0, .null),
  (94, .iconst (-1), 95, 0, 0, 0, .int (-1)),
  (95, .istore_n 2, 96, 0, 2, 0, .null),
  (96, .iinc 3 1, 99, 0, 3, 0, .int 1),
  (99, .goto (-95), 102, 0, 4, 0, .null),
  (102, .iload_n 2, 103, 0, 2, 0, .null),
  (103, .ireturn, 104, 0, 0, 0, .null)]
def mm_X5_atPlace : ev_M := (RX5, "atPlace", cX5_atPlace, 7, (some .int), tb_X5_atPlace, 1, 22, 0, 0)
set_option maxRecDepth 100000 in
theorem ok_X5_atPlace : ev_OK mm_X5_atPlace := by unfold ev_OK; decide +kernel
theorem cv_X5_atPlace : ev_CV yX5_atPlace mm_X5_atPlace 5 1 := ⟨ev_has_in (k := 1234) (by decide +kernel), ev_has_in (k := 89) (by decide +kernel), ev_has_in (k := 1233) (by decide +kernel), ev_has_in (k := 71) (by decide +kernel), ⟨by decide +kernel, by decide +kernel, by decide +kernel⟩, rfl, by decide⟩
def tb_X5_firstDue : ev_T := [(0, .iconst (-1), 1, 0, 0, 0, .int (-1)),
  (1, .istore_n 1, 2, 0, 1, 0, .null),
  (2, .iconst 0, 3, 0, 0, 0, .int 0),
  (3, .istore_n 2, 4, 0, 2, 0, .null),
  (4, .iload_n 2, 5, 0, 2, 0, .null),
  (5, .aload_n 0, 6, 0, 0, 0, .null),
  (6, .getfield 7, 9, 922, 5, 1, .null),
  (9, .iconst 3, 10, 0, 0, 0, .int 3),
  (10, .iaload, 11, 0, 0, 0, .null),
  (11, .if_icmp .ge 60, 14, 0, 71, 0, .null),
  (14, .aload_n 0, 15, 0, 0, 0, .null),
  (15, .iload_n 2, 16, 0, 2, 0, .null),
  (16, .iconst 3, 17, 0, 0, 0, .int 3),
  (17, .invokevirtual 61, 20, 0, 0, 0, .null),
  (20, .aload_n 0, 21, 0, 0, 0, .null),
  (21, .getfield 7, 24, 922, 5, 1, .null),
  (24, .iconst 0, 25, 0, 0, 0, .int 0),
  (25, .iaload, 26, 0, 0, 0, .null),
  (26, .if_icmp .gt 7, 29, 0, 33, 0, .null),
  (29, .iconst 1, 30, 0, 0, 0, .int 1),
  (30, .goto 4, 33, 0, 34, 0, .null),
  (33, .iconst 0, 34, 0, 0, 0, .int 0),
  (34, .istore_n 3, 35, 0, 3, 0, .null),
  (35, .iload_n 3, 36, 0, 3, 0, .null),
  (36, .ifCond .eq 27, 39, 0, 63, 0, .null),
  (39, .iload_n 1, 40, 0, 1, 0, .null),
  (40, .iconst (-1), 41, 0, 0, 0, .int (-1)),
  (41, .if_icmp .eq 18, 44, 0, 59, 0, .null),
  (44, .aload_n 0, 45, 0, 0, 0, .null),
  (45, .iload_n 2, 46, 0, 2, 0, .null),
  (46, .iconst 3, 47, 0, 0, 0, .int 3),
  (47, .invokevirtual 61, 50, 0, 0, 0, .null),
  (50, .aload_n 0, 51, 0, 0, 0, .null),
  (51, .iload_n 1, 52, 0, 1, 0, .null),
  (52, .iconst 3, 53, 0, 0, 0, .int 3),
  (53, .invokevirtual 61, 56, 0, 0, 0, .null),
  (56, .if_icmp .ge 7, 59, 0, 63, 0, .null),
  (59, .iload_n 2, 60, 0, 2, 0, .null),
  (60, .goto 4, 63, 0, 64, 0, .null),
  (63, .iload_n 1, 64, 0, 1, 0, .null),
  (64, .istore_n 1, 65, 0, 1, 0, .null),
  (65, .iinc 2 1, 68, 0, 2, 0, .int 1),
  (68, .goto (-64), 71, 0, 4, 0, .null),
  (71, .iload_n 1, 72, 0, 1, 0, .null),
  (72, .ireturn, 73, 0, 0, 0, .null)]
def mm_X5_firstDue : ev_M := (RX5, "firstDue", cX5_firstDue, 4, (some .int), tb_X5_firstDue, 1, 22, 0, 0)
set_option maxRecDepth 100000 in
theorem ok_X5_firstDue : ev_OK mm_X5_firstDue := by unfold ev_OK; decide +kernel
theorem cv_X5_firstDue : ev_CV yX5_firstDue mm_X5_firstDue 5 0 := ⟨ev_has_in (k := 1040) (by decide +kernel), ev_has_in (k := 89) (by decide +kernel), ev_has_in (k := 1039) (by decide +kernel), ev_has_in (k := 43) (by decide +kernel), ⟨by decide +kernel, by decide +kernel, by decide +kernel⟩, rfl, by decide⟩
def tb_X5_dropReport : ev_T := [(0, .sipush 377, 3, 0, 0, 0, .int 377),
  (3, .iconst 5, 4, 0, 0, 0, .int 5),
  (4, .iload_n 1, 5, 0, 1, 0, .null),
  (5, .imul, 6, 0, 0, 0, .null),
  (6, .iadd, 7, 0, 0, 0, .null),
  (7, .istore_n 2, 8, 0, 2, 0, .null),
  (8, .iload_n 2, 9, 0, 2, 0, .null),
  (9, .sipush 377, 12, 0, 0, 0, .int 377),
  (12, .iconst 5, 13, 0, 0, 0, .int 5),
  (13, .aload_n 0, 14, 0, 0, 0, .null),
  (14, .getfield 7, 17, 922, 5, 1, .null),
  (17, .iconst 3, 18, 0, 0, 0, .int 3),
  (18, .iaload, 19, 0, 0, 0, .null),
  (19, .iconst 1, 20, 0, 0, 0, .int 1),
  (20, .isub, 21, 0, 0, 0, .null),
  (21, .imul, 22, 0, 0, 0, .null),
  (22, .iadd, 23, 0, 0, 0, .null),
  (23, .if_icmp .ge 23, 26, 0, 46, 0, .null),
  (26, .aload_n 0, 27, 0, 0, 0, .null),
  (27, .getfield 7, 30, 922, 5, 1, .null),
  (30, .iload_n 2, 31, 0, 2, 0, .null),
  (31, .aload_n 0, 32, 0, 0, 0, .null),
  (32, .getfield 7, 35, 922, 5, 1, .null),
  (35, .iload_n 2, 36, 0, 2, 0, .null),
  (36, .iconst 5, 37, 0, 0, 0, .int 5),
  (37, .iadd, 38, 0, 0, 0, .null),
  (38, .iaload, 39, 0, 0, 0, .null),
  (39, .iastore, 40, 0, 0, 0, .null),
  (40, .iinc 2 1, 43, 0, 2, 0, .int 1),
  (43, .goto (-35), 46, 0, 8, 0, .null),
  (46, .aload_n 0, 47, 0, 0, 0, .null),
  (47, .getfield 7, 50, 922, 5, 1, .null),
  (50, .iconst 3, 51, 0, 0, 0, .int 3),
  (51, .dup2, 52, 0, 0, 0, .null),
  (52, .iaload, 53, 0, 0, 0, .null),
  (53, .iconst 1, 54, 0, 0, 0, .int 1),
  (54, .isub, 55, 0, 0, 0, .null),
  (55, .iastore, 56, 0, 0, 0, .null),
  (56, .return_, 57, 0, 0, 0, .null)]
def mm_X5_dropReport : ev_M := (RX5, "dropReport", cX5_dropReport, 3, none, tb_X5_dropReport, 0, 0, 0, 0)
set_option maxRecDepth 100000 in
theorem ok_X5_dropReport : ev_OK mm_X5_dropReport := by unfold ev_OK; decide +kernel
theorem cv_X5_dropReport : ev_CV yX5_dropReport mm_X5_dropReport 5 1 := ⟨ev_has_in (k := 1052) (by decide +kernel), ev_has_in (k := 89) (by decide +kernel), ev_has_in (k := 1051) (by decide +kernel), ev_has_in (k := 46) (by decide +kernel), ⟨by decide +kernel, by decide +kernel, by decide +kernel⟩, rfl, by decide⟩
def tb_X5_ends : ev_T := [(0, .aload_n 0, 1, 0, 0, 0, .null),
  (1, .iload_n 1, 2, 0, 1, 0, .null),
  (2, .iconst 0, 3, 0, 0, 0, .int 0),
  (3, .iconst 0, 4, 0, 0, 0, .int 0),
  (4, .invokevirtual 71, 7, 0, 0, 0, .null),
  (7, .aload_n 0, 8, 0, 0, 0, .null),
  (8, .iload_n 1, 9, 0, 1, 0, .null),
  (9, .iconst 3, 10, 0, 0, 0, .int 3),
  (10, .iconst 0, 11, 0, 0, 0, .int 0),
  (11, .invokevirtual 71, 14, 0, 0, 0, .null),
  (14, .aload_n 0, 15, 0, 0, 0, .null),
  (15, .iload_n 1, 16, 0, 1, 0, .null),
  (16, .bipush 7, 18, 0, 0, 0, .int 7),
  (18, .iload_n 2, 19, 0, 2, 0, .null),
  (19, .invokevirtual 71, 22, 0, 0, 0, .null),
  (22, .aload_n 0, 23, 0, 0, 0, .null),
  (23, .iload_n 1, 24, 0, 1, 0, .null),
  (24, .iconst 5, 25, 0, 0, 0, .int 5),
  (25, .aload_n 0, 26, 0, 0, 0, .null),
  (26, .getfield 7, 29, 922, 5, 1, .null),
  (29, .iconst 4, 30, 0, 0, 0, .int 4),
  (30, .iaload, 31, 0, 0, 0, .null),
  (31, .invokevirtual 71, 34, 0, 0, 0, .null),
  (34, .aload_n 0, 35, 0, 0, 0, .null),
  (35, .iload_n 1, 36, 0, 1, 0, .null),
  (36, .bipush 6, 38, 0, 0, 0, .int 6),
  (38, .aload_n 0, 39, 0, 0, 0, .null),
  (39, .getfield 7, 42, 922, 5, 1, .null),
  (42, .iconst 0, 43, 0, 0, 0, .int 0),
  (43, .iaload, 44, 0, 0, 0, .null),
  (44, .invokevirtual 71, 47, 0, 0, 0, .null),
  (47, .aload_n 0, 48, 0, 0, 0, .null),
  (48, .getfield 7, 51, 922, 5, 1, .null),
  (51, .sipush 353, 54, 0, 0, 0, .int 353),
  (54, .aload_n 0, 55, 0, 0, 0, .null),
  (55, .getfield 7, 58, 922, 5, 1, .null),
  (58, .iconst 4, 59, 0, 0, 0, .int 4),
  (59, .iaload, 60, 0, 0, 0, .null),
  (60, .iadd, 61, 0, 0, 0, .null),
  (61, .iload_n 1, 62, 0, 1, 0, .null),
  (62, .iastore, 63, 0, 0, 0, .null),
  (63, .aload_n 0, 64, 0, 0, 0, .null),
  (64, .getfield 7, 67, 922, 5, 1, .null),
  (67, .iconst 4, 68, 0, 0, 0, .int 4),
  (68, .dup2, 69, 0, 0, 0, .null),
  (69, .iaload, 70, 0, 0, 0, .null),
  (70, .iconst 1, 71, 0, 0, 0, .int 1),
  (71, .iadd, 72, 0, 0, 0, .null),
  (72, .iastore, 73, 0, 0, 0, .null),
  (73, .aload_n 0, 74, 0, 0, 0, .null),
  (74, .getfield 7, 77, 922, 5, 1, .null),
  (77, .iconst 5, 78, 0, 0, 0, .int 5),
  (78, .dup2, 79, 0, 0, 0, .null),
  (79, .iaload, 80, 0, 0, 0, .null),
  (80, .iload_n 2, 81, 0, 2, 0, .null),
  (81, .iconst 2, 82, 0, 0, 0, .int 2),
  (82, .if_icmp .ne 7, 85, 0, 89, 0, .null),
  (85, .iconst 1, 86, 0, 0, 0, .int 1),
  (86, .goto 4, 89, 0, 90, 0, .null),
  (89, .iconst 0, 90, 0, 0, 0, .int 0),
  (90, .iadd, 91, 0, 0, 0, .null),
  (91, .iastore, 92, 0, 0, 0, .null),
  (92, .iconst 0, 93, 0, 0, 0, .int 0),
  (93, .istore_n 3, 94, 0, 3, 0, .null),
  (94, .iload_n 3, 95, 0, 3, 0, .null),
  (95, .iconst 4, 96, 0, 0, 0, .int 4),
  (96, .if_icmp .ge 63, 99, 0, 159, 0, .null),
  (99, .aload_n 0, 100, 0, 0, 0, .null),
  (100, .iload_n 1, 101, 0, 1, 0, .null),
  (101, .iload_n 3, 102, 0, 3, 0, .null),
  (102, .invokevirtual 58, 105, 0, 0, 0, .null),
  (105, .istore 4, 107, 0, 4, 0, .null),
  (107, .aload_n 0, 108, 0, 0, 0, .null),
  (108, .getfield 7, 111, 922, 5, 1, .null),
  (111, .sipush 257, 114, 0, 0, 0, .int 257),
  (114, .iconst 4, 115, 0, 0, 0, .int 4),
  (115, .iload_n 1, 116, 0, 1, 0, .null),
  (116, .imul, 117, 0, 0, 0, .null),
  (117, .iadd, 118, 0, 0, 0, .null),
  (118, .iload_n 3, 119, 0, 3, 0, .null),
  (119, .iadd, 120, 0, 0, 0, .null),
  (120, .iconst (-1), 121, 0, 0, 0, .int (-1)),
  (121, .iastore, 122, 0, 0, 0, .null),
  (122, .iload 4, 124, 0, 4, 0, .null),
  (124, .iconst (-1), 125, 0, 0, 0, .int (-1)),
  (125, .if_icmp .eq 28, 128, 0, 153, 0, .null),
  (128, .iload 4, 130, 0, 4, 0, .null),
  (130, .iload_n 1, 131, 0, 1, 0, .null),
  (131, .if_icmp .eq 22, 134, 0, 153, 0, .null),
  (134, .aload_n 0, 135, 0, 0, 0, .null),
  (135, .iload 4, 137, 0, 4, 0, .null),
  (137, .iload_n 2, 138, 0, 2, 0, .null),
  (138, .invokevirtual 75, 141, 0, 0, 0, .null),
  (141, .ifCond .ne 12, 144, 0, 153, 0, .null),
  (144, .aload_n 0, 145, 0, 0, 0, .null),
  (145, .iload 4, 147, 0, 4, 0, .null),
  (147, .iconst (-1), 148, 0, 0, 0, .int (-1)),
  (148, .iconst 0, 149, 0, 0, 0, .int 0),
  (149, .invokevirtual 79, 152, 0, 0, 0, .null),
  (152, .pop, 153, 0, 0, 0, .null),
  (153, .iinc 3 1, 156, 0, 3, 0, .int 1),
  (156, .goto (-62), 159, 0, 94, 0, .null),
  (159, .iconst 0, 160, 0, 0, 0, .int 0),
  (160, .istore_n 3, 161, 0, 3, 0, .null),
  (161, .iconst 0, 162, 0, 0, 0, .int 0),
  (162, .istore 4, 164, 0, 4, 0, .null),
  (164, .iload 4, 166, 0, 4, 0, .null),
  (166, .iconst 4, 167, 0, 0, 0, .int 4),
  (167, .if_icmp .ge 71, 170, 0, 238, 0, .null),
  (170, .iload_n 3, 171, 0, 3, 0, .null),
  (171, .ifCond .ne 17, 174, 0, 188, 0, .null),
  (174, .aload_n 0, 175, 0, 0, 0, .null),
  (175, .getfield 7, 178, 922, 5, 1, .null),
  (178, .bipush 13, 180, 0, 0, 0, .int 13),
  (180, .iload 4, 182, 0, 4, 0, .null),
  (182, .iadd, 183, 0, 0, 0, .null),
  (183, .iaload, 184, 0, 0, 0, .null),
  (184, .iload_n 1, 185, 0, 1, 0, .null),
  (185, .if_icmp .ne 7, 188, 0, 192, 0, .null),
  (188, .iconst 1, 189, 0, 0, 0, .int 1),
  (189, .goto 4, 192, 0, 193, 0, .null),
  (192, .iconst 0, 193, 0, 0, 0, .int 0),
  (193, .istore_n 3, 194, 0, 3, 0, .null),
  (194, .aload_n 0, 195, 0, 0, 0, .null),
  (195, .getfield 7, 198, 922, 5, 1, .null),
  (198, .bipush 13, 200, 0, 0, 0, .int 13),
  (200, .iload 4, 202, 0, 4, 0, .null),
  (202, .iadd, 203, 0, 0, 0, .null),
  (203, .aload_n 0, 204, 0, 0, 0, .null),
  (204, .getfield 7, 207, 922, 5, 1, .null),
  (207, .bipush 13, 209, 0, 0, 0, .int 13),
  (209, .iload 4, 211, 0, 4, 0, .null),
  (211, .iadd, 212, 0, 0, 0, .null),
  (212, .iaload, 213, 0, 0, 0, .null),
  (213, .iload_n 1, 214, 0, 1, 0, .null),
  (214, .if_icmp .ne 7, 217, 0, 221, 0, .null),
  (217, .iconst (-1), 218, 0, 0, 0, .int (-1)),
  (218, .goto 13, 221, 0, 231, 0, .null),
  (221, .aload_n 0, 222, 0, 0, 0, .null),
  (222, .getfield 7, 225, 922, 5, 1, .null),
  (225, .bipush 13, 227, 0, 0, 0, .int 13),
  (227, .iload 4, 229, 0, 4, 0, .null),
  (229, .iadd, 230, 0, 0, 0, .null),
  (230, .iaload, 231, 0, 0, 0, .null),
  (231, .iastore, 232, 0, 0, 0, .null),
  (232, .iinc 4 1, 235, 0, 4, 0, .int 1),
  (235, .goto (-71), 238, 0, 164, 0, .null),
  (238, .iconst 0, 239, 0, 0, 0, .int 0),
  (239, .istore 4, 241, 0, 4, 0, .null),
  (241, .iload 4, 243, 0, 4, 0, .null),
  (243, .aload_n 0, 244, 0, 0, 0, .null),
  (244, .getfield 7, 247, 922, 5, 1, .null),
  (247, .iconst 1, 248, 0, 0, 0, .int 1),
  (248, .iaload, 249, 0, 0, 0, .null),
  (249, .if_icmp .ge 74, 252, 0, 323, 0, .null),
  (252, .iconst 0, 253, 0, 0, 0, .int 0),
  (253, .istore 5, 255, 0, 5, 0, .null),
  (255, .iload 5, 257, 0, 5, 0, .null),
  (257, .iconst 4, 258, 0, 0, 0, .int 4),
  (258, .if_icmp .ge 59, 261, 0, 317, 0, .null),
  (261, .aload_n 0, 262, 0, 0, 0, .null),
  (262, .iload 4, 264, 0, 4, 0, .null),
  (264, .invokevirtual 54, 267, 0, 0, 0, .null),
  (267, .ifCond .eq 50, 270, 0, 317, 0, .null),
  (270, .aload_n 0, 271, 0, 0, 0, .null),
  (271, .iload 4, 273, 0, 4, 0, .null),
  (273, .iload_n 2, 274, 0, 2, 0, .null),
  (274, .invokevirtual 75, 277, 0, 0, 0, .null),
  (277, .ifCond .ne 40, 280, 0, 317, 0, .null),
  (280, .aload_n 0, 281, 0, 0, 0, .null),
  (281, .iload 4, 283, 0, 4, 0, .null),
  (283, .iload 5, 285, 0, 5, 0, .null),
  (285, .invokevirtual 58, 288, 0, 0, 0, .null),
  (288, .iload_n 1, 289, 0, 1, 0, .null),
  (289, .if_icmp .ne 22, 292, 0, 311, 0, .null),
  (292, .iconst 1, 293, 0, 0, 0, .int 1),
  (293, .istore_n 3, 294, 0, 3, 0, .null),
  (294, .aload_n 0, 295, 0, 0, 0, .null),
  (295, .getfield 7, 298, 922, 5, 1, .null),
  (298, .sipush 257, 301, 0, 0, 0, .int 257),
  (301, .iconst 4, 302, 0, 0, 0, .int 4),
  (302, .iload 4, 304, 0, 4, 0, .null),
  (304, .imul, 305, 0, 0, 0, .null),
  (305, .iadd, 306, 0, 0, 0, .null),
  (306, .iload 5, 308, 0, 5, 0, .null),
  (308, .iadd, 309, 0, 0, 0, .null),
  (309, .iconst (-1), 310, 0, 0, 0, .int (-1)),
  (310, .iastore, 311, 0, 0, 0, .null),
  (311, .iinc 5 1, 314, 0, 5, 0, .int 1),
  (314, .goto (-59), 317, 0, 255, 0, .null),
  (317, .iinc 4 1, 320, 0, 4, 0, .int 1),
  (320, .goto (-79), 323, 0, 241, 0, .null),
  (323, .aload_n 0, 324, 0, 0, 0, .null),
  (324, .iload_n 1, 325, 0, 1, 0, .null),
  (325, .bipush 8, 327, 0, 0, 0, .int 8),
  (327, .iload_n 3, 328, 0, 3, 0, .null),
  (328, .ifCond .eq 7, 331, 0, 335, 0, .null),
  (331, .iconst 1, 332, 0, 0, 0, .int 1),
  (332, .goto 4, 335, 0, 336, 0, .null),
  (335, .iconst 0, 336, 0, 0, 0, .int 0),
  (336, .invokevirtual 71, 339, 0, 0, 0, .null),
  (339, .aload_n 0, 340, 0, 0, 0, .null),
  (340, .getfield 7, 343, 922, 5, 1, .null),
  (343, .bipush 6, 345, 0, 0, 0, .int 6),
  (345, .dup2, 346, 0, 0, 0, .null),
  (346, .iaload, 347, 0, 0, 0, .null),
  (347, .iload_n 3, 348, 0, 3, 0, .null),
  (348, .ifCond .eq 7, 351, 0, 355, 0, .null),
  (351, .iconst 1, 352, 0, 0, 0, .int 1),
  (352, .goto 4, 355, 0, 356, 0, .null),
  (355, .iconst 0, 356, 0, 0, 0, .int 0),
  (356, .iadd, 357, 0, 0, 0, .null),
  (357, .iastore, 358, 0, 0, 0, .null),
  (358, .return_, 359, 0, 0, 0, .null)]
def mm_X5_ends : ev_M := (RX5, "ends", cX5_ends, 6, none, tb_X5_ends, 2, 43, 0, 0)
set_option maxRecDepth 100000 in
theorem ok_X5_ends : ev_OK mm_X5_ends := by unfold ev_OK; decide +kernel
theorem cv_X5_ends : ev_CV yX5_ends mm_X5_ends 5 2 := ⟨ev_has_in (k := 1068) (by decide +kernel), ev_has_in (k := 89) (by decide +kernel), ev_has_in (k := 1067) (by decide +kernel), ev_has_in (k := 50) (by decide +kernel), ⟨by decide +kernel, by decide +kernel, by decide +kernel⟩, rfl, by decide⟩
def tb_X5_endsToo : ev_T := [(0, .iload_n 2, 1, 0, 2, 0, .null),
  (1, .iconst 2, 2, 0, 0, 0, .int 2),
  (2, .if_icmp .ne 26, 5, 0, 28, 0, .null),
  (5, .aload_n 0, 6, 0, 0, 0, .null),
  (6, .getfield 26, 9, 929, 5, 8, .null),
  (9, .iload_n 1, 10, 0, 1, 0, .null),
  (10, .iaload, 11, 0, 0, 0, .null),
  (11, .iconst 1, 12, 0, 0, 0, .int 1),
  (12, .if_icmp .ne 16, 15, 0, 28, 0, .null),
  (15, .aload_n 0, 16, 0, 0, 0, .null),
  (16, .getfield 29, 19, 930, 5, 9, .null),
  (19, .iload_n 1, 20, 0, 1, 0, .null),
  (20, .iaload, 21, 0, 0, 0, .null),
  (21, .ifCond .ne 7, 24, 0, 28, 0, .null),
  (24, .iconst 1, 25, 0, 0, 0, .int 1),
  (25, .goto 4, 28, 0, 29, 0, .null),
  (28, .iconst 0, 29, 0, 0, 0, .int 0),
  (29, .ireturn, 30, 0, 0, 0, .null)]
def mm_X5_endsToo : ev_M := (RX5, "endsToo", cX5_endsToo, 3, (some .boolean), tb_X5_endsToo, 0, 0, 0, 0)
set_option maxRecDepth 100000 in
theorem ok_X5_endsToo : ev_OK mm_X5_endsToo := by unfold ev_OK; decide +kernel
theorem cv_X5_endsToo : ev_CV yX5_endsToo mm_X5_endsToo 5 2 := ⟨ev_has_in (k := 1072) (by decide +kernel), ev_has_in (k := 89) (by decide +kernel), ev_has_in (k := 1071) (by decide +kernel), ev_has_in (k := 51) (by decide +kernel), ⟨by decide +kernel, by decide +kernel, by decide +kernel⟩, rfl, by decide⟩
def tb_X5_hears : ev_T := [(0, .aload_n 0, 1, 0, 0, 0, .null),
  (1, .iload_n 1, 2, 0, 1, 0, .null),
  (2, .iconst 1, 3, 0, 0, 0, .int 1),
  (3, .invokevirtual 61, 6, 0, 0, 0, .null),
  (6, .istore_n 2, 7, 0, 2, 0, .null),
  (7, .aload_n 0, 8, 0, 0, 0, .null),
  (8, .iload_n 1, 9, 0, 1, 0, .null),
  (9, .iconst 2, 10, 0, 0, 0, .int 2),
  (10, .invokevirtual 61, 13, 0, 0, 0, .null),
  (13, .istore_n 3, 14, 0, 3, 0, .null),
  (14, .aload_n 0, 15, 0, 0, 0, .null),
  (15, .iload_n 1, 16, 0, 1, 0, .null),
  (16, .invokevirtual 83, 19, 0, 0, 0, .null),
  (19, .aload_n 0, 20, 0, 0, 0, .null),
  (20, .iload_n 2, 21, 0, 2, 0, .null),
  (21, .invokevirtual 54, 24, 0, 0, 0, .null),
  (24, .ifCond .ne 4, 27, 0, 28, 0, .null),
  (27, .return_, 28, 0, 0, 0, .null),
  (28, .aload_n 0, 29, 0, 0, 0, .null),
  (29, .iload_n 2, 30, 0, 2, 0, .null),
  (30, .iconst 2, 31, 0, 0, 0, .int 2),
  (31, .aload_n 0, 32, 0, 0, 0, .null),
  (32, .iload_n 2, 33, 0, 2, 0, .null),
  (33, .iconst 2, 34, 0, 0, 0, .int 2),
  (34, .invokevirtual 50, 37, 0, 0, 0, .null),
  (37, .iload_n 3, 38, 0, 3, 0, .null),
  (38, .iadd, 39, 0, 0, 0, .null),
  (39, .invokevirtual 71, 42, 0, 0, 0, .null),
  (42, .iload_n 3, 43, 0, 3, 0, .null),
  (43, .ifCond .le 4, 46, 0, 47, 0, .null),
  (46, .return_, 47, 0, 0, 0, .null),
  (47, .aload_n 0, 48, 0, 0, 0, .null),
  (48, .iload_n 2, 49, 0, 2, 0, .null),
  (49, .iconst 2, 50, 0, 0, 0, .int 2),
  (50, .invokevirtual 50, 53, 0, 0, 0, .null),
  (53, .ifCond .le 13, 56, 0, 66, 0, .null),
  (56, .aload_n 0, 57, 0, 0, 0, .null),
  (57, .iload_n 2, 58, 0, 2, 0, .null),
  (58, .iconst 3, 59, 0, 0, 0, .int 3),
  (59, .iconst 1, 60, 0, 0, 0, .int 1),
  (60, .invokevirtual 71, 63, 0, 0, 0, .null),
  (63, .goto 61, 66, 0, 124, 0, .null),
  (66, .aload_n 0, 67, 0, 0, 0, .null),
  (67, .iload_n 2, 68, 0, 2, 0, .null),
  (68, .invokevirtual 87, 71, 0, 0, 0, .null),
  (71, .ifCond .ne 53, 74, 0, 124, 0, .null),
  (74, .aload_n 0, 75, 0, 0, 0, .null),
  (75, .iload_n 2, 76, 0, 2, 0, .null),
  (76, .invokevirtual 91, 79, 0, 0, 0, .null),
  (79, .istore 4, 81, 0, 4, 0, .null),
  (81, .aload_n 0, 82, 0, 0, 0, .null),
  (82, .getfield 7, 85, 922, 5, 1, .null),
  (85, .bipush 11, 87, 0, 0, 0, .int 11),
  (87, .iaload, 88, 0, 0, 0, .null),
  (88, .ifCond .eq 8, 91, 0, 96, 0, .null),
  (91, .iload 4, 93, 0, 4, 0, .null),
  (93, .ifCond .ne 12, 96, 0, 105, 0, .null),
  (96, .aload_n 0, 97, 0, 0, 0, .null),
  (97, .iload_n 2, 98, 0, 2, 0, .null),
  (98, .iconst 1, 99, 0, 0, 0, .int 1),
  (99, .invokevirtual 94, 102, 0, 0, 0, .null),
  (102, .goto 22, 105, 0, 124, 0, .null),
  (105, .aload_n 0, 106, 0, 0, 0, .null),
  (106, .iload_n 2, 107, 0, 2, 0, .null),
  (107, .iconst 2, 108, 0, 0, 0, .int 2),
  (108, .iload 4, 110, 0, 4, 0, .null),
  (110, .invokevirtual 71, 113, 0, 0, 0, .null),
  (113, .aload_n 0, 114, 0, 0, 0, .null),
  (114, .getfield 7, 117, 922, 5, 1, .null),
  (117, .bipush 7, 119, 0, 0, 0, .int 7),
  (119, .dup2, 120, 0, 0, 0, .null),
  (120, .iaload, 121, 0, 0, 0, .null),
  (121, .iconst 1, 122, 0, 0, 0, .int 1),
  (122, .iadd, 123, 0, 0, 0, .null),
  (123, .iastore, 124, 0, 0, 0, .null),
  (124, .return_, 125, 0, 0, 0, .null)]
def mm_X5_hears : ev_M := (RX5, "hears", cX5_hears, 5, none, tb_X5_hears, 3, 68, 0, 0)
set_option maxRecDepth 100000 in
theorem ok_X5_hears : ev_OK mm_X5_hears := by unfold ev_OK; decide +kernel
theorem cv_X5_hears : ev_CV yX5_hears mm_X5_hears 5 1 := ⟨ev_has_in (k := 1048) (by decide +kernel), ev_has_in (k := 89) (by decide +kernel), ev_has_in (k := 1047) (by decide +kernel), ev_has_in (k := 45) (by decide +kernel), ⟨by decide +kernel, by decide +kernel, by decide +kernel⟩, rfl, by decide⟩
def tb_X5_hearDue : ev_T := [(0, .aload_n 0, 1, 0, 0, 0, .null),
  (1, .invokevirtual 98, 4, 0, 0, 0, .null),
  (4, .istore_n 1, 5, 0, 1, 0, .null),
  (5, .iload_n 1, 6, 0, 1, 0, .null),
  (6, .iconst (-1), 7, 0, 0, 0, .int (-1)),
  (7, .if_icmp .eq 16, 10, 0, 23, 0, .null),
  (10, .aload_n 0, 11, 0, 0, 0, .null),
  (11, .iload_n 1, 12, 0, 1, 0, .null),
  (12, .invokevirtual 102, 15, 0, 0, 0, .null),
  (15, .aload_n 0, 16, 0, 0, 0, .null),
  (16, .invokevirtual 98, 19, 0, 0, 0, .null),
  (19, .istore_n 1, 20, 0, 1, 0, .null),
  (20, .goto (-15), 23, 0, 5, 0, .null),
  (23, .return_, 24, 0, 0, 0, .null)]
def mm_X5_hearDue : ev_M := (RX5, "hearDue", cX5_hearDue, 2, none, tb_X5_hearDue, 4, 92, 0, 0)
set_option maxRecDepth 100000 in
theorem ok_X5_hearDue : ev_OK mm_X5_hearDue := by unfold ev_OK; decide +kernel
theorem cv_X5_hearDue : ev_CV yX5_hearDue mm_X5_hearDue 5 0 := ⟨ev_has_in (k := 1036) (by decide +kernel), ev_has_in (k := 89) (by decide +kernel), ev_has_in (k := 1035) (by decide +kernel), ev_has_in (k := 42) (by decide +kernel), ⟨by decide +kernel, by decide +kernel, by decide +kernel⟩, rfl, by decide⟩
def tb_X5_whyNotAdded : ev_T := [(0, .iload_n 1, 1, 0, 1, 0, .null),
  (1, .iconst 0, 2, 0, 0, 0, .int 0),
  (2, .bipush 9, 4, 0, 0, 0, .int 9),
  (4, .invokestatic 46, 7, 0, 0, 0, .null),
  (7, .ifCond .ne 7, 10, 0, 14, 0, .null),
  (10, .iconst 1, 11, 0, 0, 0, .int 1),
  (11, .goto 19, 14, 0, 30, 0, .null),
  (14, .aload_n 0, 15, 0, 0, 0, .null),
  (15, .getfield 7, 18, 922, 5, 1, .null),
  (18, .iconst 1, 19, 0, 0, 0, .int 1),
  (19, .iaload, 20, 0, 0, 0, .null),
  (20, .bipush 24, 22, 0, 0, 0, .int 24),
  (22, .if_icmp .ne 7, 25, 0, 29, 0, .null),
  (25, .iconst 2, 26, 0, 0, 0, .int 2),
  (26, .goto 4, 29, 0, 30, 0, .null),
  (29, .iconst 0, 30, 0, 0, 0, .int 0),
  (30, .ireturn, 31, 0, 0, 0, .null)]
def mm_X5_whyNotAdded : ev_M := (RX5, "whyNotAdded", cX5_whyNotAdded, 2, (some .int), tb_X5_whyNotAdded, 1, 22, 0, 0)
set_option maxRecDepth 100000 in
theorem ok_X5_whyNotAdded : ev_OK mm_X5_whyNotAdded := by unfold ev_OK; decide +kernel
theorem cv_X5_whyNotAdded : ev_CV yX5_whyNotAdded mm_X5_whyNotAdded 5 1 := ⟨ev_has_in (k := 978) (by decide +kernel), ev_has_in (k := 89) (by decide +kernel), ev_has_in (k := 977) (by decide +kernel), ev_has_in (k := 30) (by decide +kernel), ⟨by decide +kernel, by decide +kernel, by decide +kernel⟩, rfl, by decide⟩
def tb_X5_added : ev_T := [(0, .aload_n 0, 1, 0, 0, 0, .null),
  (1, .getfield 7, 4, 922, 5, 1, .null),
  (4, .iconst 1, 5, 0, 0, 0, .int 1),
  (5, .iaload, 6, 0, 0, 0, .null),
  (6, .istore_n 2, 7, 0, 2, 0, .null),
  (7, .iconst 0, 8, 0, 0, 0, .int 0),
  (8, .istore_n 3, 9, 0, 3, 0, .null),
  (9, .iload_n 3, 10, 0, 3, 0, .null),
  (10, .bipush 10, 12, 0, 0, 0, .int 10),
  (12, .if_icmp .ge 16, 15, 0, 28, 0, .null),
  (15, .aload_n 0, 16, 0, 0, 0, .null),
  (16, .iload_n 2, 17, 0, 2, 0, .null),
  (17, .iload_n 3, 18, 0, 3, 0, .null),
  (18, .iconst 0, 19, 0, 0, 0, .int 0),
  (19, .invokevirtual 71, 22, 0, 0, 0, .null),
  (22, .iinc 3 1, 25, 0, 3, 0, .int 1),
  (25, .goto (-16), 28, 0, 9, 0, .null),
  (28, .aload_n 0, 29, 0, 0, 0, .null),
  (29, .iload_n 2, 30, 0, 2, 0, .null),
  (30, .iconst 0, 31, 0, 0, 0, .int 0),
  (31, .iconst 1, 32, 0, 0, 0, .int 1),
  (32, .invokevirtual 71, 35, 0, 0, 0, .null),
  (35, .aload_n 0, 36, 0, 0, 0, .null),
  (36, .iload_n 2, 37, 0, 2, 0, .null),
  (37, .iconst 1, 38, 0, 0, 0, .int 1),
  (38, .iload_n 1, 39, 0, 1, 0, .null),
  (39, .invokevirtual 71, 42, 0, 0, 0, .null),
  (42, .aload_n 0, 43, 0, 0, 0, .null),
  (43, .iload_n 2, 44, 0, 2, 0, .null),
  (44, .iconst 4, 45, 0, 0, 0, .int 4),
  (45, .aload_n 0, 46, 0, 0, 0, .null),
  (46, .getfield 7, 49, 922, 5, 1, .null),
  (49, .iconst 0, 50, 0, 0, 0, .int 0),
  (50, .iaload, 51, 0, 0, 0, .null),
  (51, .invokevirtual 71, 54, 0, 0, 0, .null),
  (54, .aload_n 0, 55, 0, 0, 0, .null),
  (55, .iload_n 2, 56, 0, 2, 0, .null),
  (56, .iconst 5, 57, 0, 0, 0, .int 5),
  (57, .iconst (-1), 58, 0, 0, 0, .int (-1)),
  (58, .invokevirtual 71, 61, 0, 0, 0, .null),
  (61, .aload_n 0, 62, 0, 0, 0, .null),
  (62, .iload_n 2, 63, 0, 2, 0, .null),
  (63, .bipush 6, 65, 0, 0, 0, .int 6),
  (65, .iconst (-1), 66, 0, 0, 0, .int (-1)),
  (66, .invokevirtual 71, 69, 0, 0, 0, .null),
  (69, .iconst 0, 70, 0, 0, 0, .int 0),
  (70, .istore_n 3, 71, 0, 3, 0, .null),
  (71, .iload_n 3, 72, 0, 3, 0, .null),
  (72, .iconst 4, 73, 0, 0, 0, .int 4),
  (73, .if_icmp .ge 24, 76, 0, 97, 0, .null),
  (76, .aload_n 0, 77, 0, 0, 0, .null),
  (77, .getfield 7, 80, 922, 5, 1, .null),
  (80, .sipush 257, 83, 0, 0, 0, .int 257),
  (83, .iconst 4, 84, 0, 0, 0, .int 4),
  (84, .iload_n 2, 85, 0, 2, 0, .null),
  (85, .imul, 86, 0, 0, 0, .null),
  (86, .iadd, 87, 0, 0, 0, .null),
  (87, .iload_n 3, 88, 0, 3, 0, .null),
  (88, .iadd, 89, 0, 0, 0, .null),
  (89, .iconst (-1), 90, 0, 0, 0, .int (-1)),
  (90, .iastore, 91, 0, 0, 0, .null),
  (91, .iinc 3 1, 94, 0, 3, 0, .int 1),
  (94, .goto (-23), 97, 0, 71, 0, .null),
  (97, .aload_n 0, 98, 0, 0, 0, .null),
  (98, .getfield 7, 101, 922, 5, 1, .null),
  (101, .iconst 1, 102, 0, 0, 0, .int 1),
  (102, .dup2, 103, 0, 0, 0, .null),
  (103, .iaload, 104, 0, 0, 0, .null),
  (104, .iconst 1, 105, 0, 0, 0, .int 1),
  (105, .iadd, 106, 0, 0, 0, .null),
  (106, .iastore, 107, 0, 0, 0, .null),
  (107, .iload_n 2, 108, 0, 2, 0, .null),
  (108, .ireturn, 109, 0, 0, 0, .null)]
def mm_X5_added : ev_M := (RX5, "added", cX5_added, 4, (some .int), tb_X5_added, 1, 23, 0, 0)
set_option maxRecDepth 100000 in
theorem ok_X5_added : ev_OK mm_X5_added := by unfold ev_OK; decide +kernel
theorem cv_X5_added : ev_CV yX5_added mm_X5_added 5 1 := ⟨ev_has_in (k := 992) (by decide +kernel), ev_has_in (k := 89) (by decide +kernel), ev_has_in (k := 991) (by decide +kernel), ev_has_in (k := 32) (by decide +kernel), ⟨by decide +kernel, by decide +kernel, by decide +kernel⟩, rfl, by decide⟩
def tb_X5_add : ev_T := [(0, .aload_n 0, 1, 0, 0, 0, .null),
  (1, .aload_n 0, 2, 0, 0, 0, .null),
  (2, .iload_n 1, 3, 0, 1, 0, .null),
  (3, .invokevirtual 105, 6, 0, 0, 0, .null),
  (6, .putfield 35, 9, 921, 5, 0, .null),
  (9, .aload_n 0, 10, 0, 0, 0, .null),
  (10, .getfield 35, 13, 921, 5, 0, .null),
  (13, .ifCond .le 5, 16, 0, 18, 0, .null),
  (16, .iconst 0, 17, 0, 0, 0, .int 0),
  (17, .ireturn, 18, 0, 0, 0, .null),
  (18, .aload_n 0, 19, 0, 0, 0, .null),
  (19, .invokevirtual 108, 22, 0, 0, 0, .null),
  (22, .aload_n 0, 23, 0, 0, 0, .null),
  (23, .iload_n 1, 24, 0, 1, 0, .null),
  (24, .invokevirtual 111, 27, 0, 0, 0, .null),
  (27, .ireturn, 28, 0, 0, 0, .null)]
def mm_X5_add : ev_M := (RX5, "add", cX5_add, 2, (some .int), tb_X5_add, 2, 46, 0, 0)
set_option maxRecDepth 100000 in
theorem ok_X5_add : ev_OK mm_X5_add := by unfold ev_OK; decide +kernel
theorem cv_X5_add : ev_CV yX5_add mm_X5_add 5 1 := ⟨ev_has_in (k := 974) (by decide +kernel), ev_has_in (k := 89) (by decide +kernel), ev_has_in (k := 972) (by decide +kernel), ev_has_in (k := 973) (by decide +kernel), ⟨by decide +kernel, by decide +kernel, by decide +kernel⟩, rfl, by decide⟩
def tb_X5_isHeld : ev_T := [(0, .iload_n 1, 1, 0, 1, 0, .null),
  (1, .iconst (-1), 2, 0, 0, 0, .int (-1)),
  (2, .if_icmp .eq 11, 5, 0, 13, 0, .null),
  (5, .aload_n 0, 6, 0, 0, 0, .null),
  (6, .iload_n 1, 7, 0, 1, 0, .null),
  (7, .invokevirtual 114, 10, 0, 0, 0, .null),
  (10, .ifCond .eq 7, 13, 0, 17, 0, .null),
  (13, .iconst 1, 14, 0, 0, 0, .int 1),
  (14, .goto 4, 17, 0, 18, 0, .null),
  (17, .iconst 0, 18, 0, 0, 0, .int 0),
  (18, .ireturn, 19, 0, 0, 0, .null)]
def mm_X5_isHeld : ev_M := (RX5, "isHeld", cX5_isHeld, 2, (some .boolean), tb_X5_isHeld, 2, 43, 0, 0)
set_option maxRecDepth 100000 in
theorem ok_X5_isHeld : ev_OK mm_X5_isHeld := by unfold ev_OK; decide +kernel
theorem cv_X5_isHeld : ev_CV yX5_isHeld mm_X5_isHeld 5 1 := ⟨ev_has_in (k := 1008) (by decide +kernel), ev_has_in (k := 89) (by decide +kernel), ev_has_in (k := 1007) (by decide +kernel), ev_has_in (k := 35) (by decide +kernel), ⟨by decide +kernel, by decide +kernel, by decide +kernel⟩, rfl, by decide⟩
def tb_X5_hasEnded : ev_T := [(0, .iload_n 1, 1, 0, 1, 0, .null),
  (1, .iconst (-1), 2, 0, 0, 0, .int (-1)),
  (2, .if_icmp .eq 15, 5, 0, 17, 0, .null),
  (5, .aload_n 0, 6, 0, 0, 0, .null),
  (6, .iload_n 1, 7, 0, 1, 0, .null),
  (7, .invokevirtual 54, 10, 0, 0, 0, .null),
  (10, .ifCond .ne 7, 13, 0, 17, 0, .null),
  (13, .iconst 1, 14, 0, 0, 0, .int 1),
  (14, .goto 4, 17, 0, 18, 0, .null),
  (17, .iconst 0, 18, 0, 0, 0, .int 0),
  (18, .ireturn, 19, 0, 0, 0, .null)]
def mm_X5_hasEnded : ev_M := (RX5, "hasEnded", cX5_hasEnded, 2, (some .boolean), tb_X5_hasEnded, 2, 43, 0, 0)
set_option maxRecDepth 100000 in
theorem ok_X5_hasEnded : ev_OK mm_X5_hasEnded := by unfold ev_OK; decide +kernel
theorem cv_X5_hasEnded : ev_CV yX5_hasEnded mm_X5_hasEnded 5 1 := ⟨ev_has_in (k := 1016) (by decide +kernel), ev_has_in (k := 89) (by decide +kernel), ev_has_in (k := 1015) (by decide +kernel), ev_has_in (k := 37) (by decide +kernel), ⟨by decide +kernel, by decide +kernel, by decide +kernel⟩, rfl, by decide⟩
def tb_X5_changed : ev_T := [(0, .aload_n 0, 1, 0, 0, 0, .null),
  (1, .getfield 7, 4, 922, 5, 1, .null),
  (4, .iload_n 1, 5, 0, 1, 0, .null),
  (5, .iaload, 6, 0, 0, 0, .null),
  (6, .istore_n 3, 7, 0, 3, 0, .null),
  (7, .aload_n 0, 8, 0, 0, 0, .null),
  (8, .getfield 7, 11, 922, 5, 1, .null),
  (11, .iload_n 1, 12, 0, 1, 0, .null),
  (12, .iload_n 2, 13, 0, 2, 0, .null),
  (13, .iastore, 14, 0, 0, 0, .null),
  (14, .iload_n 2, 15, 0, 2, 0, .null),
  (15, .iconst (-1), 16, 0, 0, 0, .int (-1)),
  (16, .if_icmp .eq 11, 19, 0, 27, 0, .null),
  (19, .aload_n 0, 20, 0, 0, 0, .null),
  (20, .iload_n 2, 21, 0, 2, 0, .null),
  (21, .iconst 1, 22, 0, 0, 0, .int 1),
  (22, .iconst 0, 23, 0, 0, 0, .int 0),
  (23, .invokevirtual 79, 26, 0, 0, 0, .null),
  (26, .pop, 27, 0, 0, 0, .null),
  (27, .iload_n 3, 28, 0, 3, 0, .null),
  (28, .iconst (-1), 29, 0, 0, 0, .int (-1)),
  (29, .if_icmp .eq 11, 32, 0, 40, 0, .null),
  (32, .aload_n 0, 33, 0, 0, 0, .null),
  (33, .iload_n 3, 34, 0, 3, 0, .null),
  (34, .iconst (-1), 35, 0, 0, 0, .int (-1)),
  (35, .iconst 0, 36, 0, 0, 0, .int 0),
  (36, .invokevirtual 79, 39, 0, 0, 0, .null),
  (39, .pop, 40, 0, 0, 0, .null),
  (40, .aload_n 0, 41, 0, 0, 0, .null),
  (41, .invokevirtual 117, 44, 0, 0, 0, .null),
  (44, .iload_n 3, 45, 0, 3, 0, .null),
  (45, .ireturn, 46, 0, 0, 0, .null)]
def mm_X5_changed : ev_M := (RX5, "changed", cX5_changed, 4, (some .int), tb_X5_changed, 5, 113, 0, 0)
set_option maxRecDepth 100000 in
theorem ok_X5_changed : ev_OK mm_X5_changed := by unfold ev_OK; decide +kernel
theorem cv_X5_changed : ev_CV yX5_changed mm_X5_changed 5 2 := ⟨ev_has_in (k := 1028) (by decide +kernel), ev_has_in (k := 89) (by decide +kernel), ev_has_in (k := 1027) (by decide +kernel), ev_has_in (k := 40) (by decide +kernel), ⟨by decide +kernel, by decide +kernel, by decide +kernel⟩, rfl, by decide⟩
def tb_X5_whyNotTaken : ev_T := [(0, .iload_n 1, 1, 0, 1, 0, .null),
  (1, .iconst 0, 2, 0, 0, 0, .int 0),
  (2, .iconst 3, 3, 0, 0, 0, .int 3),
  (3, .invokestatic 46, 6, 0, 0, 0, .null),
  (6, .ifCond .eq 11, 9, 0, 17, 0, .null),
  (9, .aload_n 0, 10, 0, 0, 0, .null),
  (10, .iload_n 2, 11, 0, 2, 0, .null),
  (11, .invokevirtual 120, 14, 0, 0, 0, .null),
  (14, .ifCond .ne 7, 17, 0, 21, 0, .null),
  (17, .iconst 1, 18, 0, 0, 0, .int 1),
  (18, .goto 16, 21, 0, 34, 0, .null),
  (21, .aload_n 0, 22, 0, 0, 0, .null),
  (22, .iload_n 2, 23, 0, 2, 0, .null),
  (23, .invokevirtual 123, 26, 0, 0, 0, .null),
  (26, .ifCond .eq 7, 29, 0, 33, 0, .null),
  (29, .iconst 2, 30, 0, 0, 0, .int 2),
  (30, .goto 4, 33, 0, 34, 0, .null),
  (33, .iconst 0, 34, 0, 0, 0, .int 0),
  (34, .ireturn, 35, 0, 0, 0, .null)]
def mm_X5_whyNotTaken : ev_M := (RX5, "whyNotTaken", cX5_whyNotTaken, 3, (some .int), tb_X5_whyNotTaken, 3, 64, 0, 0)
set_option maxRecDepth 100000 in
theorem ok_X5_whyNotTaken : ev_OK mm_X5_whyNotTaken := by unfold ev_OK; decide +kernel
theorem cv_X5_whyNotTaken : ev_CV yX5_whyNotTaken mm_X5_whyNotTaken 5 2 := ⟨ev_has_in (k := 1004) (by decide +kernel), ev_has_in (k := 89) (by decide +kernel), ev_has_in (k := 1003) (by decide +kernel), ev_has_in (k := 34) (by decide +kernel), ⟨by decide +kernel, by decide +kernel, by decide +kernel⟩, rfl, by decide⟩
def tb_X5_take : ev_T := [(0, .aload_n 0, 1, 0, 0, 0, .null),
  (1, .aload_n 0, 2, 0, 0, 0, .null),
  (2, .iload_n 1, 3, 0, 1, 0, .null),
  (3, .iload_n 2, 4, 0, 2, 0, .null),
  (4, .invokevirtual 126, 7, 0, 0, 0, .null),
  (7, .putfield 35, 10, 921, 5, 0, .null),
  (10, .aload_n 0, 11, 0, 0, 0, .null),
  (11, .getfield 35, 14, 921, 5, 0, .null),
  (14, .ifCond .le 5, 17, 0, 19, 0, .null),
  (17, .iconst 0, 18, 0, 0, 0, .int 0),
  (18, .ireturn, 19, 0, 0, 0, .null),
  (19, .aload_n 0, 20, 0, 0, 0, .null),
  (20, .invokevirtual 108, 23, 0, 0, 0, .null),
  (23, .aload_n 0, 24, 0, 0, 0, .null),
  (24, .bipush 13, 26, 0, 0, 0, .int 13),
  (26, .iload_n 1, 27, 0, 1, 0, .null),
  (27, .iadd, 28, 0, 0, 0, .null),
  (28, .iload_n 2, 29, 0, 2, 0, .null),
  (29, .invokevirtual 129, 32, 0, 0, 0, .null),
  (32, .ireturn, 33, 0, 0, 0, .null)]
def mm_X5_take : ev_M := (RX5, "take", cX5_take, 3, (some .int), tb_X5_take, 6, 136, 0, 0)
set_option maxRecDepth 100000 in
theorem ok_X5_take : ev_OK mm_X5_take := by unfold ev_OK; decide +kernel
theorem cv_X5_take : ev_CV yX5_take mm_X5_take 5 2 := ⟨ev_has_in (k := 1000) (by decide +kernel), ev_has_in (k := 89) (by decide +kernel), ev_has_in (k := 998) (by decide +kernel), ev_has_in (k := 999) (by decide +kernel), ⟨by decide +kernel, by decide +kernel, by decide +kernel⟩, rfl, by decide⟩
def tb_X5_whyNotPut : ev_T := [(0, .aload_n 0, 1, 0, 0, 0, .null),
  (1, .iload_n 1, 2, 0, 1, 0, .null),
  (2, .invokevirtual 114, 5, 0, 0, 0, .null),
  (5, .ifCond .eq 20, 8, 0, 25, 0, .null),
  (8, .iload_n 2, 9, 0, 2, 0, .null),
  (9, .iconst 0, 10, 0, 0, 0, .int 0),
  (10, .iconst 3, 11, 0, 0, 0, .int 3),
  (11, .invokestatic 46, 14, 0, 0, 0, .null),
  (14, .ifCond .eq 11, 17, 0, 25, 0, .null),
  (17, .aload_n 0, 18, 0, 0, 0, .null),
  (18, .iload_n 3, 19, 0, 3, 0, .null),
  (19, .invokevirtual 120, 22, 0, 0, 0, .null),
  (22, .ifCond .ne 5, 25, 0, 27, 0, .null),
  (25, .iconst 1, 26, 0, 0, 0, .int 1),
  (26, .ireturn, 27, 0, 0, 0, .null),
  (27, .aload_n 0, 28, 0, 0, 0, .null),
  (28, .iload_n 1, 29, 0, 1, 0, .null),
  (29, .invokevirtual 54, 32, 0, 0, 0, .null),
  (32, .ifCond .eq 11, 35, 0, 43, 0, .null),
  (35, .aload_n 0, 36, 0, 0, 0, .null),
  (36, .iload_n 3, 37, 0, 3, 0, .null),
  (37, .invokevirtual 123, 40, 0, 0, 0, .null),
  (40, .ifCond .eq 7, 43, 0, 47, 0, .null),
  (43, .iconst 2, 44, 0, 0, 0, .int 2),
  (44, .goto 4, 47, 0, 48, 0, .null),
  (47, .iconst 0, 48, 0, 0, 0, .int 0),
  (48, .ireturn, 49, 0, 0, 0, .null)]
def mm_X5_whyNotPut : ev_M := (RX5, "whyNotPut", cX5_whyNotPut, 4, (some .int), tb_X5_whyNotPut, 3, 64, 0, 0)
set_option maxRecDepth 100000 in
theorem ok_X5_whyNotPut : ev_OK mm_X5_whyNotPut := by unfold ev_OK; decide +kernel
theorem cv_X5_whyNotPut : ev_CV yX5_whyNotPut mm_X5_whyNotPut 5 3 := ⟨ev_has_in (k := 1080) (by decide +kernel), ev_has_in (k := 89) (by decide +kernel), ev_has_in (k := 1079) (by decide +kernel), ev_has_in (k := 52) (by decide +kernel), ⟨by decide +kernel, by decide +kernel, by decide +kernel⟩, rfl, by decide⟩
def tb_X5_put : ev_T := [(0, .aload_n 0, 1, 0, 0, 0, .null),
  (1, .aload_n 0, 2, 0, 0, 0, .null),
  (2, .iload_n 1, 3, 0, 1, 0, .null),
  (3, .iload_n 2, 4, 0, 2, 0, .null),
  (4, .iload_n 3, 5, 0, 3, 0, .null),
  (5, .invokevirtual 132, 8, 0, 0, 0, .null),
  (8, .putfield 35, 11, 921, 5, 0, .null),
  (11, .aload_n 0, 12, 0, 0, 0, .null),
  (12, .getfield 35, 15, 921, 5, 0, .null),
  (15, .ifCond .le 5, 18, 0, 20, 0, .null),
  (18, .iconst 0, 19, 0, 0, 0, .int 0),
  (19, .ireturn, 20, 0, 0, 0, .null),
  (20, .aload_n 0, 21, 0, 0, 0, .null),
  (21, .invokevirtual 108, 24, 0, 0, 0, .null),
  (24, .aload_n 0, 25, 0, 0, 0, .null),
  (25, .sipush 257, 28, 0, 0, 0, .int 257),
  (28, .iconst 4, 29, 0, 0, 0, .int 4),
  (29, .iload_n 1, 30, 0, 1, 0, .null),
  (30, .imul, 31, 0, 0, 0, .null),
  (31, .iadd, 32, 0, 0, 0, .null),
  (32, .iload_n 2, 33, 0, 2, 0, .null),
  (33, .iadd, 34, 0, 0, 0, .null),
  (34, .iload_n 3, 35, 0, 3, 0, .null),
  (35, .invokevirtual 129, 38, 0, 0, 0, .null),
  (38, .ireturn, 39, 0, 0, 0, .null)]
def mm_X5_put : ev_M := (RX5, "put", cX5_put, 4, (some .int), tb_X5_put, 6, 136, 0, 0)
set_option maxRecDepth 100000 in
theorem ok_X5_put : ev_OK mm_X5_put := by unfold ev_OK; decide +kernel
theorem cv_X5_put : ev_CV yX5_put mm_X5_put 5 3 := ⟨ev_has_in (k := 1076) (by decide +kernel), ev_has_in (k := 89) (by decide +kernel), ev_has_in (k := 1074) (by decide +kernel), ev_has_in (k := 1075) (by decide +kernel), ⟨by decide +kernel, by decide +kernel, by decide +kernel⟩, rfl, by decide⟩
def tb_X5_slandered : ev_T := [(0, .aload_n 0, 1, 0, 0, 0, .null),
  (1, .iload_n 1, 2, 0, 1, 0, .null),
  (2, .iload_n 2, 3, 0, 2, 0, .null),
  (3, .iconst 1, 4, 0, 0, 0, .int 1),
  (4, .invokevirtual 79, 7, 0, 0, 0, .null),
  (7, .istore_n 3, 8, 0, 3, 0, .null),
  (8, .aload_n 0, 9, 0, 0, 0, .null),
  (9, .invokevirtual 117, 12, 0, 0, 0, .null),
  (12, .iload_n 3, 13, 0, 3, 0, .null),
  (13, .ireturn, 14, 0, 0, 0, .null)]
def mm_X5_slandered : ev_M := (RX5, "slandered", cX5_slandered, 4, (some .int), tb_X5_slandered, 5, 113, 0, 0)
set_option maxRecDepth 100000 in
theorem ok_X5_slandered : ev_OK mm_X5_slandered := by unfold ev_OK; decide +kernel
theorem cv_X5_slandered : ev_CV yX5_slandered mm_X5_slandered 5 2 := ⟨ev_has_in (k := 1088) (by decide +kernel), ev_has_in (k := 89) (by decide +kernel), ev_has_in (k := 1087) (by decide +kernel), ev_has_in (k := 53) (by decide +kernel), ⟨by decide +kernel, by decide +kernel, by decide +kernel⟩, rfl, by decide⟩
def tb_X5_slander : ev_T := [(0, .aload_n 0, 1, 0, 0, 0, .null),
  (1, .aload_n 0, 2, 0, 0, 0, .null),
  (2, .iload_n 1, 3, 0, 1, 0, .null),
  (3, .invokevirtual 114, 6, 0, 0, 0, .null),
  (6, .ifCond .ne 7, 9, 0, 13, 0, .null),
  (9, .iconst 1, 10, 0, 0, 0, .int 1),
  (10, .goto 30, 13, 0, 40, 0, .null),
  (13, .iload_n 2, 14, 0, 2, 0, .null),
  (14, .iconst 1, 15, 0, 0, 0, .int 1),
  (15, .if_icmp .eq 12, 18, 0, 27, 0, .null),
  (18, .iload_n 2, 19, 0, 2, 0, .null),
  (19, .iconst (-1), 20, 0, 0, 0, .int (-1)),
  (20, .if_icmp .eq 7, 23, 0, 27, 0, .null),
  (23, .iconst 2, 24, 0, 0, 0, .int 2),
  (24, .goto 16, 27, 0, 40, 0, .null),
  (27, .aload_n 0, 28, 0, 0, 0, .null),
  (28, .iload_n 1, 29, 0, 1, 0, .null),
  (29, .invokevirtual 54, 32, 0, 0, 0, .null),
  (32, .ifCond .ne 7, 35, 0, 39, 0, .null),
  (35, .iconst 3, 36, 0, 0, 0, .int 3),
  (36, .goto 4, 39, 0, 40, 0, .null),
  (39, .iconst 0, 40, 0, 0, 0, .int 0),
  (40, .putfield 35, 43, 921, 5, 0, .null),
  (43, .aload_n 0, 44, 0, 0, 0, .null),
  (44, .getfield 35, 47, 921, 5, 0, .null),
  (47, .ifCond .le 5, 50, 0, 52, 0, .null),
  (50, .iconst 0, 51, 0, 0, 0, .int 0),
  (51, .ireturn, 52, 0, 0, 0, .null),
  (52, .aload_n 0, 53, 0, 0, 0, .null),
  (53, .invokevirtual 108, 56, 0, 0, 0, .null),
  (56, .aload_n 0, 57, 0, 0, 0, .null),
  (57, .iload_n 1, 58, 0, 1, 0, .null),
  (58, .iload_n 2, 59, 0, 2, 0, .null),
  (59, .invokevirtual 135, 62, 0, 0, 0, .null),
  (62, .ireturn, 63, 0, 0, 0, .null)]
def mm_X5_slander : ev_M := (RX5, "slander", cX5_slander, 3, (some .int), tb_X5_slander, 6, 136, 0, 0)
set_option maxRecDepth 100000 in
theorem ok_X5_slander : ev_OK mm_X5_slander := by unfold ev_OK; decide +kernel
theorem cv_X5_slander : ev_CV yX5_slander mm_X5_slander 5 2 := ⟨ev_has_in (k := 1084) (by decide +kernel), ev_has_in (k := 89) (by decide +kernel), ev_has_in (k := 1082) (by decide +kernel), ev_has_in (k := 1083) (by decide +kernel), ⟨by decide +kernel, by decide +kernel, by decide +kernel⟩, rfl, by decide⟩
def tb_X5_suspect : ev_T := [(0, .aload_n 0, 1, 0, 0, 0, .null),
  (1, .aload_n 0, 2, 0, 0, 0, .null),
  (2, .iload_n 1, 3, 0, 1, 0, .null),
  (3, .invokevirtual 114, 6, 0, 0, 0, .null),
  (6, .ifCond .ne 7, 9, 0, 13, 0, .null),
  (9, .iconst 1, 10, 0, 0, 0, .int 1),
  (10, .goto 26, 13, 0, 36, 0, .null),
  (13, .aload_n 0, 14, 0, 0, 0, .null),
  (14, .iload_n 1, 15, 0, 1, 0, .null),
  (15, .invokevirtual 54, 18, 0, 0, 0, .null),
  (18, .ifCond .eq 13, 21, 0, 31, 0, .null),
  (21, .aload_n 0, 22, 0, 0, 0, .null),
  (22, .iload_n 1, 23, 0, 1, 0, .null),
  (23, .iconst 3, 24, 0, 0, 0, .int 3),
  (24, .invokevirtual 50, 27, 0, 0, 0, .null),
  (27, .iconst 1, 28, 0, 0, 0, .int 1),
  (28, .if_icmp .ne 7, 31, 0, 35, 0, .null),
  (31, .iconst 2, 32, 0, 0, 0, .int 2),
  (32, .goto 4, 35, 0, 36, 0, .null),
  (35, .iconst 0, 36, 0, 0, 0, .int 0),
  (36, .putfield 35, 39, 921, 5, 0, .null),
  (39, .aload_n 0, 40, 0, 0, 0, .null),
  (40, .getfield 35, 43, 921, 5, 0, .null),
  (43, .ifCond .le 5, 46, 0, 48, 0, .null),
  (46, .iconst 0, 47, 0, 0, 0, .int 0),
  (47, .ireturn, 48, 0, 0, 0, .null),
  (48, .aload_n 0, 49, 0, 0, 0, .null),
  (49, .invokevirtual 108, 52, 0, 0, 0, .null),
  (52, .aload_n 0, 53, 0, 0, 0, .null),
  (53, .iload_n 1, 54, 0, 1, 0, .null),
  (54, .iconst 3, 55, 0, 0, 0, .int 3),
  (55, .iconst 1, 56, 0, 0, 0, .int 1),
  (56, .invokevirtual 71, 59, 0, 0, 0, .null),
  (59, .aload_n 0, 60, 0, 0, 0, .null),
  (60, .invokevirtual 138, 63, 0, 0, 0, .null),
  (63, .ireturn, 64, 0, 0, 0, .null)]
def mm_X5_suspect : ev_M := (RX5, "suspect", cX5_suspect, 2, (some .int), tb_X5_suspect, 2, 46, 0, 0)
set_option maxRecDepth 100000 in
theorem ok_X5_suspect : ev_OK mm_X5_suspect := by unfold ev_OK; decide +kernel
theorem cv_X5_suspect : ev_CV yX5_suspect mm_X5_suspect 5 1 := ⟨ev_has_in (k := 1092) (by decide +kernel), ev_has_in (k := 89) (by decide +kernel), ev_has_in (k := 1090) (by decide +kernel), ev_has_in (k := 1091) (by decide +kernel), ⟨by decide +kernel, by decide +kernel, by decide +kernel⟩, rfl, by decide⟩
def tb_X5_isSetting : ev_T := [(0, .iload_n 0, 1, 0, 0, 0, .null),
  (1, .iconst 0, 2, 0, 0, 0, .int 0),
  (2, .iconst 4, 3, 0, 0, 0, .int 4),
  (3, .invokestatic 46, 6, 0, 0, 0, .null),
  (6, .ireturn, 7, 0, 0, 0, .null)]
def mm_X5_isSetting : ev_M := (RX5, "isSetting", cX5_isSetting, 1, (some .boolean), tb_X5_isSetting, 1, 22, 0, 0)
set_option maxRecDepth 100000 in
theorem ok_X5_isSetting : ev_OK mm_X5_isSetting := by unfold ev_OK; decide +kernel
theorem cs_X5_isSetting : ev_CS yX5_isSetting mm_X5_isSetting 1 := ⟨ev_has_in (k := 1103) (by decide +kernel), ev_has_in (k := 89) (by decide +kernel), ev_has_in (k := 1102) (by decide +kernel), ⟨by decide +kernel, by decide +kernel, by decide +kernel⟩⟩
def tb_X5_set : ev_T := [(0, .iload_n 1, 1, 0, 1, 0, .null),
  (1, .iconst 3, 2, 0, 0, 0, .int 3),
  (2, .if_icmp .ge 8, 5, 0, 10, 0, .null),
  (5, .bipush 20, 7, 0, 0, 0, .int 20),
  (7, .goto 14, 10, 0, 21, 0, .null),
  (10, .iload_n 1, 11, 0, 1, 0, .null),
  (11, .iconst 3, 12, 0, 0, 0, .int 3),
  (12, .if_icmp .ne 7, 15, 0, 19, 0, .null),
  (15, .iconst 1, 16, 0, 0, 0, .int 1),
  (16, .goto 5, 19, 0, 21, 0, .null),
  (19, .bipush 50, 21, 0, 0, 0, .int 50),
  (21, .istore_n 3, 22, 0, 3, 0, .null),
  (22, .aload_n 0, 23, 0, 0, 0, .null),
  (23, .iload_n 1, 24, 0, 1, 0, .null),
  (24, .invokestatic 141, 27, 0, 0, 0, .null),
  (27, .ifCond .ne 7, 30, 0, 34, 0, .null),
  (30, .iconst 1, 31, 0, 0, 0, .int 1),
  (31, .goto 17, 34, 0, 48, 0, .null),
  (34, .iload_n 2, 35, 0, 2, 0, .null),
  (35, .iconst 0, 36, 0, 0, 0, .int 0),
  (36, .iload_n 3, 37, 0, 3, 0, .null),
  (37, .invokestatic 46, 40, 0, 0, 0, .null),
  (40, .ifCond .eq 7, 43, 0, 47, 0, .null),
  (43, .iconst 0, 44, 0, 0, 0, .int 0),
  (44, .goto 4, 47, 0, 48, 0, .null),
  (47, .iconst 2, 48, 0, 0, 0, .int 2),
  (48, .putfield 35, 51, 921, 5, 0, .null),
  (51, .aload_n 0, 52, 0, 0, 0, .null),
  (52, .getfield 35, 55, 921, 5, 0, .null),
  (55, .ifCond .le 5, 58, 0, 60, 0, .null),
  (58, .iconst 0, 59, 0, 0, 0, .int 0),
  (59, .ireturn, 60, 0, 0, 0, .null),
  (60, .aload_n 0, 61, 0, 0, 0, .null),
  (61, .invokevirtual 108, 64, 0, 0, 0, .null),
  (64, .aload_n 0, 65, 0, 0, 0, .null),
  (65, .getfield 7, 68, 922, 5, 1, .null),
  (68, .bipush 8, 70, 0, 0, 0, .int 8),
  (70, .iload_n 1, 71, 0, 1, 0, .null),
  (71, .iadd, 72, 0, 0, 0, .null),
  (72, .iaload, 73, 0, 0, 0, .null),
  (73, .istore 4, 75, 0, 4, 0, .null),
  (75, .aload_n 0, 76, 0, 0, 0, .null),
  (76, .getfield 7, 79, 922, 5, 1, .null),
  (79, .bipush 8, 81, 0, 0, 0, .int 8),
  (81, .iload_n 1, 82, 0, 1, 0, .null),
  (82, .iadd, 83, 0, 0, 0, .null),
  (83, .iload_n 2, 84, 0, 2, 0, .null),
  (84, .iastore, 85, 0, 0, 0, .null),
  (85, .iload 4, 87, 0, 4, 0, .null),
  (87, .ireturn, 88, 0, 0, 0, .null)]
def mm_X5_set : ev_M := (RX5, "set", cX5_set, 5, (some .int), tb_X5_set, 2, 46, 0, 0)
set_option maxRecDepth 100000 in
theorem ok_X5_set : ev_OK mm_X5_set := by unfold ev_OK; decide +kernel
theorem cv_X5_set : ev_CV yX5_set mm_X5_set 5 2 := ⟨ev_has_in (k := 1100) (by decide +kernel), ev_has_in (k := 89) (by decide +kernel), ev_has_in (k := 1098) (by decide +kernel), ev_has_in (k := 1099) (by decide +kernel), ⟨by decide +kernel, by decide +kernel, by decide +kernel⟩, rfl, by decide⟩
def tb_X5_findSet : ev_T := [(0, .aload_n 0, 1, 0, 0, 0, .null),
  (1, .getfield 26, 4, 929, 5, 8, .null),
  (4, .invokestatic 64, 7, 0, 0, 0, .null),
  (7, .aload_n 0, 8, 0, 0, 0, .null),
  (8, .getfield 26, 11, 929, 5, 8, .null),
  (11, .iload_n 1, 12, 0, 1, 0, .null),
  (12, .iconst 1, 13, 0, 0, 0, .int 1),
  (13, .iastore, 14, 0, 0, 0, .null),
  (14, .aload_n 0, 15, 0, 0, 0, .null),
  (15, .aload_n 0, 16, 0, 0, 0, .null),
  (16, .getfield 26, 19, 929, 5, 8, .null),
  (19, .invokevirtual 68, 22, 0, 0, 0, .null),
  (22, .iconst 0, 23, 0, 0, 0, .int 0),
  (23, .istore_n 2, 24, 0, 2, 0, .null),
  (24, .iconst 0, 25, 0, 0, 0, .int 0),
  (25, .istore_n 3, 26, 0, 3, 0, .null),
  (26, .iload_n 3, 27, 0, 3, 0, .null),
  (27, .aload_n 0, 28, 0, 0, 0, .null),
  (28, .getfield 7, 31, 922, 5, 1, .null),
  (31, .iconst 3, 32, 0, 0, 0, .int 3),
  (32, .iaload, 33, 0, 0, 0, .null),
  (33, .if_icmp .ge 47, 36, 0, 80, 0, .null),
  (36, .aload_n 0, 37, 0, 0, 0, .null),
  (37, .iload_n 3, 38, 0, 3, 0, .null),
  (38, .iconst 1, 39, 0, 0, 0, .int 1),
  (39, .invokevirtual 61, 42, 0, 0, 0, .null),
  (42, .istore 4, 44, 0, 4, 0, .null),
  (44, .iload_n 2, 45, 0, 2, 0, .null),
  (45, .ifCond .ne 23, 48, 0, 68, 0, .null),
  (48, .aload_n 0, 49, 0, 0, 0, .null),
  (49, .getfield 26, 52, 929, 5, 8, .null),
  (52, .iload 4, 54, 0, 4, 0, .null),
  (54, .iaload, 55, 0, 0, 0, .null),
  (55, .iconst 1, 56, 0, 0, 0, .int 1),
  (56, .if_icmp .ne 16, 59, 0, 72, 0, .null),
  (59, .aload_n 0, 60, 0, 0, 0, .null),
  (60, .iload 4, 62, 0, 4, 0, .null),
  (62, .invokevirtual 54, 65, 0, 0, 0, .null),
  (65, .ifCond .eq 7, 68, 0, 72, 0, .null),
  (68, .iconst 1, 69, 0, 0, 0, .int 1),
  (69, .goto 4, 72, 0, 73, 0, .null),
  (72, .iconst 0, 73, 0, 0, 0, .int 0),
  (73, .istore_n 2, 74, 0, 2, 0, .null),
  (74, .iinc 3 1, 77, 0, 3, 0, .int 1),
  (77, .goto (-51), 80, 0, 26, 0, .null),
  (80, .iload_n 2, 81, 0, 2, 0, .null),
  (81, .ireturn, 82, 0, 0, 0, .null)]
def mm_X5_findSet : ev_M := (RX5, "findSet", cX5_findSet, 5, (some .boolean), tb_X5_findSet, 3, 68, 0, 0)
set_option maxRecDepth 100000 in
theorem ok_X5_findSet : ev_OK mm_X5_findSet := by unfold ev_OK; decide +kernel
theorem cv_X5_findSet : ev_CV yX5_findSet mm_X5_findSet 5 1 := ⟨ev_has_in (k := 1131) (by decide +kernel), ev_has_in (k := 89) (by decide +kernel), ev_has_in (k := 1130) (by decide +kernel), ev_has_in (k := 60) (by decide +kernel), ⟨by decide +kernel, by decide +kernel, by decide +kernel⟩, rfl, by decide⟩
def tb_X5_restOf : ev_T := [(0, .aload_n 0, 1, 0, 0, 0, .null),
  (1, .iload_n 1, 2, 0, 1, 0, .null),
  (2, .iconst 2, 3, 0, 0, 0, .int 2),
  (3, .invokevirtual 50, 6, 0, 0, 0, .null),
  (6, .istore_n 2, 7, 0, 2, 0, .null),
  (7, .iconst 0, 8, 0, 0, 0, .int 0),
  (8, .istore_n 3, 9, 0, 3, 0, .null),
  (9, .iload_n 3, 10, 0, 3, 0, .null),
  (10, .aload_n 0, 11, 0, 0, 0, .null),
  (11, .getfield 7, 14, 922, 5, 1, .null),
  (14, .iconst 1, 15, 0, 0, 0, .int 1),
  (15, .iaload, 16, 0, 0, 0, .null),
  (16, .if_icmp .ge 53, 19, 0, 69, 0, .null),
  (19, .iconst 0, 20, 0, 0, 0, .int 0),
  (20, .istore 4, 22, 0, 4, 0, .null),
  (22, .iload 4, 24, 0, 4, 0, .null),
  (24, .iconst 4, 25, 0, 0, 0, .int 4),
  (25, .if_icmp .ge 38, 28, 0, 63, 0, .null),
  (28, .aload_n 0, 29, 0, 0, 0, .null),
  (29, .getfield 26, 32, 929, 5, 8, .null),
  (32, .iload_n 3, 33, 0, 3, 0, .null),
  (33, .iaload, 34, 0, 0, 0, .null),
  (34, .iconst 1, 35, 0, 0, 0, .int 1),
  (35, .if_icmp .ne 28, 38, 0, 63, 0, .null),
  (38, .iload_n 2, 39, 0, 2, 0, .null),
  (39, .aload_n 0, 40, 0, 0, 0, .null),
  (40, .iload_n 3, 41, 0, 3, 0, .null),
  (41, .iload 4, 43, 0, 4, 0, .null),
  (43, .invokevirtual 58, 46, 0, 0, 0, .null),
  (46, .iload_n 1, 47, 0, 1, 0, .null),
  (47, .if_icmp .ne 7, 50, 0, 54, 0, .null),
  (50, .iconst 1, 51, 0, 0, 0, .int 1),
  (51, .goto 4, 54, 0, 55, 0, .null),
  (54, .iconst 0, 55, 0, 0, 0, .int 0),
  (55, .isub, 56, 0, 0, 0, .null),
  (56, .istore_n 2, 57, 0, 2, 0, .null),
  (57, .iinc 4 1, 60, 0, 4, 0, .int 1),
  (60, .goto (-38), 63, 0, 22, 0, .null),
  (63, .iinc 3 1, 66, 0, 3, 0, .int 1),
  (66, .goto (-57), 69, 0, 9, 0, .null),
  (69, .iload_n 2, 70, 0, 2, 0, .null),
  (70, .ireturn, 71, 0, 0, 0, .null)]
def mm_X5_restOf : ev_M := (RX5, "restOf", cX5_restOf, 5, (some .int), tb_X5_restOf, 1, 22, 0, 0)
set_option maxRecDepth 100000 in
theorem ok_X5_restOf : ev_OK mm_X5_restOf := by unfold ev_OK; decide +kernel
theorem cv_X5_restOf : ev_CV yX5_restOf mm_X5_restOf 5 1 := ⟨ev_has_in (k := 1146) (by decide +kernel), ev_has_in (k := 89) (by decide +kernel), ev_has_in (k := 1145) (by decide +kernel), ev_has_in (k := 63) (by decide +kernel), ⟨by decide +kernel, by decide +kernel, by decide +kernel⟩, rfl, by decide⟩
def tb_X5_findInnocent : ev_T := [(0, .aload_n 0, 1, 0, 0, 0, .null),
  (1, .getfield 29, 4, 930, 5, 9, .null),
  (4, .invokestatic 64, 7, 0, 0, 0, .null),
  (7, .iconst 0, 8, 0, 0, 0, .int 0),
  (8, .istore_n 1, 9, 0, 1, 0, .null),
  (9, .iload_n 1, 10, 0, 1, 0, .null),
  (10, .aload_n 0, 11, 0, 0, 0, .null),
  (11, .getfield 7, 14, 922, 5, 1, .null),
  (14, .iconst 1, 15, 0, 0, 0, .int 1),
  (15, .iaload, 16, 0, 0, 0, .null),
  (16, .if_icmp .ge 38, 19, 0, 54, 0, .null),
  (19, .aload_n 0, 20, 0, 0, 0, .null),
  (20, .getfield 29, 23, 930, 5, 9, .null),
  (23, .iload_n 1, 24, 0, 1, 0, .null),
  (24, .aload_n 0, 25, 0, 0, 0, .null),
  (25, .getfield 26, 28, 929, 5, 8, .null),
  (28, .iload_n 1, 29, 0, 1, 0, .null),
  (29, .iaload, 30, 0, 0, 0, .null),
  (30, .iconst 1, 31, 0, 0, 0, .int 1),
  (31, .if_icmp .ne 15, 34, 0, 46, 0, .null),
  (34, .aload_n 0, 35, 0, 0, 0, .null),
  (35, .iload_n 1, 36, 0, 1, 0, .null),
  (36, .invokevirtual 144, 39, 0, 0, 0, .null),
  (39, .ifCond .le 7, 42, 0, 46, 0, .null),
  (42, .iconst 1, 43, 0, 0, 0, .int 1),
  (43, .goto 4, 46, 0, 47, 0, .null),
  (46, .iconst 0, 47, 0, 0, 0, .int 0),
  (47, .iastore, 48, 0, 0, 0, .null),
  (48, .iinc 1 1, 51, 0, 1, 0, .int 1),
  (51, .goto (-42), 54, 0, 9, 0, .null),
  (54, .aload_n 0, 55, 0, 0, 0, .null),
  (55, .aload_n 0, 56, 0, 0, 0, .null),
  (56, .getfield 29, 59, 930, 5, 9, .null),
  (59, .invokevirtual 68, 62, 0, 0, 0, .null),
  (62, .return_, 63, 0, 0, 0, .null)]
def mm_X5_findInnocent : ev_M := (RX5, "findInnocent", cX5_findInnocent, 2, none, tb_X5_findInnocent, 3, 68, 0, 0)
set_option maxRecDepth 100000 in
theorem ok_X5_findInnocent : ev_OK mm_X5_findInnocent := by unfold ev_OK; decide +kernel
theorem cv_X5_findInnocent : ev_CV yX5_findInnocent mm_X5_findInnocent 5 0 := ⟨ev_has_in (k := 1142) (by decide +kernel), ev_has_in (k := 89) (by decide +kernel), ev_has_in (k := 1141) (by decide +kernel), ev_has_in (k := 62) (by decide +kernel), ⟨by decide +kernel, by decide +kernel, by decide +kernel⟩, rfl, by decide⟩
def tb_X5_nextToEnd : ev_T := [(0, .iconst (-1), 1, 0, 0, 0, .int (-1)),
  (1, .istore_n 1, 2, 0, 1, 0, .null),
  (2, .iconst 0, 3, 0, 0, 0, .int 0),
  (3, .istore_n 2, 4, 0, 2, 0, .null),
  (4, .iload_n 2, 5, 0, 2, 0, .null),
  (5, .aload_n 0, 6, 0, 0, 0, .null),
  (6, .getfield 7, 9, 922, 5, 1, .null),
  (9, .iconst 1, 10, 0, 0, 0, .int 1),
  (10, .iaload, 11, 0, 0, 0, .null),
  (11, .if_icmp .ge 72, 14, 0, 83, 0, .null),
  (14, .aload_n 0, 15, 0, 0, 0, .null),
  (15, .getfield 26, 18, 929, 5, 8, .null),
  (18, .iload_n 2, 19, 0, 2, 0, .null),
  (19, .iaload, 20, 0, 0, 0, .null),
  (20, .iconst 1, 21, 0, 0, 0, .int 1),
  (21, .if_icmp .ne 24, 24, 0, 45, 0, .null),
  (24, .aload_n 0, 25, 0, 0, 0, .null),
  (25, .getfield 29, 28, 930, 5, 9, .null),
  (28, .iload_n 2, 29, 0, 2, 0, .null),
  (29, .iaload, 30, 0, 0, 0, .null),
  (30, .ifCond .ne 15, 33, 0, 45, 0, .null),
  (33, .aload_n 0, 34, 0, 0, 0, .null),
  (34, .iload_n 2, 35, 0, 2, 0, .null),
  (35, .invokevirtual 54, 38, 0, 0, 0, .null),
  (38, .ifCond .eq 7, 41, 0, 45, 0, .null),
  (41, .iconst 1, 42, 0, 0, 0, .int 1),
  (42, .goto 4, 45, 0, 46, 0, .null),
  (45, .iconst 0, 46, 0, 0, 0, .int 0),
  (46, .istore_n 3, 47, 0, 3, 0, .null),
  (47, .iload_n 3, 48, 0, 3, 0, .null),
  (48, .ifCond .eq 27, 51, 0, 75, 0, .null),
  (51, .iload_n 1, 52, 0, 1, 0, .null),
  (52, .iconst (-1), 53, 0, 0, 0, .int (-1)),
  (53, .if_icmp .eq 18, 56, 0, 71, 0, .null),
  (56, .aload_n 0, 57, 0, 0, 0, .null),
  (57, .iload_n 2, 58, 0, 2, 0, .null),
  (58, .iconst 1, 59, 0, 0, 0, .int 1),
  (59, .invokevirtual 50, 62, 0, 0, 0, .null),
  (62, .aload_n 0, 63, 0, 0, 0, .null),
  (63, .iload_n 1, 64, 0, 1, 0, .null),
  (64, .iconst 1, 65, 0, 0, 0, .int 1),
  (65, .invokevirtual 50, 68, 0, 0, 0, .null),
  (68, .if_icmp .le 7, 71, 0, 75, 0, .null),
  (71, .iload_n 2, 72, 0, 2, 0, .null),
  (72, .goto 4, 75, 0, 76, 0, .null),
  (75, .iload_n 1, 76, 0, 1, 0, .null),
  (76, .istore_n 1, 77, 0, 1, 0, .null),
  (77, .iinc 2 1, 80, 0, 2, 0, .int 1),
  (80, .goto (-76), 83, 0, 4, 0, .null),
  (83, .iload_n 1, 84, 0, 1, 0, .null),
  (84, .ireturn, 85, 0, 0, 0, .null)]
def mm_X5_nextToEnd : ev_M := (RX5, "nextToEnd", cX5_nextToEnd, 4, (some .int), tb_X5_nextToEnd, 2, 43, 0, 0)
set_option maxRecDepth 100000 in
theorem ok_X5_nextToEnd : ev_OK mm_X5_nextToEnd := by unfold ev_OK; decide +kernel
theorem cv_X5_nextToEnd : ev_CV yX5_nextToEnd mm_X5_nextToEnd 5 0 := ⟨ev_has_in (k := 1150) (by decide +kernel), ev_has_in (k := 89) (by decide +kernel), ev_has_in (k := 1149) (by decide +kernel), ev_has_in (k := 64) (by decide +kernel), ⟨by decide +kernel, by decide +kernel, by decide +kernel⟩, rfl, by decide⟩
def tb_X5_tries : ev_T := [(0, .aload_n 0, 1, 0, 0, 0, .null),
  (1, .iload_n 1, 2, 0, 1, 0, .null),
  (2, .invokevirtual 147, 5, 0, 0, 0, .null),
  (5, .ifCond .eq 4, 8, 0, 9, 0, .null),
  (8, .return_, 9, 0, 0, 0, .null),
  (9, .aload_n 0, 10, 0, 0, 0, .null),
  (10, .iload_n 1, 11, 0, 1, 0, .null),
  (11, .iconst 3, 12, 0, 0, 0, .int 3),
  (12, .iconst 0, 13, 0, 0, 0, .int 0),
  (13, .invokevirtual 71, 16, 0, 0, 0, .null),
  (16, .aload_n 0, 17, 0, 0, 0, .null),
  (17, .invokevirtual 150, 20, 0, 0, 0, .null),
  (20, .aload_n 0, 21, 0, 0, 0, .null),
  (21, .invokevirtual 153, 24, 0, 0, 0, .null),
  (24, .istore_n 2, 25, 0, 2, 0, .null),
  (25, .iload_n 2, 26, 0, 2, 0, .null),
  (26, .iconst (-1), 27, 0, 0, 0, .int (-1)),
  (27, .if_icmp .eq 17, 30, 0, 44, 0, .null),
  (30, .aload_n 0, 31, 0, 0, 0, .null),
  (31, .iload_n 2, 32, 0, 2, 0, .null),
  (32, .iconst 2, 33, 0, 0, 0, .int 2),
  (33, .invokevirtual 94, 36, 0, 0, 0, .null),
  (36, .aload_n 0, 37, 0, 0, 0, .null),
  (37, .invokevirtual 153, 40, 0, 0, 0, .null),
  (40, .istore_n 2, 41, 0, 2, 0, .null),
  (41, .goto (-16), 44, 0, 25, 0, .null),
  (44, .aload_n 0, 45, 0, 0, 0, .null),
  (45, .invokevirtual 117, 48, 0, 0, 0, .null),
  (48, .return_, 49, 0, 0, 0, .null)]
def mm_X5_tries : ev_M := (RX5, "tries", cX5_tries, 3, none, tb_X5_tries, 5, 113, 0, 0)
set_option maxRecDepth 100000 in
theorem ok_X5_tries : ev_OK mm_X5_tries := by unfold ev_OK; decide +kernel
theorem cv_X5_tries : ev_CV yX5_tries mm_X5_tries 5 1 := ⟨ev_has_in (k := 1127) (by decide +kernel), ev_has_in (k := 89) (by decide +kernel), ev_has_in (k := 1126) (by decide +kernel), ev_has_in (k := 59) (by decide +kernel), ⟨by decide +kernel, by decide +kernel, by decide +kernel⟩, rfl, by decide⟩
def tb_X5_holdTrial : ev_T := [(0, .iconst 0, 1, 0, 0, 0, .int 0),
  (1, .istore_n 1, 2, 0, 1, 0, .null),
  (2, .iload_n 1, 3, 0, 1, 0, .null),
  (3, .bipush 24, 5, 0, 0, 0, .int 24),
  (5, .if_icmp .ge 35, 8, 0, 40, 0, .null),
  (8, .aload_n 0, 9, 0, 0, 0, .null),
  (9, .getfield 32, 12, 931, 5, 10, .null),
  (12, .iload_n 1, 13, 0, 1, 0, .null),
  (13, .iload_n 1, 14, 0, 1, 0, .null),
  (14, .aload_n 0, 15, 0, 0, 0, .null),
  (15, .getfield 7, 18, 922, 5, 1, .null),
  (18, .iconst 1, 19, 0, 0, 0, .int 1),
  (19, .iaload, 20, 0, 0, 0, .null),
  (20, .if_icmp .ge 12, 23, 0, 32, 0, .null),
  (23, .aload_n 0, 24, 0, 0, 0, .null),
  (24, .iload_n 1, 25, 0, 1, 0, .null),
  (25, .iconst 3, 26, 0, 0, 0, .int 3),
  (26, .invokevirtual 50, 29, 0, 0, 0, .null),
  (29, .goto 4, 32, 0, 33, 0, .null),
  (32, .iconst 0, 33, 0, 0, 0, .int 0),
  (33, .iastore, 34, 0, 0, 0, .null),
  (34, .iinc 1 1, 37, 0, 1, 0, .int 1),
  (37, .goto (-35), 40, 0, 2, 0, .null),
  (40, .iconst 0, 41, 0, 0, 0, .int 0),
  (41, .istore_n 1, 42, 0, 1, 0, .null),
  (42, .iload_n 1, 43, 0, 1, 0, .null),
  (43, .aload_n 0, 44, 0, 0, 0, .null),
  (44, .getfield 7, 47, 922, 5, 1, .null),
  (47, .iconst 1, 48, 0, 0, 0, .int 1),
  (48, .iaload, 49, 0, 0, 0, .null),
  (49, .if_icmp .ge 34, 52, 0, 83, 0, .null),
  (52, .aload_n 0, 53, 0, 0, 0, .null),
  (53, .getfield 32, 56, 931, 5, 10, .null),
  (56, .iload_n 1, 57, 0, 1, 0, .null),
  (57, .iaload, 58, 0, 0, 0, .null),
  (58, .iconst 1, 59, 0, 0, 0, .int 1),
  (59, .if_icmp .ne 18, 62, 0, 77, 0, .null),
  (62, .aload_n 0, 63, 0, 0, 0, .null),
  (63, .iload_n 1, 64, 0, 1, 0, .null),
  (64, .iconst 3, 65, 0, 0, 0, .int 3),
  (65, .invokevirtual 50, 68, 0, 0, 0, .null),
  (68, .iconst 1, 69, 0, 0, 0, .int 1),
  (69, .if_icmp .ne 8, 72, 0, 77, 0, .null),
  (72, .aload_n 0, 73, 0, 0, 0, .null),
  (73, .iload_n 1, 74, 0, 1, 0, .null),
  (74, .invokevirtual 156, 77, 0, 0, 0, .null),
  (77, .iinc 1 1, 80, 0, 1, 0, .int 1),
  (80, .goto (-38), 83, 0, 42, 0, .null),
  (83, .return_, 84, 0, 0, 0, .null)]
def mm_X5_holdTrial : ev_M := (RX5, "holdTrial", cX5_holdTrial, 2, none, tb_X5_holdTrial, 6, 135, 0, 0)
set_option maxRecDepth 100000 in
theorem ok_X5_holdTrial : ev_OK mm_X5_holdTrial := by unfold ev_OK; decide +kernel
theorem cv_X5_holdTrial : ev_CV yX5_holdTrial mm_X5_holdTrial 5 0 := ⟨ev_has_in (k := 1123) (by decide +kernel), ev_has_in (k := 89) (by decide +kernel), ev_has_in (k := 1122) (by decide +kernel), ev_has_in (k := 58) (by decide +kernel), ⟨by decide +kernel, by decide +kernel, by decide +kernel⟩, rfl, by decide⟩
def tb_X5_tick : ev_T := [(0, .aload_n 0, 1, 0, 0, 0, .null),
  (1, .getfield 7, 4, 922, 5, 1, .null),
  (4, .iconst 0, 5, 0, 0, 0, .int 0),
  (5, .dup2, 6, 0, 0, 0, .null),
  (6, .iaload, 7, 0, 0, 0, .null),
  (7, .iconst 1, 8, 0, 0, 0, .int 1),
  (8, .iadd, 9, 0, 0, 0, .null),
  (9, .iastore, 10, 0, 0, 0, .null),
  (10, .aload_n 0, 11, 0, 0, 0, .null),
  (11, .invokevirtual 117, 14, 0, 0, 0, .null),
  (14, .aload_n 0, 15, 0, 0, 0, .null),
  (15, .getfield 7, 18, 922, 5, 1, .null),
  (18, .bipush 12, 20, 0, 0, 0, .int 12),
  (20, .iaload, 21, 0, 0, 0, .null),
  (21, .ifCond .eq 24, 24, 0, 45, 0, .null),
  (24, .aload_n 0, 25, 0, 0, 0, .null),
  (25, .getfield 7, 28, 922, 5, 1, .null),
  (28, .iconst 0, 29, 0, 0, 0, .int 0),
  (29, .iaload, 30, 0, 0, 0, .null),
  (30, .aload_n 0, 31, 0, 0, 0, .null),
  (31, .getfield 7, 34, 922, 5, 1, .null),
  (34, .bipush 12, 36, 0, 0, 0, .int 12),
  (36, .iaload, 37, 0, 0, 0, .null),
  (37, .irem, 38, 0, 0, 0, .null),
  (38, .ifCond .ne 7, 41, 0, 45, 0, .null),
  (41, .aload_n 0, 42, 0, 0, 0, .null),
  (42, .invokevirtual 159, 45, 0, 0, 0, .null),
  (45, .return_, 46, 0, 0, 0, .null)]
def mm_X5_tick : ev_M := (RX5, "tick", cX5_tick, 1, none, tb_X5_tick, 7, 156, 0, 0)
set_option maxRecDepth 100000 in
theorem ok_X5_tick : ev_OK mm_X5_tick := by unfold ev_OK; decide +kernel
theorem cv_X5_tick : ev_CV yX5_tick mm_X5_tick 5 0 := ⟨ev_has_in (k := 1119) (by decide +kernel), ev_has_in (k := 89) (by decide +kernel), ev_has_in (k := 1118) (by decide +kernel), ev_has_in (k := 57) (by decide +kernel), ⟨by decide +kernel, by decide +kernel, by decide +kernel⟩, rfl, by decide⟩
def tb_X5_passed : ev_T := [(0, .aload_n 0, 1, 0, 0, 0, .null),
  (1, .getfield 7, 4, 922, 5, 1, .null),
  (4, .iconst 4, 5, 0, 0, 0, .int 4),
  (5, .iaload, 6, 0, 0, 0, .null),
  (6, .istore_n 2, 7, 0, 2, 0, .null),
  (7, .iconst 0, 8, 0, 0, 0, .int 0),
  (8, .istore_n 3, 9, 0, 3, 0, .null),
  (9, .iload_n 3, 10, 0, 3, 0, .null),
  (10, .iload_n 1, 11, 0, 1, 0, .null),
  (11, .if_icmp .ge 13, 14, 0, 24, 0, .null),
  (14, .aload_n 0, 15, 0, 0, 0, .null),
  (15, .invokevirtual 162, 18, 0, 0, 0, .null),
  (18, .iinc 3 1, 21, 0, 3, 0, .int 1),
  (21, .goto (-12), 24, 0, 9, 0, .null),
  (24, .aload_n 0, 25, 0, 0, 0, .null),
  (25, .getfield 7, 28, 922, 5, 1, .null),
  (28, .iconst 4, 29, 0, 0, 0, .int 4),
  (29, .iaload, 30, 0, 0, 0, .null),
  (30, .iload_n 2, 31, 0, 2, 0, .null),
  (31, .isub, 32, 0, 0, 0, .null),
  (32, .ireturn, 33, 0, 0, 0, .null)]
def mm_X5_passed : ev_M := (RX5, "passed", cX5_passed, 4, (some .int), tb_X5_passed, 8, 176, 0, 0)
set_option maxRecDepth 100000 in
theorem ok_X5_passed : ev_OK mm_X5_passed := by unfold ev_OK; decide +kernel
theorem cv_X5_passed : ev_CV yX5_passed mm_X5_passed 5 1 := ⟨ev_has_in (k := 1115) (by decide +kernel), ev_has_in (k := 89) (by decide +kernel), ev_has_in (k := 1114) (by decide +kernel), ev_has_in (k := 56) (by decide +kernel), ⟨by decide +kernel, by decide +kernel, by decide +kernel⟩, rfl, by decide⟩
def tb_X5_whyNotPassed : ev_T := [(0, .iload_n 1, 1, 0, 1, 0, .null),
  (1, .iconst 1, 2, 0, 0, 0, .int 1),
  (2, .bipush 100, 4, 0, 0, 0, .int 100),
  (4, .invokestatic 46, 7, 0, 0, 0, .null),
  (7, .ifCond .ne 7, 10, 0, 14, 0, .null),
  (10, .iconst 1, 11, 0, 0, 0, .int 1),
  (11, .goto 22, 14, 0, 33, 0, .null),
  (14, .aload_n 0, 15, 0, 0, 0, .null),
  (15, .getfield 7, 18, 922, 5, 1, .null),
  (18, .iconst 0, 19, 0, 0, 0, .int 0),
  (19, .iaload, 20, 0, 0, 0, .null),
  (20, .iload_n 1, 21, 0, 1, 0, .null),
  (21, .iadd, 22, 0, 0, 0, .null),
  (22, .sipush 5000, 25, 0, 0, 0, .int 5000),
  (25, .if_icmp .le 7, 28, 0, 32, 0, .null),
  (28, .iconst 2, 29, 0, 0, 0, .int 2),
  (29, .goto 4, 32, 0, 33, 0, .null),
  (32, .iconst 0, 33, 0, 0, 0, .int 0),
  (33, .ireturn, 34, 0, 0, 0, .null)]
def mm_X5_whyNotPassed : ev_M := (RX5, "whyNotPassed", cX5_whyNotPassed, 2, (some .int), tb_X5_whyNotPassed, 1, 22, 0, 0)
set_option maxRecDepth 100000 in
theorem ok_X5_whyNotPassed : ev_OK mm_X5_whyNotPassed := by unfold ev_OK; decide +kernel
theorem cv_X5_whyNotPassed : ev_CV yX5_whyNotPassed mm_X5_whyNotPassed 5 1 := ⟨ev_has_in (k := 1111) (by decide +kernel), ev_has_in (k := 89) (by decide +kernel), ev_has_in (k := 1110) (by decide +kernel), ev_has_in (k := 55) (by decide +kernel), ⟨by decide +kernel, by decide +kernel, by decide +kernel⟩, rfl, by decide⟩
def tb_X5_pass : ev_T := [(0, .aload_n 0, 1, 0, 0, 0, .null),
  (1, .aload_n 0, 2, 0, 0, 0, .null),
  (2, .iload_n 1, 3, 0, 1, 0, .null),
  (3, .invokevirtual 165, 6, 0, 0, 0, .null),
  (6, .putfield 35, 9, 921, 5, 0, .null),
  (9, .aload_n 0, 10, 0, 0, 0, .null),
  (10, .getfield 35, 13, 921, 5, 0, .null),
  (13, .ifCond .le 5, 16, 0, 18, 0, .null),
  (16, .iconst 0, 17, 0, 0, 0, .int 0),
  (17, .ireturn, 18, 0, 0, 0, .null),
  (18, .aload_n 0, 19, 0, 0, 0, .null),
  (19, .invokevirtual 108, 22, 0, 0, 0, .null),
  (22, .aload_n 0, 23, 0, 0, 0, .null),
  (23, .iload_n 1, 24, 0, 1, 0, .null),
  (24, .invokevirtual 168, 27, 0, 0, 0, .null),
  (27, .ireturn, 28, 0, 0, 0, .null)]
def mm_X5_pass : ev_M := (RX5, "pass", cX5_pass, 2, (some .int), tb_X5_pass, 9, 199, 0, 0)
set_option maxRecDepth 100000 in
theorem ok_X5_pass : ev_OK mm_X5_pass := by unfold ev_OK; decide +kernel
theorem cv_X5_pass : ev_CV yX5_pass mm_X5_pass 5 1 := ⟨ev_has_in (k := 1107) (by decide +kernel), ev_has_in (k := 89) (by decide +kernel), ev_has_in (k := 1105) (by decide +kernel), ev_has_in (k := 1106) (by decide +kernel), ⟨by decide +kernel, by decide +kernel, by decide +kernel⟩, rfl, by decide⟩
def tb_X5_trial : ev_T := [(0, .aload_n 0, 1, 0, 0, 0, .null),
  (1, .iconst 0, 2, 0, 0, 0, .int 0),
  (2, .putfield 35, 5, 921, 5, 0, .null),
  (5, .aload_n 0, 6, 0, 0, 0, .null),
  (6, .invokevirtual 108, 9, 0, 0, 0, .null),
  (9, .aload_n 0, 10, 0, 0, 0, .null),
  (10, .getfield 7, 13, 922, 5, 1, .null),
  (13, .iconst 4, 14, 0, 0, 0, .int 4),
  (14, .iaload, 15, 0, 0, 0, .null),
  (15, .istore_n 1, 16, 0, 1, 0, .null),
  (16, .aload_n 0, 17, 0, 0, 0, .null),
  (17, .invokevirtual 159, 20, 0, 0, 0, .null),
  (20, .aload_n 0, 21, 0, 0, 0, .null),
  (21, .getfield 7, 24, 922, 5, 1, .null),
  (24, .iconst 4, 25, 0, 0, 0, .int 4),
  (25, .iaload, 26, 0, 0, 0, .null),
  (26, .iload_n 1, 27, 0, 1, 0, .null),
  (27, .isub, 28, 0, 0, 0, .null),
  (28, .ireturn, 29, 0, 0, 0, .null)]
def mm_X5_trial : ev_M := (RX5, "trial", cX5_trial, 2, (some .int), tb_X5_trial, 7, 156, 0, 0)
set_option maxRecDepth 100000 in
theorem ok_X5_trial : ev_OK mm_X5_trial := by unfold ev_OK; decide +kernel
theorem cv_X5_trial : ev_CV yX5_trial mm_X5_trial 5 0 := ⟨ev_has_in (k := 1154) (by decide +kernel), ev_has_in (k := 89) (by decide +kernel), ev_has_in (k := 1152) (by decide +kernel), ev_has_in (k := 1153) (by decide +kernel), ⟨by decide +kernel, by decide +kernel, by decide +kernel⟩, rfl, by decide⟩
def tb_X5_audit : ev_T := [(0, .aload_n 0, 1, 0, 0, 0, .null),
  (1, .iconst 0, 2, 0, 0, 0, .int 0),
  (2, .putfield 35, 5, 921, 5, 0, .null),
  (5, .aload_n 0, 6, 0, 0, 0, .null),
  (6, .invokevirtual 108, 9, 0, 0, 0, .null),
  (9, .iconst 0, 10, 0, 0, 0, .int 0),
  (10, .istore_n 1, 11, 0, 1, 0, .null),
  (11, .iconst 0, 12, 0, 0, 0, .int 0),
  (12, .istore_n 2, 13, 0, 2, 0, .null),
  (13, .iload_n 2, 14, 0, 2, 0, .null),
  (14, .aload_n 0, 15, 0, 0, 0, .null),
  (15, .getfield 7, 18, 922, 5, 1, .null),
  (18, .iconst 1, 19, 0, 0, 0, .int 1),
  (19, .iaload, 20, 0, 0, 0, .null),
  (20, .if_icmp .ge 54, 23, 0, 74, 0, .null),
  (23, .aload_n 0, 24, 0, 0, 0, .null),
  (24, .iload_n 2, 25, 0, 2, 0, .null),
  (25, .invokevirtual 54, 28, 0, 0, 0, .null),
  (28, .ifCond .eq 40, 31, 0, 68, 0, .null),
  (31, .aload_n 0, 32, 0, 0, 0, .null),
  (32, .iload_n 2, 33, 0, 2, 0, .null),
  (33, .invokevirtual 91, 36, 0, 0, 0, .null),
  (36, .aload_n 0, 37, 0, 0, 0, .null),
  (37, .iload_n 2, 38, 0, 2, 0, .null),
  (38, .invokevirtual 171, 41, 0, 0, 0, .null),
  (41, .isub, 42, 0, 0, 0, .null),
  (42, .istore_n 3, 43, 0, 3, 0, .null),
  (43, .iload_n 1, 44, 0, 1, 0, .null),
  (44, .iload_n 3, 45, 0, 3, 0, .null),
  (45, .aload_n 0, 46, 0, 0, 0, .null),
  (46, .iload_n 2, 47, 0, 2, 0, .null),
  (47, .iconst 2, 48, 0, 0, 0, .int 2),
  (48, .invokevirtual 50, 51, 0, 0, 0, .null),
  (51, .if_icmp .ne 7, 54, 0, 58, 0, .null),
  (54, .iconst 0, 55, 0, 0, 0, .int 0),
  (55, .goto 4, 58, 0, 59, 0, .null),
  (58, .iconst 1, 59, 0, 0, 0, .int 1),
  (59, .iadd, 60, 0, 0, 0, .null),
  (60, .istore_n 1, 61, 0, 1, 0, .null),
  (61, .aload_n 0, 62, 0, 0, 0, .null),
  (62, .iload_n 2, 63, 0, 2, 0, .null),
  (63, .iconst 2, 64, 0, 0, 0, .int 2),
  (64, .iload_n 3, 65, 0, 3, 0, .null),
  (65, .invokevirtual 71, 68, 0, 0, 0, .null),
  (68, .iinc 2 1, 71, 0, 2, 0, .int 1),
  (71, .goto (-58), 74, 0, 13, 0, .null),
  (74, .iload_n 1, 75, 0, 1, 0, .null),
  (75, .ireturn, 76, 0, 0, 0, .null)]
def mm_X5_audit : ev_M := (RX5, "audit", cX5_audit, 4, (some .int), tb_X5_audit, 3, 67, 0, 0)
set_option maxRecDepth 100000 in
theorem ok_X5_audit : ev_OK mm_X5_audit := by unfold ev_OK; decide +kernel
theorem cv_X5_audit : ev_CV yX5_audit mm_X5_audit 5 0 := ⟨ev_has_in (k := 1158) (by decide +kernel), ev_has_in (k := 89) (by decide +kernel), ev_has_in (k := 1156) (by decide +kernel), ev_has_in (k := 1157) (by decide +kernel), ⟨by decide +kernel, by decide +kernel, by decide +kernel⟩, rfl, by decide⟩
def tb_X5_append : ev_T := [(0, .aload_n 0, 1, 0, 0, 0, .null),
  (1, .iload_n 1, 2, 0, 1, 0, .null),
  (2, .bipush 33, 4, 0, 0, 0, .int 33),
  (4, .bipush 126, 6, 0, 0, 0, .int 126),
  (6, .invokestatic 46, 9, 0, 0, 0, .null),
  (9, .ifCond .ne 7, 12, 0, 16, 0, .null),
  (12, .iconst 1, 13, 0, 0, 0, .int 1),
  (13, .goto 17, 16, 0, 30, 0, .null),
  (16, .aload_n 0, 17, 0, 0, 0, .null),
  (17, .getfield 174, 20, 927, 5, 6, .null),
  (20, .bipush 60, 22, 0, 0, 0, .int 60),
  (22, .if_icmp .ne 7, 25, 0, 29, 0, .null),
  (25, .iconst 2, 26, 0, 0, 0, .int 2),
  (26, .goto 4, 29, 0, 30, 0, .null),
  (29, .iconst 0, 30, 0, 0, 0, .int 0),
  (30, .putfield 35, 33, 921, 5, 0, .null),
  (33, .aload_n 0, 34, 0, 0, 0, .null),
  (34, .getfield 35, 37, 921, 5, 0, .null),
  (37, .ifCond .le 5, 40, 0, 42, 0, .null),
  (40, .iconst 0, 41, 0, 0, 0, .int 0),
  (41, .ireturn, 42, 0, 0, 0, .null),
  (42, .aload_n 0, 43, 0, 0, 0, .null),
  (43, .getfield 20, 46, 926, 5, 5, .null),
  (46, .aload_n 0, 47, 0, 0, 0, .null),
  (47, .getfield 174, 50, 927, 5, 6, .null),
  (50, .iload_n 1, 51, 0, 1, 0, .null),
  (51, .iastore, 52, 0, 0, 0, .null),
  (52, .aload_n 0, 53, 0, 0, 0, .null),
  (53, .dup, 54, 0, 0, 0, .null),
  (54, .getfield 174, 57, 927, 5, 6, .null),
  (57, .iconst 1, 58, 0, 0, 0, .int 1),
  (58, .iadd, 59, 0, 0, 0, .null),
  (59, .putfield 174, 62, 927, 5, 6, .null),
  (62, .aload_n 0, 63, 0, 0, 0, .null),
  (63, .getfield 174, 66, 927, 5, 6, .null),
  (66, .ireturn, 67, 0, 0, 0, .null)]
def mm_X5_append : ev_M := (RX5, "append", cX5_append, 2, (some .int), tb_X5_append, 1, 22, 0, 0)
set_option maxRecDepth 100000 in
theorem ok_X5_append : ev_OK mm_X5_append := by unfold ev_OK; decide +kernel
theorem cv_X5_append : ev_CV yX5_append mm_X5_append 5 1 := ⟨ev_has_in (k := 1166) (by decide +kernel), ev_has_in (k := 89) (by decide +kernel), ev_has_in (k := 1164) (by decide +kernel), ev_has_in (k := 1165) (by decide +kernel), ⟨by decide +kernel, by decide +kernel, by decide +kernel⟩, rfl, by decide⟩
def tb_X5_clearBuffer : ev_T := [(0, .aload_n 0, 1, 0, 0, 0, .null),
  (1, .iconst 0, 2, 0, 0, 0, .int 0),
  (2, .putfield 35, 5, 921, 5, 0, .null),
  (5, .aload_n 0, 6, 0, 0, 0, .null),
  (6, .getfield 174, 9, 927, 5, 6, .null),
  (9, .istore_n 1, 10, 0, 1, 0, .null),
  (10, .aload_n 0, 11, 0, 0, 0, .null),
  (11, .iconst 0, 12, 0, 0, 0, .int 0),
  (12, .putfield 174, 15, 927, 5, 6, .null),
  (15, .iload_n 1, 16, 0, 1, 0, .null),
  (16, .ireturn, 17, 0, 0, 0, .null)]
def mm_X5_clearBuffer : ev_M := (RX5, "clearBuffer", cX5_clearBuffer, 2, (some .int), tb_X5_clearBuffer, 0, 0, 0, 0)
set_option maxRecDepth 100000 in
theorem ok_X5_clearBuffer : ev_OK mm_X5_clearBuffer := by unfold ev_OK; decide +kernel
theorem cv_X5_clearBuffer : ev_CV yX5_clearBuffer mm_X5_clearBuffer 5 0 := ⟨ev_has_in (k := 1170) (by decide +kernel), ev_has_in (k := 89) (by decide +kernel), ev_has_in (k := 1168) (by decide +kernel), ev_has_in (k := 1169) (by decide +kernel), ⟨by decide +kernel, by decide +kernel, by decide +kernel⟩, rfl, by decide⟩
def tb_X5_stepAt : ev_T := [(0, .iload_n 0, 1, 0, 0, 0, .null),
  (1, .tableswitch 79 104 116 #[69, 79, 76, 79, 79, 79, 67, 79, 79, 79, 79, 71, 73], 68, 0, 67, 1, .null),
  (68, .iconst 1, 69, 0, 0, 0, .int 1),
  (69, .ireturn, 70, 0, 0, 0, .null),
  (70, .iconst 2, 71, 0, 0, 0, .int 2),
  (71, .ireturn, 72, 0, 0, 0, .null),
  (72, .iconst 5, 73, 0, 0, 0, .int 5),
  (73, .ireturn, 74, 0, 0, 0, .null),
  (74, .bipush 8, 76, 0, 0, 0, .int 8),
  (76, .ireturn, 77, 0, 0, 0, .null),
  (77, .bipush 9, 79, 0, 0, 0, .int 9),
  (79, .ireturn, 80, 0, 0, 0, .null),
  (80, .iconst (-1), 81, 0, 0, 0, .int (-1)),
  (81, .ireturn, 82, 0, 0, 0, .null)]
def mm_X5_stepAt : ev_M := (RX5, "stepAt", cX5_stepAt, 1, (some .int), tb_X5_stepAt, 0, 0, 0, 0)
set_option maxRecDepth 100000 in
theorem ok_X5_stepAt : ev_OK mm_X5_stepAt := by unfold ev_OK; decide +kernel
theorem cs_X5_stepAt : ev_CS yX5_stepAt mm_X5_stepAt 1 := ⟨ev_has_in (k := 1180) (by decide +kernel), ev_has_in (k := 89) (by decide +kernel), ev_has_in (k := 1179) (by decide +kernel), ⟨by decide +kernel, by decide +kernel, by decide +kernel⟩⟩
def tb_X5_afterDigit : ev_T := [(0, .iload_n 0, 1, 0, 0, 0, .null),
  (1, .iconst 0, 2, 0, 0, 0, .int 0),
  (2, .bipush 9, 4, 0, 0, 0, .int 9),
  (4, .invokestatic 46, 7, 0, 0, 0, .null),
  (7, .ifCond .ne 7, 10, 0, 14, 0, .null),
  (10, .iconst (-1), 11, 0, 0, 0, .int (-1)),
  (11, .goto 22, 14, 0, 33, 0, .null),
  (14, .iload_n 0, 15, 0, 0, 0, .null),
  (15, .iconst 1, 16, 0, 0, 0, .int 1),
  (16, .if_icmp .ne 7, 19, 0, 23, 0, .null),
  (19, .iload_n 1, 20, 0, 1, 0, .null),
  (20, .goto 13, 23, 0, 33, 0, .null),
  (23, .iload_n 0, 24, 0, 0, 0, .null),
  (24, .iconst 2, 25, 0, 0, 0, .int 2),
  (25, .if_icmp .ne 7, 28, 0, 32, 0, .null),
  (28, .iload_n 2, 29, 0, 2, 0, .null),
  (29, .goto 4, 32, 0, 33, 0, .null),
  (32, .iload_n 3, 33, 0, 3, 0, .null),
  (33, .ireturn, 34, 0, 0, 0, .null)]
def mm_X5_afterDigit : ev_M := (RX5, "afterDigit", cX5_afterDigit, 4, (some .int), tb_X5_afterDigit, 1, 22, 0, 0)
set_option maxRecDepth 100000 in
theorem ok_X5_afterDigit : ev_OK mm_X5_afterDigit := by unfold ev_OK; decide +kernel
theorem cs_X5_afterDigit : ev_CS yX5_afterDigit mm_X5_afterDigit 4 := ⟨ev_has_in (k := 1183) (by decide +kernel), ev_has_in (k := 89) (by decide +kernel), ev_has_in (k := 1182) (by decide +kernel), ⟨by decide +kernel, by decide +kernel, by decide +kernel⟩⟩
def tb_X5_next : ev_T := [(0, .iload_n 1, 1, 0, 1, 0, .null),
  (1, .bipush 48, 3, 0, 0, 0, .int 48),
  (3, .isub, 4, 0, 0, 0, .null),
  (4, .istore_n 2, 5, 0, 2, 0, .null),
  (5, .iload_n 2, 6, 0, 2, 0, .null),
  (6, .iconst 0, 7, 0, 0, 0, .int 0),
  (7, .bipush 9, 9, 0, 0, 0, .int 9),
  (9, .invokestatic 46, 12, 0, 0, 0, .null),
  (12, .istore_n 3, 13, 0, 3, 0, .null),
  (13, .iload_n 0, 14, 0, 0, 0, .null),
  (14, .tableswitch 291 0 14 #[74, 79, 90, 105, 117, 139, 150, 163, 178, 291, 195, 216, 242, 264, 195], 88, 0, 74, 14, .null),
  (88, .iload_n 1, 89, 0, 1, 0, .null),
  (89, .invokestatic 177, 92, 0, 0, 0, .null),
  (92, .ireturn, 93, 0, 0, 0, .null),
  (93, .iload_n 3, 94, 0, 3, 0, .null),
  (94, .ifCond .eq 8, 97, 0, 102, 0, .null),
  (97, .bipush 9, 99, 0, 0, 0, .int 9),
  (99, .goto 4, 102, 0, 103, 0, .null),
  (102, .iconst (-1), 103, 0, 0, 0, .int (-1)),
  (103, .ireturn, 104, 0, 0, 0, .null),
  (104, .iload_n 2, 105, 0, 2, 0, .null),
  (105, .iconst 0, 106, 0, 0, 0, .int 0),
  (106, .iconst 3, 107, 0, 0, 0, .int 3),
  (107, .invokestatic 46, 110, 0, 0, 0, .null),
  (110, .ifCond .eq 7, 113, 0, 117, 0, .null),
  (113, .iconst 3, 114, 0, 0, 0, .int 3),
  (114, .goto 4, 117, 0, 118, 0, .null),
  (117, .iconst (-1), 118, 0, 0, 0, .int (-1)),
  (118, .ireturn, 119, 0, 0, 0, .null),
  (119, .iload_n 1, 120, 0, 1, 0, .null),
  (120, .bipush 61, 122, 0, 0, 0, .int 61),
  (122, .if_icmp .ne 7, 125, 0, 129, 0, .null),
  (125, .iconst 4, 126, 0, 0, 0, .int 4),
  (126, .goto 4, 129, 0, 130, 0, .null),
  (129, .iconst (-1), 130, 0, 0, 0, .int (-1)),
  (130, .ireturn, 131, 0, 0, 0, .null),
  (131, .iload_n 1, 132, 0, 1, 0, .null),
  (132, .bipush 45, 134, 0, 0, 0, .int 45),
  (134, .if_icmp .ne 8, 137, 0, 142, 0, .null),
  (137, .bipush 9, 139, 0, 0, 0, .int 9),
  (139, .goto 13, 142, 0, 152, 0, .null),
  (142, .iload_n 2, 143, 0, 2, 0, .null),
  (143, .bipush 10, 145, 0, 0, 0, .int 10),
  (145, .bipush 11, 147, 0, 0, 0, .int 11),
  (147, .bipush 9, 149, 0, 0, 0, .int 9),
  (149, .invokestatic 180, 152, 0, 0, 0, .null),
  (152, .ireturn, 153, 0, 0, 0, .null),
  (153, .iload_n 2, 154, 0, 2, 0, .null),
  (154, .bipush 12, 156, 0, 0, 0, .int 12),
  (156, .bipush 13, 158, 0, 0, 0, .int 13),
  (158, .bipush 6, 160, 0, 0, 0, .int 6),
  (160, .invokestatic 180, 163, 0, 0, 0, .null),
  (163, .ireturn, 164, 0, 0, 0, .null),
  (164, .iload_n 1, 165, 0, 1, 0, .null),
  (165, .bipush 46, 167, 0, 0, 0, .int 46),
  (167, .if_icmp .ne 8, 170, 0, 175, 0, .null),
  (170, .bipush 7, 172, 0, 0, 0, .int 7),
  (172, .goto 4, 175, 0, 176, 0, .null),
  (175, .iconst (-1), 176, 0, 0, 0, .int (-1)),
  (176, .ireturn, 177, 0, 0, 0, .null),
  (177, .iload_n 2, 178, 0, 2, 0, .null),
  (178, .iconst 0, 179, 0, 0, 0, .int 0),
  (179, .iconst 3, 180, 0, 0, 0, .int 3),
  (180, .invokestatic 46, 183, 0, 0, 0, .null),
  (183, .ifCond .eq 7, 186, 0, 190, 0, .null),
  (186, .iconst 3, 187, 0, 0, 0, .int 3),
  (187, .goto 4, 190, 0, 191, 0, .null),
  (190, .iconst (-1), 191, 0, 0, 0, .int (-1)),
  (191, .ireturn, 192, 0, 0, 0, .null),
  (192, .iload_n 2, 193, 0, 2, 0, .null),
  (193, .iconst 1, 194, 0, 0, 0, .int 1),
  (194, .bipush 9, 196, 0, 0, 0, .int 9),
  (196, .invokestatic 46, 199, 0, 0, 0, .null),
  (199, .ifCond .eq 8, 202, 0, 207, 0, .null),
  (202, .bipush 14, 204, 0, 0, 0, .int 14),
  (204, .goto 4, 207, 0, 208, 0, .null),
  (207, .iconst (-1), 208, 0, 0, 0, .int (-1)),
  (208, .ireturn, 209, 0, 0, 0, .null),
  (209, .iload_n 3, 210, 0, 3, 0, .null),
  (210, .ifCond .eq 8, 213, 0, 218, 0, .null),
  (213, .bipush 9, 215, 0, 0, 0, .int 9),
  (215, .goto 14, 218, 0, 229, 0, .null),
  (218, .iload_n 1, 219, 0, 1, 0, .null),
  (219, .bipush 59, 221, 0, 0, 0, .int 59),
  (221, .if_icmp .ne 7, 224, 0, 228, 0, .null),
  (224, .iconst 0, 225, 0, 0, 0, .int 0),
  (225, .goto 4, 228, 0, 229, 0, .null),
  (228, .iconst (-1), 229, 0, 0, 0, .int (-1)),
  (229, .ireturn, 230, 0, 0, 0, .null),
  (230, .iload_n 2, 231, 0, 2, 0, .null),
  (231, .iconst 0, 232, 0, 0, 0, .int 0),
  (232, .iconst 3, 233, 0, 0, 0, .int 3),
  (233, .invokestatic 46, 236, 0, 0, 0, .null),
  (236, .ifCond .eq 8, 239, 0, 244, 0, .null),
  (239, .bipush 9, 241, 0, 0, 0, .int 9),
  (241, .goto 14, 244, 0, 255, 0, .null),
  (244, .iload_n 1, 245, 0, 1, 0, .null),
  (245, .bipush 59, 247, 0, 0, 0, .int 59),
  (247, .if_icmp .ne 7, 250, 0, 254, 0, .null),
  (250, .iconst 0, 251, 0, 0, 0, .int 0),
  (251, .goto 4, 254, 0, 255, 0, .null),
  (254, .iconst (-1), 255, 0, 0, 0, .int (-1)),
  (255, .ireturn, 256, 0, 0, 0, .null),
  (256, .iload_n 3, 257, 0, 3, 0, .null),
  (257, .ifCond .eq 8, 260, 0, 265, 0, .null),
  (260, .bipush 6, 262, 0, 0, 0, .int 6),
  (262, .goto 15, 265, 0, 277, 0, .null),
  (265, .iload_n 1, 266, 0, 1, 0, .null),
  (266, .bipush 46, 268, 0, 0, 0, .int 46),
  (268, .if_icmp .ne 8, 271, 0, 276, 0, .null),
  (271, .bipush 7, 273, 0, 0, 0, .int 7),
  (273, .goto 4, 276, 0, 277, 0, .null),
  (276, .iconst (-1), 277, 0, 0, 0, .int (-1)),
  (277, .ireturn, 278, 0, 0, 0, .null),
  (278, .iload_n 2, 279, 0, 2, 0, .null),
  (279, .iconst 0, 280, 0, 0, 0, .int 0),
  (280, .iconst 3, 281, 0, 0, 0, .int 3),
  (281, .invokestatic 46, 284, 0, 0, 0, .null),
  (284, .ifCond .eq 8, 287, 0, 292, 0, .null),
  (287, .bipush 6, 289, 0, 0, 0, .int 6),
  (289, .goto 15, 292, 0, 304, 0, .null),
  (292, .iload_n 1, 293, 0, 1, 0, .null),
  (293, .bipush 46, 295, 0, 0, 0, .int 46),
  (295, .if_icmp .ne 8, 298, 0, 303, 0, .null),
  (298, .bipush 7, 300, 0, 0, 0, .int 7),
  (300, .goto 4, 303, 0, 304, 0, .null),
  (303, .iconst (-1), 304, 0, 0, 0, .int (-1)),
  (304, .ireturn, 305, 0, 0, 0, .null),
  (305, .iload_n 1, 306, 0, 1, 0, .null),
  (306, .bipush 59, 308, 0, 0, 0, .int 59),
  (308, .if_icmp .ne 7, 311, 0, 315, 0, .null),
  (311, .iconst 0, 312, 0, 0, 0, .int 0),
  (312, .goto 4, 315, 0, 316, 0, .null),
  (315, .iconst (-1), 316, 0, 0, 0, .int (-1)),
  (316, .ireturn, 317, 0, 0, 0, .null)]
def mm_X5_next : ev_M := (RX5, "next", cX5_next, 4, (some .int), tb_X5_next, 2, 45, 0, 0)
set_option maxRecDepth 100000 in
theorem ok_X5_next : ev_OK mm_X5_next := by unfold ev_OK; decide +kernel
theorem cs_X5_next : ev_CS yX5_next mm_X5_next 2 := ⟨ev_has_in (k := 1177) (by decide +kernel), ev_has_in (k := 89) (by decide +kernel), ev_has_in (k := 1176) (by decide +kernel), ⟨by decide +kernel, by decide +kernel, by decide +kernel⟩⟩
def tb_X5_firstError : ev_T := [(0, .aload_n 0, 1, 0, 0, 0, .null),
  (1, .iconst 0, 2, 0, 0, 0, .int 0),
  (2, .putfield 35, 5, 921, 5, 0, .null),
  (5, .iconst 0, 6, 0, 0, 0, .int 0),
  (6, .istore_n 1, 7, 0, 1, 0, .null),
  (7, .iconst 0, 8, 0, 0, 0, .int 0),
  (8, .istore_n 2, 9, 0, 2, 0, .null),
  (9, .iload_n 2, 10, 0, 2, 0, .null),
  (10, .aload_n 0, 11, 0, 0, 0, .null),
  (11, .getfield 174, 14, 927, 5, 6, .null),
  (14, .if_icmp .ge 27, 17, 0, 41, 0, .null),
  (17, .iload_n 1, 18, 0, 1, 0, .null),
  (18, .aload_n 0, 19, 0, 0, 0, .null),
  (19, .getfield 20, 22, 926, 5, 5, .null),
  (22, .iload_n 2, 23, 0, 2, 0, .null),
  (23, .iaload, 24, 0, 0, 0, .null),
  (24, .invokestatic 184, 27, 0, 0, 0, .null),
  (27, .istore_n 1, 28, 0, 1, 0, .null),
  (28, .iload_n 1, 29, 0, 1, 0, .null),
  (29, .iconst (-1), 30, 0, 0, 0, .int (-1)),
  (30, .if_icmp .ne 5, 33, 0, 35, 0, .null),
  (33, .iload_n 2, 34, 0, 2, 0, .null),
  (34, .ireturn, 35, 0, 0, 0, .null),
  (35, .iinc 2 1, 38, 0, 2, 0, .int 1),
  (38, .goto (-29), 41, 0, 9, 0, .null),
  (41, .aload_n 0, 42, 0, 0, 0, .null),
  (42, .getfield 174, 45, 927, 5, 6, .null),
  (45, .ireturn, 46, 0, 0, 0, .null)]
def mm_X5_firstError : ev_M := (RX5, "firstError", cX5_firstError, 3, (some .int), tb_X5_firstError, 3, 68, 0, 0)
set_option maxRecDepth 100000 in
theorem ok_X5_firstError : ev_OK mm_X5_firstError := by unfold ev_OK; decide +kernel
theorem cv_X5_firstError : ev_CV yX5_firstError mm_X5_firstError 5 0 := ⟨ev_has_in (k := 1174) (by decide +kernel), ev_has_in (k := 89) (by decide +kernel), ev_has_in (k := 1172) (by decide +kernel), ev_has_in (k := 1173) (by decide +kernel), ⟨by decide +kernel, by decide +kernel, by decide +kernel⟩, rfl, by decide⟩
def tb_X5_isStepOver : ev_T := [(0, .iload_n 0, 1, 0, 0, 0, .null),
  (1, .bipush 9, 3, 0, 0, 0, .int 9),
  (3, .if_icmp .eq 21, 6, 0, 24, 0, .null),
  (6, .iload_n 0, 7, 0, 0, 0, .null),
  (7, .bipush 10, 9, 0, 0, 0, .int 10),
  (9, .if_icmp .eq 15, 12, 0, 24, 0, .null),
  (12, .iload_n 0, 13, 0, 0, 0, .null),
  (13, .bipush 11, 15, 0, 0, 0, .int 11),
  (15, .if_icmp .eq 9, 18, 0, 24, 0, .null),
  (18, .iload_n 0, 19, 0, 0, 0, .null),
  (19, .bipush 14, 21, 0, 0, 0, .int 14),
  (21, .if_icmp .ne 7, 24, 0, 28, 0, .null),
  (24, .iconst 1, 25, 0, 0, 0, .int 1),
  (25, .goto 4, 28, 0, 29, 0, .null),
  (28, .iconst 0, 29, 0, 0, 0, .int 0),
  (29, .ireturn, 30, 0, 0, 0, .null)]
def mm_X5_isStepOver : ev_M := (RX5, "isStepOver", cX5_isStepOver, 1, (some .boolean), tb_X5_isStepOver, 0, 0, 0, 0)
set_option maxRecDepth 100000 in
theorem ok_X5_isStepOver : ev_OK mm_X5_isStepOver := by unfold ev_OK; decide +kernel
theorem cs_X5_isStepOver : ev_CS yX5_isStepOver mm_X5_isStepOver 1 := ⟨ev_has_in (k := 1194) (by decide +kernel), ev_has_in (k := 89) (by decide +kernel), ev_has_in (k := 1193) (by decide +kernel), ⟨by decide +kernel, by decide +kernel, by decide +kernel⟩⟩
def tb_X5_isProgram : ev_T := [(0, .iconst 0, 1, 0, 0, 0, .int 0),
  (1, .istore_n 1, 2, 0, 1, 0, .null),
  (2, .iconst 0, 3, 0, 0, 0, .int 0),
  (3, .istore_n 2, 4, 0, 2, 0, .null),
  (4, .iload_n 2, 5, 0, 2, 0, .null),
  (5, .aload_n 0, 6, 0, 0, 0, .null),
  (6, .getfield 174, 9, 927, 5, 6, .null),
  (9, .if_icmp .ge 25, 12, 0, 34, 0, .null),
  (12, .iload_n 1, 13, 0, 1, 0, .null),
  (13, .iconst (-1), 14, 0, 0, 0, .int (-1)),
  (14, .if_icmp .eq 20, 17, 0, 34, 0, .null),
  (17, .iload_n 1, 18, 0, 1, 0, .null),
  (18, .aload_n 0, 19, 0, 0, 0, .null),
  (19, .getfield 20, 22, 926, 5, 5, .null),
  (22, .iload_n 2, 23, 0, 2, 0, .null),
  (23, .iaload, 24, 0, 0, 0, .null),
  (24, .invokestatic 184, 27, 0, 0, 0, .null),
  (27, .istore_n 1, 28, 0, 1, 0, .null),
  (28, .iinc 2 1, 31, 0, 2, 0, .int 1),
  (31, .goto (-27), 34, 0, 4, 0, .null),
  (34, .iload_n 1, 35, 0, 1, 0, .null),
  (35, .invokestatic 187, 38, 0, 0, 0, .null),
  (38, .ireturn, 39, 0, 0, 0, .null)]
def mm_X5_isProgram : ev_M := (RX5, "isProgram", cX5_isProgram, 3, (some .boolean), tb_X5_isProgram, 3, 68, 0, 0)
set_option maxRecDepth 100000 in
theorem ok_X5_isProgram : ev_OK mm_X5_isProgram := by unfold ev_OK; decide +kernel
theorem cv_X5_isProgram : ev_CV yX5_isProgram mm_X5_isProgram 5 0 := ⟨ev_has_in (k := 1191) (by decide +kernel), ev_has_in (k := 89) (by decide +kernel), ev_has_in (k := 1190) (by decide +kernel), ev_has_in (k := 66) (by decide +kernel), ⟨by decide +kernel, by decide +kernel, by decide +kernel⟩, rfl, by decide⟩
def tb_X5_note : ev_T := [(0, .iload_n 2, 1, 0, 2, 0, .null),
  (1, .bipush 48, 3, 0, 0, 0, .int 48),
  (3, .isub, 4, 0, 0, 0, .null),
  (4, .istore_n 3, 5, 0, 3, 0, .null),
  (5, .iload_n 1, 6, 0, 1, 0, .null),
  (6, .tableswitch 165 0 14 #[74, 82, 82, 165, 131, 82, 165, 123, 82, 165, 149, 149, 90, 90, 90], 80, 0, 74, 6, .null),
  (80, .aload_n 0, 81, 0, 0, 0, .null),
  (81, .iload_n 2, 82, 0, 2, 0, .null),
  (82, .putfield 190, 85, 932, 5, 11, .null),
  (85, .goto 86, 88, 0, 171, 0, .null),
  (88, .aload_n 0, 89, 0, 0, 0, .null),
  (89, .iload_n 3, 90, 0, 3, 0, .null),
  (90, .putfield 193, 93, 933, 5, 12, .null),
  (93, .goto 78, 96, 0, 171, 0, .null),
  (96, .aload_n 0, 97, 0, 0, 0, .null),
  (97, .iload_n 3, 98, 0, 3, 0, .null),
  (98, .iconst 0, 99, 0, 0, 0, .int 0),
  (99, .bipush 9, 101, 0, 0, 0, .int 9),
  (101, .invokestatic 46, 104, 0, 0, 0, .null),
  (104, .ifCond .eq 15, 107, 0, 119, 0, .null),
  (107, .bipush 10, 109, 0, 0, 0, .int 10),
  (109, .aload_n 0, 110, 0, 0, 0, .null),
  (110, .getfield 193, 113, 933, 5, 12, .null),
  (113, .imul, 114, 0, 0, 0, .null),
  (114, .iload_n 3, 115, 0, 3, 0, .null),
  (115, .iadd, 116, 0, 0, 0, .null),
  (116, .goto 7, 119, 0, 123, 0, .null),
  (119, .aload_n 0, 120, 0, 0, 0, .null),
  (120, .getfield 193, 123, 933, 5, 12, .null),
  (123, .putfield 193, 126, 933, 5, 12, .null),
  (126, .goto 45, 129, 0, 171, 0, .null),
  (129, .aload_n 0, 130, 0, 0, 0, .null),
  (130, .iload_n 3, 131, 0, 3, 0, .null),
  (131, .putfield 196, 134, 934, 5, 13, .null),
  (134, .goto 37, 137, 0, 171, 0, .null),
  (137, .aload_n 0, 138, 0, 0, 0, .null),
  (138, .iload_n 2, 139, 0, 2, 0, .null),
  (139, .bipush 45, 141, 0, 0, 0, .int 45),
  (141, .if_icmp .ne 7, 144, 0, 148, 0, .null),
  (144, .iconst (-1), 145, 0, 0, 0, .int (-1)),
  (145, .goto 4, 148, 0, 149, 0, .null),
  (148, .iload_n 3, 149, 0, 3, 0, .null),
  (149, .putfield 199, 152, 935, 5, 14, .null),
  (152, .goto 19, 155, 0, 171, 0, .null),
  (155, .aload_n 0, 156, 0, 0, 0, .null),
  (156, .bipush 10, 158, 0, 0, 0, .int 10),
  (158, .aload_n 0, 159, 0, 0, 0, .null),
  (159, .getfield 199, 162, 935, 5, 14, .null),
  (162, .imul, 163, 0, 0, 0, .null),
  (163, .iload_n 3, 164, 0, 3, 0, .null),
  (164, .iadd, 165, 0, 0, 0, .null),
  (165, .putfield 199, 168, 935, 5, 14, .null),
  (168, .goto 3, 171, 0, 171, 0, .null),
  (171, .return_, 172, 0, 0, 0, .null)]
def mm_X5_note : ev_M := (RX5, "note", cX5_note, 4, none, tb_X5_note, 1, 22, 0, 0)
set_option maxRecDepth 100000 in
theorem ok_X5_note : ev_OK mm_X5_note := by unfold ev_OK; decide +kernel
theorem cv_X5_note : ev_CV yX5_note mm_X5_note 5 2 := ⟨ev_has_in (k := 1202) (by decide +kernel), ev_has_in (k := 89) (by decide +kernel), ev_has_in (k := 1201) (by decide +kernel), ev_has_in (k := 68) (by decide +kernel), ⟨by decide +kernel, by decide +kernel, by decide +kernel⟩, rfl, by decide⟩
def tb_X5_does : ev_T := [(0, .iconst 1, 1, 0, 0, 0, .int 1),
  (1, .istore_n 1, 2, 0, 1, 0, .null),
  (2, .aload_n 0, 3, 0, 0, 0, .null),
  (3, .getfield 190, 6, 932, 5, 11, .null),
  (6, .bipush 110, 8, 0, 0, 0, .int 110),
  (8, .if_icmp .ne 36, 11, 0, 44, 0, .null),
  (11, .aload_n 0, 12, 0, 0, 0, .null),
  (12, .aload_n 0, 13, 0, 0, 0, .null),
  (13, .getfield 193, 16, 933, 5, 12, .null),
  (16, .invokevirtual 105, 19, 0, 0, 0, .null),
  (19, .ifCond .ne 7, 22, 0, 26, 0, .null),
  (22, .iconst 1, 23, 0, 0, 0, .int 1),
  (23, .goto 4, 26, 0, 27, 0, .null),
  (26, .iconst 0, 27, 0, 0, 0, .int 0),
  (27, .istore_n 1, 28, 0, 1, 0, .null),
  (28, .iload_n 1, 29, 0, 1, 0, .null),
  (29, .ifCond .eq 179, 32, 0, 208, 0, .null),
  (32, .aload_n 0, 33, 0, 0, 0, .null),
  (33, .aload_n 0, 34, 0, 0, 0, .null),
  (34, .getfield 193, 37, 933, 5, 12, .null),
  (37, .invokevirtual 111, 40, 0, 0, 0, .null),
  (40, .pop, 41, 0, 0, 0, .null),
  (41, .goto 167, 44, 0, 208, 0, .null),
  (44, .aload_n 0, 45, 0, 0, 0, .null),
  (45, .getfield 190, 48, 932, 5, 11, .null),
  (48, .bipush 104, 50, 0, 0, 0, .int 104),
  (50, .if_icmp .ne 47, 53, 0, 97, 0, .null),
  (53, .aload_n 0, 54, 0, 0, 0, .null),
  (54, .aload_n 0, 55, 0, 0, 0, .null),
  (55, .getfield 193, 58, 933, 5, 12, .null),
  (58, .aload_n 0, 59, 0, 0, 0, .null),
  (59, .getfield 199, 62, 935, 5, 14, .null),
  (62, .invokevirtual 126, 65, 0, 0, 0, .null),
  (65, .ifCond .ne 7, 68, 0, 72, 0, .null),
  (68, .iconst 1, 69, 0, 0, 0, .int 1),
  (69, .goto 4, 72, 0, 73, 0, .null),
  (72, .iconst 0, 73, 0, 0, 0, .int 0),
  (73, .istore_n 1, 74, 0, 1, 0, .null),
  (74, .iload_n 1, 75, 0, 1, 0, .null),
  (75, .ifCond .eq 133, 78, 0, 208, 0, .null),
  (78, .aload_n 0, 79, 0, 0, 0, .null),
  (79, .bipush 13, 81, 0, 0, 0, .int 13),
  (81, .aload_n 0, 82, 0, 0, 0, .null),
  (82, .getfield 193, 85, 933, 5, 12, .null),
  (85, .iadd, 86, 0, 0, 0, .null),
  (86, .aload_n 0, 87, 0, 0, 0, .null),
  (87, .getfield 199, 90, 935, 5, 14, .null),
  (90, .invokevirtual 129, 93, 0, 0, 0, .null),
  (93, .pop, 94, 0, 0, 0, .null),
  (94, .goto 114, 97, 0, 208, 0, .null),
  (97, .aload_n 0, 98, 0, 0, 0, .null),
  (98, .getfield 190, 101, 932, 5, 11, .null),
  (101, .bipush 115, 103, 0, 0, 0, .int 115),
  (103, .if_icmp .ne 59, 106, 0, 162, 0, .null),
  (106, .aload_n 0, 107, 0, 0, 0, .null),
  (107, .aload_n 0, 108, 0, 0, 0, .null),
  (108, .getfield 193, 111, 933, 5, 12, .null),
  (111, .aload_n 0, 112, 0, 0, 0, .null),
  (112, .getfield 196, 115, 934, 5, 13, .null),
  (115, .aload_n 0, 116, 0, 0, 0, .null),
  (116, .getfield 199, 119, 935, 5, 14, .null),
  (119, .invokevirtual 132, 122, 0, 0, 0, .null),
  (122, .ifCond .ne 7, 125, 0, 129, 0, .null),
  (125, .iconst 1, 126, 0, 0, 0, .int 1),
  (126, .goto 4, 129, 0, 130, 0, .null),
  (129, .iconst 0, 130, 0, 0, 0, .int 0),
  (130, .istore_n 1, 131, 0, 1, 0, .null),
  (131, .iload_n 1, 132, 0, 1, 0, .null),
  (132, .ifCond .eq 76, 135, 0, 208, 0, .null),
  (135, .aload_n 0, 136, 0, 0, 0, .null),
  (136, .sipush 257, 139, 0, 0, 0, .int 257),
  (139, .iconst 4, 140, 0, 0, 0, .int 4),
  (140, .aload_n 0, 141, 0, 0, 0, .null),
  (141, .getfield 193, 144, 933, 5, 12, .null),
  (144, .imul, 145, 0, 0, 0, .null),
  (145, .iadd, 146, 0, 0, 0, .null),
  (146, .aload_n 0, 147, 0, 0, 0, .null),
  (147, .getfield 196, 150, 934, 5, 13, .null),
  (150, .iadd, 151, 0, 0, 0, .null),
  (151, .aload_n 0, 152, 0, 0, 0, .null),
  (152, .getfield 199, 155, 935, 5, 14, .null),
  (155, .invokevirtual 129, 158, 0, 0, 0, .null),
  (158, .pop, 159, 0, 0, 0, .null),
  (159, .goto 49, 162, 0, 208, 0, .null),
  (162, .aload_n 0, 163, 0, 0, 0, .null),
  (163, .getfield 190, 166, 932, 5, 11, .null),
  (166, .bipush 116, 168, 0, 0, 0, .int 116),
  (168, .if_icmp .ne 36, 171, 0, 204, 0, .null),
  (171, .aload_n 0, 172, 0, 0, 0, .null),
  (172, .aload_n 0, 173, 0, 0, 0, .null),
  (173, .getfield 193, 176, 933, 5, 12, .null),
  (176, .invokevirtual 165, 179, 0, 0, 0, .null),
  (179, .ifCond .ne 7, 182, 0, 186, 0, .null),
  (182, .iconst 1, 183, 0, 0, 0, .int 1),
  (183, .goto 4, 186, 0, 187, 0, .null),
  (186, .iconst 0, 187, 0, 0, 0, .int 0),
  (187, .istore_n 1, 188, 0, 1, 0, .null),
  (188, .iload_n 1, 189, 0, 1, 0, .null),
  (189, .ifCond .eq 19, 192, 0, 208, 0, .null),
  (192, .aload_n 0, 193, 0, 0, 0, .null),
  (193, .aload_n 0, 194, 0, 0, 0, .null),
  (194, .getfield 193, 197, 933, 5, 12, .null),
  (197, .invokevirtual 168, 200, 0, 0, 0, .null),
  (200, .pop, 201, 0, 0, 0, .null),
  (201, .goto 7, 204, 0, 208, 0, .null),
  (204, .aload_n 0, 205, 0, 0, 0, .null),
  (205, .invokevirtual 159, 208, 0, 0, 0, .null),
  (208, .iload_n 1, 209, 0, 1, 0, .null),
  (209, .ireturn, 210, 0, 0, 0, .null)]
def mm_X5_does : ev_M := (RX5, "does", cX5_does, 2, (some .boolean), tb_X5_does, 9, 199, 0, 0)
set_option maxRecDepth 100000 in
theorem ok_X5_does : ev_OK mm_X5_does := by unfold ev_OK; decide +kernel
theorem cv_X5_does : ev_CV yX5_does mm_X5_does 5 0 := ⟨ev_has_in (k := 1198) (by decide +kernel), ev_has_in (k := 89) (by decide +kernel), ev_has_in (k := 1197) (by decide +kernel), ev_has_in (k := 67) (by decide +kernel), ⟨by decide +kernel, by decide +kernel, by decide +kernel⟩, rfl, by decide⟩
def tb_X5_run : ev_T := [(0, .aload_n 0, 1, 0, 0, 0, .null),
  (1, .aload_n 0, 2, 0, 0, 0, .null),
  (2, .invokevirtual 202, 5, 0, 0, 0, .null),
  (5, .ifCond .eq 7, 8, 0, 12, 0, .null),
  (8, .iconst 0, 9, 0, 0, 0, .int 0),
  (9, .goto 4, 12, 0, 13, 0, .null),
  (12, .iconst 1, 13, 0, 0, 0, .int 1),
  (13, .putfield 35, 16, 921, 5, 0, .null),
  (16, .aload_n 0, 17, 0, 0, 0, .null),
  (17, .getfield 35, 20, 921, 5, 0, .null),
  (20, .ifCond .le 5, 23, 0, 25, 0, .null),
  (23, .iconst 0, 24, 0, 0, 0, .int 0),
  (24, .ireturn, 25, 0, 0, 0, .null),
  (25, .aload_n 0, 26, 0, 0, 0, .null),
  (26, .invokevirtual 108, 29, 0, 0, 0, .null),
  (29, .iconst 0, 30, 0, 0, 0, .int 0),
  (30, .istore_n 1, 31, 0, 1, 0, .null),
  (31, .iconst 0, 32, 0, 0, 0, .int 0),
  (32, .istore_n 2, 33, 0, 2, 0, .null),
  (33, .iconst 1, 34, 0, 0, 0, .int 1),
  (34, .istore_n 3, 35, 0, 3, 0, .null),
  (35, .iconst 0, 36, 0, 0, 0, .int 0),
  (36, .istore 4, 38, 0, 4, 0, .null),
  (38, .iload 4, 40, 0, 4, 0, .null),
  (40, .aload_n 0, 41, 0, 0, 0, .null),
  (41, .getfield 174, 44, 927, 5, 6, .null),
  (44, .if_icmp .gt 92, 47, 0, 136, 0, .null),
  (47, .iload_n 3, 48, 0, 3, 0, .null),
  (48, .ifCond .eq 88, 51, 0, 136, 0, .null),
  (51, .iload 4, 53, 0, 4, 0, .null),
  (53, .aload_n 0, 54, 0, 0, 0, .null),
  (54, .getfield 174, 57, 927, 5, 6, .null),
  (57, .if_icmp .eq 15, 60, 0, 72, 0, .null),
  (60, .aload_n 0, 61, 0, 0, 0, .null),
  (61, .getfield 20, 64, 926, 5, 5, .null),
  (64, .iload 4, 66, 0, 4, 0, .null),
  (66, .iaload, 67, 0, 0, 0, .null),
  (67, .bipush 59, 69, 0, 0, 0, .int 59),
  (69, .if_icmp .ne 7, 72, 0, 76, 0, .null),
  (72, .iconst 1, 73, 0, 0, 0, .int 1),
  (73, .goto 4, 76, 0, 77, 0, .null),
  (76, .iconst 0, 77, 0, 0, 0, .int 0),
  (77, .istore 5, 79, 0, 5, 0, .null),
  (79, .iload 5, 81, 0, 5, 0, .null),
  (81, .ifCond .eq 25, 84, 0, 106, 0, .null),
  (84, .aload_n 0, 85, 0, 0, 0, .null),
  (85, .invokevirtual 206, 88, 0, 0, 0, .null),
  (88, .istore_n 3, 89, 0, 3, 0, .null),
  (89, .iload_n 1, 90, 0, 1, 0, .null),
  (90, .iload_n 3, 91, 0, 3, 0, .null),
  (91, .ifCond .eq 7, 94, 0, 98, 0, .null),
  (94, .iconst 1, 95, 0, 0, 0, .int 1),
  (95, .goto 4, 98, 0, 99, 0, .null),
  (98, .iconst 0, 99, 0, 0, 0, .int 0),
  (99, .iadd, 100, 0, 0, 0, .null),
  (100, .istore_n 1, 101, 0, 1, 0, .null),
  (101, .iconst 0, 102, 0, 0, 0, .int 0),
  (102, .istore_n 2, 103, 0, 2, 0, .null),
  (103, .goto 27, 106, 0, 130, 0, .null),
  (106, .aload_n 0, 107, 0, 0, 0, .null),
  (107, .iload_n 2, 108, 0, 2, 0, .null),
  (108, .aload_n 0, 109, 0, 0, 0, .null),
  (109, .getfield 20, 112, 926, 5, 5, .null),
  (112, .iload 4, 114, 0, 4, 0, .null),
  (114, .iaload, 115, 0, 0, 0, .null),
  (115, .invokevirtual 209, 118, 0, 0, 0, .null),
  (118, .iload_n 2, 119, 0, 2, 0, .null),
  (119, .aload_n 0, 120, 0, 0, 0, .null),
  (120, .getfield 20, 123, 926, 5, 5, .null),
  (123, .iload 4, 125, 0, 4, 0, .null),
  (125, .iaload, 126, 0, 0, 0, .null),
  (126, .invokestatic 184, 129, 0, 0, 0, .null),
  (129, .istore_n 2, 130, 0, 2, 0, .null),
  (130, .iinc 4 1, 133, 0, 4, 0, .int 1),
  (133, .goto (-95), 136, 0, 38, 0, .null),
  (136, .aload_n 0, 137, 0, 0, 0, .null),
  (137, .iconst 0, 138, 0, 0, 0, .int 0),
  (138, .putfield 174, 141, 927, 5, 6, .null),
  (141, .iload_n 1, 142, 0, 1, 0, .null),
  (142, .ireturn, 143, 0, 0, 0, .null)]
def mm_X5_run : ev_M := (RX5, "run", cX5_run, 6, (some .int), tb_X5_run, 10, 220, 0, 0)
set_option maxRecDepth 100000 in
theorem ok_X5_run : ev_OK mm_X5_run := by unfold ev_OK; decide +kernel
theorem cv_X5_run : ev_CV yX5_run mm_X5_run 5 0 := ⟨ev_has_in (k := 1187) (by decide +kernel), ev_has_in (k := 89) (by decide +kernel), ev_has_in (k := 1185) (by decide +kernel), ev_has_in (k := 1186) (by decide +kernel), ⟨by decide +kernel, by decide +kernel, by decide +kernel⟩, rfl, by decide⟩
def tb_X5_undo : ev_T := [(0, .aload_n 0, 1, 0, 0, 0, .null),
  (1, .aload_n 0, 2, 0, 0, 0, .null),
  (2, .getfield 39, 5, 925, 5, 4, .null),
  (5, .ifCond .le 7, 8, 0, 12, 0, .null),
  (8, .iconst 0, 9, 0, 0, 0, .int 0),
  (9, .goto 4, 12, 0, 13, 0, .null),
  (12, .iconst 1, 13, 0, 0, 0, .int 1),
  (13, .putfield 35, 16, 921, 5, 0, .null),
  (16, .aload_n 0, 17, 0, 0, 0, .null),
  (17, .getfield 35, 20, 921, 5, 0, .null),
  (20, .ifCond .le 5, 23, 0, 25, 0, .null),
  (23, .iconst 0, 24, 0, 0, 0, .int 0),
  (24, .ireturn, 25, 0, 0, 0, .null),
  (25, .aload_n 0, 26, 0, 0, 0, .null),
  (26, .dup, 27, 0, 0, 0, .null),
  (27, .getfield 39, 30, 925, 5, 4, .null),
  (30, .iconst 1, 31, 0, 0, 0, .int 1),
  (31, .isub, 32, 0, 0, 0, .null),
  (32, .putfield 39, 35, 925, 5, 4, .null),
  (35, .aload_n 0, 36, 0, 0, 0, .null),
  (36, .getfield 17, 39, 924, 5, 3, .null),
  (39, .aload_n 0, 40, 0, 0, 0, .null),
  (40, .getfield 39, 43, 925, 5, 4, .null),
  (43, .sipush 20377, 46, 0, 0, 0, .int 20377),
  (46, .imul, 47, 0, 0, 0, .null),
  (47, .aload_n 0, 48, 0, 0, 0, .null),
  (48, .getfield 7, 51, 922, 5, 1, .null),
  (51, .iconst 0, 52, 0, 0, 0, .int 0),
  (52, .invokestatic 42, 55, 0, 0, 0, .null),
  (55, .aload_n 0, 56, 0, 0, 0, .null),
  (56, .getfield 39, 59, 925, 5, 4, .null),
  (59, .ireturn, 60, 0, 0, 0, .null)]
def mm_X5_undo : ev_M := (RX5, "undo", cX5_undo, 1, (some .int), tb_X5_undo, 1, 25, 0, 0)
set_option maxRecDepth 100000 in
theorem ok_X5_undo : ev_OK mm_X5_undo := by unfold ev_OK; decide +kernel
theorem cv_X5_undo : ev_CV yX5_undo mm_X5_undo 5 0 := ⟨ev_has_in (k := 1206) (by decide +kernel), ev_has_in (k := 89) (by decide +kernel), ev_has_in (k := 1204) (by decide +kernel), ev_has_in (k := 1205) (by decide +kernel), ⟨by decide +kernel, by decide +kernel, by decide +kernel⟩, rfl, by decide⟩
def tb_X5_thingPart : ev_T := [(0, .iload_n 2, 1, 0, 2, 0, .null),
  (1, .tableswitch 105 0 7 #[47, 54, 61, 68, 74, 80, 86, 93], 48, 0, 47, 1, .null),
  (48, .aload_n 0, 49, 0, 0, 0, .null),
  (49, .iload_n 1, 50, 0, 1, 0, .null),
  (50, .iconst 0, 51, 0, 0, 0, .int 0),
  (51, .invokevirtual 50, 54, 0, 0, 0, .null),
  (54, .ireturn, 55, 0, 0, 0, .null),
  (55, .aload_n 0, 56, 0, 0, 0, .null),
  (56, .iload_n 1, 57, 0, 1, 0, .null),
  (57, .iconst 1, 58, 0, 0, 0, .int 1),
  (58, .invokevirtual 50, 61, 0, 0, 0, .null),
  (61, .ireturn, 62, 0, 0, 0, .null),
  (62, .aload_n 0, 63, 0, 0, 0, .null),
  (63, .iload_n 1, 64, 0, 1, 0, .null),
  (64, .iconst 2, 65, 0, 0, 0, .int 2),
  (65, .invokevirtual 50, 68, 0, 0, 0, .null),
  (68, .ireturn, 69, 0, 0, 0, .null),
  (69, .aload_n 0, 70, 0, 0, 0, .null),
  (70, .iload_n 1, 71, 0, 1, 0, .null),
  (71, .invokevirtual 91, 74, 0, 0, 0, .null),
  (74, .ireturn, 75, 0, 0, 0, .null),
  (75, .aload_n 0, 76, 0, 0, 0, .null),
  (76, .iload_n 1, 77, 0, 1, 0, .null),
  (77, .invokevirtual 87, 80, 0, 0, 0, .null),
  (80, .ireturn, 81, 0, 0, 0, .null),
  (81, .aload_n 0, 82, 0, 0, 0, .null),
  (82, .iload_n 1, 83, 0, 1, 0, .null),
  (83, .invokevirtual 171, 86, 0, 0, 0, .null),
  (86, .ireturn, 87, 0, 0, 0, .null),
  (87, .aload_n 0, 88, 0, 0, 0, .null),
  (88, .iload_n 1, 89, 0, 1, 0, .null),
  (89, .iconst 3, 90, 0, 0, 0, .int 3),
  (90, .invokevirtual 50, 93, 0, 0, 0, .null),
  (93, .ireturn, 94, 0, 0, 0, .null),
  (94, .aload_n 0, 95, 0, 0, 0, .null),
  (95, .invokevirtual 212, 98, 0, 0, 0, .null),
  (98, .pop, 99, 0, 0, 0, .null),
  (99, .aload_n 0, 100, 0, 0, 0, .null),
  (100, .getfield 23, 103, 928, 5, 7, .null),
  (103, .iload_n 1, 104, 0, 1, 0, .null),
  (104, .iaload, 105, 0, 0, 0, .null),
  (105, .ireturn, 106, 0, 0, 0, .null),
  (106, .aload_n 0, 107, 0, 0, 0, .null),
  (107, .iload_n 1, 108, 0, 1, 0, .null),
  (108, .iload_n 2, 109, 0, 2, 0, .null),
  (109, .iconst 4, 110, 0, 0, 0, .int 4),
  (110, .isub, 111, 0, 0, 0, .null),
  (111, .invokevirtual 50, 114, 0, 0, 0, .null),
  (114, .ireturn, 115, 0, 0, 0, .null)]
def mm_X5_thingPart : ev_M := (RX5, "thingPart", cX5_thingPart, 3, (some .int), tb_X5_thingPart, 4, 90, 0, 0)
set_option maxRecDepth 100000 in
theorem ok_X5_thingPart : ev_OK mm_X5_thingPart := by unfold ev_OK; decide +kernel
theorem cv_X5_thingPart : ev_CV yX5_thingPart mm_X5_thingPart 5 2 := ⟨ev_has_in (k := 1214) (by decide +kernel), ev_has_in (k := 89) (by decide +kernel), ev_has_in (k := 1213) (by decide +kernel), ev_has_in (k := 69) (by decide +kernel), ⟨by decide +kernel, by decide +kernel, by decide +kernel⟩, rfl, by decide⟩
def tb_X5_thing : ev_T := [(0, .aload_n 0, 1, 0, 0, 0, .null),
  (1, .aload_n 0, 2, 0, 0, 0, .null),
  (2, .iload_n 1, 3, 0, 1, 0, .null),
  (3, .invokevirtual 114, 6, 0, 0, 0, .null),
  (6, .ifCond .ne 7, 9, 0, 13, 0, .null),
  (9, .iconst 1, 10, 0, 0, 0, .int 1),
  (10, .goto 18, 13, 0, 28, 0, .null),
  (13, .iload_n 2, 14, 0, 2, 0, .null),
  (14, .iconst 0, 15, 0, 0, 0, .int 0),
  (15, .bipush 12, 17, 0, 0, 0, .int 12),
  (17, .invokestatic 46, 20, 0, 0, 0, .null),
  (20, .ifCond .eq 7, 23, 0, 27, 0, .null),
  (23, .iconst 0, 24, 0, 0, 0, .int 0),
  (24, .goto 4, 27, 0, 28, 0, .null),
  (27, .iconst 2, 28, 0, 0, 0, .int 2),
  (28, .putfield 35, 31, 921, 5, 0, .null),
  (31, .aload_n 0, 32, 0, 0, 0, .null),
  (32, .getfield 35, 35, 921, 5, 0, .null),
  (35, .ifCond .le 7, 38, 0, 42, 0, .null),
  (38, .iconst 0, 39, 0, 0, 0, .int 0),
  (39, .goto 9, 42, 0, 48, 0, .null),
  (42, .aload_n 0, 43, 0, 0, 0, .null),
  (43, .iload_n 1, 44, 0, 1, 0, .null),
  (44, .iload_n 2, 45, 0, 2, 0, .null),
  (45, .invokevirtual 215, 48, 0, 0, 0, .null),
  (48, .ireturn, 49, 0, 0, 0, .null)]
def mm_X5_thing : ev_M := (RX5, "thing", cX5_thing, 3, (some .int), tb_X5_thing, 5, 112, 0, 0)
set_option maxRecDepth 100000 in
theorem ok_X5_thing : ev_OK mm_X5_thing := by unfold ev_OK; decide +kernel
theorem cv_X5_thing : ev_CV yX5_thing mm_X5_thing 5 2 := ⟨ev_has_in (k := 1210) (by decide +kernel), ev_has_in (k := 89) (by decide +kernel), ev_has_in (k := 1208) (by decide +kernel), ev_has_in (k := 1209) (by decide +kernel), ⟨by decide +kernel, by decide +kernel, by decide +kernel⟩, rfl, by decide⟩
def tb_X5_slot : ev_T := [(0, .aload_n 0, 1, 0, 0, 0, .null),
  (1, .aload_n 0, 2, 0, 0, 0, .null),
  (2, .iload_n 1, 3, 0, 1, 0, .null),
  (3, .invokevirtual 114, 6, 0, 0, 0, .null),
  (6, .ifCond .eq 16, 9, 0, 22, 0, .null),
  (9, .iload_n 2, 10, 0, 2, 0, .null),
  (10, .iconst 0, 11, 0, 0, 0, .int 0),
  (11, .iconst 3, 12, 0, 0, 0, .int 3),
  (12, .invokestatic 46, 15, 0, 0, 0, .null),
  (15, .ifCond .eq 7, 18, 0, 22, 0, .null),
  (18, .iconst 0, 19, 0, 0, 0, .int 0),
  (19, .goto 4, 22, 0, 23, 0, .null),
  (22, .iconst 1, 23, 0, 0, 0, .int 1),
  (23, .putfield 35, 26, 921, 5, 0, .null),
  (26, .aload_n 0, 27, 0, 0, 0, .null),
  (27, .getfield 35, 30, 921, 5, 0, .null),
  (30, .ifCond .le 7, 33, 0, 37, 0, .null),
  (33, .iconst 0, 34, 0, 0, 0, .int 0),
  (34, .goto 9, 37, 0, 43, 0, .null),
  (37, .aload_n 0, 38, 0, 0, 0, .null),
  (38, .iload_n 1, 39, 0, 1, 0, .null),
  (39, .iload_n 2, 40, 0, 2, 0, .null),
  (40, .invokevirtual 58, 43, 0, 0, 0, .null),
  (43, .ireturn, 44, 0, 0, 0, .null)]
def mm_X5_slot : ev_M := (RX5, "slot", cX5_slot, 3, (some .int), tb_X5_slot, 2, 43, 0, 0)
set_option maxRecDepth 100000 in
theorem ok_X5_slot : ev_OK mm_X5_slot := by unfold ev_OK; decide +kernel
theorem cv_X5_slot : ev_CV yX5_slot mm_X5_slot 5 2 := ⟨ev_has_in (k := 1222) (by decide +kernel), ev_has_in (k := 89) (by decide +kernel), ev_has_in (k := 1220) (by decide +kernel), ev_has_in (k := 1221) (by decide +kernel), ⟨by decide +kernel, by decide +kernel, by decide +kernel⟩, rfl, by decide⟩
def tb_X5_hand : ev_T := [(0, .aload_n 0, 1, 0, 0, 0, .null),
  (1, .iload_n 1, 2, 0, 1, 0, .null),
  (2, .iconst 0, 3, 0, 0, 0, .int 0),
  (3, .iconst 3, 4, 0, 0, 0, .int 3),
  (4, .invokestatic 46, 7, 0, 0, 0, .null),
  (7, .ifCond .eq 7, 10, 0, 14, 0, .null),
  (10, .iconst 0, 11, 0, 0, 0, .int 0),
  (11, .goto 4, 14, 0, 15, 0, .null),
  (14, .iconst 1, 15, 0, 0, 0, .int 1),
  (15, .putfield 35, 18, 921, 5, 0, .null),
  (18, .aload_n 0, 19, 0, 0, 0, .null),
  (19, .getfield 35, 22, 921, 5, 0, .null),
  (22, .ifCond .le 7, 25, 0, 29, 0, .null),
  (25, .iconst 0, 26, 0, 0, 0, .int 0),
  (26, .goto 12, 29, 0, 38, 0, .null),
  (29, .aload_n 0, 30, 0, 0, 0, .null),
  (30, .getfield 7, 33, 922, 5, 1, .null),
  (33, .bipush 13, 35, 0, 0, 0, .int 13),
  (35, .iload_n 1, 36, 0, 1, 0, .null),
  (36, .iadd, 37, 0, 0, 0, .null),
  (37, .iaload, 38, 0, 0, 0, .null),
  (38, .ireturn, 39, 0, 0, 0, .null)]
def mm_X5_hand : ev_M := (RX5, "hand", cX5_hand, 2, (some .int), tb_X5_hand, 1, 22, 0, 0)
set_option maxRecDepth 100000 in
theorem ok_X5_hand : ev_OK mm_X5_hand := by unfold ev_OK; decide +kernel
theorem cv_X5_hand : ev_CV yX5_hand mm_X5_hand 5 1 := ⟨ev_has_in (k := 1226) (by decide +kernel), ev_has_in (k := 89) (by decide +kernel), ev_has_in (k := 1224) (by decide +kernel), ev_has_in (k := 1225) (by decide +kernel), ⟨by decide +kernel, by decide +kernel, by decide +kernel⟩, rfl, by decide⟩
def tb_X5_report : ev_T := [(0, .aload_n 0, 1, 0, 0, 0, .null),
  (1, .iload_n 1, 2, 0, 1, 0, .null),
  (2, .iconst 0, 3, 0, 0, 0, .int 0),
  (3, .aload_n 0, 4, 0, 0, 0, .null),
  (4, .getfield 7, 7, 922, 5, 1, .null),
  (7, .iconst 3, 8, 0, 0, 0, .int 3),
  (8, .iaload, 9, 0, 0, 0, .null),
  (9, .iconst 1, 10, 0, 0, 0, .int 1),
  (10, .isub, 11, 0, 0, 0, .null),
  (11, .invokestatic 46, 14, 0, 0, 0, .null),
  (14, .ifCond .ne 7, 17, 0, 21, 0, .null),
  (17, .iconst 1, 18, 0, 0, 0, .int 1),
  (18, .goto 17, 21, 0, 35, 0, .null),
  (21, .iload_n 2, 22, 0, 2, 0, .null),
  (22, .iconst 0, 23, 0, 0, 0, .int 0),
  (23, .iconst 4, 24, 0, 0, 0, .int 4),
  (24, .invokestatic 46, 27, 0, 0, 0, .null),
  (27, .ifCond .eq 7, 30, 0, 34, 0, .null),
  (30, .iconst 0, 31, 0, 0, 0, .int 0),
  (31, .goto 4, 34, 0, 35, 0, .null),
  (34, .iconst 2, 35, 0, 0, 0, .int 2),
  (35, .putfield 35, 38, 921, 5, 0, .null),
  (38, .aload_n 0, 39, 0, 0, 0, .null),
  (39, .getfield 35, 42, 921, 5, 0, .null),
  (42, .ifCond .le 7, 45, 0, 49, 0, .null),
  (45, .iconst 0, 46, 0, 0, 0, .int 0),
  (46, .goto 13, 49, 0, 59, 0, .null),
  (49, .aload_n 0, 50, 0, 0, 0, .null),
  (50, .aload_n 0, 51, 0, 0, 0, .null),
  (51, .iload_n 1, 52, 0, 1, 0, .null),
  (52, .invokevirtual 218, 55, 0, 0, 0, .null),
  (55, .iload_n 2, 56, 0, 2, 0, .null),
  (56, .invokevirtual 61, 59, 0, 0, 0, .null),
  (59, .ireturn, 60, 0, 0, 0, .null)]
def mm_X5_report : ev_M := (RX5, "report", cX5_report, 3, (some .int), tb_X5_report, 2, 48, 0, 0)
set_option maxRecDepth 100000 in
theorem ok_X5_report : ev_OK mm_X5_report := by unfold ev_OK; decide +kernel
theorem cv_X5_report : ev_CV yX5_report mm_X5_report 5 2 := ⟨ev_has_in (k := 1230) (by decide +kernel), ev_has_in (k := 89) (by decide +kernel), ev_has_in (k := 1228) (by decide +kernel), ev_has_in (k := 1229) (by decide +kernel), ⟨by decide +kernel, by decide +kernel, by decide +kernel⟩, rfl, by decide⟩
def tb_X5_ended : ev_T := [(0, .aload_n 0, 1, 0, 0, 0, .null),
  (1, .iload_n 1, 2, 0, 1, 0, .null),
  (2, .iconst 0, 3, 0, 0, 0, .int 0),
  (3, .aload_n 0, 4, 0, 0, 0, .null),
  (4, .getfield 7, 7, 922, 5, 1, .null),
  (7, .iconst 4, 8, 0, 0, 0, .int 4),
  (8, .iaload, 9, 0, 0, 0, .null),
  (9, .iconst 1, 10, 0, 0, 0, .int 1),
  (10, .isub, 11, 0, 0, 0, .null),
  (11, .invokestatic 46, 14, 0, 0, 0, .null),
  (14, .ifCond .eq 7, 17, 0, 21, 0, .null),
  (17, .iconst 0, 18, 0, 0, 0, .int 0),
  (18, .goto 4, 21, 0, 22, 0, .null),
  (21, .iconst 1, 22, 0, 0, 0, .int 1),
  (22, .putfield 35, 25, 921, 5, 0, .null),
  (25, .aload_n 0, 26, 0, 0, 0, .null),
  (26, .getfield 35, 29, 921, 5, 0, .null),
  (29, .ifCond .le 7, 32, 0, 36, 0, .null),
  (32, .iconst 0, 33, 0, 0, 0, .int 0),
  (33, .goto 13, 36, 0, 46, 0, .null),
  (36, .aload_n 0, 37, 0, 0, 0, .null),
  (37, .getfield 7, 40, 922, 5, 1, .null),
  (40, .sipush 353, 43, 0, 0, 0, .int 353),
  (43, .iload_n 1, 44, 0, 1, 0, .null),
  (44, .iadd, 45, 0, 0, 0, .null),
  (45, .iaload, 46, 0, 0, 0, .null),
  (46, .ireturn, 47, 0, 0, 0, .null)]
def mm_X5_ended : ev_M := (RX5, "ended", cX5_ended, 2, (some .int), tb_X5_ended, 1, 22, 0, 0)
set_option maxRecDepth 100000 in
theorem ok_X5_ended : ev_OK mm_X5_ended := by unfold ev_OK; decide +kernel
theorem cv_X5_ended : ev_CV yX5_ended mm_X5_ended 5 1 := ⟨ev_has_in (k := 1238) (by decide +kernel), ev_has_in (k := 89) (by decide +kernel), ev_has_in (k := 1236) (by decide +kernel), ev_has_in (k := 1237) (by decide +kernel), ⟨by decide +kernel, by decide +kernel, by decide +kernel⟩, rfl, by decide⟩
def tb_X5_living : ev_T := [(0, .iconst 0, 1, 0, 0, 0, .int 0),
  (1, .istore_n 1, 2, 0, 1, 0, .null),
  (2, .iconst 0, 3, 0, 0, 0, .int 0),
  (3, .istore_n 2, 4, 0, 2, 0, .null),
  (4, .iload_n 2, 5, 0, 2, 0, .null),
  (5, .aload_n 0, 6, 0, 0, 0, .null),
  (6, .getfield 7, 9, 922, 5, 1, .null),
  (9, .iconst 1, 10, 0, 0, 0, .int 1),
  (10, .iaload, 11, 0, 0, 0, .null),
  (11, .if_icmp .ge 18, 14, 0, 29, 0, .null),
  (14, .iload_n 1, 15, 0, 1, 0, .null),
  (15, .aload_n 0, 16, 0, 0, 0, .null),
  (16, .iload_n 2, 17, 0, 2, 0, .null),
  (17, .iconst 0, 18, 0, 0, 0, .int 0),
  (18, .invokevirtual 50, 21, 0, 0, 0, .null),
  (21, .iadd, 22, 0, 0, 0, .null),
  (22, .istore_n 1, 23, 0, 1, 0, .null),
  (23, .iinc 2 1, 26, 0, 2, 0, .int 1),
  (26, .goto (-22), 29, 0, 4, 0, .null),
  (29, .iload_n 1, 30, 0, 1, 0, .null),
  (30, .ireturn, 31, 0, 0, 0, .null)]
def mm_X5_living : ev_M := (RX5, "living", cX5_living, 3, (some .int), tb_X5_living, 1, 22, 0, 0)
set_option maxRecDepth 100000 in
theorem ok_X5_living : ev_OK mm_X5_living := by unfold ev_OK; decide +kernel
theorem cv_X5_living : ev_CV yX5_living mm_X5_living 5 0 := ⟨ev_has_in (k := 1250) (by decide +kernel), ev_has_in (k := 89) (by decide +kernel), ev_has_in (k := 1249) (by decide +kernel), ev_has_in (k := 73) (by decide +kernel), ⟨by decide +kernel, by decide +kernel, by decide +kernel⟩, rfl, by decide⟩
def tb_X5_holding : ev_T := [(0, .iconst 0, 1, 0, 0, 0, .int 0),
  (1, .istore_n 1, 2, 0, 1, 0, .null),
  (2, .iconst 0, 3, 0, 0, 0, .int 0),
  (3, .istore_n 2, 4, 0, 2, 0, .null),
  (4, .iload_n 2, 5, 0, 2, 0, .null),
  (5, .iconst 4, 6, 0, 0, 0, .int 4),
  (6, .if_icmp .ge 30, 9, 0, 36, 0, .null),
  (9, .iload_n 1, 10, 0, 1, 0, .null),
  (10, .aload_n 0, 11, 0, 0, 0, .null),
  (11, .getfield 7, 14, 922, 5, 1, .null),
  (14, .bipush 13, 16, 0, 0, 0, .int 13),
  (16, .iload_n 2, 17, 0, 2, 0, .null),
  (17, .iadd, 18, 0, 0, 0, .null),
  (18, .iaload, 19, 0, 0, 0, .null),
  (19, .iconst (-1), 20, 0, 0, 0, .int (-1)),
  (20, .if_icmp .ne 7, 23, 0, 27, 0, .null),
  (23, .iconst 0, 24, 0, 0, 0, .int 0),
  (24, .goto 4, 27, 0, 28, 0, .null),
  (27, .iconst 1, 28, 0, 0, 0, .int 1),
  (28, .iadd, 29, 0, 0, 0, .null),
  (29, .istore_n 1, 30, 0, 1, 0, .null),
  (30, .iinc 2 1, 33, 0, 2, 0, .int 1),
  (33, .goto (-29), 36, 0, 4, 0, .null),
  (36, .iconst 0, 37, 0, 0, 0, .int 0),
  (37, .istore_n 2, 38, 0, 2, 0, .null),
  (38, .iload_n 2, 39, 0, 2, 0, .null),
  (39, .iconst 4, 40, 0, 0, 0, .int 4),
  (40, .aload_n 0, 41, 0, 0, 0, .null),
  (41, .getfield 7, 44, 922, 5, 1, .null),
  (44, .iconst 1, 45, 0, 0, 0, .int 1),
  (45, .iaload, 46, 0, 0, 0, .null),
  (46, .imul, 47, 0, 0, 0, .null),
  (47, .if_icmp .ge 31, 50, 0, 78, 0, .null),
  (50, .iload_n 1, 51, 0, 1, 0, .null),
  (51, .aload_n 0, 52, 0, 0, 0, .null),
  (52, .getfield 7, 55, 922, 5, 1, .null),
  (55, .sipush 257, 58, 0, 0, 0, .int 257),
  (58, .iload_n 2, 59, 0, 2, 0, .null),
  (59, .iadd, 60, 0, 0, 0, .null),
  (60, .iaload, 61, 0, 0, 0, .null),
  (61, .iconst (-1), 62, 0, 0, 0, .int (-1)),
  (62, .if_icmp .ne 7, 65, 0, 69, 0, .null),
  (65, .iconst 0, 66, 0, 0, 0, .int 0),
  (66, .goto 4, 69, 0, 70, 0, .null),
  (69, .iconst 1, 70, 0, 0, 0, .int 1),
  (70, .iadd, 71, 0, 0, 0, .null),
  (71, .istore_n 1, 72, 0, 1, 0, .null),
  (72, .iinc 2 1, 75, 0, 2, 0, .int 1),
  (75, .goto (-37), 78, 0, 38, 0, .null),
  (78, .iload_n 1, 79, 0, 1, 0, .null),
  (79, .ireturn, 80, 0, 0, 0, .null)]
def mm_X5_holding : ev_M := (RX5, "holding", cX5_holding, 3, (some .int), tb_X5_holding, 0, 0, 0, 0)
set_option maxRecDepth 100000 in
theorem ok_X5_holding : ev_OK mm_X5_holding := by unfold ev_OK; decide +kernel
theorem cv_X5_holding : ev_CV yX5_holding mm_X5_holding 5 0 := ⟨ev_has_in (k := 1254) (by decide +kernel), ev_has_in (k := 89) (by decide +kernel), ev_has_in (k := 1253) (by decide +kernel), ev_has_in (k := 74) (by decide +kernel), ⟨by decide +kernel, by decide +kernel, by decide +kernel⟩, rfl, by decide⟩
def tb_X5_mistaken : ev_T := [(0, .iconst 0, 1, 0, 0, 0, .int 0),
  (1, .istore_n 1, 2, 0, 1, 0, .null),
  (2, .iconst 0, 3, 0, 0, 0, .int 0),
  (3, .istore_n 2, 4, 0, 2, 0, .null),
  (4, .iload_n 2, 5, 0, 2, 0, .null),
  (5, .aload_n 0, 6, 0, 0, 0, .null),
  (6, .getfield 7, 9, 922, 5, 1, .null),
  (9, .iconst 1, 10, 0, 0, 0, .int 1),
  (10, .iaload, 11, 0, 0, 0, .null),
  (11, .if_icmp .ge 45, 14, 0, 56, 0, .null),
  (14, .iload_n 1, 15, 0, 1, 0, .null),
  (15, .aload_n 0, 16, 0, 0, 0, .null),
  (16, .iload_n 2, 17, 0, 2, 0, .null),
  (17, .invokevirtual 54, 20, 0, 0, 0, .null),
  (20, .ifCond .eq 27, 23, 0, 47, 0, .null),
  (23, .aload_n 0, 24, 0, 0, 0, .null),
  (24, .iload_n 2, 25, 0, 2, 0, .null),
  (25, .iconst 2, 26, 0, 0, 0, .int 2),
  (26, .invokevirtual 50, 29, 0, 0, 0, .null),
  (29, .aload_n 0, 30, 0, 0, 0, .null),
  (30, .iload_n 2, 31, 0, 2, 0, .null),
  (31, .invokevirtual 171, 34, 0, 0, 0, .null),
  (34, .iadd, 35, 0, 0, 0, .null),
  (35, .aload_n 0, 36, 0, 0, 0, .null),
  (36, .iload_n 2, 37, 0, 2, 0, .null),
  (37, .invokevirtual 91, 40, 0, 0, 0, .null),
  (40, .if_icmp .eq 7, 43, 0, 47, 0, .null),
  (43, .iconst 1, 44, 0, 0, 0, .int 1),
  (44, .goto 4, 47, 0, 48, 0, .null),
  (47, .iconst 0, 48, 0, 0, 0, .int 0),
  (48, .iadd, 49, 0, 0, 0, .null),
  (49, .istore_n 1, 50, 0, 1, 0, .null),
  (50, .iinc 2 1, 53, 0, 2, 0, .int 1),
  (53, .goto (-49), 56, 0, 4, 0, .null),
  (56, .iload_n 1, 57, 0, 1, 0, .null),
  (57, .ireturn, 58, 0, 0, 0, .null)]
def mm_X5_mistaken : ev_M := (RX5, "mistaken", cX5_mistaken, 3, (some .int), tb_X5_mistaken, 3, 67, 0, 0)
set_option maxRecDepth 100000 in
theorem ok_X5_mistaken : ev_OK mm_X5_mistaken := by unfold ev_OK; decide +kernel
theorem cv_X5_mistaken : ev_CV yX5_mistaken mm_X5_mistaken 5 0 := ⟨ev_has_in (k := 1258) (by decide +kernel), ev_has_in (k := 89) (by decide +kernel), ev_has_in (k := 1257) (by decide +kernel), ev_has_in (k := 75) (by decide +kernel), ⟨by decide +kernel, by decide +kernel, by decide +kernel⟩, rfl, by decide⟩
def tb_X5_countOf : ev_T := [(0, .iload_n 1, 1, 0, 1, 0, .null),
  (1, .tableswitch 150 0 12 #[67, 74, 81, 86, 91, 96, 103, 110, 117, 124, 132, 140, 145], 68, 0, 67, 1, .null),
  (68, .aload_n 0, 69, 0, 0, 0, .null),
  (69, .getfield 7, 72, 922, 5, 1, .null),
  (72, .iconst 0, 73, 0, 0, 0, .int 0),
  (73, .iaload, 74, 0, 0, 0, .null),
  (74, .ireturn, 75, 0, 0, 0, .null),
  (75, .aload_n 0, 76, 0, 0, 0, .null),
  (76, .getfield 7, 79, 922, 5, 1, .null),
  (79, .iconst 1, 80, 0, 0, 0, .int 1),
  (80, .iaload, 81, 0, 0, 0, .null),
  (81, .ireturn, 82, 0, 0, 0, .null),
  (82, .aload_n 0, 83, 0, 0, 0, .null),
  (83, .invokevirtual 221, 86, 0, 0, 0, .null),
  (86, .ireturn, 87, 0, 0, 0, .null),
  (87, .aload_n 0, 88, 0, 0, 0, .null),
  (88, .invokevirtual 212, 91, 0, 0, 0, .null),
  (91, .ireturn, 92, 0, 0, 0, .null),
  (92, .aload_n 0, 93, 0, 0, 0, .null),
  (93, .invokevirtual 138, 96, 0, 0, 0, .null),
  (96, .ireturn, 97, 0, 0, 0, .null),
  (97, .aload_n 0, 98, 0, 0, 0, .null),
  (98, .getfield 7, 101, 922, 5, 1, .null),
  (101, .iconst 3, 102, 0, 0, 0, .int 3),
  (102, .iaload, 103, 0, 0, 0, .null),
  (103, .ireturn, 104, 0, 0, 0, .null),
  (104, .aload_n 0, 105, 0, 0, 0, .null),
  (105, .getfield 7, 108, 922, 5, 1, .null),
  (108, .iconst 2, 109, 0, 0, 0, .int 2),
  (109, .iaload, 110, 0, 0, 0, .null),
  (110, .ireturn, 111, 0, 0, 0, .null),
  (111, .aload_n 0, 112, 0, 0, 0, .null),
  (112, .getfield 7, 115, 922, 5, 1, .null),
  (115, .iconst 4, 116, 0, 0, 0, .int 4),
  (116, .iaload, 117, 0, 0, 0, .null),
  (117, .ireturn, 118, 0, 0, 0, .null),
  (118, .aload_n 0, 119, 0, 0, 0, .null),
  (119, .getfield 7, 122, 922, 5, 1, .null),
  (122, .iconst 5, 123, 0, 0, 0, .int 5),
  (123, .iaload, 124, 0, 0, 0, .null),
  (124, .ireturn, 125, 0, 0, 0, .null),
  (125, .aload_n 0, 126, 0, 0, 0, .null),
  (126, .getfield 7, 129, 922, 5, 1, .null),
  (129, .bipush 6, 131, 0, 0, 0, .int 6),
  (131, .iaload, 132, 0, 0, 0, .null),
  (132, .ireturn, 133, 0, 0, 0, .null),
  (133, .aload_n 0, 134, 0, 0, 0, .null),
  (134, .getfield 7, 137, 922, 5, 1, .null),
  (137, .bipush 7, 139, 0, 0, 0, .int 7),
  (139, .iaload, 140, 0, 0, 0, .null),
  (140, .ireturn, 141, 0, 0, 0, .null),
  (141, .aload_n 0, 142, 0, 0, 0, .null),
  (142, .invokevirtual 224, 145, 0, 0, 0, .null),
  (145, .ireturn, 146, 0, 0, 0, .null),
  (146, .aload_n 0, 147, 0, 0, 0, .null),
  (147, .invokevirtual 227, 150, 0, 0, 0, .null),
  (150, .ireturn, 151, 0, 0, 0, .null),
  (151, .aload_n 0, 152, 0, 0, 0, .null),
  (152, .getfield 39, 155, 925, 5, 4, .null),
  (155, .ireturn, 156, 0, 0, 0, .null)]
def mm_X5_countOf : ev_M := (RX5, "countOf", cX5_countOf, 2, (some .int), tb_X5_countOf, 4, 90, 0, 0)
set_option maxRecDepth 100000 in
theorem ok_X5_countOf : ev_OK mm_X5_countOf := by unfold ev_OK; decide +kernel
theorem cv_X5_countOf : ev_CV yX5_countOf mm_X5_countOf 5 1 := ⟨ev_has_in (k := 1246) (by decide +kernel), ev_has_in (k := 89) (by decide +kernel), ev_has_in (k := 1245) (by decide +kernel), ev_has_in (k := 72) (by decide +kernel), ⟨by decide +kernel, by decide +kernel, by decide +kernel⟩, rfl, by decide⟩
def tb_X5_count : ev_T := [(0, .aload_n 0, 1, 0, 0, 0, .null),
  (1, .iload_n 1, 2, 0, 1, 0, .null),
  (2, .iconst 0, 3, 0, 0, 0, .int 0),
  (3, .bipush 13, 5, 0, 0, 0, .int 13),
  (5, .invokestatic 46, 8, 0, 0, 0, .null),
  (8, .ifCond .eq 7, 11, 0, 15, 0, .null),
  (11, .iconst 0, 12, 0, 0, 0, .int 0),
  (12, .goto 4, 15, 0, 16, 0, .null),
  (15, .iconst 1, 16, 0, 0, 0, .int 1),
  (16, .putfield 35, 19, 921, 5, 0, .null),
  (19, .aload_n 0, 20, 0, 0, 0, .null),
  (20, .getfield 35, 23, 921, 5, 0, .null),
  (23, .ifCond .le 7, 26, 0, 30, 0, .null),
  (26, .iconst 0, 27, 0, 0, 0, .int 0),
  (27, .goto 8, 30, 0, 35, 0, .null),
  (30, .aload_n 0, 31, 0, 0, 0, .null),
  (31, .iload_n 1, 32, 0, 1, 0, .null),
  (32, .invokevirtual 230, 35, 0, 0, 0, .null),
  (35, .ireturn, 36, 0, 0, 0, .null)]
def mm_X5_count : ev_M := (RX5, "count", cX5_count, 2, (some .int), tb_X5_count, 5, 111, 0, 0)
set_option maxRecDepth 100000 in
theorem ok_X5_count : ev_OK mm_X5_count := by unfold ev_OK; decide +kernel
theorem cv_X5_count : ev_CV yX5_count mm_X5_count 5 1 := ⟨ev_has_in (k := 1242) (by decide +kernel), ev_has_in (k := 89) (by decide +kernel), ev_has_in (k := 1240) (by decide +kernel), ev_has_in (k := 1241) (by decide +kernel), ⟨by decide +kernel, by decide +kernel, by decide +kernel⟩, rfl, by decide⟩
def tb_X5_setting : ev_T := [(0, .aload_n 0, 1, 0, 0, 0, .null),
  (1, .iload_n 1, 2, 0, 1, 0, .null),
  (2, .invokestatic 141, 5, 0, 0, 0, .null),
  (5, .ifCond .eq 7, 8, 0, 12, 0, .null),
  (8, .iconst 0, 9, 0, 0, 0, .int 0),
  (9, .goto 4, 12, 0, 13, 0, .null),
  (12, .iconst 1, 13, 0, 0, 0, .int 1),
  (13, .putfield 35, 16, 921, 5, 0, .null),
  (16, .aload_n 0, 17, 0, 0, 0, .null),
  (17, .getfield 35, 20, 921, 5, 0, .null),
  (20, .ifCond .le 7, 23, 0, 27, 0, .null),
  (23, .iconst 0, 24, 0, 0, 0, .int 0),
  (24, .goto 12, 27, 0, 36, 0, .null),
  (27, .aload_n 0, 28, 0, 0, 0, .null),
  (28, .getfield 7, 31, 922, 5, 1, .null),
  (31, .bipush 8, 33, 0, 0, 0, .int 8),
  (33, .iload_n 1, 34, 0, 1, 0, .null),
  (34, .iadd, 35, 0, 0, 0, .null),
  (35, .iaload, 36, 0, 0, 0, .null),
  (36, .ireturn, 37, 0, 0, 0, .null)]
def mm_X5_setting : ev_M := (RX5, "setting", cX5_setting, 2, (some .int), tb_X5_setting, 2, 42, 0, 0)
set_option maxRecDepth 100000 in
theorem ok_X5_setting : ev_OK mm_X5_setting := by unfold ev_OK; decide +kernel
theorem cv_X5_setting : ev_CV yX5_setting mm_X5_setting 5 1 := ⟨ev_has_in (k := 1262) (by decide +kernel), ev_has_in (k := 89) (by decide +kernel), ev_has_in (k := 1260) (by decide +kernel), ev_has_in (k := 1261) (by decide +kernel), ⟨by decide +kernel, by decide +kernel, by decide +kernel⟩, rfl, by decide⟩
def tb_X5_wouldPass : ev_T := [(0, .aload_n 0, 1, 0, 0, 0, .null),
  (1, .getfield 7, 4, 922, 5, 1, .null),
  (4, .iconst 0, 5, 0, 0, 0, .int 0),
  (5, .aload_n 0, 6, 0, 0, 0, .null),
  (6, .getfield 13, 9, 923, 5, 2, .null),
  (9, .iconst 0, 10, 0, 0, 0, .int 0),
  (10, .invokestatic 42, 13, 0, 0, 0, .null),
  (13, .aload_n 0, 14, 0, 0, 0, .null),
  (14, .iload_n 1, 15, 0, 1, 0, .null),
  (15, .invokevirtual 168, 18, 0, 0, 0, .null),
  (18, .istore_n 3, 19, 0, 3, 0, .null),
  (19, .aload_n 0, 20, 0, 0, 0, .null),
  (20, .getfield 7, 23, 922, 5, 1, .null),
  (23, .bipush 6, 25, 0, 0, 0, .int 6),
  (25, .iaload, 26, 0, 0, 0, .null),
  (26, .aload_n 0, 27, 0, 0, 0, .null),
  (27, .getfield 13, 30, 923, 5, 2, .null),
  (30, .bipush 6, 32, 0, 0, 0, .int 6),
  (32, .iaload, 33, 0, 0, 0, .null),
  (33, .isub, 34, 0, 0, 0, .null),
  (34, .istore 4, 36, 0, 4, 0, .null),
  (36, .aload_n 0, 37, 0, 0, 0, .null),
  (37, .getfield 7, 40, 922, 5, 1, .null),
  (40, .iconst 3, 41, 0, 0, 0, .int 3),
  (41, .iaload, 42, 0, 0, 0, .null),
  (42, .istore 5, 44, 0, 5, 0, .null),
  (44, .aload_n 0, 45, 0, 0, 0, .null),
  (45, .invokevirtual 221, 48, 0, 0, 0, .null),
  (48, .aload_n 0, 49, 0, 0, 0, .null),
  (49, .invokevirtual 212, 52, 0, 0, 0, .null),
  (52, .isub, 53, 0, 0, 0, .null),
  (53, .istore 6, 55, 0, 6, 0, .null),
  (55, .aload_n 0, 56, 0, 0, 0, .null),
  (56, .getfield 13, 59, 923, 5, 2, .null),
  (59, .iconst 0, 60, 0, 0, 0, .int 0),
  (60, .aload_n 0, 61, 0, 0, 0, .null),
  (61, .getfield 7, 64, 922, 5, 1, .null),
  (64, .iconst 0, 65, 0, 0, 0, .int 0),
  (65, .invokestatic 42, 68, 0, 0, 0, .null),
  (68, .iload_n 2, 69, 0, 2, 0, .null),
  (69, .ifCond .ne 7, 72, 0, 76, 0, .null),
  (72, .iload_n 3, 73, 0, 3, 0, .null),
  (73, .goto 25, 76, 0, 98, 0, .null),
  (76, .iload_n 2, 77, 0, 2, 0, .null),
  (77, .iconst 1, 78, 0, 0, 0, .int 1),
  (78, .if_icmp .ne 8, 81, 0, 86, 0, .null),
  (81, .iload 4, 83, 0, 4, 0, .null),
  (83, .goto 15, 86, 0, 98, 0, .null),
  (86, .iload_n 2, 87, 0, 2, 0, .null),
  (87, .iconst 2, 88, 0, 0, 0, .int 2),
  (88, .if_icmp .ne 8, 91, 0, 96, 0, .null),
  (91, .iload 5, 93, 0, 5, 0, .null),
  (93, .goto 5, 96, 0, 98, 0, .null),
  (96, .iload 6, 98, 0, 6, 0, .null),
  (98, .ireturn, 99, 0, 0, 0, .null)]
def mm_X5_wouldPass : ev_M := (RX5, "wouldPass", cX5_wouldPass, 7, (some .int), tb_X5_wouldPass, 9, 199, 0, 0)
set_option maxRecDepth 100000 in
theorem ok_X5_wouldPass : ev_OK mm_X5_wouldPass := by unfold ev_OK; decide +kernel
theorem cv_X5_wouldPass : ev_CV yX5_wouldPass mm_X5_wouldPass 5 2 := ⟨ev_has_in (k := 1270) (by decide +kernel), ev_has_in (k := 89) (by decide +kernel), ev_has_in (k := 1269) (by decide +kernel), ev_has_in (k := 76) (by decide +kernel), ⟨by decide +kernel, by decide +kernel, by decide +kernel⟩, rfl, by decide⟩
def tb_X5_ifPassed : ev_T := [(0, .aload_n 0, 1, 0, 0, 0, .null),
  (1, .iload_n 1, 2, 0, 1, 0, .null),
  (2, .iconst 1, 3, 0, 0, 0, .int 1),
  (3, .bipush 100, 5, 0, 0, 0, .int 100),
  (5, .invokestatic 46, 8, 0, 0, 0, .null),
  (8, .ifCond .eq 16, 11, 0, 24, 0, .null),
  (11, .iload_n 2, 12, 0, 2, 0, .null),
  (12, .iconst 0, 13, 0, 0, 0, .int 0),
  (13, .iconst 3, 14, 0, 0, 0, .int 3),
  (14, .invokestatic 46, 17, 0, 0, 0, .null),
  (17, .ifCond .eq 7, 20, 0, 24, 0, .null),
  (20, .iconst 0, 21, 0, 0, 0, .int 0),
  (21, .goto 4, 24, 0, 25, 0, .null),
  (24, .iconst 1, 25, 0, 0, 0, .int 1),
  (25, .putfield 35, 28, 921, 5, 0, .null),
  (28, .aload_n 0, 29, 0, 0, 0, .null),
  (29, .getfield 35, 32, 921, 5, 0, .null),
  (32, .ifCond .le 7, 35, 0, 39, 0, .null),
  (35, .iconst 0, 36, 0, 0, 0, .int 0),
  (36, .goto 9, 39, 0, 45, 0, .null),
  (39, .aload_n 0, 40, 0, 0, 0, .null),
  (40, .iload_n 1, 41, 0, 1, 0, .null),
  (41, .iload_n 2, 42, 0, 2, 0, .null),
  (42, .invokevirtual 233, 45, 0, 0, 0, .null),
  (45, .ireturn, 46, 0, 0, 0, .null)]
def mm_X5_ifPassed : ev_M := (RX5, "ifPassed", cX5_ifPassed, 3, (some .int), tb_X5_ifPassed, 10, 225, 0, 0)
set_option maxRecDepth 100000 in
theorem ok_X5_ifPassed : ev_OK mm_X5_ifPassed := by unfold ev_OK; decide +kernel
theorem cv_X5_ifPassed : ev_CV yX5_ifPassed mm_X5_ifPassed 5 2 := ⟨ev_has_in (k := 1266) (by decide +kernel), ev_has_in (k := 89) (by decide +kernel), ev_has_in (k := 1264) (by decide +kernel), ev_has_in (k := 1265) (by decide +kernel), ⟨by decide +kernel, by decide +kernel, by decide +kernel⟩, rfl, by decide⟩
def tb_X5_wouldEnd : ev_T := [(0, .aload_n 0, 1, 0, 0, 0, .null),
  (1, .getfield 7, 4, 922, 5, 1, .null),
  (4, .iconst 0, 5, 0, 0, 0, .int 0),
  (5, .aload_n 0, 6, 0, 0, 0, .null),
  (6, .getfield 13, 9, 923, 5, 2, .null),
  (9, .iconst 0, 10, 0, 0, 0, .int 0),
  (10, .invokestatic 42, 13, 0, 0, 0, .null),
  (13, .iconst 0, 14, 0, 0, 0, .int 0),
  (14, .istore_n 2, 15, 0, 2, 0, .null),
  (15, .aload_n 0, 16, 0, 0, 0, .null),
  (16, .iload_n 1, 17, 0, 1, 0, .null),
  (17, .invokevirtual 54, 20, 0, 0, 0, .null),
  (20, .ifCond .eq 20, 23, 0, 40, 0, .null),
  (23, .iload_n 2, 24, 0, 2, 0, .null),
  (24, .sipush 200, 27, 0, 0, 0, .int 200),
  (27, .if_icmp .gt 13, 30, 0, 40, 0, .null),
  (30, .aload_n 0, 31, 0, 0, 0, .null),
  (31, .invokevirtual 162, 34, 0, 0, 0, .null),
  (34, .iinc 2 1, 37, 0, 2, 0, .int 1),
  (37, .goto (-22), 40, 0, 15, 0, .null),
  (40, .aload_n 0, 41, 0, 0, 0, .null),
  (41, .getfield 13, 44, 923, 5, 2, .null),
  (44, .iconst 0, 45, 0, 0, 0, .int 0),
  (45, .aload_n 0, 46, 0, 0, 0, .null),
  (46, .getfield 7, 49, 922, 5, 1, .null),
  (49, .iconst 0, 50, 0, 0, 0, .int 0),
  (50, .invokestatic 42, 53, 0, 0, 0, .null),
  (53, .iload_n 2, 54, 0, 2, 0, .null),
  (54, .sipush 200, 57, 0, 0, 0, .int 200),
  (57, .if_icmp .gt 7, 60, 0, 64, 0, .null),
  (60, .iload_n 2, 61, 0, 2, 0, .null),
  (61, .goto 4, 64, 0, 65, 0, .null),
  (64, .iconst (-1), 65, 0, 0, 0, .int (-1)),
  (65, .ireturn, 66, 0, 0, 0, .null)]
def mm_X5_wouldEnd : ev_M := (RX5, "wouldEnd", cX5_wouldEnd, 3, (some .int), tb_X5_wouldEnd, 8, 176, 0, 0)
set_option maxRecDepth 100000 in
theorem ok_X5_wouldEnd : ev_OK mm_X5_wouldEnd := by unfold ev_OK; decide +kernel
theorem cv_X5_wouldEnd : ev_CV yX5_wouldEnd mm_X5_wouldEnd 5 1 := ⟨ev_has_in (k := 1278) (by decide +kernel), ev_has_in (k := 89) (by decide +kernel), ev_has_in (k := 1277) (by decide +kernel), ev_has_in (k := 77) (by decide +kernel), ⟨by decide +kernel, by decide +kernel, by decide +kernel⟩, rfl, by decide⟩
def tb_X5_endsIn : ev_T := [(0, .aload_n 0, 1, 0, 0, 0, .null),
  (1, .aload_n 0, 2, 0, 0, 0, .null),
  (2, .iload_n 1, 3, 0, 1, 0, .null),
  (3, .invokevirtual 114, 6, 0, 0, 0, .null),
  (6, .ifCond .eq 7, 9, 0, 13, 0, .null),
  (9, .iconst 0, 10, 0, 0, 0, .int 0),
  (10, .goto 4, 13, 0, 14, 0, .null),
  (13, .iconst 1, 14, 0, 0, 0, .int 1),
  (14, .putfield 35, 17, 921, 5, 0, .null),
  (17, .aload_n 0, 18, 0, 0, 0, .null),
  (18, .getfield 35, 21, 921, 5, 0, .null),
  (21, .ifCond .le 7, 24, 0, 28, 0, .null),
  (24, .iconst 0, 25, 0, 0, 0, .int 0),
  (25, .goto 8, 28, 0, 33, 0, .null),
  (28, .aload_n 0, 29, 0, 0, 0, .null),
  (29, .iload_n 1, 30, 0, 1, 0, .null),
  (30, .invokevirtual 236, 33, 0, 0, 0, .null),
  (33, .ireturn, 34, 0, 0, 0, .null)]
def mm_X5_endsIn : ev_M := (RX5, "endsIn", cX5_endsIn, 2, (some .int), tb_X5_endsIn, 9, 198, 0, 0)
set_option maxRecDepth 100000 in
theorem ok_X5_endsIn : ev_OK mm_X5_endsIn := by unfold ev_OK; decide +kernel
theorem cv_X5_endsIn : ev_CV yX5_endsIn mm_X5_endsIn 5 1 := ⟨ev_has_in (k := 1274) (by decide +kernel), ev_has_in (k := 89) (by decide +kernel), ev_has_in (k := 1272) (by decide +kernel), ev_has_in (k := 1273) (by decide +kernel), ⟨by decide +kernel, by decide +kernel, by decide +kernel⟩, rfl, by decide⟩
def tb_X5_wouldTry : ev_T := [(0, .aload_n 0, 1, 0, 0, 0, .null),
  (1, .getfield 7, 4, 922, 5, 1, .null),
  (4, .iconst 0, 5, 0, 0, 0, .int 0),
  (5, .aload_n 0, 6, 0, 0, 0, .null),
  (6, .getfield 13, 9, 923, 5, 2, .null),
  (9, .iconst 0, 10, 0, 0, 0, .int 0),
  (10, .invokestatic 42, 13, 0, 0, 0, .null),
  (13, .aload_n 0, 14, 0, 0, 0, .null),
  (14, .invokevirtual 159, 17, 0, 0, 0, .null),
  (17, .iload_n 1, 18, 0, 1, 0, .null),
  (18, .ifCond .ne 19, 21, 0, 37, 0, .null),
  (21, .aload_n 0, 22, 0, 0, 0, .null),
  (22, .getfield 7, 25, 922, 5, 1, .null),
  (25, .iconst 4, 26, 0, 0, 0, .int 4),
  (26, .iaload, 27, 0, 0, 0, .null),
  (27, .aload_n 0, 28, 0, 0, 0, .null),
  (28, .getfield 13, 31, 923, 5, 2, .null),
  (31, .iconst 4, 32, 0, 0, 0, .int 4),
  (32, .iaload, 33, 0, 0, 0, .null),
  (33, .isub, 34, 0, 0, 0, .null),
  (34, .goto 30, 37, 0, 64, 0, .null),
  (37, .iload_n 1, 38, 0, 1, 0, .null),
  (38, .iconst 1, 39, 0, 0, 0, .int 1),
  (39, .if_icmp .ne 10, 42, 0, 49, 0, .null),
  (42, .aload_n 0, 43, 0, 0, 0, .null),
  (43, .invokevirtual 138, 46, 0, 0, 0, .null),
  (46, .goto 18, 49, 0, 64, 0, .null),
  (49, .aload_n 0, 50, 0, 0, 0, .null),
  (50, .getfield 7, 53, 922, 5, 1, .null),
  (53, .bipush 6, 55, 0, 0, 0, .int 6),
  (55, .iaload, 56, 0, 0, 0, .null),
  (56, .aload_n 0, 57, 0, 0, 0, .null),
  (57, .getfield 13, 60, 923, 5, 2, .null),
  (60, .bipush 6, 62, 0, 0, 0, .int 6),
  (62, .iaload, 63, 0, 0, 0, .null),
  (63, .isub, 64, 0, 0, 0, .null),
  (64, .istore_n 2, 65, 0, 2, 0, .null),
  (65, .aload_n 0, 66, 0, 0, 0, .null),
  (66, .getfield 13, 69, 923, 5, 2, .null),
  (69, .iconst 0, 70, 0, 0, 0, .int 0),
  (70, .aload_n 0, 71, 0, 0, 0, .null),
  (71, .getfield 7, 74, 922, 5, 1, .null),
  (74, .iconst 0, 75, 0, 0, 0, .int 0),
  (75, .invokestatic 42, 78, 0, 0, 0, .null),
  (78, .iload_n 2, 79, 0, 2, 0, .null),
  (79, .ireturn, 80, 0, 0, 0, .null)]
def mm_X5_wouldTry : ev_M := (RX5, "wouldTry", cX5_wouldTry, 3, (some .int), tb_X5_wouldTry, 7, 156, 0, 0)
set_option maxRecDepth 100000 in
theorem ok_X5_wouldTry : ev_OK mm_X5_wouldTry := by unfold ev_OK; decide +kernel
theorem cv_X5_wouldTry : ev_CV yX5_wouldTry mm_X5_wouldTry 5 1 := ⟨ev_has_in (k := 1286) (by decide +kernel), ev_has_in (k := 89) (by decide +kernel), ev_has_in (k := 1285) (by decide +kernel), ev_has_in (k := 78) (by decide +kernel), ⟨by decide +kernel, by decide +kernel, by decide +kernel⟩, rfl, by decide⟩
def tb_X5_ifTried : ev_T := [(0, .aload_n 0, 1, 0, 0, 0, .null),
  (1, .iload_n 1, 2, 0, 1, 0, .null),
  (2, .iconst 0, 3, 0, 0, 0, .int 0),
  (3, .iconst 2, 4, 0, 0, 0, .int 2),
  (4, .invokestatic 46, 7, 0, 0, 0, .null),
  (7, .ifCond .eq 7, 10, 0, 14, 0, .null),
  (10, .iconst 0, 11, 0, 0, 0, .int 0),
  (11, .goto 4, 14, 0, 15, 0, .null),
  (14, .iconst 1, 15, 0, 0, 0, .int 1),
  (15, .putfield 35, 18, 921, 5, 0, .null),
  (18, .aload_n 0, 19, 0, 0, 0, .null),
  (19, .getfield 35, 22, 921, 5, 0, .null),
  (22, .ifCond .le 7, 25, 0, 29, 0, .null),
  (25, .iconst 0, 26, 0, 0, 0, .int 0),
  (26, .goto 8, 29, 0, 34, 0, .null),
  (29, .aload_n 0, 30, 0, 0, 0, .null),
  (30, .iload_n 1, 31, 0, 1, 0, .null),
  (31, .invokevirtual 239, 34, 0, 0, 0, .null),
  (34, .ireturn, 35, 0, 0, 0, .null)]
def mm_X5_ifTried : ev_M := (RX5, "ifTried", cX5_ifTried, 2, (some .int), tb_X5_ifTried, 8, 178, 0, 0)
set_option maxRecDepth 100000 in
theorem ok_X5_ifTried : ev_OK mm_X5_ifTried := by unfold ev_OK; decide +kernel
theorem cv_X5_ifTried : ev_CV yX5_ifTried mm_X5_ifTried 5 1 := ⟨ev_has_in (k := 1282) (by decide +kernel), ev_has_in (k := 89) (by decide +kernel), ev_has_in (k := 1280) (by decide +kernel), ev_has_in (k := 1281) (by decide +kernel), ⟨by decide +kernel, by decide +kernel, by decide +kernel⟩, rfl, by decide⟩
def tb_X5_findFrom : ev_T := [(0, .aload_n 0, 1, 0, 0, 0, .null),
  (1, .getfield 26, 4, 929, 5, 8, .null),
  (4, .invokestatic 64, 7, 0, 0, 0, .null),
  (7, .iconst 0, 8, 0, 0, 0, .int 0),
  (8, .istore_n 2, 9, 0, 2, 0, .null),
  (9, .iload_n 2, 10, 0, 2, 0, .null),
  (10, .iconst 4, 11, 0, 0, 0, .int 4),
  (11, .if_icmp .ge 39, 14, 0, 50, 0, .null),
  (14, .aload_n 0, 15, 0, 0, 0, .null),
  (15, .iload_n 1, 16, 0, 1, 0, .null),
  (16, .invokevirtual 54, 19, 0, 0, 0, .null),
  (19, .ifCond .eq 31, 22, 0, 50, 0, .null),
  (22, .aload_n 0, 23, 0, 0, 0, .null),
  (23, .iload_n 1, 24, 0, 1, 0, .null),
  (24, .iload_n 2, 25, 0, 2, 0, .null),
  (25, .invokevirtual 58, 28, 0, 0, 0, .null),
  (28, .iconst (-1), 29, 0, 0, 0, .int (-1)),
  (29, .if_icmp .eq 15, 32, 0, 44, 0, .null),
  (32, .aload_n 0, 33, 0, 0, 0, .null),
  (33, .getfield 26, 36, 929, 5, 8, .null),
  (36, .aload_n 0, 37, 0, 0, 0, .null),
  (37, .iload_n 1, 38, 0, 1, 0, .null),
  (38, .iload_n 2, 39, 0, 2, 0, .null),
  (39, .invokevirtual 58, 42, 0, 0, 0, .null),
  (42, .iconst 1, 43, 0, 0, 0, .int 1),
  (43, .iastore, 44, 0, 0, 0, .null),
  (44, .iinc 2 1, 47, 0, 2, 0, .int 1),
  (47, .goto (-38), 50, 0, 9, 0, .null),
  (50, .aload_n 0, 51, 0, 0, 0, .null),
  (51, .aload_n 0, 52, 0, 0, 0, .null),
  (52, .getfield 26, 55, 929, 5, 8, .null),
  (55, .invokevirtual 68, 58, 0, 0, 0, .null),
  (58, .return_, 59, 0, 0, 0, .null)]
def mm_X5_findFrom : ev_M := (RX5, "findFrom", cX5_findFrom, 3, none, tb_X5_findFrom, 3, 68, 0, 0)
set_option maxRecDepth 100000 in
theorem ok_X5_findFrom : ev_OK mm_X5_findFrom := by unfold ev_OK; decide +kernel
theorem cv_X5_findFrom : ev_CV yX5_findFrom mm_X5_findFrom 5 1 := ⟨ev_has_in (k := 1298) (by decide +kernel), ev_has_in (k := 89) (by decide +kernel), ev_has_in (k := 1297) (by decide +kernel), ev_has_in (k := 80) (by decide +kernel), ⟨by decide +kernel, by decide +kernel, by decide +kernel⟩, rfl, by decide⟩
def tb_X5_ringOf : ev_T := [(0, .aload_n 0, 1, 0, 0, 0, .null),
  (1, .iload_n 1, 2, 0, 1, 0, .null),
  (2, .invokevirtual 242, 5, 0, 0, 0, .null),
  (5, .iconst 0, 6, 0, 0, 0, .int 0),
  (6, .istore_n 2, 7, 0, 2, 0, .null),
  (7, .iconst 0, 8, 0, 0, 0, .int 0),
  (8, .istore_n 3, 9, 0, 3, 0, .null),
  (9, .iload_n 3, 10, 0, 3, 0, .null),
  (10, .aload_n 0, 11, 0, 0, 0, .null),
  (11, .getfield 7, 14, 922, 5, 1, .null),
  (14, .iconst 1, 15, 0, 0, 0, .int 1),
  (15, .iaload, 16, 0, 0, 0, .null),
  (16, .if_icmp .ge 20, 19, 0, 36, 0, .null),
  (19, .iload_n 2, 20, 0, 2, 0, .null),
  (20, .aload_n 0, 21, 0, 0, 0, .null),
  (21, .getfield 26, 24, 929, 5, 8, .null),
  (24, .iload_n 3, 25, 0, 3, 0, .null),
  (25, .iaload, 26, 0, 0, 0, .null),
  (26, .iload_n 3, 27, 0, 3, 0, .null),
  (27, .ishl, 28, 0, 0, 0, .null),
  (28, .ior, 29, 0, 0, 0, .null),
  (29, .istore_n 2, 30, 0, 2, 0, .null),
  (30, .iinc 3 1, 33, 0, 3, 0, .int 1),
  (33, .goto (-24), 36, 0, 9, 0, .null),
  (36, .iconst 0, 37, 0, 0, 0, .int 0),
  (37, .istore_n 3, 38, 0, 3, 0, .null),
  (38, .iconst 0, 39, 0, 0, 0, .int 0),
  (39, .istore 4, 41, 0, 4, 0, .null),
  (41, .iload 4, 43, 0, 4, 0, .null),
  (43, .aload_n 0, 44, 0, 0, 0, .null),
  (44, .getfield 7, 47, 922, 5, 1, .null),
  (47, .iconst 1, 48, 0, 0, 0, .int 1),
  (48, .iaload, 49, 0, 0, 0, .null),
  (49, .if_icmp .ge 37, 52, 0, 86, 0, .null),
  (52, .iload_n 2, 53, 0, 2, 0, .null),
  (53, .iload 4, 55, 0, 4, 0, .null),
  (55, .ishr, 56, 0, 0, 0, .null),
  (56, .iconst 1, 57, 0, 0, 0, .int 1),
  (57, .iand, 58, 0, 0, 0, .null),
  (58, .iconst 1, 59, 0, 0, 0, .int 1),
  (59, .if_icmp .ne 21, 62, 0, 80, 0, .null),
  (62, .aload_n 0, 63, 0, 0, 0, .null),
  (63, .iload 4, 65, 0, 4, 0, .null),
  (65, .invokevirtual 242, 68, 0, 0, 0, .null),
  (68, .iload_n 3, 69, 0, 3, 0, .null),
  (69, .aload_n 0, 70, 0, 0, 0, .null),
  (70, .getfield 26, 73, 929, 5, 8, .null),
  (73, .iload_n 1, 74, 0, 1, 0, .null),
  (74, .iaload, 75, 0, 0, 0, .null),
  (75, .iload 4, 77, 0, 4, 0, .null),
  (77, .ishl, 78, 0, 0, 0, .null),
  (78, .ior, 79, 0, 0, 0, .null),
  (79, .istore_n 3, 80, 0, 3, 0, .null),
  (80, .iinc 4 1, 83, 0, 4, 0, .int 1),
  (83, .goto (-42), 86, 0, 41, 0, .null),
  (86, .iload_n 3, 87, 0, 3, 0, .null),
  (87, .ireturn, 88, 0, 0, 0, .null)]
def mm_X5_ringOf : ev_M := (RX5, "ringOf", cX5_ringOf, 5, (some .int), tb_X5_ringOf, 4, 90, 0, 0)
set_option maxRecDepth 100000 in
theorem ok_X5_ringOf : ev_OK mm_X5_ringOf := by unfold ev_OK; decide +kernel
theorem cv_X5_ringOf : ev_CV yX5_ringOf mm_X5_ringOf 5 1 := ⟨ev_has_in (k := 1294) (by decide +kernel), ev_has_in (k := 89) (by decide +kernel), ev_has_in (k := 1293) (by decide +kernel), ev_has_in (k := 79) (by decide +kernel), ⟨by decide +kernel, by decide +kernel, by decide +kernel⟩, rfl, by decide⟩
def tb_X5_ring : ev_T := [(0, .aload_n 0, 1, 0, 0, 0, .null),
  (1, .aload_n 0, 2, 0, 0, 0, .null),
  (2, .iload_n 1, 3, 0, 1, 0, .null),
  (3, .invokevirtual 114, 6, 0, 0, 0, .null),
  (6, .ifCond .eq 7, 9, 0, 13, 0, .null),
  (9, .iconst 0, 10, 0, 0, 0, .int 0),
  (10, .goto 4, 13, 0, 14, 0, .null),
  (13, .iconst 1, 14, 0, 0, 0, .int 1),
  (14, .putfield 35, 17, 921, 5, 0, .null),
  (17, .aload_n 0, 18, 0, 0, 0, .null),
  (18, .getfield 35, 21, 921, 5, 0, .null),
  (21, .ifCond .le 7, 24, 0, 28, 0, .null),
  (24, .iconst 0, 25, 0, 0, 0, .int 0),
  (25, .goto 8, 28, 0, 33, 0, .null),
  (28, .aload_n 0, 29, 0, 0, 0, .null),
  (29, .iload_n 1, 30, 0, 1, 0, .null),
  (30, .invokevirtual 245, 33, 0, 0, 0, .null),
  (33, .ireturn, 34, 0, 0, 0, .null)]
def mm_X5_ring : ev_M := (RX5, "ring", cX5_ring, 2, (some .int), tb_X5_ring, 5, 114, 0, 0)
set_option maxRecDepth 100000 in
theorem ok_X5_ring : ev_OK mm_X5_ring := by unfold ev_OK; decide +kernel
theorem cv_X5_ring : ev_CV yX5_ring mm_X5_ring 5 1 := ⟨ev_has_in (k := 1290) (by decide +kernel), ev_has_in (k := 89) (by decide +kernel), ev_has_in (k := 1288) (by decide +kernel), ev_has_in (k := 1289) (by decide +kernel), ⟨by decide +kernel, by decide +kernel, by decide +kernel⟩, rfl, by decide⟩
def tb_X5_cut : ev_T := [(0, .aload_n 0, 1, 0, 0, 0, .null),
  (1, .invokevirtual 212, 4, 0, 0, 0, .null),
  (4, .istore_n 2, 5, 0, 2, 0, .null),
  (5, .iconst (-1), 6, 0, 0, 0, .int (-1)),
  (6, .istore_n 3, 7, 0, 3, 0, .null),
  (7, .iconst 0, 8, 0, 0, 0, .int 0),
  (8, .istore 4, 10, 0, 4, 0, .null),
  (10, .iconst 0, 11, 0, 0, 0, .int 0),
  (11, .istore 5, 13, 0, 5, 0, .null),
  (13, .iload 5, 15, 0, 5, 0, .null),
  (15, .iconst 4, 16, 0, 0, 0, .int 4),
  (16, .iconst 4, 17, 0, 0, 0, .int 4),
  (17, .aload_n 0, 18, 0, 0, 0, .null),
  (18, .getfield 7, 21, 922, 5, 1, .null),
  (21, .iconst 1, 22, 0, 0, 0, .int 1),
  (22, .iaload, 23, 0, 0, 0, .null),
  (23, .imul, 24, 0, 0, 0, .null),
  (24, .iadd, 25, 0, 0, 0, .null),
  (25, .if_icmp .ge 103, 28, 0, 128, 0, .null),
  (28, .iload 5, 30, 0, 5, 0, .null),
  (30, .iconst 4, 31, 0, 0, 0, .int 4),
  (31, .if_icmp .ge 11, 34, 0, 42, 0, .null),
  (34, .bipush 13, 36, 0, 0, 0, .int 13),
  (36, .iload 5, 38, 0, 5, 0, .null),
  (38, .iadd, 39, 0, 0, 0, .null),
  (39, .goto 11, 42, 0, 50, 0, .null),
  (42, .sipush 257, 45, 0, 0, 0, .int 257),
  (45, .iload 5, 47, 0, 5, 0, .null),
  (47, .iadd, 48, 0, 0, 0, .null),
  (48, .iconst 4, 49, 0, 0, 0, .int 4),
  (49, .isub, 50, 0, 0, 0, .null),
  (50, .istore 6, 52, 0, 6, 0, .null),
  (52, .aload_n 0, 53, 0, 0, 0, .null),
  (53, .getfield 7, 56, 922, 5, 1, .null),
  (56, .iload 6, 58, 0, 6, 0, .null),
  (58, .iaload, 59, 0, 0, 0, .null),
  (59, .istore 7, 61, 0, 7, 0, .null),
  (61, .iload 7, 63, 0, 7, 0, .null),
  (63, .iconst (-1), 64, 0, 0, 0, .int (-1)),
  (64, .if_icmp .eq 58, 67, 0, 122, 0, .null),
  (67, .aload_n 0, 68, 0, 0, 0, .null),
  (68, .getfield 7, 71, 922, 5, 1, .null),
  (71, .iload 6, 73, 0, 6, 0, .null),
  (73, .iconst (-1), 74, 0, 0, 0, .int (-1)),
  (74, .iastore, 75, 0, 0, 0, .null),
  (75, .iload_n 2, 76, 0, 2, 0, .null),
  (76, .aload_n 0, 77, 0, 0, 0, .null),
  (77, .invokevirtual 212, 80, 0, 0, 0, .null),
  (80, .isub, 81, 0, 0, 0, .null),
  (81, .istore 8, 83, 0, 8, 0, .null),
  (83, .aload_n 0, 84, 0, 0, 0, .null),
  (84, .getfield 7, 87, 922, 5, 1, .null),
  (87, .iload 6, 89, 0, 6, 0, .null),
  (89, .iload 7, 91, 0, 7, 0, .null),
  (91, .iastore, 92, 0, 0, 0, .null),
  (92, .iload 8, 94, 0, 8, 0, .null),
  (94, .iload 4, 96, 0, 4, 0, .null),
  (96, .if_icmp .le 8, 99, 0, 104, 0, .null),
  (99, .iload 5, 101, 0, 5, 0, .null),
  (101, .goto 4, 104, 0, 105, 0, .null),
  (104, .iload_n 3, 105, 0, 3, 0, .null),
  (105, .istore_n 3, 106, 0, 3, 0, .null),
  (106, .iload 8, 108, 0, 8, 0, .null),
  (108, .iload 4, 110, 0, 4, 0, .null),
  (110, .if_icmp .le 8, 113, 0, 118, 0, .null),
  (113, .iload 8, 115, 0, 8, 0, .null),
  (115, .goto 5, 118, 0, 120, 0, .null),
  (118, .iload 4, 120, 0, 4, 0, .null),
  (120, .istore 4, 122, 0, 4, 0, .null),
  (122, .iinc 5 1, 125, 0, 5, 0, .int 1),
  (125, .goto (-112), 128, 0, 13, 0, .null),
  (128, .iload_n 1, 129, 0, 1, 0, .null),
  (129, .ifCond .ne 7, 132, 0, 136, 0, .null),
  (132, .iload_n 3, 133, 0, 3, 0, .null),
  (133, .goto 5, 136, 0, 138, 0, .null),
  (136, .iload 4, 138, 0, 4, 0, .null),
  (138, .ireturn, 139, 0, 0, 0, .null)]
def mm_X5_cut : ev_M := (RX5, "cut", cX5_cut, 9, (some .int), tb_X5_cut, 4, 90, 0, 0)
set_option maxRecDepth 100000 in
theorem ok_X5_cut : ev_OK mm_X5_cut := by unfold ev_OK; decide +kernel
theorem cv_X5_cut : ev_CV yX5_cut mm_X5_cut 5 1 := ⟨ev_has_in (k := 1306) (by decide +kernel), ev_has_in (k := 89) (by decide +kernel), ev_has_in (k := 1305) (by decide +kernel), ev_has_in (k := 81) (by decide +kernel), ⟨by decide +kernel, by decide +kernel, by decide +kernel⟩, rfl, by decide⟩
def tb_X5_bestCut : ev_T := [(0, .aload_n 0, 1, 0, 0, 0, .null),
  (1, .iload_n 1, 2, 0, 1, 0, .null),
  (2, .iconst 0, 3, 0, 0, 0, .int 0),
  (3, .iconst 1, 4, 0, 0, 0, .int 1),
  (4, .invokestatic 46, 7, 0, 0, 0, .null),
  (7, .ifCond .eq 7, 10, 0, 14, 0, .null),
  (10, .iconst 0, 11, 0, 0, 0, .int 0),
  (11, .goto 4, 14, 0, 15, 0, .null),
  (14, .iconst 1, 15, 0, 0, 0, .int 1),
  (15, .putfield 35, 18, 921, 5, 0, .null),
  (18, .aload_n 0, 19, 0, 0, 0, .null),
  (19, .getfield 35, 22, 921, 5, 0, .null),
  (22, .ifCond .le 7, 25, 0, 29, 0, .null),
  (25, .iconst 0, 26, 0, 0, 0, .int 0),
  (26, .goto 8, 29, 0, 34, 0, .null),
  (29, .aload_n 0, 30, 0, 0, 0, .null),
  (30, .iload_n 1, 31, 0, 1, 0, .null),
  (31, .invokevirtual 248, 34, 0, 0, 0, .null),
  (34, .ireturn, 35, 0, 0, 0, .null)]
def mm_X5_bestCut : ev_M := (RX5, "bestCut", cX5_bestCut, 2, (some .int), tb_X5_bestCut, 5, 118, 0, 0)
set_option maxRecDepth 100000 in
theorem ok_X5_bestCut : ev_OK mm_X5_bestCut := by unfold ev_OK; decide +kernel
theorem cv_X5_bestCut : ev_CV yX5_bestCut mm_X5_bestCut 5 1 := ⟨ev_has_in (k := 1302) (by decide +kernel), ev_has_in (k := 89) (by decide +kernel), ev_has_in (k := 1300) (by decide +kernel), ev_has_in (k := 1301) (by decide +kernel), ⟨by decide +kernel, by decide +kernel, by decide +kernel⟩, rfl, by decide⟩
def tb_X5_wouldBear : ev_T := [(0, .iconst (-1), 1, 0, 0, 0, .int (-1)),
  (1, .istore_n 2, 2, 0, 2, 0, .null),
  (2, .aload_n 0, 3, 0, 0, 0, .null),
  (3, .getfield 7, 6, 922, 5, 1, .null),
  (6, .iconst 0, 7, 0, 0, 0, .int 0),
  (7, .aload_n 0, 8, 0, 0, 0, .null),
  (8, .getfield 13, 11, 923, 5, 2, .null),
  (11, .iconst 0, 12, 0, 0, 0, .int 0),
  (12, .invokestatic 42, 15, 0, 0, 0, .null),
  (15, .iconst 0, 16, 0, 0, 0, .int 0),
  (16, .istore_n 3, 17, 0, 3, 0, .null),
  (17, .iload_n 3, 18, 0, 3, 0, .null),
  (18, .bipush 12, 20, 0, 0, 0, .int 12),
  (20, .if_icmp .gt 78, 23, 0, 98, 0, .null),
  (23, .iload_n 2, 24, 0, 2, 0, .null),
  (24, .iconst (-1), 25, 0, 0, 0, .int (-1)),
  (25, .if_icmp .ne 73, 28, 0, 98, 0, .null),
  (28, .iconst 0, 29, 0, 0, 0, .int 0),
  (29, .istore 4, 31, 0, 4, 0, .null),
  (31, .iload 4, 33, 0, 4, 0, .null),
  (33, .iload_n 3, 34, 0, 3, 0, .null),
  (34, .if_icmp .ge 24, 37, 0, 58, 0, .null),
  (37, .aload_n 0, 38, 0, 0, 0, .null),
  (38, .iload_n 1, 39, 0, 1, 0, .null),
  (39, .invokevirtual 54, 42, 0, 0, 0, .null),
  (42, .ifCond .eq 16, 45, 0, 58, 0, .null),
  (45, .aload_n 0, 46, 0, 0, 0, .null),
  (46, .iload_n 1, 47, 0, 1, 0, .null),
  (47, .iconst (-1), 48, 0, 0, 0, .int (-1)),
  (48, .invokevirtual 135, 51, 0, 0, 0, .null),
  (51, .pop, 52, 0, 0, 0, .null),
  (52, .iinc 4 1, 55, 0, 4, 0, .int 1),
  (55, .goto (-24), 58, 0, 31, 0, .null),
  (58, .aload_n 0, 59, 0, 0, 0, .null),
  (59, .bipush 30, 61, 0, 0, 0, .int 30),
  (61, .invokevirtual 168, 64, 0, 0, 0, .null),
  (64, .pop, 65, 0, 0, 0, .null),
  (65, .aload_n 0, 66, 0, 0, 0, .null),
  (66, .iload_n 1, 67, 0, 1, 0, .null),
  (67, .invokevirtual 54, 70, 0, 0, 0, .null),
  (70, .ifCond .eq 7, 73, 0, 77, 0, .null),
  (73, .iconst (-1), 74, 0, 0, 0, .int (-1)),
  (74, .goto 4, 77, 0, 78, 0, .null),
  (77, .iload_n 3, 78, 0, 3, 0, .null),
  (78, .istore_n 2, 79, 0, 2, 0, .null),
  (79, .aload_n 0, 80, 0, 0, 0, .null),
  (80, .getfield 13, 83, 923, 5, 2, .null),
  (83, .iconst 0, 84, 0, 0, 0, .int 0),
  (84, .aload_n 0, 85, 0, 0, 0, .null),
  (85, .getfield 7, 88, 922, 5, 1, .null),
  (88, .iconst 0, 89, 0, 0, 0, .int 0),
  (89, .invokestatic 42, 92, 0, 0, 0, .null),
  (92, .iinc 3 1, 95, 0, 3, 0, .int 1),
  (95, .goto (-78), 98, 0, 17, 0, .null),
  (98, .iload_n 2, 99, 0, 2, 0, .null),
  (99, .ireturn, 100, 0, 0, 0, .null)]
def mm_X5_wouldBear : ev_M := (RX5, "wouldBear", cX5_wouldBear, 5, (some .int), tb_X5_wouldBear, 9, 199, 0, 0)
set_option maxRecDepth 100000 in
theorem ok_X5_wouldBear : ev_OK mm_X5_wouldBear := by unfold ev_OK; decide +kernel
theorem cv_X5_wouldBear : ev_CV yX5_wouldBear mm_X5_wouldBear 5 1 := ⟨ev_has_in (k := 1314) (by decide +kernel), ev_has_in (k := 89) (by decide +kernel), ev_has_in (k := 1313) (by decide +kernel), ev_has_in (k := 82) (by decide +kernel), ⟨by decide +kernel, by decide +kernel, by decide +kernel⟩, rfl, by decide⟩
def tb_X5_bears : ev_T := [(0, .aload_n 0, 1, 0, 0, 0, .null),
  (1, .aload_n 0, 2, 0, 0, 0, .null),
  (2, .iload_n 1, 3, 0, 1, 0, .null),
  (3, .invokevirtual 114, 6, 0, 0, 0, .null),
  (6, .ifCond .eq 7, 9, 0, 13, 0, .null),
  (9, .iconst 0, 10, 0, 0, 0, .int 0),
  (10, .goto 4, 13, 0, 14, 0, .null),
  (13, .iconst 1, 14, 0, 0, 0, .int 1),
  (14, .putfield 35, 17, 921, 5, 0, .null),
  (17, .aload_n 0, 18, 0, 0, 0, .null),
  (18, .getfield 35, 21, 921, 5, 0, .null),
  (21, .ifCond .le 7, 24, 0, 28, 0, .null),
  (24, .iconst 0, 25, 0, 0, 0, .int 0),
  (25, .goto 8, 28, 0, 33, 0, .null),
  (28, .aload_n 0, 29, 0, 0, 0, .null),
  (29, .iload_n 1, 30, 0, 1, 0, .null),
  (30, .invokevirtual 251, 33, 0, 0, 0, .null),
  (33, .ireturn, 34, 0, 0, 0, .null)]
def mm_X5_bears : ev_M := (RX5, "bears", cX5_bears, 2, (some .int), tb_X5_bears, 10, 223, 0, 0)
set_option maxRecDepth 100000 in
theorem ok_X5_bears : ev_OK mm_X5_bears := by unfold ev_OK; decide +kernel
theorem cv_X5_bears : ev_CV yX5_bears mm_X5_bears 5 1 := ⟨ev_has_in (k := 1310) (by decide +kernel), ev_has_in (k := 89) (by decide +kernel), ev_has_in (k := 1308) (by decide +kernel), ev_has_in (k := 1309) (by decide +kernel), ⟨by decide +kernel, by decide +kernel, by decide +kernel⟩, rfl, by decide⟩
def tb_X5_reachedShare : ev_T := [(0, .aload_n 0, 1, 0, 0, 0, .null),
  (1, .iconst 0, 2, 0, 0, 0, .int 0),
  (2, .putfield 35, 5, 921, 5, 0, .null),
  (5, .aload_n 0, 6, 0, 0, 0, .null),
  (6, .invokevirtual 221, 9, 0, 0, 0, .null),
  (9, .istore_n 1, 10, 0, 1, 0, .null),
  (10, .iload_n 1, 11, 0, 1, 0, .null),
  (11, .ifCond .ne 7, 14, 0, 18, 0, .null),
  (14, .dconst 0, 15, 0, 0, 0, .double FP.dconst0),
  (15, .goto 11, 18, 0, 26, 0, .null),
  (18, .aload_n 0, 19, 0, 0, 0, .null),
  (19, .invokevirtual 212, 22, 0, 0, 0, .null),
  (22, .i2d, 23, 0, 0, 0, .null),
  (23, .iload_n 1, 24, 0, 1, 0, .null),
  (24, .i2d, 25, 0, 0, 0, .null),
  (25, .ddiv, 26, 0, 0, 0, .null),
  (26, .dreturn, 27, 0, 0, 0, .null)]
def mm_X5_reachedShare : ev_M := (RX5, "reachedShare", cX5_reachedShare, 2, (some .double), tb_X5_reachedShare, 4, 90, 0, 0)
set_option maxRecDepth 100000 in
theorem ok_X5_reachedShare : ev_OK mm_X5_reachedShare := by unfold ev_OK; decide +kernel
theorem cv_X5_reachedShare : ev_CV yX5_reachedShare mm_X5_reachedShare 5 0 := ⟨ev_has_in (k := 1318) (by decide +kernel), ev_has_in (k := 89) (by decide +kernel), ev_has_in (k := 1316) (by decide +kernel), ev_has_in (k := 1317) (by decide +kernel), ⟨by decide +kernel, by decide +kernel, by decide +kernel⟩, rfl, by decide⟩
def tb_X5_doubleBits : ev_T := [(0, .iload_n 0, 1, 0, 0, 0, .null),
  (1, .ifCond .ne 5, 4, 0, 6, 0, .null),
  (4, .lconst 0, 5, 0, 0, 0, .long 0),
  (5, .lreturn, 6, 0, 0, 0, .null),
  (6, .iload_n 0, 7, 0, 0, 0, .null),
  (7, .i2l, 8, 0, 0, 0, .null),
  (8, .lstore_n 2, 9, 0, 2, 0, .null),
  (9, .iconst 0, 10, 0, 0, 0, .int 0),
  (10, .istore 4, 12, 0, 4, 0, .null),
  (12, .lload_n 2, 13, 0, 2, 0, .null),
  (13, .iload_n 1, 14, 0, 1, 0, .null),
  (14, .i2l, 15, 0, 0, 0, .null),
  (15, .bipush 52, 17, 0, 0, 0, .int 52),
  (17, .lshl, 18, 0, 0, 0, .null),
  (18, .lcmp, 19, 0, 0, 0, .null),
  (19, .ifCond .ge 15, 22, 0, 34, 0, .null),
  (22, .ldc2_w 254, 25, 1328, 0, 0, .long 2),
  (25, .lload_n 2, 26, 0, 2, 0, .null),
  (26, .lmul, 27, 0, 0, 0, .null),
  (27, .lstore_n 2, 28, 0, 2, 0, .null),
  (28, .iinc 4 1, 31, 0, 4, 0, .int 1),
  (31, .goto (-19), 34, 0, 12, 0, .null),
  (34, .lload_n 2, 35, 0, 2, 0, .null),
  (35, .iload_n 1, 36, 0, 1, 0, .null),
  (36, .i2l, 37, 0, 0, 0, .null),
  (37, .ldiv, 38, 0, 0, 0, .null),
  (38, .lstore 5, 40, 0, 5, 0, .null),
  (40, .ldc2_w 254, 43, 1328, 0, 0, .long 2),
  (43, .lload_n 2, 44, 0, 2, 0, .null),
  (44, .iload_n 1, 45, 0, 1, 0, .null),
  (45, .i2l, 46, 0, 0, 0, .null),
  (46, .lrem, 47, 0, 0, 0, .null),
  (47, .lmul, 48, 0, 0, 0, .null),
  (48, .lstore 7, 50, 0, 7, 0, .null),
  (50, .lload 5, 52, 0, 5, 0, .null),
  (52, .lload 7, 54, 0, 7, 0, .null),
  (54, .iload_n 1, 55, 0, 1, 0, .null),
  (55, .i2l, 56, 0, 0, 0, .null),
  (56, .lcmp, 57, 0, 0, 0, .null),
  (57, .ifCond .gt 22, 60, 0, 79, 0, .null),
  (60, .lload 7, 62, 0, 7, 0, .null),
  (62, .iload_n 1, 63, 0, 1, 0, .null),
  (63, .i2l, 64, 0, 0, 0, .null),
  (64, .lcmp, 65, 0, 0, 0, .null),
  (65, .ifCond .ne 18, 68, 0, 83, 0, .null),
  (68, .lload 5, 70, 0, 5, 0, .null),
  (70, .ldc2_w 254, 73, 1328, 0, 0, .long 2),
  (73, .lrem, 74, 0, 0, 0, .null),
  (74, .lconst 1, 75, 0, 0, 0, .long 1),
  (75, .lcmp, 76, 0, 0, 0, .null),
  (76, .ifCond .ne 7, 79, 0, 83, 0, .null),
  (79, .lconst 1, 80, 0, 0, 0, .long 1),
  (80, .goto 4, 83, 0, 84, 0, .null),
  (83, .lconst 0, 84, 0, 0, 0, .long 0),
  (84, .ladd, 85, 0, 0, 0, .null),
  (85, .lstore 5, 87, 0, 5, 0, .null),
  (87, .sipush 1075, 90, 0, 0, 0, .int 1075),
  (90, .iload 4, 92, 0, 4, 0, .null),
  (92, .isub, 93, 0, 0, 0, .null),
  (93, .i2l, 94, 0, 0, 0, .null),
  (94, .bipush 52, 96, 0, 0, 0, .int 52),
  (96, .lshl, 97, 0, 0, 0, .null),
  (97, .lload 5, 99, 0, 5, 0, .null),
  (99, .ldc2_w 256, 102, 1329, 0, 0, .long 4503599627370496),
  (102, .lsub, 103, 0, 0, 0, .null),
  (103, .ladd, 104, 0, 0, 0, .null),
  (104, .lreturn, 105, 0, 0, 0, .null)]
def mm_X5_doubleBits : ev_M := (RX5, "doubleBits", cX5_doubleBits, 9, (some .long), tb_X5_doubleBits, 0, 0, 0, 0)
set_option maxRecDepth 100000 in
theorem ok_X5_doubleBits : ev_OK mm_X5_doubleBits := by unfold ev_OK; decide +kernel
theorem cs_X5_doubleBits : ev_CS yX5_doubleBits mm_X5_doubleBits 2 := ⟨ev_has_in (k := 1327) (by decide +kernel), ev_has_in (k := 89) (by decide +kernel), ev_has_in (k := 1326) (by decide +kernel), ⟨by decide +kernel, by decide +kernel, by decide +kernel⟩⟩
def tb_X5_digest : ev_T := [(0, .aload_n 0, 1, 0, 0, 0, .null),
  (1, .iconst 0, 2, 0, 0, 0, .int 0),
  (2, .putfield 35, 5, 921, 5, 0, .null),
  (5, .ldc2_w 258, 8, 1323, 0, 0, .long 2389),
  (8, .lstore_n 1, 9, 0, 1, 0, .null),
  (9, .iconst 0, 10, 0, 0, 0, .int 0),
  (10, .istore_n 3, 11, 0, 3, 0, .null),
  (11, .iload_n 3, 12, 0, 3, 0, .null),
  (12, .bipush 13, 14, 0, 0, 0, .int 13),
  (14, .if_icmp .gt 22, 17, 0, 36, 0, .null),
  (17, .ldc2_w 260, 20, 1324, 0, 0, .long 31),
  (20, .lload_n 1, 21, 0, 1, 0, .null),
  (21, .lmul, 22, 0, 0, 0, .null),
  (22, .aload_n 0, 23, 0, 0, 0, .null),
  (23, .iload_n 3, 24, 0, 3, 0, .null),
  (24, .invokevirtual 230, 27, 0, 0, 0, .null),
  (27, .i2l, 28, 0, 0, 0, .null),
  (28, .ladd, 29, 0, 0, 0, .null),
  (29, .lstore_n 1, 30, 0, 1, 0, .null),
  (30, .iinc 3 1, 33, 0, 3, 0, .int 1),
  (33, .goto (-22), 36, 0, 11, 0, .null),
  (36, .iconst 0, 37, 0, 0, 0, .int 0),
  (37, .istore_n 3, 38, 0, 3, 0, .null),
  (38, .iload_n 3, 39, 0, 3, 0, .null),
  (39, .iconst 5, 40, 0, 0, 0, .int 5),
  (40, .if_icmp .ge 26, 43, 0, 66, 0, .null),
  (43, .ldc2_w 260, 46, 1324, 0, 0, .long 31),
  (46, .lload_n 1, 47, 0, 1, 0, .null),
  (47, .lmul, 48, 0, 0, 0, .null),
  (48, .aload_n 0, 49, 0, 0, 0, .null),
  (49, .getfield 7, 52, 922, 5, 1, .null),
  (52, .bipush 8, 54, 0, 0, 0, .int 8),
  (54, .iload_n 3, 55, 0, 3, 0, .null),
  (55, .iadd, 56, 0, 0, 0, .null),
  (56, .iaload, 57, 0, 0, 0, .null),
  (57, .i2l, 58, 0, 0, 0, .null),
  (58, .ladd, 59, 0, 0, 0, .null),
  (59, .lstore_n 1, 60, 0, 1, 0, .null),
  (60, .iinc 3 1, 63, 0, 3, 0, .int 1),
  (63, .goto (-25), 66, 0, 38, 0, .null),
  (66, .iconst 0, 67, 0, 0, 0, .int 0),
  (67, .istore_n 3, 68, 0, 3, 0, .null),
  (68, .iload_n 3, 69, 0, 3, 0, .null),
  (69, .iconst 4, 70, 0, 0, 0, .int 4),
  (70, .if_icmp .ge 26, 73, 0, 96, 0, .null),
  (73, .ldc2_w 260, 76, 1324, 0, 0, .long 31),
  (76, .lload_n 1, 77, 0, 1, 0, .null),
  (77, .lmul, 78, 0, 0, 0, .null),
  (78, .aload_n 0, 79, 0, 0, 0, .null),
  (79, .getfield 7, 82, 922, 5, 1, .null),
  (82, .bipush 13, 84, 0, 0, 0, .int 13),
  (84, .iload_n 3, 85, 0, 3, 0, .null),
  (85, .iadd, 86, 0, 0, 0, .null),
  (86, .iaload, 87, 0, 0, 0, .null),
  (87, .i2l, 88, 0, 0, 0, .null),
  (88, .ladd, 89, 0, 0, 0, .null),
  (89, .lstore_n 1, 90, 0, 1, 0, .null),
  (90, .iinc 3 1, 93, 0, 3, 0, .int 1),
  (93, .goto (-25), 96, 0, 68, 0, .null),
  (96, .iconst 0, 97, 0, 0, 0, .int 0),
  (97, .istore_n 3, 98, 0, 3, 0, .null),
  (98, .iload_n 3, 99, 0, 3, 0, .null),
  (99, .aload_n 0, 100, 0, 0, 0, .null),
  (100, .getfield 7, 103, 922, 5, 1, .null),
  (103, .iconst 1, 104, 0, 0, 0, .int 1),
  (104, .iaload, 105, 0, 0, 0, .null),
  (105, .if_icmp .ge 96, 108, 0, 201, 0, .null),
  (108, .iconst 0, 109, 0, 0, 0, .int 0),
  (109, .istore 4, 111, 0, 4, 0, .null),
  (111, .iload 4, 113, 0, 4, 0, .null),
  (113, .bipush 12, 115, 0, 0, 0, .int 12),
  (115, .if_icmp .gt 24, 118, 0, 139, 0, .null),
  (118, .ldc2_w 260, 121, 1324, 0, 0, .long 31),
  (121, .lload_n 1, 122, 0, 1, 0, .null),
  (122, .lmul, 123, 0, 0, 0, .null),
  (123, .aload_n 0, 124, 0, 0, 0, .null),
  (124, .iload_n 3, 125, 0, 3, 0, .null),
  (125, .iload 4, 127, 0, 4, 0, .null),
  (127, .invokevirtual 215, 130, 0, 0, 0, .null),
  (130, .i2l, 131, 0, 0, 0, .null),
  (131, .ladd, 132, 0, 0, 0, .null),
  (132, .lstore_n 1, 133, 0, 1, 0, .null),
  (133, .iinc 4 1, 136, 0, 4, 0, .int 1),
  (136, .goto (-25), 139, 0, 111, 0, .null),
  (139, .iconst 0, 140, 0, 0, 0, .int 0),
  (140, .istore 4, 142, 0, 4, 0, .null),
  (142, .iload 4, 144, 0, 4, 0, .null),
  (144, .iconst 4, 145, 0, 0, 0, .int 4),
  (145, .if_icmp .ge 24, 148, 0, 169, 0, .null),
  (148, .ldc2_w 260, 151, 1324, 0, 0, .long 31),
  (151, .lload_n 1, 152, 0, 1, 0, .null),
  (152, .lmul, 153, 0, 0, 0, .null),
  (153, .aload_n 0, 154, 0, 0, 0, .null),
  (154, .iload_n 3, 155, 0, 3, 0, .null),
  (155, .iload 4, 157, 0, 4, 0, .null),
  (157, .invokevirtual 58, 160, 0, 0, 0, .null),
  (160, .i2l, 161, 0, 0, 0, .null),
  (161, .ladd, 162, 0, 0, 0, .null),
  (162, .lstore_n 1, 163, 0, 1, 0, .null),
  (163, .iinc 4 1, 166, 0, 4, 0, .int 1),
  (166, .goto (-24), 169, 0, 142, 0, .null),
  (169, .ldc2_w 260, 172, 1324, 0, 0, .long 31),
  (172, .lload_n 1, 173, 0, 1, 0, .null),
  (173, .lmul, 174, 0, 0, 0, .null),
  (174, .aload_n 0, 175, 0, 0, 0, .null),
  (175, .iload_n 3, 176, 0, 3, 0, .null),
  (176, .invokevirtual 245, 179, 0, 0, 0, .null),
  (179, .i2l, 180, 0, 0, 0, .null),
  (180, .ladd, 181, 0, 0, 0, .null),
  (181, .lstore_n 1, 182, 0, 1, 0, .null),
  (182, .ldc2_w 260, 185, 1324, 0, 0, .long 31),
  (185, .lload_n 1, 186, 0, 1, 0, .null),
  (186, .lmul, 187, 0, 0, 0, .null),
  (187, .aload_n 0, 188, 0, 0, 0, .null),
  (188, .iload_n 3, 189, 0, 3, 0, .null),
  (189, .invokevirtual 236, 192, 0, 0, 0, .null),
  (192, .i2l, 193, 0, 0, 0, .null),
  (193, .ladd, 194, 0, 0, 0, .null),
  (194, .lstore_n 1, 195, 0, 1, 0, .null),
  (195, .iinc 3 1, 198, 0, 3, 0, .int 1),
  (198, .goto (-100), 201, 0, 98, 0, .null),
  (201, .iconst 0, 202, 0, 0, 0, .int 0),
  (202, .istore_n 3, 203, 0, 3, 0, .null),
  (203, .iload_n 3, 204, 0, 3, 0, .null),
  (204, .aload_n 0, 205, 0, 0, 0, .null),
  (205, .getfield 7, 208, 922, 5, 1, .null),
  (208, .iconst 3, 209, 0, 0, 0, .int 3),
  (209, .iaload, 210, 0, 0, 0, .null),
  (210, .if_icmp .ge 47, 213, 0, 257, 0, .null),
  (213, .aload_n 0, 214, 0, 0, 0, .null),
  (214, .iload_n 3, 215, 0, 3, 0, .null),
  (215, .invokevirtual 218, 218, 0, 0, 0, .null),
  (218, .istore 4, 220, 0, 4, 0, .null),
  (220, .iconst 0, 221, 0, 0, 0, .int 0),
  (221, .istore 5, 223, 0, 5, 0, .null),
  (223, .iload 5, 225, 0, 5, 0, .null),
  (225, .iconst 4, 226, 0, 0, 0, .int 4),
  (226, .if_icmp .gt 25, 229, 0, 251, 0, .null),
  (229, .ldc2_w 260, 232, 1324, 0, 0, .long 31),
  (232, .lload_n 1, 233, 0, 1, 0, .null),
  (233, .lmul, 234, 0, 0, 0, .null),
  (234, .aload_n 0, 235, 0, 0, 0, .null),
  (235, .iload 4, 237, 0, 4, 0, .null),
  (237, .iload 5, 239, 0, 5, 0, .null),
  (239, .invokevirtual 61, 242, 0, 0, 0, .null),
  (242, .i2l, 243, 0, 0, 0, .null),
  (243, .ladd, 244, 0, 0, 0, .null),
  (244, .lstore_n 1, 245, 0, 1, 0, .null),
  (245, .iinc 5 1, 248, 0, 5, 0, .int 1),
  (248, .goto (-25), 251, 0, 223, 0, .null),
  (251, .iinc 3 1, 254, 0, 3, 0, .int 1),
  (254, .goto (-51), 257, 0, 203, 0, .null),
  (257, .iconst 0, 258, 0, 0, 0, .int 0),
  (258, .istore_n 3, 259, 0, 3, 0, .null),
  (259, .iload_n 3, 260, 0, 3, 0, .null),
  (260, .aload_n 0, 261, 0, 0, 0, .null),
  (261, .getfield 7, 264, 922, 5, 1, .null),
  (264, .iconst 4, 265, 0, 0, 0, .int 4),
  (265, .iaload, 266, 0, 0, 0, .null),
  (266, .if_icmp .ge 27, 269, 0, 293, 0, .null),
  (269, .ldc2_w 260, 272, 1324, 0, 0, .long 31),
  (272, .lload_n 1, 273, 0, 1, 0, .null),
  (273, .lmul, 274, 0, 0, 0, .null),
  (274, .aload_n 0, 275, 0, 0, 0, .null),
  (275, .getfield 7, 278, 922, 5, 1, .null),
  (278, .sipush 353, 281, 0, 0, 0, .int 353),
  (281, .iload_n 3, 282, 0, 3, 0, .null),
  (282, .iadd, 283, 0, 0, 0, .null),
  (283, .iaload, 284, 0, 0, 0, .null),
  (284, .i2l, 285, 0, 0, 0, .null),
  (285, .ladd, 286, 0, 0, 0, .null),
  (286, .lstore_n 1, 287, 0, 1, 0, .null),
  (287, .iinc 3 1, 290, 0, 3, 0, .int 1),
  (290, .goto (-31), 293, 0, 259, 0, .null),
  (293, .iconst 0, 294, 0, 0, 0, .int 0),
  (294, .istore_n 3, 295, 0, 3, 0, .null),
  (295, .iload_n 3, 296, 0, 3, 0, .null),
  (296, .iconst 3, 297, 0, 0, 0, .int 3),
  (297, .if_icmp .gt 24, 300, 0, 321, 0, .null),
  (300, .ldc2_w 260, 303, 1324, 0, 0, .long 31),
  (303, .lload_n 1, 304, 0, 1, 0, .null),
  (304, .lmul, 305, 0, 0, 0, .null),
  (305, .aload_n 0, 306, 0, 0, 0, .null),
  (306, .bipush 20, 308, 0, 0, 0, .int 20),
  (308, .iload_n 3, 309, 0, 3, 0, .null),
  (309, .invokevirtual 233, 312, 0, 0, 0, .null),
  (312, .i2l, 313, 0, 0, 0, .null),
  (313, .ladd, 314, 0, 0, 0, .null),
  (314, .lstore_n 1, 315, 0, 1, 0, .null),
  (315, .iinc 3 1, 318, 0, 3, 0, .int 1),
  (318, .goto (-23), 321, 0, 295, 0, .null),
  (321, .iconst 0, 322, 0, 0, 0, .int 0),
  (322, .istore_n 3, 323, 0, 3, 0, .null),
  (323, .iload_n 3, 324, 0, 3, 0, .null),
  (324, .iconst 2, 325, 0, 0, 0, .int 2),
  (325, .if_icmp .gt 22, 328, 0, 347, 0, .null),
  (328, .ldc2_w 260, 331, 1324, 0, 0, .long 31),
  (331, .lload_n 1, 332, 0, 1, 0, .null),
  (332, .lmul, 333, 0, 0, 0, .null),
  (333, .aload_n 0, 334, 0, 0, 0, .null),
  (334, .iload_n 3, 335, 0, 3, 0, .null),
  (335, .invokevirtual 239, 338, 0, 0, 0, .null),
  (338, .i2l, 339, 0, 0, 0, .null),
  (339, .ladd, 340, 0, 0, 0, .null),
  (340, .lstore_n 1, 341, 0, 1, 0, .null),
  (341, .iinc 3 1, 344, 0, 3, 0, .int 1),
  (344, .goto (-21), 347, 0, 323, 0, .null),
  (347, .ldc2_w 260, 350, 1324, 0, 0, .long 31),
  (350, .lload_n 1, 351, 0, 1, 0, .null),
  (351, .lmul, 352, 0, 0, 0, .null),
  (352, .aload_n 0, 353, 0, 0, 0, .null),
  (353, .iconst 0, 354, 0, 0, 0, .int 0),
  (354, .invokevirtual 248, 357, 0, 0, 0, .null),
  (357, .i2l, 358, 0, 0, 0, .null),
  (358, .ladd, 359, 0, 0, 0, .null),
  (359, .lstore_n 1, 360, 0, 1, 0, .null),
  (360, .ldc2_w 260, 363, 1324, 0, 0, .long 31),
  (363, .lload_n 1, 364, 0, 1, 0, .null),
  (364, .lmul, 365, 0, 0, 0, .null),
  (365, .aload_n 0, 366, 0, 0, 0, .null),
  (366, .iconst 1, 367, 0, 0, 0, .int 1),
  (367, .invokevirtual 248, 370, 0, 0, 0, .null),
  (370, .i2l, 371, 0, 0, 0, .null),
  (371, .ladd, 372, 0, 0, 0, .null),
  (372, .lstore_n 1, 373, 0, 1, 0, .null),
  (373, .aload_n 0, 374, 0, 0, 0, .null),
  (374, .getfield 7, 377, 922, 5, 1, .null),
  (377, .iconst 1, 378, 0, 0, 0, .int 1),
  (378, .iaload, 379, 0, 0, 0, .null),
  (379, .ifCond .le 16, 382, 0, 395, 0, .null),
  (382, .ldc2_w 260, 385, 1324, 0, 0, .long 31),
  (385, .lload_n 1, 386, 0, 1, 0, .null),
  (386, .lmul, 387, 0, 0, 0, .null),
  (387, .aload_n 0, 388, 0, 0, 0, .null),
  (388, .iconst 0, 389, 0, 0, 0, .int 0),
  (389, .invokevirtual 251, 392, 0, 0, 0, .null),
  (392, .i2l, 393, 0, 0, 0, .null),
  (393, .ladd, 394, 0, 0, 0, .null),
  (394, .lstore_n 1, 395, 0, 1, 0, .null),
  (395, .aload_n 0, 396, 0, 0, 0, .null),
  (396, .invokevirtual 221, 399, 0, 0, 0, .null),
  (399, .istore_n 3, 400, 0, 3, 0, .null),
  (400, .ldc2_w 260, 403, 1324, 0, 0, .long 31),
  (403, .lload_n 1, 404, 0, 1, 0, .null),
  (404, .lmul, 405, 0, 0, 0, .null),
  (405, .iload_n 3, 406, 0, 3, 0, .null),
  (406, .ifCond .ne 7, 409, 0, 413, 0, .null),
  (409, .lconst 0, 410, 0, 0, 0, .long 0),
  (410, .goto 11, 413, 0, 421, 0, .null),
  (413, .aload_n 0, 414, 0, 0, 0, .null),
  (414, .invokevirtual 212, 417, 0, 0, 0, .null),
  (417, .iload_n 3, 418, 0, 3, 0, .null),
  (418, .invokestatic 262, 421, 0, 0, 0, .null),
  (421, .ladd, 422, 0, 0, 0, .null),
  (422, .lstore_n 1, 423, 0, 1, 0, .null),
  (423, .ldc2_w 260, 426, 1324, 0, 0, .long 31),
  (426, .lload_n 1, 427, 0, 1, 0, .null),
  (427, .lmul, 428, 0, 0, 0, .null),
  (428, .aload_n 0, 429, 0, 0, 0, .null),
  (429, .getfield 174, 432, 927, 5, 6, .null),
  (432, .i2l, 433, 0, 0, 0, .null),
  (433, .ladd, 434, 0, 0, 0, .null),
  (434, .lstore_n 1, 435, 0, 1, 0, .null),
  (435, .iconst 0, 436, 0, 0, 0, .int 0),
  (436, .istore 4, 438, 0, 4, 0, .null),
  (438, .iload 4, 440, 0, 4, 0, .null),
  (440, .aload_n 0, 441, 0, 0, 0, .null),
  (441, .getfield 174, 444, 927, 5, 6, .null),
  (444, .if_icmp .ge 24, 447, 0, 468, 0, .null),
  (447, .ldc2_w 260, 450, 1324, 0, 0, .long 31),
  (450, .lload_n 1, 451, 0, 1, 0, .null),
  (451, .lmul, 452, 0, 0, 0, .null),
  (452, .aload_n 0, 453, 0, 0, 0, .null),
  (453, .getfield 20, 456, 926, 5, 5, .null),
  (456, .iload 4, 458, 0, 4, 0, .null),
  (458, .iaload, 459, 0, 0, 0, .null),
  (459, .i2l, 460, 0, 0, 0, .null),
  (460, .ladd, 461, 0, 0, 0, .null),
  (461, .lstore_n 1, 462, 0, 1, 0, .null),
  (462, .iinc 4 1, 465, 0, 4, 0, .int 1),
  (465, .goto (-27), 468, 0, 438, 0, .null),
  (468, .lload_n 1, 469, 0, 1, 0, .null),
  (469, .lreturn, 470, 0, 0, 0, .null)]
def mm_X5_digest : ev_M := (RX5, "digest", cX5_digest, 6, (some .long), tb_X5_digest, 10, 225, 0, 0)
set_option maxRecDepth 100000 in
theorem ok_X5_digest : ev_OK mm_X5_digest := by unfold ev_OK; decide +kernel
theorem cv_X5_digest : ev_CV yX5_digest mm_X5_digest 5 0 := ⟨ev_has_in (k := 1322) (by decide +kernel), ev_has_in (k := 89) (by decide +kernel), ev_has_in (k := 1320) (by decide +kernel), ev_has_in (k := 1321) (by decide +kernel), ⟨by decide +kernel, by decide +kernel, by decide +kernel⟩, rfl, by decide⟩
theorem ml_X5_42 : ev_ml RX5 42 yX5_copy := Or.inl (ev_has_in (k := 986) (by decide +kernel))
theorem ml_X5_46 : ev_ml RX5 46 yX5_within := Or.inl (ev_has_in (k := 979) (by decide +kernel))
theorem ml_X5_50 : ev_ml RX5 50 yX5_part := Or.inl (ev_has_in (k := 1021) (by decide +kernel))
theorem ml_X5_54 : ev_ml RX5 54 yX5_lives := Or.inl (ev_has_in (k := 1017) (by decide +kernel))
theorem ml_X5_58 : ev_ml RX5 58 yX5_slotOf := Or.inl (ev_has_in (k := 1061) (by decide +kernel))
theorem ml_X5_61 : ev_ml RX5 61 yX5_reportPart := Or.inl (ev_has_in (k := 1041) (by decide +kernel))
theorem ml_X5_64 : ev_ml RX5 64 yX5_clear := Or.inl (ev_has_in (k := 1132) (by decide +kernel))
theorem ml_X5_68 : ev_ml RX5 68 yX5_spread := Or.inl (ev_has_in (k := 1135) (by decide +kernel))
theorem ml_X5_71 : ev_ml RX5 71 yX5_setPart := Or.inl (ev_has_in (k := 993) (by decide +kernel))
theorem ml_X5_75 : ev_ml RX5 75 yX5_endsToo := Or.inl (ev_has_in (k := 1069) (by decide +kernel))
theorem ml_X5_79 : ev_ml RX5 79 yX5_addReport := Or.inl (ev_has_in (k := 1029) (by decide +kernel))
theorem ml_X5_83 : ev_ml RX5 83 yX5_dropReport := Or.inl (ev_has_in (k := 1049) (by decide +kernel))
theorem ml_X5_87 : ev_ml RX5 87 yX5_underWay := Or.inl (ev_has_in (k := 1053) (by decide +kernel))
theorem ml_X5_91 : ev_ml RX5 91 yX5_truth := Or.inl (ev_has_in (k := 1057) (by decide +kernel))
theorem ml_X5_94 : ev_ml RX5 94 yX5_ends := Or.inl (ev_has_in (k := 1065) (by decide +kernel))
theorem ml_X5_98 : ev_ml RX5 98 yX5_firstDue := Or.inl (ev_has_in (k := 1037) (by decide +kernel))
theorem ml_X5_102 : ev_ml RX5 102 yX5_hears := Or.inl (ev_has_in (k := 1045) (by decide +kernel))
theorem ml_X5_105 : ev_ml RX5 105 yX5_whyNotAdded := Or.inl (ev_has_in (k := 975) (by decide +kernel))
theorem ml_X5_108 : ev_ml RX5 108 yX5_save := Or.inl (ev_has_in (k := 982) (by decide +kernel))
theorem ml_X5_111 : ev_ml RX5 111 yX5_added := Or.inl (ev_has_in (k := 989) (by decide +kernel))
theorem ml_X5_114 : ev_ml RX5 114 yX5_isThing := Or.inl (ev_has_in (k := 1009) (by decide +kernel))
theorem ml_X5_117 : ev_ml RX5 117 yX5_hearDue := Or.inl (ev_has_in (k := 1033) (by decide +kernel))
theorem ml_X5_120 : ev_ml RX5 120 yX5_isHeld := Or.inl (ev_has_in (k := 1005) (by decide +kernel))
theorem ml_X5_123 : ev_ml RX5 123 yX5_hasEnded := Or.inl (ev_has_in (k := 1013) (by decide +kernel))
theorem ml_X5_126 : ev_ml RX5 126 yX5_whyNotTaken := Or.inl (ev_has_in (k := 1001) (by decide +kernel))
theorem ml_X5_129 : ev_ml RX5 129 yX5_changed := Or.inl (ev_has_in (k := 1025) (by decide +kernel))
theorem ml_X5_132 : ev_ml RX5 132 yX5_whyNotPut := Or.inl (ev_has_in (k := 1077) (by decide +kernel))
theorem ml_X5_135 : ev_ml RX5 135 yX5_slandered := Or.inl (ev_has_in (k := 1085) (by decide +kernel))
theorem ml_X5_138 : ev_ml RX5 138 yX5_suspects := Or.inl (ev_has_in (k := 1093) (by decide +kernel))
theorem ml_X5_141 : ev_ml RX5 141 yX5_isSetting := Or.inl (ev_has_in (k := 1101) (by decide +kernel))
theorem ml_X5_144 : ev_ml RX5 144 yX5_restOf := Or.inl (ev_has_in (k := 1143) (by decide +kernel))
theorem ml_X5_147 : ev_ml RX5 147 yX5_findSet := Or.inl (ev_has_in (k := 1128) (by decide +kernel))
theorem ml_X5_150 : ev_ml RX5 150 yX5_findInnocent := Or.inl (ev_has_in (k := 1139) (by decide +kernel))
theorem ml_X5_153 : ev_ml RX5 153 yX5_nextToEnd := Or.inl (ev_has_in (k := 1147) (by decide +kernel))
theorem ml_X5_156 : ev_ml RX5 156 yX5_tries := Or.inl (ev_has_in (k := 1124) (by decide +kernel))
theorem ml_X5_159 : ev_ml RX5 159 yX5_holdTrial := Or.inl (ev_has_in (k := 1120) (by decide +kernel))
theorem ml_X5_162 : ev_ml RX5 162 yX5_tick := Or.inl (ev_has_in (k := 1116) (by decide +kernel))
theorem ml_X5_165 : ev_ml RX5 165 yX5_whyNotPassed := Or.inl (ev_has_in (k := 1108) (by decide +kernel))
theorem ml_X5_168 : ev_ml RX5 168 yX5_passed := Or.inl (ev_has_in (k := 1112) (by decide +kernel))
theorem ml_X5_171 : ev_ml RX5 171 yX5_sumUnderWay := Or.inl (ev_has_in (k := 1159) (by decide +kernel))
theorem ml_X5_177 : ev_ml RX5 177 yX5_stepAt := Or.inl (ev_has_in (k := 1178) (by decide +kernel))
theorem ml_X5_180 : ev_ml RX5 180 yX5_afterDigit := Or.inl (ev_has_in (k := 1181) (by decide +kernel))
theorem ml_X5_184 : ev_ml RX5 184 yX5_next := Or.inl (ev_has_in (k := 1175) (by decide +kernel))
theorem ml_X5_187 : ev_ml RX5 187 yX5_isStepOver := Or.inl (ev_has_in (k := 1192) (by decide +kernel))
theorem ml_X5_202 : ev_ml RX5 202 yX5_isProgram := Or.inl (ev_has_in (k := 1188) (by decide +kernel))
theorem ml_X5_206 : ev_ml RX5 206 yX5_does := Or.inl (ev_has_in (k := 1195) (by decide +kernel))
theorem ml_X5_209 : ev_ml RX5 209 yX5_note := Or.inl (ev_has_in (k := 1199) (by decide +kernel))
theorem ml_X5_212 : ev_ml RX5 212 yX5_findReached := Or.inl (ev_has_in (k := 1215) (by decide +kernel))
theorem ml_X5_215 : ev_ml RX5 215 yX5_thingPart := Or.inl (ev_has_in (k := 1211) (by decide +kernel))
theorem ml_X5_218 : ev_ml RX5 218 yX5_atPlace := Or.inl (ev_has_in (k := 1231) (by decide +kernel))
theorem ml_X5_221 : ev_ml RX5 221 yX5_living := Or.inl (ev_has_in (k := 1247) (by decide +kernel))
theorem ml_X5_224 : ev_ml RX5 224 yX5_holding := Or.inl (ev_has_in (k := 1251) (by decide +kernel))
theorem ml_X5_227 : ev_ml RX5 227 yX5_mistaken := Or.inl (ev_has_in (k := 1255) (by decide +kernel))
theorem ml_X5_230 : ev_ml RX5 230 yX5_countOf := Or.inl (ev_has_in (k := 1243) (by decide +kernel))
theorem ml_X5_233 : ev_ml RX5 233 yX5_wouldPass := Or.inl (ev_has_in (k := 1267) (by decide +kernel))
theorem ml_X5_236 : ev_ml RX5 236 yX5_wouldEnd := Or.inl (ev_has_in (k := 1275) (by decide +kernel))
theorem ml_X5_239 : ev_ml RX5 239 yX5_wouldTry := Or.inl (ev_has_in (k := 1283) (by decide +kernel))
theorem ml_X5_242 : ev_ml RX5 242 yX5_findFrom := Or.inl (ev_has_in (k := 1295) (by decide +kernel))
theorem ml_X5_245 : ev_ml RX5 245 yX5_ringOf := Or.inl (ev_has_in (k := 1291) (by decide +kernel))
theorem ml_X5_248 : ev_ml RX5 248 yX5_cut := Or.inl (ev_has_in (k := 1303) (by decide +kernel))
theorem ml_X5_251 : ev_ml RX5 251 yX5_wouldBear := Or.inl (ev_has_in (k := 1311) (by decide +kernel))
theorem ml_X5_262 : ev_ml RX5 262 yX5_doubleBits := Or.inl (ev_has_in (k := 1325) (by decide +kernel))
end
section
/-! numbers and folds -/
theorem ev_to {μ : ev_M} {N0 : Option Nat} {X : ev_X} {pc : Nat} {L L' : ev_L} {st st' : List Value} {w w' : List ev_E} {kc ks : Nat} (k : ev_V μ N0 X pc L' st' w' kc ks) (hL : L = L') (hs : st = st') (hw : w = w') : ev_V μ N0 X pc L st w kc ks := by
  subst hL; subst hs; subst hw; exact k
def ev_b (b : Bool) : Int32 := match b with
  | true => 1
  | false => 0
theorem ev_bn (b : Bool) : narrow .boolean (.int (ev_b b)) = .int (ev_b b) := by cases b <;> rfl
theorem ev_b0 {b : Bool} (h : ev_b b = 0) : b = false := by
  cases b with
  | false => rfl
  | true => exact absurd h (by decide)
theorem ev_b1 {b : Bool} (h : ¬ ev_b b = 0) : b = true := by
  cases b with
  | true => rfl
  | false => exact absurd rfl h
theorem ni_nat {k : Nat} (h : k < 2147483648) : (nI k).toNatClampNeg = k := by
  unfold nI
  have h1 : (Int32.ofNat k).toInt = (k : Int) := Int32.toInt_ofNat_of_lt h
  unfold Int32.toNatClampNeg
  rw [h1]
  rfl
theorem ni_int {k : Nat} (h : k < 2147483648) : (nI k).toInt = (k : Int) := Int32.toInt_ofNat_of_lt h
theorem ni_lt {a b : Nat} (ha : a < 2147483648) (hb : b < 2147483648) : nI a < nI b ↔ a < b := by
  rw [Int32.lt_iff_toInt_lt, ni_int ha, ni_int hb]
  omega
theorem ni_le {a b : Nat} (ha : a < 2147483648) (hb : b < 2147483648) : nI a ≤ nI b ↔ a ≤ b := by
  rw [Int32.le_iff_toInt_le, ni_int ha, ni_int hb]
  omega
theorem ni_eq {a b : Nat} (ha : a < 2147483648) (hb : b < 2147483648) : nI a = nI b ↔ a = b := by
  constructor
  · intro h
    have := congrArg Int32.toInt h
    rw [ni_int ha, ni_int hb] at this
    omega
  · intro h; rw [h]
theorem ni_nle {k N : Nat} (h : k < N) (hN : N < 2147483648) : ¬ nI N ≤ nI k := by
  rw [ni_le hN (by omega)]; omega
theorem ni_nlt {k N : Nat} (h : N ≤ k) (hk : k < 2147483648) : ¬ nI k < nI N := by
  rw [ni_lt hk (by omega)]; omega
theorem ni_1 (k : Nat) : nI k + 1 = nI (k + 1) := by
  unfold nI
  rw [Int32.ofNat_add]
  rfl
theorem ni_in {k n : Nat} (h : k < n) (hk : k < 2147483648) : vp_in (nI k) n := by
  unfold vp_in
  rw [ni_nat hk]
  intro q
  rcases q with q | q
  · exact ni_nlt (N := 0) (Nat.zero_le k) hk q
  · omega
theorem ni_of {x : Int32} (h : ¬ x < 0) : x = nI x.toNatClampNeg := by
  have h1 : ¬ x.toInt < 0 := fun q => h (Int32.lt_iff_toInt_lt.mpr (by simpa using q))
  apply Int32.toInt_inj.mp
  have h2 : x.toInt < 2147483648 := Int32.toInt_lt x
  have h3 : x.toNatClampNeg < 2147483648 := by unfold Int32.toNatClampNeg; omega
  rw [ni_int h3]
  unfold Int32.toNatClampNeg
  omega
theorem ni_lt31 (x : Int32) : x.toNatClampNeg < 2147483648 := by
  have h2 : x.toInt < 2147483648 := Int32.toInt_lt x
  unfold Int32.toNatClampNeg; omega
theorem vp_of {x : Int32} {n : Nat} (h1 : ¬ x < 0) (hn : n < 2147483648) (h2 : ¬ nI n ≤ x) : vp_in x n := by
  intro q
  rcases q with q | q
  · exact h1 q
  · apply h2
    rw [ni_of h1, ni_le hn (ni_lt31 x)]
    exact q
def fo_it {α : Type} : Nat → (Nat → α → α) → α → α
  | 0, _, s => s
  | n + 1, f, s => f n (fo_it n f s)
theorem fo_S {α : Type} (n : Nat) (f : Nat → α → α) (s : α) : fo_it (n + 1) f s = f n (fo_it n f s) := rfl
end
section
/-! System.arraycopy over rows of ints -/
theorem ev_sysw : (Jvm.Cond.native arraycopyName ∈ ev_WA ∧ Jvm.Cond.static arraycopyName ∈ ev_WA) ∧ Jvm.Cond.initialized "java/lang/System" ∈ ev_WA := by
  refine ⟨⟨List.mem_filter.mpr ⟨?_, ?_⟩, List.mem_filter.mpr ⟨?_, ?_⟩⟩, List.mem_filter.mpr ⟨?_, ?_⟩⟩ <;> decide +kernel
theorem ev_cpy {μ : ev_M} {N0 : Option Nat} {X : ev_X} {pc : Nat} {L : ev_L} {rest : List Value} {w : List ev_E} {kc ks idx nx k x yy n0 n1 a0 a : Nat} {v : Value} {sp dp n : Int32} {f g : Nat → Int32}
    (hl : Jvm.Cond.methodLink (ev_own μ) idx arraycopyName ∈ ev_WA) (hlk : ev_look (ev_tab μ) pc = some (.invokestatic idx, nx, k, x, yy, v)) (h0 : ev_wg w a0 = some (.inl (0, n0, .inl f))) (h1 : ev_wg w a = some (.inl (0, n1, .inl g)))
    (hc : ¬ sp < 0 ∧ ¬ dp < 0 ∧ ¬ n < 0 ∧ sp.toNatClampNeg + n.toNatClampNeg ≤ n0 ∧ dp.toNatClampNeg + n.toNatClampNeg ≤ n1) (hW : (rest.map fun v => v.category).sum ≤ 8) (hR : 1 ≤ ev_fr μ ∧ 8 + (nativeFrameWords "java/lang/System" "arraycopy" 5 + 11) ≤ ev_lo μ)
    (kk : ev_V μ N0 X (pc + 3) L rest (ev_ws w a (.inl (0, n1, .inl (va_cpy f g sp.toNatClampNeg dp.toNatClampNeg n.toNatClampNeg)))) kc ks) : ev_V μ N0 X pc L (.int n :: .int dp :: .ref a :: .int sp :: .ref a0 :: rest) w kc ks := by
  intro p l e R s m args below meth c D ct ad0 A Q hi hx ad H locs ls I
  have hi' := hi
  obtain ⟨hP, hD, hS, hE, hL⟩ := I
  obtain ⟨hok, ⟨hx1, hb, hml, hr, hown, hts, hlocks, hnm, hR1, hR2, -⟩, hK, hA⟩ := hi
  obtain ⟨hd, -, -⟩ := ev_use hok hlk
  rw [ev_wg_eq] at h0 h1
  have g0 := ev_lay_get (ad := ad) (ct := ct) h0
  have g1 := ev_lay_get (ad := ad) (ct := ct) h1
  refine va_copyi (t0 := 0) (t1 := 0) (ty := .int) hx1 hb (hml.trans hL.1.symm) hown (hts _ hl) (hts _ ev_sysw.1.1) (hts _ ev_sysw.1.2) (hts _ ev_sysw.2) hK hP hD hS a0 a g0 g1 rfl rfl rfl hc.1 hc.2.1 hc.2.2.1 hc.2.2.2.1 hc.2.2.2.2 (fun _ _ => rfl) (Nat.le_trans hR.1 hR1) ?_ hd ?_
  · rw [ev_sum_cat]
    have h2 := hR.2
    omega
  · intro H1 locs1 q1 q2 q3
    have ee : ev_ce ad ct (.inl (0, n1, .inl (va_cpy f g sp.toNatClampNeg dp.toNatClampNeg n.toNatClampNeg))) = .inl (ct 0, n1, .inl (va_cpy f g sp.toNatClampNeg dp.toNatClampNeg n.toNatClampNeg)) := rfl
    rw [← ee, ev_lay_set, ← ev_ws_eq] at q1 q2
    exact kk p l e R s m args below meth c D ct ad0 A Q hi' hx ad H1 locs1 ls ⟨q1, q2, q3, hE, hL⟩
/-- Met.ofW for a method of a class some of whose methods the machine overrides, itself not among them -/
theorem ev_ofWF {l : Launch} {y : MethodName} {ws ws' : List Jvm.Cond} {rm : Room} {Pc : Array Value → State → Prop} {Qc : Array Value → State → Outcome → State → Prop} {mc ms : Nat} {free : Addr → Prop} {cc : ByteArray} {maxL : Nat} {ret : Option FieldType}
    (hy : plainFor y = true) (hw : ws = Cond.code y cc maxL ret :: ws')
    (body : ∀ p e s m args below meth c s₁, BodyLoose p l y (headSpec ws rm) cc maxL ret e s m args below meth c s₁ → c.maxLocals = maxL → Pc args s →
      W p l e (headSpec ws rm).room s m args below meth c s.heap [] 0 0 (MQ below Qc args s mc ms free) (entryFrame m args maxL)) : Met l y ws rm Pc Qc mc ms free := by
  refine MetFree.of_bodySF (code := cc) (maxLocals := maxL) (ret := ret) hy ?_ ?_
  · intro args s m h hn
    obtain ⟨meth, c, h1, h2, h3, h4, h5, h6, -, -⟩ := Cond.code_spec hn (atoms_spec (ws := ws) h _ (by rw [hw]; exact List.mem_cons_self))
    exact ⟨meth, c, h1, h2, h3, h4, h5, h6⟩
  · intro p e s m args below meth c s₁ B hml hP _
    have hh0 : s₁.heap = s.heap := by rw [B.state]; rfl
    obtain ⟨t, a1, o, b1, b2, b3⟩ := body p e s m args below meth c s₁ B hml hP s₁ hh0 (Stand.of_body B)
    exact ⟨t, o, a1, b1, b2, ⟨b3.1, b3.2⟩⟩
set_option maxHeartbeats 1000000 in
theorem ev_startF {y : MethodName} {μ : ev_M} {N0 : Option Nat} {as : List Value} {w : List ev_E} {post : Option Value → List ev_E → Prop} (hok : ev_OK μ) (hy : plainFor y = true) (hc : y.cls = ev_own μ) (hn : y.name = ev_mn μ) (hsl : (lg_sl as).length ≤ ev_nL μ) (k : ev_V μ N0 (ev_XR μ post) 0 (ev_ent as (ev_nL μ)) [] w 0 0) : ev_A y μ N0 as w post := by
  intro l D ct ad sz
  refine ev_ofWF (cc := ev_cc μ) (maxL := ev_nL μ) (ret := ev_rt μ) hy rfl ?_
  intro p e s m args below meth c s₁ B hml hv
  obtain ⟨rfl, hsz, hP, hK, hD0⟩ := hv
  have hts := atoms_spec (ws := ev_wsm y μ) B.pre
  have hD := hD0.self (sz := s.heap.size)
  subst hsz
  have hsl2 : (lg_sl (as.map (ev_cv ad))).length ≤ ev_nL μ := by
    have : (lg_sl (as.map (ev_cv ad))).length = (lg_sl as).length := by
      clear k hsl hP hD hD0 B hts
      induction as with
      | nil => rfl
      | cons a l ih =>
        unfold lg_sl at ih ⊢
        rw [List.map_cons, List.flatMap_cons, List.flatMap_cons, List.length_append, List.length_append, ih, ev_cv_cat]
        by_cases h : a.category = 2 <;> simp [h]
    omega
  have hl := lv_entry (as.map (ev_cv ad)) (n := ev_nL μ) hsl2
  rw [lg_entry_eq]
  refine k p l e _ s m _ below meth c D ct ad _ _ ⟨hok, ⟨B.exec, B.bytes, hml, B.returns, hc ▸ findClass_of_methodNamed B.named, fun w hw => hts w (List.mem_cons_of_mem _ hw), B.notSynchronized, (name_of_methodNamed B.named B.method).1.trans hn, Nat.le_refl _, Nat.le_refl _, Nat.le_refl _, Nat.le_refl _⟩, hK, fun q hq => Or.inr hq⟩ ?_ ad s.heap [] _ ⟨hP, hD, va_S.rf, (by cases N0 with
    | none => rfl
    | some n => exact fun _ _ => rfl), ev_LH.of hl (fun i v h => by simpa using ev_ent_ok ad as (ev_nL μ) 0 i v h)⟩
  intro pc' L' st' w' kc' ks' hX ad' H locs ls I
  obtain ⟨i, r, hlk, hrk, hpost, hkc, hks⟩ := hX
  obtain ⟨ins, nx, kk, x, yy, v⟩ := i
  obtain ⟨hd, -, -⟩ := ev_use hok hlk
  obtain ⟨hP2, hD2, hS2, hE2, -⟩ := I
  refine W.widen hkc hks ?_
  have hr := B.returns
  have hlocks := B.notSynchronized
  unfold ev_rk at hrk
  dsimp only at hrk
  split at hrk
  · obtain ⟨rfl, hrt⟩ := hrk
    rcases hrt with hrt | ⟨hrt, hnar⟩
    · exact W.iret B.exec B.bytes (hr.trans hrt) (fun t ht hW => ⟨⟨_, w', ad', rfl, hpost, hE2, by rw [ht]; exact hP2, va_K.moved hW.alike hK, hD2⟩, hS2.F ht⟩) hS2.2.2 hd
    · exact W.zret B.exec B.bytes (hr.trans hrt) hnar (fun t ht hW => ⟨⟨_, w', ad', rfl, hpost, hE2, by rw [ht]; exact hP2, va_K.moved hW.alike hK, hD2⟩, hS2.F ht⟩) hS2.2.2 hd
  · obtain ⟨rfl, hrt⟩ := hrk
    exact W.lret B.exec B.bytes (hr.trans hrt) (fun t ht hW => ⟨⟨_, w', ad', rfl, hpost, hE2, by rw [ht]; exact hP2, va_K.moved hW.alike hK, hD2⟩, hS2.F ht⟩) hS2.2.2 hd
  · obtain ⟨rfl, hrt⟩ := hrk
    exact W.dret B.exec B.bytes (hr.trans hrt) (fun t ht hW => ⟨⟨_, w', ad', rfl, hpost, hE2, by rw [ht]; exact hP2, va_K.moved hW.alike hK, hD2⟩, hS2.F ht⟩) hS2.2.2 hd
  · obtain ⟨rfl, hrt⟩ := hrk
    exact W.vret B.exec B.bytes (hr.trans hrt) (fun t ht hW => ⟨⟨_, w', ad', rfl, hpost, hE2, by rw [ht]; exact hP2, va_K.moved hW.alike hK, hD2⟩, hS2.F ht⟩) hS2.2.2 hd
  · exact hrk.elim
end
section
/-! fewer locals known; rows of ints that agree as far as they go -/
def ev_sub : ev_L → ev_L → Prop
  | [], _ => True
  | none :: l, _ :: m => ev_sub l m
  | some v :: l, some u :: m => u = v ∧ ev_sub l m
  | _ :: _, _ => False
theorem ev_sub_nth {L' L : ev_L} (h : ev_sub L' L) : ∀ i v, ev_nth L' i = some v → ev_nth L i = some v := by
  induction L' generalizing L with
  | nil => intro i v hv; cases hv
  | cons x l ih =>
    intro i v hv
    cases L with
    | nil => cases x <;> exact h.elim
    | cons y m =>
      cases x with
      | none =>
        cases i with
        | zero => cases hv
        | succ i => exact ih h i v hv
      | some a =>
        cases y with
        | none => exact h.elim
        | some b =>
          cases i with
          | zero => cases hv; exact congrArg some h.1
          | succ i => exact ih h.2 i v hv
theorem ev_to2 {μ : ev_M} {N0 : Option Nat} {X : ev_X} {pc : Nat} {L L' : ev_L} {st st' : List Value} {w w' : List ev_E} {kc ks : Nat} (k : ev_V μ N0 X pc L' st' w' kc ks) (hL : ev_sub L' L) (hs : st = st') (hw : w = w') : ev_V μ N0 X pc L st w kc ks := by
  subst hs; subst hw
  intro p l e R s m args below meth c D ct ad0 A Q h0 hx ad H locs ls I
  exact k p l e R s m args below meth c D ct ad0 A Q h0 hx ad H locs ls ⟨I.1, I.2.1, I.2.2.1, I.2.2.2.1, I.2.2.2.2.1, I.2.2.2.2.2.1, fun i v hv => I.2.2.2.2.2.2 i v (ev_sub_nth hL i v hv)⟩
theorem ev_vpc {cA : ClassId} {n : Nat} {f g : Nat → Int32} (h : ∀ k, k < n → f k = g k) : vp_cell cA (n, .inl f) = vp_cell cA (n, .inl g) := by
  rw [vp_cell_i, vp_cell_i]
  unfold arrV
  have : (fun j : Fin n => Value.int (f j.val)) = fun j : Fin n => Value.int (g j.val) := funext fun j => by rw [h j.val j.isLt]
  rw [this]
theorem ev_nrm {μ : ev_M} {N0 : Option Nat} {X : ev_X} {pc : Nat} {L : ev_L} {st : List Value} {w : List ev_E} {kc ks : Nat} (k : Nat) {n : Nat} {f : Nat → Int32} (g : Nat → Int32) (hw : ev_wg w k = some (.inl (0, n, .inl f))) (hf : ∀ j, j < n → f j = g j) (kk : ev_V μ N0 X pc L st (ev_ws w k (.inl (0, n, .inl g))) kc ks) : ev_V μ N0 X pc L st w kc ks := by
  intro p l e R s m args below meth c D ct ad0 A Q h0 hx ad H locs ls I
  obtain ⟨hP, hD, hS, hE, hL⟩ := I
  rw [ev_wg_eq] at hw
  refine kk p l e R s m args below meth c D ct ad0 A Q h0 hx ad H locs ls ⟨?_, ?_, hS, hE, hL⟩
  · intro j q hq
    obtain ⟨E, h1, rfl⟩ := ev_lay_inv hq
    rw [ev_ws_eq, List.getElem?_set] at h1
    by_cases hj : k = j
    · subst hj
      rw [if_pos rfl] at h1
      split at h1
      · cases h1
        have h2 := hP k _ (ev_lay_get hw)
        have h3 : H[ad k]? = some (vp_cell (ct 0) (n, .inl f)) := h2
        rw [ev_vpc hf] at h3
        exact h3
      · cases h1
    · rw [if_neg hj] at h1
      exact hP j _ (ev_lay_get h1)
  · have hin : ∀ (j : Nat) (E : ev_E), (ev_ws w k (.inl (0, n, .inl g)))[j]? = some E → ∃ E0, w[j]? = some E0 := by
      intro j E h
      have h1 := (List.getElem?_eq_some_iff.mp h).1
      rw [ev_ws_eq, List.length_set] at h1
      exact ⟨_, List.getElem?_eq_getElem h1⟩
    refine ⟨fun i j a b hi hj hab => ?_, fun j q hq => ?_⟩
    · obtain ⟨E1, h1, rfl⟩ := ev_lay_inv hi
      obtain ⟨E2, h2, rfl⟩ := ev_lay_inv hj
      obtain ⟨F1, g1⟩ := hin i E1 h1
      obtain ⟨F2, g2⟩ := hin j E2 h2
      exact hD.1 i j (ad i, ev_ce ad ct F1) (ad j, ev_ce ad ct F2) (ev_lay_get g1) (ev_lay_get g2) hab
    · obtain ⟨E1, h1, rfl⟩ := ev_lay_inv hq
      obtain ⟨F1, g1⟩ := hin j E1 h1
      exact hD.2 j (ad j, ev_ce ad ct F1) (ev_lay_get g1)
theorem ni_ge0 {p : Int32} (h : ¬ p < 0) : 0 ≤ p.toInt := by
  have : ¬ p.toInt < 0 := fun q => h (Int32.lt_iff_toInt_lt.mpr (by simpa using q))
  omega
theorem am_next {p : Int32} {n : Nat} (h1 : ¬ p < 0) (h3 : ¬ (100 : Int32) ≤ p) (hm : 0 ≤ p.toInt → 100 < p.toInt + ((n + 1 : Nat) : Int)) : 0 ≤ (p + 1).toInt → 100 < (p + 1).toInt + (n : Int) := by
  intro _
  have e := ni_of h1
  have hlt : p.toNatClampNeg < 2147483648 := ni_lt31 p
  have h4 : ¬ 100 ≤ p.toNatClampNeg := by
    intro q
    apply h3
    rw [e]
    exact (ni_le (a := 100) (by decide) hlt).mpr q
  have e2 : (p + 1).toInt = p.toInt + 1 := by
    rw [e, ni_1, ni_int (by omega), ni_int (by omega)]
    omega
  have := hm (ni_ge0 h1)
  omega
theorem am_last {p : Int32} (h1 : ¬ p < 0) (h3 : ¬ (100 : Int32) ≤ p) : ¬ (0 ≤ p.toInt → 100 < p.toInt + ((0 : Nat) : Int)) := by
  intro hm
  have := hm (ni_ge0 h1)
  apply h3
  rw [Int32.le_iff_toInt_le]
  have : (100 : Int32).toInt = 100 := rfl
  omega
end
section
/-! small functions: isIn, placeOf, and the JDK's -/
def st_in (s t : Int32) : Bool := !decide ((s >>> (t &&& 31)) &&& 1 = 0)
def st_pl (t s : Int32) : Int32 := 4 + 4 * t + s
def jd_nz1 (q : Int32 × Int32) : Int32 × Int32 := if q.2 ≤ 65536 then q else (q.1 + 16, (q.2.toUInt32 >>> (Int32.toUInt32 16 &&& Int32.toUInt32 31)).toInt32)
def jd_nz2 (q : Int32 × Int32) : Int32 × Int32 := if q.2 ≤ 256 then q else (q.1 + 8, (q.2.toUInt32 >>> (Int32.toUInt32 8 &&& Int32.toUInt32 31)).toInt32)
def jd_nz3 (q : Int32 × Int32) : Int32 × Int32 := if q.2 ≤ 16 then q else (q.1 + 4, (q.2.toUInt32 >>> (Int32.toUInt32 4 &&& Int32.toUInt32 31)).toInt32)
def jd_nz4 (q : Int32 × Int32) : Int32 × Int32 := if q.2 ≤ 4 then q else (q.1 + 2, (q.2.toUInt32 >>> (Int32.toUInt32 2 &&& Int32.toUInt32 31)).toInt32)
def jd_ntz (x0 : Int32) : Int32 :=
  let x := (x0 ^^^ -1) &&& (x0 - 1)
  if 0 < x then
    let q := jd_nz4 (jd_nz3 (jd_nz2 (jd_nz1 (1, x))))
    q.1 + (q.2.toUInt32 >>> (Int32.toUInt32 1 &&& Int32.toUInt32 31)).toInt32
  else x &&& 32
def jd_us (x : Int32) (k : Int32) : Int32 := (x.toUInt32 >>> (k.toUInt32 &&& Int32.toUInt32 31)).toInt32
def jd_bc (x0 : Int32) : Int32 :=
  let x1 := x0 - (jd_us x0 1 &&& 1431655765)
  let x2 := (x1 &&& 858993459) + (jd_us x1 2 &&& 858993459)
  let x3 := (x2 + jd_us x2 4) &&& 252645135
  let x4 := x3 + jd_us x3 8
  let x5 := x4 + jd_us x4 16
  x5 &&& 63
def jd_fm (x y : Int32) : Int32 := if 0 ≤ (x ^^^ y) then x - x / y * y else if x - x / y * y = 0 then x - x / y * y else x - x / y * y + y

set_option maxRecDepth 20000 in
theorem t_X4_isIn (s t : Int32) : ev_A yX4_isIn mm_X4_isIn none [.int s, .int t] (([] : List ev_E)) (fun r w => r = some (.int (ev_b (st_in s t))) ∧ w = []) := by
  refine ev_start ok_X4_isIn (by decide +kernel) rfl rfl (Nat.le_of_ble_eq_true rfl) ?_
  refine ev_run [] 5 rfl trivial ?_
  refine ev_br rfl rfl (fun h1 => ?_) (fun h1 => ?_)
  · refine ev_run [] 1 rfl trivial ?_
    refine ev_exit ⟨_, _, rfl, ⟨rfl, Or.inr ⟨rfl, rfl⟩⟩, ?_, Nat.le_refl _, Nat.le_refl _⟩
    exact ⟨by simp [st_in, ev_b, h1], rfl⟩
  · refine ev_run [] 2 rfl trivial ?_
    refine ev_exit ⟨_, _, rfl, ⟨rfl, Or.inr ⟨rfl, rfl⟩⟩, ?_, Nat.le_refl _, Nat.le_refl _⟩
    exact ⟨by simp [st_in, ev_b, h1], rfl⟩

set_option maxRecDepth 20000 in
theorem t_X4_placeOf (t s : Int32) : ev_A yX4_placeOf mm_X4_placeOf none [.int t, .int s] (([] : List ev_E)) (fun r w => r = some (.int (st_pl t s)) ∧ w = []) := by
  refine ev_start ok_X4_placeOf (by decide +kernel) rfl rfl (Nat.le_of_ble_eq_true rfl) ?_
  refine ev_run [] 7 rfl trivial ?_
  refine ev_exit ⟨_, _, rfl, ⟨rfl, Or.inl rfl⟩, ?_, Nat.le_refl _, Nat.le_refl _⟩
  exact ⟨rfl, rfl⟩

set_option maxRecDepth 20000 in
theorem t_J6_numberOfTrailingZeros_0f7a4 (x : Int32) : ev_A yJ6_numberOfTrailingZeros_0f7a4 mm_J6_numberOfTrailingZeros_0f7a4 none [.int x] (([] : List ev_E)) (fun r w => r = some (.int (jd_ntz x)) ∧ w = []) := by
  refine ev_start ok_J6_numberOfTrailingZeros_0f7a4 (by decide +kernel) rfl rfl (Nat.le_of_ble_eq_true rfl) ?_
  refine ev_run [] 9 rfl trivial ?_
  refine ev_br rfl rfl (fun h1 => ?_) (fun h1 => ?_)
  · refine ev_run [] 4 rfl trivial ?_
    refine ev_br rfl rfl (fun h2 => ?_) (fun h2 => ?_)
    · refine ev_run [] 2 rfl trivial ?_
      refine ev_br rfl rfl (fun h3 => ?_) (fun h3 => ?_)
      · refine ev_run [] 2 rfl trivial ?_
        refine ev_br rfl rfl (fun h4 => ?_) (fun h4 => ?_)
        · refine ev_run [] 2 rfl trivial ?_
          refine ev_br rfl rfl (fun h5 => ?_) (fun h5 => ?_)
          · refine ev_run [] 5 rfl trivial ?_
            refine ev_exit ⟨_, _, rfl, ⟨rfl, Or.inl rfl⟩, ?_, Nat.le_refl _, Nat.le_refl _⟩
            exact ⟨by simp only [jd_ntz, jd_nz1, jd_nz2, jd_nz3, jd_nz4, ↓reduceIte, h1, h2, h3, h4, h5], rfl⟩
          · refine ev_run [] 10 rfl trivial ?_
            refine ev_exit ⟨_, _, rfl, ⟨rfl, Or.inl rfl⟩, ?_, Nat.le_refl _, Nat.le_refl _⟩
            exact ⟨by simp only [jd_ntz, jd_nz1, jd_nz2, jd_nz3, jd_nz4, ↓reduceIte, h1, h2, h3, h4, h5], rfl⟩
        · refine ev_run [] 7 rfl trivial ?_
          refine ev_br rfl rfl (fun h6 => ?_) (fun h6 => ?_)
          · refine ev_run [] 5 rfl trivial ?_
            refine ev_exit ⟨_, _, rfl, ⟨rfl, Or.inl rfl⟩, ?_, Nat.le_refl _, Nat.le_refl _⟩
            exact ⟨by simp only [jd_ntz, jd_nz1, jd_nz2, jd_nz3, jd_nz4, ↓reduceIte, h1, h2, h3, h4, h6], rfl⟩
          · refine ev_run [] 10 rfl trivial ?_
            refine ev_exit ⟨_, _, rfl, ⟨rfl, Or.inl rfl⟩, ?_, Nat.le_refl _, Nat.le_refl _⟩
            exact ⟨by simp only [jd_ntz, jd_nz1, jd_nz2, jd_nz3, jd_nz4, ↓reduceIte, h1, h2, h3, h4, h6], rfl⟩
      · refine ev_run [] 7 rfl trivial ?_
        refine ev_br rfl rfl (fun h7 => ?_) (fun h7 => ?_)
        · refine ev_run [] 2 rfl trivial ?_
          refine ev_br rfl rfl (fun h8 => ?_) (fun h8 => ?_)
          · refine ev_run [] 5 rfl trivial ?_
            refine ev_exit ⟨_, _, rfl, ⟨rfl, Or.inl rfl⟩, ?_, Nat.le_refl _, Nat.le_refl _⟩
            exact ⟨by simp only [jd_ntz, jd_nz1, jd_nz2, jd_nz3, jd_nz4, ↓reduceIte, h1, h2, h3, h7, h8], rfl⟩
          · refine ev_run [] 10 rfl trivial ?_
            refine ev_exit ⟨_, _, rfl, ⟨rfl, Or.inl rfl⟩, ?_, Nat.le_refl _, Nat.le_refl _⟩
            exact ⟨by simp only [jd_ntz, jd_nz1, jd_nz2, jd_nz3, jd_nz4, ↓reduceIte, h1, h2, h3, h7, h8], rfl⟩
        · refine ev_run [] 7 rfl trivial ?_
          refine ev_br rfl rfl (fun h9 => ?_) (fun h9 => ?_)
          · refine ev_run [] 5 rfl trivial ?_
            refine ev_exit ⟨_, _, rfl, ⟨rfl, Or.inl rfl⟩, ?_, Nat.le_refl _, Nat.le_refl _⟩
            exact ⟨by simp only [jd_ntz, jd_nz1, jd_nz2, jd_nz3, jd_nz4, ↓reduceIte, h1, h2, h3, h7, h9], rfl⟩
          · refine ev_run [] 10 rfl trivial ?_
            refine ev_exit ⟨_, _, rfl, ⟨rfl, Or.inl rfl⟩, ?_, Nat.le_refl _, Nat.le_refl _⟩
            exact ⟨by simp only [jd_ntz, jd_nz1, jd_nz2, jd_nz3, jd_nz4, ↓reduceIte, h1, h2, h3, h7, h9], rfl⟩
    · refine ev_run [] 7 rfl trivial ?_
      refine ev_br rfl rfl (fun h10 => ?_) (fun h10 => ?_)
      · refine ev_run [] 2 rfl trivial ?_
        refine ev_br rfl rfl (fun h11 => ?_) (fun h11 => ?_)
        · refine ev_run [] 2 rfl trivial ?_
          refine ev_br rfl rfl (fun h12 => ?_) (fun h12 => ?_)
          · refine ev_run [] 5 rfl trivial ?_
            refine ev_exit ⟨_, _, rfl, ⟨rfl, Or.inl rfl⟩, ?_, Nat.le_refl _, Nat.le_refl _⟩
            exact ⟨by simp only [jd_ntz, jd_nz1, jd_nz2, jd_nz3, jd_nz4, ↓reduceIte, h1, h2, h10, h11, h12], rfl⟩
          · refine ev_run [] 10 rfl trivial ?_
            refine ev_exit ⟨_, _, rfl, ⟨rfl, Or.inl rfl⟩, ?_, Nat.le_refl _, Nat.le_refl _⟩
            exact ⟨by simp only [jd_ntz, jd_nz1, jd_nz2, jd_nz3, jd_nz4, ↓reduceIte, h1, h2, h10, h11, h12], rfl⟩
        · refine ev_run [] 7 rfl trivial ?_
          refine ev_br rfl rfl (fun h13 => ?_) (fun h13 => ?_)
          · refine ev_run [] 5 rfl trivial ?_
            refine ev_exit ⟨_, _, rfl, ⟨rfl, Or.inl rfl⟩, ?_, Nat.le_refl _, Nat.le_refl _⟩
            exact ⟨by simp only [jd_ntz, jd_nz1, jd_nz2, jd_nz3, jd_nz4, ↓reduceIte, h1, h2, h10, h11, h13], rfl⟩
          · refine ev_run [] 10 rfl trivial ?_
            refine ev_exit ⟨_, _, rfl, ⟨rfl, Or.inl rfl⟩, ?_, Nat.le_refl _, Nat.le_refl _⟩
            exact ⟨by simp only [jd_ntz, jd_nz1, jd_nz2, jd_nz3, jd_nz4, ↓reduceIte, h1, h2, h10, h11, h13], rfl⟩
      · refine ev_run [] 7 rfl trivial ?_
        refine ev_br rfl rfl (fun h14 => ?_) (fun h14 => ?_)
        · refine ev_run [] 2 rfl trivial ?_
          refine ev_br rfl rfl (fun h15 => ?_) (fun h15 => ?_)
          · refine ev_run [] 5 rfl trivial ?_
            refine ev_exit ⟨_, _, rfl, ⟨rfl, Or.inl rfl⟩, ?_, Nat.le_refl _, Nat.le_refl _⟩
            exact ⟨by simp only [jd_ntz, jd_nz1, jd_nz2, jd_nz3, jd_nz4, ↓reduceIte, h1, h2, h10, h14, h15], rfl⟩
          · refine ev_run [] 10 rfl trivial ?_
            refine ev_exit ⟨_, _, rfl, ⟨rfl, Or.inl rfl⟩, ?_, Nat.le_refl _, Nat.le_refl _⟩
            exact ⟨by simp only [jd_ntz, jd_nz1, jd_nz2, jd_nz3, jd_nz4, ↓reduceIte, h1, h2, h10, h14, h15], rfl⟩
        · refine ev_run [] 7 rfl trivial ?_
          refine ev_br rfl rfl (fun h16 => ?_) (fun h16 => ?_)
          · refine ev_run [] 5 rfl trivial ?_
            refine ev_exit ⟨_, _, rfl, ⟨rfl, Or.inl rfl⟩, ?_, Nat.le_refl _, Nat.le_refl _⟩
            exact ⟨by simp only [jd_ntz, jd_nz1, jd_nz2, jd_nz3, jd_nz4, ↓reduceIte, h1, h2, h10, h14, h16], rfl⟩
          · refine ev_run [] 10 rfl trivial ?_
            refine ev_exit ⟨_, _, rfl, ⟨rfl, Or.inl rfl⟩, ?_, Nat.le_refl _, Nat.le_refl _⟩
            exact ⟨by simp only [jd_ntz, jd_nz1, jd_nz2, jd_nz3, jd_nz4, ↓reduceIte, h1, h2, h10, h14, h16], rfl⟩
  · refine ev_run [] 3 rfl trivial ?_
    refine ev_exit ⟨_, _, rfl, ⟨rfl, Or.inl rfl⟩, ?_, Nat.le_refl _, Nat.le_refl _⟩
    exact ⟨by simp only [jd_ntz, jd_nz1, jd_nz2, jd_nz3, jd_nz4, ↓reduceIte, h1], rfl⟩

set_option maxRecDepth 20000 in
theorem t_J6_bitCount_0f7a4 (x : Int32) : ev_A yJ6_bitCount_0f7a4 mm_J6_bitCount_0f7a4 none [.int x] (([] : List ev_E)) (fun r w => r = some (.int (jd_bc x)) ∧ w = []) := by
  refine ev_start ok_J6_bitCount_0f7a4 (by decide +kernel) rfl rfl (Nat.le_of_ble_eq_true rfl) ?_
  refine ev_run [] 41 rfl trivial ?_
  refine ev_exit ⟨_, _, rfl, ⟨rfl, Or.inl rfl⟩, ?_, Nat.le_refl _, Nat.le_refl _⟩
  exact ⟨rfl, rfl⟩

set_option maxRecDepth 20000 in
theorem t_J9_floorMod_7cf53 (x y : Int32) (hy : ¬ y = 0) : ev_A yJ9_floorMod_7cf53 mm_J9_floorMod_7cf53 none [.int x, .int y] (([] : List ev_E)) (fun r w => r = some (.int (jd_fm x y)) ∧ w = []) := by
  refine ev_startF ok_J9_floorMod_7cf53 (by decide +kernel) rfl rfl (Nat.le_of_ble_eq_true rfl) ?_
  refine ev_run [] 7 rfl ?_ ?_
  · exact hy
  refine ev_br rfl rfl (fun h1 => ?_) (fun h1 => ?_)
  · refine ev_run [] 1 rfl trivial ?_
    refine ev_exit ⟨_, _, rfl, ⟨rfl, Or.inl rfl⟩, ?_, Nat.le_refl _, Nat.le_refl _⟩
    exact ⟨by simp [jd_fm, h1], rfl⟩
  · refine ev_run [] 1 rfl trivial ?_
    refine ev_br rfl rfl (fun h2 => ?_) (fun h2 => ?_)
    · refine ev_run [] 1 rfl trivial ?_
      refine ev_exit ⟨_, _, rfl, ⟨rfl, Or.inl rfl⟩, ?_, Nat.le_refl _, Nat.le_refl _⟩
      exact ⟨by simp [jd_fm, h1, h2], rfl⟩
    · refine ev_run [] 3 rfl trivial ?_
      refine ev_exit ⟨_, _, rfl, ⟨rfl, Or.inl rfl⟩, ?_, Nat.le_refl _, Nat.le_refl _⟩
      exact ⟨by simp [jd_fm, h1, h2], rfl⟩
end
