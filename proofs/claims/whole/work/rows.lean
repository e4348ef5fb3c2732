section
-- ===== PART A: goes FIRST, ahead of the names: the tables' words, and 'selects' of the private methods out of them =====
/-- a private method of a class that the tables say can be made, by its rows of tables_1 -/
def lw_okq (q : MethodName × Nat) : Prop := (q.1.cls ≠ "java/lang/invoke/MethodHandle" ∧ q.1.cls ≠ "java/lang/invoke/VarHandle") ∧ Cond.instantiable q.1.cls q.2 ∈ tables_1 ∧ Cond.privateMethod q.1 ∈ tables_1 ∧ Cond.instanceMethod q.1 ∈ tables_1
theorem lw_p0 : lw_okq (⟨"GossipCounts", "save", "()V"⟩, 6) := ⟨⟨by decide +kernel, by decide +kernel⟩, List.mem_of_getElem? (i := 17) (by decide +kernel), List.mem_of_getElem? (i := 178) (by decide +kernel), List.mem_of_getElem? (i := 179) (by decide +kernel)⟩
theorem lw_p1 : lw_okq (⟨"GossipCounts$World", "judge", "(I)V"⟩, 17) := ⟨⟨by decide +kernel, by decide +kernel⟩, List.mem_of_getElem? (i := 25) (by decide +kernel), List.mem_of_getElem? (i := 206) (by decide +kernel), List.mem_of_getElem? (i := 207) (by decide +kernel)⟩
theorem lw_p2 : lw_okq (⟨"GossipCounts$Holdings", "heldAmong", "(III)I"⟩, 1) := ⟨⟨by decide +kernel, by decide +kernel⟩, List.mem_of_getElem? (i := 31) (by decide +kernel), List.mem_of_getElem? (i := 217) (by decide +kernel), List.mem_of_getElem? (i := 218) (by decide +kernel)⟩
theorem lw_p3 : lw_okq (⟨"GossipCounts$World", "withRest", "(I)I"⟩, 17) := ⟨⟨by decide +kernel, by decide +kernel⟩, List.mem_of_getElem? (i := 25) (by decide +kernel), List.mem_of_getElem? (i := 234) (by decide +kernel), List.mem_of_getElem? (i := 235) (by decide +kernel)⟩
theorem lw_p4 : lw_okq (⟨"GossipCounts$World", "highestOf", "(I)I"⟩, 17) := ⟨⟨by decide +kernel, by decide +kernel⟩, List.mem_of_getElem? (i := 25) (by decide +kernel), List.mem_of_getElem? (i := 244) (by decide +kernel), List.mem_of_getElem? (i := 245) (by decide +kernel)⟩
theorem lw_p5 : lw_okq (⟨"GossipCounts$World", "endThing", "(III)V"⟩, 17) := ⟨⟨by decide +kernel, by decide +kernel⟩, List.mem_of_getElem? (i := 25) (by decide +kernel), List.mem_of_getElem? (i := 248) (by decide +kernel), List.mem_of_getElem? (i := 249) (by decide +kernel)⟩
theorem lw_p6 : lw_okq (⟨"GossipCounts$World", "dueTime", "(I)I"⟩, 17) := ⟨⟨by decide +kernel, by decide +kernel⟩, List.mem_of_getElem? (i := 25) (by decide +kernel), List.mem_of_getElem? (i := 265) (by decide +kernel), List.mem_of_getElem? (i := 266) (by decide +kernel)⟩
theorem lw_p7 : lw_okq (⟨"GossipCounts$World", "hearDue", "()V"⟩, 17) := ⟨⟨by decide +kernel, by decide +kernel⟩, List.mem_of_getElem? (i := 25) (by decide +kernel), List.mem_of_getElem? (i := 280) (by decide +kernel), List.mem_of_getElem? (i := 281) (by decide +kernel)⟩
theorem lw_p8 : lw_okq (⟨"GossipCounts$World", "mustEnd", "(I)Z"⟩, 17) := ⟨⟨by decide +kernel, by decide +kernel⟩, List.mem_of_getElem? (i := 25) (by decide +kernel), List.mem_of_getElem? (i := 297) (by decide +kernel), List.mem_of_getElem? (i := 298) (by decide +kernel)⟩
theorem lw_p9 : lw_okq (⟨"GossipCounts$World", "isWrong", "(I)Z"⟩, 17) := ⟨⟨by decide +kernel, by decide +kernel⟩, List.mem_of_getElem? (i := 25) (by decide +kernel), List.mem_of_getElem? (i := 313) (by decide +kernel), List.mem_of_getElem? (i := 314) (by decide +kernel)⟩
theorem lw_p10 : lw_okq (⟨"GossipCounts$Holdings", "reachedWithout", "(I)I"⟩, 1) := ⟨⟨by decide +kernel, by decide +kernel⟩, List.mem_of_getElem? (i := 31) (by decide +kernel), List.mem_of_getElem? (i := 366) (by decide +kernel), List.mem_of_getElem? (i := 367) (by decide +kernel)⟩
theorem lw_p11 : lw_okq (⟨"GossipCounts$World", "endsInTrials", "()I"⟩, 17) := ⟨⟨by decide +kernel, by decide +kernel⟩, List.mem_of_getElem? (i := 25) (by decide +kernel), List.mem_of_getElem? (i := 374) (by decide +kernel), List.mem_of_getElem? (i := 375) (by decide +kernel)⟩
theorem lw_p12 : lw_okq (⟨"GossipCounts$World", "wrongCounts", "()I"⟩, 17) := ⟨⟨by decide +kernel, by decide +kernel⟩, List.mem_of_getElem? (i := 25) (by decide +kernel), List.mem_of_getElem? (i := 382) (by decide +kernel), List.mem_of_getElem? (i := 383) (by decide +kernel)⟩
theorem lw_p13 : lw_okq (⟨"java/lang/Throwable", "fillInStackTrace", "(I)Ljava/lang/Throwable;"⟩, 6) := ⟨⟨by decide +kernel, by decide +kernel⟩, List.mem_of_getElem? (i := 433) (by decide +kernel), List.mem_of_getElem? (i := 431) (by decide +kernel), List.mem_of_getElem? (i := 432) (by decide +kernel)⟩
theorem lw_p14 : lw_okq (⟨"GossipCounts", "foresee", "(I)V"⟩, 6) := ⟨⟨by decide +kernel, by decide +kernel⟩, List.mem_of_getElem? (i := 17) (by decide +kernel), List.mem_of_getElem? (i := 468) (by decide +kernel), List.mem_of_getElem? (i := 469) (by decide +kernel)⟩
theorem lw_p15 : lw_okq (⟨"GossipCounts", "withThings", "(J)J"⟩, 6) := ⟨⟨by decide +kernel, by decide +kernel⟩, List.mem_of_getElem? (i := 17) (by decide +kernel), List.mem_of_getElem? (i := 477) (by decide +kernel), List.mem_of_getElem? (i := 478) (by decide +kernel)⟩
def lw_privs_1 : List (MethodName × Nat) := [(⟨"GossipCounts", "save", "()V"⟩, 6), (⟨"GossipCounts$World", "judge", "(I)V"⟩, 17), (⟨"GossipCounts$Holdings", "heldAmong", "(III)I"⟩, 1), (⟨"GossipCounts$World", "withRest", "(I)I"⟩, 17), (⟨"GossipCounts$World", "highestOf", "(I)I"⟩, 17), (⟨"GossipCounts$World", "endThing", "(III)V"⟩, 17), (⟨"GossipCounts$World", "dueTime", "(I)I"⟩, 17), (⟨"GossipCounts$World", "hearDue", "()V"⟩, 17), (⟨"GossipCounts$World", "mustEnd", "(I)Z"⟩, 17), (⟨"GossipCounts$World", "isWrong", "(I)Z"⟩, 17), (⟨"GossipCounts$Holdings", "reachedWithout", "(I)I"⟩, 1), (⟨"GossipCounts$World", "endsInTrials", "()I"⟩, 17), (⟨"GossipCounts$World", "wrongCounts", "()I"⟩, 17), (⟨"java/lang/Throwable", "fillInStackTrace", "(I)Ljava/lang/Throwable;"⟩, 6), (⟨"GossipCounts", "foresee", "(I)V"⟩, 6), (⟨"GossipCounts", "withThings", "(J)J"⟩, 6)]
theorem lw_r1 : ∀ q ∈ lw_privs_1, lw_okq q := List.forall_mem_cons.mpr ⟨lw_p0, List.forall_mem_cons.mpr ⟨lw_p1, List.forall_mem_cons.mpr ⟨lw_p2, List.forall_mem_cons.mpr ⟨lw_p3, List.forall_mem_cons.mpr ⟨lw_p4, List.forall_mem_cons.mpr ⟨lw_p5, List.forall_mem_cons.mpr ⟨lw_p6, List.forall_mem_cons.mpr ⟨lw_p7, List.forall_mem_cons.mpr ⟨lw_p8, List.forall_mem_cons.mpr ⟨lw_p9, List.forall_mem_cons.mpr ⟨lw_p10, List.forall_mem_cons.mpr ⟨lw_p11, List.forall_mem_cons.mpr ⟨lw_p12, List.forall_mem_cons.mpr ⟨lw_p13, List.forall_mem_cons.mpr ⟨lw_p14, List.forall_mem_cons.mpr ⟨lw_p15, fun _ h => absurd h List.not_mem_nil⟩⟩⟩⟩⟩⟩⟩⟩⟩⟩⟩⟩⟩⟩⟩⟩
theorem lw_p16 : lw_okq (⟨"GossipCounts", "foreseenEnd", "(I)I"⟩, 6) := ⟨⟨by decide +kernel, by decide +kernel⟩, List.mem_of_getElem? (i := 17) (by decide +kernel), List.mem_of_getElem? (i := 495) (by decide +kernel), List.mem_of_getElem? (i := 496) (by decide +kernel)⟩
theorem lw_p17 : lw_okq (⟨"GossipCounts", "withReportsAndEnds", "(J)J"⟩, 6) := ⟨⟨by decide +kernel, by decide +kernel⟩, List.mem_of_getElem? (i := 17) (by decide +kernel), List.mem_of_getElem? (i := 500) (by decide +kernel), List.mem_of_getElem? (i := 501) (by decide +kernel)⟩
theorem lw_p18 : lw_okq (⟨"GossipCounts", "withPassed", "(J)J"⟩, 6) := ⟨⟨by decide +kernel, by decide +kernel⟩, List.mem_of_getElem? (i := 17) (by decide +kernel), List.mem_of_getElem? (i := 506) (by decide +kernel), List.mem_of_getElem? (i := 507) (by decide +kernel)⟩
theorem lw_p19 : lw_okq (⟨"GossipCounts", "passedPart", "(I)I"⟩, 6) := ⟨⟨by decide +kernel, by decide +kernel⟩, List.mem_of_getElem? (i := 17) (by decide +kernel), List.mem_of_getElem? (i := 510) (by decide +kernel), List.mem_of_getElem? (i := 511) (by decide +kernel)⟩
theorem lw_p20 : lw_okq (⟨"GossipCounts", "foreseeTrial", "()V"⟩, 6) := ⟨⟨by decide +kernel, by decide +kernel⟩, List.mem_of_getElem? (i := 17) (by decide +kernel), List.mem_of_getElem? (i := 516) (by decide +kernel), List.mem_of_getElem? (i := 517) (by decide +kernel)⟩
theorem lw_p21 : lw_okq (⟨"GossipCounts", "withTried", "(J)J"⟩, 6) := ⟨⟨by decide +kernel, by decide +kernel⟩, List.mem_of_getElem? (i := 17) (by decide +kernel), List.mem_of_getElem? (i := 520) (by decide +kernel), List.mem_of_getElem? (i := 521) (by decide +kernel)⟩
theorem lw_p22 : lw_okq (⟨"GossipCounts", "triedPart", "(I)I"⟩, 6) := ⟨⟨by decide +kernel, by decide +kernel⟩, List.mem_of_getElem? (i := 17) (by decide +kernel), List.mem_of_getElem? (i := 524) (by decide +kernel), List.mem_of_getElem? (i := 525) (by decide +kernel)⟩
theorem lw_p23 : lw_okq (⟨"GossipCounts", "withBestCut", "(J)J"⟩, 6) := ⟨⟨by decide +kernel, by decide +kernel⟩, List.mem_of_getElem? (i := 17) (by decide +kernel), List.mem_of_getElem? (i := 528) (by decide +kernel), List.mem_of_getElem? (i := 529) (by decide +kernel)⟩
theorem lw_p24 : lw_okq (⟨"GossipCounts", "slandersToEnd", "(I)I"⟩, 6) := ⟨⟨by decide +kernel, by decide +kernel⟩, List.mem_of_getElem? (i := 17) (by decide +kernel), List.mem_of_getElem? (i := 543) (by decide +kernel), List.mem_of_getElem? (i := 544) (by decide +kernel)⟩
theorem lw_p25 : lw_okq (⟨"GossipCounts", "isThingOrNone", "(I)Z"⟩, 6) := ⟨⟨by decide +kernel, by decide +kernel⟩, List.mem_of_getElem? (i := 17) (by decide +kernel), List.mem_of_getElem? (i := 599) (by decide +kernel), List.mem_of_getElem? (i := 600) (by decide +kernel)⟩
theorem lw_p26 : lw_okq (⟨"GossipCounts", "isThing", "(I)Z"⟩, 6) := ⟨⟨by decide +kernel, by decide +kernel⟩, List.mem_of_getElem? (i := 17) (by decide +kernel), List.mem_of_getElem? (i := 603) (by decide +kernel), List.mem_of_getElem? (i := 604) (by decide +kernel)⟩
theorem lw_p27 : lw_okq (⟨"GossipCounts$Text", "hasMore", "()Z"⟩, 5) := ⟨⟨by decide +kernel, by decide +kernel⟩, List.mem_of_getElem? (i := 129) (by decide +kernel), List.mem_of_getElem? (i := 715) (by decide +kernel), List.mem_of_getElem? (i := 716) (by decide +kernel)⟩
theorem lw_p28 : lw_okq (⟨"GossipCounts$Text", "readNumber", "()I"⟩, 5) := ⟨⟨by decide +kernel, by decide +kernel⟩, List.mem_of_getElem? (i := 129) (by decide +kernel), List.mem_of_getElem? (i := 719) (by decide +kernel), List.mem_of_getElem? (i := 720) (by decide +kernel)⟩
theorem lw_p29 : lw_okq (⟨"GossipCounts", "doStep", "()Z"⟩, 6) := ⟨⟨by decide +kernel, by decide +kernel⟩, List.mem_of_getElem? (i := 17) (by decide +kernel), List.mem_of_getElem? (i := 723) (by decide +kernel), List.mem_of_getElem? (i := 724) (by decide +kernel)⟩
theorem lw_p30 : lw_okq (⟨"GossipCountsModel", "whyNotAdded", "(I)I"⟩, 15) := ⟨⟨by decide +kernel, by decide +kernel⟩, List.mem_of_getElem? (i := 832) (by decide +kernel), List.mem_of_getElem? (i := 893) (by decide +kernel), List.mem_of_getElem? (i := 894) (by decide +kernel)⟩
theorem lw_p31 : lw_okq (⟨"GossipCountsModel", "save", "()V"⟩, 15) := ⟨⟨by decide +kernel, by decide +kernel⟩, List.mem_of_getElem? (i := 832) (by decide +kernel), List.mem_of_getElem? (i := 900) (by decide +kernel), List.mem_of_getElem? (i := 901) (by decide +kernel)⟩
def lw_privs_2 : List (MethodName × Nat) := [(⟨"GossipCounts", "foreseenEnd", "(I)I"⟩, 6), (⟨"GossipCounts", "withReportsAndEnds", "(J)J"⟩, 6), (⟨"GossipCounts", "withPassed", "(J)J"⟩, 6), (⟨"GossipCounts", "passedPart", "(I)I"⟩, 6), (⟨"GossipCounts", "foreseeTrial", "()V"⟩, 6), (⟨"GossipCounts", "withTried", "(J)J"⟩, 6), (⟨"GossipCounts", "triedPart", "(I)I"⟩, 6), (⟨"GossipCounts", "withBestCut", "(J)J"⟩, 6), (⟨"GossipCounts", "slandersToEnd", "(I)I"⟩, 6), (⟨"GossipCounts", "isThingOrNone", "(I)Z"⟩, 6), (⟨"GossipCounts", "isThing", "(I)Z"⟩, 6), (⟨"GossipCounts$Text", "hasMore", "()Z"⟩, 5), (⟨"GossipCounts$Text", "readNumber", "()I"⟩, 5), (⟨"GossipCounts", "doStep", "()Z"⟩, 6), (⟨"GossipCountsModel", "whyNotAdded", "(I)I"⟩, 15), (⟨"GossipCountsModel", "save", "()V"⟩, 15)]
theorem lw_r2 : ∀ q ∈ lw_privs_2, lw_okq q := List.forall_mem_cons.mpr ⟨lw_p16, List.forall_mem_cons.mpr ⟨lw_p17, List.forall_mem_cons.mpr ⟨lw_p18, List.forall_mem_cons.mpr ⟨lw_p19, List.forall_mem_cons.mpr ⟨lw_p20, List.forall_mem_cons.mpr ⟨lw_p21, List.forall_mem_cons.mpr ⟨lw_p22, List.forall_mem_cons.mpr ⟨lw_p23, List.forall_mem_cons.mpr ⟨lw_p24, List.forall_mem_cons.mpr ⟨lw_p25, List.forall_mem_cons.mpr ⟨lw_p26, List.forall_mem_cons.mpr ⟨lw_p27, List.forall_mem_cons.mpr ⟨lw_p28, List.forall_mem_cons.mpr ⟨lw_p29, List.forall_mem_cons.mpr ⟨lw_p30, List.forall_mem_cons.mpr ⟨lw_p31, fun _ h => absurd h List.not_mem_nil⟩⟩⟩⟩⟩⟩⟩⟩⟩⟩⟩⟩⟩⟩⟩⟩
theorem lw_p32 : lw_okq (⟨"GossipCountsModel", "added", "(I)I"⟩, 15) := ⟨⟨by decide +kernel, by decide +kernel⟩, List.mem_of_getElem? (i := 832) (by decide +kernel), List.mem_of_getElem? (i := 907) (by decide +kernel), List.mem_of_getElem? (i := 908) (by decide +kernel)⟩
theorem lw_p33 : lw_okq (⟨"GossipCountsModel", "setPart", "(III)V"⟩, 15) := ⟨⟨by decide +kernel, by decide +kernel⟩, List.mem_of_getElem? (i := 832) (by decide +kernel), List.mem_of_getElem? (i := 911) (by decide +kernel), List.mem_of_getElem? (i := 912) (by decide +kernel)⟩
theorem lw_p34 : lw_okq (⟨"GossipCountsModel", "whyNotTaken", "(II)I"⟩, 15) := ⟨⟨by decide +kernel, by decide +kernel⟩, List.mem_of_getElem? (i := 832) (by decide +kernel), List.mem_of_getElem? (i := 919) (by decide +kernel), List.mem_of_getElem? (i := 920) (by decide +kernel)⟩
theorem lw_p35 : lw_okq (⟨"GossipCountsModel", "isHeld", "(I)Z"⟩, 15) := ⟨⟨by decide +kernel, by decide +kernel⟩, List.mem_of_getElem? (i := 832) (by decide +kernel), List.mem_of_getElem? (i := 923) (by decide +kernel), List.mem_of_getElem? (i := 924) (by decide +kernel)⟩
theorem lw_p36 : lw_okq (⟨"GossipCountsModel", "isThing", "(I)Z"⟩, 15) := ⟨⟨by decide +kernel, by decide +kernel⟩, List.mem_of_getElem? (i := 832) (by decide +kernel), List.mem_of_getElem? (i := 927) (by decide +kernel), List.mem_of_getElem? (i := 928) (by decide +kernel)⟩
theorem lw_p37 : lw_okq (⟨"GossipCountsModel", "hasEnded", "(I)Z"⟩, 15) := ⟨⟨by decide +kernel, by decide +kernel⟩, List.mem_of_getElem? (i := 832) (by decide +kernel), List.mem_of_getElem? (i := 931) (by decide +kernel), List.mem_of_getElem? (i := 932) (by decide +kernel)⟩
theorem lw_p38 : lw_okq (⟨"GossipCountsModel", "lives", "(I)Z"⟩, 15) := ⟨⟨by decide +kernel, by decide +kernel⟩, List.mem_of_getElem? (i := 832) (by decide +kernel), List.mem_of_getElem? (i := 935) (by decide +kernel), List.mem_of_getElem? (i := 936) (by decide +kernel)⟩
theorem lw_p39 : lw_okq (⟨"GossipCountsModel", "part", "(II)I"⟩, 15) := ⟨⟨by decide +kernel, by decide +kernel⟩, List.mem_of_getElem? (i := 832) (by decide +kernel), List.mem_of_getElem? (i := 939) (by decide +kernel), List.mem_of_getElem? (i := 940) (by decide +kernel)⟩
theorem lw_p40 : lw_okq (⟨"GossipCountsModel", "changed", "(II)I"⟩, 15) := ⟨⟨by decide +kernel, by decide +kernel⟩, List.mem_of_getElem? (i := 832) (by decide +kernel), List.mem_of_getElem? (i := 943) (by decide +kernel), List.mem_of_getElem? (i := 944) (by decide +kernel)⟩
theorem lw_p41 : lw_okq (⟨"GossipCountsModel", "addReport", "(III)I"⟩, 15) := ⟨⟨by decide +kernel, by decide +kernel⟩, List.mem_of_getElem? (i := 832) (by decide +kernel), List.mem_of_getElem? (i := 947) (by decide +kernel), List.mem_of_getElem? (i := 948) (by decide +kernel)⟩
theorem lw_p42 : lw_okq (⟨"GossipCountsModel", "hearDue", "()V"⟩, 15) := ⟨⟨by decide +kernel, by decide +kernel⟩, List.mem_of_getElem? (i := 832) (by decide +kernel), List.mem_of_getElem? (i := 951) (by decide +kernel), List.mem_of_getElem? (i := 952) (by decide +kernel)⟩
theorem lw_p43 : lw_okq (⟨"GossipCountsModel", "firstDue", "()I"⟩, 15) := ⟨⟨by decide +kernel, by decide +kernel⟩, List.mem_of_getElem? (i := 832) (by decide +kernel), List.mem_of_getElem? (i := 955) (by decide +kernel), List.mem_of_getElem? (i := 956) (by decide +kernel)⟩
theorem lw_p44 : lw_okq (⟨"GossipCountsModel", "reportPart", "(II)I"⟩, 15) := ⟨⟨by decide +kernel, by decide +kernel⟩, List.mem_of_getElem? (i := 832) (by decide +kernel), List.mem_of_getElem? (i := 959) (by decide +kernel), List.mem_of_getElem? (i := 960) (by decide +kernel)⟩
theorem lw_p45 : lw_okq (⟨"GossipCountsModel", "hears", "(I)V"⟩, 15) := ⟨⟨by decide +kernel, by decide +kernel⟩, List.mem_of_getElem? (i := 832) (by decide +kernel), List.mem_of_getElem? (i := 963) (by decide +kernel), List.mem_of_getElem? (i := 964) (by decide +kernel)⟩
theorem lw_p46 : lw_okq (⟨"GossipCountsModel", "dropReport", "(I)V"⟩, 15) := ⟨⟨by decide +kernel, by decide +kernel⟩, List.mem_of_getElem? (i := 832) (by decide +kernel), List.mem_of_getElem? (i := 967) (by decide +kernel), List.mem_of_getElem? (i := 968) (by decide +kernel)⟩
theorem lw_p47 : lw_okq (⟨"GossipCountsModel", "underWay", "(I)I"⟩, 15) := ⟨⟨by decide +kernel, by decide +kernel⟩, List.mem_of_getElem? (i := 832) (by decide +kernel), List.mem_of_getElem? (i := 971) (by decide +kernel), List.mem_of_getElem? (i := 972) (by decide +kernel)⟩
def lw_privs_3 : List (MethodName × Nat) := [(⟨"GossipCountsModel", "added", "(I)I"⟩, 15), (⟨"GossipCountsModel", "setPart", "(III)V"⟩, 15), (⟨"GossipCountsModel", "whyNotTaken", "(II)I"⟩, 15), (⟨"GossipCountsModel", "isHeld", "(I)Z"⟩, 15), (⟨"GossipCountsModel", "isThing", "(I)Z"⟩, 15), (⟨"GossipCountsModel", "hasEnded", "(I)Z"⟩, 15), (⟨"GossipCountsModel", "lives", "(I)Z"⟩, 15), (⟨"GossipCountsModel", "part", "(II)I"⟩, 15), (⟨"GossipCountsModel", "changed", "(II)I"⟩, 15), (⟨"GossipCountsModel", "addReport", "(III)I"⟩, 15), (⟨"GossipCountsModel", "hearDue", "()V"⟩, 15), (⟨"GossipCountsModel", "firstDue", "()I"⟩, 15), (⟨"GossipCountsModel", "reportPart", "(II)I"⟩, 15), (⟨"GossipCountsModel", "hears", "(I)V"⟩, 15), (⟨"GossipCountsModel", "dropReport", "(I)V"⟩, 15), (⟨"GossipCountsModel", "underWay", "(I)I"⟩, 15)]
theorem lw_r3 : ∀ q ∈ lw_privs_3, lw_okq q := List.forall_mem_cons.mpr ⟨lw_p32, List.forall_mem_cons.mpr ⟨lw_p33, List.forall_mem_cons.mpr ⟨lw_p34, List.forall_mem_cons.mpr ⟨lw_p35, List.forall_mem_cons.mpr ⟨lw_p36, List.forall_mem_cons.mpr ⟨lw_p37, List.forall_mem_cons.mpr ⟨lw_p38, List.forall_mem_cons.mpr ⟨lw_p39, List.forall_mem_cons.mpr ⟨lw_p40, List.forall_mem_cons.mpr ⟨lw_p41, List.forall_mem_cons.mpr ⟨lw_p42, List.forall_mem_cons.mpr ⟨lw_p43, List.forall_mem_cons.mpr ⟨lw_p44, List.forall_mem_cons.mpr ⟨lw_p45, List.forall_mem_cons.mpr ⟨lw_p46, List.forall_mem_cons.mpr ⟨lw_p47, fun _ h => absurd h List.not_mem_nil⟩⟩⟩⟩⟩⟩⟩⟩⟩⟩⟩⟩⟩⟩⟩⟩
theorem lw_p48 : lw_okq (⟨"GossipCountsModel", "truth", "(I)I"⟩, 15) := ⟨⟨by decide +kernel, by decide +kernel⟩, List.mem_of_getElem? (i := 832) (by decide +kernel), List.mem_of_getElem? (i := 975) (by decide +kernel), List.mem_of_getElem? (i := 976) (by decide +kernel)⟩
theorem lw_p49 : lw_okq (⟨"GossipCountsModel", "slotOf", "(II)I"⟩, 15) := ⟨⟨by decide +kernel, by decide +kernel⟩, List.mem_of_getElem? (i := 832) (by decide +kernel), List.mem_of_getElem? (i := 979) (by decide +kernel), List.mem_of_getElem? (i := 980) (by decide +kernel)⟩
theorem lw_p50 : lw_okq (⟨"GossipCountsModel", "ends", "(II)V"⟩, 15) := ⟨⟨by decide +kernel, by decide +kernel⟩, List.mem_of_getElem? (i := 832) (by decide +kernel), List.mem_of_getElem? (i := 983) (by decide +kernel), List.mem_of_getElem? (i := 984) (by decide +kernel)⟩
theorem lw_p51 : lw_okq (⟨"GossipCountsModel", "endsToo", "(II)Z"⟩, 15) := ⟨⟨by decide +kernel, by decide +kernel⟩, List.mem_of_getElem? (i := 832) (by decide +kernel), List.mem_of_getElem? (i := 987) (by decide +kernel), List.mem_of_getElem? (i := 988) (by decide +kernel)⟩
theorem lw_p52 : lw_okq (⟨"GossipCountsModel", "whyNotPut", "(III)I"⟩, 15) := ⟨⟨by decide +kernel, by decide +kernel⟩, List.mem_of_getElem? (i := 832) (by decide +kernel), List.mem_of_getElem? (i := 995) (by decide +kernel), List.mem_of_getElem? (i := 996) (by decide +kernel)⟩
theorem lw_p53 : lw_okq (⟨"GossipCountsModel", "slandered", "(II)I"⟩, 15) := ⟨⟨by decide +kernel, by decide +kernel⟩, List.mem_of_getElem? (i := 832) (by decide +kernel), List.mem_of_getElem? (i := 1003) (by decide +kernel), List.mem_of_getElem? (i := 1004) (by decide +kernel)⟩
theorem lw_p54 : lw_okq (⟨"GossipCountsModel", "suspects", "()I"⟩, 15) := ⟨⟨by decide +kernel, by decide +kernel⟩, List.mem_of_getElem? (i := 832) (by decide +kernel), List.mem_of_getElem? (i := 1011) (by decide +kernel), List.mem_of_getElem? (i := 1012) (by decide +kernel)⟩
theorem lw_p55 : lw_okq (⟨"GossipCountsModel", "whyNotPassed", "(I)I"⟩, 15) := ⟨⟨by decide +kernel, by decide +kernel⟩, List.mem_of_getElem? (i := 832) (by decide +kernel), List.mem_of_getElem? (i := 1026) (by decide +kernel), List.mem_of_getElem? (i := 1027) (by decide +kernel)⟩
theorem lw_p56 : lw_okq (⟨"GossipCountsModel", "passed", "(I)I"⟩, 15) := ⟨⟨by decide +kernel, by decide +kernel⟩, List.mem_of_getElem? (i := 832) (by decide +kernel), List.mem_of_getElem? (i := 1030) (by decide +kernel), List.mem_of_getElem? (i := 1031) (by decide +kernel)⟩
theorem lw_p57 : lw_okq (⟨"GossipCountsModel", "tick", "()V"⟩, 15) := ⟨⟨by decide +kernel, by decide +kernel⟩, List.mem_of_getElem? (i := 832) (by decide +kernel), List.mem_of_getElem? (i := 1034) (by decide +kernel), List.mem_of_getElem? (i := 1035) (by decide +kernel)⟩
theorem lw_p58 : lw_okq (⟨"GossipCountsModel", "holdTrial", "()V"⟩, 15) := ⟨⟨by decide +kernel, by decide +kernel⟩, List.mem_of_getElem? (i := 832) (by decide +kernel), List.mem_of_getElem? (i := 1038) (by decide +kernel), List.mem_of_getElem? (i := 1039) (by decide +kernel)⟩
theorem lw_p59 : lw_okq (⟨"GossipCountsModel", "tries", "(I)V"⟩, 15) := ⟨⟨by decide +kernel, by decide +kernel⟩, List.mem_of_getElem? (i := 832) (by decide +kernel), List.mem_of_getElem? (i := 1042) (by decide +kernel), List.mem_of_getElem? (i := 1043) (by decide +kernel)⟩
theorem lw_p60 : lw_okq (⟨"GossipCountsModel", "findSet", "(I)Z"⟩, 15) := ⟨⟨by decide +kernel, by decide +kernel⟩, List.mem_of_getElem? (i := 832) (by decide +kernel), List.mem_of_getElem? (i := 1046) (by decide +kernel), List.mem_of_getElem? (i := 1047) (by decide +kernel)⟩
theorem lw_p61 : lw_okq (⟨"GossipCountsModel", "spread", "([I)V"⟩, 15) := ⟨⟨by decide +kernel, by decide +kernel⟩, List.mem_of_getElem? (i := 832) (by decide +kernel), List.mem_of_getElem? (i := 1053) (by decide +kernel), List.mem_of_getElem? (i := 1054) (by decide +kernel)⟩
theorem lw_p62 : lw_okq (⟨"GossipCountsModel", "findInnocent", "()V"⟩, 15) := ⟨⟨by decide +kernel, by decide +kernel⟩, List.mem_of_getElem? (i := 832) (by decide +kernel), List.mem_of_getElem? (i := 1057) (by decide +kernel), List.mem_of_getElem? (i := 1058) (by decide +kernel)⟩
theorem lw_p63 : lw_okq (⟨"GossipCountsModel", "restOf", "(I)I"⟩, 15) := ⟨⟨by decide +kernel, by decide +kernel⟩, List.mem_of_getElem? (i := 832) (by decide +kernel), List.mem_of_getElem? (i := 1061) (by decide +kernel), List.mem_of_getElem? (i := 1062) (by decide +kernel)⟩
def lw_privs_4 : List (MethodName × Nat) := [(⟨"GossipCountsModel", "truth", "(I)I"⟩, 15), (⟨"GossipCountsModel", "slotOf", "(II)I"⟩, 15), (⟨"GossipCountsModel", "ends", "(II)V"⟩, 15), (⟨"GossipCountsModel", "endsToo", "(II)Z"⟩, 15), (⟨"GossipCountsModel", "whyNotPut", "(III)I"⟩, 15), (⟨"GossipCountsModel", "slandered", "(II)I"⟩, 15), (⟨"GossipCountsModel", "suspects", "()I"⟩, 15), (⟨"GossipCountsModel", "whyNotPassed", "(I)I"⟩, 15), (⟨"GossipCountsModel", "passed", "(I)I"⟩, 15), (⟨"GossipCountsModel", "tick", "()V"⟩, 15), (⟨"GossipCountsModel", "holdTrial", "()V"⟩, 15), (⟨"GossipCountsModel", "tries", "(I)V"⟩, 15), (⟨"GossipCountsModel", "findSet", "(I)Z"⟩, 15), (⟨"GossipCountsModel", "spread", "([I)V"⟩, 15), (⟨"GossipCountsModel", "findInnocent", "()V"⟩, 15), (⟨"GossipCountsModel", "restOf", "(I)I"⟩, 15)]
theorem lw_r4 : ∀ q ∈ lw_privs_4, lw_okq q := List.forall_mem_cons.mpr ⟨lw_p48, List.forall_mem_cons.mpr ⟨lw_p49, List.forall_mem_cons.mpr ⟨lw_p50, List.forall_mem_cons.mpr ⟨lw_p51, List.forall_mem_cons.mpr ⟨lw_p52, List.forall_mem_cons.mpr ⟨lw_p53, List.forall_mem_cons.mpr ⟨lw_p54, List.forall_mem_cons.mpr ⟨lw_p55, List.forall_mem_cons.mpr ⟨lw_p56, List.forall_mem_cons.mpr ⟨lw_p57, List.forall_mem_cons.mpr ⟨lw_p58, List.forall_mem_cons.mpr ⟨lw_p59, List.forall_mem_cons.mpr ⟨lw_p60, List.forall_mem_cons.mpr ⟨lw_p61, List.forall_mem_cons.mpr ⟨lw_p62, List.forall_mem_cons.mpr ⟨lw_p63, fun _ h => absurd h List.not_mem_nil⟩⟩⟩⟩⟩⟩⟩⟩⟩⟩⟩⟩⟩⟩⟩⟩
theorem lw_p64 : lw_okq (⟨"GossipCountsModel", "nextToEnd", "()I"⟩, 15) := ⟨⟨by decide +kernel, by decide +kernel⟩, List.mem_of_getElem? (i := 832) (by decide +kernel), List.mem_of_getElem? (i := 1065) (by decide +kernel), List.mem_of_getElem? (i := 1066) (by decide +kernel)⟩
theorem lw_p65 : lw_okq (⟨"GossipCountsModel", "sumUnderWay", "(I)I"⟩, 15) := ⟨⟨by decide +kernel, by decide +kernel⟩, List.mem_of_getElem? (i := 832) (by decide +kernel), List.mem_of_getElem? (i := 1077) (by decide +kernel), List.mem_of_getElem? (i := 1078) (by decide +kernel)⟩
theorem lw_p66 : lw_okq (⟨"GossipCountsModel", "isProgram", "()Z"⟩, 15) := ⟨⟨by decide +kernel, by decide +kernel⟩, List.mem_of_getElem? (i := 832) (by decide +kernel), List.mem_of_getElem? (i := 1106) (by decide +kernel), List.mem_of_getElem? (i := 1107) (by decide +kernel)⟩
theorem lw_p67 : lw_okq (⟨"GossipCountsModel", "does", "()Z"⟩, 15) := ⟨⟨by decide +kernel, by decide +kernel⟩, List.mem_of_getElem? (i := 832) (by decide +kernel), List.mem_of_getElem? (i := 1113) (by decide +kernel), List.mem_of_getElem? (i := 1114) (by decide +kernel)⟩
theorem lw_p68 : lw_okq (⟨"GossipCountsModel", "note", "(II)V"⟩, 15) := ⟨⟨by decide +kernel, by decide +kernel⟩, List.mem_of_getElem? (i := 832) (by decide +kernel), List.mem_of_getElem? (i := 1117) (by decide +kernel), List.mem_of_getElem? (i := 1118) (by decide +kernel)⟩
theorem lw_p69 : lw_okq (⟨"GossipCountsModel", "thingPart", "(II)I"⟩, 15) := ⟨⟨by decide +kernel, by decide +kernel⟩, List.mem_of_getElem? (i := 832) (by decide +kernel), List.mem_of_getElem? (i := 1129) (by decide +kernel), List.mem_of_getElem? (i := 1130) (by decide +kernel)⟩
theorem lw_p70 : lw_okq (⟨"GossipCountsModel", "findReached", "()I"⟩, 15) := ⟨⟨by decide +kernel, by decide +kernel⟩, List.mem_of_getElem? (i := 832) (by decide +kernel), List.mem_of_getElem? (i := 1133) (by decide +kernel), List.mem_of_getElem? (i := 1134) (by decide +kernel)⟩
theorem lw_p71 : lw_okq (⟨"GossipCountsModel", "atPlace", "(I)I"⟩, 15) := ⟨⟨by decide +kernel, by decide +kernel⟩, List.mem_of_getElem? (i := 832) (by decide +kernel), List.mem_of_getElem? (i := 1149) (by decide +kernel), List.mem_of_getElem? (i := 1150) (by decide +kernel)⟩
theorem lw_p72 : lw_okq (⟨"GossipCountsModel", "countOf", "(I)I"⟩, 15) := ⟨⟨by decide +kernel, by decide +kernel⟩, List.mem_of_getElem? (i := 832) (by decide +kernel), List.mem_of_getElem? (i := 1161) (by decide +kernel), List.mem_of_getElem? (i := 1162) (by decide +kernel)⟩
theorem lw_p73 : lw_okq (⟨"GossipCountsModel", "living", "()I"⟩, 15) := ⟨⟨by decide +kernel, by decide +kernel⟩, List.mem_of_getElem? (i := 832) (by decide +kernel), List.mem_of_getElem? (i := 1165) (by decide +kernel), List.mem_of_getElem? (i := 1166) (by decide +kernel)⟩
theorem lw_p74 : lw_okq (⟨"GossipCountsModel", "holding", "()I"⟩, 15) := ⟨⟨by decide +kernel, by decide +kernel⟩, List.mem_of_getElem? (i := 832) (by decide +kernel), List.mem_of_getElem? (i := 1169) (by decide +kernel), List.mem_of_getElem? (i := 1170) (by decide +kernel)⟩
theorem lw_p75 : lw_okq (⟨"GossipCountsModel", "mistaken", "()I"⟩, 15) := ⟨⟨by decide +kernel, by decide +kernel⟩, List.mem_of_getElem? (i := 832) (by decide +kernel), List.mem_of_getElem? (i := 1173) (by decide +kernel), List.mem_of_getElem? (i := 1174) (by decide +kernel)⟩
theorem lw_p76 : lw_okq (⟨"GossipCountsModel", "wouldPass", "(II)I"⟩, 15) := ⟨⟨by decide +kernel, by decide +kernel⟩, List.mem_of_getElem? (i := 832) (by decide +kernel), List.mem_of_getElem? (i := 1185) (by decide +kernel), List.mem_of_getElem? (i := 1186) (by decide +kernel)⟩
theorem lw_p77 : lw_okq (⟨"GossipCountsModel", "wouldEnd", "(I)I"⟩, 15) := ⟨⟨by decide +kernel, by decide +kernel⟩, List.mem_of_getElem? (i := 832) (by decide +kernel), List.mem_of_getElem? (i := 1193) (by decide +kernel), List.mem_of_getElem? (i := 1194) (by decide +kernel)⟩
theorem lw_p78 : lw_okq (⟨"GossipCountsModel", "wouldTry", "(I)I"⟩, 15) := ⟨⟨by decide +kernel, by decide +kernel⟩, List.mem_of_getElem? (i := 832) (by decide +kernel), List.mem_of_getElem? (i := 1201) (by decide +kernel), List.mem_of_getElem? (i := 1202) (by decide +kernel)⟩
theorem lw_p79 : lw_okq (⟨"GossipCountsModel", "ringOf", "(I)I"⟩, 15) := ⟨⟨by decide +kernel, by decide +kernel⟩, List.mem_of_getElem? (i := 832) (by decide +kernel), List.mem_of_getElem? (i := 1209) (by decide +kernel), List.mem_of_getElem? (i := 1210) (by decide +kernel)⟩
def lw_privs_5 : List (MethodName × Nat) := [(⟨"GossipCountsModel", "nextToEnd", "()I"⟩, 15), (⟨"GossipCountsModel", "sumUnderWay", "(I)I"⟩, 15), (⟨"GossipCountsModel", "isProgram", "()Z"⟩, 15), (⟨"GossipCountsModel", "does", "()Z"⟩, 15), (⟨"GossipCountsModel", "note", "(II)V"⟩, 15), (⟨"GossipCountsModel", "thingPart", "(II)I"⟩, 15), (⟨"GossipCountsModel", "findReached", "()I"⟩, 15), (⟨"GossipCountsModel", "atPlace", "(I)I"⟩, 15), (⟨"GossipCountsModel", "countOf", "(I)I"⟩, 15), (⟨"GossipCountsModel", "living", "()I"⟩, 15), (⟨"GossipCountsModel", "holding", "()I"⟩, 15), (⟨"GossipCountsModel", "mistaken", "()I"⟩, 15), (⟨"GossipCountsModel", "wouldPass", "(II)I"⟩, 15), (⟨"GossipCountsModel", "wouldEnd", "(I)I"⟩, 15), (⟨"GossipCountsModel", "wouldTry", "(I)I"⟩, 15), (⟨"GossipCountsModel", "ringOf", "(I)I"⟩, 15)]
theorem lw_r5 : ∀ q ∈ lw_privs_5, lw_okq q := List.forall_mem_cons.mpr ⟨lw_p64, List.forall_mem_cons.mpr ⟨lw_p65, List.forall_mem_cons.mpr ⟨lw_p66, List.forall_mem_cons.mpr ⟨lw_p67, List.forall_mem_cons.mpr ⟨lw_p68, List.forall_mem_cons.mpr ⟨lw_p69, List.forall_mem_cons.mpr ⟨lw_p70, List.forall_mem_cons.mpr ⟨lw_p71, List.forall_mem_cons.mpr ⟨lw_p72, List.forall_mem_cons.mpr ⟨lw_p73, List.forall_mem_cons.mpr ⟨lw_p74, List.forall_mem_cons.mpr ⟨lw_p75, List.forall_mem_cons.mpr ⟨lw_p76, List.forall_mem_cons.mpr ⟨lw_p77, List.forall_mem_cons.mpr ⟨lw_p78, List.forall_mem_cons.mpr ⟨lw_p79, fun _ h => absurd h List.not_mem_nil⟩⟩⟩⟩⟩⟩⟩⟩⟩⟩⟩⟩⟩⟩⟩⟩
theorem lw_p80 : lw_okq (⟨"GossipCountsModel", "findFrom", "(I)V"⟩, 15) := ⟨⟨by decide +kernel, by decide +kernel⟩, List.mem_of_getElem? (i := 832) (by decide +kernel), List.mem_of_getElem? (i := 1213) (by decide +kernel), List.mem_of_getElem? (i := 1214) (by decide +kernel)⟩
theorem lw_p81 : lw_okq (⟨"GossipCountsModel", "cut", "(I)I"⟩, 15) := ⟨⟨by decide +kernel, by decide +kernel⟩, List.mem_of_getElem? (i := 832) (by decide +kernel), List.mem_of_getElem? (i := 1221) (by decide +kernel), List.mem_of_getElem? (i := 1222) (by decide +kernel)⟩
theorem lw_p82 : lw_okq (⟨"GossipCountsModel", "wouldBear", "(I)I"⟩, 15) := ⟨⟨by decide +kernel, by decide +kernel⟩, List.mem_of_getElem? (i := 832) (by decide +kernel), List.mem_of_getElem? (i := 1229) (by decide +kernel), List.mem_of_getElem? (i := 1230) (by decide +kernel)⟩
def lw_privs_6 : List (MethodName × Nat) := [(⟨"GossipCountsModel", "findFrom", "(I)V"⟩, 15), (⟨"GossipCountsModel", "cut", "(I)I"⟩, 15), (⟨"GossipCountsModel", "wouldBear", "(I)I"⟩, 15)]
theorem lw_r6 : ∀ q ∈ lw_privs_6, lw_okq q := List.forall_mem_cons.mpr ⟨lw_p80, List.forall_mem_cons.mpr ⟨lw_p81, List.forall_mem_cons.mpr ⟨lw_p82, fun _ h => absurd h List.not_mem_nil⟩⟩⟩
def lw_privs : List (MethodName × Nat) := lw_privs_1 ++ (lw_privs_2 ++ (lw_privs_3 ++ (lw_privs_4 ++ (lw_privs_5 ++ (lw_privs_6)))))
def lw_tbl : List Cond := k2_sels lw_privs ++ tables_1
theorem lw_privs_ok : ∀ q ∈ lw_privs, lw_okq q := by
  show ∀ q ∈ lw_privs_1 ++ (lw_privs_2 ++ (lw_privs_3 ++ (lw_privs_4 ++ (lw_privs_5 ++ (lw_privs_6))))), lw_okq q
  exact List.forall_mem_append.mpr ⟨lw_r1, List.forall_mem_append.mpr ⟨lw_r2, List.forall_mem_append.mpr ⟨lw_r3, List.forall_mem_append.mpr ⟨lw_r4, List.forall_mem_append.mpr ⟨lw_r5, lw_r6⟩⟩⟩⟩⟩
/-- the streams that the claim lets the run draw from -/
abbrev lw_cs : List Choice := [Jvm.Choice.named "NaN.bits"]
theorem lw_bits : nanBits ∈ lw_cs := by first | decide | exact List.mem_cons_self | simp [lw_cs, nanBits]
def RX0 : String := "GossipCounts$Holdings"
def TX0 : u_T := fun k => match k with
  | _ => ("GossipCounts$Holdings", "held", "[I", true)
def tyX0 : Nat → FieldType := fun k => match k with
  | _ => .array .int
abbrev wsX00 : List Cond := u_ws RX0 TX0 1
theorem nmX0 : ∀ a, a < 1 → ∀ b, b < 1 → a ≠ b → (TX0 a).2.1 ≠ (TX0 b).2.1 := by decide +kernel
theorem tyX0_ok : ∀ k, k < 1 → parseFieldDescriptor (TX0 k).2.2.1 = some (tyX0 k) := by decide +kernel
abbrev cX0_init : ByteArray := prog_2_method_1_code
def yX0_init : MethodName := ⟨RX0, "<init>", "()V"⟩
abbrev cX0_copyFrom : ByteArray := prog_2_method_2_code
def yX0_copyFrom : MethodName := ⟨RX0, "copyFrom", "(LGossipCounts$Holdings;)V"⟩
abbrev cX0_at : ByteArray := prog_2_method_3_code
def yX0_at : MethodName := ⟨RX0, "at", "(I)I"⟩
abbrev cX0_hold : ByteArray := prog_2_method_4_code
def yX0_hold : MethodName := ⟨RX0, "hold", "(II)V"⟩
abbrev cX0_taken : ByteArray := prog_2_method_5_code
def yX0_taken : MethodName := ⟨RX0, "taken", "()I"⟩
abbrev cX0_truthOf : ByteArray := prog_2_method_6_code
def yX0_truthOf : MethodName := ⟨RX0, "truthOf", "(I)I"⟩
abbrev cX0_slotsThatHold : ByteArray := prog_2_method_7_code
def yX0_slotsThatHold : MethodName := ⟨RX0, "slotsThatHold", "(II)I"⟩
abbrev cX0_letGo : ByteArray := prog_2_method_8_code
def yX0_letGo : MethodName := ⟨RX0, "letGo", "(II)Z"⟩
abbrev cX0_reached : ByteArray := prog_2_method_9_code
def yX0_reached : MethodName := ⟨RX0, "reached", "()I"⟩
abbrev cX0_reachOf : ByteArray := prog_2_method_10_code
def yX0_reachOf : MethodName := ⟨RX0, "reachOf", "(I)I"⟩
abbrev cX0_ringOf : ByteArray := prog_2_method_11_code
def yX0_ringOf : MethodName := ⟨RX0, "ringOf", "(I)I"⟩
abbrev cX0_cutWithMostLost : ByteArray := prog_2_method_12_code
def yX0_cutWithMostLost : MethodName := ⟨RX0, "cutWithMostLost", "()I"⟩
abbrev cX0_lostWithout : ByteArray := prog_2_method_13_code
def yX0_lostWithout : MethodName := ⟨RX0, "lostWithout", "(I)I"⟩
abbrev cX0_reachedFrom : ByteArray := prog_2_method_14_code
def yX0_reachedFrom : MethodName := ⟨RX0, "reachedFrom", "(II)I"⟩
abbrev cX0_reachedWithout : ByteArray := prog_2_method_15_code
def yX0_reachedWithout : MethodName := ⟨RX0, "reachedWithout", "(I)I"⟩
abbrev cX0_heldAmong : ByteArray := prog_2_method_16_code
def yX0_heldAmong : MethodName := ⟨RX0, "heldAmong", "(III)I"⟩
def RX1 : String := "GossipCounts$Reports"
def TX1 : u_T := fun k => match k with
  | 0 => ("GossipCounts$Reports", "heard", "I", false)
  | 1 => ("GossipCounts$Reports", "made", "I", false)
  | 2 => ("GossipCounts$Reports", "rows", "[I", true)
  | 3 => ("GossipCounts$Reports", "numbers", "[I", true)
  | _ => ("GossipCounts$Reports", "sums", "[I", true)
def tyX1 : Nat → FieldType := fun k => match k with
  | 0 => .int
  | 1 => .int
  | 2 => .array .int
  | 3 => .array .int
  | _ => .array .int
abbrev wsX10 : List Cond := u_ws RX1 TX1 5
theorem nmX1 : ∀ a, a < 5 → ∀ b, b < 5 → a ≠ b → (TX1 a).2.1 ≠ (TX1 b).2.1 := by decide +kernel
theorem tyX1_ok : ∀ k, k < 5 → parseFieldDescriptor (TX1 k).2.2.1 = some (tyX1 k) := by decide +kernel
abbrev cX1_init : ByteArray := prog_3_method_1_code
def yX1_init : MethodName := ⟨RX1, "<init>", "()V"⟩
abbrev cX1_copyFrom : ByteArray := prog_3_method_2_code
def yX1_copyFrom : MethodName := ⟨RX1, "copyFrom", "(LGossipCounts$Reports;)V"⟩
abbrev cX1_underWay : ByteArray := prog_3_method_3_code
def yX1_underWay : MethodName := ⟨RX1, "underWay", "()I"⟩
abbrev cX1_part : ByteArray := prog_3_method_4_code
def yX1_part : MethodName := ⟨RX1, "part", "(II)I"⟩
abbrev cX1_anyDue : ByteArray := prog_3_method_5_code
def yX1_anyDue : MethodName := ⟨RX1, "anyDue", "(I)Z"⟩
abbrev cX1_anyFor : ByteArray := prog_3_method_6_code
def yX1_anyFor : MethodName := ⟨RX1, "anyFor", "(I)Z"⟩
abbrev cX1_numberFor : ByteArray := prog_3_method_7_code
def yX1_numberFor : MethodName := ⟨RX1, "numberFor", "(I)I"⟩
abbrev cX1_sumFor : ByteArray := prog_3_method_8_code
def yX1_sumFor : MethodName := ⟨RX1, "sumFor", "(I)I"⟩
abbrev cX1_make : ByteArray := prog_3_method_9_code
def yX1_make : MethodName := ⟨RX1, "make", "(IIII)I"⟩
abbrev cX1_dropFirst : ByteArray := prog_3_method_10_code
def yX1_dropFirst : MethodName := ⟨RX1, "dropFirst", "()V"⟩
def RX2 : String := "GossipCounts$Text"
def TX2 : u_T := fun k => match k with
  | 0 => ("GossipCounts$Text", "length", "I", false)
  | 1 => ("GossipCounts$Text", "codes", "[I", true)
  | 2 => ("GossipCounts$Text", "letter", "I", false)
  | 3 => ("GossipCounts$Text", "numbers", "[I", true)
  | _ => ("GossipCounts$Text", "at", "I", false)
def tyX2 : Nat → FieldType := fun k => match k with
  | 0 => .int
  | 1 => .array .int
  | 2 => .int
  | 3 => .array .int
  | _ => .int
abbrev wsX20 : List Cond := u_ws RX2 TX2 5
theorem nmX2 : ∀ a, a < 5 → ∀ b, b < 5 → a ≠ b → (TX2 a).2.1 ≠ (TX2 b).2.1 := by decide +kernel
theorem tyX2_ok : ∀ k, k < 5 → parseFieldDescriptor (TX2 k).2.2.1 = some (tyX2 k) := by decide +kernel
abbrev cX2_init : ByteArray := prog_4_method_1_code
def yX2_init : MethodName := ⟨RX2, "<init>", "()V"⟩
abbrev cX2_errorAt : ByteArray := prog_4_method_2_code
def yX2_errorAt : MethodName := ⟨RX2, "errorAt", "()I"⟩
abbrev cX2_isProgram : ByteArray := prog_4_method_3_code
def yX2_isProgram : MethodName := ⟨RX2, "isProgram", "()Z"⟩
abbrev cX2_next : ByteArray := prog_4_method_4_code
def yX2_next : MethodName := ⟨RX2, "next", "(II)I"⟩
abbrev cX2_nextInStep : ByteArray := prog_4_method_5_code
def yX2_nextInStep : MethodName := ⟨RX2, "nextInStep", "(I)I"⟩
abbrev cX2_nextInThing : ByteArray := prog_4_method_6_code
def yX2_nextInThing : MethodName := ⟨RX2, "nextInThing", "(IIII)I"⟩
abbrev cX2_nextIf : ByteArray := prog_4_method_7_code
def yX2_nextIf : MethodName := ⟨RX2, "nextIf", "(III)I"⟩
abbrev cX2_isDigit : ByteArray := prog_4_method_8_code
def yX2_isDigit : MethodName := ⟨RX2, "isDigit", "(III)Z"⟩
abbrev cX2_toBegin : ByteArray := prog_4_method_9_code
def yX2_toBegin : MethodName := ⟨RX2, "toBegin", "()V"⟩
abbrev cX2_readStep : ByteArray := prog_4_method_10_code
def yX2_readStep : MethodName := ⟨RX2, "readStep", "()Z"⟩
abbrev cX2_readNumber : ByteArray := prog_4_method_11_code
def yX2_readNumber : MethodName := ⟨RX2, "readNumber", "()I"⟩
abbrev cX2_hasMore : ByteArray := prog_4_method_12_code
def yX2_hasMore : MethodName := ⟨RX2, "hasMore", "()Z"⟩
def RX3 : String := "GossipCounts$World"
def TX3 : u_T := fun k => match k with
  | 0 => ("GossipCounts$World", "time", "I", false)
  | 1 => ("GossipCounts$World", "things", "I", false)
  | 2 => ("GossipCounts$World", "living", "I", false)
  | 3 => ("GossipCounts$World", "suspects", "I", false)
  | 4 => ("GossipCounts$World", "wronged", "I", false)
  | 5 => ("GossipCounts$World", "ends", "I", false)
  | 6 => ("GossipCounts$World", "slanderFound", "I", false)
  | 7 => ("GossipCounts$World", "settings", "[I", true)
  | 8 => ("GossipCounts$World", "ranks", "[I", true)
  | 9 => ("GossipCounts$World", "counts", "[I", true)
  | 10 => ("GossipCounts$World", "came", "[I", true)
  | 11 => ("GossipCounts$World", "endNumbers", "[I", true)
  | 12 => ("GossipCounts$World", "endTimes", "[I", true)
  | 13 => ("GossipCounts$World", "endKinds", "[I", true)
  | 14 => ("GossipCounts$World", "endOrder", "[I", true)
  | 15 => ("GossipCounts$World", "holdings", "LGossipCounts$Holdings;", true)
  | _ => ("GossipCounts$World", "reports", "LGossipCounts$Reports;", true)
def tyX3 : Nat → FieldType := fun k => match k with
  | 0 => .int
  | 1 => .int
  | 2 => .int
  | 3 => .int
  | 4 => .int
  | 5 => .int
  | 6 => .int
  | 7 => .array .int
  | 8 => .array .int
  | 9 => .array .int
  | 10 => .array .int
  | 11 => .array .int
  | 12 => .array .int
  | 13 => .array .int
  | 14 => .array .int
  | 15 => .object "GossipCounts$Holdings"
  | _ => .object "GossipCounts$Reports"
abbrev wsX30 : List Cond := u_ws RX3 TX3 17
theorem nmX3 : ∀ a, a < 17 → ∀ b, b < 17 → a ≠ b → (TX3 a).2.1 ≠ (TX3 b).2.1 := by decide +kernel
theorem tyX3_ok : ∀ k, k < 17 → parseFieldDescriptor (TX3 k).2.2.1 = some (tyX3 k) := by decide +kernel
abbrev cX3_init : ByteArray := prog_5_method_1_code
def yX3_init : MethodName := ⟨RX3, "<init>", "()V"⟩
abbrev cX3_copyFrom : ByteArray := prog_5_method_2_code
def yX3_copyFrom : MethodName := ⟨RX3, "copyFrom", "(LGossipCounts$World;)V"⟩
abbrev cX3_lives : ByteArray := prog_5_method_3_code
def yX3_lives : MethodName := ⟨RX3, "lives", "(I)Z"⟩
abbrev cX3_mayBeHeld : ByteArray := prog_5_method_4_code
def yX3_mayBeHeld : MethodName := ⟨RX3, "mayBeHeld", "(I)Z"⟩
abbrev cX3_bring : ByteArray := prog_5_method_5_code
def yX3_bring : MethodName := ⟨RX3, "bring", "(I)I"⟩
abbrev cX3_change : ByteArray := prog_5_method_6_code
def yX3_change : MethodName := ⟨RX3, "change", "(II)I"⟩
abbrev cX3_lie : ByteArray := prog_5_method_7_code
def yX3_lie : MethodName := ⟨RX3, "lie", "(II)I"⟩
abbrev cX3_setCountsRight : ByteArray := prog_5_method_8_code
def yX3_setCountsRight : MethodName := ⟨RX3, "setCountsRight", "()I"⟩
abbrev cX3_passTicks : ByteArray := prog_5_method_9_code
def yX3_passTicks : MethodName := ⟨RX3, "passTicks", "(I)I"⟩
abbrev cX3_holdTrial : ByteArray := prog_5_method_10_code
def yX3_holdTrial : MethodName := ⟨RX3, "holdTrial", "()I"⟩
abbrev cX3_judge : ByteArray := prog_5_method_11_code
def yX3_judge : MethodName := ⟨RX3, "judge", "(I)V"⟩
abbrev cX3_withRest : ByteArray := prog_5_method_12_code
def yX3_withRest : MethodName := ⟨RX3, "withRest", "(I)I"⟩
abbrev cX3_highestOf : ByteArray := prog_5_method_13_code
def yX3_highestOf : MethodName := ⟨RX3, "highestOf", "(I)I"⟩
abbrev cX3_hearDue : ByteArray := prog_5_method_14_code
def yX3_hearDue : MethodName := ⟨RX3, "hearDue", "()V"⟩
abbrev cX3_mustEnd : ByteArray := prog_5_method_15_code
def yX3_mustEnd : MethodName := ⟨RX3, "mustEnd", "(I)Z"⟩
abbrev cX3_endThing : ByteArray := prog_5_method_16_code
def yX3_endThing : MethodName := ⟨RX3, "endThing", "(III)V"⟩
abbrev cX3_dueTime : ByteArray := prog_5_method_17_code
def yX3_dueTime : MethodName := ⟨RX3, "dueTime", "(I)I"⟩
abbrev cX3_isWrong : ByteArray := prog_5_method_18_code
def yX3_isWrong : MethodName := ⟨RX3, "isWrong", "(I)Z"⟩
abbrev cX3_property : ByteArray := prog_5_method_19_code
def yX3_property : MethodName := ⟨RX3, "property", "(II)I"⟩
abbrev cX3_total : ByteArray := prog_5_method_20_code
def yX3_total : MethodName := ⟨RX3, "total", "(I)I"⟩
abbrev cX3_endsInTrials : ByteArray := prog_5_method_21_code
def yX3_endsInTrials : MethodName := ⟨RX3, "endsInTrials", "()I"⟩
abbrev cX3_wrongCounts : ByteArray := prog_5_method_22_code
def yX3_wrongCounts : MethodName := ⟨RX3, "wrongCounts", "()I"⟩
def RX4 : String := "GossipCounts"
def TX4 : u_T := fun k => match k with
  | 0 => ("GossipCounts", "now", "LGossipCounts$World;", true)
  | 1 => ("GossipCounts", "ahead", "LGossipCounts$World;", true)
  | 2 => ("GossipCounts", "slandered", "LGossipCounts$World;", true)
  | 3 => ("GossipCounts", "saved", "[LGossipCounts$World;", true)
  | 4 => ("GossipCounts", "savedStates", "I", false)
  | _ => ("GossipCounts", "text", "LGossipCounts$Text;", true)
def tyX4 : Nat → FieldType := fun k => match k with
  | 0 => .object "GossipCounts$World"
  | 1 => .object "GossipCounts$World"
  | 2 => .object "GossipCounts$World"
  | 3 => .array (.object "GossipCounts$World")
  | 4 => .int
  | _ => .object "GossipCounts$Text"
abbrev wsX40 : List Cond := u_ws RX4 TX4 6
theorem nmX4 : ∀ a, a < 6 → ∀ b, b < 6 → a ≠ b → (TX4 a).2.1 ≠ (TX4 b).2.1 := by decide +kernel
theorem tyX4_ok : ∀ k, k < 6 → parseFieldDescriptor (TX4 k).2.2.1 = some (tyX4 k) := by decide +kernel
abbrev cX4_init : ByteArray := prog_1_method_1_code
def yX4_init : MethodName := ⟨RX4, "<init>", "()V"⟩
abbrev cX4_add : ByteArray := prog_1_method_2_code
def yX4_add : MethodName := ⟨RX4, "add", "(I)I"⟩
abbrev cX4_take : ByteArray := prog_1_method_3_code
def yX4_take : MethodName := ⟨RX4, "take", "(II)I"⟩
abbrev cX4_put : ByteArray := prog_1_method_4_code
def yX4_put : MethodName := ⟨RX4, "put", "(III)I"⟩
abbrev cX4_slander : ByteArray := prog_1_method_5_code
def yX4_slander : MethodName := ⟨RX4, "slander", "(II)I"⟩
abbrev cX4_suspect : ByteArray := prog_1_method_6_code
def yX4_suspect : MethodName := ⟨RX4, "suspect", "(I)I"⟩
abbrev cX4_set : ByteArray := prog_1_method_7_code
def yX4_set : MethodName := ⟨RX4, "set", "(II)I"⟩
abbrev cX4_pass : ByteArray := prog_1_method_8_code
def yX4_pass : MethodName := ⟨RX4, "pass", "(I)I"⟩
abbrev cX4_trial : ByteArray := prog_1_method_9_code
def yX4_trial : MethodName := ⟨RX4, "trial", "()I"⟩
abbrev cX4_audit : ByteArray := prog_1_method_10_code
def yX4_audit : MethodName := ⟨RX4, "audit", "()I"⟩
abbrev cX4_append : ByteArray := prog_1_method_11_code
def yX4_append : MethodName := ⟨RX4, "append", "(I)I"⟩
abbrev cX4_clearBuffer : ByteArray := prog_1_method_12_code
def yX4_clearBuffer : MethodName := ⟨RX4, "clearBuffer", "()I"⟩
abbrev cX4_firstError : ByteArray := prog_1_method_13_code
def yX4_firstError : MethodName := ⟨RX4, "firstError", "()I"⟩
abbrev cX4_run : ByteArray := prog_1_method_14_code
def yX4_run : MethodName := ⟨RX4, "run", "()I"⟩
abbrev cX4_undo : ByteArray := prog_1_method_15_code
def yX4_undo : MethodName := ⟨RX4, "undo", "()I"⟩
abbrev cX4_thing : ByteArray := prog_1_method_16_code
def yX4_thing : MethodName := ⟨RX4, "thing", "(II)I"⟩
abbrev cX4_slot : ByteArray := prog_1_method_17_code
def yX4_slot : MethodName := ⟨RX4, "slot", "(II)I"⟩
abbrev cX4_hand : ByteArray := prog_1_method_18_code
def yX4_hand : MethodName := ⟨RX4, "hand", "(I)I"⟩
abbrev cX4_report : ByteArray := prog_1_method_19_code
def yX4_report : MethodName := ⟨RX4, "report", "(II)I"⟩
abbrev cX4_ended : ByteArray := prog_1_method_20_code
def yX4_ended : MethodName := ⟨RX4, "ended", "(I)I"⟩
abbrev cX4_count : ByteArray := prog_1_method_21_code
def yX4_count : MethodName := ⟨RX4, "count", "(I)I"⟩
abbrev cX4_setting : ByteArray := prog_1_method_22_code
def yX4_setting : MethodName := ⟨RX4, "setting", "(I)I"⟩
abbrev cX4_ifPassed : ByteArray := prog_1_method_23_code
def yX4_ifPassed : MethodName := ⟨RX4, "ifPassed", "(II)I"⟩
abbrev cX4_endsIn : ByteArray := prog_1_method_24_code
def yX4_endsIn : MethodName := ⟨RX4, "endsIn", "(I)I"⟩
abbrev cX4_ifTried : ByteArray := prog_1_method_25_code
def yX4_ifTried : MethodName := ⟨RX4, "ifTried", "(I)I"⟩
abbrev cX4_ring : ByteArray := prog_1_method_26_code
def yX4_ring : MethodName := ⟨RX4, "ring", "(I)I"⟩
abbrev cX4_bestCut : ByteArray := prog_1_method_27_code
def yX4_bestCut : MethodName := ⟨RX4, "bestCut", "(I)I"⟩
abbrev cX4_bears : ByteArray := prog_1_method_28_code
def yX4_bears : MethodName := ⟨RX4, "bears", "(I)I"⟩
abbrev cX4_reachedShare : ByteArray := prog_1_method_29_code
def yX4_reachedShare : MethodName := ⟨RX4, "reachedShare", "()D"⟩
abbrev cX4_digest : ByteArray := prog_1_method_30_code
def yX4_digest : MethodName := ⟨RX4, "digest", "()J"⟩
abbrev cX4_mixed : ByteArray := prog_1_method_31_code
def yX4_mixed : MethodName := ⟨RX4, "mixed", "(JJ)J"⟩
abbrev cX4_withThings : ByteArray := prog_1_method_32_code
def yX4_withThings : MethodName := ⟨RX4, "withThings", "(J)J"⟩
abbrev cX4_withReportsAndEnds : ByteArray := prog_1_method_33_code
def yX4_withReportsAndEnds : MethodName := ⟨RX4, "withReportsAndEnds", "(J)J"⟩
abbrev cX4_withPassed : ByteArray := prog_1_method_34_code
def yX4_withPassed : MethodName := ⟨RX4, "withPassed", "(J)J"⟩
abbrev cX4_withTried : ByteArray := prog_1_method_35_code
def yX4_withTried : MethodName := ⟨RX4, "withTried", "(J)J"⟩
abbrev cX4_withBestCut : ByteArray := prog_1_method_36_code
def yX4_withBestCut : MethodName := ⟨RX4, "withBestCut", "(J)J"⟩
abbrev cX4_bitsOf : ByteArray := prog_1_method_37_code
def yX4_bitsOf : MethodName := ⟨RX4, "bitsOf", "(D)J"⟩
abbrev cX4_foresee : ByteArray := prog_1_method_38_code
def yX4_foresee : MethodName := ⟨RX4, "foresee", "(I)V"⟩
abbrev cX4_passedPart : ByteArray := prog_1_method_39_code
def yX4_passedPart : MethodName := ⟨RX4, "passedPart", "(I)I"⟩
abbrev cX4_foreseenEnd : ByteArray := prog_1_method_40_code
def yX4_foreseenEnd : MethodName := ⟨RX4, "foreseenEnd", "(I)I"⟩
abbrev cX4_foreseeTrial : ByteArray := prog_1_method_41_code
def yX4_foreseeTrial : MethodName := ⟨RX4, "foreseeTrial", "()V"⟩
abbrev cX4_triedPart : ByteArray := prog_1_method_42_code
def yX4_triedPart : MethodName := ⟨RX4, "triedPart", "(I)I"⟩
abbrev cX4_slandersToEnd : ByteArray := prog_1_method_43_code
def yX4_slandersToEnd : MethodName := ⟨RX4, "slandersToEnd", "(I)I"⟩
abbrev cX4_doStep : ByteArray := prog_1_method_44_code
def yX4_doStep : MethodName := ⟨RX4, "doStep", "()Z"⟩
abbrev cX4_save : ByteArray := prog_1_method_45_code
def yX4_save : MethodName := ⟨RX4, "save", "()V"⟩
abbrev cX4_isThing : ByteArray := prog_1_method_46_code
def yX4_isThing : MethodName := ⟨RX4, "isThing", "(I)Z"⟩
abbrev cX4_isThingOrNone : ByteArray := prog_1_method_47_code
def yX4_isThingOrNone : MethodName := ⟨RX4, "isThingOrNone", "(I)Z"⟩
abbrev cX4_isHand : ByteArray := prog_1_method_48_code
def yX4_isHand : MethodName := ⟨RX4, "isHand", "(I)Z"⟩
abbrev cX4_isSlot : ByteArray := prog_1_method_49_code
def yX4_isSlot : MethodName := ⟨RX4, "isSlot", "(I)Z"⟩
abbrev cX4_isSetting : ByteArray := prog_1_method_50_code
def yX4_isSetting : MethodName := ⟨RX4, "isSetting", "(I)Z"⟩
abbrev cX4_mostOf : ByteArray := prog_1_method_51_code
def yX4_mostOf : MethodName := ⟨RX4, "mostOf", "(I)I"⟩
abbrev cX4_placeOf : ByteArray := prog_1_method_52_code
def yX4_placeOf : MethodName := ⟨RX4, "placeOf", "(II)I"⟩
abbrev cX4_isIn : ByteArray := prog_1_method_53_code
def yX4_isIn : MethodName := ⟨RX4, "isIn", "(II)Z"⟩
def RX5 : String := "GossipCountsModel"
def TX5 : u_T := fun k => match k with
  | 0 => ("GossipCountsModel", "thrown", "I", false)
  | 1 => ("GossipCountsModel", "state", "[I", true)
  | 2 => ("GossipCountsModel", "kept", "[I", true)
  | 3 => ("GossipCountsModel", "saved", "[I", true)
  | 4 => ("GossipCountsModel", "savedMany", "I", false)
  | 5 => ("GossipCountsModel", "text", "[I", true)
  | 6 => ("GossipCountsModel", "textLength", "I", false)
  | 7 => ("GossipCountsModel", "isReached", "[I", true)
  | 8 => ("GossipCountsModel", "isInSet", "[I", true)
  | 9 => ("GossipCountsModel", "isInnocent", "[I", true)
  | 10 => ("GossipCountsModel", "isSuspect", "[I", true)
  | 11 => ("GossipCountsModel", "kind", "I", false)
  | 12 => ("GossipCountsModel", "first", "I", false)
  | 13 => ("GossipCountsModel", "second", "I", false)
  | _ => ("GossipCountsModel", "held", "I", false)
def tyX5 : Nat → FieldType := fun k => match k with
  | 0 => .int
  | 1 => .array .int
  | 2 => .array .int
  | 3 => .array .int
  | 4 => .int
  | 5 => .array .int
  | 6 => .int
  | 7 => .array .int
  | 8 => .array .int
  | 9 => .array .int
  | 10 => .array .int
  | 11 => .int
  | 12 => .int
  | 13 => .int
  | _ => .int
abbrev wsX50 : List Cond := u_ws RX5 TX5 15
theorem nmX5 : ∀ a, a < 15 → ∀ b, b < 15 → a ≠ b → (TX5 a).2.1 ≠ (TX5 b).2.1 := by decide +kernel
theorem tyX5_ok : ∀ k, k < 15 → parseFieldDescriptor (TX5 k).2.2.1 = some (tyX5 k) := by decide +kernel
abbrev cX5_init : ByteArray := prog_7_method_1_code
def yX5_init : MethodName := ⟨RX5, "<init>", "()V"⟩
abbrev cX5_thrown : ByteArray := prog_7_method_2_code
def yX5_thrown : MethodName := ⟨RX5, "thrown", "()I"⟩
abbrev cX5_copy : ByteArray := prog_7_method_3_code
def yX5_copy : MethodName := ⟨RX5, "copy", "([II[II)V"⟩
abbrev cX5_within : ByteArray := prog_7_method_4_code
def yX5_within : MethodName := ⟨RX5, "within", "(III)Z"⟩
abbrev cX5_save : ByteArray := prog_7_method_5_code
def yX5_save : MethodName := ⟨RX5, "save", "()V"⟩
abbrev cX5_isThing : ByteArray := prog_7_method_6_code
def yX5_isThing : MethodName := ⟨RX5, "isThing", "(I)Z"⟩
abbrev cX5_part : ByteArray := prog_7_method_7_code
def yX5_part : MethodName := ⟨RX5, "part", "(II)I"⟩
abbrev cX5_setPart : ByteArray := prog_7_method_8_code
def yX5_setPart : MethodName := ⟨RX5, "setPart", "(III)V"⟩
abbrev cX5_lives : ByteArray := prog_7_method_9_code
def yX5_lives : MethodName := ⟨RX5, "lives", "(I)Z"⟩
abbrev cX5_slotOf : ByteArray := prog_7_method_10_code
def yX5_slotOf : MethodName := ⟨RX5, "slotOf", "(II)I"⟩
abbrev cX5_reportPart : ByteArray := prog_7_method_11_code
def yX5_reportPart : MethodName := ⟨RX5, "reportPart", "(II)I"⟩
abbrev cX5_truth : ByteArray := prog_7_method_12_code
def yX5_truth : MethodName := ⟨RX5, "truth", "(I)I"⟩
abbrev cX5_underWay : ByteArray := prog_7_method_13_code
def yX5_underWay : MethodName := ⟨RX5, "underWay", "(I)I"⟩
abbrev cX5_sumUnderWay : ByteArray := prog_7_method_14_code
def yX5_sumUnderWay : MethodName := ⟨RX5, "sumUnderWay", "(I)I"⟩
abbrev cX5_suspects : ByteArray := prog_7_method_15_code
def yX5_suspects : MethodName := ⟨RX5, "suspects", "()I"⟩
abbrev cX5_spread : ByteArray := prog_7_method_16_code
def yX5_spread : MethodName := ⟨RX5, "spread", "([I)V"⟩
abbrev cX5_clear : ByteArray := prog_7_method_17_code
def yX5_clear : MethodName := ⟨RX5, "clear", "([I)V"⟩
abbrev cX5_findReached : ByteArray := prog_7_method_18_code
def yX5_findReached : MethodName := ⟨RX5, "findReached", "()I"⟩
abbrev cX5_addReport : ByteArray := prog_7_method_19_code
def yX5_addReport : MethodName := ⟨RX5, "addReport", "(III)I"⟩
abbrev cX5_atPlace : ByteArray := prog_7_method_20_code
def yX5_atPlace : MethodName := ⟨RX5, "atPlace", "(I)I"⟩
abbrev cX5_firstDue : ByteArray := prog_7_method_21_code
def yX5_firstDue : MethodName := ⟨RX5, "firstDue", "()I"⟩
abbrev cX5_dropReport : ByteArray := prog_7_method_22_code
def yX5_dropReport : MethodName := ⟨RX5, "dropReport", "(I)V"⟩
abbrev cX5_ends : ByteArray := prog_7_method_23_code
def yX5_ends : MethodName := ⟨RX5, "ends", "(II)V"⟩
abbrev cX5_endsToo : ByteArray := prog_7_method_24_code
def yX5_endsToo : MethodName := ⟨RX5, "endsToo", "(II)Z"⟩
abbrev cX5_hears : ByteArray := prog_7_method_25_code
def yX5_hears : MethodName := ⟨RX5, "hears", "(I)V"⟩
abbrev cX5_hearDue : ByteArray := prog_7_method_26_code
def yX5_hearDue : MethodName := ⟨RX5, "hearDue", "()V"⟩
abbrev cX5_whyNotAdded : ByteArray := prog_7_method_27_code
def yX5_whyNotAdded : MethodName := ⟨RX5, "whyNotAdded", "(I)I"⟩
abbrev cX5_added : ByteArray := prog_7_method_28_code
def yX5_added : MethodName := ⟨RX5, "added", "(I)I"⟩
abbrev cX5_add : ByteArray := prog_7_method_29_code
def yX5_add : MethodName := ⟨RX5, "add", "(I)I"⟩
abbrev cX5_isHeld : ByteArray := prog_7_method_30_code
def yX5_isHeld : MethodName := ⟨RX5, "isHeld", "(I)Z"⟩
abbrev cX5_hasEnded : ByteArray := prog_7_method_31_code
def yX5_hasEnded : MethodName := ⟨RX5, "hasEnded", "(I)Z"⟩
abbrev cX5_changed : ByteArray := prog_7_method_32_code
def yX5_changed : MethodName := ⟨RX5, "changed", "(II)I"⟩
abbrev cX5_whyNotTaken : ByteArray := prog_7_method_33_code
def yX5_whyNotTaken : MethodName := ⟨RX5, "whyNotTaken", "(II)I"⟩
abbrev cX5_take : ByteArray := prog_7_method_34_code
def yX5_take : MethodName := ⟨RX5, "take", "(II)I"⟩
abbrev cX5_whyNotPut : ByteArray := prog_7_method_35_code
def yX5_whyNotPut : MethodName := ⟨RX5, "whyNotPut", "(III)I"⟩
abbrev cX5_put : ByteArray := prog_7_method_36_code
def yX5_put : MethodName := ⟨RX5, "put", "(III)I"⟩
abbrev cX5_slandered : ByteArray := prog_7_method_37_code
def yX5_slandered : MethodName := ⟨RX5, "slandered", "(II)I"⟩
abbrev cX5_slander : ByteArray := prog_7_method_38_code
def yX5_slander : MethodName := ⟨RX5, "slander", "(II)I"⟩
abbrev cX5_suspect : ByteArray := prog_7_method_39_code
def yX5_suspect : MethodName := ⟨RX5, "suspect", "(I)I"⟩
abbrev cX5_isSetting : ByteArray := prog_7_method_40_code
def yX5_isSetting : MethodName := ⟨RX5, "isSetting", "(I)Z"⟩
abbrev cX5_set : ByteArray := prog_7_method_41_code
def yX5_set : MethodName := ⟨RX5, "set", "(II)I"⟩
abbrev cX5_findSet : ByteArray := prog_7_method_42_code
def yX5_findSet : MethodName := ⟨RX5, "findSet", "(I)Z"⟩
abbrev cX5_restOf : ByteArray := prog_7_method_43_code
def yX5_restOf : MethodName := ⟨RX5, "restOf", "(I)I"⟩
abbrev cX5_findInnocent : ByteArray := prog_7_method_44_code
def yX5_findInnocent : MethodName := ⟨RX5, "findInnocent", "()V"⟩
abbrev cX5_nextToEnd : ByteArray := prog_7_method_45_code
def yX5_nextToEnd : MethodName := ⟨RX5, "nextToEnd", "()I"⟩
abbrev cX5_tries : ByteArray := prog_7_method_46_code
def yX5_tries : MethodName := ⟨RX5, "tries", "(I)V"⟩
abbrev cX5_holdTrial : ByteArray := prog_7_method_47_code
def yX5_holdTrial : MethodName := ⟨RX5, "holdTrial", "()V"⟩
abbrev cX5_tick : ByteArray := prog_7_method_48_code
def yX5_tick : MethodName := ⟨RX5, "tick", "()V"⟩
abbrev cX5_passed : ByteArray := prog_7_method_49_code
def yX5_passed : MethodName := ⟨RX5, "passed", "(I)I"⟩
abbrev cX5_whyNotPassed : ByteArray := prog_7_method_50_code
def yX5_whyNotPassed : MethodName := ⟨RX5, "whyNotPassed", "(I)I"⟩
abbrev cX5_pass : ByteArray := prog_7_method_51_code
def yX5_pass : MethodName := ⟨RX5, "pass", "(I)I"⟩
abbrev cX5_trial : ByteArray := prog_7_method_52_code
def yX5_trial : MethodName := ⟨RX5, "trial", "()I"⟩
abbrev cX5_audit : ByteArray := prog_7_method_53_code
def yX5_audit : MethodName := ⟨RX5, "audit", "()I"⟩
abbrev cX5_append : ByteArray := prog_7_method_54_code
def yX5_append : MethodName := ⟨RX5, "append", "(I)I"⟩
abbrev cX5_clearBuffer : ByteArray := prog_7_method_55_code
def yX5_clearBuffer : MethodName := ⟨RX5, "clearBuffer", "()I"⟩
abbrev cX5_stepAt : ByteArray := prog_7_method_56_code
def yX5_stepAt : MethodName := ⟨RX5, "stepAt", "(I)I"⟩
abbrev cX5_afterDigit : ByteArray := prog_7_method_57_code
def yX5_afterDigit : MethodName := ⟨RX5, "afterDigit", "(IIII)I"⟩
abbrev cX5_next : ByteArray := prog_7_method_58_code
def yX5_next : MethodName := ⟨RX5, "next", "(II)I"⟩
abbrev cX5_firstError : ByteArray := prog_7_method_59_code
def yX5_firstError : MethodName := ⟨RX5, "firstError", "()I"⟩
abbrev cX5_isStepOver : ByteArray := prog_7_method_60_code
def yX5_isStepOver : MethodName := ⟨RX5, "isStepOver", "(I)Z"⟩
abbrev cX5_isProgram : ByteArray := prog_7_method_61_code
def yX5_isProgram : MethodName := ⟨RX5, "isProgram", "()Z"⟩
abbrev cX5_note : ByteArray := prog_7_method_62_code
def yX5_note : MethodName := ⟨RX5, "note", "(II)V"⟩
abbrev cX5_does : ByteArray := prog_7_method_63_code
def yX5_does : MethodName := ⟨RX5, "does", "()Z"⟩
abbrev cX5_run : ByteArray := prog_7_method_64_code
def yX5_run : MethodName := ⟨RX5, "run", "()I"⟩
abbrev cX5_undo : ByteArray := prog_7_method_65_code
def yX5_undo : MethodName := ⟨RX5, "undo", "()I"⟩
abbrev cX5_thingPart : ByteArray := prog_7_method_66_code
def yX5_thingPart : MethodName := ⟨RX5, "thingPart", "(II)I"⟩
abbrev cX5_thing : ByteArray := prog_7_method_67_code
def yX5_thing : MethodName := ⟨RX5, "thing", "(II)I"⟩
abbrev cX5_slot : ByteArray := prog_7_method_68_code
def yX5_slot : MethodName := ⟨RX5, "slot", "(II)I"⟩
abbrev cX5_hand : ByteArray := prog_7_method_69_code
def yX5_hand : MethodName := ⟨RX5, "hand", "(I)I"⟩
abbrev cX5_report : ByteArray := prog_7_method_70_code
def yX5_report : MethodName := ⟨RX5, "report", "(II)I"⟩
abbrev cX5_ended : ByteArray := prog_7_method_71_code
def yX5_ended : MethodName := ⟨RX5, "ended", "(I)I"⟩
abbrev cX5_living : ByteArray := prog_7_method_72_code
def yX5_living : MethodName := ⟨RX5, "living", "()I"⟩
abbrev cX5_holding : ByteArray := prog_7_method_73_code
def yX5_holding : MethodName := ⟨RX5, "holding", "()I"⟩
abbrev cX5_mistaken : ByteArray := prog_7_method_74_code
def yX5_mistaken : MethodName := ⟨RX5, "mistaken", "()I"⟩
abbrev cX5_countOf : ByteArray := prog_7_method_75_code
def yX5_countOf : MethodName := ⟨RX5, "countOf", "(I)I"⟩
abbrev cX5_count : ByteArray := prog_7_method_76_code
def yX5_count : MethodName := ⟨RX5, "count", "(I)I"⟩
abbrev cX5_setting : ByteArray := prog_7_method_77_code
def yX5_setting : MethodName := ⟨RX5, "setting", "(I)I"⟩
abbrev cX5_wouldPass : ByteArray := prog_7_method_78_code
def yX5_wouldPass : MethodName := ⟨RX5, "wouldPass", "(II)I"⟩
abbrev cX5_ifPassed : ByteArray := prog_7_method_79_code
def yX5_ifPassed : MethodName := ⟨RX5, "ifPassed", "(II)I"⟩
abbrev cX5_wouldEnd : ByteArray := prog_7_method_80_code
def yX5_wouldEnd : MethodName := ⟨RX5, "wouldEnd", "(I)I"⟩
abbrev cX5_endsIn : ByteArray := prog_7_method_81_code
def yX5_endsIn : MethodName := ⟨RX5, "endsIn", "(I)I"⟩
abbrev cX5_wouldTry : ByteArray := prog_7_method_82_code
def yX5_wouldTry : MethodName := ⟨RX5, "wouldTry", "(I)I"⟩
abbrev cX5_ifTried : ByteArray := prog_7_method_83_code
def yX5_ifTried : MethodName := ⟨RX5, "ifTried", "(I)I"⟩
abbrev cX5_findFrom : ByteArray := prog_7_method_84_code
def yX5_findFrom : MethodName := ⟨RX5, "findFrom", "(I)V"⟩
abbrev cX5_ringOf : ByteArray := prog_7_method_85_code
def yX5_ringOf : MethodName := ⟨RX5, "ringOf", "(I)I"⟩
abbrev cX5_ring : ByteArray := prog_7_method_86_code
def yX5_ring : MethodName := ⟨RX5, "ring", "(I)I"⟩
abbrev cX5_cut : ByteArray := prog_7_method_87_code
def yX5_cut : MethodName := ⟨RX5, "cut", "(I)I"⟩
abbrev cX5_bestCut : ByteArray := prog_7_method_88_code
def yX5_bestCut : MethodName := ⟨RX5, "bestCut", "(I)I"⟩
abbrev cX5_wouldBear : ByteArray := prog_7_method_89_code
def yX5_wouldBear : MethodName := ⟨RX5, "wouldBear", "(I)I"⟩
abbrev cX5_bears : ByteArray := prog_7_method_90_code
def yX5_bears : MethodName := ⟨RX5, "bears", "(I)I"⟩
abbrev cX5_reachedShare : ByteArray := prog_7_method_91_code
def yX5_reachedShare : MethodName := ⟨RX5, "reachedShare", "()D"⟩
abbrev cX5_doubleBits : ByteArray := prog_7_method_92_code
def yX5_doubleBits : MethodName := ⟨RX5, "doubleBits", "(II)J"⟩
abbrev cX5_digest : ByteArray := prog_7_method_93_code
def yX5_digest : MethodName := ⟨RX5, "digest", "()J"⟩
def RJ6 : String := "java/lang/Integer"
def TJ6 : u_T := fun k => match k with
  | _ => ("", "", "", false)
def tyJ6 : Nat → FieldType := fun k => match k with
  | _ => .int
abbrev wsJ60 : List Cond := u_ws RJ6 TJ6 0
theorem nmJ6 : ∀ a, a < 0 → ∀ b, b < 0 → a ≠ b → (TJ6 a).2.1 ≠ (TJ6 b).2.1 := by decide +kernel
theorem tyJ6_ok : ∀ k, k < 0 → parseFieldDescriptor (TJ6 k).2.2.1 = some (tyJ6 k) := by decide +kernel
abbrev cJ6_numberOfTrailingZeros_0f7a4 : ByteArray := prog_12_method_48_code
def yJ6_numberOfTrailingZeros_0f7a4 : MethodName := ⟨RJ6, "numberOfTrailingZeros", "(I)I"⟩
abbrev cJ6_bitCount_0f7a4 : ByteArray := prog_12_method_49_code
def yJ6_bitCount_0f7a4 : MethodName := ⟨RJ6, "bitCount", "(I)I"⟩
def RJ9 : String := "java/lang/Math"
def TJ9 : u_T := fun k => match k with
  | _ => ("", "", "", false)
def tyJ9 : Nat → FieldType := fun k => match k with
  | _ => .int
abbrev wsJ90 : List Cond := u_ws RJ9 TJ9 0
theorem nmJ9 : ∀ a, a < 0 → ∀ b, b < 0 → a ≠ b → (TJ9 a).2.1 ≠ (TJ9 b).2.1 := by decide +kernel
theorem tyJ9_ok : ∀ k, k < 0 → parseFieldDescriptor (TJ9 k).2.2.1 = some (tyJ9 k) := by decide +kernel
abbrev cJ9_floorMod_7cf53 : ByteArray := prog_13_method_50_code
def yJ9_floorMod_7cf53 : MethodName := ⟨RJ9, "floorMod", "(II)I"⟩
def RJ0 : String := "java/lang/String"
def TJ0 : u_T := fun k => match k with
  | _ => ("", "", "", false)
def tyJ0 : Nat → FieldType := fun k => match k with
  | _ => .int
abbrev wsJ00 : List Cond := u_ws RJ0 TJ0 0
theorem nmJ0 : ∀ a, a < 0 → ∀ b, b < 0 → a ≠ b → (TJ0 a).2.1 ≠ (TJ0 b).2.1 := by decide +kernel
theorem tyJ0_ok : ∀ k, k < 0 → parseFieldDescriptor (TJ0 k).2.2.1 = some (tyJ0 k) := by decide +kernel
def RJ10 : String := "java/lang/System"
def TJ10 : u_T := fun k => match k with
  | _ => ("", "", "", false)
def tyJ10 : Nat → FieldType := fun k => match k with
  | _ => .int
abbrev wsJ100 : List Cond := u_ws RJ10 TJ10 0
theorem nmJ10 : ∀ a, a < 0 → ∀ b, b < 0 → a ≠ b → (TJ10 a).2.1 ≠ (TJ10 b).2.1 := by decide +kernel
theorem tyJ10_ok : ∀ k, k < 0 → parseFieldDescriptor (TJ10 k).2.2.1 = some (tyJ10 k) := by decide +kernel
def RL : String := "GossipCountsLaw"
abbrev cL_add : ByteArray := method_3_code
def yL_add : MethodName := ⟨RL, "add", "(LGossipCounts;I[J)I"⟩
abbrev cL_take : ByteArray := method_4_code
def yL_take : MethodName := ⟨RL, "take", "(LGossipCounts;II[J)I"⟩
abbrev cL_put : ByteArray := method_5_code
def yL_put : MethodName := ⟨RL, "put", "(LGossipCounts;III[J)I"⟩
abbrev cL_slander : ByteArray := method_6_code
def yL_slander : MethodName := ⟨RL, "slander", "(LGossipCounts;II[J)I"⟩
abbrev cL_suspect : ByteArray := method_7_code
def yL_suspect : MethodName := ⟨RL, "suspect", "(LGossipCounts;I[J)I"⟩
abbrev cL_set : ByteArray := method_8_code
def yL_set : MethodName := ⟨RL, "set", "(LGossipCounts;II[J)I"⟩
abbrev cL_pass : ByteArray := method_9_code
def yL_pass : MethodName := ⟨RL, "pass", "(LGossipCounts;I[J)I"⟩
abbrev cL_append : ByteArray := method_10_code
def yL_append : MethodName := ⟨RL, "append", "(LGossipCounts;I[J)I"⟩
abbrev cL_run : ByteArray := method_11_code
def yL_run : MethodName := ⟨RL, "run", "(LGossipCounts;[J)I"⟩
abbrev cL_undo : ByteArray := method_12_code
def yL_undo : MethodName := ⟨RL, "undo", "(LGossipCounts;[J)I"⟩
abbrev cL_thing : ByteArray := method_13_code
def yL_thing : MethodName := ⟨RL, "thing", "(LGossipCounts;II[J)I"⟩
abbrev cL_slot : ByteArray := method_14_code
def yL_slot : MethodName := ⟨RL, "slot", "(LGossipCounts;II[J)I"⟩
abbrev cL_hand : ByteArray := method_15_code
def yL_hand : MethodName := ⟨RL, "hand", "(LGossipCounts;I[J)I"⟩
abbrev cL_report : ByteArray := method_16_code
def yL_report : MethodName := ⟨RL, "report", "(LGossipCounts;II[J)I"⟩
abbrev cL_ended : ByteArray := method_17_code
def yL_ended : MethodName := ⟨RL, "ended", "(LGossipCounts;I[J)I"⟩
abbrev cL_count : ByteArray := method_18_code
def yL_count : MethodName := ⟨RL, "count", "(LGossipCounts;I[J)I"⟩
abbrev cL_setting : ByteArray := method_19_code
def yL_setting : MethodName := ⟨RL, "setting", "(LGossipCounts;I[J)I"⟩
abbrev cL_ifPassed : ByteArray := method_20_code
def yL_ifPassed : MethodName := ⟨RL, "ifPassed", "(LGossipCounts;II[J)I"⟩
abbrev cL_endsIn : ByteArray := method_21_code
def yL_endsIn : MethodName := ⟨RL, "endsIn", "(LGossipCounts;I[J)I"⟩
abbrev cL_ifTried : ByteArray := method_22_code
def yL_ifTried : MethodName := ⟨RL, "ifTried", "(LGossipCounts;I[J)I"⟩
abbrev cL_ring : ByteArray := method_23_code
def yL_ring : MethodName := ⟨RL, "ring", "(LGossipCounts;I[J)I"⟩
abbrev cL_bestCut : ByteArray := method_24_code
def yL_bestCut : MethodName := ⟨RL, "bestCut", "(LGossipCounts;I[J)I"⟩
abbrev cL_bears : ByteArray := method_25_code
def yL_bears : MethodName := ⟨RL, "bears", "(LGossipCounts;I[J)I"⟩
abbrev cL_law : ByteArray := code
def yL_law : MethodName := ⟨RL, "law", "([I)Z"⟩
abbrev vwCl : List vw_C := [(RX0, TX0, 1), (RX1, TX1, 5), (RX2, TX2, 5), (RX3, TX3, 17), (RX4, TX4, 6), (RX5, TX5, 15)]
end
section
/-! ===== an abstract run of a method's body: locals, stack and cells as lists, references by places; one theorem carries it to the machine ===== -/
abbrev ev_E : Type := (Nat × vp_A) ⊕ (Nat × List Value)
abbrev ev_I : Type := Instr × Nat × Nat × Nat × Nat × Value
abbrev ev_L : Type := List (Option Value)
abbrev ev_T : Type := List (Nat × ev_I)
def ev_cv (ad : Nat → Nat) (v : Value) : Value := match v with
  | .ref a => .ref (ad a)
  | .int x => .int x
  | .long x => .long x
  | .float x => .float x
  | .double x => .double x
  | .null => .null
  | .retAddr x => .retAddr x
def ev_ca (ad : Nat → Nat) (a : vp_A) : vp_A := (a.1, match a.2 with
  | .inr (.inr (.inr (.inr f))) => .inr (.inr (.inr (.inr (fun i => (f i).map ad))))
  | .inr (.inr (.inr (.inl f))) => .inr (.inr (.inr (.inl f)))
  | .inr (.inr (.inl f)) => .inr (.inr (.inl f))
  | .inr (.inl f) => .inr (.inl f)
  | .inl f => .inl f)
def ev_ce (ad : Nat → Nat) (ct : Nat → ClassId) (E : ev_E) : va_E := match E with
  | .inl a => .inl (ct a.1, ev_ca ad a.2)
  | .inr o => .inr (o.1, o.2.map (ev_cv ad))
def ev_lay (ad : Nat → Nat) (ct : Nat → ClassId) (w : List ev_E) : va_W := w.mapIdx (fun k E => (ad k, ev_ce ad ct E))
def ev_tys (ct : Nat → ClassId) : List (ClassId × FieldType) := [(ct 0, .int), (ct 1, .long), (ct 2, .object "GossipCounts$World")]
theorem ev_lay_get {ad : Nat → Nat} {ct : Nat → ClassId} {w : List ev_E} {k : Nat} {E : ev_E} (h : w[k]? = some E) : (ev_lay ad ct w)[k]? = some (ad k, ev_ce ad ct E) := by
  unfold ev_lay
  rw [List.getElem?_mapIdx, h]
  rfl
theorem ev_lay_inv {ad : Nat → Nat} {ct : Nat → ClassId} {w : List ev_E} {k : Nat} {q : Nat × va_E} (h : (ev_lay ad ct w)[k]? = some q) : ∃ E, w[k]? = some E ∧ q = (ad k, ev_ce ad ct E) := by
  unfold ev_lay at h
  rw [List.getElem?_mapIdx] at h
  cases hw : w[k]? with
  | none => rw [hw] at h; cases h
  | some E => rw [hw] at h; exact ⟨E, rfl, (Option.some.inj h).symm⟩
theorem ev_lay_len {ad : Nat → Nat} {ct : Nat → ClassId} {w : List ev_E} : (ev_lay ad ct w).length = w.length := by
  unfold ev_lay
  simp
theorem ev_lay_set {ad : Nat → Nat} {ct : Nat → ClassId} {w : List ev_E} {k : Nat} {E : ev_E} : (ev_lay ad ct w).set k (ad k, ev_ce ad ct E) = ev_lay ad ct (w.set k E) := by
  apply List.ext_getElem?
  intro j
  unfold ev_lay
  rw [List.getElem?_set, List.getElem?_mapIdx, List.getElem?_mapIdx, List.getElem?_set]
  by_cases h : k = j
  · subst h
    simp only [if_true, List.length_mapIdx]
    by_cases h2 : k < w.length <;> simp [h2]
  · simp [h]
-- the words
def ev_okw (w : Jvm.Cond) : Bool := goodWord w || match w with
  | .fieldLinkNest _ _ _ _ _ _ => true
  | .methodLinkNest _ _ _ _ => true
  | _ => false
def ev_WA : List Jvm.Cond := lw_tbl.filter ev_okw
def ev_has (k : Nat) (w : Jvm.Cond) : Bool := decide (lw_tbl[k]? = some w) && ev_okw w
theorem ev_okw_warm {w : Jvm.Cond} (h : ev_okw w = true) {args a' : Array Value} {s U : State} (hW : s.WarmedH U.vm) (hb : w.before args s = true) : w.before a' U = true := by
  unfold ev_okw at h
  rw [Bool.or_eq_true] at h
  rcases h with h | h
  · exact word_at hW (good_of_word h) hb
  · split at h
    · exact va_Nw.use rfl (va_Nw.warmF hW (va_Nw.of rfl hb))
    · exact va_Nw.use rfl (va_Nw.warmM hW (va_Nw.of rfl hb))
    · cases h
theorem ev_has_in {k : Nat} {w : Jvm.Cond} (h : ev_has k w = true) : w ∈ ev_WA := by
  unfold ev_has at h
  rw [Bool.and_eq_true] at h
  exact List.mem_filter.mpr ⟨List.mem_of_getElem? (of_decide_eq_true h.1), h.2⟩
-- the classes
def ev_ty (ci : Nat) : Nat → FieldType := match ci with
  | 0 => tyX0
  | 1 => tyX1
  | 2 => tyX2
  | 3 => tyX3
  | 4 => tyX4
  | _ => tyX5
def ev_F (ci : Nat) : u_T := match ci with
  | 0 => TX0
  | 1 => TX1
  | 2 => TX2
  | 3 => TX3
  | 4 => TX4
  | _ => TX5
def ev_R (ci : Nat) : String := match ci with
  | 0 => RX0
  | 1 => RX1
  | 2 => RX2
  | 3 => RX3
  | 4 => RX4
  | _ => RX5
def ev_N (ci : Nat) : Nat := match ci with
  | 0 => 1
  | 1 => 5
  | 2 => 5
  | 3 => 17
  | 4 => 6
  | _ => 15
theorem ev_cl {ci : Nat} (h : ci < 6) : vwCl[ci]? = some (ev_R ci, ev_F ci, ev_N ci) := by
  match ci, h with
  | 0, _ => rfl
  | 1, _ => rfl
  | 2, _ => rfl
  | 3, _ => rfl
  | 4, _ => rfl
  | 5, _ => rfl
theorem ev_tyok {ci : Nat} (h : ci < 6) : ∀ k, k < ev_N ci → parseFieldDescriptor (ev_F ci k).2.2.1 = some (ev_ty ci k) := by
  match ci, h with
  | 0, _ => exact tyX0_ok
  | 1, _ => exact tyX1_ok
  | 2, _ => exact tyX2_ok
  | 3, _ => exact tyX3_ok
  | 4, _ => exact tyX4_ok
  | 5, _ => exact tyX5_ok
theorem ev_nm {ci : Nat} (h : ci < 6) : ∀ a, a < ev_N ci → ∀ b, b < ev_N ci → a ≠ b → (ev_F ci a).2.1 ≠ (ev_F ci b).2.1 := by
  match ci, h with
  | 0, _ => exact nmX0
  | 1, _ => exact nmX1
  | 2, _ => exact nmX2
  | 3, _ => exact nmX3
  | 4, _ => exact nmX4
  | 5, _ => exact nmX5
set_option maxRecDepth 20000 in
theorem ev_win : ((List.range 6).all fun ci => (u_ws (ev_R ci) (ev_F ci) (ev_N ci)).all fun w => decide (w ∈ lw_tbl) && ev_okw w) = true := by decide +kernel
theorem ev_wsin {ci : Nat} (h : ci < 6) : ∀ w ∈ u_ws (ev_R ci) (ev_F ci) (ev_N ci), w ∈ ev_WA := by
  intro w hw
  have h1 := List.all_eq_true.mp (List.all_eq_true.mp ev_win ci (List.mem_range.mpr h)) w hw
  rw [Bool.and_eq_true] at h1
  exact List.mem_filter.mpr ⟨of_decide_eq_true h1.1, h1.2⟩
/-- the link of a field, by its word's place -/
def ev_fl (own : String) (idx k ci f : Nat) : Bool :=
  decide (ci < 6) && decide (f < ev_N ci) && (ev_has k (.fieldLink own idx (ev_F ci f).1 (ev_F ci f).2.1 (ev_F ci f).2.2.1) ||
    match lw_tbl[k]? with
    | some (.fieldLinkNest _ _ _ _ _ h) => ev_has k (.fieldLinkNest own idx (ev_F ci f).1 (ev_F ci f).2.1 (ev_F ci f).2.2.1 h)
    | _ => false)
theorem ev_fl_use {own : String} {idx k ci f : Nat} (h : ev_fl own idx k ci f = true) : ci < 6 ∧ f < ev_N ci ∧ (Jvm.Cond.fieldLink own idx (ev_F ci f).1 (ev_F ci f).2.1 (ev_F ci f).2.2.1 ∈ ev_WA ∨ ∃ host, Jvm.Cond.fieldLinkNest own idx (ev_F ci f).1 (ev_F ci f).2.1 (ev_F ci f).2.2.1 host ∈ ev_WA) := by
  unfold ev_fl at h
  rw [Bool.and_eq_true, Bool.and_eq_true, Bool.or_eq_true] at h
  obtain ⟨⟨h1, h2⟩, h3⟩ := h
  refine ⟨of_decide_eq_true h1, of_decide_eq_true h2, ?_⟩
  rcases h3 with h3 | h3
  · exact Or.inl (ev_has_in h3)
  · split at h3
    · exact Or.inr ⟨_, ev_has_in h3⟩
    · cases h3
-- the locals
def ev_nth : ev_L → Nat → Option Value
  | [], _ => none
  | x :: _, 0 => x
  | _ :: l, n + 1 => ev_nth l n
def ev_clr (x : Option Value) : Option Value := match x with
  | some (.long _) => none
  | some (.double _) => none
  | some (.int v) => some (.int v)
  | some (.float v) => some (.float v)
  | some .null => some .null
  | some (.ref v) => some (.ref v)
  | some (.retAddr v) => some (.retAddr v)
  | none => none
def ev_st1 : ev_L → Nat → Option Value → ev_L
  | [], _, _ => []
  | _ :: l, 0, v => v :: l
  | x :: l, n + 1, v => (match n with | 0 => ev_clr x | _ => x) :: ev_st1 l n v
def ev_st2 (L : ev_L) (i : Nat) (v : Option Value) : ev_L := ev_st1 (ev_st1 L (i + 1) none) i v
def ev_LH (ad : Nat → Nat) (ls : Array Slot) (nL : Nat) (L : ev_L) : Prop := ls.size = nL ∧ lv_wf ls ∧ ∀ i v, ev_nth L i = some v → ls[i]? = some (.val (ev_cv ad v))
theorem ev_cv_cat (ad : Nat → Nat) (v : Value) : (ev_cv ad v).category = v.category := by cases v <;> rfl
-- the cells
def ev_wg : List ev_E → Nat → Option ev_E
  | [], _ => none
  | x :: _, 0 => some x
  | _ :: l, n + 1 => ev_wg l n
def ev_ws : List ev_E → Nat → ev_E → List ev_E
  | [], _, _ => []
  | _ :: l, 0, v => v :: l
  | x :: l, n + 1, v => x :: ev_ws l n v
def ev_fg : List Value → Nat → Option Value
  | [], _ => none
  | x :: _, 0 => some x
  | _ :: l, n + 1 => ev_fg l n
def ev_fs : List Value → Nat → Value → List Value
  | [], _, _ => []
  | _ :: l, 0, v => v :: l
  | x :: l, n + 1, v => x :: ev_fs l n v
theorem ev_wg_eq (w : List ev_E) (k : Nat) : ev_wg w k = w[k]? := by
  induction w generalizing k with
  | nil => simp [ev_wg]
  | cons x l ih => cases k <;> simp [ev_wg, ih]
theorem ev_ws_eq (w : List ev_E) (k : Nat) (E : ev_E) : ev_ws w k E = w.set k E := by
  induction w generalizing k with
  | nil => simp [ev_ws]
  | cons x l ih => cases k <;> simp [ev_ws, ih]
theorem ev_fg_eq (w : List Value) (k : Nat) : ev_fg w k = w[k]? := by
  induction w generalizing k with
  | nil => simp [ev_fg]
  | cons x l ih => cases k <;> simp [ev_fg, ih]
theorem ev_fs_eq (w : List Value) (k : Nat) (E : Value) : ev_fs w k E = w.set k E := by
  induction w generalizing k with
  | nil => simp [ev_fs]
  | cons x l ih => cases k <;> simp [ev_fs, ih]
def ev_fit (ty : FieldType) (v : Value) : Bool := match ty, v with
  | .int, .int _ => true
  | .object _, .ref _ => true
  | .array _, .ref _ => true
  | _, _ => false
theorem ev_fit_ok {ty : FieldType} {v : Value} (h : ev_fit ty v = true) (ad : Nat → Nat) : narrow ty (ev_cv ad v) = ev_cv ad v ∧ fits ty (ev_cv ad v) = true := by
  cases ty <;> cases v <;> first | exact absurd h Bool.false_ne_true | exact ⟨rfl, rfl⟩
abbrev ev_O : Type := List Prop × Nat × ev_L × List Value × List ev_E
/-- one instruction, where it has no branch and no call; what must hold stands ahead -/
def ev_step (i : ev_I) (L : ev_L) (st : List Value) (w : List ev_E) : Option ev_O := match i with
  | (ins, nx, _, x, y, v) => match ins with
    | .iconst _ => match v with | .int c => some ([], nx, L, .int c :: st, w) | _ => none
    | .bipush _ => match v with | .int c => some ([], nx, L, .int c :: st, w) | _ => none
    | .sipush _ => match v with | .int c => some ([], nx, L, .int c :: st, w) | _ => none
    | .ldc _ => match v with | .int c => some ([], nx, L, .int c :: st, w) | _ => none
    | .ldc_w _ => match v with | .int c => some ([], nx, L, .int c :: st, w) | _ => none
    | .lconst _ => match v with | .long c => some ([], nx, L, .long c :: st, w) | _ => none
    | .ldc2_w _ => match v with | .long c => some ([], nx, L, .long c :: st, w) | .double c => some ([], nx, L, .double c :: st, w) | _ => none
    | .dconst _ => match v with | .double c => some ([], nx, L, .double c :: st, w) | _ => none
    | .iload _ => match ev_nth L x with | some (.int c) => some ([], nx, L, .int c :: st, w) | _ => none
    | .iload_n _ => match ev_nth L x with | some (.int c) => some ([], nx, L, .int c :: st, w) | _ => none
    | .lload _ => match ev_nth L x with | some (.long c) => some ([], nx, L, .long c :: st, w) | _ => none
    | .lload_n _ => match ev_nth L x with | some (.long c) => some ([], nx, L, .long c :: st, w) | _ => none
    | .dload _ => match ev_nth L x with | some (.double c) => some ([], nx, L, .double c :: st, w) | _ => none
    | .dload_n _ => match ev_nth L x with | some (.double c) => some ([], nx, L, .double c :: st, w) | _ => none
    | .aload _ => match ev_nth L x with | some (.ref c) => some ([], nx, L, .ref c :: st, w) | _ => none
    | .aload_n _ => match ev_nth L x with | some (.ref c) => some ([], nx, L, .ref c :: st, w) | _ => none
    | .istore _ => match st with | .int c :: r => some ([], nx, ev_st1 L x (some (.int c)), r, w) | _ => none
    | .istore_n _ => match st with | .int c :: r => some ([], nx, ev_st1 L x (some (.int c)), r, w) | _ => none
    | .lstore _ => match st with | .long c :: r => some ([], nx, ev_st2 L x (some (.long c)), r, w) | _ => none
    | .lstore_n _ => match st with | .long c :: r => some ([], nx, ev_st2 L x (some (.long c)), r, w) | _ => none
    | .dstore _ => match st with | .double c :: r => some ([], nx, ev_st2 L x (some (.double c)), r, w) | _ => none
    | .dstore_n _ => match st with | .double c :: r => some ([], nx, ev_st2 L x (some (.double c)), r, w) | _ => none
    | .astore _ => match st with | .ref c :: r => some ([], nx, ev_st1 L x (some (.ref c)), r, w) | _ => none
    | .astore_n _ => match st with | .ref c :: r => some ([], nx, ev_st1 L x (some (.ref c)), r, w) | _ => none
    | .iinc _ _ => match ev_nth L x, v with | some (.int a), .int c => some ([], nx, ev_st1 L x (some (.int (a + c))), st, w) | _, _ => none
    | .iadd => match st with | .int b :: .int a :: r => some ([], nx, L, .int (a + b) :: r, w) | _ => none
    | .isub => match st with | .int b :: .int a :: r => some ([], nx, L, .int (a - b) :: r, w) | _ => none
    | .imul => match st with | .int b :: .int a :: r => some ([], nx, L, .int (a * b) :: r, w) | _ => none
    | .iand => match st with | .int b :: .int a :: r => some ([], nx, L, .int (a &&& b) :: r, w) | _ => none
    | .ior => match st with | .int b :: .int a :: r => some ([], nx, L, .int (a ||| b) :: r, w) | _ => none
    | .ixor => match st with | .int b :: .int a :: r => some ([], nx, L, .int (a ^^^ b) :: r, w) | _ => none
    | .ishl => match st with | .int b :: .int a :: r => some ([], nx, L, .int (a <<< (b &&& 31)) :: r, w) | _ => none
    | .ishr => match st with | .int b :: .int a :: r => some ([], nx, L, .int (a >>> (b &&& 31)) :: r, w) | _ => none
    | .iushr => match st with | .int b :: .int a :: r => some ([], nx, L, .int (a.toUInt32 >>> (b.toUInt32 &&& Int32.toUInt32 31)).toInt32 :: r, w) | _ => none
    | .idiv => match st with | .int b :: .int a :: r => some ([¬ b = 0], nx, L, .int (a / b) :: r, w) | _ => none
    | .irem => match st with | .int b :: .int a :: r => some ([¬ b = 0], nx, L, .int (a - a / b * b) :: r, w) | _ => none
    | .ladd => match st with | .long b :: .long a :: r => some ([], nx, L, .long (a + b) :: r, w) | _ => none
    | .lsub => match st with | .long b :: .long a :: r => some ([], nx, L, .long (a - b) :: r, w) | _ => none
    | .lmul => match st with | .long b :: .long a :: r => some ([], nx, L, .long (a * b) :: r, w) | _ => none
    | .ldiv => match st with | .long b :: .long a :: r => some ([¬ b = 0], nx, L, .long (a / b) :: r, w) | _ => none
    | .lrem => match st with | .long b :: .long a :: r => some ([¬ b = 0], nx, L, .long (a - a / b * b) :: r, w) | _ => none
    | .lshl => match st with | .int b :: .long a :: r => some ([], nx, L, .long (a <<< (b.toInt64 &&& 63)) :: r, w) | _ => none
    | .lcmp => match st with | .long b :: .long a :: r => some ([], nx, L, .int (lg_cmp a b) :: r, w) | _ => none
    | .i2l => match st with | .int a :: r => some ([], nx, L, .long a.toInt64 :: r, w) | _ => none
    | .i2d => match st with | .int a :: r => some ([], nx, L, .double (FP.i2d a) :: r, w) | _ => none
    | .d2l => match st with | .double a :: r => some ([], nx, L, .long (FP.d2l a) :: r, w) | _ => none
    | .dcmp op => match st with | .double b :: .double a :: r => some ([], nx, L, .int (Op.cmpValue (FP.dcmp a b) op) :: r, w) | _ => none
    | .dmul => match st with | .double b :: .double a :: r => some ([vf_n64 (FP.dmul a b)], nx, L, .double (FP.dmul a b) :: r, w) | _ => none
    | .ddiv => match st with | .double b :: .double a :: r => some ([vf_n64 (FP.ddiv a b)], nx, L, .double (FP.ddiv a b) :: r, w) | _ => none
    | .dsub => match st with | .double b :: .double a :: r => some ([vf_n64 (FP.dsub a b)], nx, L, .double (FP.dsub a b) :: r, w) | _ => none
    | .dup => match st with | .int a :: r => some ([], nx, L, .int a :: .int a :: r, w) | .ref a :: r => some ([], nx, L, .ref a :: .ref a :: r, w) | _ => none
    | .dup2 => match st with | .int b :: .ref a :: r => some ([], nx, L, .int b :: .ref a :: .int b :: .ref a :: r, w) | _ => none
    | .pop => match st with | .int _ :: r => some ([], nx, L, r, w) | .ref _ :: r => some ([], nx, L, r, w) | _ => none
    | .goto _ => some ([], x, L, st, w)
    | .getfield _ => match st with
      | .ref a :: r => match ev_wg w a with
        | some (.inr (ci, fs)) => match Nat.beq ci x with
          | true => match ev_fg fs y with
            | some u => some ([], nx, L, u :: r, w)
            | none => none
          | false => none
        | _ => none
      | _ => none
    | .putfield _ => match st with
      | u :: .ref a :: r => match ev_wg w a with
        | some (.inr (ci, fs)) => match Nat.beq ci x with
          | true => match ev_fg fs y, ev_fit (ev_ty x y) u with
            | some _, true => some ([], nx, L, r, ev_ws w a (.inr (ci, ev_fs fs y u)))
            | _, _ => none
          | false => none
        | _ => none
      | _ => none
    | .iaload => match st with
      | .int j :: .ref a :: r => match ev_wg w a with
        | some (.inl (0, n, .inl f)) => some ([vp_in j n], nx, L, .int (f j.toNatClampNeg) :: r, w)
        | _ => none
      | _ => none
    | .laload => match st with
      | .int j :: .ref a :: r => match ev_wg w a with
        | some (.inl (1, n, .inr (.inl f))) => some ([vp_in j n], nx, L, .long (f j.toNatClampNeg) :: r, w)
        | _ => none
      | _ => none
    | .iastore => match st with
      | .int u :: .int j :: .ref a :: r => match ev_wg w a with
        | some (.inl (0, n, .inl f)) => some ([vp_in j n], nx, L, r, ev_ws w a (.inl (0, n, .inl (upd f j.toNatClampNeg u))))
        | _ => none
      | _ => none
    | .lastore => match st with
      | .long u :: .int j :: .ref a :: r => match ev_wg w a with
        | some (.inl (1, n, .inr (.inl f))) => some ([vp_in j n], nx, L, r, ev_ws w a (.inl (1, n, .inr (.inl (vp_updL f j.toNatClampNeg u)))))
        | _ => none
      | _ => none
    | .tableswitch d lo hi offs => match st with
      | .int a :: r => match decide (a.toInt < lo), decide (hi < a.toInt) with
        | false, false => match offs[(a.toInt - lo).toNat]? with
          | some o => match decide ((y : Int) + o = ((y : Int) + o).toNat) with
            | true => some ([], ((y : Int) + o).toNat, L, r, w)
            | false => none
          | none => none
        | _, _ => none
      | _ => none
    | _ => none
def ev_look : ev_T → Nat → Option ev_I
  | [], _ => none
  | q :: l, pc => match Nat.beq q.1 pc with
    | true => some q.2
    | false => ev_look l pc
def ev_mem : List Nat → Nat → Bool
  | [], _ => false
  | q :: l, pc => match Nat.beq q pc with
    | true => true
    | false => ev_mem l pc
def ev_go (tab : ev_T) (cuts : List Nat) : Nat → List Prop → Nat → ev_L → List Value → List ev_E → ev_O
  | 0, cs, pc, L, st, w => (cs, pc, L, st, w)
  | n + 1, cs, pc, L, st, w => match ev_look tab pc with
    | none => (cs, pc, L, st, w)
    | some i => match ev_step i L st w with
      | none => (cs, pc, L, st, w)
      | some (c, pc', L', st', w') => match ev_mem cuts pc' with
        | true => (cs ++ c, pc', L', st', w')
        | false => ev_go tab cuts n (cs ++ c) pc' L' st' w'
def ev_all : List Prop → Prop
  | [] => True
  | [p] => p
  | p :: q => p ∧ ev_all q
end
section
/-! ===== the locals and the forced forms ===== -/
theorem ev_nth_st1 (L : ev_L) (i : Nat) (v : Option Value) (j : Nat) (u : Value) (h : ev_nth (ev_st1 L i v) j = some u) : (j = i ∧ v = some u) ∨ (j ≠ i ∧ ev_nth L j = some u ∧ ¬ (j + 1 = i ∧ u.category = 2)) := by
  induction L generalizing i j with
  | nil => simp [ev_st1, ev_nth] at h
  | cons x l ih =>
    cases i with
    | zero =>
      cases j with
      | zero => exact Or.inl ⟨rfl, h⟩
      | succ j => exact Or.inr ⟨by omega, h, by omega⟩
    | succ i =>
      cases j with
      | zero =>
        right
        refine ⟨by omega, ?_⟩
        cases i with
        | zero =>
          simp only [ev_st1, ev_nth] at h
          have hx : x = some u ∧ ¬ u.category = 2 := by
            unfold ev_clr at h
            split at h <;> first | (cases h; done) | (cases h; exact ⟨rfl, by decide⟩) | (cases h; exact ⟨rfl, by simp [Value.category]⟩)
          exact ⟨hx.1, fun q => hx.2 q.2⟩
        | succ i => exact ⟨h, by omega⟩
      | succ j =>
        simp only [ev_st1, ev_nth] at h
        rcases ih i j h with ⟨h1, h2⟩ | ⟨h1, h2, h3⟩
        · exact Or.inl ⟨by omega, h2⟩
        · exact Or.inr ⟨by omega, h2, fun q => h3 ⟨by omega, q.2⟩⟩
/-- the listed values, as the kit's rows have them -/
def ev_as (ad : Nat → Nat) (L : ev_L) : List (Nat × Value) := (List.range L.length).filterMap (fun i => (ev_nth L i).map (fun v => (i, ev_cv ad v)))
theorem ev_nth_lt {L : ev_L} {i : Nat} {v : Value} (h : ev_nth L i = some v) : i < L.length := by
  induction L generalizing i with
  | nil => simp [ev_nth] at h
  | cons x l ih =>
    cases i with
    | zero => simp
    | succ i => have := ih h; simp; omega
theorem ev_as_in {ad : Nat → Nat} {L : ev_L} {q : Nat × Value} : q ∈ ev_as ad L ↔ ∃ v, ev_nth L q.1 = some v ∧ q.2 = ev_cv ad v := by
  obtain ⟨i, u⟩ := q
  unfold ev_as
  rw [List.mem_filterMap]
  constructor
  · rintro ⟨j, -, hj⟩
    cases h : ev_nth L j with
    | none => rw [h] at hj; cases hj
    | some u => rw [h] at hj; cases hj; exact ⟨u, h, rfl⟩
  · rintro ⟨v, h, h2⟩
    exact ⟨i, List.mem_range.mpr (ev_nth_lt h), by dsimp only at h h2; rw [h, h2]; rfl⟩
theorem ev_LH.has {ad : Nat → Nat} {ls : Array Slot} {nL : Nat} {L : ev_L} (h : ev_LH ad ls nL L) : lv_has ls nL (ev_as ad L) := ⟨h.1, h.2.1, fun q hq => by
  obtain ⟨v, h1, h2⟩ := ev_as_in.mp hq
  rw [h2]
  exact h.2.2 _ _ h1⟩
theorem ev_LH.of {ad : Nat → Nat} {ls : Array Slot} {nL : Nat} {L : ev_L} {l : List (Nat × Value)} (h : lv_has ls nL l) (hl : ∀ i v, ev_nth L i = some v → (i, ev_cv ad v) ∈ l) : ev_LH ad ls nL L := ⟨h.1, h.2.1, fun i v hv => h.2.2 (i, ev_cv ad v) (hl i v hv)⟩
theorem ev_LH.st1 {ad : Nat → Nat} {ls : Array Slot} {nL : Nat} {L : ev_L} {i : Nat} {v : Value} (h : lv_has ls nL ((i, ev_cv ad v) :: (ev_as ad L).filter (fun q => !(q.1 == i) && !(q.1 + 1 == i && q.2.category == 2)))) : ev_LH ad ls nL (ev_st1 L i (some v)) := by
  refine ev_LH.of h fun j u hj => ?_
  rcases ev_nth_st1 L i (some v) j u hj with ⟨h1, h2⟩ | ⟨h1, h2, h3⟩
  · cases h2; subst h1; exact List.mem_cons_self
  · refine List.mem_cons_of_mem _ (List.mem_filter.mpr ⟨ev_as_in.mpr ⟨u, h2, rfl⟩, ?_⟩)
    have a : (j == i) = false := by simp [h1]
    have b : (j + 1 == i && (ev_cv ad u).category == 2) = false := by
      rw [Bool.and_eq_false_iff, ev_cv_cat]
      by_cases c : j + 1 = i
      · right; simp; exact fun q => h3 ⟨c, q⟩
      · left; simp [c]
    simp only [a, b]
    rfl
theorem ev_LH.st2 {ad : Nat → Nat} {ls : Array Slot} {nL : Nat} {L : ev_L} {i : Nat} {v : Value} (h : lv_has ls nL ((i, ev_cv ad v) :: (ev_as ad L).filter (fun q => !(q.1 == i) && (!(q.1 == i + 1) && !(q.1 + 1 == i && q.2.category == 2))))) : ev_LH ad ls nL (ev_st2 L i (some v)) := by
  refine ev_LH.of h fun j u hj => ?_
  unfold ev_st2 at hj
  rcases ev_nth_st1 _ i (some v) j u hj with ⟨h1, h2⟩ | ⟨h1, h2, h3⟩
  · cases h2; subst h1; exact List.mem_cons_self
  · rcases ev_nth_st1 L (i + 1) none j u h2 with ⟨g1, g2⟩ | ⟨g1, g2, g3⟩
    · cases g2
    · refine List.mem_cons_of_mem _ (List.mem_filter.mpr ⟨ev_as_in.mpr ⟨u, g2, rfl⟩, ?_⟩)
      have a : (j == i) = false := by simp [h1]
      have a2 : (j == i + 1) = false := by simp [g1]
      have b : (j + 1 == i && (ev_cv ad u).category == 2) = false := by
        rw [Bool.and_eq_false_iff, ev_cv_cat]
        by_cases c : j + 1 = i
        · right; simp; exact fun q => h3 ⟨c, q⟩
        · left; simp [c]
      simp only [a, a2, b]
      rfl
theorem ev_LH.k {ad : Nat → Nat} {ls : Array Slot} {nL : Nat} {L : ev_L} (h : ev_LH ad ls nL L) {i : Nat} {v : Value} (hi : ev_nth L i = some v) : ∃ k : Nat, (ev_as ad L)[k]? = some (i, ev_cv ad v) := List.getElem?_of_mem (ev_as_in.mpr ⟨v, hi, rfl⟩)
-- forced forms: what a run comes to, its lists written out
def ev_fv {α : Type} (v : Value) (k : Value → α) : α := match v with
  | .ref a => k (.ref a)
  | .int x => k (.int x)
  | .long x => k (.long x)
  | .float x => k (.float x)
  | .double x => k (.double x)
  | .null => k .null
  | .retAddr x => k (.retAddr x)
def ev_fov {α : Type} (v : Option Value) (k : Option Value → α) : α := match v with
  | none => k none
  | some u => ev_fv u fun u => k (some u)
def ev_fL {α : Type} : ev_L → (ev_L → α) → α
  | [], k => k []
  | x :: l, k => ev_fov x fun x => ev_fL l fun l => k (x :: l)
def ev_fV {α : Type} : List Value → (List Value → α) → α
  | [], k => k []
  | x :: l, k => ev_fv x fun x => ev_fV l fun l => k (x :: l)
def ev_fE {α : Type} (E : ev_E) (k : ev_E → α) : α := match E with
  | .inl (t, n, .inl f) => k (.inl (t, n, .inl f))
  | .inl (t, n, .inr (.inl f)) => k (.inl (t, n, .inr (.inl f)))
  | .inl (t, n, .inr (.inr (.inl f))) => k (.inl (t, n, .inr (.inr (.inl f))))
  | .inl (t, n, .inr (.inr (.inr (.inl f)))) => k (.inl (t, n, .inr (.inr (.inr (.inl f)))))
  | .inl (t, n, .inr (.inr (.inr (.inr f)))) => k (.inl (t, n, .inr (.inr (.inr (.inr f)))))
  | .inr (ci, fs) => ev_fV fs fun fs => k (.inr (ci, fs))
def ev_fW {α : Type} : List ev_E → (List ev_E → α) → α
  | [], k => k []
  | x :: l, k => ev_fE x fun x => ev_fW l fun l => k (x :: l)
def ev_fP {α : Type} : List Prop → (List Prop → α) → α
  | [], k => k []
  | x :: l, k => ev_fP l fun l => k (x :: l)
theorem ev_fv_eq {α : Type} (v : Value) (k : Value → α) : ev_fv v k = k v := by cases v <;> rfl
theorem ev_fov_eq {α : Type} (v : Option Value) (k : Option Value → α) : ev_fov v k = k v := by
  cases v with
  | none => rfl
  | some u => exact ev_fv_eq u (fun u => k (some u))
theorem ev_fL_eq {α : Type} (L : ev_L) (k : ev_L → α) : ev_fL L k = k L := by
  induction L generalizing k with
  | nil => rfl
  | cons x l ih => rw [ev_fL, ev_fov_eq, ih]
theorem ev_fV_eq {α : Type} (L : List Value) (k : List Value → α) : ev_fV L k = k L := by
  induction L generalizing k with
  | nil => rfl
  | cons x l ih => rw [ev_fV, ev_fv_eq, ih]
theorem ev_fE_eq {α : Type} (E : ev_E) (k : ev_E → α) : ev_fE E k = k E := by
  match E with
  | .inl (t, n, .inl f) => rfl
  | .inl (t, n, .inr (.inl f)) => rfl
  | .inl (t, n, .inr (.inr (.inl f))) => rfl
  | .inl (t, n, .inr (.inr (.inr (.inl f)))) => rfl
  | .inl (t, n, .inr (.inr (.inr (.inr f)))) => rfl
  | .inr (ci, fs) => exact ev_fV_eq fs _
theorem ev_fW_eq {α : Type} (L : List ev_E) (k : List ev_E → α) : ev_fW L k = k L := by
  induction L generalizing k with
  | nil => rfl
  | cons x l ih => rw [ev_fW, ev_fE_eq, ih]
theorem ev_fP_eq {α : Type} (L : List Prop) (k : List Prop → α) : ev_fP L k = k L := by
  induction L generalizing k with
  | nil => rfl
  | cons x l ih => rw [ev_fP, ih]
def ev_fO (o : ev_O) : ev_O := match o with
  | (cs, pc, L, st, w) => ev_fP cs fun cs => ev_fL L fun L => ev_fV st fun st => ev_fW w fun w => (cs, pc, L, st, w)
theorem ev_fO_eq (o : ev_O) : ev_fO o = o := by
  obtain ⟨cs, pc, L, st, w⟩ := o
  show (ev_fP cs fun cs => ev_fL L fun L => ev_fV st fun st => ev_fW w fun w => (cs, pc, L, st, w)) = _
  rw [ev_fP_eq, ev_fL_eq, ev_fV_eq, ev_fW_eq]
end
section
/-! ===== one instruction of the abstract run, carried to the machine ===== -/
/-- a method: its class, its name, its code, how many locals, what it returns, its table, its room (frames, locals' words, cells, slots) -/
abbrev ev_M : Type := String × String × ByteArray × Nat × Option FieldType × ev_T × Nat × Nat × Nat × Nat
def ev_own (μ : ev_M) : String := μ.1
def ev_mn (μ : ev_M) : String := μ.2.1
def ev_cc (μ : ev_M) : ByteArray := μ.2.2.1
def ev_nL (μ : ev_M) : Nat := μ.2.2.2.1
def ev_rt (μ : ev_M) : Option FieldType := μ.2.2.2.2.1
def ev_tab (μ : ev_M) : ev_T := μ.2.2.2.2.2.1
def ev_fr (μ : ev_M) : Nat := μ.2.2.2.2.2.2.1
def ev_lo (μ : ev_M) : Nat := μ.2.2.2.2.2.2.2.1
def ev_mc (μ : ev_M) : Nat := μ.2.2.2.2.2.2.2.2.1
def ev_ms (μ : ev_M) : Nat := μ.2.2.2.2.2.2.2.2.2
def ev_len (ins : Instr) (x : Nat) : Nat := match ins with
  | .iload _ => 2
  | .lload _ => 2
  | .dload _ => 2
  | .aload _ => 2
  | .istore _ => 2
  | .lstore _ => 2
  | .dstore _ => 2
  | .astore _ => 2
  | .bipush _ => 2
  | .ldc _ => 2
  | .newarray _ => 2
  | .sipush _ => 3
  | .ldc_w _ => 3
  | .ldc2_w _ => 3
  | .iinc _ _ => 3
  | .goto _ => 3
  | .getfield _ => 3
  | .putfield _ => 3
  | .ifCond _ _ => 3
  | .if_icmp _ _ => 3
  | .invokevirtual _ => 3
  | .invokespecial _ => 3
  | .invokestatic _ => 3
  | .new _ => 3
  | .anewarray _ => 3
  | .tableswitch _ _ _ _ => x
  | .lookupswitch _ _ => x
  | _ => 1
def ev_lk (own nm : String) (nL pc : Nat) (ins : Instr) (k x y : Nat) (v : Value) : Bool := match ins with
  | .iconst n => decide (v = .int (Int32.ofInt n))
  | .bipush n => decide (v = .int (Int8.ofInt n).toInt32)
  | .sipush n => decide (v = .int (Int16.ofInt n).toInt32)
  | .iinc i n => decide (v = .int (Int32.ofInt n)) && decide (i = x) && decide (x < nL)
  | .lconst n => decide (v = .long (Int64.ofNat (n : Nat)))
  | .dconst n => decide ((n = 0 ∧ v = .double FP.dconst0) ∨ (n = 1 ∧ v = .double FP.dconst1))
  | .ldc i => match v with | .int c => ev_has k (.constant own i c) | _ => false
  | .ldc_w i => match v with | .int c => ev_has k (.constant own i c) | _ => false
  | .ldc2_w i => match v with | .long c => ev_has k (.constantLong own i c) | .double c => ev_has k (.constantDouble own i c) | _ => false
  | .iload i => decide (i = x)
  | .lload i => decide (i = x)
  | .dload i => decide (i = x)
  | .aload i => decide (i = x)
  | .iload_n i => decide ((i : Nat) = x)
  | .lload_n i => decide ((i : Nat) = x)
  | .dload_n i => decide ((i : Nat) = x)
  | .aload_n i => decide ((i : Nat) = x)
  | .istore i => decide (i = x) && decide (x < nL)
  | .astore i => decide (i = x) && decide (x < nL)
  | .istore_n i => decide ((i : Nat) = x) && decide (x < nL)
  | .astore_n i => decide ((i : Nat) = x) && decide (x < nL)
  | .lstore i => decide (i = x) && decide (x + 1 < nL)
  | .dstore i => decide (i = x) && decide (x + 1 < nL)
  | .lstore_n i => decide ((i : Nat) = x) && decide (x + 1 < nL)
  | .dstore_n i => decide ((i : Nat) = x) && decide (x + 1 < nL)
  | .goto o => decide ((pc : Int) + o = (x : Int))
  | .ifCond _ o => decide ((pc : Int) + o = (x : Int))
  | .if_icmp _ o => decide ((pc : Int) + o = (x : Int))
  | .getfield i => ev_fl own i k x y
  | .putfield i => decide (x < 6) && decide (y < ev_N x) && (if (ev_F x y).2.2.2 = true then decide (nm = "<init>") && decide ((ev_F x y).1 = own) && ev_has k (.fieldLink own i (ev_F x y).1 (ev_F x y).2.1 (ev_F x y).2.2.1) else ev_fl own i k x y)
  | .tableswitch _ _ _ _ => decide (y = pc)
  | .lookupswitch _ _ => decide (y = pc)
  | _ => true
def ev_ck (own nm : String) (cc : ByteArray) (nL : Nat) (q : Nat × ev_I) : Bool := match q with
  | (pc, ins, nx, k, x, y, v) => decide (decode cc pc = .ok (ins, ev_len ins x)) && decide (nx = pc + ev_len ins x) && ev_lk own nm nL pc ins k x y v
def ev_OK (μ : ev_M) : Prop := (ev_tab μ).all (ev_ck (ev_own μ) (ev_mn μ) (ev_cc μ) (ev_nL μ)) = true
theorem ev_look_in {tab : ev_T} {pc : Nat} {i : ev_I} (h : ev_look tab pc = some i) : (pc, i) ∈ tab := by
  induction tab with
  | nil => cases h
  | cons q l ih =>
    unfold ev_look at h
    split at h
    · next hq => cases h; have := Nat.eq_of_beq_eq_true hq; subst this; exact List.mem_cons_self
    · exact List.mem_cons_of_mem _ (ih h)
theorem ev_use {μ : ev_M} (h : ev_OK μ) {pc nx k x y : Nat} {ins : Instr} {v : Value} (hl : ev_look (ev_tab μ) pc = some (ins, nx, k, x, y, v)) : decode (ev_cc μ) pc = .ok (ins, ev_len ins x) ∧ nx = pc + ev_len ins x ∧ ev_lk (ev_own μ) (ev_mn μ) (ev_nL μ) pc ins k x y v = true := by
  have h1 := List.all_eq_true.mp h _ (ev_look_in hl)
  unfold ev_ck at h1
  rw [Bool.and_eq_true, Bool.and_eq_true] at h1
  exact ⟨of_decide_eq_true h1.1.1, of_decide_eq_true h1.1.2, h1.2⟩
/-- what stays: the machine, the body, the tables' words, the room -/
def ev_Fix (μ : ev_M) (p : Program) (R : Room) (s : State) (m : MethodId) (args : Array Value) (meth : Method) (c : Code) : Prop :=
  p.tables.exec = Jvm.exec ∧ c.code = ev_cc μ ∧ c.maxLocals = ev_nL μ ∧ meth.sig.returnType = ev_rt μ ∧ s.vm.findClass (ev_own μ) = some m.cls ∧ (∀ w ∈ ev_WA, w.before args s = true) ∧ meth.locks = false ∧ meth.name = ev_mn μ ∧ (ev_fr μ ≤ R.frames ∧ ev_lo μ ≤ R.locals ∧ ev_mc μ ≤ R.cells ∧ ev_ms μ ≤ R.slots)
def ev_I0 (μ : ev_M) (p : Program) (R : Room) (s : State) (m : MethodId) (args : Array Value) (meth : Method) (c : Code) (D : va_G) (ct : Nat → ClassId) (A : Nat → Prop) : Prop :=
  ev_OK μ ∧ ev_Fix μ p R s m args meth c ∧ va_K D vwCl (ev_tys ct) s ∧ ∀ q, s.heap.size ≤ q → A q
/-- what changes: the cells, the locals -/
def ev_I1 (μ : ev_M) (s : State) (D : va_G) (ct : Nat → ClassId) (ad0 : Nat → Nat) (A : Nat → Prop) (N0 : Nat) (ad : Nat → Nat) (H : Heap) (locs : List Loc) (ls : Array Slot) (L : ev_L) (w : List ev_E) : Prop :=
  va_P D vwCl (ev_lay ad ct w) H ∧ va_D A (ev_lay ad ct w) ∧ va_S A s.heap H locs ∧ (∀ k, k < N0 → ad k = ad0 k) ∧ ev_LH ad ls (ev_nL μ) L
theorem ev_ca_i (ad : Nat → Nat) (n : Nat) (f : Nat → Int32) : ev_ca ad (n, .inl f) = (n, .inl f) := rfl
theorem ev_ca_l (ad : Nat → Nat) (n : Nat) (f : Nat → Int64) : ev_ca ad (n, .inr (.inl f)) = (n, .inr (.inl f)) := rfl
theorem ev_map_set (ad : Nat → Nat) (fs : List Value) (k : Nat) (v : Value) : (fs.map (ev_cv ad)).set k (ev_cv ad v) = (fs.set k v).map (ev_cv ad) := by rw [List.map_set]
section EVS
variable {μ : ev_M} {p : Program} {l : Launch} {e : Env} {R : Room} {s : State} {m : MethodId} {args : Array Value} {below : List Frame} {meth : Method} {c : Code} {D : va_G} {ct : Nat → ClassId} {ad0 ad : Nat → Nat} {A : Nat → Prop} {N0 : Nat} {Q : State → Prop} {kc ks pc : Nat}
theorem ev_I1.ls {H : Heap} {locs : List Loc} {ls ls' : Array Slot} {L L' : ev_L} {w : List ev_E} (h : ev_I1 μ s D ct ad0 A N0 ad H locs ls L w) (hl : ev_LH ad ls' (ev_nL μ) L') : ev_I1 μ s D ct ad0 A N0 ad H locs ls' L' w := ⟨h.1, h.2.1, h.2.2.1, h.2.2.2.1, hl⟩
theorem ev_I1.set {H H1 : Heap} {locs locs1 : List Loc} {ls : Array Slot} {L : ev_L} {w : List ev_E} {k : Nat} {E : ev_E} {E' : va_E} (h : ev_I1 μ s D ct ad0 A N0 ad H locs ls L w) (hE : ev_ce ad ct E = E') (hP : va_P D vwCl ((ev_lay ad ct w).set k (ad k, E')) H1) (hD : va_D A ((ev_lay ad ct w).set k (ad k, E'))) (hS : va_S A s.heap H1 locs1) : ev_I1 μ s D ct ad0 A N0 ad H1 locs1 ls L (ev_ws w k E) := by
  subst hE
  rw [ev_lay_set, ← ev_ws_eq] at hP hD
  exact ⟨hP, hD, hS, h.2.2.2.1, h.2.2.2.2⟩
/-- the goal of every step -/
def ev_kk (μ : ev_M) (p : Program) (l : Launch) (e : Env) (R : Room) (s : State) (m : MethodId) (args : Array Value) (below : List Frame) (meth : Method) (c : Code) (D : va_G) (ct : Nat → ClassId) (ad0 ad : Nat → Nat) (A : Nat → Prop) (N0 : Nat) (Q : State → Prop) (kc ks pc : Nat) (L : ev_L) (st : List Value) (w : List ev_E) : Prop :=
  ∀ (H : Heap) (locs : List Loc) (ls : Array Slot), ev_I1 μ s D ct ad0 A N0 ad H locs ls L w → W p l e R s m args below meth c H locs kc ks Q (F0 m pc ls (st.map (ev_cv ad)))
set_option maxHeartbeats 4000000 in
set_option maxRecDepth 100000 in
theorem ev_step_ok (h0 : ev_I0 μ p R s m args meth c D ct A) {i : ev_I} {L L' : ev_L} {st st' : List Value} {w w' : List ev_E} {cs : List Prop} {pc' : Nat} (hlk : ev_look (ev_tab μ) pc = some i) (hs : ev_step i L st w = some (cs, pc', L', st', w')) (hc : ev_all cs)
    (kk : ev_kk μ p l e R s m args below meth c D ct ad0 ad A N0 Q kc ks pc' L' st' w') : ev_kk μ p l e R s m args below meth c D ct ad0 ad A N0 Q kc ks pc L st w := by
  obtain ⟨hok, ⟨hx, hb, hml, hr, hown, hts, hlocks, hnm, hR⟩, hK, hA⟩ := h0
  obtain ⟨ins, nx, k, x, y, v⟩ := i
  obtain ⟨hd, hnx, hv⟩ := ev_use hok hlk
  intro H locs ls I1
  have I1' := I1
  obtain ⟨hP, hD, hS, had, hL⟩ := I1
  cases ins with
  | iconst n =>
    dsimp only [ev_step] at hs
    split at hs <;> cases hs
    subst hnx
    have hv := of_decide_eq_true hv
    cases hv
    exact lv_iconst hx hb hd rfl (kk _ _ _ I1')
  | bipush n =>
    dsimp only [ev_step] at hs
    split at hs <;> cases hs
    subst hnx
    have hv := of_decide_eq_true hv
    cases hv
    exact lv_bipush hx hb hd rfl (kk _ _ _ I1')
  | sipush n =>
    dsimp only [ev_step] at hs
    split at hs <;> cases hs
    subst hnx
    have hv := of_decide_eq_true hv
    cases hv
    exact lv_sipush hx hb hd rfl (kk _ _ _ I1')
  | ldc n =>
    dsimp only [ev_step] at hs
    split at hs <;> cases hs
    subst hnx
    exact lv_ldc hx hb hown (hts _ (ev_has_in hv)) hd (kk _ _ _ I1')
  | ldc_w n =>
    dsimp only [ev_step] at hs
    split at hs <;> cases hs
    subst hnx
    exact lv_ldcw hx hb hown (hts _ (ev_has_in hv)) hd (kk _ _ _ I1')
  | ldc2_w n =>
    dsimp only [ev_step] at hs
    split at hs <;> cases hs
    · subst hnx
      exact lv_ldc2 hx hb hown (hts _ (ev_has_in hv)) hd (kk _ _ _ I1')
    · subst hnx
      exact lv_ldc2d hx hb hown (hts _ (ev_has_in hv)) hd (kk _ _ _ I1')
  | lconst n =>
    dsimp only [ev_step] at hs
    split at hs <;> cases hs
    subst hnx
    have hv := of_decide_eq_true hv
    cases hv
    exact lv_lconst hx hb hd rfl (kk _ _ _ I1')
  | dconst n =>
    dsimp only [ev_step] at hs
    split at hs <;> cases hs
    subst hnx
    have hv9 := of_decide_eq_true hv
    clear hv
    rcases hv9 with ⟨h8, h9⟩ | ⟨h8, h9⟩
    · subst h8; cases h9
      exact lv_dconst0 hx hb hd (kk _ _ _ I1')
    · subst h8; cases h9
      exact lv_dconst1 hx hb hd (kk _ _ _ I1')
  | iload n =>
    dsimp only [ev_step] at hs
    split at hs <;> cases hs
    next hn =>
    have hv := of_decide_eq_true hv
    subst hnx; subst hv
    exact lv_iload hx hb hd (hL.2.2 _ _ hn) (kk _ _ _ I1')
  | lload n =>
    dsimp only [ev_step] at hs
    split at hs <;> cases hs
    next hn =>
    have hv := of_decide_eq_true hv
    subst hnx; subst hv
    exact lv_lload hx hb hd (hL.2.2 _ _ hn) (kk _ _ _ I1')
  | iload_n n =>
    dsimp only [ev_step] at hs
    split at hs <;> cases hs
    next hn =>
    have hv := of_decide_eq_true hv
    subst hnx
    exact lv_iload_n hx hb hd hv (hL.2.2 _ _ hn) (kk _ _ _ I1')
  | lload_n n =>
    dsimp only [ev_step] at hs
    split at hs <;> cases hs
    next hn =>
    have hv := of_decide_eq_true hv
    subst hnx
    exact lv_lload_n hx hb hd hv (hL.2.2 _ _ hn) (kk _ _ _ I1')
  | dload n =>
    dsimp only [ev_step] at hs
    split at hs <;> cases hs
    next hn =>
    have hv := of_decide_eq_true hv
    subst hnx; subst hv
    exact lv_dload hx hb hd (hL.2.2 _ _ hn) (kk _ _ _ I1')
  | dload_n n =>
    dsimp only [ev_step] at hs
    split at hs <;> cases hs
    next hn =>
    have hv := of_decide_eq_true hv
    subst hnx
    exact lv_dload_n hx hb hd hv (hL.2.2 _ _ hn) (kk _ _ _ I1')
  | aload n =>
    dsimp only [ev_step] at hs
    split at hs <;> cases hs
    next hn =>
    have hv := of_decide_eq_true hv
    subst hnx; subst hv
    exact lv_aload hx hb hd (hL.2.2 _ _ hn) (kk _ _ _ I1')
  | aload_n n =>
    dsimp only [ev_step] at hs
    split at hs <;> cases hs
    next hn =>
    have hv := of_decide_eq_true hv
    subst hnx
    exact lv_aload_n hx hb hd hv (hL.2.2 _ _ hn) (kk _ _ _ I1')
  | istore n =>
    dsimp only [ev_step] at hs
    split at hs <;> cases hs
    obtain ⟨hv, hv2⟩ := Bool.and_eq_true_iff.mp hv
    have hv := of_decide_eq_true hv
    have hv2 := of_decide_eq_true hv2
    subst hnx; subst hv
    exact lv_istore hx hb hd hL.has hv2 rfl (fun ls2 h2 => kk _ _ _ (I1'.ls (ev_LH.st1 h2)))
  | istore_n n =>
    dsimp only [ev_step] at hs
    split at hs <;> cases hs
    obtain ⟨hv, hv2⟩ := Bool.and_eq_true_iff.mp hv
    have hv := of_decide_eq_true hv
    have hv2 := of_decide_eq_true hv2
    subst hnx
    exact lv_istore_n hx hb hd hv hL.has hv2 rfl (fun ls2 h2 => kk _ _ _ (I1'.ls (ev_LH.st1 h2)))
  | lstore n =>
    dsimp only [ev_step] at hs
    split at hs <;> cases hs
    obtain ⟨hv, hv2⟩ := Bool.and_eq_true_iff.mp hv
    have hv := of_decide_eq_true hv
    have hv2 := of_decide_eq_true hv2
    subst hnx; subst hv
    exact lv_lstore hx hb hd hL.has hv2 rfl (fun ls2 h2 => kk _ _ _ (I1'.ls (ev_LH.st2 h2)))
  | lstore_n n =>
    dsimp only [ev_step] at hs
    split at hs <;> cases hs
    obtain ⟨hv, hv2⟩ := Bool.and_eq_true_iff.mp hv
    have hv := of_decide_eq_true hv
    have hv2 := of_decide_eq_true hv2
    subst hnx
    exact lv_lstore_n hx hb hd hv hL.has hv2 rfl (fun ls2 h2 => kk _ _ _ (I1'.ls (ev_LH.st2 h2)))
  | dstore n =>
    dsimp only [ev_step] at hs
    split at hs <;> cases hs
    obtain ⟨hv, hv2⟩ := Bool.and_eq_true_iff.mp hv
    have hv := of_decide_eq_true hv
    have hv2 := of_decide_eq_true hv2
    subst hnx; subst hv
    exact lv_dstore hx hb hd hL.has hv2 rfl (fun ls2 h2 => kk _ _ _ (I1'.ls (ev_LH.st2 h2)))
  | dstore_n n =>
    dsimp only [ev_step] at hs
    split at hs <;> cases hs
    obtain ⟨hv, hv2⟩ := Bool.and_eq_true_iff.mp hv
    have hv := of_decide_eq_true hv
    have hv2 := of_decide_eq_true hv2
    subst hnx
    exact lv_dstore_n hx hb hd hv hL.has hv2 rfl (fun ls2 h2 => kk _ _ _ (I1'.ls (ev_LH.st2 h2)))
  | astore n =>
    dsimp only [ev_step] at hs
    split at hs <;> cases hs
    obtain ⟨hv, hv2⟩ := Bool.and_eq_true_iff.mp hv
    have hv := of_decide_eq_true hv
    have hv2 := of_decide_eq_true hv2
    subst hnx; subst hv
    exact lv_astore hx hb hd hL.has hv2 rfl (fun ls2 h2 => kk _ _ _ (I1'.ls (ev_LH.st1 h2)))
  | astore_n n =>
    dsimp only [ev_step] at hs
    split at hs <;> cases hs
    obtain ⟨hv, hv2⟩ := Bool.and_eq_true_iff.mp hv
    have hv := of_decide_eq_true hv
    have hv2 := of_decide_eq_true hv2
    subst hnx
    exact lv_astore_n hx hb hd hv hL.has hv2 rfl (fun ls2 h2 => kk _ _ _ (I1'.ls (ev_LH.st1 h2)))
  | iinc i n =>
    dsimp only [ev_step] at hs
    split at hs <;> cases hs
    next hn =>
    have hw1 : (_ && _) = true := hv
    have hw2 := Bool.and_eq_true_iff.mp hw1
    have hw3 := Bool.and_eq_true_iff.mp hw2.1
    have g1 := of_decide_eq_true hw3.1
    have g2 := of_decide_eq_true hw2.2
    have g3 := of_decide_eq_true hw3.2
    have g4 := Value.int.inj g1
    clear hv hw1 hw2 hw3 g1
    subst hnx; subst g3; subst g4
    obtain ⟨q, hq⟩ := hL.k hn
    exact lv_iinc hx hb hd hL.has hq rfl g2 rfl (fun ls2 h2 => kk _ _ _ (I1'.ls (ev_LH.st1 (v := .int _) h2)))
  | iadd =>
    dsimp only [ev_step] at hs
    split at hs <;> cases hs
    subst hnx
    exact lv_iadd hx hb hd (kk _ _ _ I1')
  | isub =>
    dsimp only [ev_step] at hs
    split at hs <;> cases hs
    subst hnx
    exact lv_isub hx hb hd (kk _ _ _ I1')
  | imul =>
    dsimp only [ev_step] at hs
    split at hs <;> cases hs
    subst hnx
    exact lv_imul hx hb hd (kk _ _ _ I1')
  | iand =>
    dsimp only [ev_step] at hs
    split at hs <;> cases hs
    subst hnx
    exact lv_iand hx hb hd (kk _ _ _ I1')
  | ior =>
    dsimp only [ev_step] at hs
    split at hs <;> cases hs
    subst hnx
    exact lv_ior hx hb hd (kk _ _ _ I1')
  | ixor =>
    dsimp only [ev_step] at hs
    split at hs <;> cases hs
    subst hnx
    exact lv_ixor hx hb hd (kk _ _ _ I1')
  | ishl =>
    dsimp only [ev_step] at hs
    split at hs <;> cases hs
    subst hnx
    exact lv_ishl hx hb hd (kk _ _ _ I1')
  | ishr =>
    dsimp only [ev_step] at hs
    split at hs <;> cases hs
    subst hnx
    exact lv_ishr hx hb hd (kk _ _ _ I1')
  | ladd =>
    dsimp only [ev_step] at hs
    split at hs <;> cases hs
    subst hnx
    exact lv_ladd hx hb hd (kk _ _ _ I1')
  | lsub =>
    dsimp only [ev_step] at hs
    split at hs <;> cases hs
    subst hnx
    exact lv_lsub hx hb hd (kk _ _ _ I1')
  | lmul =>
    dsimp only [ev_step] at hs
    split at hs <;> cases hs
    subst hnx
    exact lv_lmul hx hb hd (kk _ _ _ I1')
  | iushr =>
    dsimp only [ev_step] at hs
    split at hs <;> cases hs
    subst hnx
    exact lv_iushr hx hb hd rfl (kk _ _ _ I1')
  | lshl =>
    dsimp only [ev_step] at hs
    split at hs <;> cases hs
    subst hnx
    exact lv_lshl hx hb hd rfl (kk _ _ _ I1')
  | i2l =>
    dsimp only [ev_step] at hs
    split at hs <;> cases hs
    subst hnx
    exact lv_i2l hx hb hd rfl (kk _ _ _ I1')
  | i2d =>
    dsimp only [ev_step] at hs
    split at hs <;> cases hs
    subst hnx
    exact lv_i2d hx hb hd (kk _ _ _ I1')
  | d2l =>
    dsimp only [ev_step] at hs
    split at hs <;> cases hs
    subst hnx
    exact lv_d2l hx hb hd (kk _ _ _ I1')
  | idiv =>
    dsimp only [ev_step] at hs
    split at hs <;> cases hs
    subst hnx
    exact lv_idiv hx hb hd hc (kk _ _ _ I1')
  | irem =>
    dsimp only [ev_step] at hs
    split at hs <;> cases hs
    subst hnx
    exact lv_irem hx hb hd hc (kk _ _ _ I1')
  | ldiv =>
    dsimp only [ev_step] at hs
    split at hs <;> cases hs
    subst hnx
    exact lv_ldiv hx hb hd hc (kk _ _ _ I1')
  | lrem =>
    dsimp only [ev_step] at hs
    split at hs <;> cases hs
    subst hnx
    exact lv_lrem hx hb hd hc (kk _ _ _ I1')
  | dmul =>
    dsimp only [ev_step] at hs
    split at hs <;> cases hs
    subst hnx
    exact lv_dmul hx hb hd hc (kk _ _ _ I1')
  | ddiv =>
    dsimp only [ev_step] at hs
    split at hs <;> cases hs
    subst hnx
    exact lv_ddiv hx hb hd hc (kk _ _ _ I1')
  | dsub =>
    dsimp only [ev_step] at hs
    split at hs <;> cases hs
    subst hnx
    exact lv_dsub hx hb hd hc (kk _ _ _ I1')
  | lcmp =>
    dsimp only [ev_step] at hs
    split at hs <;> cases hs
    subst hnx
    exact W.lcmp hx hb hd (kk _ _ _ I1')
  | dcmp op =>
    dsimp only [ev_step] at hs
    split at hs <;> cases hs
    subst hnx
    exact lv_dcmp hx hb hd (kk _ _ _ I1')
  | dup =>
    dsimp only [ev_step] at hs
    split at hs <;> cases hs
    · subst hnx
      exact lv_dup hx hb hd rfl (kk _ _ _ I1')
    · subst hnx
      exact lv_dup hx hb hd rfl (kk _ _ _ I1')
  | dup2 =>
    dsimp only [ev_step] at hs
    split at hs <;> cases hs
    subst hnx
    exact lv_dup2_11 hx hb hd rfl rfl (kk _ _ _ I1')
  | pop =>
    dsimp only [ev_step] at hs
    split at hs <;> cases hs
    · subst hnx
      exact lv_pop (va := .int _) hx hb hd rfl (kk _ _ _ I1')
    · subst hnx
      exact lv_pop (va := .ref _) hx hb hd rfl (kk _ _ _ I1')
  | goto o =>
    dsimp only [ev_step] at hs
    cases hs
    exact lv_goto hx hb hd (of_decide_eq_true hv) (kk _ _ _ I1')
  | getfield n =>
    dsimp only [ev_step] at hs
    split at hs
    · split at hs
      · next a r _ ci fs hw =>
        split at hs
        · next hci =>
          split at hs
          · next u hu =>
            cases hs
            subst hnx
            have hci := Nat.eq_of_beq_eq_true hci
            subst hci
            rw [ev_wg_eq] at hw
            rw [ev_fg_eq] at hu
            obtain ⟨q1, q2, q3⟩ := ev_fl_use hv
            have hlay := ev_lay_get (ad := ad) (ct := ct) hw
            have hval : (fs.map (ev_cv ad))[y]? = some (ev_cv ad u) := by rw [List.getElem?_map, hu]; rfl
            rcases q3 with q3 | ⟨host, q3⟩
            · exact va_get hx hb hts (ev_wsin q1) hown hK hP a hlay (ev_cl q1) y q2 (hts _ q3) (fun _ h9 => h9) hval hd (kk _ _ _ I1')
            · exact va_getN hx hb hts (ev_wsin q1) hown hK hP a hlay (ev_cl q1) y q2 (hts _ q3) (fun _ h9 => h9) hval hd (kk _ _ _ I1')
          · cases hs
        · cases hs
      · cases hs
    · cases hs
  | putfield n =>
    dsimp only [ev_step] at hs
    split at hs
    · split at hs
      · next u a r _ ci fs hw =>
        split at hs
        · next hci =>
          split at hs
          · next u0 hu hfit =>
            cases hs
            subst hnx
            have hci := Nat.eq_of_beq_eq_true hci
            subst hci
            rw [ev_wg_eq] at hw
            rw [ev_fg_eq] at hu
            have hlay := ev_lay_get (ad := ad) (ct := ct) hw
            have hlen : y < (fs.map (ev_cv ad)).length := by rw [List.length_map]; exact (List.getElem?_eq_some_iff.mp hu).1
            obtain ⟨f1, f2⟩ := ev_fit_ok hfit ad
            obtain ⟨hv, hv3⟩ := Bool.and_eq_true_iff.mp hv
            obtain ⟨hv1, hv2⟩ := Bool.and_eq_true_iff.mp hv
            have q1 := of_decide_eq_true hv1
            have q2 := of_decide_eq_true hv2
            have kk2 : ∀ (H1 : Heap) (locs1 : List Loc), va_P D vwCl ((ev_lay ad ct w).set a (ad a, .inr (ci, (fs.map (ev_cv ad)).set y (ev_cv ad u)))) H1 → va_D A ((ev_lay ad ct w).set a (ad a, .inr (ci, (fs.map (ev_cv ad)).set y (ev_cv ad u)))) → va_S A s.heap H1 locs1 → W p l e R s m args below meth c H1 locs1 kc ks Q (F0 m (pc + 3) ls (st'.map (ev_cv ad))) := by
              intro H1 locs1 g1 g2 g3
              exact kk _ _ _ (I1'.set (E := .inr (ci, ev_fs fs y u)) (by rw [ev_fs_eq, ev_map_set]; rfl) g1 g2 g3)
            by_cases hfin : (ev_F ci y).2.2.2 = true
            · rw [if_pos hfin] at hv3
              obtain ⟨hv4, hv5⟩ := Bool.and_eq_true_iff.mp hv3
              obtain ⟨hv6, hv7⟩ := Bool.and_eq_true_iff.mp hv4
              exact va_putF hx hb hts (ev_wsin q1) (ev_ty ci) (ev_tyok q1) (ev_nm q1) hown hK hP hD hS a hlay (ev_cl q1) y q2 (hts _ (ev_has_in hv5)) (fun _ h9 => h9) hfin (hnm.trans (of_decide_eq_true hv6)) (of_decide_eq_true hv7) (ev_tyok q1 y q2) f1 f2 hlen hd kk2
            · rw [if_neg hfin] at hv3
              have hfin : (ev_F ci y).2.2.2 = false := by simpa using hfin
              obtain ⟨-, -, q3⟩ := ev_fl_use hv3
              rcases q3 with q3 | ⟨host, q3⟩
              · exact va_put hx hb hts (ev_wsin q1) (ev_ty ci) (ev_tyok q1) (ev_nm q1) hown hK hP hD hS a hlay (ev_cl q1) y q2 (hts _ q3) (fun _ h9 => h9) hfin (ev_tyok q1 y q2) f1 f2 hlen hd kk2
              · exact va_putN hx hb hts (ev_wsin q1) (ev_ty ci) (ev_tyok q1) (ev_nm q1) hown hK hP hD hS a hlay (ev_cl q1) y q2 (hts _ q3) (fun _ h9 => h9) hfin (ev_tyok q1 y q2) f1 f2 hlen hd kk2
          · cases hs
        · cases hs
      · cases hs
    · cases hs
  | iaload =>
    dsimp only [ev_step] at hs
    split at hs
    · split at hs
      · next hw =>
        cases hs
        subst hnx
        rw [ev_wg_eq] at hw
        exact va_iald hx hb hK hP _ 0 (ev_lay_get (ad := ad) (ct := ct) hw) rfl hc hd (kk _ _ _ I1')
      · cases hs
    · cases hs
  | laload =>
    dsimp only [ev_step] at hs
    split at hs
    · split at hs
      · next hw =>
        cases hs
        subst hnx
        rw [ev_wg_eq] at hw
        exact va_lald hx hb hK hP _ 1 (ev_lay_get (ad := ad) (ct := ct) hw) rfl hc hd (kk _ _ _ I1')
      · cases hs
    · cases hs
  | iastore =>
    dsimp only [ev_step] at hs
    split at hs
    · split at hs
      · next hw =>
        cases hs
        subst hnx
        rw [ev_wg_eq] at hw
        exact va_iast hx hb hK hP hD hS _ 0 (ev_lay_get (ad := ad) (ct := ct) hw) rfl hc hd (fun H1 locs1 g1 g2 g3 => kk _ _ _ (I1'.set (E := .inl (0, _, .inl _)) rfl g1 g2 g3))
      · cases hs
    · cases hs
  | lastore =>
    dsimp only [ev_step] at hs
    split at hs
    · split at hs
      · next hw =>
        cases hs
        subst hnx
        rw [ev_wg_eq] at hw
        exact va_last hx hb hK hP hD hS _ 1 (ev_lay_get (ad := ad) (ct := ct) hw) rfl hc hd (fun H1 locs1 g1 g2 g3 => kk _ _ _ (I1'.set (E := .inl (1, _, .inr (.inl _))) rfl g1 g2 g3))
      · cases hs
    · cases hs
  | tableswitch d lo hi offs =>
    dsimp only [ev_step] at hs
    split at hs
    · split at hs
      · next e1 e2 =>
        split at hs
        · next o ho =>
          split at hs
          · next ht =>
            cases hs
            have hv := of_decide_eq_true hv
            subst hv
            exact lv_tableIn hx hb hd (of_decide_eq_false e1) (of_decide_eq_false e2) ho (of_decide_eq_true ht) (kk _ _ _ I1')
          · cases hs
        · cases hs
      · cases hs
    · cases hs
  | _ => cases hs
end EVS
end
section
/-! ===== the abstract run as a judgement: from here the body comes to one of the exits X ===== -/
abbrev ev_X : Type := Nat → ev_L → List Value → List ev_E → Nat → Nat → Prop
def ev_eqn (N0 : Option Nat) (ad ad0 : Nat → Nat) : Prop := match N0 with
  | none => ad = ad0
  | some n => ∀ k, k < n → ad k = ad0 k
/-- what changes: the cells, the locals -/
def ev_I2 (μ : ev_M) (s : State) (D : va_G) (ct : Nat → ClassId) (ad0 : Nat → Nat) (A : Nat → Prop) (N0 : Option Nat) (ad : Nat → Nat) (H : Heap) (locs : List Loc) (ls : Array Slot) (L : ev_L) (w : List ev_E) : Prop :=
  va_P D vwCl (ev_lay ad ct w) H ∧ va_D A (ev_lay ad ct w) ∧ va_S A s.heap H locs ∧ ev_eqn N0 ad ad0 ∧ ev_LH ad ls (ev_nL μ) L
def ev_k2 (μ : ev_M) (p : Program) (l : Launch) (e : Env) (R : Room) (s : State) (m : MethodId) (args : Array Value) (below : List Frame) (meth : Method) (c : Code) (D : va_G) (ct : Nat → ClassId) (ad0 : Nat → Nat) (A : Nat → Prop) (N0 : Option Nat) (Q : State → Prop) (pc : Nat) (L : ev_L) (st : List Value) (w : List ev_E) (kc ks : Nat) : Prop :=
  ∀ (ad : Nat → Nat) (H : Heap) (locs : List Loc) (ls : Array Slot), ev_I2 μ s D ct ad0 A N0 ad H locs ls L w → W p l e R s m args below meth c H locs kc ks Q (F0 m pc ls (st.map (ev_cv ad)))
def ev_V (μ : ev_M) (N0 : Option Nat) (X : ev_X) (pc : Nat) (L : ev_L) (st : List Value) (w : List ev_E) (kc ks : Nat) : Prop :=
  ∀ (p : Program) (l : Launch) (e : Env) (R : Room) (s : State) (m : MethodId) (args : Array Value) (below : List Frame) (meth : Method) (c : Code) (D : va_G) (ct : Nat → ClassId) (ad0 : Nat → Nat) (A : Nat → Prop) (Q : State → Prop),
    ev_I0 μ p R s m args meth c D ct A →
    (∀ pc' L' st' w' kc' ks', X pc' L' st' w' kc' ks' → ev_k2 μ p l e R s m args below meth c D ct ad0 A N0 Q pc' L' st' w' kc' ks') →
    ev_k2 μ p l e R s m args below meth c D ct ad0 A N0 Q pc L st w kc ks
theorem ev_exit {μ : ev_M} {N0 : Option Nat} {X : ev_X} {pc : Nat} {L : ev_L} {st : List Value} {w : List ev_E} {kc ks : Nat} (h : X pc L st w kc ks) : ev_V μ N0 X pc L st w kc ks := fun _ _ _ _ _ _ _ _ _ _ _ _ _ _ _ _ hx => hx _ _ _ _ _ _ h
theorem ev_bind {μ : ev_M} {N0 : Option Nat} {X Y : ev_X} {pc : Nat} {L : ev_L} {st : List Value} {w : List ev_E} {kc ks : Nat} (h : ev_V μ N0 X pc L st w kc ks) (hX : ∀ pc' L' st' w' kc' ks', X pc' L' st' w' kc' ks' → ev_V μ N0 Y pc' L' st' w' kc' ks') : ev_V μ N0 Y pc L st w kc ks :=
  fun p l e R s m args below meth c D ct ad0 A Q h0 hy => h p l e R s m args below meth c D ct ad0 A Q h0 fun pc' L' st' w' kc' ks' hx => hX pc' L' st' w' kc' ks' hx p l e R s m args below meth c D ct ad0 A Q h0 hy
theorem ev_step1 {μ : ev_M} {N0 : Option Nat} {X : ev_X} {pc : Nat} {L : ev_L} {st : List Value} {w : List ev_E} {kc ks : Nat} {i : ev_I} {cs : List Prop} {pc' : Nat} {L' : ev_L} {st' : List Value} {w' : List ev_E} (hlk : ev_look (ev_tab μ) pc = some i) (hs : ev_step i L st w = some (cs, pc', L', st', w')) (hc : ev_all cs)
    (k : ev_V μ N0 X pc' L' st' w' kc ks) : ev_V μ N0 X pc L st w kc ks := by
  intro p l e R s m args below meth c D ct ad0 A Q h0 hx ad H locs ls I
  refine ev_step_ok (N0 := 0) (ad0 := ad0) h0 hlk hs hc ?_ H locs ls ⟨I.1, I.2.1, I.2.2.1, fun k hk => absurd hk (Nat.not_lt_zero k), I.2.2.2.2⟩
  intro H' locs' ls' I1
  exact k p l e R s m args below meth c D ct ad0 A Q h0 hx ad H' locs' ls' ⟨I1.1, I1.2.1, I1.2.2.1, I.2.2.2.1, I1.2.2.2.2⟩
theorem ev_all_iff (l : List Prop) : ev_all l ↔ ∀ q ∈ l, q := by
  induction l with
  | nil => exact ⟨fun _ q hq => absurd hq List.not_mem_nil, fun _ => trivial⟩
  | cons a l ih =>
    cases l with
    | nil => exact ⟨fun h => List.forall_mem_cons.mpr ⟨h, List.forall_mem_nil _⟩, fun h => (List.forall_mem_cons.mp h).1⟩
    | cons b l => exact ⟨fun h => List.forall_mem_cons.mpr ⟨h.1, ih.mp h.2⟩, fun h => ⟨(List.forall_mem_cons.mp h).1, ih.mpr (List.forall_mem_cons.mp h).2⟩⟩
theorem ev_go_ok {μ : ev_M} {N0 : Option Nat} {X : ev_X} {cuts : List Nat} {kc ks : Nat} {pc' : Nat} {L' : ev_L} {st' : List Value} {w' : List ev_E} (k : ev_V μ N0 X pc' L' st' w' kc ks) (n : Nat) : ∀ (cs0 cs : List Prop) (pc : Nat) (L : ev_L) (st : List Value) (w : List ev_E), ev_go (ev_tab μ) cuts n cs0 pc L st w = (cs, pc', L', st', w') → (∀ q ∈ cs, q) → ev_V μ N0 X pc L st w kc ks ∧ ∀ q ∈ cs0, q := by
  induction n with
  | zero =>
    intro cs0 cs pc L st w h hc
    cases h
    exact ⟨k, hc⟩
  | succ n ih =>
    intro cs0 cs pc L st w h hc
    unfold ev_go at h
    split at h
    · cases h; exact ⟨k, hc⟩
    · next i hlk =>
      split at h
      · cases h; exact ⟨k, hc⟩
      · next c1 pc1 L1 st1 w1 hs =>
        split at h
        · cases h
          refine ⟨ev_step1 hlk hs ((ev_all_iff _).mpr fun q hq => hc q (List.mem_append_right _ hq)) k, fun q hq => hc q (List.mem_append_left _ hq)⟩
        · obtain ⟨h1, h2⟩ := ih _ _ _ _ _ _ h hc
          exact ⟨ev_step1 hlk hs ((ev_all_iff _).mpr fun q hq => h2 q (List.mem_append_right _ hq)) h1, fun q hq => h2 q (List.mem_append_left _ hq)⟩
/-- a straight stretch: by rfl -/
theorem ev_run {μ : ev_M} {N0 : Option Nat} {X : ev_X} (cuts : List Nat) (n : Nat) {pc : Nat} {L : ev_L} {st : List Value} {w : List ev_E} {kc ks : Nat} {cs : List Prop} {pc' : Nat} {L' : ev_L} {st' : List Value} {w' : List ev_E} (h : ev_fO (ev_go (ev_tab μ) cuts n [] pc L st w) = (cs, pc', L', st', w')) (hc : ev_all cs)
    (k : ev_V μ N0 X pc' L' st' w' kc ks) : ev_V μ N0 X pc L st w kc ks := by
  rw [ev_fO_eq] at h
  exact (ev_go_ok k n [] cs pc L st w h ((ev_all_iff _).mp hc)).1
-- branches
def ev_test (ins : Instr) (st : List Value) : Option (Prop × Prop × List Value) := match ins with
  | .ifCond .eq _ => match st with | .int a :: r => some (a = 0, ¬ a = 0, r) | _ => none
  | .ifCond .ne _ => match st with | .int a :: r => some (¬ a = 0, a = 0, r) | _ => none
  | .ifCond .lt _ => match st with | .int a :: r => some (a < 0, ¬ a < 0, r) | _ => none
  | .ifCond .ge _ => match st with | .int a :: r => some (0 ≤ a, ¬ 0 ≤ a, r) | _ => none
  | .ifCond .gt _ => match st with | .int a :: r => some (0 < a, ¬ 0 < a, r) | _ => none
  | .ifCond .le _ => match st with | .int a :: r => some (a ≤ 0, ¬ a ≤ 0, r) | _ => none
  | .if_icmp .eq _ => match st with | .int b :: .int a :: r => some (a = b, ¬ a = b, r) | _ => none
  | .if_icmp .ne _ => match st with | .int b :: .int a :: r => some (¬ a = b, a = b, r) | _ => none
  | .if_icmp .lt _ => match st with | .int b :: .int a :: r => some (a < b, ¬ a < b, r) | _ => none
  | .if_icmp .ge _ => match st with | .int b :: .int a :: r => some (b ≤ a, ¬ b ≤ a, r) | _ => none
  | .if_icmp .gt _ => match st with | .int b :: .int a :: r => some (b < a, ¬ b < a, r) | _ => none
  | .if_icmp .le _ => match st with | .int b :: .int a :: r => some (a ≤ b, ¬ a ≤ b, r) | _ => none
  | _ => none
set_option maxHeartbeats 1000000 in
theorem ev_br {μ : ev_M} {N0 : Option Nat} {X : ev_X} {pc : Nat} {L : ev_L} {st : List Value} {w : List ev_E} {kc ks : Nat} {ins : Instr} {nx k x y : Nat} {v : Value} {P N : Prop} {r : List Value} (hlk : ev_look (ev_tab μ) pc = some (ins, nx, k, x, y, v)) (ht : ev_test ins st = some (P, N, r))
    (kt : P → ev_V μ N0 X x L r w kc ks) (kf : N → ev_V μ N0 X nx L r w kc ks) : ev_V μ N0 X pc L st w kc ks := by
  intro p l e R s m args below meth c D ct ad0 A Q h0 hx ad H locs ls I
  have h0' := h0
  obtain ⟨hok, ⟨hx1, hb, -⟩, -⟩ := h0
  obtain ⟨hd, hnx, hv⟩ := ev_use hok hlk
  have kt' := fun hP => kt hP p l e R s m args below meth c D ct ad0 A Q h0' hx ad H locs ls I
  have kf' := fun hP => kf hP p l e R s m args below meth c D ct ad0 A Q h0' hx ad H locs ls I
  unfold ev_test at ht
  split at ht <;> first | (cases ht; done) | skip
  all_goals (split at ht <;> cases ht)
  all_goals (have hv := of_decide_eq_true hv; subst hnx)
  · exact lv_if_eq hx1 hb hd hv kt' kf'
  · exact lv_if_ne hx1 hb hd hv kt' kf'
  · exact lv_if_lt hx1 hb hd hv kt' kf'
  · exact lv_if_ge hx1 hb hd hv kt' kf'
  · exact lv_if_gt hx1 hb hd hv kt' kf'
  · exact lv_if_le hx1 hb hd hv kt' kf'
  · exact lv_icmp_eq hx1 hb hd hv kt' kf'
  · exact lv_icmp_ne hx1 hb hd hv kt' kf'
  · exact lv_icmp_lt hx1 hb hd hv kt' kf'
  · exact lv_icmp_ge hx1 hb hd hv kt' kf'
  · exact lv_icmp_gt hx1 hb hd hv kt' kf'
  · exact lv_icmp_le hx1 hb hd hv kt' kf'
/-- a switch beside its table -/
theorem ev_tso {μ : ev_M} {N0 : Option Nat} {X : ev_X} {pc : Nat} {L : ev_L} {w : List ev_E} {kc ks : Nat} {d lo hi : Int} {offs : Array Int} {nx k x y : Nat} {v : Value} {a : Int32} {r : List Value} (tgt : Nat) (hlk : ev_look (ev_tab μ) pc = some (.tableswitch d lo hi offs, nx, k, x, y, v)) (ha : a.toInt < lo ∨ hi < a.toInt) (ht : (pc : Int) + d = (tgt : Int))
    (kt : ev_V μ N0 X tgt L r w kc ks) : ev_V μ N0 X pc L (.int a :: r) w kc ks := by
  intro p l e R s m args below meth c D ct ad0 A Q h0 hx ad H locs ls I
  have h0' := h0
  obtain ⟨hok, ⟨hx1, hb, -⟩, -⟩ := h0
  obtain ⟨hd, hnx, hv⟩ := ev_use hok hlk
  exact lv_tableOut hx1 hb hd ha ht (kt p l e R s m args below meth c D ct ad0 A Q h0' hx ad H locs ls I)
theorem ev_lsw {μ : ev_M} {N0 : Option Nat} {X : ev_X} {pc : Nat} {L : ev_L} {w : List ev_E} {kc ks : Nat} {d : Int} {ps : Array (Int × Int)} {nx k x y : Nat} {v : Value} {a : Int32} {r : List Value} {off : Int} (tgt : Nat) (hlk : ev_look (ev_tab μ) pc = some (.lookupswitch d ps, nx, k, x, y, v)) (hp : (ps.toList.zip (ps.toList.drop 1)).all (fun (a, next) => a.1 < next.1) = true) (ho : Op.lookupswitch.offset ps.toList d a.toInt = off) (ht : (pc : Int) + off = (tgt : Int))
    (kt : ev_V μ N0 X tgt L r w kc ks) : ev_V μ N0 X pc L (.int a :: r) w kc ks := by
  intro p l e R s m args below meth c D ct ad0 A Q h0 hx ad H locs ls I
  have h0' := h0
  obtain ⟨hok, ⟨hx1, hb, -⟩, -⟩ := h0
  obtain ⟨hd, hnx, hv⟩ := ev_use hok hlk
  exact lv_lookup hx1 hb hd hp ho ht (kt p l e R s m args below meth c D ct ad0 A Q h0' hx ad H locs ls I)
-- a method's contract, and its start
def ev_Qc (D : va_G) (ct : Nat → ClassId) (ad0 : Nat → Nat) (N0 : Option Nat) (A : Nat → Prop) (post : Option Value → List ev_E → Prop) : Array Value → State → Outcome → State → Prop := fun _ st oc t =>
  (∃ (r : Option Value) (w' : List ev_E) (ad' : Nat → Nat), oc = .returned (r.map (ev_cv ad')) ∧ post r w' ∧ ev_eqn N0 ad' ad0 ∧ va_P D vwCl (ev_lay ad' ct w') t.heap ∧ va_K D vwCl (ev_tys ct) t ∧ va_D A (ev_lay ad' ct w')) ∧ va_F A st t
def ev_Pc (D : va_G) (ct : Nat → ClassId) (ad : Nat → Nat) (sz : Nat) (as : List Value) (w : List ev_E) : Array Value → State → Prop := va_Pc (as.map (ev_cv ad)) (fun U => U.heap.size = sz ∧ va_P D vwCl (ev_lay ad ct w) U.heap ∧ va_K D vwCl (ev_tys ct) U ∧ va_D (fun _ => True) (ev_lay ad ct w))
def ev_rm (μ : ev_M) : Room := { frames := ev_fr μ, cells := ev_mc μ, slots := ev_ms μ, locals := ev_lo μ }
def ev_wsm (y : MethodName) (μ : ev_M) : List Jvm.Cond := .code y (ev_cc μ) (ev_nL μ) (ev_rt μ) :: ev_WA
def ev_A (y : MethodName) (μ : ev_M) (N0 : Option Nat) (as : List Value) (w : List ev_E) (post : Option Value → List ev_E → Prop) : Prop :=
  ∀ (l : Launch) (D : va_G) (ct ad : Nat → Nat) (sz : Nat), Met l y (ev_wsm y μ) (ev_rm μ) (ev_Pc D ct ad sz as w) (ev_Qc D ct ad N0 (va_A (ev_lay ad ct w) sz) post) (ev_mc μ) (ev_ms μ) (va_A (ev_lay ad ct w) sz)
def ev_rk (rt : Option FieldType) (ins : Instr) (st : List Value) (r : Option Value) : Prop := match ins, st with
  | .ireturn, [.int v] => r = some (.int v) ∧ (rt = some .int ∨ (rt = some .boolean ∧ narrow .boolean (.int v) = .int v))
  | .lreturn, [.long v] => r = some (.long v) ∧ rt = some .long
  | .dreturn, [.double v] => r = some (.double v) ∧ rt = some .double
  | .return_, [] => r = none ∧ rt = none
  | _, _ => False
def ev_XR (μ : ev_M) (post : Option Value → List ev_E → Prop) : ev_X := fun pc _ st w kc ks => ∃ (i : ev_I) (r : Option Value), ev_look (ev_tab μ) pc = some i ∧ ev_rk (ev_rt μ) i.1 st r ∧ post r w ∧ kc ≤ ev_mc μ ∧ ks ≤ ev_ms μ
def ev_pad : Nat → ev_L
  | 0 => []
  | n + 1 => none :: ev_pad n
def ev_ent : List Value → Nat → ev_L
  | [], n => ev_pad n
  | v :: l, n => match v with
    | .long x => some (.long x) :: none :: ev_ent l (n - 2)
    | .double x => some (.double x) :: none :: ev_ent l (n - 2)
    | .int x => some (.int x) :: ev_ent l (n - 1)
    | .ref x => some (.ref x) :: ev_ent l (n - 1)
    | .null => some .null :: ev_ent l (n - 1)
    | .float x => some (.float x) :: ev_ent l (n - 1)
    | .retAddr x => some (.retAddr x) :: ev_ent l (n - 1)
theorem ev_ent_nil (n i : Nat) (v : Value) : ¬ ev_nth (ev_ent [] n) i = some v := by
  unfold ev_ent
  induction n generalizing i with
  | zero => simp [ev_pad, ev_nth]
  | succ n ih => cases i with
    | zero => simp [ev_pad, ev_nth]
    | succ i => simpa [ev_pad, ev_nth] using ih i
theorem ev_ent_ok (ad : Nat → Nat) (as : List Value) : ∀ (n j i : Nat) (v : Value), ev_nth (ev_ent as n) i = some v → (j + i, ev_cv ad v) ∈ lv_args j (as.map (ev_cv ad)) := by
  induction as with
  | nil => intro n j i v h; exact absurd h (ev_ent_nil n i v)
  | cons a l ih =>
    intro n j i v h
    rw [List.map_cons, lv_args]
    cases a with
    | long x =>
      cases i with
      | zero => cases h; exact List.mem_cons_self
      | succ i => cases i with
        | zero => cases h
        | succ i =>
          have := ih (n - 2) (j + 2) i v h
          rw [show j + (i + 1 + 1) = j + 2 + i by omega]
          exact List.mem_cons_of_mem _ this
    | double x =>
      cases i with
      | zero => cases h; exact List.mem_cons_self
      | succ i => cases i with
        | zero => cases h
        | succ i =>
          have := ih (n - 2) (j + 2) i v h
          rw [show j + (i + 1 + 1) = j + 2 + i by omega]
          exact List.mem_cons_of_mem _ this
    | int x =>
      cases i with
      | zero => cases h; exact List.mem_cons_self
      | succ i =>
        have := ih (n - 1) (j + 1) i v h
        rw [show j + (i + 1) = j + 1 + i by omega]
        exact List.mem_cons_of_mem _ this
    | ref x =>
      cases i with
      | zero => cases h; exact List.mem_cons_self
      | succ i =>
        have := ih (n - 1) (j + 1) i v h
        rw [show j + (i + 1) = j + 1 + i by omega]
        exact List.mem_cons_of_mem _ this
    | null =>
      cases i with
      | zero => cases h; exact List.mem_cons_self
      | succ i =>
        have := ih (n - 1) (j + 1) i v h
        rw [show j + (i + 1) = j + 1 + i by omega]
        exact List.mem_cons_of_mem _ this
    | float x =>
      cases i with
      | zero => cases h; exact List.mem_cons_self
      | succ i =>
        have := ih (n - 1) (j + 1) i v h
        rw [show j + (i + 1) = j + 1 + i by omega]
        exact List.mem_cons_of_mem _ this
    | retAddr x =>
      cases i with
      | zero => cases h; exact List.mem_cons_self
      | succ i =>
        have := ih (n - 1) (j + 1) i v h
        rw [show j + (i + 1) = j + 1 + i by omega]
        exact List.mem_cons_of_mem _ this
set_option maxHeartbeats 1000000 in
theorem ev_start {y : MethodName} {μ : ev_M} {N0 : Option Nat} {as : List Value} {w : List ev_E} {post : Option Value → List ev_E → Prop} (hok : ev_OK μ) (hy : plainName y.cls = true) (hc : y.cls = ev_own μ) (hn : y.name = ev_mn μ) (hsl : (lg_sl as).length ≤ ev_nL μ) (k : ev_V μ N0 (ev_XR μ post) 0 (ev_ent as (ev_nL μ)) [] w 0 0) : ev_A y μ N0 as w post := by
  intro l D ct ad sz
  refine Met.ofW (cc := ev_cc μ) (maxL := ev_nL μ) (ret := ev_rt μ) hy rfl ?_
  intro p e s m args below meth c s₁ B hml hv
  obtain ⟨rfl, hsz, hP, hK, hD0⟩ := hv
  have hts := atoms_spec (ws := ev_wsm y μ) B.pre
  have hD := hD0.self (sz := s.heap.size)
  subst hsz
  have hsl2 : (lg_sl (as.map (ev_cv ad))).length ≤ ev_nL μ := by
    have : (lg_sl (as.map (ev_cv ad))).length = (lg_sl as).length := by
      clear k hsl hP hD hD0 B hts
      induction as with
      | nil => rfl
      | cons a l ih =>
        unfold lg_sl at ih ⊢
        rw [List.map_cons, List.flatMap_cons, List.flatMap_cons, List.length_append, List.length_append, ih, ev_cv_cat]
        by_cases h : a.category = 2 <;> simp [h]
    omega
  have hl := lv_entry (as.map (ev_cv ad)) (n := ev_nL μ) hsl2
  rw [lg_entry_eq]
  refine k p l e _ s m _ below meth c D ct ad _ _ ⟨hok, ⟨B.exec, B.bytes, hml, B.returns, hc ▸ findClass_of_methodNamed B.named, fun w hw => hts w (List.mem_cons_of_mem _ hw), B.notSynchronized, (name_of_methodNamed B.named B.method).1.trans hn, Nat.le_refl _, Nat.le_refl _, Nat.le_refl _, Nat.le_refl _⟩, hK, fun q hq => Or.inr hq⟩ ?_ ad s.heap [] _ ⟨hP, hD, va_S.rf, (by cases N0 with
    | none => rfl
    | some n => exact fun _ _ => rfl), ev_LH.of hl (fun i v h => by simpa using ev_ent_ok ad as (ev_nL μ) 0 i v h)⟩
  intro pc' L' st' w' kc' ks' hX ad' H locs ls I
  obtain ⟨i, r, hlk, hrk, hpost, hkc, hks⟩ := hX
  obtain ⟨ins, nx, kk, x, yy, v⟩ := i
  obtain ⟨hd, -, -⟩ := ev_use hok hlk
  obtain ⟨hP2, hD2, hS2, hE2, -⟩ := I
  refine W.widen hkc hks ?_
  have hr := B.returns
  have hlocks := B.notSynchronized
  unfold ev_rk at hrk
  dsimp only at hrk
  split at hrk
  · obtain ⟨rfl, hrt⟩ := hrk
    rcases hrt with hrt | ⟨hrt, hnar⟩
    · exact W.iret B.exec B.bytes (hr.trans hrt) (fun t ht hW => ⟨⟨_, w', ad', rfl, hpost, hE2, by rw [ht]; exact hP2, va_K.moved hW.alike hK, hD2⟩, hS2.F ht⟩) hS2.2.2 hd
    · exact W.zret B.exec B.bytes (hr.trans hrt) hnar (fun t ht hW => ⟨⟨_, w', ad', rfl, hpost, hE2, by rw [ht]; exact hP2, va_K.moved hW.alike hK, hD2⟩, hS2.F ht⟩) hS2.2.2 hd
  · obtain ⟨rfl, hrt⟩ := hrk
    exact W.lret B.exec B.bytes (hr.trans hrt) (fun t ht hW => ⟨⟨_, w', ad', rfl, hpost, hE2, by rw [ht]; exact hP2, va_K.moved hW.alike hK, hD2⟩, hS2.F ht⟩) hS2.2.2 hd
  · obtain ⟨rfl, hrt⟩ := hrk
    exact W.dret B.exec B.bytes (hr.trans hrt) (fun t ht hW => ⟨⟨_, w', ad', rfl, hpost, hE2, by rw [ht]; exact hP2, va_K.moved hW.alike hK, hD2⟩, hS2.F ht⟩) hS2.2.2 hd
  · obtain ⟨rfl, hrt⟩ := hrk
    exact W.vret B.exec B.bytes (hr.trans hrt) (fun t ht hW => ⟨⟨_, w', ad', rfl, hpost, hE2, by rw [ht]; exact hP2, va_K.moved hW.alike hK, hD2⟩, hS2.F ht⟩) hS2.2.2 hd
  · exact hrk.elim
end
section
/-! ===== calls ===== -/
def ev_ren (em : Nat → Nat) (E : ev_E) : ev_E := match E with
  | .inl a => .inl (a.1, ev_ca em a.2)
  | .inr o => .inr (o.1, o.2.map (ev_cv em))
theorem ev_cv_cv (f g : Nat → Nat) (v : Value) : ev_cv f (ev_cv g v) = ev_cv (fun k => f (g k)) v := by cases v <;> rfl
theorem ev_ca_ca (f g : Nat → Nat) (a : vp_A) : ev_ca f (ev_ca g a) = ev_ca (fun k => f (g k)) a := by
  match a with
  | (n, .inl h) => rfl
  | (n, .inr (.inl h)) => rfl
  | (n, .inr (.inr (.inl h))) => rfl
  | (n, .inr (.inr (.inr (.inl h)))) => rfl
  | (n, .inr (.inr (.inr (.inr h)))) =>
    show (n, _) = (n, _)
    refine congrArg (fun z => (n, z)) ?_
    show Sum.inr (Sum.inr (Sum.inr (Sum.inr _))) = Sum.inr (Sum.inr (Sum.inr (Sum.inr _)))
    refine congrArg (fun z => Sum.inr (Sum.inr (Sum.inr (Sum.inr z)))) ?_
    funext i
    show Option.map f (Option.map g (h i)) = _
    rw [Option.map_map]
    rfl
theorem ev_ce_ren (ad em : Nat → Nat) (ct : Nat → ClassId) (E : ev_E) : ev_ce ad ct (ev_ren em E) = ev_ce (fun k => ad (em k)) ct E := by
  cases E with
  | inl a => show Sum.inl _ = Sum.inl _; rw [ev_ca_ca]
  | inr o => show Sum.inr (o.1, _) = Sum.inr (o.1, _); rw [List.map_map]; exact congrArg (fun z => Sum.inr (o.1, z)) (List.map_congr_left fun v _ => ev_cv_cv ad em v)
def ev_pick (w : List ev_E) (em : Nat → Nat) : Nat → Nat → List ev_E
  | _, 0 => []
  | k, n + 1 => match ev_wg w (em k) with
    | some E => E :: ev_pick w em (k + 1) n
    | none => []
theorem ev_pick_get {w : List ev_E} {em : Nat → Nat} (l : List ev_E) : ∀ (k0 : Nat), ev_pick w em k0 l.length = l.map (ev_ren em) → ∀ (k : Nat) (E : ev_E), l[k]? = some E → w[em (k0 + k)]? = some (ev_ren em E) := by
  induction l with
  | nil => intro k0 _ k E h; simp at h
  | cons a l ih =>
    intro k0 h k E hk
    rw [List.length_cons, ev_pick, List.map_cons] at h
    split at h
    · next E0 hE =>
      injection h with h1 h2
      cases k with
      | zero => simp at hk; subst hk; rw [ev_wg_eq] at hE; rw [Nat.add_zero, hE, h1]
      | succ k =>
        have := ih (k0 + 1) h2 k E (by simpa using hk)
        rw [show k0 + (k + 1) = k0 + 1 + k by omega]
        exact this
    · cases h
def ev_putm (em : Nat → Nat) : List ev_E → Nat → List ev_E → List ev_E
  | w, _, [] => w
  | w, k, E :: l => ev_putm em (ev_ws w (em k) (ev_ren em E)) (k + 1) l
theorem ev_putm_len {em : Nat → Nat} (l : List ev_E) : ∀ (w : List ev_E) (k : Nat), (ev_putm em w k l).length = w.length := by
  induction l with
  | nil => intro w k; rfl
  | cons a l ih => intro w k; rw [ev_putm, ih, ev_ws_eq, List.length_set]
theorem ev_putm_get {em : Nat → Nat} (l : List ev_E) : ∀ (w : List ev_E) (k0 j : Nat) (E : ev_E), (ev_putm em w k0 l)[j]? = some E →
    (∃ i E0, l[i]? = some E0 ∧ j = em (k0 + i) ∧ E = ev_ren em E0) ∨ ((∀ i, i < l.length → ¬ em (k0 + i) = j) ∧ w[j]? = some E) := by
  induction l with
  | nil => intro w k0 j E h; exact Or.inr ⟨fun i hi => absurd hi (Nat.not_lt_zero _), h⟩
  | cons a l ih =>
    intro w k0 j E h
    rw [ev_putm] at h
    rcases ih _ _ _ _ h with ⟨i, E0, h1, h2, h3⟩ | ⟨h1, h2⟩
    · exact Or.inl ⟨i + 1, E0, by simpa using h1, by rw [h2]; congr 1; omega, h3⟩
    · rw [ev_ws_eq, List.getElem?_set] at h2
      by_cases hj : em k0 = j
      · rw [if_pos hj] at h2
        split at h2
        · cases h2; exact Or.inl ⟨0, a, rfl, hj.symm, rfl⟩
        · cases h2
      · rw [if_neg hj] at h2
        refine Or.inr ⟨fun i hi => ?_, h2⟩
        cases i with
        | zero => exact hj
        | succ i =>
          have := h1 i (by simpa using hi)
          rw [show k0 + (i + 1) = k0 + 1 + i by omega]
          exact this
/-- what the tables say of a callee: found by the receiver's class; static; a constructor -/
def ev_CV (y : MethodName) (μ : ev_M) (ci n : Nat) : Prop := Jvm.Cond.code y (ev_cc μ) (ev_nL μ) (ev_rt μ) ∈ ev_WA ∧ Jvm.Cond.initialized y.cls ∈ ev_WA ∧ Jvm.Cond.instanceMethod y ∈ ev_WA ∧ Jvm.Cond.selects y.cls y y ∈ ev_WA ∧ (y.cls ≠ "java/lang/invoke/MethodHandle" ∧ y.cls ≠ "java/lang/invoke/VarHandle" ∧ (parseMethodDescriptor y.desc).map (fun d => d.parameters.length) = some n) ∧ y.cls = ev_R ci ∧ ci < 6
def ev_CS (y : MethodName) (μ : ev_M) (n : Nat) : Prop := Jvm.Cond.code y (ev_cc μ) (ev_nL μ) (ev_rt μ) ∈ ev_WA ∧ Jvm.Cond.initialized y.cls ∈ ev_WA ∧ Jvm.Cond.static y ∈ ev_WA ∧ (y.cls ≠ "java/lang/invoke/MethodHandle" ∧ y.cls ≠ "java/lang/invoke/VarHandle" ∧ (parseMethodDescriptor y.desc).map (fun d => d.parameters.length) = some n)
def ev_CI (y : MethodName) (μ : ev_M) (n : Nat) : Prop := Jvm.Cond.code y (ev_cc μ) (ev_nL μ) (ev_rt μ) ∈ ev_WA ∧ Jvm.Cond.initialized y.cls ∈ ev_WA ∧ Jvm.Cond.instanceMethod y ∈ ev_WA ∧ (y.cls ≠ "java/lang/invoke/MethodHandle" ∧ y.cls ≠ "java/lang/invoke/VarHandle" ∧ (parseMethodDescriptor y.desc).map (fun d => d.parameters.length) = some n) ∧ y.name = "<init>"
def ev_ml (own : String) (idx : Nat) (y : MethodName) : Prop := Jvm.Cond.methodLink own idx y ∈ ev_WA ∨ ∃ host, Jvm.Cond.methodLinkNest own idx y host ∈ ev_WA
theorem ev_pay {y : MethodName} {μ : ev_M} {args : Array Value} {s : State} (hts : ∀ w ∈ ev_WA, w.before args s = true) (h : Jvm.Cond.code y (ev_cc μ) (ev_nL μ) (ev_rt μ) ∈ ev_WA) : ∀ w ∈ ev_wsm y μ, ∀ (a' : Array Value) (U : State), s.WarmedH U.vm → w.before a' U = true := by
  intro w hw a' U hW
  have h1 : w ∈ ev_WA := by
    rcases List.mem_cons.mp hw with rfl | hw
    · exact h
    · exact hw
  exact ev_okw_warm (List.mem_filter.mp h1).2 hW (hts w h1)
theorem ev_blind {D : va_G} {ct ad : Nat → Nat} {sz : Nat} {as : List Value} {w : List ev_E} : FrameBlind (ev_Pc D ct ad sz as w) := fun a U g mk q => by
  obtain ⟨q0, q1, qP, qK, qD⟩ := q
  exact ⟨q0, q1, qP, va_K.moved (u := U) (U := U.calling g mk a) (Vm.Alike.refl U.vm) qK, qD⟩
section EVC
variable {μ μc : ev_M} {p : Program} {l : Launch} {e : Env} {R : Room} {s : State} {m : MethodId} {args : Array Value} {below : List Frame} {meth : Method} {c : Code} {D : va_G} {ct : Nat → ClassId} {ad0 ad : Nat → Nat} {A : Nat → Prop} {N0 : Option Nat} {Q : State → Prop} {kc ks pc n idx ci : Nat} {H : Heap} {locs : List Loc} {ls : Array Slot} {y : MethodName} {Pc : Array Value → State → Prop} {Qc : Array Value → State → Outcome → State → Prop} {free : Addr → Prop} {b : Addr} {As rest : List Value}
theorem ev_runV (h0 : ev_I0 μ p R s m args meth c D ct A) (hM : Met l y (ev_wsm y μc) (ev_rm μc) Pc Qc (ev_mc μc) (ev_ms μc) free) (cv : ev_CV y μc ci n) (hl : ev_ml (ev_own μ) idx y) (hroom : ev_fr μc + 1 ≤ ev_fr μ ∧ 8 + (ev_nL μc + 11) + ev_lo μc ≤ ev_lo μ) (hmc : kc + ev_mc μc ≤ ev_mc μ ∧ ks + ev_ms μc ≤ ev_ms μ)
    (hp : PreV s H y.cls b Pc As) (hn : As.length = n) (hsize : ls.size = ev_nL μ) (hW : (rest.map fun v => v.category).sum ≤ 8) (hdg : decode (ev_cc μ) pc = .ok (.invokevirtual idx, 3)) :
    va_Run p l e R s m args below meth c H locs kc ks (ev_mc μc) (ev_ms μc) (F0 m pc ls (As.reverse ++ .ref b :: rest)) rest (Qc (Value.ref b :: As).toArray) free := by
  obtain ⟨hok, ⟨hx, hb, hml, hr, hown, hts, hlocks, hnm, hR1, hR2, hR3, hR4⟩, hK, hA⟩ := h0
  obtain ⟨w1, w2, w3, w4, w5, w6⟩ := cv
  have hRR : (ev_rm μc).frames + 1 ≤ R.frames ∧ 8 + (ev_nL μc + 11) + (ev_rm μc).locals ≤ R.locals := ⟨Nat.le_trans hroom.1 hR1, Nat.le_trans hroom.2 hR2⟩
  have hmm : kc + ev_mc μc ≤ R.cells ∧ ks + ev_ms μc ≤ R.slots := ⟨Nat.le_trans hmc.1 hR3, Nat.le_trans hmc.2 hR4⟩
  have hW0 : 2 * (F0 m pc ls (As.reverse ++ .ref b :: rest)).monitorRoom + (rest.map fun v => v.category).sum ≤ 8 := by
    have : (F0 m pc ls (As.reverse ++ .ref b :: rest)).monitorRoom = 0 := rfl
    rw [this]; omega
  have hlen : ∀ sig, parseMethodDescriptor y.desc = some sig → n = sig.parameters.length := by
    intro sig h
    have h2 := w5.2.2
    rw [h] at h2
    exact (Option.some.inj h2).symm
  rcases hl with hl | ⟨host, hl⟩
  · exact va_runV ⟨hx, hb, hml, hown, hts⟩ hM ⟨⟨rfl, rfl, hRR.1, hRR.2, ev_pay hts w1, List.mem_cons_self, hts _ w1, hts _ w2, ⟨w5.1, w5.2.1⟩, hlen, hts _ hl⟩, hts _ w3, hts _ w4⟩ hp rfl hn hsize rfl hW0 hdg hmm
  · exact va_runVN ⟨hx, hb, hml, hown, hts⟩ hM ⟨⟨⟨rfl, rfl, hRR.1, hRR.2, ev_pay hts w1, List.mem_cons_self⟩, hts _ w1, hts _ w2, ⟨w5.1, w5.2.1⟩, hlen, hts _ hl⟩, hts _ w3, hts _ w4⟩ hp rfl hn hsize rfl hW0 hdg hmm
theorem ev_runS (h0 : ev_I0 μ p R s m args meth c D ct A) (hM : Met l y (ev_wsm y μc) (ev_rm μc) Pc Qc (ev_mc μc) (ev_ms μc) free) (cv : ev_CS y μc n) (hl : ev_ml (ev_own μ) idx y) (hroom : ev_fr μc + 1 ≤ ev_fr μ ∧ 8 + (ev_nL μc + 11) + ev_lo μc ≤ ev_lo μ) (hmc : kc + ev_mc μc ≤ ev_mc μ ∧ ks + ev_ms μc ≤ ev_ms μ)
    (hp : PreS s H Pc As) (hn : As.length = n) (hsize : ls.size = ev_nL μ) (hW : (rest.map fun v => v.category).sum ≤ 8) (hdg : decode (ev_cc μ) pc = .ok (.invokestatic idx, 3)) :
    va_Run p l e R s m args below meth c H locs kc ks (ev_mc μc) (ev_ms μc) (F0 m pc ls (As.reverse ++ rest)) rest (Qc As.toArray) free := by
  obtain ⟨hok, ⟨hx, hb, hml, hr, hown, hts, hlocks, hnm, hR1, hR2, hR3, hR4⟩, hK, hA⟩ := h0
  obtain ⟨w1, w2, w3, w5⟩ := cv
  have hRR : (ev_rm μc).frames + 1 ≤ R.frames ∧ 8 + (ev_nL μc + 11) + (ev_rm μc).locals ≤ R.locals := ⟨Nat.le_trans hroom.1 hR1, Nat.le_trans hroom.2 hR2⟩
  have hmm : kc + ev_mc μc ≤ R.cells ∧ ks + ev_ms μc ≤ R.slots := ⟨Nat.le_trans hmc.1 hR3, Nat.le_trans hmc.2 hR4⟩
  have hW0 : 2 * (F0 m pc ls (As.reverse ++ rest)).monitorRoom + (rest.map fun v => v.category).sum ≤ 8 := by
    have : (F0 m pc ls (As.reverse ++ rest)).monitorRoom = 0 := rfl
    rw [this]; omega
  have hlen : ∀ sig, parseMethodDescriptor y.desc = some sig → n = sig.parameters.length := by
    intro sig h
    have h2 := w5.2.2
    rw [h] at h2
    exact (Option.some.inj h2).symm
  rcases hl with hl | ⟨host, hl⟩
  · exact va_runS ⟨hx, hb, hml, hown, hts⟩ hM ⟨⟨rfl, rfl, hRR.1, hRR.2, ev_pay hts w1, List.mem_cons_self, hts _ w1, hts _ w2, ⟨w5.1, w5.2.1⟩, hlen, hts _ hl⟩, hts _ w3⟩ hp rfl hn hsize rfl hW0 hdg hmm
  · exact va_runSN ⟨hx, hb, hml, hown, hts⟩ hM ⟨⟨⟨rfl, rfl, hRR.1, hRR.2, ev_pay hts w1, List.mem_cons_self⟩, hts _ w1, hts _ w2, ⟨w5.1, w5.2.1⟩, hlen, hts _ hl⟩, hts _ w3, trivial⟩ hp rfl hn hsize rfl hW0 hdg hmm
/-- behind the call -/
theorem ev_back {adc : Nat → Nat} {Nc : Option Nat} {A1 : Nat → Prop} {post : Option Value → List ev_E → Prop} {a : Array Value} {mc ms : Nat} {st0 : List Value} (hr : va_Run p l e R s m args below meth c H locs kc ks mc ms (F0 m pc ls st0) rest (ev_Qc D ct adc Nc A1 post a) free) (hS : va_S A s.heap H locs) (hA : ∀ q, A1 q → A q) (hf : ∀ q, free q → A q)
    (kk : ∀ (r : Option Value) (w' : List ev_E) (ad' : Nat → Nat) (H1 : Heap) (locs1 : List Loc), post r w' → ev_eqn Nc ad' adc → va_P D vwCl (ev_lay ad' ct w') H1 → va_D A1 (ev_lay ad' ct w') → H.size ≤ H1.size → (∀ q : Nat, q < H.size → ¬ A1 q → H1[q]? = H[q]?) → va_S A s.heap H1 locs1 → W p l e R s m args below meth c H1 locs1 (kc + mc) (ks + ms) Q (F0 m (pc + 3) ls ((r.map (ev_cv ad')).toList ++ rest))) : W p l e R s m args below meth c H locs kc ks Q (F0 m pc ls st0) := by
  intro T hT X
  obtain ⟨v, st₀, t, T', L, h0, X', hL, e1, e2, ⟨⟨r, w', ad', hv, hp, hn, hP1, hK1, hD1⟩, hz, hk⟩, st⟩ := hr T hT X
  cases hv
  rw [h0] at hz hk
  rw [← e1] at hP1
  obtain ⟨t2, a1, b1⟩ := kk r w' ad' T'.heap (locs ++ L) hp hn hP1 hD1 (by rw [e1]; exact hz) (fun q h1 h2 => by rw [e1]; exact hk q h1 h2)
    ⟨Nat.le_trans hS.1 (by rw [e1]; exact hz), fun q h1 h2 => by rw [e1, hk q (Nat.lt_of_lt_of_le h1 hS.1) (fun z => h2 (hA q z))]; exact hS.2.1 q h1 h2, fun q hq => by
      rcases List.mem_append.mp hq with h | h
      · exact hS.2.2 q h
      · exact hf _ (hL q h)⟩ T' rfl X'
  exact ⟨t2, st t2 a1, b1⟩
/-- the callee's cells, cut out -/
theorem ev_cut {w wc : List ev_E} {em : Nat → Nat} (hP : va_P D vwCl (ev_lay ad ct w) H) (hD : va_D A (ev_lay ad ct w)) (hA : ∀ q, s.heap.size ≤ q → A q) (hS : va_S A s.heap H locs) (hsel : ev_pick w em 0 wc.length = wc.map (ev_ren em)) (hinj : ∀ i, i < wc.length → ∀ j, j < wc.length → em i = em j → i = j) :
    va_P D vwCl (ev_lay (fun k => ad (em k)) ct wc) H ∧ va_D (fun _ => True) (ev_lay (fun k => ad (em k)) ct wc) ∧ (∀ q, va_A (ev_lay (fun k => ad (em k)) ct wc) H.size q → A q) := by
  have hg := ev_pick_get wc 0 hsel
  have hat : ∀ (k : Nat) (q : Nat × va_E), (ev_lay (fun k => ad (em k)) ct wc)[k]? = some q → k < wc.length ∧ (ev_lay ad ct w)[em k]? = some q := by
    intro k q hq
    obtain ⟨E, h1, h2⟩ := ev_lay_inv hq
    have h3 := hg k E h1
    rw [Nat.zero_add] at h3
    exact ⟨(List.getElem?_eq_some_iff.mp h1).1, by rw [ev_lay_get h3, ev_ce_ren, h2]⟩
  refine ⟨fun k q hq => hP _ q (hat k q hq).2, ⟨fun i j a b hi hj hab => ?_, fun _ _ _ => trivial⟩, fun q hq => ?_⟩
  · obtain ⟨i1, i2⟩ := hat i a hi
    obtain ⟨j1, j2⟩ := hat j b hj
    exact hinj i i1 j j1 (hD.1 _ _ a b i2 j2 hab)
  · rcases hq with ⟨k, E, h⟩ | h
    · exact hD.2 _ (q, E) (hat k (q, E) h).2
    · exact hA q (Nat.le_trans hS.1 h)
/-- the callee's cells, put back -/
theorem ev_paste {w wc w' : List ev_E} {em : Nat → Nat} {H1 : Heap} (hP : va_P D vwCl (ev_lay ad ct w) H) (hD : va_D A (ev_lay ad ct w)) (hsel : ev_pick w em 0 wc.length = wc.map (ev_ren em)) (hlen : w'.length = wc.length)
    (hP1 : va_P D vwCl (ev_lay (fun k => ad (em k)) ct w') H1) (hk : ∀ q : Nat, q < H.size → ¬ va_A (ev_lay (fun k => ad (em k)) ct wc) H.size q → H1[q]? = H[q]?) :
    va_P D vwCl (ev_lay ad ct (ev_putm em w 0 w')) H1 ∧ va_D A (ev_lay ad ct (ev_putm em w 0 w')) := by
  have hg := ev_pick_get wc 0 hsel
  have hin : ∀ (j : Nat) (E : ev_E), (ev_putm em w 0 w')[j]? = some E → ∃ E0, w[j]? = some E0 := by
    intro j E h
    have h1 := (List.getElem?_eq_some_iff.mp h).1
    rw [ev_putm_len] at h1
    exact ⟨_, List.getElem?_eq_getElem h1⟩
  refine ⟨fun j q hq => ?_, ⟨fun i j a b hi hj hab => ?_, fun j q hq => ?_⟩⟩
  · obtain ⟨E, h1, rfl⟩ := ev_lay_inv hq
    rcases ev_putm_get w' w 0 j E h1 with ⟨i, E0, g1, g2, g3⟩ | ⟨g1, g2⟩
    · rw [Nat.zero_add] at g2
      subst g2; subst g3
      have := hP1 i _ (ev_lay_get g1)
      rw [ev_ce_ren]
      exact this
    · have h2 := hP j _ (ev_lay_get g2)
      refine h2.kept (hk _ h2.lt fun hq => ?_)
      rcases hq with ⟨k, E1, h⟩ | h
      · obtain ⟨E2, k1, k2⟩ := ev_lay_inv h
        have k3 := hg k E2 k1
        rw [Nat.zero_add] at k3
        have k4 := hD.1 _ _ _ _ (ev_lay_get g2) (ev_lay_get k3) (by have := congrArg Prod.fst k2; exact this)
        exact g1 k (by rw [hlen]; exact (List.getElem?_eq_some_iff.mp k1).1) (by rw [Nat.zero_add]; exact k4.symm)
      · have := h2.lt
        dsimp only at this h
        omega
  · obtain ⟨E1, h1, rfl⟩ := ev_lay_inv hi
    obtain ⟨E2, h2, rfl⟩ := ev_lay_inv hj
    obtain ⟨F1, g1⟩ := hin i E1 h1
    obtain ⟨F2, g2⟩ := hin j E2 h2
    exact hD.1 i j (ad i, ev_ce ad ct F1) (ad j, ev_ce ad ct F2) (ev_lay_get g1) (ev_lay_get g2) hab
  · obtain ⟨E1, h1, rfl⟩ := ev_lay_inv hq
    obtain ⟨F1, g1⟩ := hin j E1 h1
    exact hD.2 j (ad j, ev_ce ad ct F1) (ev_lay_get g1)
end EVC
theorem ev_sum_cat (ad : Nat → Nat) (l : List Value) : ((l.map (ev_cv ad)).map fun v => v.category).sum = (l.map fun v => v.category).sum := by
  rw [List.map_map]
  exact congrArg List.sum (List.map_congr_left fun v _ => ev_cv_cat ad v)
/-- a virtual call: the callee's cells at the places em 0, em 1 .. of the caller's -/
theorem ev_callV {μ μc : ev_M} {N0 : Option Nat} {X : ev_X} (em : Nat → Nat) {pc : Nat} {L : ev_L} {st rest : List Value} {w : List ev_E} {kc ks ci n idx nx k x yy : Nat} {v : Value} {y : MethodName} {as1 : List Value} {fs : List Value} {wt : List ev_E} {post : Option Value → List ev_E → Prop}
    (hM : ev_A y μc none (.ref 0 :: as1) (.inr (ci, fs) :: wt) post) (cv : ev_CV y μc ci n) (hl : ev_ml (ev_own μ) idx y) (hlk : ev_look (ev_tab μ) pc = some (.invokevirtual idx, nx, k, x, yy, v))
    (hst : (as1.map (ev_cv em)).reverse ++ (.ref (em 0) :: rest) = st) (hn : as1.length = n) (hsel : ev_pick w em 0 (.inr (ci, fs) :: wt : List ev_E).length = (.inr (ci, fs) :: wt : List ev_E).map (ev_ren em)) (hinj : ∀ i, i < (.inr (ci, fs) :: wt : List ev_E).length → ∀ j, j < (.inr (ci, fs) :: wt : List ev_E).length → em i = em j → i = j)
    (hW : (rest.map fun v => v.category).sum ≤ 8) (hroom : ev_fr μc + 1 ≤ ev_fr μ ∧ 8 + (ev_nL μc + 11) + ev_lo μc ≤ ev_lo μ) (hmc : kc + ev_mc μc ≤ ev_mc μ ∧ ks + ev_ms μc ≤ ev_ms μ) (hlen : ∀ r w', post r w' → w'.length = (.inr (ci, fs) :: wt : List ev_E).length)
    (kk : ∀ r w', post r w' → ev_V μ N0 X (pc + 3) L ((r.map (ev_cv em)).toList ++ rest) (ev_putm em w 0 w') (kc + ev_mc μc) (ks + ev_ms μc)) : ev_V μ N0 X pc L st w kc ks := by
  subst hst
  intro p l e R s m args below meth c D ct ad0 A Q h0 hx ad H locs ls I
  have h0' := h0
  obtain ⟨hP, hD, hS, hE, hL⟩ := I
  obtain ⟨hok, hfix, hK, hA⟩ := h0
  obtain ⟨hd, -, -⟩ := ev_use hok hlk
  obtain ⟨hPc, hDc, hFc⟩ := ev_cut (H := H) (locs := locs) (s := s) hP hD hA hS hsel hinj
  have hrun := ev_runV (l := l) (e := e) (below := below) (locs := locs) (H := H) (kc := kc) (ks := ks) (ls := ls) (pc := pc) (b := ad (em 0)) (As := as1.map (ev_cv fun k => ad (em k))) (rest := rest.map (ev_cv ad)) h0' (hM l D ct (fun k => ad (em k)) H.size) cv hl hroom hmc
    ⟨ev_blind, by rw [cv.2.2.2.2.2.1]; exact va_recv (a := ad (em 0)) (fs := fs.map (ev_cv fun k => ad (em k))) hK hPc (ci := ci) (q0 := 0) (ev_cl cv.2.2.2.2.2.2) (ev_lay_get (ad := fun k => ad (em k)) (ct := ct) (w := .inr (ci, fs) :: wt) (k := 0) (E := .inr (ci, fs)) rfl), fun U hU hWu => ⟨rfl, by rw [hU], by rw [hU]; exact hPc, va_K.moved hWu.alike hK, hDc⟩⟩ (by rw [List.length_map]; exact hn) hL.1 (by rw [ev_sum_cat]; exact hW) hd
  have e1 : ((as1.map (ev_cv em)).reverse ++ (.ref (em 0) :: rest)).map (ev_cv ad) = (as1.map (ev_cv fun k => ad (em k))).reverse ++ .ref (ad (em 0)) :: rest.map (ev_cv ad) := by
    rw [List.map_append, List.map_reverse, List.map_map]
    rw [show (ev_cv ad ∘ ev_cv em) = ev_cv (fun k => ad (em k)) from funext fun v => ev_cv_cv ad em v]
    first | done | rfl
  rw [e1]
  refine ev_back hrun hS hFc hFc fun r w' ad' H1 locs1 hp hn' hP1 hD1 hz hk hS1 => ?_
  cases hn'
  obtain ⟨hP2, hD2⟩ := ev_paste hP hD hsel (hlen r w' hp) hP1 hk
  have := kk r w' hp p l e R s m args below meth c D ct ad0 A Q h0' hx ad H1 locs1 ls ⟨hP2, hD2, hS1, hE, hL⟩
  have e2 : ((r.map (ev_cv em)).toList ++ rest).map (ev_cv ad) = (r.map (ev_cv fun k => ad (em k))).toList ++ rest.map (ev_cv ad) := by
    rw [List.map_append]
    cases r with
    | none => rfl
    | some v => exact congrArg (fun z => z :: rest.map (ev_cv ad)) (ev_cv_cv ad em v)
  rw [e2] at this
  exact this
theorem ev_callS {μ μc : ev_M} {N0 : Option Nat} {X : ev_X} (em : Nat → Nat) {pc : Nat} {L : ev_L} {st rest : List Value} {w : List ev_E} {kc ks n idx nx k x yy : Nat} {v : Value} {y : MethodName} {as1 : List Value} {wt : List ev_E} {post : Option Value → List ev_E → Prop}
    (hM : ev_A y μc none as1 wt post) (cv : ev_CS y μc n) (hl : ev_ml (ev_own μ) idx y) (hlk : ev_look (ev_tab μ) pc = some (.invokestatic idx, nx, k, x, yy, v))
    (hst : (as1.map (ev_cv em)).reverse ++ rest = st) (hn : as1.length = n) (hsel : ev_pick w em 0 wt.length = wt.map (ev_ren em)) (hinj : ∀ i, i < wt.length → ∀ j, j < wt.length → em i = em j → i = j)
    (hW : (rest.map fun v => v.category).sum ≤ 8) (hroom : ev_fr μc + 1 ≤ ev_fr μ ∧ 8 + (ev_nL μc + 11) + ev_lo μc ≤ ev_lo μ) (hmc : kc + ev_mc μc ≤ ev_mc μ ∧ ks + ev_ms μc ≤ ev_ms μ) (hlen : ∀ r w', post r w' → w'.length = wt.length)
    (kk : ∀ r w', post r w' → ev_V μ N0 X (pc + 3) L ((r.map (ev_cv em)).toList ++ rest) (ev_putm em w 0 w') (kc + ev_mc μc) (ks + ev_ms μc)) : ev_V μ N0 X pc L st w kc ks := by
  subst hst
  intro p l e R s m args below meth c D ct ad0 A Q h0 hx ad H locs ls I
  have h0' := h0
  obtain ⟨hP, hD, hS, hE, hL⟩ := I
  obtain ⟨hok, hfix, hK, hA⟩ := h0
  obtain ⟨hd, -, -⟩ := ev_use hok hlk
  obtain ⟨hPc, hDc, hFc⟩ := ev_cut (H := H) (locs := locs) (s := s) hP hD hA hS hsel hinj
  have hrun := ev_runS (l := l) (e := e) (below := below) (locs := locs) (H := H) (kc := kc) (ks := ks) (ls := ls) (pc := pc) (As := as1.map (ev_cv fun k => ad (em k))) (rest := rest.map (ev_cv ad)) h0' (hM l D ct (fun k => ad (em k)) H.size) cv hl hroom hmc
    ⟨ev_blind, fun U hU hWu => ⟨rfl, by rw [hU], by rw [hU]; exact hPc, va_K.moved hWu.alike hK, hDc⟩⟩ (by rw [List.length_map]; exact hn) hL.1 (by rw [ev_sum_cat]; exact hW) hd
  have e1 : ((as1.map (ev_cv em)).reverse ++ rest).map (ev_cv ad) = (as1.map (ev_cv fun k => ad (em k))).reverse ++ rest.map (ev_cv ad) := by
    rw [List.map_append, List.map_reverse, List.map_map]
    rw [show (ev_cv ad ∘ ev_cv em) = ev_cv (fun k => ad (em k)) from funext fun v => ev_cv_cv ad em v]
  rw [e1]
  refine ev_back hrun hS hFc hFc fun r w' ad' H1 locs1 hp hn' hP1 hD1 hz hk hS1 => ?_
  cases hn'
  obtain ⟨hP2, hD2⟩ := ev_paste hP hD hsel (hlen r w' hp) hP1 hk
  have := kk r w' hp p l e R s m args below meth c D ct ad0 A Q h0' hx ad H1 locs1 ls ⟨hP2, hD2, hS1, hE, hL⟩
  have e2 : ((r.map (ev_cv em)).toList ++ rest).map (ev_cv ad) = (r.map (ev_cv fun k => ad (em k))).toList ++ rest.map (ev_cv ad) := by
    rw [List.map_append]
    cases r with
    | none => rfl
    | some v => exact congrArg (fun z => z :: rest.map (ev_cv ad)) (ev_cv_cv ad em v)
  rw [e2] at this
  exact this
end
section
/-! tables of the methods of GossipCounts$Holdings, laid by wip/whole/gen/tabs.py -/
def tb_X0_init : ev_T := [(0, .aload_n 0, 1, 0, 0, 0, .null),
  (1, .invokespecial 3, 4, 0, 0, 0, .null),
  (4, .aload_n 0, 5, 0, 0, 0, .null),
  (5, .bipush 100, 7, 0, 0, 0, .int 100),
  (7, .newarray .int, 9, 0, 0, 0, .null),
  (9, .putfield 9, 12, 119, 0, 0, .null),
  (12, .iconst 0, 13, 0, 0, 0, .int 0),
  (13, .istore_n 1, 14, 0, 1, 0, .null),
  (14, .iload_n 1, 15, 0, 1, 0, .null),
  (15, .bipush 100, 17, 0, 0, 0, .int 100),
  (17, .if_icmp .ge 16, 20, 0, 33, 0, .null),
  (20, .aload_n 0, 21, 0, 0, 0, .null),
  (21, .getfield 9, 24, 119, 0, 0, .null),
  (24, .iload_n 1, 25, 0, 1, 0, .null),
  (25, .iconst (-1), 26, 0, 0, 0, .int (-1)),
  (26, .iastore, 27, 0, 0, 0, .null),
  (27, .iinc 1 1, 30, 0, 1, 0, .int 1),
  (30, .goto (-16), 33, 0, 14, 0, .null),
  (33, .return_, 34, 0, 0, 0, .null)]
def mm_X0_init : ev_M := (RX0, "<init>", cX0_init, 2, none, tb_X0_init, 1, 30, 0, 0)
set_option maxRecDepth 100000 in
theorem ok_X0_init : ev_OK mm_X0_init := by unfold ev_OK; decide +kernel
theorem ci_X0_init : ev_CI yX0_init mm_X0_init 0 := ⟨ev_has_in (k := 117) (by decide +kernel), ev_has_in (k := 86) (by decide +kernel), ev_has_in (k := 116) (by decide +kernel), ⟨by decide +kernel, by decide +kernel, by decide +kernel⟩, rfl⟩
def tb_X0_copyFrom : ev_T := [(0, .aload_n 1, 1, 0, 1, 0, .null),
  (1, .getfield 9, 4, 119, 0, 0, .null),
  (4, .iconst 0, 5, 0, 0, 0, .int 0),
  (5, .aload_n 0, 6, 0, 0, 0, .null),
  (6, .getfield 9, 9, 119, 0, 0, .null),
  (9, .iconst 0, 10, 0, 0, 0, .int 0),
  (10, .bipush 100, 12, 0, 0, 0, .int 100),
  (12, .invokestatic 15, 15, 0, 0, 0, .null),
  (15, .return_, 16, 0, 0, 0, .null)]
def mm_X0_copyFrom : ev_M := (RX0, "copyFrom", cX0_copyFrom, 2, none, tb_X0_copyFrom, 1, 60, 0, 0)
set_option maxRecDepth 100000 in
theorem ok_X0_copyFrom : ev_OK mm_X0_copyFrom := by unfold ev_OK; decide +kernel
theorem cv_X0_copyFrom : ev_CV yX0_copyFrom mm_X0_copyFrom 0 1 := ⟨ev_has_in (k := 274) (by decide +kernel), ev_has_in (k := 86) (by decide +kernel), ev_has_in (k := 272) (by decide +kernel), ev_has_in (k := 273) (by decide +kernel), ⟨by decide +kernel, by decide +kernel, by decide +kernel⟩, rfl, by decide⟩
def tb_X0_at : ev_T := [(0, .iload_n 1, 1, 0, 1, 0, .null),
  (1, .ifCond .lt 18, 4, 0, 19, 0, .null),
  (4, .iload_n 1, 5, 0, 1, 0, .null),
  (5, .bipush 100, 7, 0, 0, 0, .int 100),
  (7, .if_icmp .ge 12, 10, 0, 19, 0, .null),
  (10, .aload_n 0, 11, 0, 0, 0, .null),
  (11, .getfield 9, 14, 119, 0, 0, .null),
  (14, .iload_n 1, 15, 0, 1, 0, .null),
  (15, .iaload, 16, 0, 0, 0, .null),
  (16, .goto 4, 19, 0, 20, 0, .null),
  (19, .iconst (-1), 20, 0, 0, 0, .int (-1)),
  (20, .ireturn, 21, 0, 0, 0, .null)]
def mm_X0_at : ev_M := (RX0, "at", cX0_at, 2, (some .int), tb_X0_at, 0, 0, 0, 0)
set_option maxRecDepth 100000 in
theorem ok_X0_at : ev_OK mm_X0_at := by unfold ev_OK; decide +kernel
theorem cv_X0_at : ev_CV yX0_at mm_X0_at 0 1 := ⟨ev_has_in (k := 342) (by decide +kernel), ev_has_in (k := 86) (by decide +kernel), ev_has_in (k := 340) (by decide +kernel), ev_has_in (k := 341) (by decide +kernel), ⟨by decide +kernel, by decide +kernel, by decide +kernel⟩, rfl, by decide⟩
def tb_X0_hold : ev_T := [(0, .iload_n 1, 1, 0, 1, 0, .null),
  (1, .ifCond .lt 16, 4, 0, 17, 0, .null),
  (4, .iload_n 1, 5, 0, 1, 0, .null),
  (5, .bipush 100, 7, 0, 0, 0, .int 100),
  (7, .if_icmp .ge 10, 10, 0, 17, 0, .null),
  (10, .aload_n 0, 11, 0, 0, 0, .null),
  (11, .getfield 9, 14, 119, 0, 0, .null),
  (14, .iload_n 1, 15, 0, 1, 0, .null),
  (15, .iload_n 2, 16, 0, 2, 0, .null),
  (16, .iastore, 17, 0, 0, 0, .null),
  (17, .return_, 18, 0, 0, 0, .null)]
def mm_X0_hold : ev_M := (RX0, "hold", cX0_hold, 3, none, tb_X0_hold, 0, 0, 0, 0)
set_option maxRecDepth 100000 in
theorem ok_X0_hold : ev_OK mm_X0_hold := by unfold ev_OK; decide +kernel
theorem cv_X0_hold : ev_CV yX0_hold mm_X0_hold 0 2 := ⟨ev_has_in (k := 346) (by decide +kernel), ev_has_in (k := 86) (by decide +kernel), ev_has_in (k := 344) (by decide +kernel), ev_has_in (k := 345) (by decide +kernel), ⟨by decide +kernel, by decide +kernel, by decide +kernel⟩, rfl, by decide⟩
def tb_X0_taken : ev_T := [(0, .iconst 0, 1, 0, 0, 0, .int 0),
  (1, .istore_n 1, 2, 0, 1, 0, .null),
  (2, .iconst 0, 3, 0, 0, 0, .int 0),
  (3, .istore_n 2, 4, 0, 2, 0, .null),
  (4, .iload_n 2, 5, 0, 2, 0, .null),
  (5, .bipush 100, 7, 0, 0, 0, .int 100),
  (7, .if_icmp .ge 22, 10, 0, 29, 0, .null),
  (10, .aload_n 0, 11, 0, 0, 0, .null),
  (11, .getfield 9, 14, 119, 0, 0, .null),
  (14, .iload_n 2, 15, 0, 2, 0, .null),
  (15, .iaload, 16, 0, 0, 0, .null),
  (16, .iconst (-1), 17, 0, 0, 0, .int (-1)),
  (17, .if_icmp .eq 6, 20, 0, 23, 0, .null),
  (20, .iinc 1 1, 23, 0, 1, 0, .int 1),
  (23, .iinc 2 1, 26, 0, 2, 0, .int 1),
  (26, .goto (-22), 29, 0, 4, 0, .null),
  (29, .iload_n 1, 30, 0, 1, 0, .null),
  (30, .ireturn, 31, 0, 0, 0, .null)]
def mm_X0_taken : ev_M := (RX0, "taken", cX0_taken, 3, (some .int), tb_X0_taken, 0, 0, 0, 0)
set_option maxRecDepth 100000 in
theorem ok_X0_taken : ev_OK mm_X0_taken := by unfold ev_OK; decide +kernel
theorem cv_X0_taken : ev_CV yX0_taken mm_X0_taken 0 0 := ⟨ev_has_in (k := 463) (by decide +kernel), ev_has_in (k := 86) (by decide +kernel), ev_has_in (k := 461) (by decide +kernel), ev_has_in (k := 462) (by decide +kernel), ⟨by decide +kernel, by decide +kernel, by decide +kernel⟩, rfl, by decide⟩
def tb_X0_truthOf : ev_T := [(0, .iconst 0, 1, 0, 0, 0, .int 0),
  (1, .istore_n 2, 2, 0, 2, 0, .null),
  (2, .iconst 0, 3, 0, 0, 0, .int 0),
  (3, .istore_n 3, 4, 0, 3, 0, .null),
  (4, .iload_n 3, 5, 0, 3, 0, .null),
  (5, .bipush 100, 7, 0, 0, 0, .int 100),
  (7, .if_icmp .ge 22, 10, 0, 29, 0, .null),
  (10, .aload_n 0, 11, 0, 0, 0, .null),
  (11, .getfield 9, 14, 119, 0, 0, .null),
  (14, .iload_n 3, 15, 0, 3, 0, .null),
  (15, .iaload, 16, 0, 0, 0, .null),
  (16, .iload_n 1, 17, 0, 1, 0, .null),
  (17, .if_icmp .ne 6, 20, 0, 23, 0, .null),
  (20, .iinc 2 1, 23, 0, 2, 0, .int 1),
  (23, .iinc 3 1, 26, 0, 3, 0, .int 1),
  (26, .goto (-22), 29, 0, 4, 0, .null),
  (29, .iload_n 2, 30, 0, 2, 0, .null),
  (30, .ireturn, 31, 0, 0, 0, .null)]
def mm_X0_truthOf : ev_M := (RX0, "truthOf", cX0_truthOf, 4, (some .int), tb_X0_truthOf, 0, 0, 0, 0)
set_option maxRecDepth 100000 in
theorem ok_X0_truthOf : ev_OK mm_X0_truthOf := by unfold ev_OK; decide +kernel
theorem cv_X0_truthOf : ev_CV yX0_truthOf mm_X0_truthOf 0 1 := ⟨ev_has_in (k := 386) (by decide +kernel), ev_has_in (k := 86) (by decide +kernel), ev_has_in (k := 384) (by decide +kernel), ev_has_in (k := 385) (by decide +kernel), ⟨by decide +kernel, by decide +kernel, by decide +kernel⟩, rfl, by decide⟩
def tb_X0_slotsThatHold : ev_T := [(0, .iconst 0, 1, 0, 0, 0, .int 0),
  (1, .istore_n 3, 2, 0, 3, 0, .null),
  (2, .iconst 4, 3, 0, 0, 0, .int 4),
  (3, .istore 4, 5, 0, 4, 0, .null),
  (5, .iload 4, 7, 0, 4, 0, .null),
  (7, .bipush 100, 9, 0, 0, 0, .int 100),
  (9, .if_icmp .ge 36, 12, 0, 45, 0, .null),
  (12, .aload_n 0, 13, 0, 0, 0, .null),
  (13, .getfield 9, 16, 119, 0, 0, .null),
  (16, .iload 4, 18, 0, 4, 0, .null),
  (18, .iaload, 19, 0, 0, 0, .null),
  (19, .iload_n 1, 20, 0, 1, 0, .null),
  (20, .if_icmp .ne 19, 23, 0, 39, 0, .null),
  (23, .iload_n 2, 24, 0, 2, 0, .null),
  (24, .iload 4, 26, 0, 4, 0, .null),
  (26, .iconst 4, 27, 0, 0, 0, .int 4),
  (27, .isub, 28, 0, 0, 0, .null),
  (28, .iconst 4, 29, 0, 0, 0, .int 4),
  (29, .idiv, 30, 0, 0, 0, .null),
  (30, .invokestatic 21, 33, 0, 0, 0, .null),
  (33, .ifCond .eq 6, 36, 0, 39, 0, .null),
  (36, .iinc 3 1, 39, 0, 3, 0, .int 1),
  (39, .iinc 4 1, 42, 0, 4, 0, .int 1),
  (42, .goto (-37), 45, 0, 5, 0, .null),
  (45, .iload_n 3, 46, 0, 3, 0, .null),
  (46, .ireturn, 47, 0, 0, 0, .null)]
def mm_X0_slotsThatHold : ev_M := (RX0, "slotsThatHold", cX0_slotsThatHold, 5, (some .int), tb_X0_slotsThatHold, 1, 21, 0, 0)
set_option maxRecDepth 100000 in
theorem ok_X0_slotsThatHold : ev_OK mm_X0_slotsThatHold := by unfold ev_OK; decide +kernel
theorem cv_X0_slotsThatHold : ev_CV yX0_slotsThatHold mm_X0_slotsThatHold 0 2 := ⟨ev_has_in (k := 323) (by decide +kernel), ev_has_in (k := 86) (by decide +kernel), ev_has_in (k := 321) (by decide +kernel), ev_has_in (k := 322) (by decide +kernel), ⟨by decide +kernel, by decide +kernel, by decide +kernel⟩, rfl, by decide⟩
def tb_X0_letGo : ev_T := [(0, .iconst 0, 1, 0, 0, 0, .int 0),
  (1, .istore_n 3, 2, 0, 3, 0, .null),
  (2, .iconst 0, 3, 0, 0, 0, .int 0),
  (3, .istore 4, 5, 0, 4, 0, .null),
  (5, .iload 4, 7, 0, 4, 0, .null),
  (7, .bipush 100, 9, 0, 0, 0, .int 100),
  (9, .if_icmp .ge 57, 12, 0, 66, 0, .null),
  (12, .aload_n 0, 13, 0, 0, 0, .null),
  (13, .getfield 9, 16, 119, 0, 0, .null),
  (16, .iload 4, 18, 0, 4, 0, .null),
  (18, .iaload, 19, 0, 0, 0, .null),
  (19, .iload_n 1, 20, 0, 1, 0, .null),
  (20, .if_icmp .ne 40, 23, 0, 60, 0, .null),
  (23, .aload_n 0, 24, 0, 0, 0, .null),
  (24, .getfield 9, 27, 119, 0, 0, .null),
  (27, .iload 4, 29, 0, 4, 0, .null),
  (29, .iconst (-1), 30, 0, 0, 0, .int (-1)),
  (30, .iastore, 31, 0, 0, 0, .null),
  (31, .iload_n 3, 32, 0, 3, 0, .null),
  (32, .ifCond .ne 22, 35, 0, 54, 0, .null),
  (35, .iload 4, 37, 0, 4, 0, .null),
  (37, .iconst 4, 38, 0, 0, 0, .int 4),
  (38, .if_icmp .lt 16, 41, 0, 54, 0, .null),
  (41, .iload_n 2, 42, 0, 2, 0, .null),
  (42, .iload 4, 44, 0, 4, 0, .null),
  (44, .iconst 4, 45, 0, 0, 0, .int 4),
  (45, .isub, 46, 0, 0, 0, .null),
  (46, .iconst 4, 47, 0, 0, 0, .int 4),
  (47, .idiv, 48, 0, 0, 0, .null),
  (48, .invokestatic 21, 51, 0, 0, 0, .null),
  (51, .ifCond .ne 7, 54, 0, 58, 0, .null),
  (54, .iconst 1, 55, 0, 0, 0, .int 1),
  (55, .goto 4, 58, 0, 59, 0, .null),
  (58, .iconst 0, 59, 0, 0, 0, .int 0),
  (59, .istore_n 3, 60, 0, 3, 0, .null),
  (60, .iinc 4 1, 63, 0, 4, 0, .int 1),
  (63, .goto (-58), 66, 0, 5, 0, .null),
  (66, .iload_n 3, 67, 0, 3, 0, .null),
  (67, .ireturn, 68, 0, 0, 0, .null)]
def mm_X0_letGo : ev_M := (RX0, "letGo", cX0_letGo, 5, (some .boolean), tb_X0_letGo, 1, 21, 0, 0)
set_option maxRecDepth 100000 in
theorem ok_X0_letGo : ev_OK mm_X0_letGo := by unfold ev_OK; decide +kernel
theorem cv_X0_letGo : ev_CV yX0_letGo mm_X0_letGo 0 2 := ⟨ev_has_in (k := 361) (by decide +kernel), ev_has_in (k := 86) (by decide +kernel), ev_has_in (k := 359) (by decide +kernel), ev_has_in (k := 360) (by decide +kernel), ⟨by decide +kernel, by decide +kernel, by decide +kernel⟩, rfl, by decide⟩
def tb_X0_reached : ev_T := [(0, .aload_n 0, 1, 0, 0, 0, .null),
  (1, .iconst (-1), 2, 0, 0, 0, .int (-1)),
  (2, .invokevirtual 25, 5, 0, 0, 0, .null),
  (5, .ireturn, 6, 0, 0, 0, .null)]
def mm_X0_reached : ev_M := (RX0, "reached", cX0_reached, 1, (some .int), tb_X0_reached, 3, 73, 0, 0)
set_option maxRecDepth 100000 in
theorem ok_X0_reached : ev_OK mm_X0_reached := by unfold ev_OK; decide +kernel
theorem cv_X0_reached : ev_CV yX0_reached mm_X0_reached 0 0 := ⟨ev_has_in (k := 447) (by decide +kernel), ev_has_in (k := 86) (by decide +kernel), ev_has_in (k := 445) (by decide +kernel), ev_has_in (k := 446) (by decide +kernel), ⟨by decide +kernel, by decide +kernel, by decide +kernel⟩, rfl, by decide⟩
def tb_X0_reachOf : ev_T := [(0, .aload_n 0, 1, 0, 0, 0, .null),
  (1, .aload_n 0, 2, 0, 0, 0, .null),
  (2, .iload_n 1, 3, 0, 1, 0, .null),
  (3, .iconst 0, 4, 0, 0, 0, .int 0),
  (4, .invokestatic 29, 7, 0, 0, 0, .null),
  (7, .iconst 4, 8, 0, 0, 0, .int 4),
  (8, .iconst (-1), 9, 0, 0, 0, .int (-1)),
  (9, .invokevirtual 33, 12, 0, 0, 0, .null),
  (12, .iconst (-1), 13, 0, 0, 0, .int (-1)),
  (13, .invokevirtual 37, 16, 0, 0, 0, .null),
  (16, .ireturn, 17, 0, 0, 0, .null)]
def mm_X0_reachOf : ev_M := (RX0, "reachOf", cX0_reachOf, 2, (some .int), tb_X0_reachOf, 2, 52, 0, 0)
set_option maxRecDepth 100000 in
theorem ok_X0_reachOf : ev_OK mm_X0_reachOf := by unfold ev_OK; decide +kernel
theorem cv_X0_reachOf : ev_CV yX0_reachOf mm_X0_reachOf 0 1 := ⟨ev_has_in (k := 295) (by decide +kernel), ev_has_in (k := 86) (by decide +kernel), ev_has_in (k := 293) (by decide +kernel), ev_has_in (k := 294) (by decide +kernel), ⟨by decide +kernel, by decide +kernel, by decide +kernel⟩, rfl, by decide⟩
def tb_X0_ringOf : ev_T := [(0, .aload_n 0, 1, 0, 0, 0, .null),
  (1, .iload_n 1, 2, 0, 1, 0, .null),
  (2, .invokevirtual 40, 5, 0, 0, 0, .null),
  (5, .istore_n 2, 6, 0, 2, 0, .null),
  (6, .iconst 0, 7, 0, 0, 0, .int 0),
  (7, .istore_n 3, 8, 0, 3, 0, .null),
  (8, .iconst 0, 9, 0, 0, 0, .int 0),
  (9, .istore 4, 11, 0, 4, 0, .null),
  (11, .iload 4, 13, 0, 4, 0, .null),
  (13, .bipush 24, 15, 0, 0, 0, .int 24),
  (15, .if_icmp .ge 38, 18, 0, 53, 0, .null),
  (18, .iload_n 2, 19, 0, 2, 0, .null),
  (19, .iload 4, 21, 0, 4, 0, .null),
  (21, .invokestatic 21, 24, 0, 0, 0, .null),
  (24, .ifCond .eq 23, 27, 0, 47, 0, .null),
  (27, .aload_n 0, 28, 0, 0, 0, .null),
  (28, .iload 4, 30, 0, 4, 0, .null),
  (30, .invokevirtual 40, 33, 0, 0, 0, .null),
  (33, .iload_n 1, 34, 0, 1, 0, .null),
  (34, .invokestatic 21, 37, 0, 0, 0, .null),
  (37, .ifCond .eq 10, 40, 0, 47, 0, .null),
  (40, .iload_n 3, 41, 0, 3, 0, .null),
  (41, .iconst 1, 42, 0, 0, 0, .int 1),
  (42, .iload 4, 44, 0, 4, 0, .null),
  (44, .ishl, 45, 0, 0, 0, .null),
  (45, .ior, 46, 0, 0, 0, .null),
  (46, .istore_n 3, 47, 0, 3, 0, .null),
  (47, .iinc 4 1, 50, 0, 4, 0, .int 1),
  (50, .goto (-39), 53, 0, 11, 0, .null),
  (53, .iload_n 3, 54, 0, 3, 0, .null),
  (54, .ireturn, 55, 0, 0, 0, .null)]
def mm_X0_ringOf : ev_M := (RX0, "ringOf", cX0_ringOf, 5, (some .int), tb_X0_ringOf, 3, 73, 0, 0)
set_option maxRecDepth 100000 in
theorem ok_X0_ringOf : ev_OK mm_X0_ringOf := by unfold ev_OK; decide +kernel
theorem cv_X0_ringOf : ev_CV yX0_ringOf mm_X0_ringOf 0 1 := ⟨ev_has_in (k := 575) (by decide +kernel), ev_has_in (k := 86) (by decide +kernel), ev_has_in (k := 573) (by decide +kernel), ev_has_in (k := 574) (by decide +kernel), ⟨by decide +kernel, by decide +kernel, by decide +kernel⟩, rfl, by decide⟩
def tb_X0_cutWithMostLost : ev_T := [(0, .iconst (-1), 1, 0, 0, 0, .int (-1)),
  (1, .istore_n 1, 2, 0, 1, 0, .null),
  (2, .iconst 0, 3, 0, 0, 0, .int 0),
  (3, .istore_n 2, 4, 0, 2, 0, .null),
  (4, .iconst 0, 5, 0, 0, 0, .int 0),
  (5, .istore_n 3, 6, 0, 3, 0, .null),
  (6, .iload_n 3, 7, 0, 3, 0, .null),
  (7, .bipush 100, 9, 0, 0, 0, .int 100),
  (9, .if_icmp .ge 41, 12, 0, 50, 0, .null),
  (12, .aload_n 0, 13, 0, 0, 0, .null),
  (13, .getfield 9, 16, 119, 0, 0, .null),
  (16, .iload_n 3, 17, 0, 3, 0, .null),
  (17, .iaload, 18, 0, 0, 0, .null),
  (18, .iconst (-1), 19, 0, 0, 0, .int (-1)),
  (19, .if_icmp .ne 7, 22, 0, 26, 0, .null),
  (22, .iconst 0, 23, 0, 0, 0, .int 0),
  (23, .goto 8, 26, 0, 31, 0, .null),
  (26, .aload_n 0, 27, 0, 0, 0, .null),
  (27, .iload_n 3, 28, 0, 3, 0, .null),
  (28, .invokevirtual 43, 31, 0, 0, 0, .null),
  (31, .istore 4, 33, 0, 4, 0, .null),
  (33, .iload 4, 35, 0, 4, 0, .null),
  (35, .iload_n 2, 36, 0, 2, 0, .null),
  (36, .if_icmp .le 8, 39, 0, 44, 0, .null),
  (39, .iload_n 3, 40, 0, 3, 0, .null),
  (40, .istore_n 1, 41, 0, 1, 0, .null),
  (41, .iload 4, 43, 0, 4, 0, .null),
  (43, .istore_n 2, 44, 0, 2, 0, .null),
  (44, .iinc 3 1, 47, 0, 3, 0, .int 1),
  (47, .goto (-41), 50, 0, 6, 0, .null),
  (50, .iload_n 1, 51, 0, 1, 0, .null),
  (51, .ireturn, 52, 0, 0, 0, .null)]
def mm_X0_cutWithMostLost : ev_M := (RX0, "cutWithMostLost", cX0_cutWithMostLost, 5, (some .int), tb_X0_cutWithMostLost, 5, 114, 0, 0)
set_option maxRecDepth 100000 in
theorem ok_X0_cutWithMostLost : ev_OK mm_X0_cutWithMostLost := by unfold ev_OK; decide +kernel
theorem cv_X0_cutWithMostLost : ev_CV yX0_cutWithMostLost mm_X0_cutWithMostLost 0 0 := ⟨ev_has_in (k := 617) (by decide +kernel), ev_has_in (k := 86) (by decide +kernel), ev_has_in (k := 615) (by decide +kernel), ev_has_in (k := 616) (by decide +kernel), ⟨by decide +kernel, by decide +kernel, by decide +kernel⟩, rfl, by decide⟩
def tb_X0_lostWithout : ev_T := [(0, .aload_n 0, 1, 0, 0, 0, .null),
  (1, .invokevirtual 46, 4, 0, 0, 0, .null),
  (4, .invokestatic 50, 7, 0, 0, 0, .null),
  (7, .aload_n 0, 8, 0, 0, 0, .null),
  (8, .iload_n 1, 9, 0, 1, 0, .null),
  (9, .invokevirtual 25, 12, 0, 0, 0, .null),
  (12, .invokestatic 50, 15, 0, 0, 0, .null),
  (15, .isub, 16, 0, 0, 0, .null),
  (16, .ireturn, 17, 0, 0, 0, .null)]
def mm_X0_lostWithout : ev_M := (RX0, "lostWithout", cX0_lostWithout, 2, (some .int), tb_X0_lostWithout, 4, 93, 0, 0)
set_option maxRecDepth 100000 in
theorem ok_X0_lostWithout : ev_OK mm_X0_lostWithout := by unfold ev_OK; decide +kernel
theorem cv_X0_lostWithout : ev_CV yX0_lostWithout mm_X0_lostWithout 0 1 := ⟨ev_has_in (k := 621) (by decide +kernel), ev_has_in (k := 86) (by decide +kernel), ev_has_in (k := 619) (by decide +kernel), ev_has_in (k := 620) (by decide +kernel), ⟨by decide +kernel, by decide +kernel, by decide +kernel⟩, rfl, by decide⟩
def tb_X0_reachedFrom : ev_T := [(0, .iload_n 1, 1, 0, 1, 0, .null),
  (1, .istore_n 3, 2, 0, 3, 0, .null),
  (2, .iload_n 1, 3, 0, 1, 0, .null),
  (3, .istore 4, 5, 0, 4, 0, .null),
  (5, .iconst 0, 6, 0, 0, 0, .int 0),
  (6, .istore 5, 8, 0, 5, 0, .null),
  (8, .iload 5, 10, 0, 5, 0, .null),
  (10, .bipush 24, 12, 0, 0, 0, .int 24),
  (12, .if_icmp .ge 58, 15, 0, 70, 0, .null),
  (15, .iload 4, 17, 0, 4, 0, .null),
  (17, .ifCond .eq 53, 20, 0, 70, 0, .null),
  (20, .iload 4, 22, 0, 4, 0, .null),
  (22, .invokestatic 55, 25, 0, 0, 0, .null),
  (25, .istore 6, 27, 0, 6, 0, .null),
  (27, .aload_n 0, 28, 0, 0, 0, .null),
  (28, .iload 6, 30, 0, 6, 0, .null),
  (30, .iconst 0, 31, 0, 0, 0, .int 0),
  (31, .invokestatic 29, 34, 0, 0, 0, .null),
  (34, .iconst 4, 35, 0, 0, 0, .int 4),
  (35, .iload_n 2, 36, 0, 2, 0, .null),
  (36, .invokevirtual 33, 39, 0, 0, 0, .null),
  (39, .iload_n 3, 40, 0, 3, 0, .null),
  (40, .iconst (-1), 41, 0, 0, 0, .int (-1)),
  (41, .ixor, 42, 0, 0, 0, .null),
  (42, .iand, 43, 0, 0, 0, .null),
  (43, .istore 7, 45, 0, 7, 0, .null),
  (45, .iload_n 3, 46, 0, 3, 0, .null),
  (46, .iload 7, 48, 0, 7, 0, .null),
  (48, .ior, 49, 0, 0, 0, .null),
  (49, .istore_n 3, 50, 0, 3, 0, .null),
  (50, .iload 4, 52, 0, 4, 0, .null),
  (52, .iconst 1, 53, 0, 0, 0, .int 1),
  (53, .iload 6, 55, 0, 6, 0, .null),
  (55, .ishl, 56, 0, 0, 0, .null),
  (56, .iconst (-1), 57, 0, 0, 0, .int (-1)),
  (57, .ixor, 58, 0, 0, 0, .null),
  (58, .iand, 59, 0, 0, 0, .null),
  (59, .iload 7, 61, 0, 7, 0, .null),
  (61, .ior, 62, 0, 0, 0, .null),
  (62, .istore 4, 64, 0, 4, 0, .null),
  (64, .iinc 5 1, 67, 0, 5, 0, .int 1),
  (67, .goto (-59), 70, 0, 8, 0, .null),
  (70, .iload_n 3, 71, 0, 3, 0, .null),
  (71, .ireturn, 72, 0, 0, 0, .null)]
def mm_X0_reachedFrom : ev_M := (RX0, "reachedFrom", cX0_reachedFrom, 8, (some .int), tb_X0_reachedFrom, 1, 25, 0, 0)
set_option maxRecDepth 100000 in
theorem ok_X0_reachedFrom : ev_OK mm_X0_reachedFrom := by unfold ev_OK; decide +kernel
theorem cv_X0_reachedFrom : ev_CV yX0_reachedFrom mm_X0_reachedFrom 0 2 := ⟨ev_has_in (k := 306) (by decide +kernel), ev_has_in (k := 86) (by decide +kernel), ev_has_in (k := 304) (by decide +kernel), ev_has_in (k := 305) (by decide +kernel), ⟨by decide +kernel, by decide +kernel, by decide +kernel⟩, rfl, by decide⟩
def tb_X0_reachedWithout : ev_T := [(0, .aload_n 0, 1, 0, 0, 0, .null),
  (1, .aload_n 0, 2, 0, 0, 0, .null),
  (2, .iconst 0, 3, 0, 0, 0, .int 0),
  (3, .iconst 4, 4, 0, 0, 0, .int 4),
  (4, .iload_n 1, 5, 0, 1, 0, .null),
  (5, .invokevirtual 33, 8, 0, 0, 0, .null),
  (8, .iload_n 1, 9, 0, 1, 0, .null),
  (9, .invokevirtual 37, 12, 0, 0, 0, .null),
  (12, .ireturn, 13, 0, 0, 0, .null)]
def mm_X0_reachedWithout : ev_M := (RX0, "reachedWithout", cX0_reachedWithout, 2, (some .int), tb_X0_reachedWithout, 2, 52, 0, 0)
set_option maxRecDepth 100000 in
theorem ok_X0_reachedWithout : ev_OK mm_X0_reachedWithout := by unfold ev_OK; decide +kernel
theorem cv_X0_reachedWithout : ev_CV yX0_reachedWithout mm_X0_reachedWithout 0 1 := ⟨ev_has_in (k := 451) (by decide +kernel), ev_has_in (k := 86) (by decide +kernel), ev_has_in (k := 450) (by decide +kernel), ev_has_in (k := 10) (by decide +kernel), ⟨by decide +kernel, by decide +kernel, by decide +kernel⟩, rfl, by decide⟩
def tb_X0_heldAmong : ev_T := [(0, .iconst 0, 1, 0, 0, 0, .int 0),
  (1, .istore 4, 3, 0, 4, 0, .null),
  (3, .iload_n 1, 4, 0, 1, 0, .null),
  (4, .istore 5, 6, 0, 5, 0, .null),
  (6, .iload 5, 8, 0, 5, 0, .null),
  (8, .ifCond .lt 55, 11, 0, 63, 0, .null),
  (11, .iload 5, 13, 0, 5, 0, .null),
  (13, .iload_n 1, 14, 0, 1, 0, .null),
  (14, .iload_n 2, 15, 0, 2, 0, .null),
  (15, .iadd, 16, 0, 0, 0, .null),
  (16, .if_icmp .ge 47, 19, 0, 63, 0, .null),
  (19, .iload 5, 21, 0, 5, 0, .null),
  (21, .bipush 100, 23, 0, 0, 0, .int 100),
  (23, .if_icmp .ge 40, 26, 0, 63, 0, .null),
  (26, .iload 5, 28, 0, 5, 0, .null),
  (28, .iload_n 3, 29, 0, 3, 0, .null),
  (29, .if_icmp .eq 28, 32, 0, 57, 0, .null),
  (32, .aload_n 0, 33, 0, 0, 0, .null),
  (33, .getfield 9, 36, 119, 0, 0, .null),
  (36, .iload 5, 38, 0, 5, 0, .null),
  (38, .iaload, 39, 0, 0, 0, .null),
  (39, .iconst (-1), 40, 0, 0, 0, .int (-1)),
  (40, .if_icmp .eq 17, 43, 0, 57, 0, .null),
  (43, .iload 4, 45, 0, 4, 0, .null),
  (45, .iconst 1, 46, 0, 0, 0, .int 1),
  (46, .aload_n 0, 47, 0, 0, 0, .null),
  (47, .getfield 9, 50, 119, 0, 0, .null),
  (50, .iload 5, 52, 0, 5, 0, .null),
  (52, .iaload, 53, 0, 0, 0, .null),
  (53, .ishl, 54, 0, 0, 0, .null),
  (54, .ior, 55, 0, 0, 0, .null),
  (55, .istore 4, 57, 0, 4, 0, .null),
  (57, .iinc 5 1, 60, 0, 5, 0, .int 1),
  (60, .goto (-54), 63, 0, 6, 0, .null),
  (63, .iload 4, 65, 0, 4, 0, .null),
  (65, .ireturn, 66, 0, 0, 0, .null)]
def mm_X0_heldAmong : ev_M := (RX0, "heldAmong", cX0_heldAmong, 6, (some .int), tb_X0_heldAmong, 0, 0, 0, 0)
set_option maxRecDepth 100000 in
theorem ok_X0_heldAmong : ev_OK mm_X0_heldAmong := by unfold ev_OK; decide +kernel
theorem cv_X0_heldAmong : ev_CV yX0_heldAmong mm_X0_heldAmong 0 3 := ⟨ev_has_in (k := 302) (by decide +kernel), ev_has_in (k := 86) (by decide +kernel), ev_has_in (k := 301) (by decide +kernel), ev_has_in (k := 2) (by decide +kernel), ⟨by decide +kernel, by decide +kernel, by decide +kernel⟩, rfl, by decide⟩
theorem ml_X0_21 : ev_ml RX0 21 yX4_isIn := Or.inr ⟨"GossipCounts", ev_has_in (k := 324) (by decide +kernel)⟩
theorem ml_X0_25 : ev_ml RX0 25 yX0_reachedWithout := Or.inl (ev_has_in (k := 448) (by decide +kernel))
theorem ml_X0_29 : ev_ml RX0 29 yX4_placeOf := Or.inr ⟨"GossipCounts", ev_has_in (k := 296) (by decide +kernel)⟩
theorem ml_X0_33 : ev_ml RX0 33 yX0_heldAmong := Or.inl (ev_has_in (k := 299) (by decide +kernel))
theorem ml_X0_37 : ev_ml RX0 37 yX0_reachedFrom := Or.inl (ev_has_in (k := 303) (by decide +kernel))
theorem ml_X0_40 : ev_ml RX0 40 yX0_reachOf := Or.inl (ev_has_in (k := 576) (by decide +kernel))
theorem ml_X0_43 : ev_ml RX0 43 yX0_lostWithout := Or.inl (ev_has_in (k := 618) (by decide +kernel))
theorem ml_X0_46 : ev_ml RX0 46 yX0_reached := Or.inl (ev_has_in (k := 622) (by decide +kernel))
theorem ml_X0_50 : ev_ml RX0 50 yJ6_bitCount_0f7a4 := Or.inl (ev_has_in (k := 623) (by decide +kernel))
theorem ml_X0_55 : ev_ml RX0 55 yJ6_numberOfTrailingZeros_0f7a4 := Or.inl (ev_has_in (k := 307) (by decide +kernel))
end
section
/-! numbers and folds -/
theorem ev_to {μ : ev_M} {N0 : Option Nat} {X : ev_X} {pc : Nat} {L L' : ev_L} {st st' : List Value} {w w' : List ev_E} {kc ks : Nat} (k : ev_V μ N0 X pc L' st' w' kc ks) (hL : L = L') (hs : st = st') (hw : w = w') : ev_V μ N0 X pc L st w kc ks := by
  subst hL; subst hs; subst hw; exact k
def ev_b (b : Bool) : Int32 := match b with
  | true => 1
  | false => 0
theorem ev_bn (b : Bool) : narrow .boolean (.int (ev_b b)) = .int (ev_b b) := by cases b <;> rfl
theorem ev_b0 {b : Bool} (h : ev_b b = 0) : b = false := by
  cases b with
  | false => rfl
  | true => exact absurd h (by decide)
theorem ev_b1 {b : Bool} (h : ¬ ev_b b = 0) : b = true := by
  cases b with
  | true => rfl
  | false => exact absurd rfl h
theorem ni_nat {k : Nat} (h : k < 2147483648) : (nI k).toNatClampNeg = k := by
  unfold nI
  have h1 : (Int32.ofNat k).toInt = (k : Int) := Int32.toInt_ofNat_of_lt h
  unfold Int32.toNatClampNeg
  rw [h1]
  rfl
theorem ni_int {k : Nat} (h : k < 2147483648) : (nI k).toInt = (k : Int) := Int32.toInt_ofNat_of_lt h
theorem ni_lt {a b : Nat} (ha : a < 2147483648) (hb : b < 2147483648) : nI a < nI b ↔ a < b := by
  rw [Int32.lt_iff_toInt_lt, ni_int ha, ni_int hb]
  omega
theorem ni_le {a b : Nat} (ha : a < 2147483648) (hb : b < 2147483648) : nI a ≤ nI b ↔ a ≤ b := by
  rw [Int32.le_iff_toInt_le, ni_int ha, ni_int hb]
  omega
theorem ni_eq {a b : Nat} (ha : a < 2147483648) (hb : b < 2147483648) : nI a = nI b ↔ a = b := by
  constructor
  · intro h
    have := congrArg Int32.toInt h
    rw [ni_int ha, ni_int hb] at this
    omega
  · intro h; rw [h]
theorem ni_nle {k N : Nat} (h : k < N) (hN : N < 2147483648) : ¬ nI N ≤ nI k := by
  rw [ni_le hN (by omega)]; omega
theorem ni_nlt {k N : Nat} (h : N ≤ k) (hk : k < 2147483648) : ¬ nI k < nI N := by
  rw [ni_lt hk (by omega)]; omega
theorem ni_1 (k : Nat) : nI k + 1 = nI (k + 1) := by
  unfold nI
  rw [Int32.ofNat_add]
  rfl
theorem ni_in {k n : Nat} (h : k < n) (hk : k < 2147483648) : vp_in (nI k) n := by
  unfold vp_in
  rw [ni_nat hk]
  intro q
  rcases q with q | q
  · exact ni_nlt (N := 0) (Nat.zero_le k) hk q
  · omega
theorem ni_of {x : Int32} (h : ¬ x < 0) : x = nI x.toNatClampNeg := by
  have h1 : ¬ x.toInt < 0 := fun q => h (Int32.lt_iff_toInt_lt.mpr (by simpa using q))
  apply Int32.toInt_inj.mp
  have h2 : x.toInt < 2147483648 := Int32.toInt_lt x
  have h3 : x.toNatClampNeg < 2147483648 := by unfold Int32.toNatClampNeg; omega
  rw [ni_int h3]
  unfold Int32.toNatClampNeg
  omega
theorem ni_lt31 (x : Int32) : x.toNatClampNeg < 2147483648 := by
  have h2 : x.toInt < 2147483648 := Int32.toInt_lt x
  unfold Int32.toNatClampNeg; omega
theorem vp_of {x : Int32} {n : Nat} (h1 : ¬ x < 0) (hn : n < 2147483648) (h2 : ¬ nI n ≤ x) : vp_in x n := by
  intro q
  rcases q with q | q
  · exact h1 q
  · apply h2
    rw [ni_of h1, ni_le hn (ni_lt31 x)]
    exact q
def fo_it {α : Type} : Nat → (Nat → α → α) → α → α
  | 0, _, s => s
  | n + 1, f, s => f n (fo_it n f s)
theorem fo_S {α : Type} (n : Nat) (f : Nat → α → α) (s : α) : fo_it (n + 1) f s = f n (fo_it n f s) := rfl
end
section
/-! the class's Holdings -/
def hl_W (h : Nat → Int32) : List ev_E := [.inr (0, [.ref 1]), .inl (0, 100, .inl h)]
def hl_at (h : Nat → Int32) (p : Int32) : Int32 := if p < 0 then -1 else if 100 ≤ p then -1 else h p.toNatClampNeg
def hl_hold (h : Nat → Int32) (p t : Int32) : Nat → Int32 := if p < 0 then h else if 100 ≤ p then h else upd h p.toNatClampNeg t
def hl_taken (h : Nat → Int32) : Int32 := fo_it 100 (fun k a => if h k = -1 then a else a + 1) 0
def hl_truth (h : Nat → Int32) (t : Int32) : Int32 := fo_it 100 (fun k a => if h k = t then a + 1 else a) 0

set_option maxRecDepth 20000 in
theorem t_X0_at (h : Nat → Int32) (p : Int32) : ev_A yX0_at mm_X0_at none [.ref 0, .int p] (hl_W h) (fun r w => r = some (.int (hl_at h p)) ∧ w = hl_W h) := by
  refine ev_start ok_X0_at (by decide +kernel) rfl rfl (Nat.le_of_ble_eq_true rfl) ?_
  refine ev_run [] 1 rfl trivial ?_
  refine ev_br rfl rfl (fun h1 => ?_) (fun h1 => ?_)
  · refine ev_run [] 1 rfl trivial ?_
    refine ev_exit ⟨_, _, rfl, ⟨rfl, Or.inl rfl⟩, ?_, Nat.le_refl _, Nat.le_refl _⟩
    exact ⟨by simp [hl_at, h1], rfl⟩
  · refine ev_run [] 2 rfl trivial ?_
    refine ev_br rfl rfl (fun h2 => ?_) (fun h2 => ?_)
    · refine ev_run [] 1 rfl trivial ?_
      refine ev_exit ⟨_, _, rfl, ⟨rfl, Or.inl rfl⟩, ?_, Nat.le_refl _, Nat.le_refl _⟩
      exact ⟨by simp [hl_at, h1, h2], rfl⟩
    · refine ev_run [] 5 rfl ?_ ?_
      · exact vp_of h1 (by decide) h2
      refine ev_exit ⟨_, _, rfl, ⟨rfl, Or.inl rfl⟩, ?_, Nat.le_refl _, Nat.le_refl _⟩
      exact ⟨by simp [hl_at, h1, h2], rfl⟩

set_option maxRecDepth 20000 in
theorem t_X0_hold (h : Nat → Int32) (p t : Int32) : ev_A yX0_hold mm_X0_hold none [.ref 0, .int p, .int t] (hl_W h) (fun r w => r = none ∧ w = hl_W (hl_hold h p t)) := by
  refine ev_start ok_X0_hold (by decide +kernel) rfl rfl (Nat.le_of_ble_eq_true rfl) ?_
  refine ev_run [] 1 rfl trivial ?_
  refine ev_br rfl rfl (fun h1 => ?_) (fun h1 => ?_)
  · refine ev_exit ⟨_, _, rfl, ⟨rfl, rfl⟩, ?_, Nat.le_refl _, Nat.le_refl _⟩
    exact ⟨rfl, by simp [hl_hold, hl_W, h1]⟩
  · refine ev_run [] 2 rfl trivial ?_
    refine ev_br rfl rfl (fun h2 => ?_) (fun h2 => ?_)
    · refine ev_exit ⟨_, _, rfl, ⟨rfl, rfl⟩, ?_, Nat.le_refl _, Nat.le_refl _⟩
      exact ⟨rfl, by simp [hl_hold, hl_W, h1, h2]⟩
    · refine ev_run [] 5 rfl ?_ ?_
      · exact vp_of h1 (by decide) h2
      refine ev_exit ⟨_, _, rfl, ⟨rfl, rfl⟩, ?_, Nat.le_refl _, Nat.le_refl _⟩
      exact ⟨rfl, by simp [hl_hold, hl_W, h1, h2]⟩

set_option maxRecDepth 20000 in
theorem t_X0_truthOf (h : Nat → Int32) (t : Int32) : ev_A yX0_truthOf mm_X0_truthOf none [.ref 0, .int t] (hl_W h) (fun r w => r = some (.int (hl_truth h t)) ∧ w = hl_W h) := by
  have lp4 : ∀ n k : Nat, k + n = 100 → ev_V mm_X0_truthOf none (ev_XR mm_X0_truthOf (fun r w => r = some (.int (hl_truth h t)) ∧ w = hl_W h)) 4 [some (.ref 0), some (.int t), some (.int (fo_it k (fun k a => if h k = t then a + 1 else a) 0)), some (.int (nI (k)))] [] (hl_W h) 0 0 := by
    intro n
    induction n with
    | zero =>
      intro k hk
      obtain rfl : k = 100 := by omega
      refine ev_run [4] 2 rfl trivial ?_
      refine ev_br rfl rfl (fun h1 => ?_) (fun h1 => (h1 (by decide)).elim)
      refine ev_run [4] 1 rfl trivial ?_
      refine ev_exit ⟨_, _, rfl, ⟨rfl, Or.inl rfl⟩, ?_, Nat.le_refl _, Nat.le_refl _⟩
      exact ⟨rfl, rfl⟩
    | succ n ih =>
      intro k hk
      have hkN : k < 100 := by omega
      have e9 : (nI k).toNatClampNeg = k := ni_nat (by omega)
      refine ev_run [4] 2 rfl trivial ?_
      refine ev_br rfl rfl (fun h2 => (ni_nle hkN (by decide) h2).elim) (fun h2 => ?_)
      refine ev_run [4] 5 rfl ?_ ?_
      · exact ni_in hkN (by omega)
      refine ev_br rfl rfl (fun h3 => ?_) (fun h3 => ?_)
      · try rw [e9] at h3
        refine ev_run [4] 2 rfl trivial ?_
        exact ev_to (ih (k + 1) (by omega)) (by simp [fo_S, ni_1, e9, h3]) rfl (rfl)
      · try rw [e9] at h3
        refine ev_run [4] 3 rfl trivial ?_
        exact ev_to (ih (k + 1) (by omega)) (by simp [fo_S, ni_1, e9, h3]) rfl (rfl)
  refine ev_start ok_X0_truthOf (by decide +kernel) rfl rfl (Nat.le_of_ble_eq_true rfl) ?_
  refine ev_run [4] 4 rfl trivial ?_
  exact ev_to (lp4 100 0 (by omega)) rfl rfl rfl

set_option maxRecDepth 20000 in
theorem t_X0_taken (h : Nat → Int32) : ev_A yX0_taken mm_X0_taken none [.ref 0] (hl_W h) (fun r w => r = some (.int (hl_taken h)) ∧ w = hl_W h) := by
  have lp4 : ∀ n k : Nat, k + n = 100 → ev_V mm_X0_taken none (ev_XR mm_X0_taken (fun r w => r = some (.int (hl_taken h)) ∧ w = hl_W h)) 4 [some (.ref 0), some (.int (fo_it k (fun k a => if h k = -1 then a else a + 1) 0)), some (.int (nI (k)))] [] (hl_W h) 0 0 := by
    intro n
    induction n with
    | zero =>
      intro k hk
      obtain rfl : k = 100 := by omega
      refine ev_run [4] 2 rfl trivial ?_
      refine ev_br rfl rfl (fun h1 => ?_) (fun h1 => (h1 (by decide)).elim)
      refine ev_run [4] 1 rfl trivial ?_
      refine ev_exit ⟨_, _, rfl, ⟨rfl, Or.inl rfl⟩, ?_, Nat.le_refl _, Nat.le_refl _⟩
      exact ⟨rfl, rfl⟩
    | succ n ih =>
      intro k hk
      have hkN : k < 100 := by omega
      have e9 : (nI k).toNatClampNeg = k := ni_nat (by omega)
      refine ev_run [4] 2 rfl trivial ?_
      refine ev_br rfl rfl (fun h2 => (ni_nle hkN (by decide) h2).elim) (fun h2 => ?_)
      refine ev_run [4] 5 rfl ?_ ?_
      · exact ni_in hkN (by omega)
      refine ev_br rfl rfl (fun h3 => ?_) (fun h3 => ?_)
      · try rw [e9] at h3
        refine ev_run [4] 2 rfl trivial ?_
        exact ev_to (ih (k + 1) (by omega)) (by simp [fo_S, ni_1, e9, h3]) rfl (rfl)
      · try rw [e9] at h3
        refine ev_run [4] 3 rfl trivial ?_
        exact ev_to (ih (k + 1) (by omega)) (by simp [fo_S, ni_1, e9, h3]) rfl (rfl)
  refine ev_start ok_X0_taken (by decide +kernel) rfl rfl (Nat.le_of_ble_eq_true rfl) ?_
  refine ev_run [4] 4 rfl trivial ?_
  exact ev_to (lp4 100 0 (by omega)) rfl rfl rfl
end
