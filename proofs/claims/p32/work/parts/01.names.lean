-- ===== PART A: goes FIRST, ahead of the names: the tables' words, and 'selects' of the private methods out of them =====
/-- a private method of a class that the tables say can be made, by its rows of tables_1 -/
def lw_okq (q : MethodName × Nat) : Prop := (q.1.cls ≠ "java/lang/invoke/MethodHandle" ∧ q.1.cls ≠ "java/lang/invoke/VarHandle") ∧ Cond.instantiable q.1.cls q.2 ∈ tables_1 ∧ Cond.privateMethod q.1 ∈ tables_1 ∧ Cond.instanceMethod q.1 ∈ tables_1
theorem lw_p0 : lw_okq (⟨"java/lang/Throwable", "fillInStackTrace", "(I)Ljava/lang/Throwable;"⟩, 6) := ⟨⟨by decide +kernel, by decide +kernel⟩, List.mem_of_getElem? (i := 207) (by decide +kernel), List.mem_of_getElem? (i := 205) (by decide +kernel), List.mem_of_getElem? (i := 206) (by decide +kernel)⟩
theorem lw_p1 : lw_okq (⟨"GossipCounts", "save", "()V"⟩, 6) := ⟨⟨by decide +kernel, by decide +kernel⟩, List.mem_of_getElem? (i := 16) (by decide +kernel), List.mem_of_getElem? (i := 253) (by decide +kernel), List.mem_of_getElem? (i := 254) (by decide +kernel)⟩
theorem lw_p2 : lw_okq (⟨"GossipCounts", "isThing", "(I)Z"⟩, 6) := ⟨⟨by decide +kernel, by decide +kernel⟩, List.mem_of_getElem? (i := 16) (by decide +kernel), List.mem_of_getElem? (i := 282) (by decide +kernel), List.mem_of_getElem? (i := 283) (by decide +kernel)⟩
theorem lw_p3 : lw_okq (⟨"GossipCounts$World", "hearDue", "()V"⟩, 17) := ⟨⟨by decide +kernel, by decide +kernel⟩, List.mem_of_getElem? (i := 24) (by decide +kernel), List.mem_of_getElem? (i := 339) (by decide +kernel), List.mem_of_getElem? (i := 340) (by decide +kernel)⟩
theorem lw_p4 : lw_okq (⟨"GossipCounts$World", "mustEnd", "(I)Z"⟩, 17) := ⟨⟨by decide +kernel, by decide +kernel⟩, List.mem_of_getElem? (i := 24) (by decide +kernel), List.mem_of_getElem? (i := 357) (by decide +kernel), List.mem_of_getElem? (i := 358) (by decide +kernel)⟩
theorem lw_p5 : lw_okq (⟨"GossipCounts$World", "endThing", "(III)V"⟩, 17) := ⟨⟨by decide +kernel, by decide +kernel⟩, List.mem_of_getElem? (i := 24) (by decide +kernel), List.mem_of_getElem? (i := 370) (by decide +kernel), List.mem_of_getElem? (i := 371) (by decide +kernel)⟩
theorem lw_p6 : lw_okq (⟨"GossipCounts$World", "dueTime", "(I)I"⟩, 17) := ⟨⟨by decide +kernel, by decide +kernel⟩, List.mem_of_getElem? (i := 24) (by decide +kernel), List.mem_of_getElem? (i := 385) (by decide +kernel), List.mem_of_getElem? (i := 386) (by decide +kernel)⟩
theorem lw_p7 : lw_okq (⟨"GossipCounts$World", "judge", "(I)V"⟩, 17) := ⟨⟨by decide +kernel, by decide +kernel⟩, List.mem_of_getElem? (i := 24) (by decide +kernel), List.mem_of_getElem? (i := 405) (by decide +kernel), List.mem_of_getElem? (i := 406) (by decide +kernel)⟩
theorem lw_p8 : lw_okq (⟨"GossipCounts$Holdings", "heldAmong", "(III)I"⟩, 1) := ⟨⟨by decide +kernel, by decide +kernel⟩, List.mem_of_getElem? (i := 30) (by decide +kernel), List.mem_of_getElem? (i := 414) (by decide +kernel), List.mem_of_getElem? (i := 415) (by decide +kernel)⟩
theorem lw_p9 : lw_okq (⟨"GossipCounts$World", "withRest", "(I)I"⟩, 17) := ⟨⟨by decide +kernel, by decide +kernel⟩, List.mem_of_getElem? (i := 24) (by decide +kernel), List.mem_of_getElem? (i := 426) (by decide +kernel), List.mem_of_getElem? (i := 427) (by decide +kernel)⟩
theorem lw_p10 : lw_okq (⟨"GossipCounts$World", "highestOf", "(I)I"⟩, 17) := ⟨⟨by decide +kernel, by decide +kernel⟩, List.mem_of_getElem? (i := 24) (by decide +kernel), List.mem_of_getElem? (i := 435) (by decide +kernel), List.mem_of_getElem? (i := 436) (by decide +kernel)⟩
theorem lw_p11 : lw_okq (⟨"GossipCounts", "isThingOrNone", "(I)Z"⟩, 6) := ⟨⟨by decide +kernel, by decide +kernel⟩, List.mem_of_getElem? (i := 16) (by decide +kernel), List.mem_of_getElem? (i := 465) (by decide +kernel), List.mem_of_getElem? (i := 466) (by decide +kernel)⟩
theorem lw_p12 : lw_okq (⟨"GossipCounts$Holdings", "reachedWithout", "(I)I"⟩, 1) := ⟨⟨by decide +kernel, by decide +kernel⟩, List.mem_of_getElem? (i := 30) (by decide +kernel), List.mem_of_getElem? (i := 546) (by decide +kernel), List.mem_of_getElem? (i := 547) (by decide +kernel)⟩
theorem lw_p13 : lw_okq (⟨"GossipCounts$World", "endsInTrials", "()I"⟩, 17) := ⟨⟨by decide +kernel, by decide +kernel⟩, List.mem_of_getElem? (i := 24) (by decide +kernel), List.mem_of_getElem? (i := 594) (by decide +kernel), List.mem_of_getElem? (i := 595) (by decide +kernel)⟩
theorem lw_p14 : lw_okq (⟨"GossipCounts$World", "wrongCounts", "()I"⟩, 17) := ⟨⟨by decide +kernel, by decide +kernel⟩, List.mem_of_getElem? (i := 24) (by decide +kernel), List.mem_of_getElem? (i := 602) (by decide +kernel), List.mem_of_getElem? (i := 603) (by decide +kernel)⟩
theorem lw_p15 : lw_okq (⟨"GossipCounts$World", "isWrong", "(I)Z"⟩, 17) := ⟨⟨by decide +kernel, by decide +kernel⟩, List.mem_of_getElem? (i := 24) (by decide +kernel), List.mem_of_getElem? (i := 606) (by decide +kernel), List.mem_of_getElem? (i := 607) (by decide +kernel)⟩
def lw_privs_1 : List (MethodName × Nat) := [(⟨"java/lang/Throwable", "fillInStackTrace", "(I)Ljava/lang/Throwable;"⟩, 6), (⟨"GossipCounts", "save", "()V"⟩, 6), (⟨"GossipCounts", "isThing", "(I)Z"⟩, 6), (⟨"GossipCounts$World", "hearDue", "()V"⟩, 17), (⟨"GossipCounts$World", "mustEnd", "(I)Z"⟩, 17), (⟨"GossipCounts$World", "endThing", "(III)V"⟩, 17), (⟨"GossipCounts$World", "dueTime", "(I)I"⟩, 17), (⟨"GossipCounts$World", "judge", "(I)V"⟩, 17), (⟨"GossipCounts$Holdings", "heldAmong", "(III)I"⟩, 1), (⟨"GossipCounts$World", "withRest", "(I)I"⟩, 17), (⟨"GossipCounts$World", "highestOf", "(I)I"⟩, 17), (⟨"GossipCounts", "isThingOrNone", "(I)Z"⟩, 6), (⟨"GossipCounts$Holdings", "reachedWithout", "(I)I"⟩, 1), (⟨"GossipCounts$World", "endsInTrials", "()I"⟩, 17), (⟨"GossipCounts$World", "wrongCounts", "()I"⟩, 17), (⟨"GossipCounts$World", "isWrong", "(I)Z"⟩, 17)]
theorem lw_r1 : ∀ q ∈ lw_privs_1, lw_okq q := List.forall_mem_cons.mpr ⟨lw_p0, List.forall_mem_cons.mpr ⟨lw_p1, List.forall_mem_cons.mpr ⟨lw_p2, List.forall_mem_cons.mpr ⟨lw_p3, List.forall_mem_cons.mpr ⟨lw_p4, List.forall_mem_cons.mpr ⟨lw_p5, List.forall_mem_cons.mpr ⟨lw_p6, List.forall_mem_cons.mpr ⟨lw_p7, List.forall_mem_cons.mpr ⟨lw_p8, List.forall_mem_cons.mpr ⟨lw_p9, List.forall_mem_cons.mpr ⟨lw_p10, List.forall_mem_cons.mpr ⟨lw_p11, List.forall_mem_cons.mpr ⟨lw_p12, List.forall_mem_cons.mpr ⟨lw_p13, List.forall_mem_cons.mpr ⟨lw_p14, List.forall_mem_cons.mpr ⟨lw_p15, fun _ h => absurd h List.not_mem_nil⟩⟩⟩⟩⟩⟩⟩⟩⟩⟩⟩⟩⟩⟩⟩⟩
theorem lw_p16 : lw_okq (⟨"GossipCounts", "foresee", "(I)V"⟩, 6) := ⟨⟨by decide +kernel, by decide +kernel⟩, List.mem_of_getElem? (i := 16) (by decide +kernel), List.mem_of_getElem? (i := 629) (by decide +kernel), List.mem_of_getElem? (i := 630) (by decide +kernel)⟩
theorem lw_p17 : lw_okq (⟨"GossipCounts", "passedPart", "(I)I"⟩, 6) := ⟨⟨by decide +kernel, by decide +kernel⟩, List.mem_of_getElem? (i := 16) (by decide +kernel), List.mem_of_getElem? (i := 633) (by decide +kernel), List.mem_of_getElem? (i := 634) (by decide +kernel)⟩
theorem lw_p18 : lw_okq (⟨"GossipCounts", "foreseenEnd", "(I)I"⟩, 6) := ⟨⟨by decide +kernel, by decide +kernel⟩, List.mem_of_getElem? (i := 16) (by decide +kernel), List.mem_of_getElem? (i := 642) (by decide +kernel), List.mem_of_getElem? (i := 643) (by decide +kernel)⟩
theorem lw_p19 : lw_okq (⟨"GossipCounts", "slandersToEnd", "(I)I"⟩, 6) := ⟨⟨by decide +kernel, by decide +kernel⟩, List.mem_of_getElem? (i := 16) (by decide +kernel), List.mem_of_getElem? (i := 650) (by decide +kernel), List.mem_of_getElem? (i := 651) (by decide +kernel)⟩
theorem lw_p20 : lw_okq (⟨"GossipCounts", "foreseeTrial", "()V"⟩, 6) := ⟨⟨by decide +kernel, by decide +kernel⟩, List.mem_of_getElem? (i := 16) (by decide +kernel), List.mem_of_getElem? (i := 663) (by decide +kernel), List.mem_of_getElem? (i := 664) (by decide +kernel)⟩
theorem lw_p21 : lw_okq (⟨"GossipCounts", "triedPart", "(I)I"⟩, 6) := ⟨⟨by decide +kernel, by decide +kernel⟩, List.mem_of_getElem? (i := 16) (by decide +kernel), List.mem_of_getElem? (i := 667) (by decide +kernel), List.mem_of_getElem? (i := 668) (by decide +kernel)⟩
def lw_privs_2 : List (MethodName × Nat) := [(⟨"GossipCounts", "foresee", "(I)V"⟩, 6), (⟨"GossipCounts", "passedPart", "(I)I"⟩, 6), (⟨"GossipCounts", "foreseenEnd", "(I)I"⟩, 6), (⟨"GossipCounts", "slandersToEnd", "(I)I"⟩, 6), (⟨"GossipCounts", "foreseeTrial", "()V"⟩, 6), (⟨"GossipCounts", "triedPart", "(I)I"⟩, 6)]
theorem lw_r2 : ∀ q ∈ lw_privs_2, lw_okq q := List.forall_mem_cons.mpr ⟨lw_p16, List.forall_mem_cons.mpr ⟨lw_p17, List.forall_mem_cons.mpr ⟨lw_p18, List.forall_mem_cons.mpr ⟨lw_p19, List.forall_mem_cons.mpr ⟨lw_p20, List.forall_mem_cons.mpr ⟨lw_p21, fun _ h => absurd h List.not_mem_nil⟩⟩⟩⟩⟩⟩
def lw_privs : List (MethodName × Nat) := lw_privs_1 ++ (lw_privs_2)
def lw_tbl : List Cond := k2_sels lw_privs ++ tables_1
theorem lw_privs_ok : ∀ q ∈ lw_privs, lw_okq q := by
  show ∀ q ∈ lw_privs_1 ++ (lw_privs_2), lw_okq q
  exact List.forall_mem_append.mpr ⟨lw_r1, lw_r2⟩
/-- the streams that the claim lets the run draw from -/
abbrev lw_cs : List Choice := [Jvm.Choice.named "NaN.bits"]
theorem lw_bits : nanBits ∈ lw_cs := by first | decide | exact List.mem_cons_self | simp [lw_cs, nanBits]
def RX0 : String := "GossipCounts$Holdings"
def TX0 : u_T := fun k => match k with
  | _ => ("GossipCounts$Holdings", "held", "[I", true)
def tyX0 : Nat → FieldType := fun k => match k with
  | _ => .array .int
abbrev wsX00 : List Cond := u_ws RX0 TX0 1
theorem nmX0 : ∀ a, a < 1 → ∀ b, b < 1 → a ≠ b → (TX0 a).2.1 ≠ (TX0 b).2.1 := by decide +kernel
theorem tyX0_ok : ∀ k, k < 1 → parseFieldDescriptor (TX0 k).2.2.1 = some (tyX0 k) := by decide +kernel
abbrev cX0_init : ByteArray := prog_2_method_1_code
def yX0_init : MethodName := ⟨RX0, "<init>", "()V"⟩
abbrev cX0_copyFrom : ByteArray := prog_2_method_2_code
def yX0_copyFrom : MethodName := ⟨RX0, "copyFrom", "(LGossipCounts$Holdings;)V"⟩
abbrev cX0_at : ByteArray := prog_2_method_3_code
def yX0_at : MethodName := ⟨RX0, "at", "(I)I"⟩
abbrev cX0_hold : ByteArray := prog_2_method_4_code
def yX0_hold : MethodName := ⟨RX0, "hold", "(II)V"⟩
abbrev cX0_taken : ByteArray := prog_2_method_5_code
def yX0_taken : MethodName := ⟨RX0, "taken", "()I"⟩
abbrev cX0_truthOf : ByteArray := prog_2_method_6_code
def yX0_truthOf : MethodName := ⟨RX0, "truthOf", "(I)I"⟩
abbrev cX0_slotsThatHold : ByteArray := prog_2_method_7_code
def yX0_slotsThatHold : MethodName := ⟨RX0, "slotsThatHold", "(II)I"⟩
abbrev cX0_letGo : ByteArray := prog_2_method_8_code
def yX0_letGo : MethodName := ⟨RX0, "letGo", "(II)Z"⟩
abbrev cX0_reached : ByteArray := prog_2_method_9_code
def yX0_reached : MethodName := ⟨RX0, "reached", "()I"⟩
abbrev cX0_reachOf : ByteArray := prog_2_method_10_code
def yX0_reachOf : MethodName := ⟨RX0, "reachOf", "(I)I"⟩
abbrev cX0_ringOf : ByteArray := prog_2_method_11_code
def yX0_ringOf : MethodName := ⟨RX0, "ringOf", "(I)I"⟩
abbrev cX0_cutWithMostLost : ByteArray := prog_2_method_12_code
def yX0_cutWithMostLost : MethodName := ⟨RX0, "cutWithMostLost", "()I"⟩
abbrev cX0_lostWithout : ByteArray := prog_2_method_13_code
def yX0_lostWithout : MethodName := ⟨RX0, "lostWithout", "(I)I"⟩
abbrev cX0_reachedFrom : ByteArray := prog_2_method_14_code
def yX0_reachedFrom : MethodName := ⟨RX0, "reachedFrom", "(II)I"⟩
abbrev cX0_reachedWithout : ByteArray := prog_2_method_15_code
def yX0_reachedWithout : MethodName := ⟨RX0, "reachedWithout", "(I)I"⟩
abbrev cX0_heldAmong : ByteArray := prog_2_method_16_code
def yX0_heldAmong : MethodName := ⟨RX0, "heldAmong", "(III)I"⟩
def RX1 : String := "GossipCounts$Reports"
def TX1 : u_T := fun k => match k with
  | 0 => ("GossipCounts$Reports", "heard", "I", false)
  | 1 => ("GossipCounts$Reports", "made", "I", false)
  | 2 => ("GossipCounts$Reports", "rows", "[I", true)
  | 3 => ("GossipCounts$Reports", "numbers", "[I", true)
  | _ => ("GossipCounts$Reports", "sums", "[I", true)
def tyX1 : Nat → FieldType := fun k => match k with
  | 0 => .int
  | 1 => .int
  | 2 => .array .int
  | 3 => .array .int
  | _ => .array .int
abbrev wsX10 : List Cond := u_ws RX1 TX1 5
theorem nmX1 : ∀ a, a < 5 → ∀ b, b < 5 → a ≠ b → (TX1 a).2.1 ≠ (TX1 b).2.1 := by decide +kernel
theorem tyX1_ok : ∀ k, k < 5 → parseFieldDescriptor (TX1 k).2.2.1 = some (tyX1 k) := by decide +kernel
abbrev cX1_init : ByteArray := prog_3_method_1_code
def yX1_init : MethodName := ⟨RX1, "<init>", "()V"⟩
abbrev cX1_copyFrom : ByteArray := prog_3_method_2_code
def yX1_copyFrom : MethodName := ⟨RX1, "copyFrom", "(LGossipCounts$Reports;)V"⟩
abbrev cX1_underWay : ByteArray := prog_3_method_3_code
def yX1_underWay : MethodName := ⟨RX1, "underWay", "()I"⟩
abbrev cX1_part : ByteArray := prog_3_method_4_code
def yX1_part : MethodName := ⟨RX1, "part", "(II)I"⟩
abbrev cX1_anyDue : ByteArray := prog_3_method_5_code
def yX1_anyDue : MethodName := ⟨RX1, "anyDue", "(I)Z"⟩
abbrev cX1_anyFor : ByteArray := prog_3_method_6_code
def yX1_anyFor : MethodName := ⟨RX1, "anyFor", "(I)Z"⟩
abbrev cX1_numberFor : ByteArray := prog_3_method_7_code
def yX1_numberFor : MethodName := ⟨RX1, "numberFor", "(I)I"⟩
abbrev cX1_sumFor : ByteArray := prog_3_method_8_code
def yX1_sumFor : MethodName := ⟨RX1, "sumFor", "(I)I"⟩
abbrev cX1_make : ByteArray := prog_3_method_9_code
def yX1_make : MethodName := ⟨RX1, "make", "(IIII)I"⟩
abbrev cX1_dropFirst : ByteArray := prog_3_method_10_code
def yX1_dropFirst : MethodName := ⟨RX1, "dropFirst", "()V"⟩
def RX2 : String := "GossipCounts$Text"
def TX2 : u_T := fun k => match k with
  | 0 => ("GossipCounts$Text", "length", "I", false)
  | 1 => ("GossipCounts$Text", "codes", "[I", true)
  | 2 => ("GossipCounts$Text", "letter", "I", false)
  | 3 => ("GossipCounts$Text", "numbers", "[I", true)
  | _ => ("GossipCounts$Text", "at", "I", false)
def tyX2 : Nat → FieldType := fun k => match k with
  | 0 => .int
  | 1 => .array .int
  | 2 => .int
  | 3 => .array .int
  | _ => .int
abbrev wsX20 : List Cond := u_ws RX2 TX2 5
theorem nmX2 : ∀ a, a < 5 → ∀ b, b < 5 → a ≠ b → (TX2 a).2.1 ≠ (TX2 b).2.1 := by decide +kernel
theorem tyX2_ok : ∀ k, k < 5 → parseFieldDescriptor (TX2 k).2.2.1 = some (tyX2 k) := by decide +kernel
abbrev cX2_init : ByteArray := prog_4_method_1_code
def yX2_init : MethodName := ⟨RX2, "<init>", "()V"⟩
def RX3 : String := "GossipCounts$World"
def TX3 : u_T := fun k => match k with
  | 0 => ("GossipCounts$World", "time", "I", false)
  | 1 => ("GossipCounts$World", "things", "I", false)
  | 2 => ("GossipCounts$World", "living", "I", false)
  | 3 => ("GossipCounts$World", "suspects", "I", false)
  | 4 => ("GossipCounts$World", "wronged", "I", false)
  | 5 => ("GossipCounts$World", "ends", "I", false)
  | 6 => ("GossipCounts$World", "slanderFound", "I", false)
  | 7 => ("GossipCounts$World", "settings", "[I", true)
  | 8 => ("GossipCounts$World", "ranks", "[I", true)
  | 9 => ("GossipCounts$World", "counts", "[I", true)
  | 10 => ("GossipCounts$World", "came", "[I", true)
  | 11 => ("GossipCounts$World", "endNumbers", "[I", true)
  | 12 => ("GossipCounts$World", "endTimes", "[I", true)
  | 13 => ("GossipCounts$World", "endKinds", "[I", true)
  | 14 => ("GossipCounts$World", "endOrder", "[I", true)
  | 15 => ("GossipCounts$World", "holdings", "LGossipCounts$Holdings;", true)
  | _ => ("GossipCounts$World", "reports", "LGossipCounts$Reports;", true)
def tyX3 : Nat → FieldType := fun k => match k with
  | 0 => .int
  | 1 => .int
  | 2 => .int
  | 3 => .int
  | 4 => .int
  | 5 => .int
  | 6 => .int
  | 7 => .array .int
  | 8 => .array .int
  | 9 => .array .int
  | 10 => .array .int
  | 11 => .array .int
  | 12 => .array .int
  | 13 => .array .int
  | 14 => .array .int
  | 15 => .object "GossipCounts$Holdings"
  | _ => .object "GossipCounts$Reports"
abbrev wsX30 : List Cond := u_ws RX3 TX3 17
theorem nmX3 : ∀ a, a < 17 → ∀ b, b < 17 → a ≠ b → (TX3 a).2.1 ≠ (TX3 b).2.1 := by decide +kernel
theorem tyX3_ok : ∀ k, k < 17 → parseFieldDescriptor (TX3 k).2.2.1 = some (tyX3 k) := by decide +kernel
abbrev cX3_init : ByteArray := prog_5_method_1_code
def yX3_init : MethodName := ⟨RX3, "<init>", "()V"⟩
abbrev cX3_copyFrom : ByteArray := prog_5_method_2_code
def yX3_copyFrom : MethodName := ⟨RX3, "copyFrom", "(LGossipCounts$World;)V"⟩
abbrev cX3_lives : ByteArray := prog_5_method_3_code
def yX3_lives : MethodName := ⟨RX3, "lives", "(I)Z"⟩
abbrev cX3_mayBeHeld : ByteArray := prog_5_method_4_code
def yX3_mayBeHeld : MethodName := ⟨RX3, "mayBeHeld", "(I)Z"⟩
abbrev cX3_bring : ByteArray := prog_5_method_5_code
def yX3_bring : MethodName := ⟨RX3, "bring", "(I)I"⟩
abbrev cX3_change : ByteArray := prog_5_method_6_code
def yX3_change : MethodName := ⟨RX3, "change", "(II)I"⟩
abbrev cX3_lie : ByteArray := prog_5_method_7_code
def yX3_lie : MethodName := ⟨RX3, "lie", "(II)I"⟩
abbrev cX3_passTicks : ByteArray := prog_5_method_9_code
def yX3_passTicks : MethodName := ⟨RX3, "passTicks", "(I)I"⟩
abbrev cX3_holdTrial : ByteArray := prog_5_method_10_code
def yX3_holdTrial : MethodName := ⟨RX3, "holdTrial", "()I"⟩
abbrev cX3_judge : ByteArray := prog_5_method_11_code
def yX3_judge : MethodName := ⟨RX3, "judge", "(I)V"⟩
abbrev cX3_withRest : ByteArray := prog_5_method_12_code
def yX3_withRest : MethodName := ⟨RX3, "withRest", "(I)I"⟩
abbrev cX3_highestOf : ByteArray := prog_5_method_13_code
def yX3_highestOf : MethodName := ⟨RX3, "highestOf", "(I)I"⟩
abbrev cX3_hearDue : ByteArray := prog_5_method_14_code
def yX3_hearDue : MethodName := ⟨RX3, "hearDue", "()V"⟩
abbrev cX3_mustEnd : ByteArray := prog_5_method_15_code
def yX3_mustEnd : MethodName := ⟨RX3, "mustEnd", "(I)Z"⟩
abbrev cX3_endThing : ByteArray := prog_5_method_16_code
def yX3_endThing : MethodName := ⟨RX3, "endThing", "(III)V"⟩
abbrev cX3_dueTime : ByteArray := prog_5_method_17_code
def yX3_dueTime : MethodName := ⟨RX3, "dueTime", "(I)I"⟩
abbrev cX3_isWrong : ByteArray := prog_5_method_18_code
def yX3_isWrong : MethodName := ⟨RX3, "isWrong", "(I)Z"⟩
abbrev cX3_property : ByteArray := prog_5_method_19_code
def yX3_property : MethodName := ⟨RX3, "property", "(II)I"⟩
abbrev cX3_total : ByteArray := prog_5_method_20_code
def yX3_total : MethodName := ⟨RX3, "total", "(I)I"⟩
abbrev cX3_endsInTrials : ByteArray := prog_5_method_21_code
def yX3_endsInTrials : MethodName := ⟨RX3, "endsInTrials", "()I"⟩
abbrev cX3_wrongCounts : ByteArray := prog_5_method_22_code
def yX3_wrongCounts : MethodName := ⟨RX3, "wrongCounts", "()I"⟩
def RX4 : String := "GossipCounts"
def TX4 : u_T := fun k => match k with
  | 0 => ("GossipCounts", "now", "LGossipCounts$World;", true)
  | 1 => ("GossipCounts", "ahead", "LGossipCounts$World;", true)
  | 2 => ("GossipCounts", "slandered", "LGossipCounts$World;", true)
  | 3 => ("GossipCounts", "saved", "[LGossipCounts$World;", true)
  | 4 => ("GossipCounts", "savedStates", "I", false)
  | _ => ("GossipCounts", "text", "LGossipCounts$Text;", true)
def tyX4 : Nat → FieldType := fun k => match k with
  | 0 => .object "GossipCounts$World"
  | 1 => .object "GossipCounts$World"
  | 2 => .object "GossipCounts$World"
  | 3 => .array (.object "GossipCounts$World")
  | 4 => .int
  | _ => .object "GossipCounts$Text"
abbrev wsX40 : List Cond := u_ws RX4 TX4 6
theorem nmX4 : ∀ a, a < 6 → ∀ b, b < 6 → a ≠ b → (TX4 a).2.1 ≠ (TX4 b).2.1 := by decide +kernel
theorem tyX4_ok : ∀ k, k < 6 → parseFieldDescriptor (TX4 k).2.2.1 = some (tyX4 k) := by decide +kernel
abbrev cX4_init : ByteArray := prog_1_method_1_code
def yX4_init : MethodName := ⟨RX4, "<init>", "()V"⟩
abbrev cX4_add : ByteArray := prog_1_method_2_code
def yX4_add : MethodName := ⟨RX4, "add", "(I)I"⟩
abbrev cX4_take : ByteArray := prog_1_method_3_code
def yX4_take : MethodName := ⟨RX4, "take", "(II)I"⟩
abbrev cX4_put : ByteArray := prog_1_method_4_code
def yX4_put : MethodName := ⟨RX4, "put", "(III)I"⟩
abbrev cX4_suspect : ByteArray := prog_1_method_6_code
def yX4_suspect : MethodName := ⟨RX4, "suspect", "(I)I"⟩
abbrev cX4_set : ByteArray := prog_1_method_7_code
def yX4_set : MethodName := ⟨RX4, "set", "(II)I"⟩
abbrev cX4_pass : ByteArray := prog_1_method_8_code
def yX4_pass : MethodName := ⟨RX4, "pass", "(I)I"⟩
abbrev cX4_trial : ByteArray := prog_1_method_9_code
def yX4_trial : MethodName := ⟨RX4, "trial", "()I"⟩
abbrev cX4_thing : ByteArray := prog_1_method_16_code
def yX4_thing : MethodName := ⟨RX4, "thing", "(II)I"⟩
abbrev cX4_slot : ByteArray := prog_1_method_17_code
def yX4_slot : MethodName := ⟨RX4, "slot", "(II)I"⟩
abbrev cX4_hand : ByteArray := prog_1_method_18_code
def yX4_hand : MethodName := ⟨RX4, "hand", "(I)I"⟩
abbrev cX4_report : ByteArray := prog_1_method_19_code
def yX4_report : MethodName := ⟨RX4, "report", "(II)I"⟩
abbrev cX4_count : ByteArray := prog_1_method_21_code
def yX4_count : MethodName := ⟨RX4, "count", "(I)I"⟩
abbrev cX4_ifPassed : ByteArray := prog_1_method_23_code
def yX4_ifPassed : MethodName := ⟨RX4, "ifPassed", "(II)I"⟩
abbrev cX4_endsIn : ByteArray := prog_1_method_24_code
def yX4_endsIn : MethodName := ⟨RX4, "endsIn", "(I)I"⟩
abbrev cX4_ifTried : ByteArray := prog_1_method_25_code
def yX4_ifTried : MethodName := ⟨RX4, "ifTried", "(I)I"⟩
abbrev cX4_ring : ByteArray := prog_1_method_26_code
def yX4_ring : MethodName := ⟨RX4, "ring", "(I)I"⟩
abbrev cX4_bestCut : ByteArray := prog_1_method_27_code
def yX4_bestCut : MethodName := ⟨RX4, "bestCut", "(I)I"⟩
abbrev cX4_bears : ByteArray := prog_1_method_28_code
def yX4_bears : MethodName := ⟨RX4, "bears", "(I)I"⟩
abbrev cX4_reachedShare : ByteArray := prog_1_method_29_code
def yX4_reachedShare : MethodName := ⟨RX4, "reachedShare", "()D"⟩
abbrev cX4_foresee : ByteArray := prog_1_method_38_code
def yX4_foresee : MethodName := ⟨RX4, "foresee", "(I)V"⟩
abbrev cX4_passedPart : ByteArray := prog_1_method_39_code
def yX4_passedPart : MethodName := ⟨RX4, "passedPart", "(I)I"⟩
abbrev cX4_foreseenEnd : ByteArray := prog_1_method_40_code
def yX4_foreseenEnd : MethodName := ⟨RX4, "foreseenEnd", "(I)I"⟩
abbrev cX4_foreseeTrial : ByteArray := prog_1_method_41_code
def yX4_foreseeTrial : MethodName := ⟨RX4, "foreseeTrial", "()V"⟩
abbrev cX4_triedPart : ByteArray := prog_1_method_42_code
def yX4_triedPart : MethodName := ⟨RX4, "triedPart", "(I)I"⟩
abbrev cX4_slandersToEnd : ByteArray := prog_1_method_43_code
def yX4_slandersToEnd : MethodName := ⟨RX4, "slandersToEnd", "(I)I"⟩
abbrev cX4_save : ByteArray := prog_1_method_45_code
def yX4_save : MethodName := ⟨RX4, "save", "()V"⟩
abbrev cX4_isThing : ByteArray := prog_1_method_46_code
def yX4_isThing : MethodName := ⟨RX4, "isThing", "(I)Z"⟩
abbrev cX4_isThingOrNone : ByteArray := prog_1_method_47_code
def yX4_isThingOrNone : MethodName := ⟨RX4, "isThingOrNone", "(I)Z"⟩
abbrev cX4_isHand : ByteArray := prog_1_method_48_code
def yX4_isHand : MethodName := ⟨RX4, "isHand", "(I)Z"⟩
abbrev cX4_isSlot : ByteArray := prog_1_method_49_code
def yX4_isSlot : MethodName := ⟨RX4, "isSlot", "(I)Z"⟩
abbrev cX4_isSetting : ByteArray := prog_1_method_50_code
def yX4_isSetting : MethodName := ⟨RX4, "isSetting", "(I)Z"⟩
abbrev cX4_mostOf : ByteArray := prog_1_method_51_code
def yX4_mostOf : MethodName := ⟨RX4, "mostOf", "(I)I"⟩
abbrev cX4_placeOf : ByteArray := prog_1_method_52_code
def yX4_placeOf : MethodName := ⟨RX4, "placeOf", "(II)I"⟩
abbrev cX4_isIn : ByteArray := prog_1_method_53_code
def yX4_isIn : MethodName := ⟨RX4, "isIn", "(II)Z"⟩
def RX5 : String := "GossipCountsModel"
def TX5 : u_T := fun k => match k with
  | _ => ("", "", "", false)
def tyX5 : Nat → FieldType := fun k => match k with
  | _ => .int
abbrev wsX50 : List Cond := u_ws RX5 TX5 0
theorem nmX5 : ∀ a, a < 0 → ∀ b, b < 0 → a ≠ b → (TX5 a).2.1 ≠ (TX5 b).2.1 := by decide +kernel
theorem tyX5_ok : ∀ k, k < 0 → parseFieldDescriptor (TX5 k).2.2.1 = some (tyX5 k) := by decide +kernel
def RJ6 : String := "java/lang/Integer"
def TJ6 : u_T := fun k => match k with
  | _ => ("", "", "", false)
def tyJ6 : Nat → FieldType := fun k => match k with
  | _ => .int
abbrev wsJ60 : List Cond := u_ws RJ6 TJ6 0
theorem nmJ6 : ∀ a, a < 0 → ∀ b, b < 0 → a ≠ b → (TJ6 a).2.1 ≠ (TJ6 b).2.1 := by decide +kernel
theorem tyJ6_ok : ∀ k, k < 0 → parseFieldDescriptor (TJ6 k).2.2.1 = some (tyJ6 k) := by decide +kernel
abbrev cJ6_numberOfTrailingZeros_0f7a4 : ByteArray := prog_12_method_48_code
def yJ6_numberOfTrailingZeros_0f7a4 : MethodName := ⟨RJ6, "numberOfTrailingZeros", "(I)I"⟩
abbrev cJ6_bitCount_0f7a4 : ByteArray := prog_12_method_49_code
def yJ6_bitCount_0f7a4 : MethodName := ⟨RJ6, "bitCount", "(I)I"⟩
def RJ9 : String := "java/lang/Math"
def TJ9 : u_T := fun k => match k with
  | _ => ("", "", "", false)
def tyJ9 : Nat → FieldType := fun k => match k with
  | _ => .int
abbrev wsJ90 : List Cond := u_ws RJ9 TJ9 0
theorem nmJ9 : ∀ a, a < 0 → ∀ b, b < 0 → a ≠ b → (TJ9 a).2.1 ≠ (TJ9 b).2.1 := by decide +kernel
theorem tyJ9_ok : ∀ k, k < 0 → parseFieldDescriptor (TJ9 k).2.2.1 = some (tyJ9 k) := by decide +kernel
abbrev cJ9_floorMod_7cf53 : ByteArray := prog_13_method_50_code
def yJ9_floorMod_7cf53 : MethodName := ⟨RJ9, "floorMod", "(II)I"⟩
def RJ0 : String := "java/lang/String"
def TJ0 : u_T := fun k => match k with
  | _ => ("", "", "", false)
def tyJ0 : Nat → FieldType := fun k => match k with
  | _ => .int
abbrev wsJ00 : List Cond := u_ws RJ0 TJ0 0
theorem nmJ0 : ∀ a, a < 0 → ∀ b, b < 0 → a ≠ b → (TJ0 a).2.1 ≠ (TJ0 b).2.1 := by decide +kernel
theorem tyJ0_ok : ∀ k, k < 0 → parseFieldDescriptor (TJ0 k).2.2.1 = some (tyJ0 k) := by decide +kernel
def RJ10 : String := "java/lang/System"
def TJ10 : u_T := fun k => match k with
  | _ => ("", "", "", false)
def tyJ10 : Nat → FieldType := fun k => match k with
  | _ => .int
abbrev wsJ100 : List Cond := u_ws RJ10 TJ10 0
theorem nmJ10 : ∀ a, a < 0 → ∀ b, b < 0 → a ≠ b → (TJ10 a).2.1 ≠ (TJ10 b).2.1 := by decide +kernel
theorem tyJ10_ok : ∀ k, k < 0 → parseFieldDescriptor (TJ10 k).2.2.1 = some (tyJ10 k) := by decide +kernel
def RL : String := "GossipCountsLaw"
abbrev cL_cell : ByteArray := method_2_code
def yL_cell : MethodName := ⟨RL, "cell", "([II)I"⟩
abbrev cL_low : ByteArray := method_3_code
def yL_low : MethodName := ⟨RL, "low", "(II)I"⟩
abbrev cL_put : ByteArray := method_4_code
def yL_put : MethodName := ⟨RL, "put", "(LGossipCounts;III)I"⟩
abbrev cL_take : ByteArray := method_5_code
def yL_take : MethodName := ⟨RL, "take", "(LGossipCounts;II)I"⟩
abbrev cL_lives : ByteArray := method_6_code
def yL_lives : MethodName := ⟨RL, "lives", "(I[I)Z"⟩
abbrev cL_truth : ByteArray := method_7_code
def yL_truth : MethodName := ⟨RL, "truth", "(I[I[I)I"⟩
abbrev cL_report : ByteArray := method_8_code
def yL_report : MethodName := ⟨RL, "report", "(II[I[I)V"⟩
abbrev cL_underWay : ByteArray := method_9_code
def yL_underWay : MethodName := ⟨RL, "underWay", "(I[I[I)I"⟩
abbrev cL_sum : ByteArray := method_10_code
def yL_sum : MethodName := ⟨RL, "sum", "(I[I[I)I"⟩
abbrev cL_end : ByteArray := method_11_code
def yL_end : MethodName := ⟨RL, "end", "(II[I[I[I[I)V"⟩
abbrev cL_hear : ByteArray := method_12_code
def yL_hear : MethodName := ⟨RL, "hear", "([I[I[I[I)V"⟩
abbrev cL_reach : ByteArray := method_13_code
def yL_reach : MethodName := ⟨RL, "reach", "(I[I[I)I"⟩
abbrev cL_trial : ByteArray := method_14_code
def yL_trial : MethodName := ⟨RL, "trial", "([I[I[I[I)V"⟩
abbrev cL_tick : ByteArray := method_15_code
def yL_tick : MethodName := ⟨RL, "tick", "([I[I[I[I)V"⟩
abbrev cL_held : ByteArray := method_16_code
def yL_held : MethodName := ⟨RL, "held", "([I[I)I"⟩
abbrev cL_bits : ByteArray := method_17_code
def yL_bits : MethodName := ⟨RL, "bits", "(I)I"⟩
abbrev cL_same : ByteArray := method_18_code
def yL_same : MethodName := ⟨RL, "same", "(LGossipCounts;[I[I[I[I)Z"⟩
abbrev cL_copy : ByteArray := method_19_code
def yL_copy : MethodName := ⟨RL, "copy", "([I[I)V"⟩
abbrev cL_would : ByteArray := method_20_code
def yL_would : MethodName := ⟨RL, "would", "(LGossipCounts;II[I[I[I[I[I[I[I[I)Z"⟩
abbrev cL_law : ByteArray := code
def yL_law : MethodName := ⟨RL, "law", "([I)Z"⟩
abbrev vwCl : List vw_C := [(RX0, TX0, 1), (RX1, TX1, 5), (RX2, TX2, 5), (RX3, TX3, 17), (RX4, TX4, 6)]
