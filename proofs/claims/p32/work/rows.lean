section
-- ===== PART A: goes FIRST, ahead of the names: the tables' words, and 'selects' of the private methods out of them =====
/-- a private method of a class that the tables say can be made, by its rows of tables_1 -/
def lw_okq (q : MethodName × Nat) : Prop := (q.1.cls ≠ "java/lang/invoke/MethodHandle" ∧ q.1.cls ≠ "java/lang/invoke/VarHandle") ∧ Cond.instantiable q.1.cls q.2 ∈ tables_1 ∧ Cond.privateMethod q.1 ∈ tables_1 ∧ Cond.instanceMethod q.1 ∈ tables_1
theorem lw_p0 : lw_okq (⟨"java/lang/Throwable", "fillInStackTrace", "(I)Ljava/lang/Throwable;"⟩, 6) := ⟨⟨by decide +kernel, by decide +kernel⟩, List.mem_of_getElem? (i := 207) (by decide +kernel), List.mem_of_getElem? (i := 205) (by decide +kernel), List.mem_of_getElem? (i := 206) (by decide +kernel)⟩
theorem lw_p1 : lw_okq (⟨"GossipCounts", "save", "()V"⟩, 6) := ⟨⟨by decide +kernel, by decide +kernel⟩, List.mem_of_getElem? (i := 16) (by decide +kernel), List.mem_of_getElem? (i := 253) (by decide +kernel), List.mem_of_getElem? (i := 254) (by decide +kernel)⟩
theorem lw_p2 : lw_okq (⟨"GossipCounts", "isThing", "(I)Z"⟩, 6) := ⟨⟨by decide +kernel, by decide +kernel⟩, List.mem_of_getElem? (i := 16) (by decide +kernel), List.mem_of_getElem? (i := 282) (by decide +kernel), List.mem_of_getElem? (i := 283) (by decide +kernel)⟩
theorem lw_p3 : lw_okq (⟨"GossipCounts$World", "hearDue", "()V"⟩, 17) := ⟨⟨by decide +kernel, by decide +kernel⟩, List.mem_of_getElem? (i := 24) (by decide +kernel), List.mem_of_getElem? (i := 339) (by decide +kernel), List.mem_of_getElem? (i := 340) (by decide +kernel)⟩
theorem lw_p4 : lw_okq (⟨"GossipCounts$World", "mustEnd", "(I)Z"⟩, 17) := ⟨⟨by decide +kernel, by decide +kernel⟩, List.mem_of_getElem? (i := 24) (by decide +kernel), List.mem_of_getElem? (i := 357) (by decide +kernel), List.mem_of_getElem? (i := 358) (by decide +kernel)⟩
theorem lw_p5 : lw_okq (⟨"GossipCounts$World", "endThing", "(III)V"⟩, 17) := ⟨⟨by decide +kernel, by decide +kernel⟩, List.mem_of_getElem? (i := 24) (by decide +kernel), List.mem_of_getElem? (i := 370) (by decide +kernel), List.mem_of_getElem? (i := 371) (by decide +kernel)⟩
theorem lw_p6 : lw_okq (⟨"GossipCounts$World", "dueTime", "(I)I"⟩, 17) := ⟨⟨by decide +kernel, by decide +kernel⟩, List.mem_of_getElem? (i := 24) (by decide +kernel), List.mem_of_getElem? (i := 385) (by decide +kernel), List.mem_of_getElem? (i := 386) (by decide +kernel)⟩
theorem lw_p7 : lw_okq (⟨"GossipCounts$World", "judge", "(I)V"⟩, 17) := ⟨⟨by decide +kernel, by decide +kernel⟩, List.mem_of_getElem? (i := 24) (by decide +kernel), List.mem_of_getElem? (i := 405) (by decide +kernel), List.mem_of_getElem? (i := 406) (by decide +kernel)⟩
theorem lw_p8 : lw_okq (⟨"GossipCounts$Holdings", "heldAmong", "(III)I"⟩, 1) := ⟨⟨by decide +kernel, by decide +kernel⟩, List.mem_of_getElem? (i := 30) (by decide +kernel), List.mem_of_getElem? (i := 414) (by decide +kernel), List.mem_of_getElem? (i := 415) (by decide +kernel)⟩
theorem lw_p9 : lw_okq (⟨"GossipCounts$World", "withRest", "(I)I"⟩, 17) := ⟨⟨by decide +kernel, by decide +kernel⟩, List.mem_of_getElem? (i := 24) (by decide +kernel), List.mem_of_getElem? (i := 426) (by decide +kernel), List.mem_of_getElem? (i := 427) (by decide +kernel)⟩
theorem lw_p10 : lw_okq (⟨"GossipCounts$World", "highestOf", "(I)I"⟩, 17) := ⟨⟨by decide +kernel, by decide +kernel⟩, List.mem_of_getElem? (i := 24) (by decide +kernel), List.mem_of_getElem? (i := 435) (by decide +kernel), List.mem_of_getElem? (i := 436) (by decide +kernel)⟩
theorem lw_p11 : lw_okq (⟨"GossipCounts", "isThingOrNone", "(I)Z"⟩, 6) := ⟨⟨by decide +kernel, by decide +kernel⟩, List.mem_of_getElem? (i := 16) (by decide +kernel), List.mem_of_getElem? (i := 465) (by decide +kernel), List.mem_of_getElem? (i := 466) (by decide +kernel)⟩
theorem lw_p12 : lw_okq (⟨"GossipCounts$Holdings", "reachedWithout", "(I)I"⟩, 1) := ⟨⟨by decide +kernel, by decide +kernel⟩, List.mem_of_getElem? (i := 30) (by decide +kernel), List.mem_of_getElem? (i := 546) (by decide +kernel), List.mem_of_getElem? (i := 547) (by decide +kernel)⟩
theorem lw_p13 : lw_okq (⟨"GossipCounts$World", "endsInTrials", "()I"⟩, 17) := ⟨⟨by decide +kernel, by decide +kernel⟩, List.mem_of_getElem? (i := 24) (by decide +kernel), List.mem_of_getElem? (i := 594) (by decide +kernel), List.mem_of_getElem? (i := 595) (by decide +kernel)⟩
theorem lw_p14 : lw_okq (⟨"GossipCounts$World", "wrongCounts", "()I"⟩, 17) := ⟨⟨by decide +kernel, by decide +kernel⟩, List.mem_of_getElem? (i := 24) (by decide +kernel), List.mem_of_getElem? (i := 602) (by decide +kernel), List.mem_of_getElem? (i := 603) (by decide +kernel)⟩
theorem lw_p15 : lw_okq (⟨"GossipCounts$World", "isWrong", "(I)Z"⟩, 17) := ⟨⟨by decide +kernel, by decide +kernel⟩, List.mem_of_getElem? (i := 24) (by decide +kernel), List.mem_of_getElem? (i := 606) (by decide +kernel), List.mem_of_getElem? (i := 607) (by decide +kernel)⟩
def lw_privs_1 : List (MethodName × Nat) := [(⟨"java/lang/Throwable", "fillInStackTrace", "(I)Ljava/lang/Throwable;"⟩, 6), (⟨"GossipCounts", "save", "()V"⟩, 6), (⟨"GossipCounts", "isThing", "(I)Z"⟩, 6), (⟨"GossipCounts$World", "hearDue", "()V"⟩, 17), (⟨"GossipCounts$World", "mustEnd", "(I)Z"⟩, 17), (⟨"GossipCounts$World", "endThing", "(III)V"⟩, 17), (⟨"GossipCounts$World", "dueTime", "(I)I"⟩, 17), (⟨"GossipCounts$World", "judge", "(I)V"⟩, 17), (⟨"GossipCounts$Holdings", "heldAmong", "(III)I"⟩, 1), (⟨"GossipCounts$World", "withRest", "(I)I"⟩, 17), (⟨"GossipCounts$World", "highestOf", "(I)I"⟩, 17), (⟨"GossipCounts", "isThingOrNone", "(I)Z"⟩, 6), (⟨"GossipCounts$Holdings", "reachedWithout", "(I)I"⟩, 1), (⟨"GossipCounts$World", "endsInTrials", "()I"⟩, 17), (⟨"GossipCounts$World", "wrongCounts", "()I"⟩, 17), (⟨"GossipCounts$World", "isWrong", "(I)Z"⟩, 17)]
theorem lw_r1 : ∀ q ∈ lw_privs_1, lw_okq q := List.forall_mem_cons.mpr ⟨lw_p0, List.forall_mem_cons.mpr ⟨lw_p1, List.forall_mem_cons.mpr ⟨lw_p2, List.forall_mem_cons.mpr ⟨lw_p3, List.forall_mem_cons.mpr ⟨lw_p4, List.forall_mem_cons.mpr ⟨lw_p5, List.forall_mem_cons.mpr ⟨lw_p6, List.forall_mem_cons.mpr ⟨lw_p7, List.forall_mem_cons.mpr ⟨lw_p8, List.forall_mem_cons.mpr ⟨lw_p9, List.forall_mem_cons.mpr ⟨lw_p10, List.forall_mem_cons.mpr ⟨lw_p11, List.forall_mem_cons.mpr ⟨lw_p12, List.forall_mem_cons.mpr ⟨lw_p13, List.forall_mem_cons.mpr ⟨lw_p14, List.forall_mem_cons.mpr ⟨lw_p15, fun _ h => absurd h List.not_mem_nil⟩⟩⟩⟩⟩⟩⟩⟩⟩⟩⟩⟩⟩⟩⟩⟩
theorem lw_p16 : lw_okq (⟨"GossipCounts", "foresee", "(I)V"⟩, 6) := ⟨⟨by decide +kernel, by decide +kernel⟩, List.mem_of_getElem? (i := 16) (by decide +kernel), List.mem_of_getElem? (i := 629) (by decide +kernel), List.mem_of_getElem? (i := 630) (by decide +kernel)⟩
theorem lw_p17 : lw_okq (⟨"GossipCounts", "passedPart", "(I)I"⟩, 6) := ⟨⟨by decide +kernel, by decide +kernel⟩, List.mem_of_getElem? (i := 16) (by decide +kernel), List.mem_of_getElem? (i := 633) (by decide +kernel), List.mem_of_getElem? (i := 634) (by decide +kernel)⟩
theorem lw_p18 : lw_okq (⟨"GossipCounts", "foreseenEnd", "(I)I"⟩, 6) := ⟨⟨by decide +kernel, by decide +kernel⟩, List.mem_of_getElem? (i := 16) (by decide +kernel), List.mem_of_getElem? (i := 642) (by decide +kernel), List.mem_of_getElem? (i := 643) (by decide +kernel)⟩
theorem lw_p19 : lw_okq (⟨"GossipCounts", "slandersToEnd", "(I)I"⟩, 6) := ⟨⟨by decide +kernel, by decide +kernel⟩, List.mem_of_getElem? (i := 16) (by decide +kernel), List.mem_of_getElem? (i := 650) (by decide +kernel), List.mem_of_getElem? (i := 651) (by decide +kernel)⟩
theorem lw_p20 : lw_okq (⟨"GossipCounts", "foreseeTrial", "()V"⟩, 6) := ⟨⟨by decide +kernel, by decide +kernel⟩, List.mem_of_getElem? (i := 16) (by decide +kernel), List.mem_of_getElem? (i := 663) (by decide +kernel), List.mem_of_getElem? (i := 664) (by decide +kernel)⟩
theorem lw_p21 : lw_okq (⟨"GossipCounts", "triedPart", "(I)I"⟩, 6) := ⟨⟨by decide +kernel, by decide +kernel⟩, List.mem_of_getElem? (i := 16) (by decide +kernel), List.mem_of_getElem? (i := 667) (by decide +kernel), List.mem_of_getElem? (i := 668) (by decide +kernel)⟩
def lw_privs_2 : List (MethodName × Nat) := [(⟨"GossipCounts", "foresee", "(I)V"⟩, 6), (⟨"GossipCounts", "passedPart", "(I)I"⟩, 6), (⟨"GossipCounts", "foreseenEnd", "(I)I"⟩, 6), (⟨"GossipCounts", "slandersToEnd", "(I)I"⟩, 6), (⟨"GossipCounts", "foreseeTrial", "()V"⟩, 6), (⟨"GossipCounts", "triedPart", "(I)I"⟩, 6)]
theorem lw_r2 : ∀ q ∈ lw_privs_2, lw_okq q := List.forall_mem_cons.mpr ⟨lw_p16, List.forall_mem_cons.mpr ⟨lw_p17, List.forall_mem_cons.mpr ⟨lw_p18, List.forall_mem_cons.mpr ⟨lw_p19, List.forall_mem_cons.mpr ⟨lw_p20, List.forall_mem_cons.mpr ⟨lw_p21, fun _ h => absurd h List.not_mem_nil⟩⟩⟩⟩⟩⟩
def lw_privs : List (MethodName × Nat) := lw_privs_1 ++ (lw_privs_2)
def lw_tbl : List Cond := k2_sels lw_privs ++ tables_1
theorem lw_privs_ok : ∀ q ∈ lw_privs, lw_okq q := by
  show ∀ q ∈ lw_privs_1 ++ (lw_privs_2), lw_okq q
  exact List.forall_mem_append.mpr ⟨lw_r1, lw_r2⟩
/-- the streams that the claim lets the run draw from -/
abbrev lw_cs : List Choice := [Jvm.Choice.named "NaN.bits"]
theorem lw_bits : nanBits ∈ lw_cs := by first | decide | exact List.mem_cons_self | simp [lw_cs, nanBits]
def RX0 : String := "GossipCounts$Holdings"
def TX0 : u_T := fun k => match k with
  | _ => ("GossipCounts$Holdings", "held", "[I", true)
def tyX0 : Nat → FieldType := fun k => match k with
  | _ => .array .int
abbrev wsX00 : List Cond := u_ws RX0 TX0 1
theorem nmX0 : ∀ a, a < 1 → ∀ b, b < 1 → a ≠ b → (TX0 a).2.1 ≠ (TX0 b).2.1 := by decide +kernel
theorem tyX0_ok : ∀ k, k < 1 → parseFieldDescriptor (TX0 k).2.2.1 = some (tyX0 k) := by decide +kernel
abbrev cX0_init : ByteArray := prog_2_method_1_code
def yX0_init : MethodName := ⟨RX0, "<init>", "()V"⟩
abbrev cX0_copyFrom : ByteArray := prog_2_method_2_code
def yX0_copyFrom : MethodName := ⟨RX0, "copyFrom", "(LGossipCounts$Holdings;)V"⟩
abbrev cX0_at : ByteArray := prog_2_method_3_code
def yX0_at : MethodName := ⟨RX0, "at", "(I)I"⟩
abbrev cX0_hold : ByteArray := prog_2_method_4_code
def yX0_hold : MethodName := ⟨RX0, "hold", "(II)V"⟩
abbrev cX0_taken : ByteArray := prog_2_method_5_code
def yX0_taken : MethodName := ⟨RX0, "taken", "()I"⟩
abbrev cX0_truthOf : ByteArray := prog_2_method_6_code
def yX0_truthOf : MethodName := ⟨RX0, "truthOf", "(I)I"⟩
abbrev cX0_slotsThatHold : ByteArray := prog_2_method_7_code
def yX0_slotsThatHold : MethodName := ⟨RX0, "slotsThatHold", "(II)I"⟩
abbrev cX0_letGo : ByteArray := prog_2_method_8_code
def yX0_letGo : MethodName := ⟨RX0, "letGo", "(II)Z"⟩
abbrev cX0_reached : ByteArray := prog_2_method_9_code
def yX0_reached : MethodName := ⟨RX0, "reached", "()I"⟩
abbrev cX0_reachOf : ByteArray := prog_2_method_10_code
def yX0_reachOf : MethodName := ⟨RX0, "reachOf", "(I)I"⟩
abbrev cX0_ringOf : ByteArray := prog_2_method_11_code
def yX0_ringOf : MethodName := ⟨RX0, "ringOf", "(I)I"⟩
abbrev cX0_cutWithMostLost : ByteArray := prog_2_method_12_code
def yX0_cutWithMostLost : MethodName := ⟨RX0, "cutWithMostLost", "()I"⟩
abbrev cX0_lostWithout : ByteArray := prog_2_method_13_code
def yX0_lostWithout : MethodName := ⟨RX0, "lostWithout", "(I)I"⟩
abbrev cX0_reachedFrom : ByteArray := prog_2_method_14_code
def yX0_reachedFrom : MethodName := ⟨RX0, "reachedFrom", "(II)I"⟩
abbrev cX0_reachedWithout : ByteArray := prog_2_method_15_code
def yX0_reachedWithout : MethodName := ⟨RX0, "reachedWithout", "(I)I"⟩
abbrev cX0_heldAmong : ByteArray := prog_2_method_16_code
def yX0_heldAmong : MethodName := ⟨RX0, "heldAmong", "(III)I"⟩
def RX1 : String := "GossipCounts$Reports"
def TX1 : u_T := fun k => match k with
  | 0 => ("GossipCounts$Reports", "heard", "I", false)
  | 1 => ("GossipCounts$Reports", "made", "I", false)
  | 2 => ("GossipCounts$Reports", "rows", "[I", true)
  | 3 => ("GossipCounts$Reports", "numbers", "[I", true)
  | _ => ("GossipCounts$Reports", "sums", "[I", true)
def tyX1 : Nat → FieldType := fun k => match k with
  | 0 => .int
  | 1 => .int
  | 2 => .array .int
  | 3 => .array .int
  | _ => .array .int
abbrev wsX10 : List Cond := u_ws RX1 TX1 5
theorem nmX1 : ∀ a, a < 5 → ∀ b, b < 5 → a ≠ b → (TX1 a).2.1 ≠ (TX1 b).2.1 := by decide +kernel
theorem tyX1_ok : ∀ k, k < 5 → parseFieldDescriptor (TX1 k).2.2.1 = some (tyX1 k) := by decide +kernel
abbrev cX1_init : ByteArray := prog_3_method_1_code
def yX1_init : MethodName := ⟨RX1, "<init>", "()V"⟩
abbrev cX1_copyFrom : ByteArray := prog_3_method_2_code
def yX1_copyFrom : MethodName := ⟨RX1, "copyFrom", "(LGossipCounts$Reports;)V"⟩
abbrev cX1_underWay : ByteArray := prog_3_method_3_code
def yX1_underWay : MethodName := ⟨RX1, "underWay", "()I"⟩
abbrev cX1_part : ByteArray := prog_3_method_4_code
def yX1_part : MethodName := ⟨RX1, "part", "(II)I"⟩
abbrev cX1_anyDue : ByteArray := prog_3_method_5_code
def yX1_anyDue : MethodName := ⟨RX1, "anyDue", "(I)Z"⟩
abbrev cX1_anyFor : ByteArray := prog_3_method_6_code
def yX1_anyFor : MethodName := ⟨RX1, "anyFor", "(I)Z"⟩
abbrev cX1_numberFor : ByteArray := prog_3_method_7_code
def yX1_numberFor : MethodName := ⟨RX1, "numberFor", "(I)I"⟩
abbrev cX1_sumFor : ByteArray := prog_3_method_8_code
def yX1_sumFor : MethodName := ⟨RX1, "sumFor", "(I)I"⟩
abbrev cX1_make : ByteArray := prog_3_method_9_code
def yX1_make : MethodName := ⟨RX1, "make", "(IIII)I"⟩
abbrev cX1_dropFirst : ByteArray := prog_3_method_10_code
def yX1_dropFirst : MethodName := ⟨RX1, "dropFirst", "()V"⟩
def RX2 : String := "GossipCounts$Text"
def TX2 : u_T := fun k => match k with
  | 0 => ("GossipCounts$Text", "length", "I", false)
  | 1 => ("GossipCounts$Text", "codes", "[I", true)
  | 2 => ("GossipCounts$Text", "letter", "I", false)
  | 3 => ("GossipCounts$Text", "numbers", "[I", true)
  | _ => ("GossipCounts$Text", "at", "I", false)
def tyX2 : Nat → FieldType := fun k => match k with
  | 0 => .int
  | 1 => .array .int
  | 2 => .int
  | 3 => .array .int
  | _ => .int
abbrev wsX20 : List Cond := u_ws RX2 TX2 5
theorem nmX2 : ∀ a, a < 5 → ∀ b, b < 5 → a ≠ b → (TX2 a).2.1 ≠ (TX2 b).2.1 := by decide +kernel
theorem tyX2_ok : ∀ k, k < 5 → parseFieldDescriptor (TX2 k).2.2.1 = some (tyX2 k) := by decide +kernel
abbrev cX2_init : ByteArray := prog_4_method_1_code
def yX2_init : MethodName := ⟨RX2, "<init>", "()V"⟩
def RX3 : String := "GossipCounts$World"
def TX3 : u_T := fun k => match k with
  | 0 => ("GossipCounts$World", "time", "I", false)
  | 1 => ("GossipCounts$World", "things", "I", false)
  | 2 => ("GossipCounts$World", "living", "I", false)
  | 3 => ("GossipCounts$World", "suspects", "I", false)
  | 4 => ("GossipCounts$World", "wronged", "I", false)
  | 5 => ("GossipCounts$World", "ends", "I", false)
  | 6 => ("GossipCounts$World", "slanderFound", "I", false)
  | 7 => ("GossipCounts$World", "settings", "[I", true)
  | 8 => ("GossipCounts$World", "ranks", "[I", true)
  | 9 => ("GossipCounts$World", "counts", "[I", true)
  | 10 => ("GossipCounts$World", "came", "[I", true)
  | 11 => ("GossipCounts$World", "endNumbers", "[I", true)
  | 12 => ("GossipCounts$World", "endTimes", "[I", true)
  | 13 => ("GossipCounts$World", "endKinds", "[I", true)
  | 14 => ("GossipCounts$World", "endOrder", "[I", true)
  | 15 => ("GossipCounts$World", "holdings", "LGossipCounts$Holdings;", true)
  | _ => ("GossipCounts$World", "reports", "LGossipCounts$Reports;", true)
def tyX3 : Nat → FieldType := fun k => match k with
  | 0 => .int
  | 1 => .int
  | 2 => .int
  | 3 => .int
  | 4 => .int
  | 5 => .int
  | 6 => .int
  | 7 => .array .int
  | 8 => .array .int
  | 9 => .array .int
  | 10 => .array .int
  | 11 => .array .int
  | 12 => .array .int
  | 13 => .array .int
  | 14 => .array .int
  | 15 => .object "GossipCounts$Holdings"
  | _ => .object "GossipCounts$Reports"
abbrev wsX30 : List Cond := u_ws RX3 TX3 17
theorem nmX3 : ∀ a, a < 17 → ∀ b, b < 17 → a ≠ b → (TX3 a).2.1 ≠ (TX3 b).2.1 := by decide +kernel
theorem tyX3_ok : ∀ k, k < 17 → parseFieldDescriptor (TX3 k).2.2.1 = some (tyX3 k) := by decide +kernel
abbrev cX3_init : ByteArray := prog_5_method_1_code
def yX3_init : MethodName := ⟨RX3, "<init>", "()V"⟩
abbrev cX3_copyFrom : ByteArray := prog_5_method_2_code
def yX3_copyFrom : MethodName := ⟨RX3, "copyFrom", "(LGossipCounts$World;)V"⟩
abbrev cX3_lives : ByteArray := prog_5_method_3_code
def yX3_lives : MethodName := ⟨RX3, "lives", "(I)Z"⟩
abbrev cX3_mayBeHeld : ByteArray := prog_5_method_4_code
def yX3_mayBeHeld : MethodName := ⟨RX3, "mayBeHeld", "(I)Z"⟩
abbrev cX3_bring : ByteArray := prog_5_method_5_code
def yX3_bring : MethodName := ⟨RX3, "bring", "(I)I"⟩
abbrev cX3_change : ByteArray := prog_5_method_6_code
def yX3_change : MethodName := ⟨RX3, "change", "(II)I"⟩
abbrev cX3_lie : ByteArray := prog_5_method_7_code
def yX3_lie : MethodName := ⟨RX3, "lie", "(II)I"⟩
abbrev cX3_passTicks : ByteArray := prog_5_method_9_code
def yX3_passTicks : MethodName := ⟨RX3, "passTicks", "(I)I"⟩
abbrev cX3_holdTrial : ByteArray := prog_5_method_10_code
def yX3_holdTrial : MethodName := ⟨RX3, "holdTrial", "()I"⟩
abbrev cX3_judge : ByteArray := prog_5_method_11_code
def yX3_judge : MethodName := ⟨RX3, "judge", "(I)V"⟩
abbrev cX3_withRest : ByteArray := prog_5_method_12_code
def yX3_withRest : MethodName := ⟨RX3, "withRest", "(I)I"⟩
abbrev cX3_highestOf : ByteArray := prog_5_method_13_code
def yX3_highestOf : MethodName := ⟨RX3, "highestOf", "(I)I"⟩
abbrev cX3_hearDue : ByteArray := prog_5_method_14_code
def yX3_hearDue : MethodName := ⟨RX3, "hearDue", "()V"⟩
abbrev cX3_mustEnd : ByteArray := prog_5_method_15_code
def yX3_mustEnd : MethodName := ⟨RX3, "mustEnd", "(I)Z"⟩
abbrev cX3_endThing : ByteArray := prog_5_method_16_code
def yX3_endThing : MethodName := ⟨RX3, "endThing", "(III)V"⟩
abbrev cX3_dueTime : ByteArray := prog_5_method_17_code
def yX3_dueTime : MethodName := ⟨RX3, "dueTime", "(I)I"⟩
abbrev cX3_isWrong : ByteArray := prog_5_method_18_code
def yX3_isWrong : MethodName := ⟨RX3, "isWrong", "(I)Z"⟩
abbrev cX3_property : ByteArray := prog_5_method_19_code
def yX3_property : MethodName := ⟨RX3, "property", "(II)I"⟩
abbrev cX3_total : ByteArray := prog_5_method_20_code
def yX3_total : MethodName := ⟨RX3, "total", "(I)I"⟩
abbrev cX3_endsInTrials : ByteArray := prog_5_method_21_code
def yX3_endsInTrials : MethodName := ⟨RX3, "endsInTrials", "()I"⟩
abbrev cX3_wrongCounts : ByteArray := prog_5_method_22_code
def yX3_wrongCounts : MethodName := ⟨RX3, "wrongCounts", "()I"⟩
def RX4 : String := "GossipCounts"
def TX4 : u_T := fun k => match k with
  | 0 => ("GossipCounts", "now", "LGossipCounts$World;", true)
  | 1 => ("GossipCounts", "ahead", "LGossipCounts$World;", true)
  | 2 => ("GossipCounts", "slandered", "LGossipCounts$World;", true)
  | 3 => ("GossipCounts", "saved", "[LGossipCounts$World;", true)
  | 4 => ("GossipCounts", "savedStates", "I", false)
  | _ => ("GossipCounts", "text", "LGossipCounts$Text;", true)
def tyX4 : Nat → FieldType := fun k => match k with
  | 0 => .object "GossipCounts$World"
  | 1 => .object "GossipCounts$World"
  | 2 => .object "GossipCounts$World"
  | 3 => .array (.object "GossipCounts$World")
  | 4 => .int
  | _ => .object "GossipCounts$Text"
abbrev wsX40 : List Cond := u_ws RX4 TX4 6
theorem nmX4 : ∀ a, a < 6 → ∀ b, b < 6 → a ≠ b → (TX4 a).2.1 ≠ (TX4 b).2.1 := by decide +kernel
theorem tyX4_ok : ∀ k, k < 6 → parseFieldDescriptor (TX4 k).2.2.1 = some (tyX4 k) := by decide +kernel
abbrev cX4_init : ByteArray := prog_1_method_1_code
def yX4_init : MethodName := ⟨RX4, "<init>", "()V"⟩
abbrev cX4_add : ByteArray := prog_1_method_2_code
def yX4_add : MethodName := ⟨RX4, "add", "(I)I"⟩
abbrev cX4_take : ByteArray := prog_1_method_3_code
def yX4_take : MethodName := ⟨RX4, "take", "(II)I"⟩
abbrev cX4_put : ByteArray := prog_1_method_4_code
def yX4_put : MethodName := ⟨RX4, "put", "(III)I"⟩
abbrev cX4_suspect : ByteArray := prog_1_method_6_code
def yX4_suspect : MethodName := ⟨RX4, "suspect", "(I)I"⟩
abbrev cX4_set : ByteArray := prog_1_method_7_code
def yX4_set : MethodName := ⟨RX4, "set", "(II)I"⟩
abbrev cX4_pass : ByteArray := prog_1_method_8_code
def yX4_pass : MethodName := ⟨RX4, "pass", "(I)I"⟩
abbrev cX4_trial : ByteArray := prog_1_method_9_code
def yX4_trial : MethodName := ⟨RX4, "trial", "()I"⟩
abbrev cX4_thing : ByteArray := prog_1_method_16_code
def yX4_thing : MethodName := ⟨RX4, "thing", "(II)I"⟩
abbrev cX4_slot : ByteArray := prog_1_method_17_code
def yX4_slot : MethodName := ⟨RX4, "slot", "(II)I"⟩
abbrev cX4_hand : ByteArray := prog_1_method_18_code
def yX4_hand : MethodName := ⟨RX4, "hand", "(I)I"⟩
abbrev cX4_report : ByteArray := prog_1_method_19_code
def yX4_report : MethodName := ⟨RX4, "report", "(II)I"⟩
abbrev cX4_count : ByteArray := prog_1_method_21_code
def yX4_count : MethodName := ⟨RX4, "count", "(I)I"⟩
abbrev cX4_ifPassed : ByteArray := prog_1_method_23_code
def yX4_ifPassed : MethodName := ⟨RX4, "ifPassed", "(II)I"⟩
abbrev cX4_endsIn : ByteArray := prog_1_method_24_code
def yX4_endsIn : MethodName := ⟨RX4, "endsIn", "(I)I"⟩
abbrev cX4_ifTried : ByteArray := prog_1_method_25_code
def yX4_ifTried : MethodName := ⟨RX4, "ifTried", "(I)I"⟩
abbrev cX4_ring : ByteArray := prog_1_method_26_code
def yX4_ring : MethodName := ⟨RX4, "ring", "(I)I"⟩
abbrev cX4_bestCut : ByteArray := prog_1_method_27_code
def yX4_bestCut : MethodName := ⟨RX4, "bestCut", "(I)I"⟩
abbrev cX4_bears : ByteArray := prog_1_method_28_code
def yX4_bears : MethodName := ⟨RX4, "bears", "(I)I"⟩
abbrev cX4_reachedShare : ByteArray := prog_1_method_29_code
def yX4_reachedShare : MethodName := ⟨RX4, "reachedShare", "()D"⟩
abbrev cX4_foresee : ByteArray := prog_1_method_38_code
def yX4_foresee : MethodName := ⟨RX4, "foresee", "(I)V"⟩
abbrev cX4_passedPart : ByteArray := prog_1_method_39_code
def yX4_passedPart : MethodName := ⟨RX4, "passedPart", "(I)I"⟩
abbrev cX4_foreseenEnd : ByteArray := prog_1_method_40_code
def yX4_foreseenEnd : MethodName := ⟨RX4, "foreseenEnd", "(I)I"⟩
abbrev cX4_foreseeTrial : ByteArray := prog_1_method_41_code
def yX4_foreseeTrial : MethodName := ⟨RX4, "foreseeTrial", "()V"⟩
abbrev cX4_triedPart : ByteArray := prog_1_method_42_code
def yX4_triedPart : MethodName := ⟨RX4, "triedPart", "(I)I"⟩
abbrev cX4_slandersToEnd : ByteArray := prog_1_method_43_code
def yX4_slandersToEnd : MethodName := ⟨RX4, "slandersToEnd", "(I)I"⟩
abbrev cX4_save : ByteArray := prog_1_method_45_code
def yX4_save : MethodName := ⟨RX4, "save", "()V"⟩
abbrev cX4_isThing : ByteArray := prog_1_method_46_code
def yX4_isThing : MethodName := ⟨RX4, "isThing", "(I)Z"⟩
abbrev cX4_isThingOrNone : ByteArray := prog_1_method_47_code
def yX4_isThingOrNone : MethodName := ⟨RX4, "isThingOrNone", "(I)Z"⟩
abbrev cX4_isHand : ByteArray := prog_1_method_48_code
def yX4_isHand : MethodName := ⟨RX4, "isHand", "(I)Z"⟩
abbrev cX4_isSlot : ByteArray := prog_1_method_49_code
def yX4_isSlot : MethodName := ⟨RX4, "isSlot", "(I)Z"⟩
abbrev cX4_isSetting : ByteArray := prog_1_method_50_code
def yX4_isSetting : MethodName := ⟨RX4, "isSetting", "(I)Z"⟩
abbrev cX4_mostOf : ByteArray := prog_1_method_51_code
def yX4_mostOf : MethodName := ⟨RX4, "mostOf", "(I)I"⟩
abbrev cX4_placeOf : ByteArray := prog_1_method_52_code
def yX4_placeOf : MethodName := ⟨RX4, "placeOf", "(II)I"⟩
abbrev cX4_isIn : ByteArray := prog_1_method_53_code
def yX4_isIn : MethodName := ⟨RX4, "isIn", "(II)Z"⟩
def RX5 : String := "GossipCountsModel"
def TX5 : u_T := fun k => match k with
  | _ => ("", "", "", false)
def tyX5 : Nat → FieldType := fun k => match k with
  | _ => .int
abbrev wsX50 : List Cond := u_ws RX5 TX5 0
theorem nmX5 : ∀ a, a < 0 → ∀ b, b < 0 → a ≠ b → (TX5 a).2.1 ≠ (TX5 b).2.1 := by decide +kernel
theorem tyX5_ok : ∀ k, k < 0 → parseFieldDescriptor (TX5 k).2.2.1 = some (tyX5 k) := by decide +kernel
def RJ6 : String := "java/lang/Integer"
def TJ6 : u_T := fun k => match k with
  | _ => ("", "", "", false)
def tyJ6 : Nat → FieldType := fun k => match k with
  | _ => .int
abbrev wsJ60 : List Cond := u_ws RJ6 TJ6 0
theorem nmJ6 : ∀ a, a < 0 → ∀ b, b < 0 → a ≠ b → (TJ6 a).2.1 ≠ (TJ6 b).2.1 := by decide +kernel
theorem tyJ6_ok : ∀ k, k < 0 → parseFieldDescriptor (TJ6 k).2.2.1 = some (tyJ6 k) := by decide +kernel
abbrev cJ6_numberOfTrailingZeros_0f7a4 : ByteArray := prog_12_method_48_code
def yJ6_numberOfTrailingZeros_0f7a4 : MethodName := ⟨RJ6, "numberOfTrailingZeros", "(I)I"⟩
abbrev cJ6_bitCount_0f7a4 : ByteArray := prog_12_method_49_code
def yJ6_bitCount_0f7a4 : MethodName := ⟨RJ6, "bitCount", "(I)I"⟩
def RJ9 : String := "java/lang/Math"
def TJ9 : u_T := fun k => match k with
  | _ => ("", "", "", false)
def tyJ9 : Nat → FieldType := fun k => match k with
  | _ => .int
abbrev wsJ90 : List Cond := u_ws RJ9 TJ9 0
theorem nmJ9 : ∀ a, a < 0 → ∀ b, b < 0 → a ≠ b → (TJ9 a).2.1 ≠ (TJ9 b).2.1 := by decide +kernel
theorem tyJ9_ok : ∀ k, k < 0 → parseFieldDescriptor (TJ9 k).2.2.1 = some (tyJ9 k) := by decide +kernel
abbrev cJ9_floorMod_7cf53 : ByteArray := prog_13_method_50_code
def yJ9_floorMod_7cf53 : MethodName := ⟨RJ9, "floorMod", "(II)I"⟩
def RJ0 : String := "java/lang/String"
def TJ0 : u_T := fun k => match k with
  | _ => ("", "", "", false)
def tyJ0 : Nat → FieldType := fun k => match k with
  | _ => .int
abbrev wsJ00 : List Cond := u_ws RJ0 TJ0 0
theorem nmJ0 : ∀ a, a < 0 → ∀ b, b < 0 → a ≠ b → (TJ0 a).2.1 ≠ (TJ0 b).2.1 := by decide +kernel
theorem tyJ0_ok : ∀ k, k < 0 → parseFieldDescriptor (TJ0 k).2.2.1 = some (tyJ0 k) := by decide +kernel
def RJ10 : String := "java/lang/System"
def TJ10 : u_T := fun k => match k with
  | _ => ("", "", "", false)
def tyJ10 : Nat → FieldType := fun k => match k with
  | _ => .int
abbrev wsJ100 : List Cond := u_ws RJ10 TJ10 0
theorem nmJ10 : ∀ a, a < 0 → ∀ b, b < 0 → a ≠ b → (TJ10 a).2.1 ≠ (TJ10 b).2.1 := by decide +kernel
theorem tyJ10_ok : ∀ k, k < 0 → parseFieldDescriptor (TJ10 k).2.2.1 = some (tyJ10 k) := by decide +kernel
def RL : String := "GossipCountsLaw"
abbrev cL_cell : ByteArray := method_2_code
def yL_cell : MethodName := ⟨RL, "cell", "([II)I"⟩
abbrev cL_low : ByteArray := method_3_code
def yL_low : MethodName := ⟨RL, "low", "(II)I"⟩
abbrev cL_put : ByteArray := method_4_code
def yL_put : MethodName := ⟨RL, "put", "(LGossipCounts;III)I"⟩
abbrev cL_take : ByteArray := method_5_code
def yL_take : MethodName := ⟨RL, "take", "(LGossipCounts;II)I"⟩
abbrev cL_lives : ByteArray := method_6_code
def yL_lives : MethodName := ⟨RL, "lives", "(I[I)Z"⟩
abbrev cL_truth : ByteArray := method_7_code
def yL_truth : MethodName := ⟨RL, "truth", "(I[I[I)I"⟩
abbrev cL_report : ByteArray := method_8_code
def yL_report : MethodName := ⟨RL, "report", "(II[I[I)V"⟩
abbrev cL_underWay : ByteArray := method_9_code
def yL_underWay : MethodName := ⟨RL, "underWay", "(I[I[I)I"⟩
abbrev cL_sum : ByteArray := method_10_code
def yL_sum : MethodName := ⟨RL, "sum", "(I[I[I)I"⟩
abbrev cL_end : ByteArray := method_11_code
def yL_end : MethodName := ⟨RL, "end", "(II[I[I[I[I)V"⟩
abbrev cL_hear : ByteArray := method_12_code
def yL_hear : MethodName := ⟨RL, "hear", "([I[I[I[I)V"⟩
abbrev cL_reach : ByteArray := method_13_code
def yL_reach : MethodName := ⟨RL, "reach", "(I[I[I)I"⟩
abbrev cL_trial : ByteArray := method_14_code
def yL_trial : MethodName := ⟨RL, "trial", "([I[I[I[I)V"⟩
abbrev cL_tick : ByteArray := method_15_code
def yL_tick : MethodName := ⟨RL, "tick", "([I[I[I[I)V"⟩
abbrev cL_held : ByteArray := method_16_code
def yL_held : MethodName := ⟨RL, "held", "([I[I)I"⟩
abbrev cL_bits : ByteArray := method_17_code
def yL_bits : MethodName := ⟨RL, "bits", "(I)I"⟩
abbrev cL_same : ByteArray := method_18_code
def yL_same : MethodName := ⟨RL, "same", "(LGossipCounts;[I[I[I[I)Z"⟩
abbrev cL_copy : ByteArray := method_19_code
def yL_copy : MethodName := ⟨RL, "copy", "([I[I)V"⟩
abbrev cL_would : ByteArray := method_20_code
def yL_would : MethodName := ⟨RL, "would", "(LGossipCounts;II[I[I[I[I[I[I[I[I)Z"⟩
abbrev cL_law : ByteArray := code
def yL_law : MethodName := ⟨RL, "law", "([I)Z"⟩
abbrev vwCl : List vw_C := [(RX0, TX0, 1), (RX1, TX1, 5), (RX2, TX2, 5), (RX3, TX3, 17), (RX4, TX4, 6)]
end
section
/-! ===== an abstract run of a method's body: locals, stack and cells as lists, references by places; one theorem carries it to the machine ===== -/
abbrev ev_E : Type := (Nat × vp_A) ⊕ (Nat × List Value)
abbrev ev_I : Type := Instr × Nat × Nat × Nat × Nat × Value
abbrev ev_L : Type := List (Option Value)
abbrev ev_T : Type := List (Nat × ev_I)
def ev_cv (ad : Nat → Nat) (v : Value) : Value := match v with
  | .ref a => .ref (ad a)
  | .int x => .int x
  | .long x => .long x
  | .float x => .float x
  | .double x => .double x
  | .null => .null
  | .retAddr x => .retAddr x
def ev_ca (ad : Nat → Nat) (a : vp_A) : vp_A := (a.1, match a.2 with
  | .inr (.inr (.inr (.inr f))) => .inr (.inr (.inr (.inr (fun i => (f i).map ad))))
  | .inr (.inr (.inr (.inl f))) => .inr (.inr (.inr (.inl f)))
  | .inr (.inr (.inl f)) => .inr (.inr (.inl f))
  | .inr (.inl f) => .inr (.inl f)
  | .inl f => .inl f)
def ev_ce (ad : Nat → Nat) (ct : Nat → ClassId) (E : ev_E) : va_E := match E with
  | .inl a => .inl (ct a.1, ev_ca ad a.2)
  | .inr o => .inr (o.1, o.2.map (ev_cv ad))
def ev_lay (ad : Nat → Nat) (ct : Nat → ClassId) (w : List ev_E) : va_W := w.mapIdx (fun k E => (ad k, ev_ce ad ct E))
def ev_tys (ct : Nat → ClassId) : List (ClassId × FieldType) := [(ct 0, .int), (ct 0, .int), (ct 2, .object "GossipCounts$World")]
theorem ev_lay_get {ad : Nat → Nat} {ct : Nat → ClassId} {w : List ev_E} {k : Nat} {E : ev_E} (h : w[k]? = some E) : (ev_lay ad ct w)[k]? = some (ad k, ev_ce ad ct E) := by
  unfold ev_lay
  rw [List.getElem?_mapIdx, h]
  rfl
theorem ev_lay_inv {ad : Nat → Nat} {ct : Nat → ClassId} {w : List ev_E} {k : Nat} {q : Nat × va_E} (h : (ev_lay ad ct w)[k]? = some q) : ∃ E, w[k]? = some E ∧ q = (ad k, ev_ce ad ct E) := by
  unfold ev_lay at h
  rw [List.getElem?_mapIdx] at h
  cases hw : w[k]? with
  | none => rw [hw] at h; cases h
  | some E => rw [hw] at h; exact ⟨E, rfl, (Option.some.inj h).symm⟩
theorem ev_lay_len {ad : Nat → Nat} {ct : Nat → ClassId} {w : List ev_E} : (ev_lay ad ct w).length = w.length := by
  unfold ev_lay
  simp
theorem ev_lay_set {ad : Nat → Nat} {ct : Nat → ClassId} {w : List ev_E} {k : Nat} {E : ev_E} : (ev_lay ad ct w).set k (ad k, ev_ce ad ct E) = ev_lay ad ct (w.set k E) := by
  apply List.ext_getElem?
  intro j
  unfold ev_lay
  rw [List.getElem?_set, List.getElem?_mapIdx, List.getElem?_mapIdx, List.getElem?_set]
  by_cases h : k = j
  · subst h
    simp only [if_true, List.length_mapIdx]
    by_cases h2 : k < w.length <;> simp [h2]
  · simp [h]
-- the words
def ev_okw (w : Jvm.Cond) : Bool := goodWord w || match w with
  | .fieldLinkNest _ _ _ _ _ _ => true
  | .methodLinkNest _ _ _ _ => true
  | _ => false
def ev_WA : List Jvm.Cond := lw_tbl.filter ev_okw
def ev_has (k : Nat) (w : Jvm.Cond) : Bool := decide (lw_tbl[k]? = some w) && ev_okw w
theorem ev_okw_warm {w : Jvm.Cond} (h : ev_okw w = true) {args a' : Array Value} {s U : State} (hW : s.WarmedH U.vm) (hb : w.before args s = true) : w.before a' U = true := by
  unfold ev_okw at h
  rw [Bool.or_eq_true] at h
  rcases h with h | h
  · exact word_at hW (good_of_word h) hb
  · split at h
    · exact va_Nw.use rfl (va_Nw.warmF hW (va_Nw.of rfl hb))
    · exact va_Nw.use rfl (va_Nw.warmM hW (va_Nw.of rfl hb))
    · cases h
theorem ev_has_in {k : Nat} {w : Jvm.Cond} (h : ev_has k w = true) : w ∈ ev_WA := by
  unfold ev_has at h
  rw [Bool.and_eq_true] at h
  exact List.mem_filter.mpr ⟨List.mem_of_getElem? (of_decide_eq_true h.1), h.2⟩
-- the classes
def ev_ty (ci : Nat) : Nat → FieldType := match ci with
  | 0 => tyX0
  | 1 => tyX1
  | 2 => tyX2
  | 3 => tyX3
  | _ => tyX4
def ev_F (ci : Nat) : u_T := match ci with
  | 0 => TX0
  | 1 => TX1
  | 2 => TX2
  | 3 => TX3
  | _ => TX4
def ev_R (ci : Nat) : String := match ci with
  | 0 => RX0
  | 1 => RX1
  | 2 => RX2
  | 3 => RX3
  | _ => RX4
def ev_N (ci : Nat) : Nat := match ci with
  | 0 => 1
  | 1 => 5
  | 2 => 5
  | 3 => 17
  | _ => 6
theorem ev_cl {ci : Nat} (h : ci < 5) : vwCl[ci]? = some (ev_R ci, ev_F ci, ev_N ci) := by
  match ci, h with
  | 0, _ => rfl
  | 1, _ => rfl
  | 2, _ => rfl
  | 3, _ => rfl
  | 4, _ => rfl
theorem ev_tyok {ci : Nat} (h : ci < 5) : ∀ k, k < ev_N ci → parseFieldDescriptor (ev_F ci k).2.2.1 = some (ev_ty ci k) := by
  match ci, h with
  | 0, _ => exact tyX0_ok
  | 1, _ => exact tyX1_ok
  | 2, _ => exact tyX2_ok
  | 3, _ => exact tyX3_ok
  | 4, _ => exact tyX4_ok
theorem ev_nm {ci : Nat} (h : ci < 5) : ∀ a, a < ev_N ci → ∀ b, b < ev_N ci → a ≠ b → (ev_F ci a).2.1 ≠ (ev_F ci b).2.1 := by
  match ci, h with
  | 0, _ => exact nmX0
  | 1, _ => exact nmX1
  | 2, _ => exact nmX2
  | 3, _ => exact nmX3
  | 4, _ => exact nmX4
set_option maxRecDepth 20000 in
theorem ev_win : ((List.range 5).all fun ci => (u_ws (ev_R ci) (ev_F ci) (ev_N ci)).all fun w => decide (w ∈ lw_tbl) && ev_okw w) = true := by decide +kernel
theorem ev_wsin {ci : Nat} (h : ci < 5) : ∀ w ∈ u_ws (ev_R ci) (ev_F ci) (ev_N ci), w ∈ ev_WA := by
  intro w hw
  have h1 := List.all_eq_true.mp (List.all_eq_true.mp ev_win ci (List.mem_range.mpr h)) w hw
  rw [Bool.and_eq_true] at h1
  exact List.mem_filter.mpr ⟨of_decide_eq_true h1.1, h1.2⟩
/-- the link of a field, by its word's place -/
def ev_fl (own : String) (idx k ci f : Nat) : Bool :=
  decide (ci < 5) && decide (f < ev_N ci) && (ev_has k (.fieldLink own idx (ev_F ci f).1 (ev_F ci f).2.1 (ev_F ci f).2.2.1) ||
    match lw_tbl[k]? with
    | some (.fieldLinkNest _ _ _ _ _ h) => ev_has k (.fieldLinkNest own idx (ev_F ci f).1 (ev_F ci f).2.1 (ev_F ci f).2.2.1 h)
    | _ => false)
theorem ev_fl_use {own : String} {idx k ci f : Nat} (h : ev_fl own idx k ci f = true) : ci < 5 ∧ f < ev_N ci ∧ (Jvm.Cond.fieldLink own idx (ev_F ci f).1 (ev_F ci f).2.1 (ev_F ci f).2.2.1 ∈ ev_WA ∨ ∃ host, Jvm.Cond.fieldLinkNest own idx (ev_F ci f).1 (ev_F ci f).2.1 (ev_F ci f).2.2.1 host ∈ ev_WA) := by
  unfold ev_fl at h
  rw [Bool.and_eq_true, Bool.and_eq_true, Bool.or_eq_true] at h
  obtain ⟨⟨h1, h2⟩, h3⟩ := h
  refine ⟨of_decide_eq_true h1, of_decide_eq_true h2, ?_⟩
  rcases h3 with h3 | h3
  · exact Or.inl (ev_has_in h3)
  · split at h3
    · exact Or.inr ⟨_, ev_has_in h3⟩
    · cases h3
-- the locals
def ev_nth : ev_L → Nat → Option Value
  | [], _ => none
  | x :: _, 0 => x
  | _ :: l, n + 1 => ev_nth l n
def ev_clr (x : Option Value) : Option Value := match x with
  | some (.long _) => none
  | some (.double _) => none
  | some (.int v) => some (.int v)
  | some (.float v) => some (.float v)
  | some .null => some .null
  | some (.ref v) => some (.ref v)
  | some (.retAddr v) => some (.retAddr v)
  | none => none
def ev_st1 : ev_L → Nat → Option Value → ev_L
  | [], _, _ => []
  | _ :: l, 0, v => v :: l
  | x :: l, n + 1, v => (match n with | 0 => ev_clr x | _ => x) :: ev_st1 l n v
def ev_st2 (L : ev_L) (i : Nat) (v : Option Value) : ev_L := ev_st1 (ev_st1 L (i + 1) none) i v
def ev_LH (ad : Nat → Nat) (ls : Array Slot) (nL : Nat) (L : ev_L) : Prop := ls.size = nL ∧ lv_wf ls ∧ ∀ i v, ev_nth L i = some v → ls[i]? = some (.val (ev_cv ad v))
theorem ev_cv_cat (ad : Nat → Nat) (v : Value) : (ev_cv ad v).category = v.category := by cases v <;> rfl
-- the cells
def ev_wg : List ev_E → Nat → Option ev_E
  | [], _ => none
  | x :: _, 0 => some x
  | _ :: l, n + 1 => ev_wg l n
def ev_ws : List ev_E → Nat → ev_E → List ev_E
  | [], _, _ => []
  | _ :: l, 0, v => v :: l
  | x :: l, n + 1, v => x :: ev_ws l n v
def ev_fg : List Value → Nat → Option Value
  | [], _ => none
  | x :: _, 0 => some x
  | _ :: l, n + 1 => ev_fg l n
def ev_fs : List Value → Nat → Value → List Value
  | [], _, _ => []
  | _ :: l, 0, v => v :: l
  | x :: l, n + 1, v => x :: ev_fs l n v
theorem ev_wg_eq (w : List ev_E) (k : Nat) : ev_wg w k = w[k]? := by
  induction w generalizing k with
  | nil => simp [ev_wg]
  | cons x l ih => cases k <;> simp [ev_wg, ih]
theorem ev_ws_eq (w : List ev_E) (k : Nat) (E : ev_E) : ev_ws w k E = w.set k E := by
  induction w generalizing k with
  | nil => simp [ev_ws]
  | cons x l ih => cases k <;> simp [ev_ws, ih]
theorem ev_fg_eq (w : List Value) (k : Nat) : ev_fg w k = w[k]? := by
  induction w generalizing k with
  | nil => simp [ev_fg]
  | cons x l ih => cases k <;> simp [ev_fg, ih]
theorem ev_fs_eq (w : List Value) (k : Nat) (E : Value) : ev_fs w k E = w.set k E := by
  induction w generalizing k with
  | nil => simp [ev_fs]
  | cons x l ih => cases k <;> simp [ev_fs, ih]
def ev_fit (ty : FieldType) (v : Value) : Bool := match ty, v with
  | .int, .int _ => true
  | .object _, .ref _ => true
  | .array _, .ref _ => true
  | _, _ => false
theorem ev_fit_ok {ty : FieldType} {v : Value} (h : ev_fit ty v = true) (ad : Nat → Nat) : narrow ty (ev_cv ad v) = ev_cv ad v ∧ fits ty (ev_cv ad v) = true := by
  cases ty <;> cases v <;> first | exact absurd h Bool.false_ne_true | exact ⟨rfl, rfl⟩
abbrev ev_O : Type := List Prop × Nat × ev_L × List Value × List ev_E
/-- one instruction, where it has no branch and no call; what must hold stands ahead -/
def ev_step (i : ev_I) (L : ev_L) (st : List Value) (w : List ev_E) : Option ev_O := match i with
  | (ins, nx, _, x, y, v) => match ins with
    | .iconst _ => match v with | .int c => some ([], nx, L, .int c :: st, w) | _ => none
    | .bipush _ => match v with | .int c => some ([], nx, L, .int c :: st, w) | _ => none
    | .sipush _ => match v with | .int c => some ([], nx, L, .int c :: st, w) | _ => none
    | .ldc _ => match v with | .int c => some ([], nx, L, .int c :: st, w) | _ => none
    | .ldc_w _ => match v with | .int c => some ([], nx, L, .int c :: st, w) | _ => none
    | .lconst _ => match v with | .long c => some ([], nx, L, .long c :: st, w) | _ => none
    | .ldc2_w _ => match v with | .long c => some ([], nx, L, .long c :: st, w) | .double c => some ([], nx, L, .double c :: st, w) | _ => none
    | .dconst _ => match v with | .double c => some ([], nx, L, .double c :: st, w) | _ => none
    | .iload _ => match ev_nth L x with | some (.int c) => some ([], nx, L, .int c :: st, w) | _ => none
    | .iload_n _ => match ev_nth L x with | some (.int c) => some ([], nx, L, .int c :: st, w) | _ => none
    | .lload _ => match ev_nth L x with | some (.long c) => some ([], nx, L, .long c :: st, w) | _ => none
    | .lload_n _ => match ev_nth L x with | some (.long c) => some ([], nx, L, .long c :: st, w) | _ => none
    | .dload _ => match ev_nth L x with | some (.double c) => some ([], nx, L, .double c :: st, w) | _ => none
    | .dload_n _ => match ev_nth L x with | some (.double c) => some ([], nx, L, .double c :: st, w) | _ => none
    | .aload _ => match ev_nth L x with | some (.ref c) => some ([], nx, L, .ref c :: st, w) | _ => none
    | .aload_n _ => match ev_nth L x with | some (.ref c) => some ([], nx, L, .ref c :: st, w) | _ => none
    | .istore _ => match st with | .int c :: r => some ([], nx, ev_st1 L x (some (.int c)), r, w) | _ => none
    | .istore_n _ => match st with | .int c :: r => some ([], nx, ev_st1 L x (some (.int c)), r, w) | _ => none
    | .lstore _ => match st with | .long c :: r => some ([], nx, ev_st2 L x (some (.long c)), r, w) | _ => none
    | .lstore_n _ => match st with | .long c :: r => some ([], nx, ev_st2 L x (some (.long c)), r, w) | _ => none
    | .dstore _ => match st with | .double c :: r => some ([], nx, ev_st2 L x (some (.double c)), r, w) | _ => none
    | .dstore_n _ => match st with | .double c :: r => some ([], nx, ev_st2 L x (some (.double c)), r, w) | _ => none
    | .astore _ => match st with | .ref c :: r => some ([], nx, ev_st1 L x (some (.ref c)), r, w) | _ => none
    | .astore_n _ => match st with | .ref c :: r => some ([], nx, ev_st1 L x (some (.ref c)), r, w) | _ => none
    | .iinc _ _ => match ev_nth L x, v with | some (.int a), .int c => some ([], nx, ev_st1 L x (some (.int (a + c))), st, w) | _, _ => none
    | .iadd => match st with | .int b :: .int a :: r => some ([], nx, L, .int (a + b) :: r, w) | _ => none
    | .isub => match st with | .int b :: .int a :: r => some ([], nx, L, .int (a - b) :: r, w) | _ => none
    | .imul => match st with | .int b :: .int a :: r => some ([], nx, L, .int (a * b) :: r, w) | _ => none
    | .iand => match st with | .int b :: .int a :: r => some ([], nx, L, .int (a &&& b) :: r, w) | _ => none
    | .ior => match st with | .int b :: .int a :: r => some ([], nx, L, .int (a ||| b) :: r, w) | _ => none
    | .ixor => match st with | .int b :: .int a :: r => some ([], nx, L, .int (a ^^^ b) :: r, w) | _ => none
    | .ishl => match st with | .int b :: .int a :: r => some ([], nx, L, .int (a <<< (b &&& 31)) :: r, w) | _ => none
    | .ishr => match st with | .int b :: .int a :: r => some ([], nx, L, .int (a >>> (b &&& 31)) :: r, w) | _ => none
    | .iushr => match st with | .int b :: .int a :: r => some ([], nx, L, .int (a.toUInt32 >>> (b.toUInt32 &&& Int32.toUInt32 31)).toInt32 :: r, w) | _ => none
    | .idiv => match st with | .int b :: .int a :: r => some ([¬ b = 0], nx, L, .int (a / b) :: r, w) | _ => none
    | .irem => match st with | .int b :: .int a :: r => some ([¬ b = 0], nx, L, .int (a - a / b * b) :: r, w) | _ => none
    | .ladd => match st with | .long b :: .long a :: r => some ([], nx, L, .long (a + b) :: r, w) | _ => none
    | .lsub => match st with | .long b :: .long a :: r => some ([], nx, L, .long (a - b) :: r, w) | _ => none
    | .lmul => match st with | .long b :: .long a :: r => some ([], nx, L, .long (a * b) :: r, w) | _ => none
    | .ldiv => match st with | .long b :: .long a :: r => some ([¬ b = 0], nx, L, .long (a / b) :: r, w) | _ => none
    | .lrem => match st with | .long b :: .long a :: r => some ([¬ b = 0], nx, L, .long (a - a / b * b) :: r, w) | _ => none
    | .lshl => match st with | .int b :: .long a :: r => some ([], nx, L, .long (a <<< (b.toInt64 &&& 63)) :: r, w) | _ => none
    | .lcmp => match st with | .long b :: .long a :: r => some ([], nx, L, .int (lg_cmp a b) :: r, w) | _ => none
    | .i2l => match st with | .int a :: r => some ([], nx, L, .long a.toInt64 :: r, w) | _ => none
    | .i2d => match st with | .int a :: r => some ([], nx, L, .double (FP.i2d a) :: r, w) | _ => none
    | .d2l => match st with | .double a :: r => some ([], nx, L, .long (FP.d2l a) :: r, w) | _ => none
    | .dcmp op => match st with | .double b :: .double a :: r => some ([], nx, L, .int (Op.cmpValue (FP.dcmp a b) op) :: r, w) | _ => none
    | .dmul => match st with | .double b :: .double a :: r => some ([vf_n64 (FP.dmul a b)], nx, L, .double (FP.dmul a b) :: r, w) | _ => none
    | .ddiv => match st with | .double b :: .double a :: r => some ([vf_n64 (FP.ddiv a b)], nx, L, .double (FP.ddiv a b) :: r, w) | _ => none
    | .dsub => match st with | .double b :: .double a :: r => some ([vf_n64 (FP.dsub a b)], nx, L, .double (FP.dsub a b) :: r, w) | _ => none
    | .dup => match st with | .int a :: r => some ([], nx, L, .int a :: .int a :: r, w) | .ref a :: r => some ([], nx, L, .ref a :: .ref a :: r, w) | _ => none
    | .dup2 => match st with | .int b :: .ref a :: r => some ([], nx, L, .int b :: .ref a :: .int b :: .ref a :: r, w) | _ => none
    | .dup_x2 => match st with | .int a :: .int b :: .ref d :: r => some ([], nx, L, .int a :: .int b :: .ref d :: .int a :: r, w) | _ => none
    | .arraylength => match st with
      | .ref a :: r => match ev_wg w a with
        | some (.inl (0, n, _)) => some ([], nx, L, .int (Int32.ofNat n) :: r, w)
        | _ => none
      | _ => none
    | .pop => match st with | .int _ :: r => some ([], nx, L, r, w) | .ref _ :: r => some ([], nx, L, r, w) | _ => none
    | .goto _ => some ([], x, L, st, w)
    | .getfield _ => match st with
      | .ref a :: r => match ev_wg w a with
        | some (.inr (ci, fs)) => match Nat.beq ci x with
          | true => match ev_fg fs y with
            | some u => some ([], nx, L, u :: r, w)
            | none => none
          | false => none
        | _ => none
      | _ => none
    | .putfield _ => match st with
      | u :: .ref a :: r => match ev_wg w a with
        | some (.inr (ci, fs)) => match Nat.beq ci x with
          | true => match ev_fg fs y, ev_fit (ev_ty x y) u with
            | some _, true => some ([], nx, L, r, ev_ws w a (.inr (ci, ev_fs fs y u)))
            | _, _ => none
          | false => none
        | _ => none
      | _ => none
    | .iaload => match st with
      | .int j :: .ref a :: r => match ev_wg w a with
        | some (.inl (0, n, .inl f)) => some ([vp_in j n], nx, L, .int (f j.toNatClampNeg) :: r, w)
        | _ => none
      | _ => none
    | .iastore => match st with
      | .int u :: .int j :: .ref a :: r => match ev_wg w a with
        | some (.inl (0, n, .inl f)) => some ([vp_in j n], nx, L, r, ev_ws w a (.inl (0, n, .inl (upd f j.toNatClampNeg u))))
        | _ => none
      | _ => none
    | .tableswitch d lo hi offs => match st with
      | .int a :: r => match decide (a.toInt < lo), decide (hi < a.toInt) with
        | false, false => match offs[(a.toInt - lo).toNat]? with
          | some o => match decide ((y : Int) + o = ((y : Int) + o).toNat) with
            | true => some ([], ((y : Int) + o).toNat, L, r, w)
            | false => none
          | none => none
        | _, _ => none
      | _ => none
    | _ => none
def ev_look : ev_T → Nat → Option ev_I
  | [], _ => none
  | q :: l, pc => match Nat.beq q.1 pc with
    | true => some q.2
    | false => ev_look l pc
def ev_mem : List Nat → Nat → Bool
  | [], _ => false
  | q :: l, pc => match Nat.beq q pc with
    | true => true
    | false => ev_mem l pc
def ev_go (tab : ev_T) (cuts : List Nat) : Nat → List Prop → Nat → ev_L → List Value → List ev_E → ev_O
  | 0, cs, pc, L, st, w => (cs, pc, L, st, w)
  | n + 1, cs, pc, L, st, w => match ev_look tab pc with
    | none => (cs, pc, L, st, w)
    | some i => match ev_step i L st w with
      | none => (cs, pc, L, st, w)
      | some (c, pc', L', st', w') => match ev_mem cuts pc' with
        | true => (cs ++ c, pc', L', st', w')
        | false => ev_go tab cuts n (cs ++ c) pc' L' st' w'
def ev_all : List Prop → Prop
  | [] => True
  | [p] => p
  | p :: q => p ∧ ev_all q
end
section
/-! ===== the locals and the forced forms ===== -/
theorem ev_nth_st1 (L : ev_L) (i : Nat) (v : Option Value) (j : Nat) (u : Value) (h : ev_nth (ev_st1 L i v) j = some u) : (j = i ∧ v = some u) ∨ (j ≠ i ∧ ev_nth L j = some u ∧ ¬ (j + 1 = i ∧ u.category = 2)) := by
  induction L generalizing i j with
  | nil => simp [ev_st1, ev_nth] at h
  | cons x l ih =>
    cases i with
    | zero =>
      cases j with
      | zero => exact Or.inl ⟨rfl, h⟩
      | succ j => exact Or.inr ⟨by omega, h, by omega⟩
    | succ i =>
      cases j with
      | zero =>
        right
        refine ⟨by omega, ?_⟩
        cases i with
        | zero =>
          simp only [ev_st1, ev_nth] at h
          have hx : x = some u ∧ ¬ u.category = 2 := by
            unfold ev_clr at h
            split at h <;> first | (cases h; done) | (cases h; exact ⟨rfl, by decide⟩) | (cases h; exact ⟨rfl, by simp [Value.category]⟩)
          exact ⟨hx.1, fun q => hx.2 q.2⟩
        | succ i => exact ⟨h, by omega⟩
      | succ j =>
        simp only [ev_st1, ev_nth] at h
        rcases ih i j h with ⟨h1, h2⟩ | ⟨h1, h2, h3⟩
        · exact Or.inl ⟨by omega, h2⟩
        · exact Or.inr ⟨by omega, h2, fun q => h3 ⟨by omega, q.2⟩⟩
/-- the listed values, as the kit's rows have them -/
def ev_as (ad : Nat → Nat) (L : ev_L) : List (Nat × Value) := (List.range L.length).filterMap (fun i => (ev_nth L i).map (fun v => (i, ev_cv ad v)))
theorem ev_nth_lt {L : ev_L} {i : Nat} {v : Value} (h : ev_nth L i = some v) : i < L.length := by
  induction L generalizing i with
  | nil => simp [ev_nth] at h
  | cons x l ih =>
    cases i with
    | zero => simp
    | succ i => have := ih h; simp; omega
theorem ev_as_in {ad : Nat → Nat} {L : ev_L} {q : Nat × Value} : q ∈ ev_as ad L ↔ ∃ v, ev_nth L q.1 = some v ∧ q.2 = ev_cv ad v := by
  obtain ⟨i, u⟩ := q
  unfold ev_as
  rw [List.mem_filterMap]
  constructor
  · rintro ⟨j, -, hj⟩
    cases h : ev_nth L j with
    | none => rw [h] at hj; cases hj
    | some u => rw [h] at hj; cases hj; exact ⟨u, h, rfl⟩
  · rintro ⟨v, h, h2⟩
    exact ⟨i, List.mem_range.mpr (ev_nth_lt h), by dsimp only at h h2; rw [h, h2]; rfl⟩
theorem ev_LH.has {ad : Nat → Nat} {ls : Array Slot} {nL : Nat} {L : ev_L} (h : ev_LH ad ls nL L) : lv_has ls nL (ev_as ad L) := ⟨h.1, h.2.1, fun q hq => by
  obtain ⟨v, h1, h2⟩ := ev_as_in.mp hq
  rw [h2]
  exact h.2.2 _ _ h1⟩
theorem ev_LH.of {ad : Nat → Nat} {ls : Array Slot} {nL : Nat} {L : ev_L} {l : List (Nat × Value)} (h : lv_has ls nL l) (hl : ∀ i v, ev_nth L i = some v → (i, ev_cv ad v) ∈ l) : ev_LH ad ls nL L := ⟨h.1, h.2.1, fun i v hv => h.2.2 (i, ev_cv ad v) (hl i v hv)⟩
theorem ev_LH.st1 {ad : Nat → Nat} {ls : Array Slot} {nL : Nat} {L : ev_L} {i : Nat} {v : Value} (h : lv_has ls nL ((i, ev_cv ad v) :: (ev_as ad L).filter (fun q => !(q.1 == i) && !(q.1 + 1 == i && q.2.category == 2)))) : ev_LH ad ls nL (ev_st1 L i (some v)) := by
  refine ev_LH.of h fun j u hj => ?_
  rcases ev_nth_st1 L i (some v) j u hj with ⟨h1, h2⟩ | ⟨h1, h2, h3⟩
  · cases h2; subst h1; exact List.mem_cons_self
  · refine List.mem_cons_of_mem _ (List.mem_filter.mpr ⟨ev_as_in.mpr ⟨u, h2, rfl⟩, ?_⟩)
    have a : (j == i) = false := by simp [h1]
    have b : (j + 1 == i && (ev_cv ad u).category == 2) = false := by
      rw [Bool.and_eq_false_iff, ev_cv_cat]
      by_cases c : j + 1 = i
      · right; simp; exact fun q => h3 ⟨c, q⟩
      · left; simp [c]
    simp only [a, b]
    rfl
theorem ev_LH.st2 {ad : Nat → Nat} {ls : Array Slot} {nL : Nat} {L : ev_L} {i : Nat} {v : Value} (h : lv_has ls nL ((i, ev_cv ad v) :: (ev_as ad L).filter (fun q => !(q.1 == i) && (!(q.1 == i + 1) && !(q.1 + 1 == i && q.2.category == 2))))) : ev_LH ad ls nL (ev_st2 L i (some v)) := by
  refine ev_LH.of h fun j u hj => ?_
  unfold ev_st2 at hj
  rcases ev_nth_st1 _ i (some v) j u hj with ⟨h1, h2⟩ | ⟨h1, h2, h3⟩
  · cases h2; subst h1; exact List.mem_cons_self
  · rcases ev_nth_st1 L (i + 1) none j u h2 with ⟨g1, g2⟩ | ⟨g1, g2, g3⟩
    · cases g2
    · refine List.mem_cons_of_mem _ (List.mem_filter.mpr ⟨ev_as_in.mpr ⟨u, g2, rfl⟩, ?_⟩)
      have a : (j == i) = false := by simp [h1]
      have a2 : (j == i + 1) = false := by simp [g1]
      have b : (j + 1 == i && (ev_cv ad u).category == 2) = false := by
        rw [Bool.and_eq_false_iff, ev_cv_cat]
        by_cases c : j + 1 = i
        · right; simp; exact fun q => h3 ⟨c, q⟩
        · left; simp [c]
      simp only [a, a2, b]
      rfl
theorem ev_LH.k {ad : Nat → Nat} {ls : Array Slot} {nL : Nat} {L : ev_L} (h : ev_LH ad ls nL L) {i : Nat} {v : Value} (hi : ev_nth L i = some v) : ∃ k : Nat, (ev_as ad L)[k]? = some (i, ev_cv ad v) := List.getElem?_of_mem (ev_as_in.mpr ⟨v, hi, rfl⟩)
-- forced forms: what a run comes to, its lists written out
def ev_fv {α : Type} (v : Value) (k : Value → α) : α := match v with
  | .ref a => k (.ref a)
  | .int x => k (.int x)
  | .long x => k (.long x)
  | .float x => k (.float x)
  | .double x => k (.double x)
  | .null => k .null
  | .retAddr x => k (.retAddr x)
def ev_fov {α : Type} (v : Option Value) (k : Option Value → α) : α := match v with
  | none => k none
  | some u => ev_fv u fun u => k (some u)
def ev_fL {α : Type} : ev_L → (ev_L → α) → α
  | [], k => k []
  | x :: l, k => ev_fov x fun x => ev_fL l fun l => k (x :: l)
def ev_fV {α : Type} : List Value → (List Value → α) → α
  | [], k => k []
  | x :: l, k => ev_fv x fun x => ev_fV l fun l => k (x :: l)
def ev_fE {α : Type} (E : ev_E) (k : ev_E → α) : α := match E with
  | .inl (t, n, .inl f) => k (.inl (t, n, .inl f))
  | .inl (t, n, .inr (.inl f)) => k (.inl (t, n, .inr (.inl f)))
  | .inl (t, n, .inr (.inr (.inl f))) => k (.inl (t, n, .inr (.inr (.inl f))))
  | .inl (t, n, .inr (.inr (.inr (.inl f)))) => k (.inl (t, n, .inr (.inr (.inr (.inl f)))))
  | .inl (t, n, .inr (.inr (.inr (.inr f)))) => k (.inl (t, n, .inr (.inr (.inr (.inr f)))))
  | .inr (ci, fs) => ev_fV fs fun fs => k (.inr (ci, fs))
def ev_fW {α : Type} : List ev_E → (List ev_E → α) → α
  | [], k => k []
  | x :: l, k => ev_fE x fun x => ev_fW l fun l => k (x :: l)
def ev_fP {α : Type} : List Prop → (List Prop → α) → α
  | [], k => k []
  | x :: l, k => ev_fP l fun l => k (x :: l)
theorem ev_fv_eq {α : Type} (v : Value) (k : Value → α) : ev_fv v k = k v := by cases v <;> rfl
theorem ev_fov_eq {α : Type} (v : Option Value) (k : Option Value → α) : ev_fov v k = k v := by
  cases v with
  | none => rfl
  | some u => exact ev_fv_eq u (fun u => k (some u))
theorem ev_fL_eq {α : Type} (L : ev_L) (k : ev_L → α) : ev_fL L k = k L := by
  induction L generalizing k with
  | nil => rfl
  | cons x l ih => rw [ev_fL, ev_fov_eq, ih]
theorem ev_fV_eq {α : Type} (L : List Value) (k : List Value → α) : ev_fV L k = k L := by
  induction L generalizing k with
  | nil => rfl
  | cons x l ih => rw [ev_fV, ev_fv_eq, ih]
theorem ev_fE_eq {α : Type} (E : ev_E) (k : ev_E → α) : ev_fE E k = k E := by
  match E with
  | .inl (t, n, .inl f) => rfl
  | .inl (t, n, .inr (.inl f)) => rfl
  | .inl (t, n, .inr (.inr (.inl f))) => rfl
  | .inl (t, n, .inr (.inr (.inr (.inl f)))) => rfl
  | .inl (t, n, .inr (.inr (.inr (.inr f)))) => rfl
  | .inr (ci, fs) => exact ev_fV_eq fs _
theorem ev_fW_eq {α : Type} (L : List ev_E) (k : List ev_E → α) : ev_fW L k = k L := by
  induction L generalizing k with
  | nil => rfl
  | cons x l ih => rw [ev_fW, ev_fE_eq, ih]
theorem ev_fP_eq {α : Type} (L : List Prop) (k : List Prop → α) : ev_fP L k = k L := by
  induction L generalizing k with
  | nil => rfl
  | cons x l ih => rw [ev_fP, ih]
def ev_fO (o : ev_O) : ev_O := match o with
  | (cs, pc, L, st, w) => ev_fP cs fun cs => ev_fL L fun L => ev_fV st fun st => ev_fW w fun w => (cs, pc, L, st, w)
theorem ev_fO_eq (o : ev_O) : ev_fO o = o := by
  obtain ⟨cs, pc, L, st, w⟩ := o
  show (ev_fP cs fun cs => ev_fL L fun L => ev_fV st fun st => ev_fW w fun w => (cs, pc, L, st, w)) = _
  rw [ev_fP_eq, ev_fL_eq, ev_fV_eq, ev_fW_eq]
end
section
/-! ===== one instruction of the abstract run, carried to the machine ===== -/
/-- a method: its class, its name, its code, how many locals, what it returns, its table, its room (frames, locals' words, cells, slots) -/
abbrev ev_M : Type := String × String × ByteArray × Nat × Option FieldType × ev_T × Nat × Nat × Nat × Nat
def ev_own (μ : ev_M) : String := μ.1
def ev_mn (μ : ev_M) : String := μ.2.1
def ev_cc (μ : ev_M) : ByteArray := μ.2.2.1
def ev_nL (μ : ev_M) : Nat := μ.2.2.2.1
def ev_rt (μ : ev_M) : Option FieldType := μ.2.2.2.2.1
def ev_tab (μ : ev_M) : ev_T := μ.2.2.2.2.2.1
def ev_fr (μ : ev_M) : Nat := μ.2.2.2.2.2.2.1
def ev_lo (μ : ev_M) : Nat := μ.2.2.2.2.2.2.2.1
def ev_mc (μ : ev_M) : Nat := μ.2.2.2.2.2.2.2.2.1
def ev_ms (μ : ev_M) : Nat := μ.2.2.2.2.2.2.2.2.2
def ev_len (ins : Instr) (x : Nat) : Nat := match ins with
  | .iload _ => 2
  | .lload _ => 2
  | .dload _ => 2
  | .aload _ => 2
  | .istore _ => 2
  | .lstore _ => 2
  | .dstore _ => 2
  | .astore _ => 2
  | .bipush _ => 2
  | .ldc _ => 2
  | .newarray _ => 2
  | .sipush _ => 3
  | .ldc_w _ => 3
  | .ldc2_w _ => 3
  | .iinc _ _ => 3
  | .goto _ => 3
  | .getfield _ => 3
  | .putfield _ => 3
  | .ifCond _ _ => 3
  | .if_icmp _ _ => 3
  | .invokevirtual _ => 3
  | .invokespecial _ => 3
  | .invokestatic _ => 3
  | .new _ => 3
  | .anewarray _ => 3
  | .tableswitch _ _ _ _ => x
  | .lookupswitch _ _ => x
  | _ => 1
def ev_lk (own nm : String) (nL pc : Nat) (ins : Instr) (k x y : Nat) (v : Value) : Bool := match ins with
  | .iconst n => decide (v = .int (Int32.ofInt n))
  | .bipush n => decide (v = .int (Int8.ofInt n).toInt32)
  | .sipush n => decide (v = .int (Int16.ofInt n).toInt32)
  | .iinc i n => decide (v = .int (Int32.ofInt n)) && decide (i = x) && decide (x < nL)
  | .lconst n => decide (v = .long (Int64.ofNat (n : Nat)))
  | .dconst n => decide ((n = 0 ∧ v = .double FP.dconst0) ∨ (n = 1 ∧ v = .double FP.dconst1))
  | .ldc i => match v with | .int c => ev_has k (.constant own i c) | _ => false
  | .ldc_w i => match v with | .int c => ev_has k (.constant own i c) | _ => false
  | .ldc2_w i => match v with | .long c => ev_has k (.constantLong own i c) | .double c => ev_has k (.constantDouble own i c) | _ => false
  | .iload i => decide (i = x)
  | .lload i => decide (i = x)
  | .dload i => decide (i = x)
  | .aload i => decide (i = x)
  | .iload_n i => decide ((i : Nat) = x)
  | .lload_n i => decide ((i : Nat) = x)
  | .dload_n i => decide ((i : Nat) = x)
  | .aload_n i => decide ((i : Nat) = x)
  | .istore i => decide (i = x) && decide (x < nL)
  | .astore i => decide (i = x) && decide (x < nL)
  | .istore_n i => decide ((i : Nat) = x) && decide (x < nL)
  | .astore_n i => decide ((i : Nat) = x) && decide (x < nL)
  | .lstore i => decide (i = x) && decide (x + 1 < nL)
  | .dstore i => decide (i = x) && decide (x + 1 < nL)
  | .lstore_n i => decide ((i : Nat) = x) && decide (x + 1 < nL)
  | .dstore_n i => decide ((i : Nat) = x) && decide (x + 1 < nL)
  | .goto o => decide ((pc : Int) + o = (x : Int))
  | .ifCond _ o => decide ((pc : Int) + o = (x : Int))
  | .if_icmp _ o => decide ((pc : Int) + o = (x : Int))
  | .getfield i => ev_fl own i k x y
  | .putfield i => decide (x < 5) && decide (y < ev_N x) && (if (ev_F x y).2.2.2 = true then decide (nm = "<init>") && decide ((ev_F x y).1 = own) && ev_has k (.fieldLink own i (ev_F x y).1 (ev_F x y).2.1 (ev_F x y).2.2.1) else ev_fl own i k x y)
  | .tableswitch _ _ _ _ => decide (y = pc)
  | .lookupswitch _ _ => decide (y = pc)
  | _ => true
def ev_ck (own nm : String) (cc : ByteArray) (nL : Nat) (q : Nat × ev_I) : Bool := match q with
  | (pc, ins, nx, k, x, y, v) => decide (decode cc pc = .ok (ins, ev_len ins x)) && decide (nx = pc + ev_len ins x) && ev_lk own nm nL pc ins k x y v
def ev_OK (μ : ev_M) : Prop := (ev_tab μ).all (ev_ck (ev_own μ) (ev_mn μ) (ev_cc μ) (ev_nL μ)) = true
theorem ev_look_in {tab : ev_T} {pc : Nat} {i : ev_I} (h : ev_look tab pc = some i) : (pc, i) ∈ tab := by
  induction tab with
  | nil => cases h
  | cons q l ih =>
    unfold ev_look at h
    split at h
    · next hq => cases h; have := Nat.eq_of_beq_eq_true hq; subst this; exact List.mem_cons_self
    · exact List.mem_cons_of_mem _ (ih h)
theorem ev_use {μ : ev_M} (h : ev_OK μ) {pc nx k x y : Nat} {ins : Instr} {v : Value} (hl : ev_look (ev_tab μ) pc = some (ins, nx, k, x, y, v)) : decode (ev_cc μ) pc = .ok (ins, ev_len ins x) ∧ nx = pc + ev_len ins x ∧ ev_lk (ev_own μ) (ev_mn μ) (ev_nL μ) pc ins k x y v = true := by
  have h1 := List.all_eq_true.mp h _ (ev_look_in hl)
  unfold ev_ck at h1
  rw [Bool.and_eq_true, Bool.and_eq_true] at h1
  exact ⟨of_decide_eq_true h1.1.1, of_decide_eq_true h1.1.2, h1.2⟩
/-- what stays: the machine, the body, the tables' words, the room -/
def ev_Fix (μ : ev_M) (p : Program) (R : Room) (s : State) (m : MethodId) (args : Array Value) (meth : Method) (c : Code) : Prop :=
  p.tables.exec = Jvm.exec ∧ c.code = ev_cc μ ∧ c.maxLocals = ev_nL μ ∧ meth.sig.returnType = ev_rt μ ∧ s.vm.findClass (ev_own μ) = some m.cls ∧ (∀ w ∈ ev_WA, w.before args s = true) ∧ meth.locks = false ∧ meth.name = ev_mn μ ∧ (ev_fr μ ≤ R.frames ∧ ev_lo μ ≤ R.locals ∧ ev_mc μ ≤ R.cells ∧ ev_ms μ ≤ R.slots)
def ev_I0 (μ : ev_M) (p : Program) (R : Room) (s : State) (m : MethodId) (args : Array Value) (meth : Method) (c : Code) (D : va_G) (ct : Nat → ClassId) (A : Nat → Prop) : Prop :=
  ev_OK μ ∧ ev_Fix μ p R s m args meth c ∧ va_K D vwCl (ev_tys ct) s ∧ ∀ q, s.heap.size ≤ q → A q
/-- what changes: the cells, the locals -/
def ev_I1 (μ : ev_M) (s : State) (D : va_G) (ct : Nat → ClassId) (ad0 : Nat → Nat) (A : Nat → Prop) (N0 : Nat) (ad : Nat → Nat) (H : Heap) (locs : List Loc) (ls : Array Slot) (L : ev_L) (w : List ev_E) : Prop :=
  va_P D vwCl (ev_lay ad ct w) H ∧ va_D A (ev_lay ad ct w) ∧ va_S A s.heap H locs ∧ (∀ k, k < N0 → ad k = ad0 k) ∧ ev_LH ad ls (ev_nL μ) L
theorem ev_ca_i (ad : Nat → Nat) (n : Nat) (f : Nat → Int32) : ev_ca ad (n, .inl f) = (n, .inl f) := rfl
theorem ev_ca_l (ad : Nat → Nat) (n : Nat) (f : Nat → Int64) : ev_ca ad (n, .inr (.inl f)) = (n, .inr (.inl f)) := rfl
theorem ev_map_set (ad : Nat → Nat) (fs : List Value) (k : Nat) (v : Value) : (fs.map (ev_cv ad)).set k (ev_cv ad v) = (fs.set k v).map (ev_cv ad) := by rw [List.map_set]
section EVS
variable {μ : ev_M} {p : Program} {l : Launch} {e : Env} {R : Room} {s : State} {m : MethodId} {args : Array Value} {below : List Frame} {meth : Method} {c : Code} {D : va_G} {ct : Nat → ClassId} {ad0 ad : Nat → Nat} {A : Nat → Prop} {N0 : Nat} {Q : State → Prop} {kc ks pc : Nat}
theorem ev_I1.ls {H : Heap} {locs : List Loc} {ls ls' : Array Slot} {L L' : ev_L} {w : List ev_E} (h : ev_I1 μ s D ct ad0 A N0 ad H locs ls L w) (hl : ev_LH ad ls' (ev_nL μ) L') : ev_I1 μ s D ct ad0 A N0 ad H locs ls' L' w := ⟨h.1, h.2.1, h.2.2.1, h.2.2.2.1, hl⟩
theorem ev_I1.set {H H1 : Heap} {locs locs1 : List Loc} {ls : Array Slot} {L : ev_L} {w : List ev_E} {k : Nat} {E : ev_E} {E' : va_E} (h : ev_I1 μ s D ct ad0 A N0 ad H locs ls L w) (hE : ev_ce ad ct E = E') (hP : va_P D vwCl ((ev_lay ad ct w).set k (ad k, E')) H1) (hD : va_D A ((ev_lay ad ct w).set k (ad k, E'))) (hS : va_S A s.heap H1 locs1) : ev_I1 μ s D ct ad0 A N0 ad H1 locs1 ls L (ev_ws w k E) := by
  subst hE
  rw [ev_lay_set, ← ev_ws_eq] at hP hD
  exact ⟨hP, hD, hS, h.2.2.2.1, h.2.2.2.2⟩
/-- the goal of every step -/
def ev_kk (μ : ev_M) (p : Program) (l : Launch) (e : Env) (R : Room) (s : State) (m : MethodId) (args : Array Value) (below : List Frame) (meth : Method) (c : Code) (D : va_G) (ct : Nat → ClassId) (ad0 ad : Nat → Nat) (A : Nat → Prop) (N0 : Nat) (Q : State → Prop) (kc ks pc : Nat) (L : ev_L) (st : List Value) (w : List ev_E) : Prop :=
  ∀ (H : Heap) (locs : List Loc) (ls : Array Slot), ev_I1 μ s D ct ad0 A N0 ad H locs ls L w → W p l e R s m args below meth c H locs kc ks Q (F0 m pc ls (st.map (ev_cv ad)))
set_option maxHeartbeats 4000000 in
set_option maxRecDepth 100000 in
theorem ev_step_ok (h0 : ev_I0 μ p R s m args meth c D ct A) {i : ev_I} {L L' : ev_L} {st st' : List Value} {w w' : List ev_E} {cs : List Prop} {pc' : Nat} (hlk : ev_look (ev_tab μ) pc = some i) (hs : ev_step i L st w = some (cs, pc', L', st', w')) (hc : ev_all cs)
    (kk : ev_kk μ p l e R s m args below meth c D ct ad0 ad A N0 Q kc ks pc' L' st' w') : ev_kk μ p l e R s m args below meth c D ct ad0 ad A N0 Q kc ks pc L st w := by
  obtain ⟨hok, ⟨hx, hb, hml, hr, hown, hts, hlocks, hnm, hR⟩, hK, hA⟩ := h0
  obtain ⟨ins, nx, k, x, y, v⟩ := i
  obtain ⟨hd, hnx, hv⟩ := ev_use hok hlk
  intro H locs ls I1
  have I1' := I1
  obtain ⟨hP, hD, hS, had, hL⟩ := I1
  cases ins with
  | iconst n =>
    dsimp only [ev_step] at hs
    split at hs <;> cases hs
    subst hnx
    have hv := of_decide_eq_true hv
    cases hv
    exact lv_iconst hx hb hd rfl (kk _ _ _ I1')
  | bipush n =>
    dsimp only [ev_step] at hs
    split at hs <;> cases hs
    subst hnx
    have hv := of_decide_eq_true hv
    cases hv
    exact lv_bipush hx hb hd rfl (kk _ _ _ I1')
  | sipush n =>
    dsimp only [ev_step] at hs
    split at hs <;> cases hs
    subst hnx
    have hv := of_decide_eq_true hv
    cases hv
    exact lv_sipush hx hb hd rfl (kk _ _ _ I1')
  | ldc n =>
    dsimp only [ev_step] at hs
    split at hs <;> cases hs
    subst hnx
    exact lv_ldc hx hb hown (hts _ (ev_has_in hv)) hd (kk _ _ _ I1')
  | ldc_w n =>
    dsimp only [ev_step] at hs
    split at hs <;> cases hs
    subst hnx
    exact lv_ldcw hx hb hown (hts _ (ev_has_in hv)) hd (kk _ _ _ I1')
  | ldc2_w n =>
    dsimp only [ev_step] at hs
    split at hs <;> cases hs
    · subst hnx
      exact lv_ldc2 hx hb hown (hts _ (ev_has_in hv)) hd (kk _ _ _ I1')
    · subst hnx
      exact lv_ldc2d hx hb hown (hts _ (ev_has_in hv)) hd (kk _ _ _ I1')
  | lconst n =>
    dsimp only [ev_step] at hs
    split at hs <;> cases hs
    subst hnx
    have hv := of_decide_eq_true hv
    cases hv
    exact lv_lconst hx hb hd rfl (kk _ _ _ I1')
  | dconst n =>
    dsimp only [ev_step] at hs
    split at hs <;> cases hs
    subst hnx
    have hv9 := of_decide_eq_true hv
    clear hv
    rcases hv9 with ⟨h8, h9⟩ | ⟨h8, h9⟩
    · subst h8; cases h9
      exact lv_dconst0 hx hb hd (kk _ _ _ I1')
    · subst h8; cases h9
      exact lv_dconst1 hx hb hd (kk _ _ _ I1')
  | iload n =>
    dsimp only [ev_step] at hs
    split at hs <;> cases hs
    next hn =>
    have hv := of_decide_eq_true hv
    subst hnx; subst hv
    exact lv_iload hx hb hd (hL.2.2 _ _ hn) (kk _ _ _ I1')
  | lload n =>
    dsimp only [ev_step] at hs
    split at hs <;> cases hs
    next hn =>
    have hv := of_decide_eq_true hv
    subst hnx; subst hv
    exact lv_lload hx hb hd (hL.2.2 _ _ hn) (kk _ _ _ I1')
  | iload_n n =>
    dsimp only [ev_step] at hs
    split at hs <;> cases hs
    next hn =>
    have hv := of_decide_eq_true hv
    subst hnx
    exact lv_iload_n hx hb hd hv (hL.2.2 _ _ hn) (kk _ _ _ I1')
  | lload_n n =>
    dsimp only [ev_step] at hs
    split at hs <;> cases hs
    next hn =>
    have hv := of_decide_eq_true hv
    subst hnx
    exact lv_lload_n hx hb hd hv (hL.2.2 _ _ hn) (kk _ _ _ I1')
  | dload n =>
    dsimp only [ev_step] at hs
    split at hs <;> cases hs
    next hn =>
    have hv := of_decide_eq_true hv
    subst hnx; subst hv
    exact lv_dload hx hb hd (hL.2.2 _ _ hn) (kk _ _ _ I1')
  | dload_n n =>
    dsimp only [ev_step] at hs
    split at hs <;> cases hs
    next hn =>
    have hv := of_decide_eq_true hv
    subst hnx
    exact lv_dload_n hx hb hd hv (hL.2.2 _ _ hn) (kk _ _ _ I1')
  | aload n =>
    dsimp only [ev_step] at hs
    split at hs <;> cases hs
    next hn =>
    have hv := of_decide_eq_true hv
    subst hnx; subst hv
    exact lv_aload hx hb hd (hL.2.2 _ _ hn) (kk _ _ _ I1')
  | aload_n n =>
    dsimp only [ev_step] at hs
    split at hs <;> cases hs
    next hn =>
    have hv := of_decide_eq_true hv
    subst hnx
    exact lv_aload_n hx hb hd hv (hL.2.2 _ _ hn) (kk _ _ _ I1')
  | istore n =>
    dsimp only [ev_step] at hs
    split at hs <;> cases hs
    obtain ⟨hv, hv2⟩ := Bool.and_eq_true_iff.mp hv
    have hv := of_decide_eq_true hv
    have hv2 := of_decide_eq_true hv2
    subst hnx; subst hv
    exact lv_istore hx hb hd hL.has hv2 rfl (fun ls2 h2 => kk _ _ _ (I1'.ls (ev_LH.st1 h2)))
  | istore_n n =>
    dsimp only [ev_step] at hs
    split at hs <;> cases hs
    obtain ⟨hv, hv2⟩ := Bool.and_eq_true_iff.mp hv
    have hv := of_decide_eq_true hv
    have hv2 := of_decide_eq_true hv2
    subst hnx
    exact lv_istore_n hx hb hd hv hL.has hv2 rfl (fun ls2 h2 => kk _ _ _ (I1'.ls (ev_LH.st1 h2)))
  | lstore n =>
    dsimp only [ev_step] at hs
    split at hs <;> cases hs
    obtain ⟨hv, hv2⟩ := Bool.and_eq_true_iff.mp hv
    have hv := of_decide_eq_true hv
    have hv2 := of_decide_eq_true hv2
    subst hnx; subst hv
    exact lv_lstore hx hb hd hL.has hv2 rfl (fun ls2 h2 => kk _ _ _ (I1'.ls (ev_LH.st2 h2)))
  | lstore_n n =>
    dsimp only [ev_step] at hs
    split at hs <;> cases hs
    obtain ⟨hv, hv2⟩ := Bool.and_eq_true_iff.mp hv
    have hv := of_decide_eq_true hv
    have hv2 := of_decide_eq_true hv2
    subst hnx
    exact lv_lstore_n hx hb hd hv hL.has hv2 rfl (fun ls2 h2 => kk _ _ _ (I1'.ls (ev_LH.st2 h2)))
  | dstore n =>
    dsimp only [ev_step] at hs
    split at hs <;> cases hs
    obtain ⟨hv, hv2⟩ := Bool.and_eq_true_iff.mp hv
    have hv := of_decide_eq_true hv
    have hv2 := of_decide_eq_true hv2
    subst hnx; subst hv
    exact lv_dstore hx hb hd hL.has hv2 rfl (fun ls2 h2 => kk _ _ _ (I1'.ls (ev_LH.st2 h2)))
  | dstore_n n =>
    dsimp only [ev_step] at hs
    split at hs <;> cases hs
    obtain ⟨hv, hv2⟩ := Bool.and_eq_true_iff.mp hv
    have hv := of_decide_eq_true hv
    have hv2 := of_decide_eq_true hv2
    subst hnx
    exact lv_dstore_n hx hb hd hv hL.has hv2 rfl (fun ls2 h2 => kk _ _ _ (I1'.ls (ev_LH.st2 h2)))
  | astore n =>
    dsimp only [ev_step] at hs
    split at hs <;> cases hs
    obtain ⟨hv, hv2⟩ := Bool.and_eq_true_iff.mp hv
    have hv := of_decide_eq_true hv
    have hv2 := of_decide_eq_true hv2
    subst hnx; subst hv
    exact lv_astore hx hb hd hL.has hv2 rfl (fun ls2 h2 => kk _ _ _ (I1'.ls (ev_LH.st1 h2)))
  | astore_n n =>
    dsimp only [ev_step] at hs
    split at hs <;> cases hs
    obtain ⟨hv, hv2⟩ := Bool.and_eq_true_iff.mp hv
    have hv := of_decide_eq_true hv
    have hv2 := of_decide_eq_true hv2
    subst hnx
    exact lv_astore_n hx hb hd hv hL.has hv2 rfl (fun ls2 h2 => kk _ _ _ (I1'.ls (ev_LH.st1 h2)))
  | iinc i n =>
    dsimp only [ev_step] at hs
    split at hs <;> cases hs
    next hn =>
    have hw1 : (_ && _) = true := hv
    have hw2 := Bool.and_eq_true_iff.mp hw1
    have hw3 := Bool.and_eq_true_iff.mp hw2.1
    have g1 := of_decide_eq_true hw3.1
    have g2 := of_decide_eq_true hw2.2
    have g3 := of_decide_eq_true hw3.2
    have g4 := Value.int.inj g1
    clear hv hw1 hw2 hw3 g1
    subst hnx; subst g3; subst g4
    obtain ⟨q, hq⟩ := hL.k hn
    exact lv_iinc hx hb hd hL.has hq rfl g2 rfl (fun ls2 h2 => kk _ _ _ (I1'.ls (ev_LH.st1 (v := .int _) h2)))
  | iadd =>
    dsimp only [ev_step] at hs
    split at hs <;> cases hs
    subst hnx
    exact lv_iadd hx hb hd (kk _ _ _ I1')
  | isub =>
    dsimp only [ev_step] at hs
    split at hs <;> cases hs
    subst hnx
    exact lv_isub hx hb hd (kk _ _ _ I1')
  | imul =>
    dsimp only [ev_step] at hs
    split at hs <;> cases hs
    subst hnx
    exact lv_imul hx hb hd (kk _ _ _ I1')
  | iand =>
    dsimp only [ev_step] at hs
    split at hs <;> cases hs
    subst hnx
    exact lv_iand hx hb hd (kk _ _ _ I1')
  | ior =>
    dsimp only [ev_step] at hs
    split at hs <;> cases hs
    subst hnx
    exact lv_ior hx hb hd (kk _ _ _ I1')
  | ixor =>
    dsimp only [ev_step] at hs
    split at hs <;> cases hs
    subst hnx
    exact lv_ixor hx hb hd (kk _ _ _ I1')
  | ishl =>
    dsimp only [ev_step] at hs
    split at hs <;> cases hs
    subst hnx
    exact lv_ishl hx hb hd (kk _ _ _ I1')
  | ishr =>
    dsimp only [ev_step] at hs
    split at hs <;> cases hs
    subst hnx
    exact lv_ishr hx hb hd (kk _ _ _ I1')
  | ladd =>
    dsimp only [ev_step] at hs
    split at hs <;> cases hs
    subst hnx
    exact lv_ladd hx hb hd (kk _ _ _ I1')
  | lsub =>
    dsimp only [ev_step] at hs
    split at hs <;> cases hs
    subst hnx
    exact lv_lsub hx hb hd (kk _ _ _ I1')
  | lmul =>
    dsimp only [ev_step] at hs
    split at hs <;> cases hs
    subst hnx
    exact lv_lmul hx hb hd (kk _ _ _ I1')
  | iushr =>
    dsimp only [ev_step] at hs
    split at hs <;> cases hs
    subst hnx
    exact lv_iushr hx hb hd rfl (kk _ _ _ I1')
  | lshl =>
    dsimp only [ev_step] at hs
    split at hs <;> cases hs
    subst hnx
    exact lv_lshl hx hb hd rfl (kk _ _ _ I1')
  | i2l =>
    dsimp only [ev_step] at hs
    split at hs <;> cases hs
    subst hnx
    exact lv_i2l hx hb hd rfl (kk _ _ _ I1')
  | i2d =>
    dsimp only [ev_step] at hs
    split at hs <;> cases hs
    subst hnx
    exact lv_i2d hx hb hd (kk _ _ _ I1')
  | d2l =>
    dsimp only [ev_step] at hs
    split at hs <;> cases hs
    subst hnx
    exact lv_d2l hx hb hd (kk _ _ _ I1')
  | idiv =>
    dsimp only [ev_step] at hs
    split at hs <;> cases hs
    subst hnx
    exact lv_idiv hx hb hd hc (kk _ _ _ I1')
  | irem =>
    dsimp only [ev_step] at hs
    split at hs <;> cases hs
    subst hnx
    exact lv_irem hx hb hd hc (kk _ _ _ I1')
  | ldiv =>
    dsimp only [ev_step] at hs
    split at hs <;> cases hs
    subst hnx
    exact lv_ldiv hx hb hd hc (kk _ _ _ I1')
  | lrem =>
    dsimp only [ev_step] at hs
    split at hs <;> cases hs
    subst hnx
    exact lv_lrem hx hb hd hc (kk _ _ _ I1')
  | dmul =>
    dsimp only [ev_step] at hs
    split at hs <;> cases hs
    subst hnx
    exact lv_dmul hx hb hd hc (kk _ _ _ I1')
  | ddiv =>
    dsimp only [ev_step] at hs
    split at hs <;> cases hs
    subst hnx
    exact lv_ddiv hx hb hd hc (kk _ _ _ I1')
  | dsub =>
    dsimp only [ev_step] at hs
    split at hs <;> cases hs
    subst hnx
    exact lv_dsub hx hb hd hc (kk _ _ _ I1')
  | lcmp =>
    dsimp only [ev_step] at hs
    split at hs <;> cases hs
    subst hnx
    exact W.lcmp hx hb hd (kk _ _ _ I1')
  | dcmp op =>
    dsimp only [ev_step] at hs
    split at hs <;> cases hs
    subst hnx
    exact lv_dcmp hx hb hd (kk _ _ _ I1')
  | dup =>
    dsimp only [ev_step] at hs
    split at hs <;> cases hs
    · subst hnx
      exact lv_dup hx hb hd rfl (kk _ _ _ I1')
    · subst hnx
      exact lv_dup hx hb hd rfl (kk _ _ _ I1')
  | dup2 =>
    dsimp only [ev_step] at hs
    split at hs <;> cases hs
    subst hnx
    exact lv_dup2_11 hx hb hd rfl rfl (kk _ _ _ I1')
  | dup_x2 =>
    dsimp only [ev_step] at hs
    split at hs <;> cases hs
    subst hnx
    exact lv_dup_x2 hx hb hd rfl rfl rfl (kk _ _ _ I1')
  | arraylength =>
    dsimp only [ev_step] at hs
    split at hs
    · split at hs
      · next hw =>
        cases hs
        subst hnx
        rw [ev_wg_eq] at hw
        exact va_alen hx hb hK hP _ 0 (ev_lay_get (ad := ad) (ct := ct) hw) rfl rfl hd (kk _ _ _ I1')
      · cases hs
    · cases hs
  | pop =>
    dsimp only [ev_step] at hs
    split at hs <;> cases hs
    · subst hnx
      exact lv_pop (va := .int _) hx hb hd rfl (kk _ _ _ I1')
    · subst hnx
      exact lv_pop (va := .ref _) hx hb hd rfl (kk _ _ _ I1')
  | goto o =>
    dsimp only [ev_step] at hs
    cases hs
    exact lv_goto hx hb hd (of_decide_eq_true hv) (kk _ _ _ I1')
  | getfield n =>
    dsimp only [ev_step] at hs
    split at hs
    · split at hs
      · next a r _ ci fs hw =>
        split at hs
        · next hci =>
          split at hs
          · next u hu =>
            cases hs
            subst hnx
            have hci := Nat.eq_of_beq_eq_true hci
            subst hci
            rw [ev_wg_eq] at hw
            rw [ev_fg_eq] at hu
            obtain ⟨q1, q2, q3⟩ := ev_fl_use hv
            have hlay := ev_lay_get (ad := ad) (ct := ct) hw
            have hval : (fs.map (ev_cv ad))[y]? = some (ev_cv ad u) := by rw [List.getElem?_map, hu]; rfl
            rcases q3 with q3 | ⟨host, q3⟩
            · exact va_get hx hb hts (ev_wsin q1) hown hK hP a hlay (ev_cl q1) y q2 (hts _ q3) (fun _ h9 => h9) hval hd (kk _ _ _ I1')
            · exact va_getN hx hb hts (ev_wsin q1) hown hK hP a hlay (ev_cl q1) y q2 (hts _ q3) (fun _ h9 => h9) hval hd (kk _ _ _ I1')
          · cases hs
        · cases hs
      · cases hs
    · cases hs
  | putfield n =>
    dsimp only [ev_step] at hs
    split at hs
    · split at hs
      · next u a r _ ci fs hw =>
        split at hs
        · next hci =>
          split at hs
          · next u0 hu hfit =>
            cases hs
            subst hnx
            have hci := Nat.eq_of_beq_eq_true hci
            subst hci
            rw [ev_wg_eq] at hw
            rw [ev_fg_eq] at hu
            have hlay := ev_lay_get (ad := ad) (ct := ct) hw
            have hlen : y < (fs.map (ev_cv ad)).length := by rw [List.length_map]; exact (List.getElem?_eq_some_iff.mp hu).1
            obtain ⟨f1, f2⟩ := ev_fit_ok hfit ad
            obtain ⟨hv, hv3⟩ := Bool.and_eq_true_iff.mp hv
            obtain ⟨hv1, hv2⟩ := Bool.and_eq_true_iff.mp hv
            have q1 := of_decide_eq_true hv1
            have q2 := of_decide_eq_true hv2
            have kk2 : ∀ (H1 : Heap) (locs1 : List Loc), va_P D vwCl ((ev_lay ad ct w).set a (ad a, .inr (ci, (fs.map (ev_cv ad)).set y (ev_cv ad u)))) H1 → va_D A ((ev_lay ad ct w).set a (ad a, .inr (ci, (fs.map (ev_cv ad)).set y (ev_cv ad u)))) → va_S A s.heap H1 locs1 → W p l e R s m args below meth c H1 locs1 kc ks Q (F0 m (pc + 3) ls (st'.map (ev_cv ad))) := by
              intro H1 locs1 g1 g2 g3
              exact kk _ _ _ (I1'.set (E := .inr (ci, ev_fs fs y u)) (by rw [ev_fs_eq, ev_map_set]; rfl) g1 g2 g3)
            by_cases hfin : (ev_F ci y).2.2.2 = true
            · rw [if_pos hfin] at hv3
              obtain ⟨hv4, hv5⟩ := Bool.and_eq_true_iff.mp hv3
              obtain ⟨hv6, hv7⟩ := Bool.and_eq_true_iff.mp hv4
              exact va_putF hx hb hts (ev_wsin q1) (ev_ty ci) (ev_tyok q1) (ev_nm q1) hown hK hP hD hS a hlay (ev_cl q1) y q2 (hts _ (ev_has_in hv5)) (fun _ h9 => h9) hfin (hnm.trans (of_decide_eq_true hv6)) (of_decide_eq_true hv7) (ev_tyok q1 y q2) f1 f2 hlen hd kk2
            · rw [if_neg hfin] at hv3
              have hfin : (ev_F ci y).2.2.2 = false := by simpa using hfin
              obtain ⟨-, -, q3⟩ := ev_fl_use hv3
              rcases q3 with q3 | ⟨host, q3⟩
              · exact va_put hx hb hts (ev_wsin q1) (ev_ty ci) (ev_tyok q1) (ev_nm q1) hown hK hP hD hS a hlay (ev_cl q1) y q2 (hts _ q3) (fun _ h9 => h9) hfin (ev_tyok q1 y q2) f1 f2 hlen hd kk2
              · exact va_putN hx hb hts (ev_wsin q1) (ev_ty ci) (ev_tyok q1) (ev_nm q1) hown hK hP hD hS a hlay (ev_cl q1) y q2 (hts _ q3) (fun _ h9 => h9) hfin (ev_tyok q1 y q2) f1 f2 hlen hd kk2
          · cases hs
        · cases hs
      · cases hs
    · cases hs
  | iaload =>
    dsimp only [ev_step] at hs
    split at hs
    · split at hs
      · next hw =>
        cases hs
        subst hnx
        rw [ev_wg_eq] at hw
        exact va_iald hx hb hK hP _ 0 (ev_lay_get (ad := ad) (ct := ct) hw) rfl hc hd (kk _ _ _ I1')
      · cases hs
    · cases hs
  | iastore =>
    dsimp only [ev_step] at hs
    split at hs
    · split at hs
      · next hw =>
        cases hs
        subst hnx
        rw [ev_wg_eq] at hw
        exact va_iast hx hb hK hP hD hS _ 0 (ev_lay_get (ad := ad) (ct := ct) hw) rfl hc hd (fun H1 locs1 g1 g2 g3 => kk _ _ _ (I1'.set (E := .inl (0, _, .inl _)) rfl g1 g2 g3))
      · cases hs
    · cases hs
  | tableswitch d lo hi offs =>
    dsimp only [ev_step] at hs
    split at hs
    · split at hs
      · next e1 e2 =>
        split at hs
        · next o ho =>
          split at hs
          · next ht =>
            cases hs
            have hv := of_decide_eq_true hv
            subst hv
            exact lv_tableIn hx hb hd (of_decide_eq_false e1) (of_decide_eq_false e2) ho (of_decide_eq_true ht) (kk _ _ _ I1')
          · cases hs
        · cases hs
      · cases hs
    · cases hs
  | _ => cases hs
end EVS
end
section
/-! ===== the abstract run as a judgement: from here the body comes to one of the exits X ===== -/
abbrev ev_X : Type := Nat → ev_L → List Value → List ev_E → Nat → Nat → Prop
def ev_eqn (N0 : Option Nat) (ad ad0 : Nat → Nat) : Prop := match N0 with
  | none => ad = ad0
  | some n => ∀ k, k < n → ad k = ad0 k
/-- what changes: the cells, the locals -/
def ev_I2 (μ : ev_M) (s : State) (D : va_G) (ct : Nat → ClassId) (ad0 : Nat → Nat) (A : Nat → Prop) (N0 : Option Nat) (ad : Nat → Nat) (H : Heap) (locs : List Loc) (ls : Array Slot) (L : ev_L) (w : List ev_E) : Prop :=
  va_P D vwCl (ev_lay ad ct w) H ∧ va_D A (ev_lay ad ct w) ∧ va_S A s.heap H locs ∧ ev_eqn N0 ad ad0 ∧ ev_LH ad ls (ev_nL μ) L
def ev_k2 (μ : ev_M) (p : Program) (l : Launch) (e : Env) (R : Room) (s : State) (m : MethodId) (args : Array Value) (below : List Frame) (meth : Method) (c : Code) (D : va_G) (ct : Nat → ClassId) (ad0 : Nat → Nat) (A : Nat → Prop) (N0 : Option Nat) (Q : State → Prop) (pc : Nat) (L : ev_L) (st : List Value) (w : List ev_E) (kc ks : Nat) : Prop :=
  ∀ (ad : Nat → Nat) (H : Heap) (locs : List Loc) (ls : Array Slot), ev_I2 μ s D ct ad0 A N0 ad H locs ls L w → W p l e R s m args below meth c H locs kc ks Q (F0 m pc ls (st.map (ev_cv ad)))
def ev_V (μ : ev_M) (N0 : Option Nat) (X : ev_X) (pc : Nat) (L : ev_L) (st : List Value) (w : List ev_E) (kc ks : Nat) : Prop :=
  ∀ (p : Program) (l : Launch) (e : Env) (R : Room) (s : State) (m : MethodId) (args : Array Value) (below : List Frame) (meth : Method) (c : Code) (D : va_G) (ct : Nat → ClassId) (ad0 : Nat → Nat) (A : Nat → Prop) (Q : State → Prop),
    ev_I0 μ p R s m args meth c D ct A →
    (∀ pc' L' st' w' kc' ks', X pc' L' st' w' kc' ks' → ev_k2 μ p l e R s m args below meth c D ct ad0 A N0 Q pc' L' st' w' kc' ks') →
    ev_k2 μ p l e R s m args below meth c D ct ad0 A N0 Q pc L st w kc ks
theorem ev_exit {μ : ev_M} {N0 : Option Nat} {X : ev_X} {pc : Nat} {L : ev_L} {st : List Value} {w : List ev_E} {kc ks : Nat} (h : X pc L st w kc ks) : ev_V μ N0 X pc L st w kc ks := fun _ _ _ _ _ _ _ _ _ _ _ _ _ _ _ _ hx => hx _ _ _ _ _ _ h
theorem ev_bind {μ : ev_M} {N0 : Option Nat} {X Y : ev_X} {pc : Nat} {L : ev_L} {st : List Value} {w : List ev_E} {kc ks : Nat} (h : ev_V μ N0 X pc L st w kc ks) (hX : ∀ pc' L' st' w' kc' ks', X pc' L' st' w' kc' ks' → ev_V μ N0 Y pc' L' st' w' kc' ks') : ev_V μ N0 Y pc L st w kc ks :=
  fun p l e R s m args below meth c D ct ad0 A Q h0 hy => h p l e R s m args below meth c D ct ad0 A Q h0 fun pc' L' st' w' kc' ks' hx => hX pc' L' st' w' kc' ks' hx p l e R s m args below meth c D ct ad0 A Q h0 hy
theorem ev_step1 {μ : ev_M} {N0 : Option Nat} {X : ev_X} {pc : Nat} {L : ev_L} {st : List Value} {w : List ev_E} {kc ks : Nat} {i : ev_I} {cs : List Prop} {pc' : Nat} {L' : ev_L} {st' : List Value} {w' : List ev_E} (hlk : ev_look (ev_tab μ) pc = some i) (hs : ev_step i L st w = some (cs, pc', L', st', w')) (hc : ev_all cs)
    (k : ev_V μ N0 X pc' L' st' w' kc ks) : ev_V μ N0 X pc L st w kc ks := by
  intro p l e R s m args below meth c D ct ad0 A Q h0 hx ad H locs ls I
  refine ev_step_ok (N0 := 0) (ad0 := ad0) h0 hlk hs hc ?_ H locs ls ⟨I.1, I.2.1, I.2.2.1, fun k hk => absurd hk (Nat.not_lt_zero k), I.2.2.2.2⟩
  intro H' locs' ls' I1
  exact k p l e R s m args below meth c D ct ad0 A Q h0 hx ad H' locs' ls' ⟨I1.1, I1.2.1, I1.2.2.1, I.2.2.2.1, I1.2.2.2.2⟩
theorem ev_all_iff (l : List Prop) : ev_all l ↔ ∀ q ∈ l, q := by
  induction l with
  | nil => exact ⟨fun _ q hq => absurd hq List.not_mem_nil, fun _ => trivial⟩
  | cons a l ih =>
    cases l with
    | nil => exact ⟨fun h => List.forall_mem_cons.mpr ⟨h, List.forall_mem_nil _⟩, fun h => (List.forall_mem_cons.mp h).1⟩
    | cons b l => exact ⟨fun h => List.forall_mem_cons.mpr ⟨h.1, ih.mp h.2⟩, fun h => ⟨(List.forall_mem_cons.mp h).1, ih.mpr (List.forall_mem_cons.mp h).2⟩⟩
theorem ev_go_ok {μ : ev_M} {N0 : Option Nat} {X : ev_X} {cuts : List Nat} {kc ks : Nat} {pc' : Nat} {L' : ev_L} {st' : List Value} {w' : List ev_E} (k : ev_V μ N0 X pc' L' st' w' kc ks) (n : Nat) : ∀ (cs0 cs : List Prop) (pc : Nat) (L : ev_L) (st : List Value) (w : List ev_E), ev_go (ev_tab μ) cuts n cs0 pc L st w = (cs, pc', L', st', w') → (∀ q ∈ cs, q) → ev_V μ N0 X pc L st w kc ks ∧ ∀ q ∈ cs0, q := by
  induction n with
  | zero =>
    intro cs0 cs pc L st w h hc
    cases h
    exact ⟨k, hc⟩
  | succ n ih =>
    intro cs0 cs pc L st w h hc
    unfold ev_go at h
    split at h
    · cases h; exact ⟨k, hc⟩
    · next i hlk =>
      split at h
      · cases h; exact ⟨k, hc⟩
      · next c1 pc1 L1 st1 w1 hs =>
        split at h
        · cases h
          refine ⟨ev_step1 hlk hs ((ev_all_iff _).mpr fun q hq => hc q (List.mem_append_right _ hq)) k, fun q hq => hc q (List.mem_append_left _ hq)⟩
        · obtain ⟨h1, h2⟩ := ih _ _ _ _ _ _ h hc
          exact ⟨ev_step1 hlk hs ((ev_all_iff _).mpr fun q hq => h2 q (List.mem_append_right _ hq)) h1, fun q hq => h2 q (List.mem_append_left _ hq)⟩
/-- a straight stretch: by rfl -/
theorem ev_run {μ : ev_M} {N0 : Option Nat} {X : ev_X} (cuts : List Nat) (n : Nat) {pc : Nat} {L : ev_L} {st : List Value} {w : List ev_E} {kc ks : Nat} {cs : List Prop} {pc' : Nat} {L' : ev_L} {st' : List Value} {w' : List ev_E} (h : ev_fO (ev_go (ev_tab μ) cuts n [] pc L st w) = (cs, pc', L', st', w')) (hc : ev_all cs)
    (k : ev_V μ N0 X pc' L' st' w' kc ks) : ev_V μ N0 X pc L st w kc ks := by
  rw [ev_fO_eq] at h
  exact (ev_go_ok k n [] cs pc L st w h ((ev_all_iff _).mp hc)).1
-- branches
def ev_test (ins : Instr) (st : List Value) : Option (Prop × Prop × List Value) := match ins with
  | .ifCond .eq _ => match st with | .int a :: r => some (a = 0, ¬ a = 0, r) | _ => none
  | .ifCond .ne _ => match st with | .int a :: r => some (¬ a = 0, a = 0, r) | _ => none
  | .ifCond .lt _ => match st with | .int a :: r => some (a < 0, ¬ a < 0, r) | _ => none
  | .ifCond .ge _ => match st with | .int a :: r => some (0 ≤ a, ¬ 0 ≤ a, r) | _ => none
  | .ifCond .gt _ => match st with | .int a :: r => some (0 < a, ¬ 0 < a, r) | _ => none
  | .ifCond .le _ => match st with | .int a :: r => some (a ≤ 0, ¬ a ≤ 0, r) | _ => none
  | .if_icmp .eq _ => match st with | .int b :: .int a :: r => some (a = b, ¬ a = b, r) | _ => none
  | .if_icmp .ne _ => match st with | .int b :: .int a :: r => some (¬ a = b, a = b, r) | _ => none
  | .if_icmp .lt _ => match st with | .int b :: .int a :: r => some (a < b, ¬ a < b, r) | _ => none
  | .if_icmp .ge _ => match st with | .int b :: .int a :: r => some (b ≤ a, ¬ b ≤ a, r) | _ => none
  | .if_icmp .gt _ => match st with | .int b :: .int a :: r => some (b < a, ¬ b < a, r) | _ => none
  | .if_icmp .le _ => match st with | .int b :: .int a :: r => some (a ≤ b, ¬ a ≤ b, r) | _ => none
  | _ => none
set_option maxHeartbeats 1000000 in
theorem ev_br {μ : ev_M} {N0 : Option Nat} {X : ev_X} {pc : Nat} {L : ev_L} {st : List Value} {w : List ev_E} {kc ks : Nat} {ins : Instr} {nx k x y : Nat} {v : Value} {P N : Prop} {r : List Value} (hlk : ev_look (ev_tab μ) pc = some (ins, nx, k, x, y, v)) (ht : ev_test ins st = some (P, N, r))
    (kt : P → ev_V μ N0 X x L r w kc ks) (kf : N → ev_V μ N0 X nx L r w kc ks) : ev_V μ N0 X pc L st w kc ks := by
  intro p l e R s m args below meth c D ct ad0 A Q h0 hx ad H locs ls I
  have h0' := h0
  obtain ⟨hok, ⟨hx1, hb, -⟩, -⟩ := h0
  obtain ⟨hd, hnx, hv⟩ := ev_use hok hlk
  have kt' := fun hP => kt hP p l e R s m args below meth c D ct ad0 A Q h0' hx ad H locs ls I
  have kf' := fun hP => kf hP p l e R s m args below meth c D ct ad0 A Q h0' hx ad H locs ls I
  unfold ev_test at ht
  split at ht <;> first | (cases ht; done) | skip
  all_goals (split at ht <;> cases ht)
  all_goals (have hv := of_decide_eq_true hv; subst hnx)
  · exact lv_if_eq hx1 hb hd hv kt' kf'
  · exact lv_if_ne hx1 hb hd hv kt' kf'
  · exact lv_if_lt hx1 hb hd hv kt' kf'
  · exact lv_if_ge hx1 hb hd hv kt' kf'
  · exact lv_if_gt hx1 hb hd hv kt' kf'
  · exact lv_if_le hx1 hb hd hv kt' kf'
  · exact lv_icmp_eq hx1 hb hd hv kt' kf'
  · exact lv_icmp_ne hx1 hb hd hv kt' kf'
  · exact lv_icmp_lt hx1 hb hd hv kt' kf'
  · exact lv_icmp_ge hx1 hb hd hv kt' kf'
  · exact lv_icmp_gt hx1 hb hd hv kt' kf'
  · exact lv_icmp_le hx1 hb hd hv kt' kf'
/-- a switch beside its table -/
theorem ev_tso {μ : ev_M} {N0 : Option Nat} {X : ev_X} {pc : Nat} {L : ev_L} {w : List ev_E} {kc ks : Nat} {d lo hi : Int} {offs : Array Int} {nx k x y : Nat} {v : Value} {a : Int32} {r : List Value} (tgt : Nat) (hlk : ev_look (ev_tab μ) pc = some (.tableswitch d lo hi offs, nx, k, x, y, v)) (ha : a.toInt < lo ∨ hi < a.toInt) (ht : (pc : Int) + d = (tgt : Int))
    (kt : ev_V μ N0 X tgt L r w kc ks) : ev_V μ N0 X pc L (.int a :: r) w kc ks := by
  intro p l e R s m args below meth c D ct ad0 A Q h0 hx ad H locs ls I
  have h0' := h0
  obtain ⟨hok, ⟨hx1, hb, -⟩, -⟩ := h0
  obtain ⟨hd, hnx, hv⟩ := ev_use hok hlk
  exact lv_tableOut hx1 hb hd ha ht (kt p l e R s m args below meth c D ct ad0 A Q h0' hx ad H locs ls I)
theorem ev_lsw {μ : ev_M} {N0 : Option Nat} {X : ev_X} {pc : Nat} {L : ev_L} {w : List ev_E} {kc ks : Nat} {d : Int} {ps : Array (Int × Int)} {nx k x y : Nat} {v : Value} {a : Int32} {r : List Value} {off : Int} (tgt : Nat) (hlk : ev_look (ev_tab μ) pc = some (.lookupswitch d ps, nx, k, x, y, v)) (hp : (ps.toList.zip (ps.toList.drop 1)).all (fun (a, next) => a.1 < next.1) = true) (ho : Op.lookupswitch.offset ps.toList d a.toInt = off) (ht : (pc : Int) + off = (tgt : Int))
    (kt : ev_V μ N0 X tgt L r w kc ks) : ev_V μ N0 X pc L (.int a :: r) w kc ks := by
  intro p l e R s m args below meth c D ct ad0 A Q h0 hx ad H locs ls I
  have h0' := h0
  obtain ⟨hok, ⟨hx1, hb, -⟩, -⟩ := h0
  obtain ⟨hd, hnx, hv⟩ := ev_use hok hlk
  exact lv_lookup hx1 hb hd hp ho ht (kt p l e R s m args below meth c D ct ad0 A Q h0' hx ad H locs ls I)
-- a method's contract, and its start
def ev_Qc (D : va_G) (ct : Nat → ClassId) (ad0 : Nat → Nat) (N0 : Option Nat) (A : Nat → Prop) (post : Option Value → List ev_E → Prop) : Array Value → State → Outcome → State → Prop := fun _ st oc t =>
  (∃ (r : Option Value) (w' : List ev_E) (ad' : Nat → Nat), oc = .returned (r.map (ev_cv ad')) ∧ post r w' ∧ ev_eqn N0 ad' ad0 ∧ va_P D vwCl (ev_lay ad' ct w') t.heap ∧ va_K D vwCl (ev_tys ct) t ∧ va_D A (ev_lay ad' ct w')) ∧ va_F A st t
def ev_Pc (D : va_G) (ct : Nat → ClassId) (ad : Nat → Nat) (sz : Nat) (as : List Value) (w : List ev_E) : Array Value → State → Prop := va_Pc (as.map (ev_cv ad)) (fun U => U.heap.size = sz ∧ va_P D vwCl (ev_lay ad ct w) U.heap ∧ va_K D vwCl (ev_tys ct) U ∧ va_D (fun _ => True) (ev_lay ad ct w))
def ev_rm (μ : ev_M) : Room := { frames := ev_fr μ, cells := ev_mc μ, slots := ev_ms μ, locals := ev_lo μ }
def ev_wsm (y : MethodName) (μ : ev_M) : List Jvm.Cond := .code y (ev_cc μ) (ev_nL μ) (ev_rt μ) :: ev_WA
def ev_A (y : MethodName) (μ : ev_M) (N0 : Option Nat) (as : List Value) (w : List ev_E) (post : Option Value → List ev_E → Prop) : Prop :=
  ∀ (l : Launch) (D : va_G) (ct ad : Nat → Nat) (sz : Nat), Met l y (ev_wsm y μ) (ev_rm μ) (ev_Pc D ct ad sz as w) (ev_Qc D ct ad N0 (va_A (ev_lay ad ct w) sz) post) (ev_mc μ) (ev_ms μ) (va_A (ev_lay ad ct w) sz)
def ev_rk (rt : Option FieldType) (ins : Instr) (st : List Value) (r : Option Value) : Prop := match ins, st with
  | .ireturn, [.int v] => r = some (.int v) ∧ (rt = some .int ∨ (rt = some .boolean ∧ narrow .boolean (.int v) = .int v))
  | .lreturn, [.long v] => r = some (.long v) ∧ rt = some .long
  | .dreturn, [.double v] => r = some (.double v) ∧ rt = some .double
  | .return_, [] => r = none ∧ rt = none
  | _, _ => False
def ev_XR (μ : ev_M) (post : Option Value → List ev_E → Prop) : ev_X := fun pc _ st w kc ks => ∃ (i : ev_I) (r : Option Value), ev_look (ev_tab μ) pc = some i ∧ ev_rk (ev_rt μ) i.1 st r ∧ post r w ∧ kc ≤ ev_mc μ ∧ ks ≤ ev_ms μ
def ev_pad : Nat → ev_L
  | 0 => []
  | n + 1 => none :: ev_pad n
def ev_ent : List Value → Nat → ev_L
  | [], n => ev_pad n
  | v :: l, n => match v with
    | .long x => some (.long x) :: none :: ev_ent l (n - 2)
    | .double x => some (.double x) :: none :: ev_ent l (n - 2)
    | .int x => some (.int x) :: ev_ent l (n - 1)
    | .ref x => some (.ref x) :: ev_ent l (n - 1)
    | .null => some .null :: ev_ent l (n - 1)
    | .float x => some (.float x) :: ev_ent l (n - 1)
    | .retAddr x => some (.retAddr x) :: ev_ent l (n - 1)
theorem ev_ent_nil (n i : Nat) (v : Value) : ¬ ev_nth (ev_ent [] n) i = some v := by
  unfold ev_ent
  induction n generalizing i with
  | zero => simp [ev_pad, ev_nth]
  | succ n ih => cases i with
    | zero => simp [ev_pad, ev_nth]
    | succ i => simpa [ev_pad, ev_nth] using ih i
theorem ev_ent_ok (ad : Nat → Nat) (as : List Value) : ∀ (n j i : Nat) (v : Value), ev_nth (ev_ent as n) i = some v → (j + i, ev_cv ad v) ∈ lv_args j (as.map (ev_cv ad)) := by
  induction as with
  | nil => intro n j i v h; exact absurd h (ev_ent_nil n i v)
  | cons a l ih =>
    intro n j i v h
    rw [List.map_cons, lv_args]
    cases a with
    | long x =>
      cases i with
      | zero => cases h; exact List.mem_cons_self
      | succ i => cases i with
        | zero => cases h
        | succ i =>
          have := ih (n - 2) (j + 2) i v h
          rw [show j + (i + 1 + 1) = j + 2 + i by omega]
          exact List.mem_cons_of_mem _ this
    | double x =>
      cases i with
      | zero => cases h; exact List.mem_cons_self
      | succ i => cases i with
        | zero => cases h
        | succ i =>
          have := ih (n - 2) (j + 2) i v h
          rw [show j + (i + 1 + 1) = j + 2 + i by omega]
          exact List.mem_cons_of_mem _ this
    | int x =>
      cases i with
      | zero => cases h; exact List.mem_cons_self
      | succ i =>
        have := ih (n - 1) (j + 1) i v h
        rw [show j + (i + 1) = j + 1 + i by omega]
        exact List.mem_cons_of_mem _ this
    | ref x =>
      cases i with
      | zero => cases h; exact List.mem_cons_self
      | succ i =>
        have := ih (n - 1) (j + 1) i v h
        rw [show j + (i + 1) = j + 1 + i by omega]
        exact List.mem_cons_of_mem _ this
    | null =>
      cases i with
      | zero => cases h; exact List.mem_cons_self
      | succ i =>
        have := ih (n - 1) (j + 1) i v h
        rw [show j + (i + 1) = j + 1 + i by omega]
        exact List.mem_cons_of_mem _ this
    | float x =>
      cases i with
      | zero => cases h; exact List.mem_cons_self
      | succ i =>
        have := ih (n - 1) (j + 1) i v h
        rw [show j + (i + 1) = j + 1 + i by omega]
        exact List.mem_cons_of_mem _ this
    | retAddr x =>
      cases i with
      | zero => cases h; exact List.mem_cons_self
      | succ i =>
        have := ih (n - 1) (j + 1) i v h
        rw [show j + (i + 1) = j + 1 + i by omega]
        exact List.mem_cons_of_mem _ this
set_option maxHeartbeats 1000000 in
theorem ev_start {y : MethodName} {μ : ev_M} {N0 : Option Nat} {as : List Value} {w : List ev_E} {post : Option Value → List ev_E → Prop} (hok : ev_OK μ) (hy : plainName y.cls = true) (hc : y.cls = ev_own μ) (hn : y.name = ev_mn μ) (hsl : (lg_sl as).length ≤ ev_nL μ) (k : ev_V μ N0 (ev_XR μ post) 0 (ev_ent as (ev_nL μ)) [] w 0 0) : ev_A y μ N0 as w post := by
  intro l D ct ad sz
  refine Met.ofW (cc := ev_cc μ) (maxL := ev_nL μ) (ret := ev_rt μ) hy rfl ?_
  intro p e s m args below meth c s₁ B hml hv
  obtain ⟨rfl, hsz, hP, hK, hD0⟩ := hv
  have hts := atoms_spec (ws := ev_wsm y μ) B.pre
  have hD := hD0.self (sz := s.heap.size)
  subst hsz
  have hsl2 : (lg_sl (as.map (ev_cv ad))).length ≤ ev_nL μ := by
    have : (lg_sl (as.map (ev_cv ad))).length = (lg_sl as).length := by
      clear k hsl hP hD hD0 B hts
      induction as with
      | nil => rfl
      | cons a l ih =>
        unfold lg_sl at ih ⊢
        rw [List.map_cons, List.flatMap_cons, List.flatMap_cons, List.length_append, List.length_append, ih, ev_cv_cat]
        by_cases h : a.category = 2 <;> simp [h]
    omega
  have hl := lv_entry (as.map (ev_cv ad)) (n := ev_nL μ) hsl2
  rw [lg_entry_eq]
  refine k p l e _ s m _ below meth c D ct ad _ _ ⟨hok, ⟨B.exec, B.bytes, hml, B.returns, hc ▸ findClass_of_methodNamed B.named, fun w hw => hts w (List.mem_cons_of_mem _ hw), B.notSynchronized, (name_of_methodNamed B.named B.method).1.trans hn, Nat.le_refl _, Nat.le_refl _, Nat.le_refl _, Nat.le_refl _⟩, hK, fun q hq => Or.inr hq⟩ ?_ ad s.heap [] _ ⟨hP, hD, va_S.rf, (by cases N0 with
    | none => rfl
    | some n => exact fun _ _ => rfl), ev_LH.of hl (fun i v h => by simpa using ev_ent_ok ad as (ev_nL μ) 0 i v h)⟩
  intro pc' L' st' w' kc' ks' hX ad' H locs ls I
  obtain ⟨i, r, hlk, hrk, hpost, hkc, hks⟩ := hX
  obtain ⟨ins, nx, kk, x, yy, v⟩ := i
  obtain ⟨hd, -, -⟩ := ev_use hok hlk
  obtain ⟨hP2, hD2, hS2, hE2, -⟩ := I
  refine W.widen hkc hks ?_
  have hr := B.returns
  have hlocks := B.notSynchronized
  unfold ev_rk at hrk
  dsimp only at hrk
  split at hrk
  · obtain ⟨rfl, hrt⟩ := hrk
    rcases hrt with hrt | ⟨hrt, hnar⟩
    · exact W.iret B.exec B.bytes (hr.trans hrt) (fun t ht hW => ⟨⟨_, w', ad', rfl, hpost, hE2, by rw [ht]; exact hP2, va_K.moved hW.alike hK, hD2⟩, hS2.F ht⟩) hS2.2.2 hd
    · exact W.zret B.exec B.bytes (hr.trans hrt) hnar (fun t ht hW => ⟨⟨_, w', ad', rfl, hpost, hE2, by rw [ht]; exact hP2, va_K.moved hW.alike hK, hD2⟩, hS2.F ht⟩) hS2.2.2 hd
  · obtain ⟨rfl, hrt⟩ := hrk
    exact W.lret B.exec B.bytes (hr.trans hrt) (fun t ht hW => ⟨⟨_, w', ad', rfl, hpost, hE2, by rw [ht]; exact hP2, va_K.moved hW.alike hK, hD2⟩, hS2.F ht⟩) hS2.2.2 hd
  · obtain ⟨rfl, hrt⟩ := hrk
    exact W.dret B.exec B.bytes (hr.trans hrt) (fun t ht hW => ⟨⟨_, w', ad', rfl, hpost, hE2, by rw [ht]; exact hP2, va_K.moved hW.alike hK, hD2⟩, hS2.F ht⟩) hS2.2.2 hd
  · obtain ⟨rfl, hrt⟩ := hrk
    exact W.vret B.exec B.bytes (hr.trans hrt) (fun t ht hW => ⟨⟨_, w', ad', rfl, hpost, hE2, by rw [ht]; exact hP2, va_K.moved hW.alike hK, hD2⟩, hS2.F ht⟩) hS2.2.2 hd
  · exact hrk.elim
end
section
/-! ===== calls ===== -/
def ev_ren (em : Nat → Nat) (E : ev_E) : ev_E := match E with
  | .inl a => .inl (a.1, ev_ca em a.2)
  | .inr o => .inr (o.1, o.2.map (ev_cv em))
theorem ev_cv_cv (f g : Nat → Nat) (v : Value) : ev_cv f (ev_cv g v) = ev_cv (fun k => f (g k)) v := by cases v <;> rfl
theorem ev_ca_ca (f g : Nat → Nat) (a : vp_A) : ev_ca f (ev_ca g a) = ev_ca (fun k => f (g k)) a := by
  match a with
  | (n, .inl h) => rfl
  | (n, .inr (.inl h)) => rfl
  | (n, .inr (.inr (.inl h))) => rfl
  | (n, .inr (.inr (.inr (.inl h)))) => rfl
  | (n, .inr (.inr (.inr (.inr h)))) =>
    show (n, _) = (n, _)
    refine congrArg (fun z => (n, z)) ?_
    show Sum.inr (Sum.inr (Sum.inr (Sum.inr _))) = Sum.inr (Sum.inr (Sum.inr (Sum.inr _)))
    refine congrArg (fun z => Sum.inr (Sum.inr (Sum.inr (Sum.inr z)))) ?_
    funext i
    show Option.map f (Option.map g (h i)) = _
    rw [Option.map_map]
    rfl
theorem ev_ce_ren (ad em : Nat → Nat) (ct : Nat → ClassId) (E : ev_E) : ev_ce ad ct (ev_ren em E) = ev_ce (fun k => ad (em k)) ct E := by
  cases E with
  | inl a => show Sum.inl _ = Sum.inl _; rw [ev_ca_ca]
  | inr o => show Sum.inr (o.1, _) = Sum.inr (o.1, _); rw [List.map_map]; exact congrArg (fun z => Sum.inr (o.1, z)) (List.map_congr_left fun v _ => ev_cv_cv ad em v)
def ev_pick (w : List ev_E) (em : Nat → Nat) : Nat → Nat → List ev_E
  | _, 0 => []
  | k, n + 1 => match ev_wg w (em k) with
    | some E => E :: ev_pick w em (k + 1) n
    | none => []
theorem ev_pick_get {w : List ev_E} {em : Nat → Nat} (l : List ev_E) : ∀ (k0 : Nat), ev_pick w em k0 l.length = l.map (ev_ren em) → ∀ (k : Nat) (E : ev_E), l[k]? = some E → w[em (k0 + k)]? = some (ev_ren em E) := by
  induction l with
  | nil => intro k0 _ k E h; simp at h
  | cons a l ih =>
    intro k0 h k E hk
    rw [List.length_cons, ev_pick, List.map_cons] at h
    split at h
    · next E0 hE =>
      injection h with h1 h2
      cases k with
      | zero => simp at hk; subst hk; rw [ev_wg_eq] at hE; rw [Nat.add_zero, hE, h1]
      | succ k =>
        have := ih (k0 + 1) h2 k E (by simpa using hk)
        rw [show k0 + (k + 1) = k0 + 1 + k by omega]
        exact this
    · cases h
def ev_putm (em : Nat → Nat) : List ev_E → Nat → List ev_E → List ev_E
  | w, _, [] => w
  | w, k, E :: l => ev_putm em (ev_ws w (em k) (ev_ren em E)) (k + 1) l
theorem ev_putm_len {em : Nat → Nat} (l : List ev_E) : ∀ (w : List ev_E) (k : Nat), (ev_putm em w k l).length = w.length := by
  induction l with
  | nil => intro w k; rfl
  | cons a l ih => intro w k; rw [ev_putm, ih, ev_ws_eq, List.length_set]
theorem ev_putm_get {em : Nat → Nat} (l : List ev_E) : ∀ (w : List ev_E) (k0 j : Nat) (E : ev_E), (ev_putm em w k0 l)[j]? = some E →
    (∃ i E0, l[i]? = some E0 ∧ j = em (k0 + i) ∧ E = ev_ren em E0) ∨ ((∀ i, i < l.length → ¬ em (k0 + i) = j) ∧ w[j]? = some E) := by
  induction l with
  | nil => intro w k0 j E h; exact Or.inr ⟨fun i hi => absurd hi (Nat.not_lt_zero _), h⟩
  | cons a l ih =>
    intro w k0 j E h
    rw [ev_putm] at h
    rcases ih _ _ _ _ h with ⟨i, E0, h1, h2, h3⟩ | ⟨h1, h2⟩
    · exact Or.inl ⟨i + 1, E0, by simpa using h1, by rw [h2]; congr 1; omega, h3⟩
    · rw [ev_ws_eq, List.getElem?_set] at h2
      by_cases hj : em k0 = j
      · rw [if_pos hj] at h2
        split at h2
        · cases h2; exact Or.inl ⟨0, a, rfl, hj.symm, rfl⟩
        · cases h2
      · rw [if_neg hj] at h2
        refine Or.inr ⟨fun i hi => ?_, h2⟩
        cases i with
        | zero => exact hj
        | succ i =>
          have := h1 i (by simpa using hi)
          rw [show k0 + (i + 1) = k0 + 1 + i by omega]
          exact this
/-- what the tables say of a callee: found by the receiver's class; static; a constructor -/
def ev_CV (y : MethodName) (μ : ev_M) (ci n : Nat) : Prop := Jvm.Cond.code y (ev_cc μ) (ev_nL μ) (ev_rt μ) ∈ ev_WA ∧ Jvm.Cond.initialized y.cls ∈ ev_WA ∧ Jvm.Cond.instanceMethod y ∈ ev_WA ∧ Jvm.Cond.selects y.cls y y ∈ ev_WA ∧ (y.cls ≠ "java/lang/invoke/MethodHandle" ∧ y.cls ≠ "java/lang/invoke/VarHandle" ∧ (parseMethodDescriptor y.desc).map (fun d => d.parameters.length) = some n) ∧ y.cls = ev_R ci ∧ ci < 5
def ev_CS (y : MethodName) (μ : ev_M) (n : Nat) : Prop := Jvm.Cond.code y (ev_cc μ) (ev_nL μ) (ev_rt μ) ∈ ev_WA ∧ Jvm.Cond.initialized y.cls ∈ ev_WA ∧ Jvm.Cond.static y ∈ ev_WA ∧ (y.cls ≠ "java/lang/invoke/MethodHandle" ∧ y.cls ≠ "java/lang/invoke/VarHandle" ∧ (parseMethodDescriptor y.desc).map (fun d => d.parameters.length) = some n)
def ev_CI (y : MethodName) (μ : ev_M) (n : Nat) : Prop := Jvm.Cond.code y (ev_cc μ) (ev_nL μ) (ev_rt μ) ∈ ev_WA ∧ Jvm.Cond.initialized y.cls ∈ ev_WA ∧ Jvm.Cond.instanceMethod y ∈ ev_WA ∧ (y.cls ≠ "java/lang/invoke/MethodHandle" ∧ y.cls ≠ "java/lang/invoke/VarHandle" ∧ (parseMethodDescriptor y.desc).map (fun d => d.parameters.length) = some n) ∧ y.name = "<init>"
def ev_ml (own : String) (idx : Nat) (y : MethodName) : Prop := Jvm.Cond.methodLink own idx y ∈ ev_WA ∨ ∃ host, Jvm.Cond.methodLinkNest own idx y host ∈ ev_WA
theorem ev_pay {y : MethodName} {μ : ev_M} {args : Array Value} {s : State} (hts : ∀ w ∈ ev_WA, w.before args s = true) (h : Jvm.Cond.code y (ev_cc μ) (ev_nL μ) (ev_rt μ) ∈ ev_WA) : ∀ w ∈ ev_wsm y μ, ∀ (a' : Array Value) (U : State), s.WarmedH U.vm → w.before a' U = true := by
  intro w hw a' U hW
  have h1 : w ∈ ev_WA := by
    rcases List.mem_cons.mp hw with rfl | hw
    · exact h
    · exact hw
  exact ev_okw_warm (List.mem_filter.mp h1).2 hW (hts w h1)
theorem ev_blind {D : va_G} {ct ad : Nat → Nat} {sz : Nat} {as : List Value} {w : List ev_E} : FrameBlind (ev_Pc D ct ad sz as w) := fun a U g mk q => by
  obtain ⟨q0, q1, qP, qK, qD⟩ := q
  exact ⟨q0, q1, qP, va_K.moved (u := U) (U := U.calling g mk a) (Vm.Alike.refl U.vm) qK, qD⟩
section EVC
variable {μ μc : ev_M} {p : Program} {l : Launch} {e : Env} {R : Room} {s : State} {m : MethodId} {args : Array Value} {below : List Frame} {meth : Method} {c : Code} {D : va_G} {ct : Nat → ClassId} {ad0 ad : Nat → Nat} {A : Nat → Prop} {N0 : Option Nat} {Q : State → Prop} {kc ks pc n idx ci : Nat} {H : Heap} {locs : List Loc} {ls : Array Slot} {y : MethodName} {Pc : Array Value → State → Prop} {Qc : Array Value → State → Outcome → State → Prop} {free : Addr → Prop} {b : Addr} {As rest : List Value}
theorem ev_runV (h0 : ev_I0 μ p R s m args meth c D ct A) (hM : Met l y (ev_wsm y μc) (ev_rm μc) Pc Qc (ev_mc μc) (ev_ms μc) free) (cv : ev_CV y μc ci n) (hl : ev_ml (ev_own μ) idx y) (hroom : ev_fr μc + 1 ≤ ev_fr μ ∧ 8 + (ev_nL μc + 11) + ev_lo μc ≤ ev_lo μ) (hmc : kc + ev_mc μc ≤ ev_mc μ ∧ ks + ev_ms μc ≤ ev_ms μ)
    (hp : PreV s H y.cls b Pc As) (hn : As.length = n) (hsize : ls.size = ev_nL μ) (hW : (rest.map fun v => v.category).sum ≤ 8) (hdg : decode (ev_cc μ) pc = .ok (.invokevirtual idx, 3)) :
    va_Run p l e R s m args below meth c H locs kc ks (ev_mc μc) (ev_ms μc) (F0 m pc ls (As.reverse ++ .ref b :: rest)) rest (Qc (Value.ref b :: As).toArray) free := by
  obtain ⟨hok, ⟨hx, hb, hml, hr, hown, hts, hlocks, hnm, hR1, hR2, hR3, hR4⟩, hK, hA⟩ := h0
  obtain ⟨w1, w2, w3, w4, w5, w6⟩ := cv
  have hRR : (ev_rm μc).frames + 1 ≤ R.frames ∧ 8 + (ev_nL μc + 11) + (ev_rm μc).locals ≤ R.locals := ⟨Nat.le_trans hroom.1 hR1, Nat.le_trans hroom.2 hR2⟩
  have hmm : kc + ev_mc μc ≤ R.cells ∧ ks + ev_ms μc ≤ R.slots := ⟨Nat.le_trans hmc.1 hR3, Nat.le_trans hmc.2 hR4⟩
  have hW0 : 2 * (F0 m pc ls (As.reverse ++ .ref b :: rest)).monitorRoom + (rest.map fun v => v.category).sum ≤ 8 := by
    have : (F0 m pc ls (As.reverse ++ .ref b :: rest)).monitorRoom = 0 := rfl
    rw [this]; omega
  have hlen : ∀ sig, parseMethodDescriptor y.desc = some sig → n = sig.parameters.length := by
    intro sig h
    have h2 := w5.2.2
    rw [h] at h2
    exact (Option.some.inj h2).symm
  rcases hl with hl | ⟨host, hl⟩
  · exact va_runV ⟨hx, hb, hml, hown, hts⟩ hM ⟨⟨rfl, rfl, hRR.1, hRR.2, ev_pay hts w1, List.mem_cons_self, hts _ w1, hts _ w2, ⟨w5.1, w5.2.1⟩, hlen, hts _ hl⟩, hts _ w3, hts _ w4⟩ hp rfl hn hsize rfl hW0 hdg hmm
  · exact va_runVN ⟨hx, hb, hml, hown, hts⟩ hM ⟨⟨⟨rfl, rfl, hRR.1, hRR.2, ev_pay hts w1, List.mem_cons_self⟩, hts _ w1, hts _ w2, ⟨w5.1, w5.2.1⟩, hlen, hts _ hl⟩, hts _ w3, hts _ w4⟩ hp rfl hn hsize rfl hW0 hdg hmm
theorem ev_runS (h0 : ev_I0 μ p R s m args meth c D ct A) (hM : Met l y (ev_wsm y μc) (ev_rm μc) Pc Qc (ev_mc μc) (ev_ms μc) free) (cv : ev_CS y μc n) (hl : ev_ml (ev_own μ) idx y) (hroom : ev_fr μc + 1 ≤ ev_fr μ ∧ 8 + (ev_nL μc + 11) + ev_lo μc ≤ ev_lo μ) (hmc : kc + ev_mc μc ≤ ev_mc μ ∧ ks + ev_ms μc ≤ ev_ms μ)
    (hp : PreS s H Pc As) (hn : As.length = n) (hsize : ls.size = ev_nL μ) (hW : (rest.map fun v => v.category).sum ≤ 8) (hdg : decode (ev_cc μ) pc = .ok (.invokestatic idx, 3)) :
    va_Run p l e R s m args below meth c H locs kc ks (ev_mc μc) (ev_ms μc) (F0 m pc ls (As.reverse ++ rest)) rest (Qc As.toArray) free := by
  obtain ⟨hok, ⟨hx, hb, hml, hr, hown, hts, hlocks, hnm, hR1, hR2, hR3, hR4⟩, hK, hA⟩ := h0
  obtain ⟨w1, w2, w3, w5⟩ := cv
  have hRR : (ev_rm μc).frames + 1 ≤ R.frames ∧ 8 + (ev_nL μc + 11) + (ev_rm μc).locals ≤ R.locals := ⟨Nat.le_trans hroom.1 hR1, Nat.le_trans hroom.2 hR2⟩
  have hmm : kc + ev_mc μc ≤ R.cells ∧ ks + ev_ms μc ≤ R.slots := ⟨Nat.le_trans hmc.1 hR3, Nat.le_trans hmc.2 hR4⟩
  have hW0 : 2 * (F0 m pc ls (As.reverse ++ rest)).monitorRoom + (rest.map fun v => v.category).sum ≤ 8 := by
    have : (F0 m pc ls (As.reverse ++ rest)).monitorRoom = 0 := rfl
    rw [this]; omega
  have hlen : ∀ sig, parseMethodDescriptor y.desc = some sig → n = sig.parameters.length := by
    intro sig h
    have h2 := w5.2.2
    rw [h] at h2
    exact (Option.some.inj h2).symm
  rcases hl with hl | ⟨host, hl⟩
  · exact va_runS ⟨hx, hb, hml, hown, hts⟩ hM ⟨⟨rfl, rfl, hRR.1, hRR.2, ev_pay hts w1, List.mem_cons_self, hts _ w1, hts _ w2, ⟨w5.1, w5.2.1⟩, hlen, hts _ hl⟩, hts _ w3⟩ hp rfl hn hsize rfl hW0 hdg hmm
  · exact va_runSN ⟨hx, hb, hml, hown, hts⟩ hM ⟨⟨⟨rfl, rfl, hRR.1, hRR.2, ev_pay hts w1, List.mem_cons_self⟩, hts _ w1, hts _ w2, ⟨w5.1, w5.2.1⟩, hlen, hts _ hl⟩, hts _ w3, trivial⟩ hp rfl hn hsize rfl hW0 hdg hmm
/-- behind the call -/
theorem ev_back {adc : Nat → Nat} {Nc : Option Nat} {A1 : Nat → Prop} {post : Option Value → List ev_E → Prop} {a : Array Value} {mc ms : Nat} {st0 : List Value} (hr : va_Run p l e R s m args below meth c H locs kc ks mc ms (F0 m pc ls st0) rest (ev_Qc D ct adc Nc A1 post a) free) (hS : va_S A s.heap H locs) (hA : ∀ q, A1 q → A q) (hf : ∀ q, free q → A q)
    (kk : ∀ (r : Option Value) (w' : List ev_E) (ad' : Nat → Nat) (H1 : Heap) (locs1 : List Loc), post r w' → ev_eqn Nc ad' adc → va_P D vwCl (ev_lay ad' ct w') H1 → va_D A1 (ev_lay ad' ct w') → H.size ≤ H1.size → (∀ q : Nat, q < H.size → ¬ A1 q → H1[q]? = H[q]?) → va_S A s.heap H1 locs1 → W p l e R s m args below meth c H1 locs1 (kc + mc) (ks + ms) Q (F0 m (pc + 3) ls ((r.map (ev_cv ad')).toList ++ rest))) : W p l e R s m args below meth c H locs kc ks Q (F0 m pc ls st0) := by
  intro T hT X
  obtain ⟨v, st₀, t, T', L, h0, X', hL, e1, e2, ⟨⟨r, w', ad', hv, hp, hn, hP1, hK1, hD1⟩, hz, hk⟩, st⟩ := hr T hT X
  cases hv
  rw [h0] at hz hk
  rw [← e1] at hP1
  obtain ⟨t2, a1, b1⟩ := kk r w' ad' T'.heap (locs ++ L) hp hn hP1 hD1 (by rw [e1]; exact hz) (fun q h1 h2 => by rw [e1]; exact hk q h1 h2)
    ⟨Nat.le_trans hS.1 (by rw [e1]; exact hz), fun q h1 h2 => by rw [e1, hk q (Nat.lt_of_lt_of_le h1 hS.1) (fun z => h2 (hA q z))]; exact hS.2.1 q h1 h2, fun q hq => by
      rcases List.mem_append.mp hq with h | h
      · exact hS.2.2 q h
      · exact hf _ (hL q h)⟩ T' rfl X'
  exact ⟨t2, st t2 a1, b1⟩
/-- the callee's cells, cut out -/
theorem ev_cut {w wc : List ev_E} {em : Nat → Nat} (hP : va_P D vwCl (ev_lay ad ct w) H) (hD : va_D A (ev_lay ad ct w)) (hA : ∀ q, s.heap.size ≤ q → A q) (hS : va_S A s.heap H locs) (hsel : ev_pick w em 0 wc.length = wc.map (ev_ren em)) (hinj : ∀ i, i < wc.length → ∀ j, j < wc.length → em i = em j → i = j) :
    va_P D vwCl (ev_lay (fun k => ad (em k)) ct wc) H ∧ va_D (fun _ => True) (ev_lay (fun k => ad (em k)) ct wc) ∧ (∀ q, va_A (ev_lay (fun k => ad (em k)) ct wc) H.size q → A q) := by
  have hg := ev_pick_get wc 0 hsel
  have hat : ∀ (k : Nat) (q : Nat × va_E), (ev_lay (fun k => ad (em k)) ct wc)[k]? = some q → k < wc.length ∧ (ev_lay ad ct w)[em k]? = some q := by
    intro k q hq
    obtain ⟨E, h1, h2⟩ := ev_lay_inv hq
    have h3 := hg k E h1
    rw [Nat.zero_add] at h3
    exact ⟨(List.getElem?_eq_some_iff.mp h1).1, by rw [ev_lay_get h3, ev_ce_ren, h2]⟩
  refine ⟨fun k q hq => hP _ q (hat k q hq).2, ⟨fun i j a b hi hj hab => ?_, fun _ _ _ => trivial⟩, fun q hq => ?_⟩
  · obtain ⟨i1, i2⟩ := hat i a hi
    obtain ⟨j1, j2⟩ := hat j b hj
    exact hinj i i1 j j1 (hD.1 _ _ a b i2 j2 hab)
  · rcases hq with ⟨k, E, h⟩ | h
    · exact hD.2 _ (q, E) (hat k (q, E) h).2
    · exact hA q (Nat.le_trans hS.1 h)
/-- the callee's cells, put back -/
theorem ev_paste {w wc w' : List ev_E} {em : Nat → Nat} {H1 : Heap} (hP : va_P D vwCl (ev_lay ad ct w) H) (hD : va_D A (ev_lay ad ct w)) (hsel : ev_pick w em 0 wc.length = wc.map (ev_ren em)) (hlen : w'.length = wc.length)
    (hP1 : va_P D vwCl (ev_lay (fun k => ad (em k)) ct w') H1) (hk : ∀ q : Nat, q < H.size → ¬ va_A (ev_lay (fun k => ad (em k)) ct wc) H.size q → H1[q]? = H[q]?) :
    va_P D vwCl (ev_lay ad ct (ev_putm em w 0 w')) H1 ∧ va_D A (ev_lay ad ct (ev_putm em w 0 w')) := by
  have hg := ev_pick_get wc 0 hsel
  have hin : ∀ (j : Nat) (E : ev_E), (ev_putm em w 0 w')[j]? = some E → ∃ E0, w[j]? = some E0 := by
    intro j E h
    have h1 := (List.getElem?_eq_some_iff.mp h).1
    rw [ev_putm_len] at h1
    exact ⟨_, List.getElem?_eq_getElem h1⟩
  refine ⟨fun j q hq => ?_, ⟨fun i j a b hi hj hab => ?_, fun j q hq => ?_⟩⟩
  · obtain ⟨E, h1, rfl⟩ := ev_lay_inv hq
    rcases ev_putm_get w' w 0 j E h1 with ⟨i, E0, g1, g2, g3⟩ | ⟨g1, g2⟩
    · rw [Nat.zero_add] at g2
      subst g2; subst g3
      have := hP1 i _ (ev_lay_get g1)
      rw [ev_ce_ren]
      exact this
    · have h2 := hP j _ (ev_lay_get g2)
      refine h2.kept (hk _ h2.lt fun hq => ?_)
      rcases hq with ⟨k, E1, h⟩ | h
      · obtain ⟨E2, k1, k2⟩ := ev_lay_inv h
        have k3 := hg k E2 k1
        rw [Nat.zero_add] at k3
        have k4 := hD.1 _ _ _ _ (ev_lay_get g2) (ev_lay_get k3) (by have := congrArg Prod.fst k2; exact this)
        exact g1 k (by rw [hlen]; exact (List.getElem?_eq_some_iff.mp k1).1) (by rw [Nat.zero_add]; exact k4.symm)
      · have := h2.lt
        dsimp only at this h
        omega
  · obtain ⟨E1, h1, rfl⟩ := ev_lay_inv hi
    obtain ⟨E2, h2, rfl⟩ := ev_lay_inv hj
    obtain ⟨F1, g1⟩ := hin i E1 h1
    obtain ⟨F2, g2⟩ := hin j E2 h2
    exact hD.1 i j (ad i, ev_ce ad ct F1) (ad j, ev_ce ad ct F2) (ev_lay_get g1) (ev_lay_get g2) hab
  · obtain ⟨E1, h1, rfl⟩ := ev_lay_inv hq
    obtain ⟨F1, g1⟩ := hin j E1 h1
    exact hD.2 j (ad j, ev_ce ad ct F1) (ev_lay_get g1)
end EVC
theorem ev_sum_cat (ad : Nat → Nat) (l : List Value) : ((l.map (ev_cv ad)).map fun v => v.category).sum = (l.map fun v => v.category).sum := by
  rw [List.map_map]
  exact congrArg List.sum (List.map_congr_left fun v _ => ev_cv_cat ad v)
/-- a virtual call: the callee's cells at the places em 0, em 1 .. of the caller's -/
theorem ev_callV {μ μc : ev_M} {N0 : Option Nat} {X : ev_X} (em : Nat → Nat) {pc : Nat} {L : ev_L} {st rest : List Value} {w : List ev_E} {kc ks ci n idx nx k x yy : Nat} {v : Value} {y : MethodName} {as1 : List Value} {fs : List Value} {wt : List ev_E} {post : Option Value → List ev_E → Prop}
    (hM : ev_A y μc none (.ref 0 :: as1) (.inr (ci, fs) :: wt) post) (cv : ev_CV y μc ci n) (hl : ev_ml (ev_own μ) idx y) (hlk : ev_look (ev_tab μ) pc = some (.invokevirtual idx, nx, k, x, yy, v))
    (hst : (as1.map (ev_cv em)).reverse ++ (.ref (em 0) :: rest) = st) (hn : as1.length = n) (hsel : ev_pick w em 0 (.inr (ci, fs) :: wt : List ev_E).length = (.inr (ci, fs) :: wt : List ev_E).map (ev_ren em)) (hinj : ∀ i, i < (.inr (ci, fs) :: wt : List ev_E).length → ∀ j, j < (.inr (ci, fs) :: wt : List ev_E).length → em i = em j → i = j)
    (hW : (rest.map fun v => v.category).sum ≤ 8) (hroom : ev_fr μc + 1 ≤ ev_fr μ ∧ 8 + (ev_nL μc + 11) + ev_lo μc ≤ ev_lo μ) (hmc : kc + ev_mc μc ≤ ev_mc μ ∧ ks + ev_ms μc ≤ ev_ms μ) (hlen : ∀ r w', post r w' → w'.length = (.inr (ci, fs) :: wt : List ev_E).length)
    (kk : ∀ r w', post r w' → ev_V μ N0 X (pc + 3) L ((r.map (ev_cv em)).toList ++ rest) (ev_putm em w 0 w') (kc + ev_mc μc) (ks + ev_ms μc)) : ev_V μ N0 X pc L st w kc ks := by
  subst hst
  intro p l e R s m args below meth c D ct ad0 A Q h0 hx ad H locs ls I
  have h0' := h0
  obtain ⟨hP, hD, hS, hE, hL⟩ := I
  obtain ⟨hok, hfix, hK, hA⟩ := h0
  obtain ⟨hd, -, -⟩ := ev_use hok hlk
  obtain ⟨hPc, hDc, hFc⟩ := ev_cut (H := H) (locs := locs) (s := s) hP hD hA hS hsel hinj
  have hrun := ev_runV (l := l) (e := e) (below := below) (locs := locs) (H := H) (kc := kc) (ks := ks) (ls := ls) (pc := pc) (b := ad (em 0)) (As := as1.map (ev_cv fun k => ad (em k))) (rest := rest.map (ev_cv ad)) h0' (hM l D ct (fun k => ad (em k)) H.size) cv hl hroom hmc
    ⟨ev_blind, by rw [cv.2.2.2.2.2.1]; exact va_recv (a := ad (em 0)) (fs := fs.map (ev_cv fun k => ad (em k))) hK hPc (ci := ci) (q0 := 0) (ev_cl cv.2.2.2.2.2.2) (ev_lay_get (ad := fun k => ad (em k)) (ct := ct) (w := .inr (ci, fs) :: wt) (k := 0) (E := .inr (ci, fs)) rfl), fun U hU hWu => ⟨rfl, by rw [hU], by rw [hU]; exact hPc, va_K.moved hWu.alike hK, hDc⟩⟩ (by rw [List.length_map]; exact hn) hL.1 (by rw [ev_sum_cat]; exact hW) hd
  have e1 : ((as1.map (ev_cv em)).reverse ++ (.ref (em 0) :: rest)).map (ev_cv ad) = (as1.map (ev_cv fun k => ad (em k))).reverse ++ .ref (ad (em 0)) :: rest.map (ev_cv ad) := by
    rw [List.map_append, List.map_reverse, List.map_map]
    rw [show (ev_cv ad ∘ ev_cv em) = ev_cv (fun k => ad (em k)) from funext fun v => ev_cv_cv ad em v]
    first | done | rfl
  rw [e1]
  refine ev_back hrun hS hFc hFc fun r w' ad' H1 locs1 hp hn' hP1 hD1 hz hk hS1 => ?_
  cases hn'
  obtain ⟨hP2, hD2⟩ := ev_paste hP hD hsel (hlen r w' hp) hP1 hk
  have := kk r w' hp p l e R s m args below meth c D ct ad0 A Q h0' hx ad H1 locs1 ls ⟨hP2, hD2, hS1, hE, hL⟩
  have e2 : ((r.map (ev_cv em)).toList ++ rest).map (ev_cv ad) = (r.map (ev_cv fun k => ad (em k))).toList ++ rest.map (ev_cv ad) := by
    rw [List.map_append]
    cases r with
    | none => rfl
    | some v => exact congrArg (fun z => z :: rest.map (ev_cv ad)) (ev_cv_cv ad em v)
  rw [e2] at this
  exact this
theorem ev_callS {μ μc : ev_M} {N0 : Option Nat} {X : ev_X} (em : Nat → Nat) {pc : Nat} {L : ev_L} {st rest : List Value} {w : List ev_E} {kc ks n idx nx k x yy : Nat} {v : Value} {y : MethodName} {as1 : List Value} {wt : List ev_E} {post : Option Value → List ev_E → Prop}
    (hM : ev_A y μc none as1 wt post) (cv : ev_CS y μc n) (hl : ev_ml (ev_own μ) idx y) (hlk : ev_look (ev_tab μ) pc = some (.invokestatic idx, nx, k, x, yy, v))
    (hst : (as1.map (ev_cv em)).reverse ++ rest = st) (hn : as1.length = n) (hsel : ev_pick w em 0 wt.length = wt.map (ev_ren em)) (hinj : ∀ i, i < wt.length → ∀ j, j < wt.length → em i = em j → i = j)
    (hW : (rest.map fun v => v.category).sum ≤ 8) (hroom : ev_fr μc + 1 ≤ ev_fr μ ∧ 8 + (ev_nL μc + 11) + ev_lo μc ≤ ev_lo μ) (hmc : kc + ev_mc μc ≤ ev_mc μ ∧ ks + ev_ms μc ≤ ev_ms μ) (hlen : ∀ r w', post r w' → w'.length = wt.length)
    (kk : ∀ r w', post r w' → ev_V μ N0 X (pc + 3) L ((r.map (ev_cv em)).toList ++ rest) (ev_putm em w 0 w') (kc + ev_mc μc) (ks + ev_ms μc)) : ev_V μ N0 X pc L st w kc ks := by
  subst hst
  intro p l e R s m args below meth c D ct ad0 A Q h0 hx ad H locs ls I
  have h0' := h0
  obtain ⟨hP, hD, hS, hE, hL⟩ := I
  obtain ⟨hok, hfix, hK, hA⟩ := h0
  obtain ⟨hd, -, -⟩ := ev_use hok hlk
  obtain ⟨hPc, hDc, hFc⟩ := ev_cut (H := H) (locs := locs) (s := s) hP hD hA hS hsel hinj
  have hrun := ev_runS (l := l) (e := e) (below := below) (locs := locs) (H := H) (kc := kc) (ks := ks) (ls := ls) (pc := pc) (As := as1.map (ev_cv fun k => ad (em k))) (rest := rest.map (ev_cv ad)) h0' (hM l D ct (fun k => ad (em k)) H.size) cv hl hroom hmc
    ⟨ev_blind, fun U hU hWu => ⟨rfl, by rw [hU], by rw [hU]; exact hPc, va_K.moved hWu.alike hK, hDc⟩⟩ (by rw [List.length_map]; exact hn) hL.1 (by rw [ev_sum_cat]; exact hW) hd
  have e1 : ((as1.map (ev_cv em)).reverse ++ rest).map (ev_cv ad) = (as1.map (ev_cv fun k => ad (em k))).reverse ++ rest.map (ev_cv ad) := by
    rw [List.map_append, List.map_reverse, List.map_map]
    rw [show (ev_cv ad ∘ ev_cv em) = ev_cv (fun k => ad (em k)) from funext fun v => ev_cv_cv ad em v]
  rw [e1]
  refine ev_back hrun hS hFc hFc fun r w' ad' H1 locs1 hp hn' hP1 hD1 hz hk hS1 => ?_
  cases hn'
  obtain ⟨hP2, hD2⟩ := ev_paste hP hD hsel (hlen r w' hp) hP1 hk
  have := kk r w' hp p l e R s m args below meth c D ct ad0 A Q h0' hx ad H1 locs1 ls ⟨hP2, hD2, hS1, hE, hL⟩
  have e2 : ((r.map (ev_cv em)).toList ++ rest).map (ev_cv ad) = (r.map (ev_cv fun k => ad (em k))).toList ++ rest.map (ev_cv ad) := by
    rw [List.map_append]
    cases r with
    | none => rfl
    | some v => exact congrArg (fun z => z :: rest.map (ev_cv ad)) (ev_cv_cv ad em v)
  rw [e2] at this
  exact this
end
section
/-! tables of the methods of java/lang/Integer, laid by wip/p32/gen/tabs2.py -/
def tb_J6_numberOfTrailingZeros_0f7a4 : ev_T := [(0, .iload_n 0, 1, 0, 0, 0, .null),
  (1, .iconst (-1), 2, 0, 0, 0, .int (-1)),
  (2, .ixor, 3, 0, 0, 0, .null),
  (3, .iload_n 0, 4, 0, 0, 0, .null),
  (4, .iconst 1, 5, 0, 0, 0, .int 1),
  (5, .isub, 6, 0, 0, 0, .null),
  (6, .iand, 7, 0, 0, 0, .null),
  (7, .istore_n 0, 8, 0, 0, 0, .null),
  (8, .iload_n 0, 9, 0, 0, 0, .null),
  (9, .ifCond .gt 8, 12, 0, 17, 0, .null),
  (12, .iload_n 0, 13, 0, 0, 0, .null),
  (13, .bipush 32, 15, 0, 0, 0, .int 32),
  (15, .iand, 16, 0, 0, 0, .null),
  (16, .ireturn, 17, 0, 0, 0, .null),
  (17, .iconst 1, 18, 0, 0, 0, .int 1),
  (18, .istore_n 1, 19, 0, 1, 0, .null),
  (19, .iload_n 0, 20, 0, 0, 0, .null),
  (20, .ldc_w 264, 23, 446, 0, 0, .int 65536),
  (23, .if_icmp .le 11, 26, 0, 34, 0, .null),
  (26, .iinc 1 16, 29, 0, 1, 0, .int 16),
  (29, .iload_n 0, 30, 0, 0, 0, .null),
  (30, .bipush 16, 32, 0, 0, 0, .int 16),
  (32, .iushr, 33, 0, 0, 0, .null),
  (33, .istore_n 0, 34, 0, 0, 0, .null),
  (34, .iload_n 0, 35, 0, 0, 0, .null),
  (35, .sipush 256, 38, 0, 0, 0, .int 256),
  (38, .if_icmp .le 11, 41, 0, 49, 0, .null),
  (41, .iinc 1 8, 44, 0, 1, 0, .int 8),
  (44, .iload_n 0, 45, 0, 0, 0, .null),
  (45, .bipush 8, 47, 0, 0, 0, .int 8),
  (47, .iushr, 48, 0, 0, 0, .null),
  (48, .istore_n 0, 49, 0, 0, 0, .null),
  (49, .iload_n 0, 50, 0, 0, 0, .null),
  (50, .bipush 16, 52, 0, 0, 0, .int 16),
  (52, .if_icmp .le 10, 55, 0, 62, 0, .null),
  (55, .iinc 1 4, 58, 0, 1, 0, .int 4),
  (58, .iload_n 0, 59, 0, 0, 0, .null),
  (59, .iconst 4, 60, 0, 0, 0, .int 4),
  (60, .iushr, 61, 0, 0, 0, .null),
  (61, .istore_n 0, 62, 0, 0, 0, .null),
  (62, .iload_n 0, 63, 0, 0, 0, .null),
  (63, .iconst 4, 64, 0, 0, 0, .int 4),
  (64, .if_icmp .le 10, 67, 0, 74, 0, .null),
  (67, .iinc 1 2, 70, 0, 1, 0, .int 2),
  (70, .iload_n 0, 71, 0, 0, 0, .null),
  (71, .iconst 2, 72, 0, 0, 0, .int 2),
  (72, .iushr, 73, 0, 0, 0, .null),
  (73, .istore_n 0, 74, 0, 0, 0, .null),
  (74, .iload_n 1, 75, 0, 1, 0, .null),
  (75, .iload_n 0, 76, 0, 0, 0, .null),
  (76, .iconst 1, 77, 0, 0, 0, .int 1),
  (77, .iushr, 78, 0, 0, 0, .null),
  (78, .iadd, 79, 0, 0, 0, .null),
  (79, .ireturn, 80, 0, 0, 0, .null)]
def mm_J6_numberOfTrailingZeros_0f7a4 : ev_M := (RJ6, "numberOfTrailingZeros", cJ6_numberOfTrailingZeros_0f7a4, 2, (some .int), tb_J6_numberOfTrailingZeros_0f7a4, 0, 0, 0, 0)
set_option maxRecDepth 100000 in
theorem ok_J6_numberOfTrailingZeros_0f7a4 : ev_OK mm_J6_numberOfTrailingZeros_0f7a4 := by unfold ev_OK; decide +kernel
theorem cs_J6_numberOfTrailingZeros_0f7a4 : ev_CS yJ6_numberOfTrailingZeros_0f7a4 mm_J6_numberOfTrailingZeros_0f7a4 1 := ⟨ev_has_in (k := 445) (by decide +kernel), ev_has_in (k := 36) (by decide +kernel), ev_has_in (k := 444) (by decide +kernel), ⟨by decide +kernel, by decide +kernel, by decide +kernel⟩⟩
def tb_J6_bitCount_0f7a4 : ev_T := [(0, .iload_n 0, 1, 0, 0, 0, .null),
  (1, .iload_n 0, 2, 0, 0, 0, .null),
  (2, .iconst 1, 3, 0, 0, 0, .int 1),
  (3, .iushr, 4, 0, 0, 0, .null),
  (4, .ldc_w 265, 7, 335, 0, 0, .int 1431655765),
  (7, .iand, 8, 0, 0, 0, .null),
  (8, .isub, 9, 0, 0, 0, .null),
  (9, .istore_n 0, 10, 0, 0, 0, .null),
  (10, .iload_n 0, 11, 0, 0, 0, .null),
  (11, .ldc_w 266, 14, 336, 0, 0, .int 858993459),
  (14, .iand, 15, 0, 0, 0, .null),
  (15, .iload_n 0, 16, 0, 0, 0, .null),
  (16, .iconst 2, 17, 0, 0, 0, .int 2),
  (17, .iushr, 18, 0, 0, 0, .null),
  (18, .ldc_w 266, 21, 336, 0, 0, .int 858993459),
  (21, .iand, 22, 0, 0, 0, .null),
  (22, .iadd, 23, 0, 0, 0, .null),
  (23, .istore_n 0, 24, 0, 0, 0, .null),
  (24, .iload_n 0, 25, 0, 0, 0, .null),
  (25, .iload_n 0, 26, 0, 0, 0, .null),
  (26, .iconst 4, 27, 0, 0, 0, .int 4),
  (27, .iushr, 28, 0, 0, 0, .null),
  (28, .iadd, 29, 0, 0, 0, .null),
  (29, .ldc_w 267, 32, 337, 0, 0, .int 252645135),
  (32, .iand, 33, 0, 0, 0, .null),
  (33, .istore_n 0, 34, 0, 0, 0, .null),
  (34, .iload_n 0, 35, 0, 0, 0, .null),
  (35, .iload_n 0, 36, 0, 0, 0, .null),
  (36, .bipush 8, 38, 0, 0, 0, .int 8),
  (38, .iushr, 39, 0, 0, 0, .null),
  (39, .iadd, 40, 0, 0, 0, .null),
  (40, .istore_n 0, 41, 0, 0, 0, .null),
  (41, .iload_n 0, 42, 0, 0, 0, .null),
  (42, .iload_n 0, 43, 0, 0, 0, .null),
  (43, .bipush 16, 45, 0, 0, 0, .int 16),
  (45, .iushr, 46, 0, 0, 0, .null),
  (46, .iadd, 47, 0, 0, 0, .null),
  (47, .istore_n 0, 48, 0, 0, 0, .null),
  (48, .iload_n 0, 49, 0, 0, 0, .null),
  (49, .bipush 63, 51, 0, 0, 0, .int 63),
  (51, .iand, 52, 0, 0, 0, .null),
  (52, .ireturn, 53, 0, 0, 0, .null)]
def mm_J6_bitCount_0f7a4 : ev_M := (RJ6, "bitCount", cJ6_bitCount_0f7a4, 1, (some .int), tb_J6_bitCount_0f7a4, 0, 0, 0, 0)
set_option maxRecDepth 100000 in
theorem ok_J6_bitCount_0f7a4 : ev_OK mm_J6_bitCount_0f7a4 := by unfold ev_OK; decide +kernel
theorem cs_J6_bitCount_0f7a4 : ev_CS yJ6_bitCount_0f7a4 mm_J6_bitCount_0f7a4 1 := ⟨ev_has_in (k := 334) (by decide +kernel), ev_has_in (k := 36) (by decide +kernel), ev_has_in (k := 333) (by decide +kernel), ⟨by decide +kernel, by decide +kernel, by decide +kernel⟩⟩
end
section
/-! tables of the methods of java/lang/Math, laid by wip/p32/gen/tabs2.py -/
def tb_J9_floorMod_7cf53 : ev_T := [(0, .iload_n 0, 1, 0, 0, 0, .null),
  (1, .iload_n 1, 2, 0, 1, 0, .null),
  (2, .irem, 3, 0, 0, 0, .null),
  (3, .istore_n 2, 4, 0, 2, 0, .null),
  (4, .iload_n 0, 5, 0, 0, 0, .null),
  (5, .iload_n 1, 6, 0, 1, 0, .null),
  (6, .ixor, 7, 0, 0, 0, .null),
  (7, .ifCond .ge 11, 10, 0, 18, 0, .null),
  (10, .iload_n 2, 11, 0, 2, 0, .null),
  (11, .ifCond .eq 7, 14, 0, 18, 0, .null),
  (14, .iload_n 2, 15, 0, 2, 0, .null),
  (15, .iload_n 1, 16, 0, 1, 0, .null),
  (16, .iadd, 17, 0, 0, 0, .null),
  (17, .ireturn, 18, 0, 0, 0, .null),
  (18, .iload_n 2, 19, 0, 2, 0, .null),
  (19, .ireturn, 20, 0, 0, 0, .null)]
def mm_J9_floorMod_7cf53 : ev_M := (RJ9, "floorMod", cJ9_floorMod_7cf53, 3, (some .int), tb_J9_floorMod_7cf53, 0, 0, 0, 0)
set_option maxRecDepth 100000 in
theorem ok_J9_floorMod_7cf53 : ev_OK mm_J9_floorMod_7cf53 := by unfold ev_OK; decide +kernel
theorem cs_J9_floorMod_7cf53 : ev_CS yJ9_floorMod_7cf53 mm_J9_floorMod_7cf53 2 := ⟨ev_has_in (k := 412) (by decide +kernel), ev_has_in (k := 35) (by decide +kernel), ev_has_in (k := 411) (by decide +kernel), ⟨by decide +kernel, by decide +kernel, by decide +kernel⟩⟩
end
section
/-! tables of the methods of GossipCountsLaw, laid by wip/p32/gen/tabs2.py -/
theorem ev_app {p : Nat × ev_I → Bool} {a b : ev_T} (h1 : a.all p = true) (h2 : b.all p = true) : (a ++ b).all p = true := by rw [List.all_append, h1, h2]; rfl
def tb_L_low : ev_T := [(0, .iload_n 0, 1, 0, 0, 0, .null),
  (1, .ldc 9, 3, 473, 0, 0, .int 2147483647),
  (3, .iand, 4, 0, 0, 0, .null),
  (4, .iload_n 1, 5, 0, 1, 0, .null),
  (5, .irem, 6, 0, 0, 0, .null),
  (6, .ireturn, 7, 0, 0, 0, .null)]
def mm_L_low : ev_M := (RL, "low", cL_low, 2, (some .int), tb_L_low, 0, 0, 0, 0)
set_option maxRecDepth 100000 in
theorem ok_L_low : ev_OK mm_L_low := by unfold ev_OK; decide +kernel
theorem cs_L_low : ev_CS yL_low mm_L_low 2 := ⟨ev_has_in (k := 472) (by decide +kernel), ev_has_in (k := 22) (by decide +kernel), ev_has_in (k := 471) (by decide +kernel), ⟨by decide +kernel, by decide +kernel, by decide +kernel⟩⟩
def tb_L_lives : ev_T := [(0, .aload_n 1, 1, 0, 1, 0, .null),
  (1, .bipush 8, 3, 0, 0, 0, .int 8),
  (3, .iload_n 0, 4, 0, 0, 0, .null),
  (4, .imul, 5, 0, 0, 0, .null),
  (5, .iaload, 6, 0, 0, 0, .null),
  (6, .iconst 1, 7, 0, 0, 0, .int 1),
  (7, .if_icmp .ne 7, 10, 0, 14, 0, .null),
  (10, .iconst 1, 11, 0, 0, 0, .int 1),
  (11, .goto 4, 14, 0, 15, 0, .null),
  (14, .iconst 0, 15, 0, 0, 0, .int 0),
  (15, .ireturn, 16, 0, 0, 0, .null)]
def mm_L_lives : ev_M := (RL, "lives", cL_lives, 2, (some .boolean), tb_L_lives, 0, 0, 0, 0)
set_option maxRecDepth 100000 in
theorem ok_L_lives : ev_OK mm_L_lives := by unfold ev_OK; decide +kernel
theorem cs_L_lives : ev_CS yL_lives mm_L_lives 2 := ⟨ev_has_in (k := 515) (by decide +kernel), ev_has_in (k := 22) (by decide +kernel), ev_has_in (k := 514) (by decide +kernel), ⟨by decide +kernel, by decide +kernel, by decide +kernel⟩⟩
def tb_L_truth : ev_T := [(0, .iconst 0, 1, 0, 0, 0, .int 0),
  (1, .istore_n 3, 2, 0, 3, 0, .null),
  (2, .iconst 0, 3, 0, 0, 0, .int 0),
  (3, .istore 4, 5, 0, 4, 0, .null),
  (5, .iload 4, 7, 0, 4, 0, .null),
  (7, .bipush 28, 9, 0, 0, 0, .int 28),
  (9, .if_icmp .ge 43, 12, 0, 52, 0, .null),
  (12, .iload_n 3, 13, 0, 3, 0, .null),
  (13, .aload_n 2, 14, 0, 2, 0, .null),
  (14, .iload 4, 16, 0, 4, 0, .null),
  (16, .iaload, 17, 0, 0, 0, .null),
  (17, .iload_n 0, 18, 0, 0, 0, .null),
  (18, .if_icmp .ne 25, 21, 0, 43, 0, .null),
  (21, .iload 4, 23, 0, 4, 0, .null),
  (23, .bipush 24, 25, 0, 0, 0, .int 24),
  (25, .if_icmp .ge 14, 28, 0, 39, 0, .null),
  (28, .iload 4, 30, 0, 4, 0, .null),
  (30, .iconst 4, 31, 0, 0, 0, .int 4),
  (31, .idiv, 32, 0, 0, 0, .null),
  (32, .aload_n 1, 33, 0, 1, 0, .null),
  (33, .invokestatic 24, 36, 0, 0, 0, .null),
  (36, .ifCond .eq 7, 39, 0, 43, 0, .null),
  (39, .iconst 1, 40, 0, 0, 0, .int 1),
  (40, .goto 4, 43, 0, 44, 0, .null),
  (43, .iconst 0, 44, 0, 0, 0, .int 0),
  (44, .iadd, 45, 0, 0, 0, .null),
  (45, .istore_n 3, 46, 0, 3, 0, .null),
  (46, .iinc 4 1, 49, 0, 4, 0, .int 1),
  (49, .goto (-44), 52, 0, 5, 0, .null),
  (52, .iload_n 0, 53, 0, 0, 0, .null),
  (53, .aload_n 1, 54, 0, 1, 0, .null),
  (54, .invokestatic 24, 57, 0, 0, 0, .null),
  (57, .ifCond .eq 7, 60, 0, 64, 0, .null),
  (60, .iload_n 3, 61, 0, 3, 0, .null),
  (61, .goto 4, 64, 0, 65, 0, .null),
  (64, .iconst 0, 65, 0, 0, 0, .int 0),
  (65, .ireturn, 66, 0, 0, 0, .null)]
def mm_L_truth : ev_M := (RL, "truth", cL_truth, 5, (some .int), tb_L_truth, 1, 21, 0, 0)
set_option maxRecDepth 100000 in
theorem ok_L_truth : ev_OK mm_L_truth := by unfold ev_OK; decide +kernel
theorem cs_L_truth : ev_CS yL_truth mm_L_truth 3 := ⟨ev_has_in (k := 527) (by decide +kernel), ev_has_in (k := 22) (by decide +kernel), ev_has_in (k := 526) (by decide +kernel), ⟨by decide +kernel, by decide +kernel, by decide +kernel⟩⟩
def tb_L_report : ev_T := [(0, .aload_n 3, 1, 0, 3, 0, .null),
  (1, .aload_n 2, 2, 0, 2, 0, .null),
  (2, .iconst 2, 3, 0, 0, 0, .int 2),
  (3, .dup2, 4, 0, 0, 0, .null),
  (4, .iaload, 5, 0, 0, 0, .null),
  (5, .dup_x2, 6, 0, 0, 0, .null),
  (6, .iconst 1, 7, 0, 0, 0, .int 1),
  (7, .iadd, 8, 0, 0, 0, .null),
  (8, .iastore, 9, 0, 0, 0, .null),
  (9, .aload_n 2, 10, 0, 2, 0, .null),
  (10, .iconst 0, 11, 0, 0, 0, .int 0),
  (11, .iaload, 12, 0, 0, 0, .null),
  (12, .aload_n 2, 13, 0, 2, 0, .null),
  (13, .bipush 7, 15, 0, 0, 0, .int 7),
  (15, .iload_n 0, 16, 0, 0, 0, .null),
  (16, .iconst 3, 17, 0, 0, 0, .int 3),
  (17, .irem, 18, 0, 0, 0, .null),
  (18, .iadd, 19, 0, 0, 0, .null),
  (19, .iaload, 20, 0, 0, 0, .null),
  (20, .iadd, 21, 0, 0, 0, .null),
  (21, .sipush 128, 24, 0, 0, 0, .int 128),
  (24, .imul, 25, 0, 0, 0, .null),
  (25, .aload_n 2, 26, 0, 2, 0, .null),
  (26, .iconst 1, 27, 0, 0, 0, .int 1),
  (27, .dup2, 28, 0, 0, 0, .null),
  (28, .iaload, 29, 0, 0, 0, .null),
  (29, .dup_x2, 30, 0, 0, 0, .null),
  (30, .iconst 1, 31, 0, 0, 0, .int 1),
  (31, .iadd, 32, 0, 0, 0, .null),
  (32, .iastore, 33, 0, 0, 0, .null),
  (33, .iadd, 34, 0, 0, 0, .null),
  (34, .bipush 8, 36, 0, 0, 0, .int 8),
  (36, .imul, 37, 0, 0, 0, .null),
  (37, .iload_n 0, 38, 0, 0, 0, .null),
  (38, .iadd, 39, 0, 0, 0, .null),
  (39, .iconst 2, 40, 0, 0, 0, .int 2),
  (40, .imul, 41, 0, 0, 0, .null),
  (41, .iload_n 1, 42, 0, 1, 0, .null),
  (42, .ifCond .le 7, 45, 0, 49, 0, .null),
  (45, .iconst 1, 46, 0, 0, 0, .int 1),
  (46, .goto 4, 49, 0, 50, 0, .null),
  (49, .iconst 0, 50, 0, 0, 0, .int 0),
  (50, .iadd, 51, 0, 0, 0, .null),
  (51, .iastore, 52, 0, 0, 0, .null),
  (52, .return_, 53, 0, 0, 0, .null)]
def mm_L_report : ev_M := (RL, "report", cL_report, 4, none, tb_L_report, 0, 0, 0, 0)
set_option maxRecDepth 100000 in
theorem ok_L_report : ev_OK mm_L_report := by unfold ev_OK; decide +kernel
theorem cs_L_report : ev_CS yL_report mm_L_report 4 := ⟨ev_has_in (k := 518) (by decide +kernel), ev_has_in (k := 22) (by decide +kernel), ev_has_in (k := 517) (by decide +kernel), ⟨by decide +kernel, by decide +kernel, by decide +kernel⟩⟩
def tb_L_underWay : ev_T := [(0, .iconst 0, 1, 0, 0, 0, .int 0),
  (1, .istore_n 3, 2, 0, 3, 0, .null),
  (2, .iconst 0, 3, 0, 0, 0, .int 0),
  (3, .istore 4, 5, 0, 4, 0, .null),
  (5, .iload 4, 7, 0, 4, 0, .null),
  (7, .aload_n 1, 8, 0, 1, 0, .null),
  (8, .iconst 2, 9, 0, 0, 0, .int 2),
  (9, .iaload, 10, 0, 0, 0, .null),
  (10, .if_icmp .ge 30, 13, 0, 40, 0, .null),
  (13, .iload_n 3, 14, 0, 3, 0, .null),
  (14, .aload_n 2, 15, 0, 2, 0, .null),
  (15, .iload 4, 17, 0, 4, 0, .null),
  (17, .iaload, 18, 0, 0, 0, .null),
  (18, .iconst 2, 19, 0, 0, 0, .int 2),
  (19, .idiv, 20, 0, 0, 0, .null),
  (20, .bipush 8, 22, 0, 0, 0, .int 8),
  (22, .irem, 23, 0, 0, 0, .null),
  (23, .iload_n 0, 24, 0, 0, 0, .null),
  (24, .if_icmp .ne 7, 27, 0, 31, 0, .null),
  (27, .iconst 1, 28, 0, 0, 0, .int 1),
  (28, .goto 4, 31, 0, 32, 0, .null),
  (31, .iconst 0, 32, 0, 0, 0, .int 0),
  (32, .iadd, 33, 0, 0, 0, .null),
  (33, .istore_n 3, 34, 0, 3, 0, .null),
  (34, .iinc 4 1, 37, 0, 4, 0, .int 1),
  (37, .goto (-32), 40, 0, 5, 0, .null),
  (40, .iload_n 3, 41, 0, 3, 0, .null),
  (41, .ireturn, 42, 0, 0, 0, .null)]
def mm_L_underWay : ev_M := (RL, "underWay", cL_underWay, 5, (some .int), tb_L_underWay, 0, 0, 0, 0)
set_option maxRecDepth 100000 in
theorem ok_L_underWay : ev_OK mm_L_underWay := by unfold ev_OK; decide +kernel
theorem cs_L_underWay : ev_CS yL_underWay mm_L_underWay 3 := ⟨ev_has_in (k := 524) (by decide +kernel), ev_has_in (k := 22) (by decide +kernel), ev_has_in (k := 523) (by decide +kernel), ⟨by decide +kernel, by decide +kernel, by decide +kernel⟩⟩
def tb_L_sum : ev_T := [(0, .iconst 0, 1, 0, 0, 0, .int 0),
  (1, .istore_n 3, 2, 0, 3, 0, .null),
  (2, .iconst 0, 3, 0, 0, 0, .int 0),
  (3, .istore 4, 5, 0, 4, 0, .null),
  (5, .iload 4, 7, 0, 4, 0, .null),
  (7, .aload_n 1, 8, 0, 1, 0, .null),
  (8, .iconst 2, 9, 0, 0, 0, .int 2),
  (9, .iaload, 10, 0, 0, 0, .null),
  (10, .if_icmp .ge 39, 13, 0, 49, 0, .null),
  (13, .iload_n 3, 14, 0, 3, 0, .null),
  (14, .aload_n 2, 15, 0, 2, 0, .null),
  (15, .iload 4, 17, 0, 4, 0, .null),
  (17, .iaload, 18, 0, 0, 0, .null),
  (18, .iconst 2, 19, 0, 0, 0, .int 2),
  (19, .idiv, 20, 0, 0, 0, .null),
  (20, .bipush 8, 22, 0, 0, 0, .int 8),
  (22, .irem, 23, 0, 0, 0, .null),
  (23, .iload_n 0, 24, 0, 0, 0, .null),
  (24, .if_icmp .ne 16, 27, 0, 40, 0, .null),
  (27, .iconst 2, 28, 0, 0, 0, .int 2),
  (28, .aload_n 2, 29, 0, 2, 0, .null),
  (29, .iload 4, 31, 0, 4, 0, .null),
  (31, .iaload, 32, 0, 0, 0, .null),
  (32, .iconst 2, 33, 0, 0, 0, .int 2),
  (33, .irem, 34, 0, 0, 0, .null),
  (34, .imul, 35, 0, 0, 0, .null),
  (35, .iconst 1, 36, 0, 0, 0, .int 1),
  (36, .isub, 37, 0, 0, 0, .null),
  (37, .goto 4, 40, 0, 41, 0, .null),
  (40, .iconst 0, 41, 0, 0, 0, .int 0),
  (41, .iadd, 42, 0, 0, 0, .null),
  (42, .istore_n 3, 43, 0, 3, 0, .null),
  (43, .iinc 4 1, 46, 0, 4, 0, .int 1),
  (46, .goto (-41), 49, 0, 5, 0, .null),
  (49, .iload_n 3, 50, 0, 3, 0, .null),
  (50, .ireturn, 51, 0, 0, 0, .null)]
def mm_L_sum : ev_M := (RL, "sum", cL_sum, 5, (some .int), tb_L_sum, 0, 0, 0, 0)
set_option maxRecDepth 100000 in
theorem ok_L_sum : ev_OK mm_L_sum := by unfold ev_OK; decide +kernel
theorem cs_L_sum : ev_CS yL_sum mm_L_sum 3 := ⟨ev_has_in (k := 573) (by decide +kernel), ev_has_in (k := 22) (by decide +kernel), ev_has_in (k := 572) (by decide +kernel), ⟨by decide +kernel, by decide +kernel, by decide +kernel⟩⟩
def tb_L_end : ev_T := [(0, .aload_n 3, 1, 0, 3, 0, .null),
  (1, .bipush 8, 3, 0, 0, 0, .int 8),
  (3, .iload_n 0, 4, 0, 0, 0, .null),
  (4, .imul, 5, 0, 0, 0, .null),
  (5, .iconst 0, 6, 0, 0, 0, .int 0),
  (6, .iastore, 7, 0, 0, 0, .null),
  (7, .aload_n 3, 8, 0, 3, 0, .null),
  (8, .bipush 8, 10, 0, 0, 0, .int 8),
  (10, .iload_n 0, 11, 0, 0, 0, .null),
  (11, .imul, 12, 0, 0, 0, .null),
  (12, .iconst 3, 13, 0, 0, 0, .int 3),
  (13, .iadd, 14, 0, 0, 0, .null),
  (14, .iconst 0, 15, 0, 0, 0, .int 0),
  (15, .iastore, 16, 0, 0, 0, .null),
  (16, .aload_n 3, 17, 0, 3, 0, .null),
  (17, .bipush 8, 19, 0, 0, 0, .int 8),
  (19, .iload_n 0, 20, 0, 0, 0, .null),
  (20, .imul, 21, 0, 0, 0, .null),
  (21, .iconst 4, 22, 0, 0, 0, .int 4),
  (22, .iadd, 23, 0, 0, 0, .null),
  (23, .aload_n 2, 24, 0, 2, 0, .null),
  (24, .iconst 3, 25, 0, 0, 0, .int 3),
  (25, .dup2, 26, 0, 0, 0, .null),
  (26, .iaload, 27, 0, 0, 0, .null),
  (27, .dup_x2, 28, 0, 0, 0, .null),
  (28, .iconst 1, 29, 0, 0, 0, .int 1),
  (29, .iadd, 30, 0, 0, 0, .null),
  (30, .iastore, 31, 0, 0, 0, .null),
  (31, .iastore, 32, 0, 0, 0, .null),
  (32, .aload_n 3, 33, 0, 3, 0, .null),
  (33, .bipush 8, 35, 0, 0, 0, .int 8),
  (35, .iload_n 0, 36, 0, 0, 0, .null),
  (36, .imul, 37, 0, 0, 0, .null),
  (37, .iconst 5, 38, 0, 0, 0, .int 5),
  (38, .iadd, 39, 0, 0, 0, .null),
  (39, .iload_n 1, 40, 0, 1, 0, .null),
  (40, .ifCond .ne 7, 43, 0, 47, 0, .null),
  (43, .iconst 1, 44, 0, 0, 0, .int 1),
  (44, .goto 4, 47, 0, 48, 0, .null),
  (47, .iconst 2, 48, 0, 0, 0, .int 2),
  (48, .iastore, 49, 0, 0, 0, .null),
  (49, .aload_n 3, 50, 0, 3, 0, .null),
  (50, .bipush 8, 52, 0, 0, 0, .int 8),
  (52, .iload_n 0, 53, 0, 0, 0, .null),
  (53, .imul, 54, 0, 0, 0, .null),
  (54, .bipush 7, 56, 0, 0, 0, .int 7),
  (56, .iadd, 57, 0, 0, 0, .null),
  (57, .aload_n 2, 58, 0, 2, 0, .null),
  (58, .iconst 0, 59, 0, 0, 0, .int 0),
  (59, .iaload, 60, 0, 0, 0, .null),
  (60, .iastore, 61, 0, 0, 0, .null),
  (61, .aload_n 2, 62, 0, 2, 0, .null),
  (62, .iconst 4, 63, 0, 0, 0, .int 4),
  (63, .dup2, 64, 0, 0, 0, .null),
  (64, .iaload, 65, 0, 0, 0, .null),
  (65, .iload_n 1, 66, 0, 1, 0, .null),
  (66, .ifCond .ne 7, 69, 0, 73, 0, .null),
  (69, .iconst 0, 70, 0, 0, 0, .int 0),
  (70, .goto 4, 73, 0, 74, 0, .null),
  (73, .iconst 1, 74, 0, 0, 0, .int 1),
  (74, .iadd, 75, 0, 0, 0, .null),
  (75, .iastore, 76, 0, 0, 0, .null),
  (76, .iconst 4, 77, 0, 0, 0, .int 4),
  (77, .iload_n 0, 78, 0, 0, 0, .null),
  (78, .imul, 79, 0, 0, 0, .null),
  (79, .istore 6, 81, 0, 6, 0, .null),
  (81, .iload 6, 83, 0, 6, 0, .null),
  (83, .iconst 4, 84, 0, 0, 0, .int 4),
  (84, .iload_n 0, 85, 0, 0, 0, .null),
  (85, .imul, 86, 0, 0, 0, .null),
  (86, .iconst 4, 87, 0, 0, 0, .int 4),
  (87, .iadd, 88, 0, 0, 0, .null),
  (88, .if_icmp .ge 51, 91, 0, 139, 0, .null),
  (91, .aload 4, 93, 0, 4, 0, .null),
  (93, .iload 6, 95, 0, 6, 0, .null),
  (95, .iaload, 96, 0, 0, 0, .null),
  (96, .istore 7, 98, 0, 7, 0, .null),
  (98, .aload 4, 100, 0, 4, 0, .null),
  (100, .iload 6, 102, 0, 6, 0, .null),
  (102, .iconst (-1), 103, 0, 0, 0, .int (-1)),
  (103, .iastore, 104, 0, 0, 0, .null),
  (104, .iload 7, 106, 0, 7, 0, .null),
  (106, .ifCond .lt 27, 109, 0, 133, 0, .null),
  (109, .iload 7, 111, 0, 7, 0, .null),
  (111, .iload_n 0, 112, 0, 0, 0, .null),
  (112, .if_icmp .eq 21, 115, 0, 133, 0, .null),
  (115, .iload_n 1, 116, 0, 1, 0, .null),
  (116, .iload 7, 118, 0, 7, 0, .null),
  (118, .ishr, 119, 0, 0, 0, .null),
  (119, .iconst 1, 120, 0, 0, 0, .int 1),
  (120, .iand, 121, 0, 0, 0, .null),
  (121, .ifCond .ne 12, 124, 0, 133, 0, .null),
  (124, .iload 7, 126, 0, 7, 0, .null),
  (126, .iconst (-1), 127, 0, 0, 0, .int (-1)),
  (127, .aload_n 2, 128, 0, 2, 0, .null),
  (128, .aload 5, 130, 0, 5, 0, .null),
  (130, .invokestatic 30, 133, 0, 0, 0, .null),
  (133, .iinc 6 1, 136, 0, 6, 0, .int 1),
  (136, .goto (-55), 139, 0, 81, 0, .null),
  (139, .iconst 0, 140, 0, 0, 0, .int 0),
  (140, .istore 6, 142, 0, 6, 0, .null),
  (142, .iconst 0, 143, 0, 0, 0, .int 0),
  (143, .istore 7, 145, 0, 7, 0, .null),
  (145, .iload 7, 147, 0, 7, 0, .null),
  (147, .bipush 28, 149, 0, 0, 0, .int 28),
  (149, .if_icmp .ge 60, 152, 0, 209, 0, .null),
  (152, .aload 4, 154, 0, 4, 0, .null),
  (154, .iload 7, 156, 0, 7, 0, .null),
  (156, .iaload, 157, 0, 0, 0, .null),
  (157, .iload_n 0, 158, 0, 0, 0, .null),
  (158, .if_icmp .ne 45, 161, 0, 203, 0, .null),
  (161, .iload 7, 163, 0, 7, 0, .null),
  (163, .bipush 24, 165, 0, 0, 0, .int 24),
  (165, .if_icmp .ge 29, 168, 0, 194, 0, .null),
  (168, .iload 7, 170, 0, 7, 0, .null),
  (170, .iconst 4, 171, 0, 0, 0, .int 4),
  (171, .idiv, 172, 0, 0, 0, .null),
  (172, .aload_n 3, 173, 0, 3, 0, .null),
  (173, .invokestatic 24, 176, 0, 0, 0, .null),
  (176, .ifCond .eq 27, 179, 0, 203, 0, .null),
  (179, .iload_n 1, 180, 0, 1, 0, .null),
  (180, .iload 7, 182, 0, 7, 0, .null),
  (182, .iconst 4, 183, 0, 0, 0, .int 4),
  (183, .idiv, 184, 0, 0, 0, .null),
  (184, .ishr, 185, 0, 0, 0, .null),
  (185, .iconst 1, 186, 0, 0, 0, .int 1),
  (186, .iand, 187, 0, 0, 0, .null),
  (187, .iconst 1, 188, 0, 0, 0, .int 1),
  (188, .if_icmp .ne 6, 191, 0, 194, 0, .null),
  (191, .goto 12, 194, 0, 203, 0, .null),
  (194, .iconst 1, 195, 0, 0, 0, .int 1),
  (195, .istore 6, 197, 0, 6, 0, .null),
  (197, .aload 4, 199, 0, 4, 0, .null),
  (199, .iload 7, 201, 0, 7, 0, .null),
  (201, .iconst (-1), 202, 0, 0, 0, .int (-1)),
  (202, .iastore, 203, 0, 0, 0, .null),
  (203, .iinc 7 1, 206, 0, 7, 0, .int 1),
  (206, .goto (-61), 209, 0, 145, 0, .null),
  (209, .aload_n 3, 210, 0, 3, 0, .null),
  (210, .bipush 8, 212, 0, 0, 0, .int 8),
  (212, .iload_n 0, 213, 0, 0, 0, .null),
  (213, .imul, 214, 0, 0, 0, .null),
  (214, .bipush 6, 216, 0, 0, 0, .int 6),
  (216, .iadd, 217, 0, 0, 0, .null),
  (217, .iload 6, 219, 0, 6, 0, .null),
  (219, .ifCond .eq 7, 222, 0, 226, 0, .null),
  (222, .iconst 1, 223, 0, 0, 0, .int 1),
  (223, .goto 4, 226, 0, 227, 0, .null),
  (226, .iconst 0, 227, 0, 0, 0, .int 0),
  (227, .iastore, 228, 0, 0, 0, .null),
  (228, .aload_n 2, 229, 0, 2, 0, .null),
  (229, .iconst 5, 230, 0, 0, 0, .int 5),
  (230, .dup2, 231, 0, 0, 0, .null),
  (231, .iaload, 232, 0, 0, 0, .null),
  (232, .iload 6, 234, 0, 6, 0, .null),
  (234, .ifCond .eq 7, 237, 0, 241, 0, .null),
  (237, .iconst 1, 238, 0, 0, 0, .int 1),
  (238, .goto 4, 241, 0, 242, 0, .null),
  (241, .iconst 0, 242, 0, 0, 0, .int 0),
  (242, .iadd, 243, 0, 0, 0, .null),
  (243, .iastore, 244, 0, 0, 0, .null),
  (244, .return_, 245, 0, 0, 0, .null)]
def mm_L_end : ev_M := (RL, "end", cL_end, 8, none, tb_L_end, 1, 23, 0, 0)
set_option maxRecDepth 100000 in
theorem ok_L_end : ev_OK mm_L_end := by unfold ev_OK; decide +kernel
theorem cs_L_end : ev_CS yL_end mm_L_end 6 := ⟨ev_has_in (k := 530) (by decide +kernel), ev_has_in (k := 22) (by decide +kernel), ev_has_in (k := 529) (by decide +kernel), ⟨by decide +kernel, by decide +kernel, by decide +kernel⟩⟩
def tb_L_hear : ev_T := [(0, .iconst 0, 1, 0, 0, 0, .int 0),
  (1, .istore 4, 3, 0, 4, 0, .null),
  (3, .iload 4, 5, 0, 4, 0, .null),
  (5, .ifCond .lt 268, 8, 0, 273, 0, .null),
  (8, .iconst (-1), 9, 0, 0, 0, .int (-1)),
  (9, .istore 4, 11, 0, 4, 0, .null),
  (11, .iconst 0, 12, 0, 0, 0, .int 0),
  (12, .istore 5, 14, 0, 5, 0, .null),
  (14, .iload 5, 16, 0, 5, 0, .null),
  (16, .aload_n 0, 17, 0, 0, 0, .null),
  (17, .iconst 2, 18, 0, 0, 0, .int 2),
  (18, .iaload, 19, 0, 0, 0, .null),
  (19, .if_icmp .ge 43, 22, 0, 62, 0, .null),
  (22, .aload_n 3, 23, 0, 3, 0, .null),
  (23, .iload 5, 25, 0, 5, 0, .null),
  (25, .iaload, 26, 0, 0, 0, .null),
  (26, .sipush 2048, 29, 0, 0, 0, .int 2048),
  (29, .idiv, 30, 0, 0, 0, .null),
  (30, .aload_n 0, 31, 0, 0, 0, .null),
  (31, .iconst 0, 32, 0, 0, 0, .int 0),
  (32, .iaload, 33, 0, 0, 0, .null),
  (33, .if_icmp .gt 23, 36, 0, 56, 0, .null),
  (36, .iload 4, 38, 0, 4, 0, .null),
  (38, .ifCond .lt 14, 41, 0, 52, 0, .null),
  (41, .aload_n 3, 42, 0, 3, 0, .null),
  (42, .iload 5, 44, 0, 5, 0, .null),
  (44, .iaload, 45, 0, 0, 0, .null),
  (45, .aload_n 3, 46, 0, 3, 0, .null),
  (46, .iload 4, 48, 0, 4, 0, .null),
  (48, .iaload, 49, 0, 0, 0, .null),
  (49, .if_icmp .ge 7, 52, 0, 56, 0, .null),
  (52, .iload 5, 54, 0, 5, 0, .null),
  (54, .istore 4, 56, 0, 4, 0, .null),
  (56, .iinc 5 1, 59, 0, 5, 0, .int 1),
  (59, .goto (-45), 62, 0, 14, 0, .null),
  (62, .iload 4, 64, 0, 4, 0, .null),
  (64, .ifCond .ge 4, 67, 0, 68, 0, .null),
  (67, .return_, 68, 0, 0, 0, .null),
  (68, .aload_n 3, 69, 0, 3, 0, .null),
  (69, .iload 4, 71, 0, 4, 0, .null),
  (71, .iaload, 72, 0, 0, 0, .null),
  (72, .iconst 2, 73, 0, 0, 0, .int 2),
  (73, .idiv, 74, 0, 0, 0, .null),
  (74, .bipush 8, 76, 0, 0, 0, .int 8),
  (76, .irem, 77, 0, 0, 0, .null),
  (77, .istore 5, 79, 0, 5, 0, .null),
  (79, .aload_n 3, 80, 0, 3, 0, .null),
  (80, .iload 4, 82, 0, 4, 0, .null),
  (82, .iaload, 83, 0, 0, 0, .null),
  (83, .iconst 2, 84, 0, 0, 0, .int 2),
  (84, .irem, 85, 0, 0, 0, .null),
  (85, .iconst 1, 86, 0, 0, 0, .int 1),
  (86, .if_icmp .ne 7, 89, 0, 93, 0, .null),
  (89, .iconst 1, 90, 0, 0, 0, .int 1),
  (90, .goto 4, 93, 0, 94, 0, .null),
  (93, .iconst (-1), 94, 0, 0, 0, .int (-1)),
  (94, .istore 6, 96, 0, 6, 0, .null),
  (96, .iload 4, 98, 0, 4, 0, .null),
  (98, .istore 7, 100, 0, 7, 0, .null),
  (100, .iload 7, 102, 0, 7, 0, .null),
  (102, .iconst 1, 103, 0, 0, 0, .int 1),
  (103, .iadd, 104, 0, 0, 0, .null),
  (104, .aload_n 0, 105, 0, 0, 0, .null),
  (105, .iconst 2, 106, 0, 0, 0, .int 2),
  (106, .iaload, 107, 0, 0, 0, .null),
  (107, .if_icmp .ge 19, 110, 0, 126, 0, .null),
  (110, .aload_n 3, 111, 0, 3, 0, .null),
  (111, .iload 7, 113, 0, 7, 0, .null),
  (113, .aload_n 3, 114, 0, 3, 0, .null),
  (114, .iload 7, 116, 0, 7, 0, .null),
  (116, .iconst 1, 117, 0, 0, 0, .int 1),
  (117, .iadd, 118, 0, 0, 0, .null),
  (118, .iaload, 119, 0, 0, 0, .null),
  (119, .iastore, 120, 0, 0, 0, .null),
  (120, .iinc 7 1, 123, 0, 7, 0, .int 1),
  (123, .goto (-23), 126, 0, 100, 0, .null),
  (126, .aload_n 0, 127, 0, 0, 0, .null),
  (127, .iconst 2, 128, 0, 0, 0, .int 2),
  (128, .dup2, 129, 0, 0, 0, .null),
  (129, .iaload, 130, 0, 0, 0, .null),
  (130, .iconst 1, 131, 0, 0, 0, .int 1),
  (131, .isub, 132, 0, 0, 0, .null),
  (132, .iastore, 133, 0, 0, 0, .null),
  (133, .iload 5, 135, 0, 5, 0, .null),
  (135, .aload_n 1, 136, 0, 1, 0, .null),
  (136, .invokestatic 24, 139, 0, 0, 0, .null),
  (139, .ifCond .ne 6, 142, 0, 145, 0, .null),
  (142, .goto (-139), 145, 0, 3, 0, .null),
  (145, .aload_n 1, 146, 0, 1, 0, .null),
  (146, .bipush 8, 148, 0, 0, 0, .int 8),
  (148, .iload 5, 150, 0, 5, 0, .null),
  (150, .imul, 151, 0, 0, 0, .null),
  (151, .iconst 2, 152, 0, 0, 0, .int 2),
  (152, .iadd, 153, 0, 0, 0, .null),
  (153, .dup2, 154, 0, 0, 0, .null),
  (154, .iaload, 155, 0, 0, 0, .null),
  (155, .iload 6, 157, 0, 6, 0, .null),
  (157, .iadd, 158, 0, 0, 0, .null),
  (158, .iastore, 159, 0, 0, 0, .null),
  (159, .iload 6, 161, 0, 6, 0, .null),
  (161, .ifCond .ge 25, 164, 0, 186, 0, .null),
  (164, .aload_n 1, 165, 0, 1, 0, .null),
  (165, .bipush 8, 167, 0, 0, 0, .int 8),
  (167, .iload 5, 169, 0, 5, 0, .null),
  (169, .imul, 170, 0, 0, 0, .null),
  (170, .iconst 2, 171, 0, 0, 0, .int 2),
  (171, .iadd, 172, 0, 0, 0, .null),
  (172, .iaload, 173, 0, 0, 0, .null),
  (173, .ifCond .le 13, 176, 0, 186, 0, .null),
  (176, .aload_n 1, 177, 0, 1, 0, .null),
  (177, .bipush 8, 179, 0, 0, 0, .int 8),
  (179, .iload 5, 181, 0, 5, 0, .null),
  (181, .imul, 182, 0, 0, 0, .null),
  (182, .iconst 3, 183, 0, 0, 0, .int 3),
  (183, .iadd, 184, 0, 0, 0, .null),
  (184, .iconst 1, 185, 0, 0, 0, .int 1),
  (185, .iastore, 186, 0, 0, 0, .null),
  (186, .iload 6, 188, 0, 6, 0, .null),
  (188, .ifCond .gt (-185), 191, 0, 3, 0, .null),
  (191, .aload_n 1, 192, 0, 1, 0, .null),
  (192, .bipush 8, 194, 0, 0, 0, .int 8),
  (194, .iload 5, 196, 0, 5, 0, .null),
  (196, .imul, 197, 0, 0, 0, .null),
  (197, .iconst 2, 198, 0, 0, 0, .int 2),
  (198, .iadd, 199, 0, 0, 0, .null),
  (199, .iaload, 200, 0, 0, 0, .null),
  (200, .ifCond .gt (-197), 203, 0, 3, 0, .null),
  (203, .iload 5, 205, 0, 5, 0, .null),
  (205, .aload_n 0, 206, 0, 0, 0, .null),
  (206, .aload_n 3, 207, 0, 3, 0, .null),
  (207, .invokestatic 34, 210, 0, 0, 0, .null),
  (210, .ifCond .le 6, 213, 0, 216, 0, .null),
  (213, .goto (-210), 216, 0, 3, 0, .null),
  (216, .iload 5, 218, 0, 5, 0, .null),
  (218, .aload_n 1, 219, 0, 1, 0, .null),
  (219, .aload_n 2, 220, 0, 2, 0, .null),
  (220, .invokestatic 38, 223, 0, 0, 0, .null),
  (223, .istore 7, 225, 0, 7, 0, .null),
  (225, .aload_n 0, 226, 0, 0, 0, .null),
  (226, .bipush 10, 228, 0, 0, 0, .int 10),
  (228, .iaload, 229, 0, 0, 0, .null),
  (229, .iconst 1, 230, 0, 0, 0, .int 1),
  (230, .if_icmp .ne 30, 233, 0, 260, 0, .null),
  (233, .iload 7, 235, 0, 7, 0, .null),
  (235, .ifCond .le 25, 238, 0, 260, 0, .null),
  (238, .aload_n 1, 239, 0, 1, 0, .null),
  (239, .bipush 8, 241, 0, 0, 0, .int 8),
  (241, .iload 5, 243, 0, 5, 0, .null),
  (243, .imul, 244, 0, 0, 0, .null),
  (244, .iconst 2, 245, 0, 0, 0, .int 2),
  (245, .iadd, 246, 0, 0, 0, .null),
  (246, .iload 7, 248, 0, 7, 0, .null),
  (248, .iastore, 249, 0, 0, 0, .null),
  (249, .aload_n 0, 250, 0, 0, 0, .null),
  (250, .bipush 6, 252, 0, 0, 0, .int 6),
  (252, .dup2, 253, 0, 0, 0, .null),
  (253, .iaload, 254, 0, 0, 0, .null),
  (254, .iconst 1, 255, 0, 0, 0, .int 1),
  (255, .iadd, 256, 0, 0, 0, .null),
  (256, .iastore, 257, 0, 0, 0, .null),
  (257, .goto 13, 260, 0, 270, 0, .null),
  (260, .iload 5, 262, 0, 5, 0, .null),
  (262, .iconst 0, 263, 0, 0, 0, .int 0),
  (263, .aload_n 0, 264, 0, 0, 0, .null),
  (264, .aload_n 1, 265, 0, 1, 0, .null),
  (265, .aload_n 2, 266, 0, 2, 0, .null),
  (266, .aload_n 3, 267, 0, 3, 0, .null),
  (267, .invokestatic 41, 270, 0, 0, 0, .null),
  (270, .goto (-267), 273, 0, 3, 0, .null),
  (273, .return_, 274, 0, 0, 0, .null)]
def mm_L_hear : ev_M := (RL, "hear", cL_hear, 8, none, tb_L_hear, 2, 50, 0, 0)
set_option maxRecDepth 100000 in
theorem ok_L_hear : ev_OK mm_L_hear := by unfold ev_OK; decide +kernel
theorem cs_L_hear : ev_CS yL_hear mm_L_hear 4 := ⟨ev_has_in (k := 521) (by decide +kernel), ev_has_in (k := 22) (by decide +kernel), ev_has_in (k := 520) (by decide +kernel), ⟨by decide +kernel, by decide +kernel, by decide +kernel⟩⟩
def tb_L_reach : ev_T := [(0, .iload_n 0, 1, 0, 0, 0, .null),
  (1, .istore_n 3, 2, 0, 3, 0, .null),
  (2, .iconst 0, 3, 0, 0, 0, .int 0),
  (3, .istore 4, 5, 0, 4, 0, .null),
  (5, .iload 4, 7, 0, 4, 0, .null),
  (7, .bipush 6, 9, 0, 0, 0, .int 6),
  (9, .if_icmp .ge 68, 12, 0, 77, 0, .null),
  (12, .iconst 0, 13, 0, 0, 0, .int 0),
  (13, .istore 5, 15, 0, 5, 0, .null),
  (15, .iload 5, 17, 0, 5, 0, .null),
  (17, .bipush 24, 19, 0, 0, 0, .int 24),
  (19, .if_icmp .ge 52, 22, 0, 71, 0, .null),
  (22, .iload_n 3, 23, 0, 3, 0, .null),
  (23, .iload_n 3, 24, 0, 3, 0, .null),
  (24, .iload 5, 26, 0, 5, 0, .null),
  (26, .iconst 4, 27, 0, 0, 0, .int 4),
  (27, .idiv, 28, 0, 0, 0, .null),
  (28, .ishr, 29, 0, 0, 0, .null),
  (29, .iconst 1, 30, 0, 0, 0, .int 1),
  (30, .iand, 31, 0, 0, 0, .null),
  (31, .iconst 1, 32, 0, 0, 0, .int 1),
  (32, .if_icmp .ne 30, 35, 0, 62, 0, .null),
  (35, .iload 5, 37, 0, 5, 0, .null),
  (37, .iconst 4, 38, 0, 0, 0, .int 4),
  (38, .idiv, 39, 0, 0, 0, .null),
  (39, .aload_n 1, 40, 0, 1, 0, .null),
  (40, .invokestatic 24, 43, 0, 0, 0, .null),
  (43, .ifCond .eq 19, 46, 0, 62, 0, .null),
  (46, .aload_n 2, 47, 0, 2, 0, .null),
  (47, .iload 5, 49, 0, 5, 0, .null),
  (49, .iaload, 50, 0, 0, 0, .null),
  (50, .ifCond .lt 12, 53, 0, 62, 0, .null),
  (53, .iconst 1, 54, 0, 0, 0, .int 1),
  (54, .aload_n 2, 55, 0, 2, 0, .null),
  (55, .iload 5, 57, 0, 5, 0, .null),
  (57, .iaload, 58, 0, 0, 0, .null),
  (58, .ishl, 59, 0, 0, 0, .null),
  (59, .goto 4, 62, 0, 63, 0, .null),
  (62, .iconst 0, 63, 0, 0, 0, .int 0),
  (63, .ior, 64, 0, 0, 0, .null),
  (64, .istore_n 3, 65, 0, 3, 0, .null),
  (65, .iinc 5 1, 68, 0, 5, 0, .int 1),
  (68, .goto (-53), 71, 0, 15, 0, .null),
  (71, .iinc 4 1, 74, 0, 4, 0, .int 1),
  (74, .goto (-69), 77, 0, 5, 0, .null),
  (77, .iload_n 3, 78, 0, 3, 0, .null),
  (78, .ireturn, 79, 0, 0, 0, .null)]
def mm_L_reach : ev_M := (RL, "reach", cL_reach, 6, (some .int), tb_L_reach, 1, 21, 0, 0)
set_option maxRecDepth 100000 in
theorem ok_L_reach : ev_OK mm_L_reach := by unfold ev_OK; decide +kernel
theorem cs_L_reach : ev_CS yL_reach mm_L_reach 3 := ⟨ev_has_in (k := 536) (by decide +kernel), ev_has_in (k := 22) (by decide +kernel), ev_has_in (k := 535) (by decide +kernel), ⟨by decide +kernel, by decide +kernel, by decide +kernel⟩⟩
def tb_L_trial : ev_T := [(0, .iconst 0, 1, 0, 0, 0, .int 0),
  (1, .istore 4, 3, 0, 4, 0, .null),
  (3, .iconst 0, 4, 0, 0, 0, .int 0),
  (4, .istore 5, 6, 0, 5, 0, .null),
  (6, .iload 5, 8, 0, 5, 0, .null),
  (8, .bipush 6, 10, 0, 0, 0, .int 6),
  (10, .if_icmp .ge 26, 13, 0, 36, 0, .null),
  (13, .iload 4, 15, 0, 4, 0, .null),
  (15, .aload_n 1, 16, 0, 1, 0, .null),
  (16, .bipush 8, 18, 0, 0, 0, .int 8),
  (18, .iload 5, 20, 0, 5, 0, .null),
  (20, .imul, 21, 0, 0, 0, .null),
  (21, .iconst 3, 22, 0, 0, 0, .int 3),
  (22, .iadd, 23, 0, 0, 0, .null),
  (23, .iaload, 24, 0, 0, 0, .null),
  (24, .iload 5, 26, 0, 5, 0, .null),
  (26, .ishl, 27, 0, 0, 0, .null),
  (27, .ior, 28, 0, 0, 0, .null),
  (28, .istore 4, 30, 0, 4, 0, .null),
  (30, .iinc 5 1, 33, 0, 5, 0, .int 1),
  (33, .goto (-27), 36, 0, 6, 0, .null),
  (36, .iconst 0, 37, 0, 0, 0, .int 0),
  (37, .istore 5, 39, 0, 5, 0, .null),
  (39, .iload 5, 41, 0, 5, 0, .null),
  (41, .bipush 6, 43, 0, 0, 0, .int 6),
  (43, .if_icmp .ge 304, 46, 0, 347, 0, .null),
  (46, .iload 4, 48, 0, 4, 0, .null),
  (48, .iload 5, 50, 0, 5, 0, .null),
  (50, .ishr, 51, 0, 0, 0, .null),
  (51, .iconst 1, 52, 0, 0, 0, .int 1),
  (52, .iand, 53, 0, 0, 0, .null),
  (53, .ifCond .eq 288, 56, 0, 341, 0, .null),
  (56, .aload_n 1, 57, 0, 1, 0, .null),
  (57, .bipush 8, 59, 0, 0, 0, .int 8),
  (59, .iload 5, 61, 0, 5, 0, .null),
  (61, .imul, 62, 0, 0, 0, .null),
  (62, .iconst 3, 63, 0, 0, 0, .int 3),
  (63, .iadd, 64, 0, 0, 0, .null),
  (64, .iaload, 65, 0, 0, 0, .null),
  (65, .ifCond .ne 6, 68, 0, 71, 0, .null),
  (68, .goto 273, 71, 0, 341, 0, .null),
  (71, .iconst 1, 72, 0, 0, 0, .int 1),
  (72, .iload 5, 74, 0, 5, 0, .null),
  (74, .ishl, 75, 0, 0, 0, .null),
  (75, .aload_n 1, 76, 0, 1, 0, .null),
  (76, .aload_n 2, 77, 0, 2, 0, .null),
  (77, .invokestatic 45, 80, 0, 0, 0, .null),
  (80, .istore 6, 82, 0, 6, 0, .null),
  (82, .iconst 0, 83, 0, 0, 0, .int 0),
  (83, .istore 7, 85, 0, 7, 0, .null),
  (85, .iconst 0, 86, 0, 0, 0, .int 0),
  (86, .istore 8, 88, 0, 8, 0, .null),
  (88, .iload 8, 90, 0, 8, 0, .null),
  (90, .bipush 6, 92, 0, 0, 0, .int 6),
  (92, .if_icmp .ge 36, 95, 0, 128, 0, .null),
  (95, .iload 7, 97, 0, 7, 0, .null),
  (97, .iload 6, 99, 0, 6, 0, .null),
  (99, .iload 8, 101, 0, 8, 0, .null),
  (101, .ishr, 102, 0, 0, 0, .null),
  (102, .iconst 1, 103, 0, 0, 0, .int 1),
  (103, .iand, 104, 0, 0, 0, .null),
  (104, .iconst 1, 105, 0, 0, 0, .int 1),
  (105, .if_icmp .ne 13, 108, 0, 118, 0, .null),
  (108, .iload 8, 110, 0, 8, 0, .null),
  (110, .aload_n 0, 111, 0, 0, 0, .null),
  (111, .aload_n 3, 112, 0, 3, 0, .null),
  (112, .invokestatic 34, 115, 0, 0, 0, .null),
  (115, .goto 4, 118, 0, 119, 0, .null),
  (118, .iconst 0, 119, 0, 0, 0, .int 0),
  (119, .iadd, 120, 0, 0, 0, .null),
  (120, .istore 7, 122, 0, 7, 0, .null),
  (122, .iinc 8 1, 125, 0, 8, 0, .int 1),
  (125, .goto (-37), 128, 0, 88, 0, .null),
  (128, .iload 7, 130, 0, 7, 0, .null),
  (130, .ifCond .le 6, 133, 0, 136, 0, .null),
  (133, .goto 208, 136, 0, 341, 0, .null),
  (136, .aload_n 1, 137, 0, 1, 0, .null),
  (137, .bipush 8, 139, 0, 0, 0, .int 8),
  (139, .iload 5, 141, 0, 5, 0, .null),
  (141, .imul, 142, 0, 0, 0, .null),
  (142, .iconst 3, 143, 0, 0, 0, .int 3),
  (143, .iadd, 144, 0, 0, 0, .null),
  (144, .iconst 0, 145, 0, 0, 0, .int 0),
  (145, .iastore, 146, 0, 0, 0, .null),
  (146, .iconst 0, 147, 0, 0, 0, .int 0),
  (147, .istore 8, 149, 0, 8, 0, .null),
  (149, .iconst 0, 150, 0, 0, 0, .int 0),
  (150, .istore 9, 152, 0, 9, 0, .null),
  (152, .iload 9, 154, 0, 9, 0, .null),
  (154, .bipush 6, 156, 0, 0, 0, .int 6),
  (156, .if_icmp .ge 97, 159, 0, 253, 0, .null),
  (159, .aload_n 1, 160, 0, 1, 0, .null),
  (160, .bipush 8, 162, 0, 0, 0, .int 8),
  (162, .iload 9, 164, 0, 9, 0, .null),
  (164, .imul, 165, 0, 0, 0, .null),
  (165, .iconst 2, 166, 0, 0, 0, .int 2),
  (166, .iadd, 167, 0, 0, 0, .null),
  (167, .iaload, 168, 0, 0, 0, .null),
  (168, .istore 10, 170, 0, 10, 0, .null),
  (170, .iconst 0, 171, 0, 0, 0, .int 0),
  (171, .istore 11, 173, 0, 11, 0, .null),
  (173, .iload 11, 175, 0, 11, 0, .null),
  (175, .bipush 24, 177, 0, 0, 0, .int 24),
  (177, .if_icmp .ge 41, 180, 0, 218, 0, .null),
  (180, .iload 10, 182, 0, 10, 0, .null),
  (182, .iload 6, 184, 0, 6, 0, .null),
  (184, .iload 11, 186, 0, 11, 0, .null),
  (186, .iconst 4, 187, 0, 0, 0, .int 4),
  (187, .idiv, 188, 0, 0, 0, .null),
  (188, .ishr, 189, 0, 0, 0, .null),
  (189, .iconst 1, 190, 0, 0, 0, .int 1),
  (190, .iand, 191, 0, 0, 0, .null),
  (191, .iconst 1, 192, 0, 0, 0, .int 1),
  (192, .if_icmp .ne 16, 195, 0, 208, 0, .null),
  (195, .aload_n 2, 196, 0, 2, 0, .null),
  (196, .iload 11, 198, 0, 11, 0, .null),
  (198, .iaload, 199, 0, 0, 0, .null),
  (199, .iload 9, 201, 0, 9, 0, .null),
  (201, .if_icmp .ne 7, 204, 0, 208, 0, .null),
  (204, .iconst 1, 205, 0, 0, 0, .int 1),
  (205, .goto 4, 208, 0, 209, 0, .null),
  (208, .iconst 0, 209, 0, 0, 0, .int 0),
  (209, .isub, 210, 0, 0, 0, .null),
  (210, .istore 10, 212, 0, 10, 0, .null),
  (212, .iinc 11 1, 215, 0, 11, 0, .int 1),
  (215, .goto (-42), 218, 0, 173, 0, .null),
  (218, .iload 8, 220, 0, 8, 0, .null),
  (220, .iload 6, 222, 0, 6, 0, .null),
  (222, .iload 9, 224, 0, 9, 0, .null),
  (224, .ishr, 225, 0, 0, 0, .null),
  (225, .iconst 1, 226, 0, 0, 0, .int 1),
  (226, .iand, 227, 0, 0, 0, .null),
  (227, .iconst 1, 228, 0, 0, 0, .int 1),
  (228, .if_icmp .ne 15, 231, 0, 243, 0, .null),
  (231, .iload 10, 233, 0, 10, 0, .null),
  (233, .ifCond .le 10, 236, 0, 243, 0, .null),
  (236, .iconst 1, 237, 0, 0, 0, .int 1),
  (237, .iload 9, 239, 0, 9, 0, .null),
  (239, .ishl, 240, 0, 0, 0, .null),
  (240, .goto 4, 243, 0, 244, 0, .null),
  (243, .iconst 0, 244, 0, 0, 0, .int 0),
  (244, .ior, 245, 0, 0, 0, .null),
  (245, .istore 8, 247, 0, 8, 0, .null),
  (247, .iinc 9 1, 250, 0, 9, 0, .int 1),
  (250, .goto (-98), 253, 0, 152, 0, .null),
  (253, .iload 6, 255, 0, 6, 0, .null),
  (255, .iload 8, 257, 0, 8, 0, .null),
  (257, .aload_n 1, 258, 0, 1, 0, .null),
  (258, .aload_n 2, 259, 0, 2, 0, .null),
  (259, .invokestatic 45, 262, 0, 0, 0, .null),
  (262, .iconst (-1), 263, 0, 0, 0, .int (-1)),
  (263, .ixor, 264, 0, 0, 0, .null),
  (264, .iand, 265, 0, 0, 0, .null),
  (265, .istore 9, 267, 0, 9, 0, .null),
  (267, .bipush 9, 269, 0, 0, 0, .int 9),
  (269, .istore 10, 271, 0, 10, 0, .null),
  (271, .iload 10, 273, 0, 10, 0, .null),
  (273, .ifCond .lt 61, 276, 0, 334, 0, .null),
  (276, .iconst 0, 277, 0, 0, 0, .int 0),
  (277, .istore 11, 279, 0, 11, 0, .null),
  (279, .iload 11, 281, 0, 11, 0, .null),
  (281, .bipush 6, 283, 0, 0, 0, .int 6),
  (283, .if_icmp .ge 45, 286, 0, 328, 0, .null),
  (286, .iload 9, 288, 0, 9, 0, .null),
  (288, .iload 11, 290, 0, 11, 0, .null),
  (290, .ishr, 291, 0, 0, 0, .null),
  (291, .iconst 1, 292, 0, 0, 0, .int 1),
  (292, .iand, 293, 0, 0, 0, .null),
  (293, .iconst 1, 294, 0, 0, 0, .int 1),
  (294, .if_icmp .ne 28, 297, 0, 322, 0, .null),
  (297, .aload_n 1, 298, 0, 1, 0, .null),
  (298, .bipush 8, 300, 0, 0, 0, .int 8),
  (300, .iload 11, 302, 0, 11, 0, .null),
  (302, .imul, 303, 0, 0, 0, .null),
  (303, .iconst 1, 304, 0, 0, 0, .int 1),
  (304, .iadd, 305, 0, 0, 0, .null),
  (305, .iaload, 306, 0, 0, 0, .null),
  (306, .iload 10, 308, 0, 10, 0, .null),
  (308, .if_icmp .ne 14, 311, 0, 322, 0, .null),
  (311, .iload 11, 313, 0, 11, 0, .null),
  (313, .iload 9, 315, 0, 9, 0, .null),
  (315, .aload_n 0, 316, 0, 0, 0, .null),
  (316, .aload_n 1, 317, 0, 1, 0, .null),
  (317, .aload_n 2, 318, 0, 2, 0, .null),
  (318, .aload_n 3, 319, 0, 3, 0, .null),
  (319, .invokestatic 41, 322, 0, 0, 0, .null),
  (322, .iinc 11 1, 325, 0, 11, 0, .int 1),
  (325, .goto (-46), 328, 0, 279, 0, .null),
  (328, .iinc 10 (-1), 331, 0, 10, 0, .int (-1)),
  (331, .goto (-60), 334, 0, 271, 0, .null),
  (334, .aload_n 0, 335, 0, 0, 0, .null),
  (335, .aload_n 1, 336, 0, 1, 0, .null),
  (336, .aload_n 2, 337, 0, 2, 0, .null),
  (337, .aload_n 3, 338, 0, 3, 0, .null),
  (338, .invokestatic 48, 341, 0, 0, 0, .null),
  (341, .iinc 5 1, 344, 0, 5, 0, .int 1),
  (344, .goto (-305), 347, 0, 39, 0, .null),
  (347, .return_, 348, 0, 0, 0, .null)]
def mm_L_trial : ev_M := (RL, "trial", cL_trial, 12, none, tb_L_trial, 3, 77, 0, 0)
set_option maxRecDepth 100000 in
theorem ok_L_trial : ev_OK mm_L_trial := by unfold ev_OK; decide +kernel
theorem cs_L_trial : ev_CS yL_trial mm_L_trial 4 := ⟨ev_has_in (k := 533) (by decide +kernel), ev_has_in (k := 22) (by decide +kernel), ev_has_in (k := 532) (by decide +kernel), ⟨by decide +kernel, by decide +kernel, by decide +kernel⟩⟩
def tb_L_tick : ev_T := [(0, .aload_n 0, 1, 0, 0, 0, .null),
  (1, .iconst 0, 2, 0, 0, 0, .int 0),
  (2, .dup2, 3, 0, 0, 0, .null),
  (3, .iaload, 4, 0, 0, 0, .null),
  (4, .iconst 1, 5, 0, 0, 0, .int 1),
  (5, .iadd, 6, 0, 0, 0, .null),
  (6, .iastore, 7, 0, 0, 0, .null),
  (7, .aload_n 0, 8, 0, 0, 0, .null),
  (8, .aload_n 1, 9, 0, 1, 0, .null),
  (9, .aload_n 2, 10, 0, 2, 0, .null),
  (10, .aload_n 3, 11, 0, 3, 0, .null),
  (11, .invokestatic 48, 14, 0, 0, 0, .null),
  (14, .aload_n 0, 15, 0, 0, 0, .null),
  (15, .bipush 11, 17, 0, 0, 0, .int 11),
  (17, .iaload, 18, 0, 0, 0, .null),
  (18, .ifCond .le 21, 21, 0, 39, 0, .null),
  (21, .aload_n 0, 22, 0, 0, 0, .null),
  (22, .iconst 0, 23, 0, 0, 0, .int 0),
  (23, .iaload, 24, 0, 0, 0, .null),
  (24, .aload_n 0, 25, 0, 0, 0, .null),
  (25, .bipush 11, 27, 0, 0, 0, .int 11),
  (27, .iaload, 28, 0, 0, 0, .null),
  (28, .irem, 29, 0, 0, 0, .null),
  (29, .ifCond .ne 10, 32, 0, 39, 0, .null),
  (32, .aload_n 0, 33, 0, 0, 0, .null),
  (33, .aload_n 1, 34, 0, 1, 0, .null),
  (34, .aload_n 2, 35, 0, 2, 0, .null),
  (35, .aload_n 3, 36, 0, 3, 0, .null),
  (36, .invokestatic 52, 39, 0, 0, 0, .null),
  (39, .return_, 40, 0, 0, 0, .null)]
def mm_L_tick : ev_M := (RL, "tick", cL_tick, 4, none, tb_L_tick, 4, 108, 0, 0)
set_option maxRecDepth 100000 in
theorem ok_L_tick : ev_OK mm_L_tick := by unfold ev_OK; decide +kernel
theorem cs_L_tick : ev_CS yL_tick mm_L_tick 4 := ⟨ev_has_in (k := 539) (by decide +kernel), ev_has_in (k := 22) (by decide +kernel), ev_has_in (k := 538) (by decide +kernel), ⟨by decide +kernel, by decide +kernel, by decide +kernel⟩⟩
def tb_L_held : ev_T := [(0, .iconst 0, 1, 0, 0, 0, .int 0),
  (1, .istore_n 2, 2, 0, 2, 0, .null),
  (2, .bipush 24, 4, 0, 0, 0, .int 24),
  (4, .istore_n 3, 5, 0, 3, 0, .null),
  (5, .iload_n 3, 6, 0, 3, 0, .null),
  (6, .bipush 28, 8, 0, 0, 0, .int 28),
  (8, .if_icmp .ge 27, 11, 0, 35, 0, .null),
  (11, .iload_n 2, 12, 0, 2, 0, .null),
  (12, .aload_n 1, 13, 0, 1, 0, .null),
  (13, .iload_n 3, 14, 0, 3, 0, .null),
  (14, .iaload, 15, 0, 0, 0, .null),
  (15, .ifCond .lt 11, 18, 0, 26, 0, .null),
  (18, .iconst 1, 19, 0, 0, 0, .int 1),
  (19, .aload_n 1, 20, 0, 1, 0, .null),
  (20, .iload_n 3, 21, 0, 3, 0, .null),
  (21, .iaload, 22, 0, 0, 0, .null),
  (22, .ishl, 23, 0, 0, 0, .null),
  (23, .goto 4, 26, 0, 27, 0, .null),
  (26, .iconst 0, 27, 0, 0, 0, .int 0),
  (27, .ior, 28, 0, 0, 0, .null),
  (28, .istore_n 2, 29, 0, 2, 0, .null),
  (29, .iinc 3 1, 32, 0, 3, 0, .int 1),
  (32, .goto (-27), 35, 0, 5, 0, .null),
  (35, .iload_n 2, 36, 0, 2, 0, .null),
  (36, .aload_n 0, 37, 0, 0, 0, .null),
  (37, .aload_n 1, 38, 0, 1, 0, .null),
  (38, .invokestatic 45, 41, 0, 0, 0, .null),
  (41, .ireturn, 42, 0, 0, 0, .null)]
def mm_L_held : ev_M := (RL, "held", cL_held, 4, (some .int), tb_L_held, 2, 46, 0, 0)
set_option maxRecDepth 100000 in
theorem ok_L_held : ev_OK mm_L_held := by unfold ev_OK; decide +kernel
theorem cs_L_held : ev_CS yL_held mm_L_held 2 := ⟨ev_has_in (k := 545) (by decide +kernel), ev_has_in (k := 22) (by decide +kernel), ev_has_in (k := 544) (by decide +kernel), ⟨by decide +kernel, by decide +kernel, by decide +kernel⟩⟩
def tb_L_bits : ev_T := [(0, .iconst 0, 1, 0, 0, 0, .int 0),
  (1, .istore_n 1, 2, 0, 1, 0, .null),
  (2, .iconst 0, 3, 0, 0, 0, .int 0),
  (3, .istore_n 2, 4, 0, 2, 0, .null),
  (4, .iload_n 2, 5, 0, 2, 0, .null),
  (5, .bipush 6, 7, 0, 0, 0, .int 6),
  (7, .if_icmp .ge 17, 10, 0, 24, 0, .null),
  (10, .iload_n 1, 11, 0, 1, 0, .null),
  (11, .iload_n 0, 12, 0, 0, 0, .null),
  (12, .iload_n 2, 13, 0, 2, 0, .null),
  (13, .ishr, 14, 0, 0, 0, .null),
  (14, .iconst 1, 15, 0, 0, 0, .int 1),
  (15, .iand, 16, 0, 0, 0, .null),
  (16, .iadd, 17, 0, 0, 0, .null),
  (17, .istore_n 1, 18, 0, 1, 0, .null),
  (18, .iinc 2 1, 21, 0, 2, 0, .int 1),
  (21, .goto (-17), 24, 0, 4, 0, .null),
  (24, .iload_n 1, 25, 0, 1, 0, .null),
  (25, .ireturn, 26, 0, 0, 0, .null)]
def mm_L_bits : ev_M := (RL, "bits", cL_bits, 3, (some .int), tb_L_bits, 0, 0, 0, 0)
set_option maxRecDepth 100000 in
theorem ok_L_bits : ev_OK mm_L_bits := by unfold ev_OK; decide +kernel
theorem cs_L_bits : ev_CS yL_bits mm_L_bits 1 := ⟨ev_has_in (k := 633) (by decide +kernel), ev_has_in (k := 22) (by decide +kernel), ev_has_in (k := 632) (by decide +kernel), ⟨by decide +kernel, by decide +kernel, by decide +kernel⟩⟩
def tb_L_copy : ev_T := [(0, .iconst 0, 1, 0, 0, 0, .int 0),
  (1, .istore_n 2, 2, 0, 2, 0, .null),
  (2, .iload_n 2, 3, 0, 2, 0, .null),
  (3, .aload_n 0, 4, 0, 0, 0, .null),
  (4, .arraylength, 5, 0, 0, 0, .null),
  (5, .if_icmp .ge 15, 8, 0, 20, 0, .null),
  (8, .aload_n 1, 9, 0, 1, 0, .null),
  (9, .iload_n 2, 10, 0, 2, 0, .null),
  (10, .aload_n 0, 11, 0, 0, 0, .null),
  (11, .iload_n 2, 12, 0, 2, 0, .null),
  (12, .iaload, 13, 0, 0, 0, .null),
  (13, .iastore, 14, 0, 0, 0, .null),
  (14, .iinc 2 1, 17, 0, 2, 0, .int 1),
  (17, .goto (-15), 20, 0, 2, 0, .null),
  (20, .return_, 21, 0, 0, 0, .null)]
def mm_L_copy : ev_M := (RL, "copy", cL_copy, 3, none, tb_L_copy, 0, 0, 0, 0)
set_option maxRecDepth 100000 in
theorem ok_L_copy : ev_OK mm_L_copy := by unfold ev_OK; decide +kernel
theorem cs_L_copy : ev_CS yL_copy mm_L_copy 2 := ⟨ev_has_in (k := 644) (by decide +kernel), ev_has_in (k := 22) (by decide +kernel), ev_has_in (k := 643) (by decide +kernel), ⟨by decide +kernel, by decide +kernel, by decide +kernel⟩⟩
theorem ml_L_10 : ev_ml RL 10 yX4_put := Or.inl (ev_has_in (k := 479) (by decide +kernel))
theorem ml_L_20 : ev_ml RL 20 yX4_take := Or.inl (ev_has_in (k := 504) (by decide +kernel))
theorem ml_L_24 : ev_ml RL 24 yL_lives := Or.inl (ev_has_in (k := 513) (by decide +kernel))
theorem ml_L_30 : ev_ml RL 30 yL_report := Or.inl (ev_has_in (k := 516) (by decide +kernel))
theorem ml_L_34 : ev_ml RL 34 yL_underWay := Or.inl (ev_has_in (k := 522) (by decide +kernel))
theorem ml_L_38 : ev_ml RL 38 yL_truth := Or.inl (ev_has_in (k := 525) (by decide +kernel))
theorem ml_L_41 : ev_ml RL 41 yL_end := Or.inl (ev_has_in (k := 528) (by decide +kernel))
theorem ml_L_45 : ev_ml RL 45 yL_reach := Or.inl (ev_has_in (k := 534) (by decide +kernel))
theorem ml_L_48 : ev_ml RL 48 yL_hear := Or.inl (ev_has_in (k := 519) (by decide +kernel))
theorem ml_L_52 : ev_ml RL 52 yL_trial := Or.inl (ev_has_in (k := 531) (by decide +kernel))
theorem ml_L_55 : ev_ml RL 55 yL_held := Or.inl (ev_has_in (k := 543) (by decide +kernel))
theorem ml_L_59 : ev_ml RL 59 yX4_thing := Or.inl (ev_has_in (k := 546) (by decide +kernel))
theorem ml_L_62 : ev_ml RL 62 yL_sum := Or.inl (ev_has_in (k := 571) (by decide +kernel))
theorem ml_L_65 : ev_ml RL 65 yX4_ring := Or.inl (ev_has_in (k := 574) (by decide +kernel))
theorem ml_L_69 : ev_ml RL 69 yX4_slot := Or.inl (ev_has_in (k := 583) (by decide +kernel))
theorem ml_L_72 : ev_ml RL 72 yX4_hand := Or.inl (ev_has_in (k := 589) (by decide +kernel))
theorem ml_L_75 : ev_ml RL 75 yX4_report := Or.inl (ev_has_in (k := 594) (by decide +kernel))
theorem ml_L_77 : ev_ml RL 77 yX4_reachedShare := Or.inl (ev_has_in (k := 605) (by decide +kernel))
theorem ml_L_81 : ev_ml RL 81 yL_bits := Or.inl (ev_has_in (k := 631) (by decide +kernel))
theorem ml_L_84 : ev_ml RL 84 yX4_count := Or.inl (ev_has_in (k := 634) (by decide +kernel))
theorem ml_L_87 : ev_ml RL 87 yL_copy := Or.inl (ev_has_in (k := 642) (by decide +kernel))
theorem ml_L_91 : ev_ml RL 91 yL_tick := Or.inl (ev_has_in (k := 537) (by decide +kernel))
theorem ml_L_94 : ev_ml RL 94 yX4_ifPassed := Or.inl (ev_has_in (k := 645) (by decide +kernel))
theorem ml_L_97 : ev_ml RL 97 yX4_endsIn := Or.inl (ev_has_in (k := 659) (by decide +kernel))
theorem ml_L_100 : ev_ml RL 100 yX4_bears := Or.inl (ev_has_in (k := 667) (by decide +kernel))
theorem ml_L_103 : ev_ml RL 103 yX4_ifTried := Or.inl (ev_has_in (k := 679) (by decide +kernel))
theorem ml_L_106 : ev_ml RL 106 yX4_bestCut := Or.inl (ev_has_in (k := 692) (by decide +kernel))
end
section
/-! the table of L_same, in pieces -/
def tb_L_same_0 : ev_T := [(0, .aload_n 2, 1, 0, 2, 0, .null),
  (1, .aload_n 3, 2, 0, 3, 0, .null),
  (2, .invokestatic 55, 5, 0, 0, 0, .null),
  (5, .istore 5, 7, 0, 5, 0, .null),
  (7, .iconst 0, 8, 0, 0, 0, .int 0),
  (8, .istore 6, 10, 0, 6, 0, .null),
  (10, .iconst 0, 11, 0, 0, 0, .int 0),
  (11, .istore 7, 13, 0, 7, 0, .null),
  (13, .iconst 0, 14, 0, 0, 0, .int 0),
  (14, .istore 8, 16, 0, 8, 0, .null),
  (16, .iconst 0, 17, 0, 0, 0, .int 0),
  (17, .istore 9, 19, 0, 9, 0, .null),
  (19, .iconst 0, 20, 0, 0, 0, .int 0),
  (20, .istore 10, 22, 0, 10, 0, .null),
  (22, .iload 10, 24, 0, 10, 0, .null),
  (24, .bipush 6, 26, 0, 0, 0, .int 6),
  (26, .if_icmp .ge 514, 29, 0, 540, 0, .null),
  (29, .bipush 8, 31, 0, 0, 0, .int 8),
  (31, .iload 10, 33, 0, 10, 0, .null),
  (33, .imul, 34, 0, 0, 0, .null),
  (34, .istore 11, 36, 0, 11, 0, .null),
  (36, .iload 10, 38, 0, 10, 0, .null),
  (38, .aload_n 2, 39, 0, 2, 0, .null),
  (39, .aload_n 3, 40, 0, 3, 0, .null),
  (40, .invokestatic 38, 43, 0, 0, 0, .null),
  (43, .istore 12, 45, 0, 12, 0, .null),
  (45, .aload_n 0, 46, 0, 0, 0, .null),
  (46, .iload 10, 48, 0, 10, 0, .null),
  (48, .iconst 0, 49, 0, 0, 0, .int 0),
  (49, .invokevirtual 59, 52, 0, 0, 0, .null),
  (52, .aload_n 2, 53, 0, 2, 0, .null),
  (53, .iload 11, 55, 0, 11, 0, .null),
  (55, .iaload, 56, 0, 0, 0, .null),
  (56, .if_icmp .ne 102, 59, 0, 158, 0, .null),
  (59, .aload_n 0, 60, 0, 0, 0, .null),
  (60, .iload 10, 62, 0, 10, 0, .null),
  (62, .iconst 2, 63, 0, 0, 0, .int 2),
  (63, .invokevirtual 59, 66, 0, 0, 0, .null),
  (66, .aload_n 2, 67, 0, 2, 0, .null),
  (67, .iload 11, 69, 0, 11, 0, .null),
  (69, .iconst 2, 70, 0, 0, 0, .int 2),
  (70, .iadd, 71, 0, 0, 0, .null),
  (71, .iaload, 72, 0, 0, 0, .null),
  (72, .if_icmp .ne 86, 75, 0, 158, 0, .null),
  (75, .aload_n 0, 76, 0, 0, 0, .null),
  (76, .iload 10, 78, 0, 10, 0, .null),
  (78, .iconst 3, 79, 0, 0, 0, .int 3),
  (79, .invokevirtual 59, 82, 0, 0, 0, .null),
  (82, .iload 12, 84, 0, 12, 0, .null),
  (84, .if_icmp .ne 74, 87, 0, 158, 0, .null),
  (87, .aload_n 0, 88, 0, 0, 0, .null),
  (88, .iload 10, 90, 0, 10, 0, .null),
  (90, .iconst 4, 91, 0, 0, 0, .int 4),
  (91, .invokevirtual 59, 94, 0, 0, 0, .null),
  (94, .iload 10, 96, 0, 10, 0, .null),
  (96, .aload_n 1, 97, 0, 1, 0, .null),
  (97, .aload 4, 99, 0, 4, 0, .null),
  (99, .invokestatic 34, 102, 0, 0, 0, .null),
  (102, .if_icmp .ne 56, 105, 0, 158, 0, .null),
  (105, .aload_n 0, 106, 0, 0, 0, .null)]
set_option maxRecDepth 100000 in
theorem tk_L_same_0 : tb_L_same_0.all (ev_ck RL "same" cL_same 18) = true := by decide +kernel
def tb_L_same_1 : ev_T := [(106, .iload 10, 108, 0, 10, 0, .null),
  (108, .iconst 5, 109, 0, 0, 0, .int 5),
  (109, .invokevirtual 59, 112, 0, 0, 0, .null),
  (112, .iload 10, 114, 0, 10, 0, .null),
  (114, .aload_n 1, 115, 0, 1, 0, .null),
  (115, .aload 4, 117, 0, 4, 0, .null),
  (117, .invokestatic 62, 120, 0, 0, 0, .null),
  (120, .if_icmp .ne 38, 123, 0, 158, 0, .null),
  (123, .aload_n 0, 124, 0, 0, 0, .null),
  (124, .iload 10, 126, 0, 10, 0, .null),
  (126, .bipush 6, 128, 0, 0, 0, .int 6),
  (128, .invokevirtual 59, 131, 0, 0, 0, .null),
  (131, .aload_n 2, 132, 0, 2, 0, .null),
  (132, .iload 11, 134, 0, 11, 0, .null),
  (134, .iconst 3, 135, 0, 0, 0, .int 3),
  (135, .iadd, 136, 0, 0, 0, .null),
  (136, .iaload, 137, 0, 0, 0, .null),
  (137, .if_icmp .ne 21, 140, 0, 158, 0, .null),
  (140, .aload_n 0, 141, 0, 0, 0, .null),
  (141, .iload 10, 143, 0, 10, 0, .null),
  (143, .bipush 7, 145, 0, 0, 0, .int 7),
  (145, .invokevirtual 59, 148, 0, 0, 0, .null),
  (148, .iload 5, 150, 0, 5, 0, .null),
  (150, .iload 10, 152, 0, 10, 0, .null),
  (152, .ishr, 153, 0, 0, 0, .null),
  (153, .iconst 1, 154, 0, 0, 0, .int 1),
  (154, .iand, 155, 0, 0, 0, .null),
  (155, .if_icmp .eq 5, 158, 0, 160, 0, .null),
  (158, .iconst 0, 159, 0, 0, 0, .int 0),
  (159, .ireturn, 160, 0, 0, 0, .null),
  (160, .aload_n 0, 161, 0, 0, 0, .null),
  (161, .iload 10, 163, 0, 10, 0, .null),
  (163, .bipush 9, 165, 0, 0, 0, .int 9),
  (165, .invokevirtual 59, 168, 0, 0, 0, .null),
  (168, .iload 10, 170, 0, 10, 0, .null),
  (170, .aload_n 2, 171, 0, 2, 0, .null),
  (171, .invokestatic 24, 174, 0, 0, 0, .null),
  (174, .ifCond .eq 7, 177, 0, 181, 0, .null),
  (177, .iconst (-1), 178, 0, 0, 0, .int (-1)),
  (178, .goto 9, 181, 0, 187, 0, .null),
  (181, .aload_n 2, 182, 0, 2, 0, .null),
  (182, .iload 11, 184, 0, 11, 0, .null),
  (184, .iconst 4, 185, 0, 0, 0, .int 4),
  (185, .iadd, 186, 0, 0, 0, .null),
  (186, .iaload, 187, 0, 0, 0, .null),
  (187, .if_icmp .ne 69, 190, 0, 256, 0, .null),
  (190, .aload_n 0, 191, 0, 0, 0, .null),
  (191, .iload 10, 193, 0, 10, 0, .null),
  (193, .bipush 10, 195, 0, 0, 0, .int 10),
  (195, .invokevirtual 59, 198, 0, 0, 0, .null),
  (198, .iload 10, 200, 0, 10, 0, .null),
  (200, .aload_n 2, 201, 0, 2, 0, .null),
  (201, .invokestatic 24, 204, 0, 0, 0, .null),
  (204, .ifCond .eq 7, 207, 0, 211, 0, .null),
  (207, .iconst (-1), 208, 0, 0, 0, .int (-1)),
  (208, .goto 10, 211, 0, 218, 0, .null),
  (211, .aload_n 2, 212, 0, 2, 0, .null),
  (212, .iload 11, 214, 0, 11, 0, .null),
  (214, .bipush 7, 216, 0, 0, 0, .int 7),
  (216, .iadd, 217, 0, 0, 0, .null)]
set_option maxRecDepth 100000 in
theorem tk_L_same_1 : tb_L_same_1.all (ev_ck RL "same" cL_same 18) = true := by decide +kernel
def tb_L_same_2 : ev_T := [(217, .iaload, 218, 0, 0, 0, .null),
  (218, .if_icmp .ne 38, 221, 0, 256, 0, .null),
  (221, .aload_n 0, 222, 0, 0, 0, .null),
  (222, .iload 10, 224, 0, 10, 0, .null),
  (224, .bipush 11, 226, 0, 0, 0, .int 11),
  (226, .invokevirtual 59, 229, 0, 0, 0, .null),
  (229, .aload_n 2, 230, 0, 2, 0, .null),
  (230, .iload 11, 232, 0, 11, 0, .null),
  (232, .iconst 5, 233, 0, 0, 0, .int 5),
  (233, .iadd, 234, 0, 0, 0, .null),
  (234, .iaload, 235, 0, 0, 0, .null),
  (235, .if_icmp .ne 21, 238, 0, 256, 0, .null),
  (238, .aload_n 0, 239, 0, 0, 0, .null),
  (239, .iload 10, 241, 0, 10, 0, .null),
  (241, .bipush 12, 243, 0, 0, 0, .int 12),
  (243, .invokevirtual 59, 246, 0, 0, 0, .null),
  (246, .aload_n 2, 247, 0, 2, 0, .null),
  (247, .iload 11, 249, 0, 11, 0, .null),
  (249, .bipush 6, 251, 0, 0, 0, .int 6),
  (251, .iadd, 252, 0, 0, 0, .null),
  (252, .iaload, 253, 0, 0, 0, .null),
  (253, .if_icmp .eq 5, 256, 0, 258, 0, .null),
  (256, .iconst 0, 257, 0, 0, 0, .int 0),
  (257, .ireturn, 258, 0, 0, 0, .null),
  (258, .iconst 0, 259, 0, 0, 0, .int 0),
  (259, .istore 13, 261, 0, 13, 0, .null),
  (261, .iconst 0, 262, 0, 0, 0, .int 0),
  (262, .istore 14, 264, 0, 14, 0, .null),
  (264, .iload 14, 266, 0, 14, 0, .null),
  (266, .bipush 6, 268, 0, 0, 0, .int 6),
  (268, .if_icmp .ge 157, 271, 0, 425, 0, .null),
  (271, .iconst 0, 272, 0, 0, 0, .int 0),
  (272, .istore 15, 274, 0, 15, 0, .null),
  (274, .iconst 0, 275, 0, 0, 0, .int 0),
  (275, .istore 16, 277, 0, 16, 0, .null),
  (277, .iconst 0, 278, 0, 0, 0, .int 0),
  (278, .istore 17, 280, 0, 17, 0, .null),
  (280, .iload 17, 282, 0, 17, 0, .null),
  (282, .iconst 4, 283, 0, 0, 0, .int 4),
  (283, .if_icmp .ge 91, 286, 0, 374, 0, .null),
  (286, .iload 15, 288, 0, 15, 0, .null),
  (288, .iload 10, 290, 0, 10, 0, .null),
  (290, .aload_n 2, 291, 0, 2, 0, .null),
  (291, .invokestatic 24, 294, 0, 0, 0, .null),
  (294, .ifCond .eq 29, 297, 0, 323, 0, .null),
  (297, .aload_n 3, 298, 0, 3, 0, .null),
  (298, .iconst 4, 299, 0, 0, 0, .int 4),
  (299, .iload 10, 301, 0, 10, 0, .null),
  (301, .imul, 302, 0, 0, 0, .null),
  (302, .iload 17, 304, 0, 17, 0, .null),
  (304, .iadd, 305, 0, 0, 0, .null),
  (305, .iaload, 306, 0, 0, 0, .null),
  (306, .ifCond .lt 17, 309, 0, 323, 0, .null),
  (309, .iconst 1, 310, 0, 0, 0, .int 1),
  (310, .aload_n 3, 311, 0, 3, 0, .null),
  (311, .iconst 4, 312, 0, 0, 0, .int 4),
  (312, .iload 10, 314, 0, 10, 0, .null),
  (314, .imul, 315, 0, 0, 0, .null),
  (315, .iload 17, 317, 0, 17, 0, .null),
  (317, .iadd, 318, 0, 0, 0, .null)]
set_option maxRecDepth 100000 in
theorem tk_L_same_2 : tb_L_same_2.all (ev_ck RL "same" cL_same 18) = true := by decide +kernel
end
section
/-! the table of L_same, in pieces -/
def tb_L_same_3 : ev_T := [(318, .iaload, 319, 0, 0, 0, .null),
  (319, .ishl, 320, 0, 0, 0, .null),
  (320, .goto 4, 323, 0, 324, 0, .null),
  (323, .iconst 0, 324, 0, 0, 0, .int 0),
  (324, .ior, 325, 0, 0, 0, .null),
  (325, .istore 15, 327, 0, 15, 0, .null),
  (327, .iload 16, 329, 0, 16, 0, .null),
  (329, .iload 14, 331, 0, 14, 0, .null),
  (331, .aload_n 2, 332, 0, 2, 0, .null),
  (332, .invokestatic 24, 335, 0, 0, 0, .null),
  (335, .ifCond .eq 29, 338, 0, 364, 0, .null),
  (338, .aload_n 3, 339, 0, 3, 0, .null),
  (339, .iconst 4, 340, 0, 0, 0, .int 4),
  (340, .iload 14, 342, 0, 14, 0, .null),
  (342, .imul, 343, 0, 0, 0, .null),
  (343, .iload 17, 345, 0, 17, 0, .null),
  (345, .iadd, 346, 0, 0, 0, .null),
  (346, .iaload, 347, 0, 0, 0, .null),
  (347, .ifCond .lt 17, 350, 0, 364, 0, .null),
  (350, .iconst 1, 351, 0, 0, 0, .int 1),
  (351, .aload_n 3, 352, 0, 3, 0, .null),
  (352, .iconst 4, 353, 0, 0, 0, .int 4),
  (353, .iload 14, 355, 0, 14, 0, .null),
  (355, .imul, 356, 0, 0, 0, .null),
  (356, .iload 17, 358, 0, 17, 0, .null),
  (358, .iadd, 359, 0, 0, 0, .null),
  (359, .iaload, 360, 0, 0, 0, .null),
  (360, .ishl, 361, 0, 0, 0, .null),
  (361, .goto 4, 364, 0, 365, 0, .null),
  (364, .iconst 0, 365, 0, 0, 0, .int 0),
  (365, .ior, 366, 0, 0, 0, .null),
  (366, .istore 16, 368, 0, 16, 0, .null),
  (368, .iinc 17 1, 371, 0, 17, 0, .int 1),
  (371, .goto (-91), 374, 0, 280, 0, .null),
  (374, .iload 13, 376, 0, 13, 0, .null),
  (376, .iload 15, 378, 0, 15, 0, .null),
  (378, .aload_n 2, 379, 0, 2, 0, .null),
  (379, .aload_n 3, 380, 0, 3, 0, .null),
  (380, .invokestatic 45, 383, 0, 0, 0, .null),
  (383, .iload 14, 385, 0, 14, 0, .null),
  (385, .ishr, 386, 0, 0, 0, .null),
  (386, .iconst 1, 387, 0, 0, 0, .int 1),
  (387, .iand, 388, 0, 0, 0, .null),
  (388, .iconst 1, 389, 0, 0, 0, .int 1),
  (389, .if_icmp .ne 26, 392, 0, 415, 0, .null),
  (392, .iload 16, 394, 0, 16, 0, .null),
  (394, .aload_n 2, 395, 0, 2, 0, .null),
  (395, .aload_n 3, 396, 0, 3, 0, .null),
  (396, .invokestatic 45, 399, 0, 0, 0, .null),
  (399, .iload 10, 401, 0, 10, 0, .null),
  (401, .ishr, 402, 0, 0, 0, .null),
  (402, .iconst 1, 403, 0, 0, 0, .int 1),
  (403, .iand, 404, 0, 0, 0, .null),
  (404, .iconst 1, 405, 0, 0, 0, .int 1),
  (405, .if_icmp .ne 10, 408, 0, 415, 0, .null),
  (408, .iconst 1, 409, 0, 0, 0, .int 1),
  (409, .iload 14, 411, 0, 14, 0, .null),
  (411, .ishl, 412, 0, 0, 0, .null),
  (412, .goto 4, 415, 0, 416, 0, .null),
  (415, .iconst 0, 416, 0, 0, 0, .int 0)]
set_option maxRecDepth 100000 in
theorem tk_L_same_3 : tb_L_same_3.all (ev_ck RL "same" cL_same 18) = true := by decide +kernel
def tb_L_same_4 : ev_T := [(416, .ior, 417, 0, 0, 0, .null),
  (417, .istore 13, 419, 0, 13, 0, .null),
  (419, .iinc 14 1, 422, 0, 14, 0, .int 1),
  (422, .goto (-158), 425, 0, 264, 0, .null),
  (425, .aload_n 0, 426, 0, 0, 0, .null),
  (426, .iload 10, 428, 0, 10, 0, .null),
  (428, .invokevirtual 65, 431, 0, 0, 0, .null),
  (431, .iload 13, 433, 0, 13, 0, .null),
  (433, .if_icmp .eq 5, 436, 0, 438, 0, .null),
  (436, .iconst 0, 437, 0, 0, 0, .int 0),
  (437, .ireturn, 438, 0, 0, 0, .null),
  (438, .iconst 0, 439, 0, 0, 0, .int 0),
  (439, .istore 14, 441, 0, 14, 0, .null),
  (441, .iload 14, 443, 0, 14, 0, .null),
  (443, .iconst 4, 444, 0, 0, 0, .int 4),
  (444, .if_icmp .ge 31, 447, 0, 475, 0, .null),
  (447, .aload_n 0, 448, 0, 0, 0, .null),
  (448, .iload 10, 450, 0, 10, 0, .null),
  (450, .iload 14, 452, 0, 14, 0, .null),
  (452, .invokevirtual 69, 455, 0, 0, 0, .null),
  (455, .aload_n 3, 456, 0, 3, 0, .null),
  (456, .iconst 4, 457, 0, 0, 0, .int 4),
  (457, .iload 10, 459, 0, 10, 0, .null),
  (459, .imul, 460, 0, 0, 0, .null),
  (460, .iload 14, 462, 0, 14, 0, .null),
  (462, .iadd, 463, 0, 0, 0, .null),
  (463, .iaload, 464, 0, 0, 0, .null),
  (464, .if_icmp .eq 5, 467, 0, 469, 0, .null),
  (467, .iconst 0, 468, 0, 0, 0, .int 0),
  (468, .ireturn, 469, 0, 0, 0, .null),
  (469, .iinc 14 1, 472, 0, 14, 0, .int 1),
  (472, .goto (-31), 475, 0, 441, 0, .null),
  (475, .iload 6, 477, 0, 6, 0, .null),
  (477, .aload_n 2, 478, 0, 2, 0, .null),
  (478, .iload 11, 480, 0, 11, 0, .null),
  (480, .iaload, 481, 0, 0, 0, .null),
  (481, .iadd, 482, 0, 0, 0, .null),
  (482, .istore 6, 484, 0, 6, 0, .null),
  (484, .iload 7, 486, 0, 7, 0, .null),
  (486, .aload_n 2, 487, 0, 2, 0, .null),
  (487, .iload 11, 489, 0, 11, 0, .null),
  (489, .iconst 3, 490, 0, 0, 0, .int 3),
  (490, .iadd, 491, 0, 0, 0, .null),
  (491, .iaload, 492, 0, 0, 0, .null),
  (492, .iadd, 493, 0, 0, 0, .null),
  (493, .istore 7, 495, 0, 7, 0, .null),
  (495, .iload 9, 497, 0, 9, 0, .null),
  (497, .iload 10, 499, 0, 10, 0, .null),
  (499, .aload_n 2, 500, 0, 2, 0, .null),
  (500, .invokestatic 24, 503, 0, 0, 0, .null),
  (503, .ifCond .eq 27, 506, 0, 530, 0, .null),
  (506, .aload_n 2, 507, 0, 2, 0, .null),
  (507, .iload 11, 509, 0, 11, 0, .null),
  (509, .iconst 2, 510, 0, 0, 0, .int 2),
  (510, .iadd, 511, 0, 0, 0, .null),
  (511, .iaload, 512, 0, 0, 0, .null),
  (512, .iload 10, 514, 0, 10, 0, .null),
  (514, .aload_n 1, 515, 0, 1, 0, .null),
  (515, .aload 4, 517, 0, 4, 0, .null),
  (517, .invokestatic 62, 520, 0, 0, 0, .null)]
set_option maxRecDepth 100000 in
theorem tk_L_same_4 : tb_L_same_4.all (ev_ck RL "same" cL_same 18) = true := by decide +kernel
def tb_L_same_5 : ev_T := [(520, .iadd, 521, 0, 0, 0, .null),
  (521, .iload 12, 523, 0, 12, 0, .null),
  (523, .if_icmp .eq 7, 526, 0, 530, 0, .null),
  (526, .iconst 1, 527, 0, 0, 0, .int 1),
  (527, .goto 4, 530, 0, 531, 0, .null),
  (530, .iconst 0, 531, 0, 0, 0, .int 0),
  (531, .iadd, 532, 0, 0, 0, .null),
  (532, .istore 9, 534, 0, 9, 0, .null),
  (534, .iinc 10 1, 537, 0, 10, 0, .int 1),
  (537, .goto (-515), 540, 0, 22, 0, .null),
  (540, .iconst 0, 541, 0, 0, 0, .int 0),
  (541, .istore 10, 543, 0, 10, 0, .null),
  (543, .iload 10, 545, 0, 10, 0, .null),
  (545, .iconst 4, 546, 0, 0, 0, .int 4),
  (546, .if_icmp .ge 27, 549, 0, 573, 0, .null),
  (549, .aload_n 0, 550, 0, 0, 0, .null),
  (550, .iload 10, 552, 0, 10, 0, .null),
  (552, .invokevirtual 72, 555, 0, 0, 0, .null),
  (555, .aload_n 3, 556, 0, 3, 0, .null),
  (556, .bipush 24, 558, 0, 0, 0, .int 24),
  (558, .iload 10, 560, 0, 10, 0, .null),
  (560, .iadd, 561, 0, 0, 0, .null),
  (561, .iaload, 562, 0, 0, 0, .null),
  (562, .if_icmp .eq 5, 565, 0, 567, 0, .null),
  (565, .iconst 0, 566, 0, 0, 0, .int 0),
  (566, .ireturn, 567, 0, 0, 0, .null),
  (567, .iinc 10 1, 570, 0, 10, 0, .int 1),
  (570, .goto (-27), 573, 0, 543, 0, .null),
  (573, .iconst 0, 574, 0, 0, 0, .int 0),
  (574, .istore 10, 576, 0, 10, 0, .null),
  (576, .iload 10, 578, 0, 10, 0, .null),
  (578, .bipush 28, 580, 0, 0, 0, .int 28),
  (580, .if_icmp .ge 26, 583, 0, 606, 0, .null),
  (583, .iload 8, 585, 0, 8, 0, .null),
  (585, .aload_n 3, 586, 0, 3, 0, .null),
  (586, .iload 10, 588, 0, 10, 0, .null),
  (588, .iaload, 589, 0, 0, 0, .null),
  (589, .ifCond .lt 7, 592, 0, 596, 0, .null),
  (592, .iconst 1, 593, 0, 0, 0, .int 1),
  (593, .goto 4, 596, 0, 597, 0, .null),
  (596, .iconst 0, 597, 0, 0, 0, .int 0),
  (597, .iadd, 598, 0, 0, 0, .null),
  (598, .istore 8, 600, 0, 8, 0, .null),
  (600, .iinc 10 1, 603, 0, 10, 0, .int 1),
  (603, .goto (-27), 606, 0, 576, 0, .null),
  (606, .iconst 0, 607, 0, 0, 0, .int 0),
  (607, .istore 10, 609, 0, 10, 0, .null),
  (609, .iload 10, 611, 0, 10, 0, .null),
  (611, .aload_n 1, 612, 0, 1, 0, .null),
  (612, .iconst 2, 613, 0, 0, 0, .int 2),
  (613, .iaload, 614, 0, 0, 0, .null),
  (614, .if_icmp .ge 136, 617, 0, 750, 0, .null),
  (617, .iconst 0, 618, 0, 0, 0, .int 0),
  (618, .istore 11, 620, 0, 11, 0, .null),
  (620, .iconst 0, 621, 0, 0, 0, .int 0),
  (621, .istore 12, 623, 0, 12, 0, .null),
  (623, .iload 12, 625, 0, 12, 0, .null),
  (625, .aload_n 1, 626, 0, 1, 0, .null),
  (626, .iconst 2, 627, 0, 0, 0, .int 2),
  (627, .iaload, 628, 0, 0, 0, .null)]
set_option maxRecDepth 100000 in
theorem tk_L_same_5 : tb_L_same_5.all (ev_ck RL "same" cL_same 18) = true := by decide +kernel
end
section
/-! the table of L_same, in pieces -/
def tb_L_same_6 : ev_T := [(628, .if_icmp .ge 32, 631, 0, 660, 0, .null),
  (631, .iload 11, 633, 0, 11, 0, .null),
  (633, .aload 4, 635, 0, 4, 0, .null),
  (635, .iload 12, 637, 0, 12, 0, .null),
  (637, .iaload, 638, 0, 0, 0, .null),
  (638, .aload 4, 640, 0, 4, 0, .null),
  (640, .iload 10, 642, 0, 10, 0, .null),
  (642, .iaload, 643, 0, 0, 0, .null),
  (643, .if_icmp .ge 7, 646, 0, 650, 0, .null),
  (646, .iconst 1, 647, 0, 0, 0, .int 1),
  (647, .goto 4, 650, 0, 651, 0, .null),
  (650, .iconst 0, 651, 0, 0, 0, .int 0),
  (651, .iadd, 652, 0, 0, 0, .null),
  (652, .istore 11, 654, 0, 11, 0, .null),
  (654, .iinc 12 1, 657, 0, 12, 0, .int 1),
  (657, .goto (-34), 660, 0, 623, 0, .null),
  (660, .aload_n 0, 661, 0, 0, 0, .null),
  (661, .iload 11, 663, 0, 11, 0, .null),
  (663, .iconst 0, 664, 0, 0, 0, .int 0),
  (664, .invokevirtual 75, 667, 0, 0, 0, .null),
  (667, .aload 4, 669, 0, 4, 0, .null),
  (669, .iload 10, 671, 0, 10, 0, .null),
  (671, .iaload, 672, 0, 0, 0, .null),
  (672, .bipush 16, 674, 0, 0, 0, .int 16),
  (674, .idiv, 675, 0, 0, 0, .null),
  (675, .sipush 128, 678, 0, 0, 0, .int 128),
  (678, .irem, 679, 0, 0, 0, .null),
  (679, .if_icmp .ne 63, 682, 0, 742, 0, .null),
  (682, .aload_n 0, 683, 0, 0, 0, .null),
  (683, .iload 11, 685, 0, 11, 0, .null),
  (685, .iconst 1, 686, 0, 0, 0, .int 1),
  (686, .invokevirtual 75, 689, 0, 0, 0, .null),
  (689, .aload 4, 691, 0, 4, 0, .null),
  (691, .iload 10, 693, 0, 10, 0, .null),
  (693, .iaload, 694, 0, 0, 0, .null),
  (694, .iconst 2, 695, 0, 0, 0, .int 2),
  (695, .idiv, 696, 0, 0, 0, .null),
  (696, .bipush 8, 698, 0, 0, 0, .int 8),
  (698, .irem, 699, 0, 0, 0, .null),
  (699, .if_icmp .ne 43, 702, 0, 742, 0, .null),
  (702, .aload_n 0, 703, 0, 0, 0, .null),
  (703, .iload 11, 705, 0, 11, 0, .null),
  (705, .iconst 2, 706, 0, 0, 0, .int 2),
  (706, .invokevirtual 75, 709, 0, 0, 0, .null),
  (709, .iconst 2, 710, 0, 0, 0, .int 2),
  (710, .aload 4, 712, 0, 4, 0, .null),
  (712, .iload 10, 714, 0, 10, 0, .null),
  (714, .iaload, 715, 0, 0, 0, .null),
  (715, .iconst 2, 716, 0, 0, 0, .int 2),
  (716, .irem, 717, 0, 0, 0, .null),
  (717, .imul, 718, 0, 0, 0, .null),
  (718, .iconst 1, 719, 0, 0, 0, .int 1),
  (719, .isub, 720, 0, 0, 0, .null),
  (720, .if_icmp .ne 22, 723, 0, 742, 0, .null),
  (723, .aload_n 0, 724, 0, 0, 0, .null),
  (724, .iload 11, 726, 0, 11, 0, .null),
  (726, .iconst 3, 727, 0, 0, 0, .int 3),
  (727, .invokevirtual 75, 730, 0, 0, 0, .null),
  (730, .aload 4, 732, 0, 4, 0, .null),
  (732, .iload 10, 734, 0, 10, 0, .null)]
set_option maxRecDepth 100000 in
theorem tk_L_same_6 : tb_L_same_6.all (ev_ck RL "same" cL_same 18) = true := by decide +kernel
def tb_L_same_7 : ev_T := [(734, .iaload, 735, 0, 0, 0, .null),
  (735, .sipush 2048, 738, 0, 0, 0, .int 2048),
  (738, .idiv, 739, 0, 0, 0, .null),
  (739, .if_icmp .eq 5, 742, 0, 744, 0, .null),
  (742, .iconst 0, 743, 0, 0, 0, .int 0),
  (743, .ireturn, 744, 0, 0, 0, .null),
  (744, .iinc 10 1, 747, 0, 10, 0, .int 1),
  (747, .goto (-138), 750, 0, 609, 0, .null),
  (750, .aload_n 0, 751, 0, 0, 0, .null),
  (751, .invokevirtual 77, 754, 0, 0, 0, .null),
  (754, .iload 6, 756, 0, 6, 0, .null),
  (756, .ifCond .ne 7, 759, 0, 763, 0, .null),
  (759, .dconst 0, 760, 0, 0, 0, .double FP.dconst0),
  (760, .goto 13, 763, 0, 773, 0, .null),
  (763, .iload 5, 765, 0, 5, 0, .null),
  (765, .invokestatic 81, 768, 0, 0, 0, .null),
  (768, .i2d, 769, 0, 0, 0, .null),
  (769, .iload 6, 771, 0, 6, 0, .null),
  (771, .i2d, 772, 0, 0, 0, .null),
  (772, .ddiv, 773, 0, 0, 0, .null),
  (773, .dcmp .l, 774, 0, 0, 0, .null),
  (774, .ifCond .eq 5, 777, 0, 779, 0, .null),
  (777, .iconst 0, 778, 0, 0, 0, .int 0),
  (778, .ireturn, 779, 0, 0, 0, .null),
  (779, .aload_n 0, 780, 0, 0, 0, .null),
  (780, .iconst 0, 781, 0, 0, 0, .int 0),
  (781, .invokevirtual 84, 784, 0, 0, 0, .null),
  (784, .aload_n 1, 785, 0, 1, 0, .null),
  (785, .iconst 0, 786, 0, 0, 0, .int 0),
  (786, .iaload, 787, 0, 0, 0, .null),
  (787, .if_icmp .ne 134, 790, 0, 921, 0, .null),
  (790, .aload_n 0, 791, 0, 0, 0, .null),
  (791, .iconst 2, 792, 0, 0, 0, .int 2),
  (792, .invokevirtual 84, 795, 0, 0, 0, .null),
  (795, .iload 6, 797, 0, 6, 0, .null),
  (797, .if_icmp .ne 124, 800, 0, 921, 0, .null),
  (800, .aload_n 0, 801, 0, 0, 0, .null),
  (801, .iconst 3, 802, 0, 0, 0, .int 3),
  (802, .invokevirtual 84, 805, 0, 0, 0, .null),
  (805, .iload 5, 807, 0, 5, 0, .null),
  (807, .invokestatic 81, 810, 0, 0, 0, .null),
  (810, .if_icmp .ne 111, 813, 0, 921, 0, .null),
  (813, .aload_n 0, 814, 0, 0, 0, .null),
  (814, .iconst 4, 815, 0, 0, 0, .int 4),
  (815, .invokevirtual 84, 818, 0, 0, 0, .null),
  (818, .iload 7, 820, 0, 7, 0, .null),
  (820, .if_icmp .ne 101, 823, 0, 921, 0, .null),
  (823, .aload_n 0, 824, 0, 0, 0, .null),
  (824, .iconst 5, 825, 0, 0, 0, .int 5),
  (825, .invokevirtual 84, 828, 0, 0, 0, .null),
  (828, .aload_n 1, 829, 0, 1, 0, .null),
  (829, .iconst 2, 830, 0, 0, 0, .int 2),
  (830, .iaload, 831, 0, 0, 0, .null),
  (831, .if_icmp .ne 90, 834, 0, 921, 0, .null),
  (834, .aload_n 0, 835, 0, 0, 0, .null),
  (835, .bipush 6, 837, 0, 0, 0, .int 6),
  (837, .invokevirtual 84, 840, 0, 0, 0, .null),
  (840, .aload_n 1, 841, 0, 1, 0, .null),
  (841, .iconst 1, 842, 0, 0, 0, .int 1),
  (842, .iaload, 843, 0, 0, 0, .null)]
set_option maxRecDepth 100000 in
theorem tk_L_same_7 : tb_L_same_7.all (ev_ck RL "same" cL_same 18) = true := by decide +kernel
def tb_L_same_8 : ev_T := [(843, .if_icmp .ne 78, 846, 0, 921, 0, .null),
  (846, .aload_n 0, 847, 0, 0, 0, .null),
  (847, .bipush 7, 849, 0, 0, 0, .int 7),
  (849, .invokevirtual 84, 852, 0, 0, 0, .null),
  (852, .aload_n 1, 853, 0, 1, 0, .null),
  (853, .iconst 3, 854, 0, 0, 0, .int 3),
  (854, .iaload, 855, 0, 0, 0, .null),
  (855, .if_icmp .ne 66, 858, 0, 921, 0, .null),
  (858, .aload_n 0, 859, 0, 0, 0, .null),
  (859, .bipush 8, 861, 0, 0, 0, .int 8),
  (861, .invokevirtual 84, 864, 0, 0, 0, .null),
  (864, .aload_n 1, 865, 0, 1, 0, .null),
  (865, .iconst 4, 866, 0, 0, 0, .int 4),
  (866, .iaload, 867, 0, 0, 0, .null),
  (867, .if_icmp .ne 54, 870, 0, 921, 0, .null),
  (870, .aload_n 0, 871, 0, 0, 0, .null),
  (871, .bipush 9, 873, 0, 0, 0, .int 9),
  (873, .invokevirtual 84, 876, 0, 0, 0, .null),
  (876, .aload_n 1, 877, 0, 1, 0, .null),
  (877, .iconst 5, 878, 0, 0, 0, .int 5),
  (878, .iaload, 879, 0, 0, 0, .null),
  (879, .if_icmp .ne 42, 882, 0, 921, 0, .null),
  (882, .aload_n 0, 883, 0, 0, 0, .null),
  (883, .bipush 10, 885, 0, 0, 0, .int 10),
  (885, .invokevirtual 84, 888, 0, 0, 0, .null),
  (888, .aload_n 1, 889, 0, 1, 0, .null),
  (889, .bipush 6, 891, 0, 0, 0, .int 6),
  (891, .iaload, 892, 0, 0, 0, .null),
  (892, .if_icmp .ne 29, 895, 0, 921, 0, .null),
  (895, .aload_n 0, 896, 0, 0, 0, .null),
  (896, .bipush 11, 898, 0, 0, 0, .int 11),
  (898, .invokevirtual 84, 901, 0, 0, 0, .null),
  (901, .iload 8, 903, 0, 8, 0, .null),
  (903, .if_icmp .ne 18, 906, 0, 921, 0, .null),
  (906, .aload_n 0, 907, 0, 0, 0, .null),
  (907, .bipush 12, 909, 0, 0, 0, .int 12),
  (909, .invokevirtual 84, 912, 0, 0, 0, .null),
  (912, .iload 9, 914, 0, 9, 0, .null),
  (914, .if_icmp .ne 7, 917, 0, 921, 0, .null),
  (917, .iconst 1, 918, 0, 0, 0, .int 1),
  (918, .goto 4, 921, 0, 922, 0, .null),
  (921, .iconst 0, 922, 0, 0, 0, .int 0),
  (922, .ireturn, 923, 0, 0, 0, .null)]
set_option maxRecDepth 100000 in
theorem tk_L_same_8 : tb_L_same_8.all (ev_ck RL "same" cL_same 18) = true := by decide +kernel
end
section
/-! the table of L_same, in pieces -/
def tb_L_same : ev_T := tb_L_same_0 ++ (tb_L_same_1 ++ (tb_L_same_2 ++ (tb_L_same_3 ++ (tb_L_same_4 ++ (tb_L_same_5 ++ (tb_L_same_6 ++ (tb_L_same_7 ++ (tb_L_same_8))))))))
def mm_L_same : ev_M := (RL, "same", cL_same, 18, (some .boolean), tb_L_same, 7, 182, 0, 0)
theorem ok_L_same : ev_OK mm_L_same := ev_app tk_L_same_0 (ev_app tk_L_same_1 (ev_app tk_L_same_2 (ev_app tk_L_same_3 (ev_app tk_L_same_4 (ev_app tk_L_same_5 (ev_app tk_L_same_6 (ev_app tk_L_same_7 (tk_L_same_8))))))))
set_option maxRecDepth 100000 in
theorem wc_L_same : Jvm.Cond.code yL_same (ev_cc mm_L_same) (ev_nL mm_L_same) (ev_rt mm_L_same) ∈ ev_WA := List.mem_filter.mpr ⟨List.mem_of_getElem? (i := 542) (by with_unfolding_all rfl), by with_unfolding_all rfl⟩
theorem cs_L_same : ev_CS yL_same mm_L_same 5 := ⟨wc_L_same, ev_has_in (k := 22) (by decide +kernel), ev_has_in (k := 541) (by decide +kernel), ⟨by decide +kernel, by decide +kernel, by decide +kernel⟩⟩
end
section
/-! the table of L_would, in pieces -/
def tb_L_would_0 : ev_T := [(0, .aload_n 3, 1, 0, 3, 0, .null),
  (1, .aload 7, 3, 0, 7, 0, .null),
  (3, .invokestatic 87, 6, 0, 0, 0, .null),
  (6, .aload 4, 8, 0, 4, 0, .null),
  (8, .aload 8, 10, 0, 8, 0, .null),
  (10, .invokestatic 87, 13, 0, 0, 0, .null),
  (13, .aload 5, 15, 0, 5, 0, .null),
  (15, .aload 9, 17, 0, 9, 0, .null),
  (17, .invokestatic 87, 20, 0, 0, 0, .null),
  (20, .aload 6, 22, 0, 6, 0, .null),
  (22, .aload 10, 24, 0, 10, 0, .null),
  (24, .invokestatic 87, 27, 0, 0, 0, .null),
  (27, .iload_n 1, 28, 0, 1, 0, .null),
  (28, .aload 8, 30, 0, 8, 0, .null),
  (30, .invokestatic 24, 33, 0, 0, 0, .null),
  (33, .ifCond .eq 7, 36, 0, 40, 0, .null),
  (36, .iconst (-1), 37, 0, 0, 0, .int (-1)),
  (37, .goto 4, 40, 0, 41, 0, .null),
  (40, .iconst 0, 41, 0, 0, 0, .int 0),
  (41, .istore 11, 43, 0, 11, 0, .null),
  (43, .iconst 1, 44, 0, 0, 0, .int 1),
  (44, .istore 12, 46, 0, 12, 0, .null),
  (46, .iload 12, 48, 0, 12, 0, .null),
  (48, .bipush 30, 50, 0, 0, 0, .int 30),
  (50, .if_icmp .gt 166, 53, 0, 216, 0, .null),
  (53, .aload 7, 55, 0, 7, 0, .null),
  (55, .aload 8, 57, 0, 8, 0, .null),
  (57, .aload 9, 59, 0, 9, 0, .null),
  (59, .aload 10, 61, 0, 10, 0, .null),
  (61, .invokestatic 91, 64, 0, 0, 0, .null),
  (64, .iload 11, 66, 0, 11, 0, .null),
  (66, .ifCond .ge 17, 69, 0, 83, 0, .null),
  (69, .iload_n 1, 70, 0, 1, 0, .null),
  (70, .aload 8, 72, 0, 8, 0, .null),
  (72, .invokestatic 24, 75, 0, 0, 0, .null),
  (75, .ifCond .ne 8, 78, 0, 83, 0, .null),
  (78, .iload 12, 80, 0, 12, 0, .null),
  (80, .goto 5, 83, 0, 85, 0, .null),
  (83, .iload 11, 85, 0, 11, 0, .null),
  (85, .istore 11, 87, 0, 11, 0, .null),
  (87, .iload 12, 89, 0, 12, 0, .null),
  (89, .iload_n 2, 90, 0, 2, 0, .null),
  (90, .if_icmp .eq 6, 93, 0, 96, 0, .null),
  (93, .goto 117, 96, 0, 210, 0, .null),
  (96, .iconst 0, 97, 0, 0, 0, .int 0),
  (97, .istore 13, 99, 0, 13, 0, .null),
  (99, .iconst 0, 100, 0, 0, 0, .int 0),
  (100, .istore 14, 102, 0, 14, 0, .null),
  (102, .iload 14, 104, 0, 14, 0, .null),
  (104, .bipush 6, 106, 0, 0, 0, .int 6),
  (106, .if_icmp .ge 44, 109, 0, 150, 0, .null),
  (109, .iload 13, 111, 0, 13, 0, .null),
  (111, .iload 14, 113, 0, 14, 0, .null),
  (113, .aload 8, 115, 0, 8, 0, .null),
  (115, .invokestatic 24, 118, 0, 0, 0, .null),
  (118, .ifCond .eq 22, 121, 0, 140, 0, .null),
  (121, .aload 8, 123, 0, 8, 0, .null),
  (123, .aload 9, 125, 0, 9, 0, .null),
  (125, .invokestatic 55, 128, 0, 0, 0, .null),
  (128, .iload 14, 130, 0, 14, 0, .null)]
set_option maxRecDepth 100000 in
theorem tk_L_would_0 : tb_L_would_0.all (ev_ck RL "would" cL_would 20) = true := by decide +kernel
def tb_L_would_1 : ev_T := [(130, .ishr, 131, 0, 0, 0, .null),
  (131, .iconst 1, 132, 0, 0, 0, .int 1),
  (132, .iand, 133, 0, 0, 0, .null),
  (133, .ifCond .ne 7, 136, 0, 140, 0, .null),
  (136, .iconst 1, 137, 0, 0, 0, .int 1),
  (137, .goto 4, 140, 0, 141, 0, .null),
  (140, .iconst 0, 141, 0, 0, 0, .int 0),
  (141, .iadd, 142, 0, 0, 0, .null),
  (142, .istore 13, 144, 0, 13, 0, .null),
  (144, .iinc 14 1, 147, 0, 14, 0, .int 1),
  (147, .goto (-45), 150, 0, 102, 0, .null),
  (150, .aload_n 0, 151, 0, 0, 0, .null),
  (151, .iload_n 2, 152, 0, 2, 0, .null),
  (152, .iconst 0, 153, 0, 0, 0, .int 0),
  (153, .invokevirtual 94, 156, 0, 0, 0, .null),
  (156, .aload 7, 158, 0, 7, 0, .null),
  (158, .iconst 3, 159, 0, 0, 0, .int 3),
  (159, .iaload, 160, 0, 0, 0, .null),
  (160, .aload_n 3, 161, 0, 3, 0, .null),
  (161, .iconst 3, 162, 0, 0, 0, .int 3),
  (162, .iaload, 163, 0, 0, 0, .null),
  (163, .isub, 164, 0, 0, 0, .null),
  (164, .if_icmp .ne 44, 167, 0, 208, 0, .null),
  (167, .aload_n 0, 168, 0, 0, 0, .null),
  (168, .iload_n 2, 169, 0, 2, 0, .null),
  (169, .iconst 1, 170, 0, 0, 0, .int 1),
  (170, .invokevirtual 94, 173, 0, 0, 0, .null),
  (173, .aload 7, 175, 0, 7, 0, .null),
  (175, .iconst 5, 176, 0, 0, 0, .int 5),
  (176, .iaload, 177, 0, 0, 0, .null),
  (177, .aload_n 3, 178, 0, 3, 0, .null),
  (178, .iconst 5, 179, 0, 0, 0, .int 5),
  (179, .iaload, 180, 0, 0, 0, .null),
  (180, .isub, 181, 0, 0, 0, .null),
  (181, .if_icmp .ne 27, 184, 0, 208, 0, .null),
  (184, .aload_n 0, 185, 0, 0, 0, .null),
  (185, .iload_n 2, 186, 0, 2, 0, .null),
  (186, .iconst 2, 187, 0, 0, 0, .int 2),
  (187, .invokevirtual 94, 190, 0, 0, 0, .null),
  (190, .aload 7, 192, 0, 7, 0, .null),
  (192, .iconst 2, 193, 0, 0, 0, .int 2),
  (193, .iaload, 194, 0, 0, 0, .null),
  (194, .if_icmp .ne 14, 197, 0, 208, 0, .null),
  (197, .aload_n 0, 198, 0, 0, 0, .null),
  (198, .iload_n 2, 199, 0, 2, 0, .null),
  (199, .iconst 3, 200, 0, 0, 0, .int 3),
  (200, .invokevirtual 94, 203, 0, 0, 0, .null),
  (203, .iload 13, 205, 0, 13, 0, .null),
  (205, .if_icmp .eq 5, 208, 0, 210, 0, .null),
  (208, .iconst 0, 209, 0, 0, 0, .int 0),
  (209, .ireturn, 210, 0, 0, 0, .null),
  (210, .iinc 12 1, 213, 0, 12, 0, .int 1),
  (213, .goto (-167), 216, 0, 46, 0, .null),
  (216, .aload_n 0, 217, 0, 0, 0, .null),
  (217, .iload_n 1, 218, 0, 1, 0, .null),
  (218, .invokevirtual 97, 221, 0, 0, 0, .null),
  (221, .istore 12, 223, 0, 12, 0, .null),
  (223, .iload 11, 225, 0, 11, 0, .null),
  (225, .ifCond .lt 13, 228, 0, 238, 0, .null),
  (228, .iload 12, 230, 0, 12, 0, .null)]
set_option maxRecDepth 100000 in
theorem tk_L_would_1 : tb_L_would_1.all (ev_ck RL "would" cL_would 20) = true := by decide +kernel
def tb_L_would_2 : ev_T := [(230, .iload 11, 232, 0, 11, 0, .null),
  (232, .if_icmp .eq 20, 235, 0, 252, 0, .null),
  (235, .goto 15, 238, 0, 250, 0, .null),
  (238, .iload 12, 240, 0, 12, 0, .null),
  (240, .ifCond .lt 12, 243, 0, 252, 0, .null),
  (243, .iload 12, 245, 0, 12, 0, .null),
  (245, .bipush 30, 247, 0, 0, 0, .int 30),
  (247, .if_icmp .gt 5, 250, 0, 252, 0, .null),
  (250, .iconst 0, 251, 0, 0, 0, .int 0),
  (251, .ireturn, 252, 0, 0, 0, .null),
  (252, .aload_n 0, 253, 0, 0, 0, .null),
  (253, .iload_n 1, 254, 0, 1, 0, .null),
  (254, .invokevirtual 100, 257, 0, 0, 0, .null),
  (257, .ifCond .ne 7, 260, 0, 264, 0, .null),
  (260, .iconst 1, 261, 0, 0, 0, .int 1),
  (261, .goto 4, 264, 0, 265, 0, .null),
  (264, .iconst 0, 265, 0, 0, 0, .int 0),
  (265, .iload 11, 267, 0, 11, 0, .null),
  (267, .ifCond .lt 7, 270, 0, 274, 0, .null),
  (270, .iconst 1, 271, 0, 0, 0, .int 1),
  (271, .goto 4, 274, 0, 275, 0, .null),
  (274, .iconst 0, 275, 0, 0, 0, .int 0),
  (275, .if_icmp .eq 5, 278, 0, 280, 0, .null),
  (278, .iconst 0, 279, 0, 0, 0, .int 0),
  (279, .ireturn, 280, 0, 0, 0, .null),
  (280, .aload_n 3, 281, 0, 3, 0, .null),
  (281, .aload 7, 283, 0, 7, 0, .null),
  (283, .invokestatic 87, 286, 0, 0, 0, .null),
  (286, .aload 4, 288, 0, 4, 0, .null),
  (288, .aload 8, 290, 0, 8, 0, .null),
  (290, .invokestatic 87, 293, 0, 0, 0, .null),
  (293, .aload 5, 295, 0, 5, 0, .null),
  (295, .aload 9, 297, 0, 9, 0, .null),
  (297, .invokestatic 87, 300, 0, 0, 0, .null),
  (300, .aload 6, 302, 0, 6, 0, .null),
  (302, .aload 10, 304, 0, 10, 0, .null),
  (304, .invokestatic 87, 307, 0, 0, 0, .null),
  (307, .aload 7, 309, 0, 7, 0, .null),
  (309, .aload 8, 311, 0, 8, 0, .null),
  (311, .aload 9, 313, 0, 9, 0, .null),
  (313, .aload 10, 315, 0, 10, 0, .null),
  (315, .invokestatic 52, 318, 0, 0, 0, .null),
  (318, .iconst 0, 319, 0, 0, 0, .int 0),
  (319, .istore 13, 321, 0, 13, 0, .null),
  (321, .iconst 0, 322, 0, 0, 0, .int 0),
  (322, .istore 14, 324, 0, 14, 0, .null),
  (324, .iload 14, 326, 0, 14, 0, .null),
  (326, .bipush 6, 328, 0, 0, 0, .int 6),
  (328, .if_icmp .ge 24, 331, 0, 352, 0, .null),
  (331, .iload 13, 333, 0, 13, 0, .null),
  (333, .aload 8, 335, 0, 8, 0, .null),
  (335, .bipush 8, 337, 0, 0, 0, .int 8),
  (337, .iload 14, 339, 0, 14, 0, .null),
  (339, .imul, 340, 0, 0, 0, .null),
  (340, .iconst 3, 341, 0, 0, 0, .int 3),
  (341, .iadd, 342, 0, 0, 0, .null),
  (342, .iaload, 343, 0, 0, 0, .null),
  (343, .iadd, 344, 0, 0, 0, .null),
  (344, .istore 13, 346, 0, 13, 0, .null),
  (346, .iinc 14 1, 349, 0, 14, 0, .int 1)]
set_option maxRecDepth 100000 in
theorem tk_L_would_2 : tb_L_would_2.all (ev_ck RL "would" cL_would 20) = true := by decide +kernel
end
section
/-! the table of L_would, in pieces -/
def tb_L_would_3 : ev_T := [(349, .goto (-25), 352, 0, 324, 0, .null),
  (352, .aload_n 0, 353, 0, 0, 0, .null),
  (353, .iconst 0, 354, 0, 0, 0, .int 0),
  (354, .invokevirtual 103, 357, 0, 0, 0, .null),
  (357, .aload 7, 359, 0, 7, 0, .null),
  (359, .iconst 3, 360, 0, 0, 0, .int 3),
  (360, .iaload, 361, 0, 0, 0, .null),
  (361, .aload_n 3, 362, 0, 3, 0, .null),
  (362, .iconst 3, 363, 0, 0, 0, .int 3),
  (363, .iaload, 364, 0, 0, 0, .null),
  (364, .isub, 365, 0, 0, 0, .null),
  (365, .if_icmp .ne 29, 368, 0, 394, 0, .null),
  (368, .aload_n 0, 369, 0, 0, 0, .null),
  (369, .iconst 1, 370, 0, 0, 0, .int 1),
  (370, .invokevirtual 103, 373, 0, 0, 0, .null),
  (373, .iload 13, 375, 0, 13, 0, .null),
  (375, .if_icmp .ne 19, 378, 0, 394, 0, .null),
  (378, .aload_n 0, 379, 0, 0, 0, .null),
  (379, .iconst 2, 380, 0, 0, 0, .int 2),
  (380, .invokevirtual 103, 383, 0, 0, 0, .null),
  (383, .aload 7, 385, 0, 7, 0, .null),
  (385, .iconst 5, 386, 0, 0, 0, .int 5),
  (386, .iaload, 387, 0, 0, 0, .null),
  (387, .aload_n 3, 388, 0, 3, 0, .null),
  (388, .iconst 5, 389, 0, 0, 0, .int 5),
  (389, .iaload, 390, 0, 0, 0, .null),
  (390, .isub, 391, 0, 0, 0, .null),
  (391, .if_icmp .eq 5, 394, 0, 396, 0, .null),
  (394, .iconst 0, 395, 0, 0, 0, .int 0),
  (395, .ireturn, 396, 0, 0, 0, .null),
  (396, .aload 4, 398, 0, 4, 0, .null),
  (398, .aload 5, 400, 0, 5, 0, .null),
  (400, .invokestatic 55, 403, 0, 0, 0, .null),
  (403, .istore 14, 405, 0, 14, 0, .null),
  (405, .iconst (-1), 406, 0, 0, 0, .int (-1)),
  (406, .istore 15, 408, 0, 15, 0, .null),
  (408, .iconst 0, 409, 0, 0, 0, .int 0),
  (409, .istore 16, 411, 0, 16, 0, .null),
  (411, .iconst 0, 412, 0, 0, 0, .int 0),
  (412, .istore 17, 414, 0, 17, 0, .null),
  (414, .iload 17, 416, 0, 17, 0, .null),
  (416, .bipush 28, 418, 0, 0, 0, .int 28),
  (418, .if_icmp .ge 92, 421, 0, 510, 0, .null),
  (421, .iload 17, 423, 0, 17, 0, .null),
  (423, .iconst 4, 424, 0, 0, 0, .int 4),
  (424, .if_icmp .ge 11, 427, 0, 435, 0, .null),
  (427, .bipush 24, 429, 0, 0, 0, .int 24),
  (429, .iload 17, 431, 0, 17, 0, .null),
  (431, .iadd, 432, 0, 0, 0, .null),
  (432, .goto 7, 435, 0, 439, 0, .null),
  (435, .iload 17, 437, 0, 17, 0, .null),
  (437, .iconst 4, 438, 0, 0, 0, .int 4),
  (438, .isub, 439, 0, 0, 0, .null),
  (439, .istore 18, 441, 0, 18, 0, .null),
  (441, .aload 5, 443, 0, 5, 0, .null),
  (443, .aload 9, 445, 0, 9, 0, .null),
  (445, .invokestatic 87, 448, 0, 0, 0, .null),
  (448, .aload 9, 450, 0, 9, 0, .null),
  (450, .iload 18, 452, 0, 18, 0, .null),
  (452, .iconst (-1), 453, 0, 0, 0, .int (-1))]
set_option maxRecDepth 100000 in
theorem tk_L_would_3 : tb_L_would_3.all (ev_ck RL "would" cL_would 20) = true := by decide +kernel
def tb_L_would_4 : ev_T := [(453, .iastore, 454, 0, 0, 0, .null),
  (454, .iload 14, 456, 0, 14, 0, .null),
  (456, .invokestatic 81, 459, 0, 0, 0, .null),
  (459, .aload 4, 461, 0, 4, 0, .null),
  (461, .aload 9, 463, 0, 9, 0, .null),
  (463, .invokestatic 55, 466, 0, 0, 0, .null),
  (466, .invokestatic 81, 469, 0, 0, 0, .null),
  (469, .isub, 470, 0, 0, 0, .null),
  (470, .istore 19, 472, 0, 19, 0, .null),
  (472, .iload 19, 474, 0, 19, 0, .null),
  (474, .iload 16, 476, 0, 16, 0, .null),
  (476, .if_icmp .le 8, 479, 0, 484, 0, .null),
  (479, .iload 17, 481, 0, 17, 0, .null),
  (481, .goto 5, 484, 0, 486, 0, .null),
  (484, .iload 15, 486, 0, 15, 0, .null),
  (486, .istore 15, 488, 0, 15, 0, .null),
  (488, .iload 19, 490, 0, 19, 0, .null),
  (490, .iload 16, 492, 0, 16, 0, .null),
  (492, .if_icmp .le 8, 495, 0, 500, 0, .null),
  (495, .iload 19, 497, 0, 19, 0, .null),
  (497, .goto 5, 500, 0, 502, 0, .null),
  (500, .iload 16, 502, 0, 16, 0, .null),
  (502, .istore 16, 504, 0, 16, 0, .null),
  (504, .iinc 17 1, 507, 0, 17, 0, .int 1),
  (507, .goto (-93), 510, 0, 414, 0, .null),
  (510, .aload_n 0, 511, 0, 0, 0, .null),
  (511, .iconst 0, 512, 0, 0, 0, .int 0),
  (512, .invokevirtual 106, 515, 0, 0, 0, .null),
  (515, .iload 15, 517, 0, 15, 0, .null),
  (517, .if_icmp .ne 17, 520, 0, 534, 0, .null),
  (520, .aload_n 0, 521, 0, 0, 0, .null),
  (521, .iconst 1, 522, 0, 0, 0, .int 1),
  (522, .invokevirtual 106, 525, 0, 0, 0, .null),
  (525, .iload 16, 527, 0, 16, 0, .null),
  (527, .if_icmp .ne 7, 530, 0, 534, 0, .null),
  (530, .iconst 1, 531, 0, 0, 0, .int 1),
  (531, .goto 4, 534, 0, 535, 0, .null),
  (534, .iconst 0, 535, 0, 0, 0, .int 0),
  (535, .ireturn, 536, 0, 0, 0, .null)]
set_option maxRecDepth 100000 in
theorem tk_L_would_4 : tb_L_would_4.all (ev_ck RL "would" cL_would 20) = true := by decide +kernel
end
section
/-! the table of L_would, in pieces -/
def tb_L_would : ev_T := tb_L_would_0 ++ (tb_L_would_1 ++ (tb_L_would_2 ++ (tb_L_would_3 ++ (tb_L_would_4))))
def mm_L_would : ev_M := (RL, "would", cL_would, 20, (some .boolean), tb_L_would, 8, 229, 0, 0)
theorem ok_L_would : ev_OK mm_L_would := ev_app tk_L_would_0 (ev_app tk_L_would_1 (ev_app tk_L_would_2 (ev_app tk_L_would_3 (tk_L_would_4))))
set_option maxRecDepth 100000 in
theorem wc_L_would : Jvm.Cond.code yL_would (ev_cc mm_L_would) (ev_nL mm_L_would) (ev_rt mm_L_would) ∈ ev_WA := List.mem_filter.mpr ⟨List.mem_of_getElem? (i := 641) (by with_unfolding_all rfl), by with_unfolding_all rfl⟩
theorem cs_L_would : ev_CS yL_would mm_L_would 11 := ⟨wc_L_would, ev_has_in (k := 22) (by decide +kernel), ev_has_in (k := 640) (by decide +kernel), ⟨by decide +kernel, by decide +kernel, by decide +kernel⟩⟩
end
section
/-! tables of the methods of GossipCounts$Holdings, laid by wip/p32/gen/tabs2.py -/
def tb_X0_init : ev_T := [(0, .aload_n 0, 1, 0, 0, 0, .null),
  (1, .invokespecial 3, 4, 0, 0, 0, .null),
  (4, .aload_n 0, 5, 0, 0, 0, .null),
  (5, .bipush 100, 7, 0, 0, 0, .int 100),
  (7, .newarray .int, 9, 0, 0, 0, .null),
  (9, .putfield 9, 12, 57, 0, 0, .null),
  (12, .iconst 0, 13, 0, 0, 0, .int 0),
  (13, .istore_n 1, 14, 0, 1, 0, .null),
  (14, .iload_n 1, 15, 0, 1, 0, .null),
  (15, .bipush 100, 17, 0, 0, 0, .int 100),
  (17, .if_icmp .ge 16, 20, 0, 33, 0, .null),
  (20, .aload_n 0, 21, 0, 0, 0, .null),
  (21, .getfield 9, 24, 57, 0, 0, .null),
  (24, .iload_n 1, 25, 0, 1, 0, .null),
  (25, .iconst (-1), 26, 0, 0, 0, .int (-1)),
  (26, .iastore, 27, 0, 0, 0, .null),
  (27, .iinc 1 1, 30, 0, 1, 0, .int 1),
  (30, .goto (-16), 33, 0, 14, 0, .null),
  (33, .return_, 34, 0, 0, 0, .null)]
def mm_X0_init : ev_M := (RX0, "<init>", cX0_init, 2, none, tb_X0_init, 1, 30, 0, 0)
set_option maxRecDepth 100000 in
theorem ok_X0_init : ev_OK mm_X0_init := by unfold ev_OK; decide +kernel
theorem ci_X0_init : ev_CI yX0_init mm_X0_init 0 := ⟨ev_has_in (k := 55) (by decide +kernel), ev_has_in (k := 25) (by decide +kernel), ev_has_in (k := 54) (by decide +kernel), ⟨by decide +kernel, by decide +kernel, by decide +kernel⟩, rfl⟩
def tb_X0_copyFrom : ev_T := [(0, .aload_n 1, 1, 0, 1, 0, .null),
  (1, .getfield 9, 4, 57, 0, 0, .null),
  (4, .iconst 0, 5, 0, 0, 0, .int 0),
  (5, .aload_n 0, 6, 0, 0, 0, .null),
  (6, .getfield 9, 9, 57, 0, 0, .null),
  (9, .iconst 0, 10, 0, 0, 0, .int 0),
  (10, .bipush 100, 12, 0, 0, 0, .int 100),
  (12, .invokestatic 15, 15, 0, 0, 0, .null),
  (15, .return_, 16, 0, 0, 0, .null)]
def mm_X0_copyFrom : ev_M := (RX0, "copyFrom", cX0_copyFrom, 2, none, tb_X0_copyFrom, 1, 60, 0, 0)
set_option maxRecDepth 100000 in
theorem ok_X0_copyFrom : ev_OK mm_X0_copyFrom := by unfold ev_OK; decide +kernel
theorem cv_X0_copyFrom : ev_CV yX0_copyFrom mm_X0_copyFrom 0 1 := ⟨ev_has_in (k := 288) (by decide +kernel), ev_has_in (k := 25) (by decide +kernel), ev_has_in (k := 286) (by decide +kernel), ev_has_in (k := 287) (by decide +kernel), ⟨by decide +kernel, by decide +kernel, by decide +kernel⟩, rfl, by decide⟩
def tb_X0_at : ev_T := [(0, .iload_n 1, 1, 0, 1, 0, .null),
  (1, .ifCond .lt 18, 4, 0, 19, 0, .null),
  (4, .iload_n 1, 5, 0, 1, 0, .null),
  (5, .bipush 100, 7, 0, 0, 0, .int 100),
  (7, .if_icmp .ge 12, 10, 0, 19, 0, .null),
  (10, .aload_n 0, 11, 0, 0, 0, .null),
  (11, .getfield 9, 14, 57, 0, 0, .null),
  (14, .iload_n 1, 15, 0, 1, 0, .null),
  (15, .iaload, 16, 0, 0, 0, .null),
  (16, .goto 4, 19, 0, 20, 0, .null),
  (19, .iconst (-1), 20, 0, 0, 0, .int (-1)),
  (20, .ireturn, 21, 0, 0, 0, .null)]
def mm_X0_at : ev_M := (RX0, "at", cX0_at, 2, (some .int), tb_X0_at, 0, 0, 0, 0)
set_option maxRecDepth 100000 in
theorem ok_X0_at : ev_OK mm_X0_at := by unfold ev_OK; decide +kernel
theorem cv_X0_at : ev_CV yX0_at mm_X0_at 0 1 := ⟨ev_has_in (k := 401) (by decide +kernel), ev_has_in (k := 25) (by decide +kernel), ev_has_in (k := 399) (by decide +kernel), ev_has_in (k := 400) (by decide +kernel), ⟨by decide +kernel, by decide +kernel, by decide +kernel⟩, rfl, by decide⟩
def tb_X0_hold : ev_T := [(0, .iload_n 1, 1, 0, 1, 0, .null),
  (1, .ifCond .lt 16, 4, 0, 17, 0, .null),
  (4, .iload_n 1, 5, 0, 1, 0, .null),
  (5, .bipush 100, 7, 0, 0, 0, .int 100),
  (7, .if_icmp .ge 10, 10, 0, 17, 0, .null),
  (10, .aload_n 0, 11, 0, 0, 0, .null),
  (11, .getfield 9, 14, 57, 0, 0, .null),
  (14, .iload_n 1, 15, 0, 1, 0, .null),
  (15, .iload_n 2, 16, 0, 2, 0, .null),
  (16, .iastore, 17, 0, 0, 0, .null),
  (17, .return_, 18, 0, 0, 0, .null)]
def mm_X0_hold : ev_M := (RX0, "hold", cX0_hold, 3, none, tb_X0_hold, 0, 0, 0, 0)
set_option maxRecDepth 100000 in
theorem ok_X0_hold : ev_OK mm_X0_hold := by unfold ev_OK; decide +kernel
theorem cv_X0_hold : ev_CV yX0_hold mm_X0_hold 0 2 := ⟨ev_has_in (k := 405) (by decide +kernel), ev_has_in (k := 25) (by decide +kernel), ev_has_in (k := 403) (by decide +kernel), ev_has_in (k := 404) (by decide +kernel), ⟨by decide +kernel, by decide +kernel, by decide +kernel⟩, rfl, by decide⟩
def tb_X0_taken : ev_T := [(0, .iconst 0, 1, 0, 0, 0, .int 0),
  (1, .istore_n 1, 2, 0, 1, 0, .null),
  (2, .iconst 0, 3, 0, 0, 0, .int 0),
  (3, .istore_n 2, 4, 0, 2, 0, .null),
  (4, .iload_n 2, 5, 0, 2, 0, .null),
  (5, .bipush 100, 7, 0, 0, 0, .int 100),
  (7, .if_icmp .ge 22, 10, 0, 29, 0, .null),
  (10, .aload_n 0, 11, 0, 0, 0, .null),
  (11, .getfield 9, 14, 57, 0, 0, .null),
  (14, .iload_n 2, 15, 0, 2, 0, .null),
  (15, .iaload, 16, 0, 0, 0, .null),
  (16, .iconst (-1), 17, 0, 0, 0, .int (-1)),
  (17, .if_icmp .eq 6, 20, 0, 23, 0, .null),
  (20, .iinc 1 1, 23, 0, 1, 0, .int 1),
  (23, .iinc 2 1, 26, 0, 2, 0, .int 1),
  (26, .goto (-22), 29, 0, 4, 0, .null),
  (29, .iload_n 1, 30, 0, 1, 0, .null),
  (30, .ireturn, 31, 0, 0, 0, .null)]
def mm_X0_taken : ev_M := (RX0, "taken", cX0_taken, 3, (some .int), tb_X0_taken, 0, 0, 0, 0)
set_option maxRecDepth 100000 in
theorem ok_X0_taken : ev_OK mm_X0_taken := by unfold ev_OK; decide +kernel
theorem cv_X0_taken : ev_CV yX0_taken mm_X0_taken 0 0 := ⟨ev_has_in (k := 622) (by decide +kernel), ev_has_in (k := 25) (by decide +kernel), ev_has_in (k := 620) (by decide +kernel), ev_has_in (k := 621) (by decide +kernel), ⟨by decide +kernel, by decide +kernel, by decide +kernel⟩, rfl, by decide⟩
def tb_X0_truthOf : ev_T := [(0, .iconst 0, 1, 0, 0, 0, .int 0),
  (1, .istore_n 2, 2, 0, 2, 0, .null),
  (2, .iconst 0, 3, 0, 0, 0, .int 0),
  (3, .istore_n 3, 4, 0, 3, 0, .null),
  (4, .iload_n 3, 5, 0, 3, 0, .null),
  (5, .bipush 100, 7, 0, 0, 0, .int 100),
  (7, .if_icmp .ge 22, 10, 0, 29, 0, .null),
  (10, .aload_n 0, 11, 0, 0, 0, .null),
  (11, .getfield 9, 14, 57, 0, 0, .null),
  (14, .iload_n 3, 15, 0, 3, 0, .null),
  (15, .iaload, 16, 0, 0, 0, .null),
  (16, .iload_n 1, 17, 0, 1, 0, .null),
  (17, .if_icmp .ne 6, 20, 0, 23, 0, .null),
  (20, .iinc 2 1, 23, 0, 2, 0, .int 1),
  (23, .iinc 3 1, 26, 0, 3, 0, .int 1),
  (26, .goto (-22), 29, 0, 4, 0, .null),
  (29, .iload_n 2, 30, 0, 2, 0, .null),
  (30, .ireturn, 31, 0, 0, 0, .null)]
def mm_X0_truthOf : ev_M := (RX0, "truthOf", cX0_truthOf, 4, (some .int), tb_X0_truthOf, 0, 0, 0, 0)
set_option maxRecDepth 100000 in
theorem ok_X0_truthOf : ev_OK mm_X0_truthOf := by unfold ev_OK; decide +kernel
theorem cv_X0_truthOf : ev_CV yX0_truthOf mm_X0_truthOf 0 1 := ⟨ev_has_in (k := 390) (by decide +kernel), ev_has_in (k := 25) (by decide +kernel), ev_has_in (k := 388) (by decide +kernel), ev_has_in (k := 389) (by decide +kernel), ⟨by decide +kernel, by decide +kernel, by decide +kernel⟩, rfl, by decide⟩
def tb_X0_slotsThatHold : ev_T := [(0, .iconst 0, 1, 0, 0, 0, .int 0),
  (1, .istore_n 3, 2, 0, 3, 0, .null),
  (2, .iconst 4, 3, 0, 0, 0, .int 4),
  (3, .istore 4, 5, 0, 4, 0, .null),
  (5, .iload 4, 7, 0, 4, 0, .null),
  (7, .bipush 100, 9, 0, 0, 0, .int 100),
  (9, .if_icmp .ge 36, 12, 0, 45, 0, .null),
  (12, .aload_n 0, 13, 0, 0, 0, .null),
  (13, .getfield 9, 16, 57, 0, 0, .null),
  (16, .iload 4, 18, 0, 4, 0, .null),
  (18, .iaload, 19, 0, 0, 0, .null),
  (19, .iload_n 1, 20, 0, 1, 0, .null),
  (20, .if_icmp .ne 19, 23, 0, 39, 0, .null),
  (23, .iload_n 2, 24, 0, 2, 0, .null),
  (24, .iload 4, 26, 0, 4, 0, .null),
  (26, .iconst 4, 27, 0, 0, 0, .int 4),
  (27, .isub, 28, 0, 0, 0, .null),
  (28, .iconst 4, 29, 0, 0, 0, .int 4),
  (29, .idiv, 30, 0, 0, 0, .null),
  (30, .invokestatic 21, 33, 0, 0, 0, .null),
  (33, .ifCond .eq 6, 36, 0, 39, 0, .null),
  (36, .iinc 3 1, 39, 0, 3, 0, .int 1),
  (39, .iinc 4 1, 42, 0, 4, 0, .int 1),
  (42, .goto (-37), 45, 0, 5, 0, .null),
  (45, .iload_n 3, 46, 0, 3, 0, .null),
  (46, .ireturn, 47, 0, 0, 0, .null)]
def mm_X0_slotsThatHold : ev_M := (RX0, "slotsThatHold", cX0_slotsThatHold, 5, (some .int), tb_X0_slotsThatHold, 1, 21, 0, 0)
set_option maxRecDepth 100000 in
theorem ok_X0_slotsThatHold : ev_OK mm_X0_slotsThatHold := by unfold ev_OK; decide +kernel
theorem cv_X0_slotsThatHold : ev_CV yX0_slotsThatHold mm_X0_slotsThatHold 0 2 := ⟨ev_has_in (k := 454) (by decide +kernel), ev_has_in (k := 25) (by decide +kernel), ev_has_in (k := 452) (by decide +kernel), ev_has_in (k := 453) (by decide +kernel), ⟨by decide +kernel, by decide +kernel, by decide +kernel⟩, rfl, by decide⟩
def tb_X0_letGo : ev_T := [(0, .iconst 0, 1, 0, 0, 0, .int 0),
  (1, .istore_n 3, 2, 0, 3, 0, .null),
  (2, .iconst 0, 3, 0, 0, 0, .int 0),
  (3, .istore 4, 5, 0, 4, 0, .null),
  (5, .iload 4, 7, 0, 4, 0, .null),
  (7, .bipush 100, 9, 0, 0, 0, .int 100),
  (9, .if_icmp .ge 57, 12, 0, 66, 0, .null),
  (12, .aload_n 0, 13, 0, 0, 0, .null),
  (13, .getfield 9, 16, 57, 0, 0, .null),
  (16, .iload 4, 18, 0, 4, 0, .null),
  (18, .iaload, 19, 0, 0, 0, .null),
  (19, .iload_n 1, 20, 0, 1, 0, .null),
  (20, .if_icmp .ne 40, 23, 0, 60, 0, .null),
  (23, .aload_n 0, 24, 0, 0, 0, .null),
  (24, .getfield 9, 27, 57, 0, 0, .null),
  (27, .iload 4, 29, 0, 4, 0, .null),
  (29, .iconst (-1), 30, 0, 0, 0, .int (-1)),
  (30, .iastore, 31, 0, 0, 0, .null),
  (31, .iload_n 3, 32, 0, 3, 0, .null),
  (32, .ifCond .ne 22, 35, 0, 54, 0, .null),
  (35, .iload 4, 37, 0, 4, 0, .null),
  (37, .iconst 4, 38, 0, 0, 0, .int 4),
  (38, .if_icmp .lt 16, 41, 0, 54, 0, .null),
  (41, .iload_n 2, 42, 0, 2, 0, .null),
  (42, .iload 4, 44, 0, 4, 0, .null),
  (44, .iconst 4, 45, 0, 0, 0, .int 4),
  (45, .isub, 46, 0, 0, 0, .null),
  (46, .iconst 4, 47, 0, 0, 0, .int 4),
  (47, .idiv, 48, 0, 0, 0, .null),
  (48, .invokestatic 21, 51, 0, 0, 0, .null),
  (51, .ifCond .ne 7, 54, 0, 58, 0, .null),
  (54, .iconst 1, 55, 0, 0, 0, .int 1),
  (55, .goto 4, 58, 0, 59, 0, .null),
  (58, .iconst 0, 59, 0, 0, 0, .int 0),
  (59, .istore_n 3, 60, 0, 3, 0, .null),
  (60, .iinc 4 1, 63, 0, 4, 0, .int 1),
  (63, .goto (-58), 66, 0, 5, 0, .null),
  (66, .iload_n 3, 67, 0, 3, 0, .null),
  (67, .ireturn, 68, 0, 0, 0, .null)]
def mm_X0_letGo : ev_M := (RX0, "letGo", cX0_letGo, 5, (some .boolean), tb_X0_letGo, 1, 21, 0, 0)
set_option maxRecDepth 100000 in
theorem ok_X0_letGo : ev_OK mm_X0_letGo := by unfold ev_OK; decide +kernel
theorem cv_X0_letGo : ev_CV yX0_letGo mm_X0_letGo 0 2 := ⟨ev_has_in (k := 420) (by decide +kernel), ev_has_in (k := 25) (by decide +kernel), ev_has_in (k := 418) (by decide +kernel), ev_has_in (k := 419) (by decide +kernel), ⟨by decide +kernel, by decide +kernel, by decide +kernel⟩, rfl, by decide⟩
def tb_X0_reached : ev_T := [(0, .aload_n 0, 1, 0, 0, 0, .null),
  (1, .iconst (-1), 2, 0, 0, 0, .int (-1)),
  (2, .invokevirtual 25, 5, 0, 0, 0, .null),
  (5, .ireturn, 6, 0, 0, 0, .null)]
def mm_X0_reached : ev_M := (RX0, "reached", cX0_reached, 1, (some .int), tb_X0_reached, 3, 73, 0, 0)
set_option maxRecDepth 100000 in
theorem ok_X0_reached : ev_OK mm_X0_reached := by unfold ev_OK; decide +kernel
theorem cv_X0_reached : ev_CV yX0_reached mm_X0_reached 0 0 := ⟨ev_has_in (k := 566) (by decide +kernel), ev_has_in (k := 25) (by decide +kernel), ev_has_in (k := 564) (by decide +kernel), ev_has_in (k := 565) (by decide +kernel), ⟨by decide +kernel, by decide +kernel, by decide +kernel⟩, rfl, by decide⟩
def tb_X0_reachOf : ev_T := [(0, .aload_n 0, 1, 0, 0, 0, .null),
  (1, .aload_n 0, 2, 0, 0, 0, .null),
  (2, .iload_n 1, 3, 0, 1, 0, .null),
  (3, .iconst 0, 4, 0, 0, 0, .int 0),
  (4, .invokestatic 29, 7, 0, 0, 0, .null),
  (7, .iconst 4, 8, 0, 0, 0, .int 4),
  (8, .iconst (-1), 9, 0, 0, 0, .int (-1)),
  (9, .invokevirtual 33, 12, 0, 0, 0, .null),
  (12, .iconst (-1), 13, 0, 0, 0, .int (-1)),
  (13, .invokevirtual 37, 16, 0, 0, 0, .null),
  (16, .ireturn, 17, 0, 0, 0, .null)]
def mm_X0_reachOf : ev_M := (RX0, "reachOf", cX0_reachOf, 2, (some .int), tb_X0_reachOf, 2, 52, 0, 0)
set_option maxRecDepth 100000 in
theorem ok_X0_reachOf : ev_OK mm_X0_reachOf := by unfold ev_OK; decide +kernel
theorem cv_X0_reachOf : ev_CV yX0_reachOf mm_X0_reachOf 0 1 := ⟨ev_has_in (k := 433) (by decide +kernel), ev_has_in (k := 25) (by decide +kernel), ev_has_in (k := 431) (by decide +kernel), ev_has_in (k := 432) (by decide +kernel), ⟨by decide +kernel, by decide +kernel, by decide +kernel⟩, rfl, by decide⟩
def tb_X0_ringOf : ev_T := [(0, .aload_n 0, 1, 0, 0, 0, .null),
  (1, .iload_n 1, 2, 0, 1, 0, .null),
  (2, .invokevirtual 40, 5, 0, 0, 0, .null),
  (5, .istore_n 2, 6, 0, 2, 0, .null),
  (6, .iconst 0, 7, 0, 0, 0, .int 0),
  (7, .istore_n 3, 8, 0, 3, 0, .null),
  (8, .iconst 0, 9, 0, 0, 0, .int 0),
  (9, .istore 4, 11, 0, 4, 0, .null),
  (11, .iload 4, 13, 0, 4, 0, .null),
  (13, .bipush 24, 15, 0, 0, 0, .int 24),
  (15, .if_icmp .ge 38, 18, 0, 53, 0, .null),
  (18, .iload_n 2, 19, 0, 2, 0, .null),
  (19, .iload 4, 21, 0, 4, 0, .null),
  (21, .invokestatic 21, 24, 0, 0, 0, .null),
  (24, .ifCond .eq 23, 27, 0, 47, 0, .null),
  (27, .aload_n 0, 28, 0, 0, 0, .null),
  (28, .iload 4, 30, 0, 4, 0, .null),
  (30, .invokevirtual 40, 33, 0, 0, 0, .null),
  (33, .iload_n 1, 34, 0, 1, 0, .null),
  (34, .invokestatic 21, 37, 0, 0, 0, .null),
  (37, .ifCond .eq 10, 40, 0, 47, 0, .null),
  (40, .iload_n 3, 41, 0, 3, 0, .null),
  (41, .iconst 1, 42, 0, 0, 0, .int 1),
  (42, .iload 4, 44, 0, 4, 0, .null),
  (44, .ishl, 45, 0, 0, 0, .null),
  (45, .ior, 46, 0, 0, 0, .null),
  (46, .istore_n 3, 47, 0, 3, 0, .null),
  (47, .iinc 4 1, 50, 0, 4, 0, .int 1),
  (50, .goto (-39), 53, 0, 11, 0, .null),
  (53, .iload_n 3, 54, 0, 3, 0, .null),
  (54, .ireturn, 55, 0, 0, 0, .null)]
def mm_X0_ringOf : ev_M := (RX0, "ringOf", cX0_ringOf, 5, (some .int), tb_X0_ringOf, 3, 73, 0, 0)
set_option maxRecDepth 100000 in
theorem ok_X0_ringOf : ev_OK mm_X0_ringOf := by unfold ev_OK; decide +kernel
theorem cv_X0_ringOf : ev_CV yX0_ringOf mm_X0_ringOf 0 1 := ⟨ev_has_in (k := 581) (by decide +kernel), ev_has_in (k := 25) (by decide +kernel), ev_has_in (k := 579) (by decide +kernel), ev_has_in (k := 580) (by decide +kernel), ⟨by decide +kernel, by decide +kernel, by decide +kernel⟩, rfl, by decide⟩
def tb_X0_cutWithMostLost : ev_T := [(0, .iconst (-1), 1, 0, 0, 0, .int (-1)),
  (1, .istore_n 1, 2, 0, 1, 0, .null),
  (2, .iconst 0, 3, 0, 0, 0, .int 0),
  (3, .istore_n 2, 4, 0, 2, 0, .null),
  (4, .iconst 0, 5, 0, 0, 0, .int 0),
  (5, .istore_n 3, 6, 0, 3, 0, .null),
  (6, .iload_n 3, 7, 0, 3, 0, .null),
  (7, .bipush 100, 9, 0, 0, 0, .int 100),
  (9, .if_icmp .ge 41, 12, 0, 50, 0, .null),
  (12, .aload_n 0, 13, 0, 0, 0, .null),
  (13, .getfield 9, 16, 57, 0, 0, .null),
  (16, .iload_n 3, 17, 0, 3, 0, .null),
  (17, .iaload, 18, 0, 0, 0, .null),
  (18, .iconst (-1), 19, 0, 0, 0, .int (-1)),
  (19, .if_icmp .ne 7, 22, 0, 26, 0, .null),
  (22, .iconst 0, 23, 0, 0, 0, .int 0),
  (23, .goto 8, 26, 0, 31, 0, .null),
  (26, .aload_n 0, 27, 0, 0, 0, .null),
  (27, .iload_n 3, 28, 0, 3, 0, .null),
  (28, .invokevirtual 43, 31, 0, 0, 0, .null),
  (31, .istore 4, 33, 0, 4, 0, .null),
  (33, .iload 4, 35, 0, 4, 0, .null),
  (35, .iload_n 2, 36, 0, 2, 0, .null),
  (36, .if_icmp .le 8, 39, 0, 44, 0, .null),
  (39, .iload_n 3, 40, 0, 3, 0, .null),
  (40, .istore_n 1, 41, 0, 1, 0, .null),
  (41, .iload 4, 43, 0, 4, 0, .null),
  (43, .istore_n 2, 44, 0, 2, 0, .null),
  (44, .iinc 3 1, 47, 0, 3, 0, .int 1),
  (47, .goto (-41), 50, 0, 6, 0, .null),
  (50, .iload_n 1, 51, 0, 1, 0, .null),
  (51, .ireturn, 52, 0, 0, 0, .null)]
def mm_X0_cutWithMostLost : ev_M := (RX0, "cutWithMostLost", cX0_cutWithMostLost, 5, (some .int), tb_X0_cutWithMostLost, 5, 114, 0, 0)
set_option maxRecDepth 100000 in
theorem ok_X0_cutWithMostLost : ev_OK mm_X0_cutWithMostLost := by unfold ev_OK; decide +kernel
theorem cv_X0_cutWithMostLost : ev_CV yX0_cutWithMostLost mm_X0_cutWithMostLost 0 0 := ⟨ev_has_in (k := 700) (by decide +kernel), ev_has_in (k := 25) (by decide +kernel), ev_has_in (k := 698) (by decide +kernel), ev_has_in (k := 699) (by decide +kernel), ⟨by decide +kernel, by decide +kernel, by decide +kernel⟩, rfl, by decide⟩
def tb_X0_lostWithout : ev_T := [(0, .aload_n 0, 1, 0, 0, 0, .null),
  (1, .invokevirtual 46, 4, 0, 0, 0, .null),
  (4, .invokestatic 50, 7, 0, 0, 0, .null),
  (7, .aload_n 0, 8, 0, 0, 0, .null),
  (8, .iload_n 1, 9, 0, 1, 0, .null),
  (9, .invokevirtual 25, 12, 0, 0, 0, .null),
  (12, .invokestatic 50, 15, 0, 0, 0, .null),
  (15, .isub, 16, 0, 0, 0, .null),
  (16, .ireturn, 17, 0, 0, 0, .null)]
def mm_X0_lostWithout : ev_M := (RX0, "lostWithout", cX0_lostWithout, 2, (some .int), tb_X0_lostWithout, 4, 93, 0, 0)
set_option maxRecDepth 100000 in
theorem ok_X0_lostWithout : ev_OK mm_X0_lostWithout := by unfold ev_OK; decide +kernel
theorem cv_X0_lostWithout : ev_CV yX0_lostWithout mm_X0_lostWithout 0 1 := ⟨ev_has_in (k := 704) (by decide +kernel), ev_has_in (k := 25) (by decide +kernel), ev_has_in (k := 702) (by decide +kernel), ev_has_in (k := 703) (by decide +kernel), ⟨by decide +kernel, by decide +kernel, by decide +kernel⟩, rfl, by decide⟩
def tb_X0_reachedFrom : ev_T := [(0, .iload_n 1, 1, 0, 1, 0, .null),
  (1, .istore_n 3, 2, 0, 3, 0, .null),
  (2, .iload_n 1, 3, 0, 1, 0, .null),
  (3, .istore 4, 5, 0, 4, 0, .null),
  (5, .iconst 0, 6, 0, 0, 0, .int 0),
  (6, .istore 5, 8, 0, 5, 0, .null),
  (8, .iload 5, 10, 0, 5, 0, .null),
  (10, .bipush 24, 12, 0, 0, 0, .int 24),
  (12, .if_icmp .ge 58, 15, 0, 70, 0, .null),
  (15, .iload 4, 17, 0, 4, 0, .null),
  (17, .ifCond .eq 53, 20, 0, 70, 0, .null),
  (20, .iload 4, 22, 0, 4, 0, .null),
  (22, .invokestatic 55, 25, 0, 0, 0, .null),
  (25, .istore 6, 27, 0, 6, 0, .null),
  (27, .aload_n 0, 28, 0, 0, 0, .null),
  (28, .iload 6, 30, 0, 6, 0, .null),
  (30, .iconst 0, 31, 0, 0, 0, .int 0),
  (31, .invokestatic 29, 34, 0, 0, 0, .null),
  (34, .iconst 4, 35, 0, 0, 0, .int 4),
  (35, .iload_n 2, 36, 0, 2, 0, .null),
  (36, .invokevirtual 33, 39, 0, 0, 0, .null),
  (39, .iload_n 3, 40, 0, 3, 0, .null),
  (40, .iconst (-1), 41, 0, 0, 0, .int (-1)),
  (41, .ixor, 42, 0, 0, 0, .null),
  (42, .iand, 43, 0, 0, 0, .null),
  (43, .istore 7, 45, 0, 7, 0, .null),
  (45, .iload_n 3, 46, 0, 3, 0, .null),
  (46, .iload 7, 48, 0, 7, 0, .null),
  (48, .ior, 49, 0, 0, 0, .null),
  (49, .istore_n 3, 50, 0, 3, 0, .null),
  (50, .iload 4, 52, 0, 4, 0, .null),
  (52, .iconst 1, 53, 0, 0, 0, .int 1),
  (53, .iload 6, 55, 0, 6, 0, .null),
  (55, .ishl, 56, 0, 0, 0, .null),
  (56, .iconst (-1), 57, 0, 0, 0, .int (-1)),
  (57, .ixor, 58, 0, 0, 0, .null),
  (58, .iand, 59, 0, 0, 0, .null),
  (59, .iload 7, 61, 0, 7, 0, .null),
  (61, .ior, 62, 0, 0, 0, .null),
  (62, .istore 4, 64, 0, 4, 0, .null),
  (64, .iinc 5 1, 67, 0, 5, 0, .int 1),
  (67, .goto (-59), 70, 0, 8, 0, .null),
  (70, .iload_n 3, 71, 0, 3, 0, .null),
  (71, .ireturn, 72, 0, 0, 0, .null)]
def mm_X0_reachedFrom : ev_M := (RX0, "reachedFrom", cX0_reachedFrom, 8, (some .int), tb_X0_reachedFrom, 1, 25, 0, 0)
set_option maxRecDepth 100000 in
theorem ok_X0_reachedFrom : ev_OK mm_X0_reachedFrom := by unfold ev_OK; decide +kernel
theorem cv_X0_reachedFrom : ev_CV yX0_reachedFrom mm_X0_reachedFrom 0 2 := ⟨ev_has_in (k := 442) (by decide +kernel), ev_has_in (k := 25) (by decide +kernel), ev_has_in (k := 440) (by decide +kernel), ev_has_in (k := 441) (by decide +kernel), ⟨by decide +kernel, by decide +kernel, by decide +kernel⟩, rfl, by decide⟩
def tb_X0_reachedWithout : ev_T := [(0, .aload_n 0, 1, 0, 0, 0, .null),
  (1, .aload_n 0, 2, 0, 0, 0, .null),
  (2, .iconst 0, 3, 0, 0, 0, .int 0),
  (3, .iconst 4, 4, 0, 0, 0, .int 4),
  (4, .iload_n 1, 5, 0, 1, 0, .null),
  (5, .invokevirtual 33, 8, 0, 0, 0, .null),
  (8, .iload_n 1, 9, 0, 1, 0, .null),
  (9, .invokevirtual 37, 12, 0, 0, 0, .null),
  (12, .ireturn, 13, 0, 0, 0, .null)]
def mm_X0_reachedWithout : ev_M := (RX0, "reachedWithout", cX0_reachedWithout, 2, (some .int), tb_X0_reachedWithout, 2, 52, 0, 0)
set_option maxRecDepth 100000 in
theorem ok_X0_reachedWithout : ev_OK mm_X0_reachedWithout := by unfold ev_OK; decide +kernel
theorem cv_X0_reachedWithout : ev_CV yX0_reachedWithout mm_X0_reachedWithout 0 1 := ⟨ev_has_in (k := 570) (by decide +kernel), ev_has_in (k := 25) (by decide +kernel), ev_has_in (k := 569) (by decide +kernel), ev_has_in (k := 12) (by decide +kernel), ⟨by decide +kernel, by decide +kernel, by decide +kernel⟩, rfl, by decide⟩
def tb_X0_heldAmong : ev_T := [(0, .iconst 0, 1, 0, 0, 0, .int 0),
  (1, .istore 4, 3, 0, 4, 0, .null),
  (3, .iload_n 1, 4, 0, 1, 0, .null),
  (4, .istore 5, 6, 0, 5, 0, .null),
  (6, .iload 5, 8, 0, 5, 0, .null),
  (8, .ifCond .lt 55, 11, 0, 63, 0, .null),
  (11, .iload 5, 13, 0, 5, 0, .null),
  (13, .iload_n 1, 14, 0, 1, 0, .null),
  (14, .iload_n 2, 15, 0, 2, 0, .null),
  (15, .iadd, 16, 0, 0, 0, .null),
  (16, .if_icmp .ge 47, 19, 0, 63, 0, .null),
  (19, .iload 5, 21, 0, 5, 0, .null),
  (21, .bipush 100, 23, 0, 0, 0, .int 100),
  (23, .if_icmp .ge 40, 26, 0, 63, 0, .null),
  (26, .iload 5, 28, 0, 5, 0, .null),
  (28, .iload_n 3, 29, 0, 3, 0, .null),
  (29, .if_icmp .eq 28, 32, 0, 57, 0, .null),
  (32, .aload_n 0, 33, 0, 0, 0, .null),
  (33, .getfield 9, 36, 57, 0, 0, .null),
  (36, .iload 5, 38, 0, 5, 0, .null),
  (38, .iaload, 39, 0, 0, 0, .null),
  (39, .iconst (-1), 40, 0, 0, 0, .int (-1)),
  (40, .if_icmp .eq 17, 43, 0, 57, 0, .null),
  (43, .iload 4, 45, 0, 4, 0, .null),
  (45, .iconst 1, 46, 0, 0, 0, .int 1),
  (46, .aload_n 0, 47, 0, 0, 0, .null),
  (47, .getfield 9, 50, 57, 0, 0, .null),
  (50, .iload 5, 52, 0, 5, 0, .null),
  (52, .iaload, 53, 0, 0, 0, .null),
  (53, .ishl, 54, 0, 0, 0, .null),
  (54, .ior, 55, 0, 0, 0, .null),
  (55, .istore 4, 57, 0, 4, 0, .null),
  (57, .iinc 5 1, 60, 0, 5, 0, .int 1),
  (60, .goto (-54), 63, 0, 6, 0, .null),
  (63, .iload 4, 65, 0, 4, 0, .null),
  (65, .ireturn, 66, 0, 0, 0, .null)]
def mm_X0_heldAmong : ev_M := (RX0, "heldAmong", cX0_heldAmong, 6, (some .int), tb_X0_heldAmong, 0, 0, 0, 0)
set_option maxRecDepth 100000 in
theorem ok_X0_heldAmong : ev_OK mm_X0_heldAmong := by unfold ev_OK; decide +kernel
theorem cv_X0_heldAmong : ev_CV yX0_heldAmong mm_X0_heldAmong 0 3 := ⟨ev_has_in (k := 438) (by decide +kernel), ev_has_in (k := 25) (by decide +kernel), ev_has_in (k := 437) (by decide +kernel), ev_has_in (k := 8) (by decide +kernel), ⟨by decide +kernel, by decide +kernel, by decide +kernel⟩, rfl, by decide⟩
theorem ml_X0_21 : ev_ml RX0 21 yX4_isIn := Or.inr ⟨"GossipCounts", ev_has_in (k := 421) (by decide +kernel)⟩
theorem ml_X0_25 : ev_ml RX0 25 yX0_reachedWithout := Or.inl (ev_has_in (k := 567) (by decide +kernel))
theorem ml_X0_29 : ev_ml RX0 29 yX4_placeOf := Or.inr ⟨"GossipCounts", ev_has_in (k := 434) (by decide +kernel)⟩
theorem ml_X0_33 : ev_ml RX0 33 yX0_heldAmong := Or.inl (ev_has_in (k := 435) (by decide +kernel))
theorem ml_X0_37 : ev_ml RX0 37 yX0_reachedFrom := Or.inl (ev_has_in (k := 439) (by decide +kernel))
theorem ml_X0_40 : ev_ml RX0 40 yX0_reachOf := Or.inl (ev_has_in (k := 582) (by decide +kernel))
theorem ml_X0_43 : ev_ml RX0 43 yX0_lostWithout := Or.inl (ev_has_in (k := 701) (by decide +kernel))
theorem ml_X0_46 : ev_ml RX0 46 yX0_reached := Or.inl (ev_has_in (k := 705) (by decide +kernel))
theorem ml_X0_50 : ev_ml RX0 50 yJ6_bitCount_0f7a4 := Or.inl (ev_has_in (k := 706) (by decide +kernel))
theorem ml_X0_55 : ev_ml RX0 55 yJ6_numberOfTrailingZeros_0f7a4 := Or.inl (ev_has_in (k := 443) (by decide +kernel))
end
section
/-! tables of the methods of GossipCounts$Reports, laid by wip/p32/gen/tabs2.py -/
def tb_X1_init : ev_T := [(0, .aload_n 0, 1, 0, 0, 0, .null),
  (1, .invokespecial 3, 4, 0, 0, 0, .null),
  (4, .aload_n 0, 5, 0, 0, 0, .null),
  (5, .sipush 6000, 8, 0, 0, 0, .int 6000),
  (8, .newarray .int, 10, 0, 0, 0, .null),
  (10, .putfield 9, 13, 71, 1, 2, .null),
  (13, .aload_n 0, 14, 0, 0, 0, .null),
  (14, .bipush 24, 16, 0, 0, 0, .int 24),
  (16, .newarray .int, 18, 0, 0, 0, .null),
  (18, .putfield 15, 21, 72, 1, 3, .null),
  (21, .aload_n 0, 22, 0, 0, 0, .null),
  (22, .bipush 24, 24, 0, 0, 0, .int 24),
  (24, .newarray .int, 26, 0, 0, 0, .null),
  (26, .putfield 18, 29, 73, 1, 4, .null),
  (29, .return_, 30, 0, 0, 0, .null)]
def mm_X1_init : ev_M := (RX1, "<init>", cX1_init, 1, none, tb_X1_init, 1, 30, 0, 0)
set_option maxRecDepth 100000 in
theorem ok_X1_init : ev_OK mm_X1_init := by unfold ev_OK; decide +kernel
theorem ci_X1_init : ev_CI yX1_init mm_X1_init 0 := ⟨ev_has_in (k := 66) (by decide +kernel), ev_has_in (k := 26) (by decide +kernel), ev_has_in (k := 65) (by decide +kernel), ⟨by decide +kernel, by decide +kernel, by decide +kernel⟩, rfl⟩
def tb_X1_copyFrom : ev_T := [(0, .aload_n 0, 1, 0, 0, 0, .null),
  (1, .aload_n 1, 2, 0, 1, 0, .null),
  (2, .getfield 21, 5, 68, 1, 0, .null),
  (5, .putfield 21, 8, 68, 1, 0, .null),
  (8, .aload_n 0, 9, 0, 0, 0, .null),
  (9, .aload_n 1, 10, 0, 1, 0, .null),
  (10, .getfield 25, 13, 69, 1, 1, .null),
  (13, .putfield 25, 16, 69, 1, 1, .null),
  (16, .aload_n 1, 17, 0, 1, 0, .null),
  (17, .getfield 15, 20, 72, 1, 3, .null),
  (20, .iconst 0, 21, 0, 0, 0, .int 0),
  (21, .aload_n 0, 22, 0, 0, 0, .null),
  (22, .getfield 15, 25, 72, 1, 3, .null),
  (25, .iconst 0, 26, 0, 0, 0, .int 0),
  (26, .bipush 24, 28, 0, 0, 0, .int 24),
  (28, .invokestatic 28, 31, 0, 0, 0, .null),
  (31, .aload_n 1, 32, 0, 1, 0, .null),
  (32, .getfield 18, 35, 73, 1, 4, .null),
  (35, .iconst 0, 36, 0, 0, 0, .int 0),
  (36, .aload_n 0, 37, 0, 0, 0, .null),
  (37, .getfield 18, 40, 73, 1, 4, .null),
  (40, .iconst 0, 41, 0, 0, 0, .int 0),
  (41, .bipush 24, 43, 0, 0, 0, .int 24),
  (43, .invokestatic 28, 46, 0, 0, 0, .null),
  (46, .aload_n 1, 47, 0, 1, 0, .null),
  (47, .getfield 9, 50, 71, 1, 2, .null),
  (50, .iconst 5, 51, 0, 0, 0, .int 5),
  (51, .aload_n 0, 52, 0, 0, 0, .null),
  (52, .getfield 21, 55, 68, 1, 0, .null),
  (55, .imul, 56, 0, 0, 0, .null),
  (56, .aload_n 0, 57, 0, 0, 0, .null),
  (57, .getfield 9, 60, 71, 1, 2, .null),
  (60, .iconst 5, 61, 0, 0, 0, .int 5),
  (61, .aload_n 0, 62, 0, 0, 0, .null),
  (62, .getfield 21, 65, 68, 1, 0, .null),
  (65, .imul, 66, 0, 0, 0, .null),
  (66, .iconst 5, 67, 0, 0, 0, .int 5),
  (67, .aload_n 0, 68, 0, 0, 0, .null),
  (68, .getfield 25, 71, 69, 1, 1, .null),
  (71, .aload_n 0, 72, 0, 0, 0, .null),
  (72, .getfield 21, 75, 68, 1, 0, .null),
  (75, .isub, 76, 0, 0, 0, .null),
  (76, .imul, 77, 0, 0, 0, .null),
  (77, .invokestatic 28, 80, 0, 0, 0, .null),
  (80, .return_, 81, 0, 0, 0, .null)]
def mm_X1_copyFrom : ev_M := (RX1, "copyFrom", cX1_copyFrom, 2, none, tb_X1_copyFrom, 1, 60, 0, 0)
set_option maxRecDepth 100000 in
theorem ok_X1_copyFrom : ev_OK mm_X1_copyFrom := by unfold ev_OK; decide +kernel
theorem cv_X1_copyFrom : ev_CV yX1_copyFrom mm_X1_copyFrom 1 1 := ⟨ev_has_in (k := 293) (by decide +kernel), ev_has_in (k := 26) (by decide +kernel), ev_has_in (k := 291) (by decide +kernel), ev_has_in (k := 292) (by decide +kernel), ⟨by decide +kernel, by decide +kernel, by decide +kernel⟩, rfl, by decide⟩
def tb_X1_underWay : ev_T := [(0, .aload_n 0, 1, 0, 0, 0, .null),
  (1, .getfield 25, 4, 69, 1, 1, .null),
  (4, .aload_n 0, 5, 0, 0, 0, .null),
  (5, .getfield 21, 8, 68, 1, 0, .null),
  (8, .isub, 9, 0, 0, 0, .null),
  (9, .ireturn, 10, 0, 0, 0, .null)]
def mm_X1_underWay : ev_M := (RX1, "underWay", cX1_underWay, 1, (some .int), tb_X1_underWay, 0, 0, 0, 0)
set_option maxRecDepth 100000 in
theorem ok_X1_underWay : ev_OK mm_X1_underWay := by unfold ev_OK; decide +kernel
theorem cv_X1_underWay : ev_CV yX1_underWay mm_X1_underWay 1 0 := ⟨ev_has_in (k := 601) (by decide +kernel), ev_has_in (k := 26) (by decide +kernel), ev_has_in (k := 599) (by decide +kernel), ev_has_in (k := 600) (by decide +kernel), ⟨by decide +kernel, by decide +kernel, by decide +kernel⟩, rfl, by decide⟩
def tb_X1_part : ev_T := [(0, .iconst 5, 1, 0, 0, 0, .int 5),
  (1, .aload_n 0, 2, 0, 0, 0, .null),
  (2, .getfield 21, 5, 68, 1, 0, .null),
  (5, .iload_n 1, 6, 0, 1, 0, .null),
  (6, .iadd, 7, 0, 0, 0, .null),
  (7, .imul, 8, 0, 0, 0, .null),
  (8, .iload_n 2, 9, 0, 2, 0, .null),
  (9, .iadd, 10, 0, 0, 0, .null),
  (10, .istore_n 3, 11, 0, 3, 0, .null),
  (11, .iload_n 3, 12, 0, 3, 0, .null),
  (12, .ifCond .lt 19, 15, 0, 31, 0, .null),
  (15, .iload_n 3, 16, 0, 3, 0, .null),
  (16, .sipush 6000, 19, 0, 0, 0, .int 6000),
  (19, .if_icmp .ge 12, 22, 0, 31, 0, .null),
  (22, .aload_n 0, 23, 0, 0, 0, .null),
  (23, .getfield 9, 26, 71, 1, 2, .null),
  (26, .iload_n 3, 27, 0, 3, 0, .null),
  (27, .iaload, 28, 0, 0, 0, .null),
  (28, .goto 4, 31, 0, 32, 0, .null),
  (31, .iconst 0, 32, 0, 0, 0, .int 0),
  (32, .ireturn, 33, 0, 0, 0, .null)]
def mm_X1_part : ev_M := (RX1, "part", cX1_part, 4, (some .int), tb_X1_part, 0, 0, 0, 0)
set_option maxRecDepth 100000 in
theorem ok_X1_part : ev_OK mm_X1_part := by unfold ev_OK; decide +kernel
theorem cv_X1_part : ev_CV yX1_part mm_X1_part 1 2 := ⟨ev_has_in (k := 371) (by decide +kernel), ev_has_in (k := 26) (by decide +kernel), ev_has_in (k := 369) (by decide +kernel), ev_has_in (k := 370) (by decide +kernel), ⟨by decide +kernel, by decide +kernel, by decide +kernel⟩, rfl, by decide⟩
def tb_X1_anyDue : ev_T := [(0, .aload_n 0, 1, 0, 0, 0, .null),
  (1, .getfield 21, 4, 68, 1, 0, .null),
  (4, .aload_n 0, 5, 0, 0, 0, .null),
  (5, .getfield 25, 8, 69, 1, 1, .null),
  (8, .if_icmp .ge 17, 11, 0, 25, 0, .null),
  (11, .aload_n 0, 12, 0, 0, 0, .null),
  (12, .iconst 0, 13, 0, 0, 0, .int 0),
  (13, .iconst 3, 14, 0, 0, 0, .int 3),
  (14, .invokevirtual 34, 17, 0, 0, 0, .null),
  (17, .iload_n 1, 18, 0, 1, 0, .null),
  (18, .if_icmp .gt 7, 21, 0, 25, 0, .null),
  (21, .iconst 1, 22, 0, 0, 0, .int 1),
  (22, .goto 4, 25, 0, 26, 0, .null),
  (25, .iconst 0, 26, 0, 0, 0, .int 0),
  (26, .ireturn, 27, 0, 0, 0, .null)]
def mm_X1_anyDue : ev_M := (RX1, "anyDue", cX1_anyDue, 2, (some .boolean), tb_X1_anyDue, 1, 23, 0, 0)
set_option maxRecDepth 100000 in
theorem ok_X1_anyDue : ev_OK mm_X1_anyDue := by unfold ev_OK; decide +kernel
theorem cv_X1_anyDue : ev_CV yX1_anyDue mm_X1_anyDue 1 1 := ⟨ev_has_in (k := 367) (by decide +kernel), ev_has_in (k := 26) (by decide +kernel), ev_has_in (k := 365) (by decide +kernel), ev_has_in (k := 366) (by decide +kernel), ⟨by decide +kernel, by decide +kernel, by decide +kernel⟩, rfl, by decide⟩
def tb_X1_anyFor : ev_T := [(0, .iconst 0, 1, 0, 0, 0, .int 0),
  (1, .istore_n 2, 2, 0, 2, 0, .null),
  (2, .iload_n 2, 3, 0, 2, 0, .null),
  (3, .bipush 24, 5, 0, 0, 0, .int 24),
  (5, .if_icmp .ge 28, 8, 0, 33, 0, .null),
  (8, .iload_n 1, 9, 0, 1, 0, .null),
  (9, .iload_n 2, 10, 0, 2, 0, .null),
  (10, .invokestatic 38, 13, 0, 0, 0, .null),
  (13, .ifCond .eq 14, 16, 0, 27, 0, .null),
  (16, .aload_n 0, 17, 0, 0, 0, .null),
  (17, .getfield 15, 20, 72, 1, 3, .null),
  (20, .iload_n 2, 21, 0, 2, 0, .null),
  (21, .iaload, 22, 0, 0, 0, .null),
  (22, .ifCond .le 5, 25, 0, 27, 0, .null),
  (25, .iconst 1, 26, 0, 0, 0, .int 1),
  (26, .ireturn, 27, 0, 0, 0, .null),
  (27, .iinc 2 1, 30, 0, 2, 0, .int 1),
  (30, .goto (-28), 33, 0, 2, 0, .null),
  (33, .iconst 0, 34, 0, 0, 0, .int 0),
  (34, .ireturn, 35, 0, 0, 0, .null)]
def mm_X1_anyFor : ev_M := (RX1, "anyFor", cX1_anyFor, 3, (some .boolean), tb_X1_anyFor, 1, 21, 0, 0)
set_option maxRecDepth 100000 in
theorem ok_X1_anyFor : ev_OK mm_X1_anyFor := by unfold ev_OK; decide +kernel
theorem cv_X1_anyFor : ev_CV yX1_anyFor mm_X1_anyFor 1 1 := ⟨ev_has_in (k := 385) (by decide +kernel), ev_has_in (k := 26) (by decide +kernel), ev_has_in (k := 383) (by decide +kernel), ev_has_in (k := 384) (by decide +kernel), ⟨by decide +kernel, by decide +kernel, by decide +kernel⟩, rfl, by decide⟩
def tb_X1_numberFor : ev_T := [(0, .iload_n 1, 1, 0, 1, 0, .null),
  (1, .ifCond .lt 18, 4, 0, 19, 0, .null),
  (4, .iload_n 1, 5, 0, 1, 0, .null),
  (5, .bipush 24, 7, 0, 0, 0, .int 24),
  (7, .if_icmp .ge 12, 10, 0, 19, 0, .null),
  (10, .aload_n 0, 11, 0, 0, 0, .null),
  (11, .getfield 15, 14, 72, 1, 3, .null),
  (14, .iload_n 1, 15, 0, 1, 0, .null),
  (15, .iaload, 16, 0, 0, 0, .null),
  (16, .goto 4, 19, 0, 20, 0, .null),
  (19, .iconst 0, 20, 0, 0, 0, .int 0),
  (20, .ireturn, 21, 0, 0, 0, .null)]
def mm_X1_numberFor : ev_M := (RX1, "numberFor", cX1_numberFor, 2, (some .int), tb_X1_numberFor, 0, 0, 0, 0)
set_option maxRecDepth 100000 in
theorem ok_X1_numberFor : ev_OK mm_X1_numberFor := by unfold ev_OK; decide +kernel
theorem cv_X1_numberFor : ev_CV yX1_numberFor mm_X1_numberFor 1 1 := ⟨ev_has_in (k := 558) (by decide +kernel), ev_has_in (k := 26) (by decide +kernel), ev_has_in (k := 556) (by decide +kernel), ev_has_in (k := 557) (by decide +kernel), ⟨by decide +kernel, by decide +kernel, by decide +kernel⟩, rfl, by decide⟩
def tb_X1_sumFor : ev_T := [(0, .iload_n 1, 1, 0, 1, 0, .null),
  (1, .ifCond .lt 18, 4, 0, 19, 0, .null),
  (4, .iload_n 1, 5, 0, 1, 0, .null),
  (5, .bipush 24, 7, 0, 0, 0, .int 24),
  (7, .if_icmp .ge 12, 10, 0, 19, 0, .null),
  (10, .aload_n 0, 11, 0, 0, 0, .null),
  (11, .getfield 18, 14, 73, 1, 4, .null),
  (14, .iload_n 1, 15, 0, 1, 0, .null),
  (15, .iaload, 16, 0, 0, 0, .null),
  (16, .goto 4, 19, 0, 20, 0, .null),
  (19, .iconst 0, 20, 0, 0, 0, .int 0),
  (20, .ireturn, 21, 0, 0, 0, .null)]
def mm_X1_sumFor : ev_M := (RX1, "sumFor", cX1_sumFor, 2, (some .int), tb_X1_sumFor, 0, 0, 0, 0)
set_option maxRecDepth 100000 in
theorem ok_X1_sumFor : ev_OK mm_X1_sumFor := by unfold ev_OK; decide +kernel
theorem cv_X1_sumFor : ev_CV yX1_sumFor mm_X1_sumFor 1 1 := ⟨ev_has_in (k := 562) (by decide +kernel), ev_has_in (k := 26) (by decide +kernel), ev_has_in (k := 560) (by decide +kernel), ev_has_in (k := 561) (by decide +kernel), ⟨by decide +kernel, by decide +kernel, by decide +kernel⟩, rfl, by decide⟩
def tb_X1_make : ev_T := [(0, .aload_n 0, 1, 0, 0, 0, .null),
  (1, .getfield 25, 4, 69, 1, 1, .null),
  (4, .istore 5, 6, 0, 5, 0, .null),
  (6, .iload 5, 8, 0, 5, 0, .null),
  (8, .ifCond .lt 21, 11, 0, 29, 0, .null),
  (11, .iload 5, 13, 0, 5, 0, .null),
  (13, .sipush 1200, 16, 0, 0, 0, .int 1200),
  (16, .if_icmp .ge 13, 19, 0, 29, 0, .null),
  (19, .iload_n 1, 20, 0, 1, 0, .null),
  (20, .ifCond .lt 9, 23, 0, 29, 0, .null),
  (23, .iload_n 1, 24, 0, 1, 0, .null),
  (24, .bipush 24, 26, 0, 0, 0, .int 24),
  (26, .if_icmp .lt 6, 29, 0, 32, 0, .null),
  (29, .iload 5, 31, 0, 5, 0, .null),
  (31, .ireturn, 32, 0, 0, 0, .null),
  (32, .iload 5, 34, 0, 5, 0, .null),
  (34, .istore 6, 36, 0, 6, 0, .null),
  (36, .iload 6, 38, 0, 6, 0, .null),
  (38, .aload_n 0, 39, 0, 0, 0, .null),
  (39, .getfield 21, 42, 68, 1, 0, .null),
  (42, .if_icmp .le 31, 45, 0, 73, 0, .null),
  (45, .iload 6, 47, 0, 6, 0, .null),
  (47, .ifCond .le 26, 50, 0, 73, 0, .null),
  (50, .aload_n 0, 51, 0, 0, 0, .null),
  (51, .getfield 9, 54, 71, 1, 2, .null),
  (54, .iconst 5, 55, 0, 0, 0, .int 5),
  (55, .iload 6, 57, 0, 6, 0, .null),
  (57, .iconst 1, 58, 0, 0, 0, .int 1),
  (58, .isub, 59, 0, 0, 0, .null),
  (59, .imul, 60, 0, 0, 0, .null),
  (60, .iconst 3, 61, 0, 0, 0, .int 3),
  (61, .iadd, 62, 0, 0, 0, .null),
  (62, .iaload, 63, 0, 0, 0, .null),
  (63, .iload_n 3, 64, 0, 3, 0, .null),
  (64, .if_icmp .le 9, 67, 0, 73, 0, .null),
  (67, .iinc 6 (-1), 70, 0, 6, 0, .int (-1)),
  (70, .goto (-34), 73, 0, 36, 0, .null),
  (73, .iconst 5, 74, 0, 0, 0, .int 5),
  (74, .iload 6, 76, 0, 6, 0, .null),
  (76, .imul, 77, 0, 0, 0, .null),
  (77, .istore 7, 79, 0, 7, 0, .null),
  (79, .aload_n 0, 80, 0, 0, 0, .null),
  (80, .getfield 9, 83, 71, 1, 2, .null),
  (83, .iload 7, 85, 0, 7, 0, .null),
  (85, .aload_n 0, 86, 0, 0, 0, .null),
  (86, .getfield 9, 89, 71, 1, 2, .null),
  (89, .iload 7, 91, 0, 7, 0, .null),
  (91, .iconst 5, 92, 0, 0, 0, .int 5),
  (92, .iadd, 93, 0, 0, 0, .null),
  (93, .iconst 5, 94, 0, 0, 0, .int 5),
  (94, .iload 5, 96, 0, 5, 0, .null),
  (96, .iload 6, 98, 0, 6, 0, .null),
  (98, .isub, 99, 0, 0, 0, .null),
  (99, .imul, 100, 0, 0, 0, .null),
  (100, .invokestatic 28, 103, 0, 0, 0, .null),
  (103, .aload_n 0, 104, 0, 0, 0, .null),
  (104, .getfield 9, 107, 71, 1, 2, .null),
  (107, .iload 7, 109, 0, 7, 0, .null),
  (109, .iconst 0, 110, 0, 0, 0, .int 0),
  (110, .iadd, 111, 0, 0, 0, .null),
  (111, .iload 5, 113, 0, 5, 0, .null),
  (113, .iastore, 114, 0, 0, 0, .null),
  (114, .aload_n 0, 115, 0, 0, 0, .null),
  (115, .getfield 9, 118, 71, 1, 2, .null),
  (118, .iload 7, 120, 0, 7, 0, .null),
  (120, .iconst 1, 121, 0, 0, 0, .int 1),
  (121, .iadd, 122, 0, 0, 0, .null),
  (122, .iload_n 1, 123, 0, 1, 0, .null),
  (123, .iastore, 124, 0, 0, 0, .null),
  (124, .aload_n 0, 125, 0, 0, 0, .null),
  (125, .getfield 9, 128, 71, 1, 2, .null),
  (128, .iload 7, 130, 0, 7, 0, .null),
  (130, .iconst 2, 131, 0, 0, 0, .int 2),
  (131, .iadd, 132, 0, 0, 0, .null),
  (132, .iload_n 2, 133, 0, 2, 0, .null),
  (133, .iastore, 134, 0, 0, 0, .null),
  (134, .aload_n 0, 135, 0, 0, 0, .null),
  (135, .getfield 9, 138, 71, 1, 2, .null),
  (138, .iload 7, 140, 0, 7, 0, .null),
  (140, .iconst 3, 141, 0, 0, 0, .int 3),
  (141, .iadd, 142, 0, 0, 0, .null),
  (142, .iload_n 3, 143, 0, 3, 0, .null),
  (143, .iastore, 144, 0, 0, 0, .null),
  (144, .aload_n 0, 145, 0, 0, 0, .null),
  (145, .getfield 9, 148, 71, 1, 2, .null),
  (148, .iload 7, 150, 0, 7, 0, .null),
  (150, .iconst 4, 151, 0, 0, 0, .int 4),
  (151, .iadd, 152, 0, 0, 0, .null),
  (152, .iload 4, 154, 0, 4, 0, .null),
  (154, .iastore, 155, 0, 0, 0, .null),
  (155, .aload_n 0, 156, 0, 0, 0, .null),
  (156, .getfield 15, 159, 72, 1, 3, .null),
  (159, .iload_n 1, 160, 0, 1, 0, .null),
  (160, .dup2, 161, 0, 0, 0, .null),
  (161, .iaload, 162, 0, 0, 0, .null),
  (162, .iconst 1, 163, 0, 0, 0, .int 1),
  (163, .iadd, 164, 0, 0, 0, .null),
  (164, .iastore, 165, 0, 0, 0, .null),
  (165, .aload_n 0, 166, 0, 0, 0, .null),
  (166, .getfield 18, 169, 73, 1, 4, .null),
  (169, .iload_n 1, 170, 0, 1, 0, .null),
  (170, .dup2, 171, 0, 0, 0, .null),
  (171, .iaload, 172, 0, 0, 0, .null),
  (172, .iload_n 2, 173, 0, 2, 0, .null),
  (173, .iadd, 174, 0, 0, 0, .null),
  (174, .iastore, 175, 0, 0, 0, .null),
  (175, .aload_n 0, 176, 0, 0, 0, .null),
  (176, .dup, 177, 0, 0, 0, .null),
  (177, .getfield 25, 180, 69, 1, 1, .null),
  (180, .iconst 1, 181, 0, 0, 0, .int 1),
  (181, .iadd, 182, 0, 0, 0, .null),
  (182, .putfield 25, 185, 69, 1, 1, .null),
  (185, .iload 5, 187, 0, 5, 0, .null),
  (187, .ireturn, 188, 0, 0, 0, .null)]
def mm_X1_make : ev_M := (RX1, "make", cX1_make, 8, (some .int), tb_X1_make, 1, 60, 0, 0)
set_option maxRecDepth 100000 in
theorem ok_X1_make : ev_OK mm_X1_make := by unfold ev_OK; decide +kernel
theorem cv_X1_make : ev_CV yX1_make mm_X1_make 1 4 := ⟨ev_has_in (k := 416) (by decide +kernel), ev_has_in (k := 26) (by decide +kernel), ev_has_in (k := 414) (by decide +kernel), ev_has_in (k := 415) (by decide +kernel), ⟨by decide +kernel, by decide +kernel, by decide +kernel⟩, rfl, by decide⟩
def tb_X1_dropFirst : ev_T := [(0, .aload_n 0, 1, 0, 0, 0, .null),
  (1, .iconst 0, 2, 0, 0, 0, .int 0),
  (2, .iconst 1, 3, 0, 0, 0, .int 1),
  (3, .invokevirtual 34, 6, 0, 0, 0, .null),
  (6, .istore_n 1, 7, 0, 1, 0, .null),
  (7, .aload_n 0, 8, 0, 0, 0, .null),
  (8, .getfield 21, 11, 68, 1, 0, .null),
  (11, .aload_n 0, 12, 0, 0, 0, .null),
  (12, .getfield 25, 15, 69, 1, 1, .null),
  (15, .if_icmp .ge 48, 18, 0, 63, 0, .null),
  (18, .iload_n 1, 19, 0, 1, 0, .null),
  (19, .ifCond .lt 44, 22, 0, 63, 0, .null),
  (22, .iload_n 1, 23, 0, 1, 0, .null),
  (23, .bipush 24, 25, 0, 0, 0, .int 24),
  (25, .if_icmp .ge 38, 28, 0, 63, 0, .null),
  (28, .aload_n 0, 29, 0, 0, 0, .null),
  (29, .getfield 15, 32, 72, 1, 3, .null),
  (32, .iload_n 1, 33, 0, 1, 0, .null),
  (33, .dup2, 34, 0, 0, 0, .null),
  (34, .iaload, 35, 0, 0, 0, .null),
  (35, .iconst 1, 36, 0, 0, 0, .int 1),
  (36, .isub, 37, 0, 0, 0, .null),
  (37, .iastore, 38, 0, 0, 0, .null),
  (38, .aload_n 0, 39, 0, 0, 0, .null),
  (39, .getfield 18, 42, 73, 1, 4, .null),
  (42, .iload_n 1, 43, 0, 1, 0, .null),
  (43, .dup2, 44, 0, 0, 0, .null),
  (44, .iaload, 45, 0, 0, 0, .null),
  (45, .aload_n 0, 46, 0, 0, 0, .null),
  (46, .iconst 0, 47, 0, 0, 0, .int 0),
  (47, .iconst 2, 48, 0, 0, 0, .int 2),
  (48, .invokevirtual 34, 51, 0, 0, 0, .null),
  (51, .isub, 52, 0, 0, 0, .null),
  (52, .iastore, 53, 0, 0, 0, .null),
  (53, .aload_n 0, 54, 0, 0, 0, .null),
  (54, .dup, 55, 0, 0, 0, .null),
  (55, .getfield 21, 58, 68, 1, 0, .null),
  (58, .iconst 1, 59, 0, 0, 0, .int 1),
  (59, .iadd, 60, 0, 0, 0, .null),
  (60, .putfield 21, 63, 68, 1, 0, .null),
  (63, .return_, 64, 0, 0, 0, .null)]
def mm_X1_dropFirst : ev_M := (RX1, "dropFirst", cX1_dropFirst, 2, none, tb_X1_dropFirst, 1, 23, 0, 0)
set_option maxRecDepth 100000 in
theorem ok_X1_dropFirst : ev_OK mm_X1_dropFirst := by unfold ev_OK; decide +kernel
theorem cv_X1_dropFirst : ev_CV yX1_dropFirst mm_X1_dropFirst 1 0 := ⟨ev_has_in (k := 376) (by decide +kernel), ev_has_in (k := 26) (by decide +kernel), ev_has_in (k := 374) (by decide +kernel), ev_has_in (k := 375) (by decide +kernel), ⟨by decide +kernel, by decide +kernel, by decide +kernel⟩, rfl, by decide⟩
theorem ml_X1_34 : ev_ml RX1 34 yX1_part := Or.inl (ev_has_in (k := 368) (by decide +kernel))
theorem ml_X1_38 : ev_ml RX1 38 yX4_isIn := Or.inr ⟨"GossipCounts", ev_has_in (k := 386) (by decide +kernel)⟩
end
section
/-! tables of the methods of GossipCounts$Text, laid by wip/p32/gen/tabs2.py -/
def tb_X2_init : ev_T := [(0, .aload_n 0, 1, 0, 0, 0, .null),
  (1, .invokespecial 3, 4, 0, 0, 0, .null),
  (4, .aload_n 0, 5, 0, 0, 0, .null),
  (5, .bipush 60, 7, 0, 0, 0, .int 60),
  (7, .newarray .int, 9, 0, 0, 0, .null),
  (9, .putfield 9, 12, 154, 2, 1, .null),
  (12, .aload_n 0, 13, 0, 0, 0, .null),
  (13, .iconst 3, 14, 0, 0, 0, .int 3),
  (14, .newarray .int, 16, 0, 0, 0, .null),
  (16, .putfield 15, 19, 155, 2, 3, .null),
  (19, .return_, 20, 0, 0, 0, .null)]
def mm_X2_init : ev_M := (RX2, "<init>", cX2_init, 1, none, tb_X2_init, 1, 30, 0, 0)
set_option maxRecDepth 100000 in
theorem ok_X2_init : ev_OK mm_X2_init := by unfold ev_OK; decide +kernel
theorem ci_X2_init : ev_CI yX2_init mm_X2_init 0 := ⟨ev_has_in (k := 152) (by decide +kernel), ev_has_in (k := 27) (by decide +kernel), ev_has_in (k := 151) (by decide +kernel), ⟨by decide +kernel, by decide +kernel, by decide +kernel⟩, rfl⟩
end
section
/-! tables of the methods of GossipCounts$World, laid by wip/p32/gen/tabs2.py -/
def tb_X3_init : ev_T := [(0, .aload_n 0, 1, 0, 0, 0, .null),
  (1, .invokespecial 3, 4, 0, 0, 0, .null),
  (4, .aload_n 0, 5, 0, 0, 0, .null),
  (5, .iconst 5, 6, 0, 0, 0, .int 5),
  (6, .newarray .int, 8, 0, 0, 0, .null),
  (8, .dup, 9, 0, 0, 0, .null),
  (9, .iconst 0, 10, 0, 0, 0, .int 0),
  (10, .iconst 1, 11, 0, 0, 0, .int 1),
  (11, .iastore, 12, 0, 0, 0, .null),
  (12, .dup, 13, 0, 0, 0, .null),
  (13, .iconst 1, 14, 0, 0, 0, .int 1),
  (14, .iconst 3, 15, 0, 0, 0, .int 3),
  (15, .iastore, 16, 0, 0, 0, .null),
  (16, .dup, 17, 0, 0, 0, .null),
  (17, .iconst 2, 18, 0, 0, 0, .int 2),
  (18, .iconst 2, 19, 0, 0, 0, .int 2),
  (19, .iastore, 20, 0, 0, 0, .null),
  (20, .dup, 21, 0, 0, 0, .null),
  (21, .iconst 3, 22, 0, 0, 0, .int 3),
  (22, .iconst 0, 23, 0, 0, 0, .int 0),
  (23, .iastore, 24, 0, 0, 0, .null),
  (24, .dup, 25, 0, 0, 0, .null),
  (25, .iconst 4, 26, 0, 0, 0, .int 4),
  (26, .iconst 0, 27, 0, 0, 0, .int 0),
  (27, .iastore, 28, 0, 0, 0, .null),
  (28, .putfield 9, 31, 98, 3, 7, .null),
  (31, .aload_n 0, 32, 0, 0, 0, .null),
  (32, .bipush 24, 34, 0, 0, 0, .int 24),
  (34, .newarray .int, 36, 0, 0, 0, .null),
  (36, .putfield 15, 39, 100, 3, 8, .null),
  (39, .aload_n 0, 40, 0, 0, 0, .null),
  (40, .bipush 24, 42, 0, 0, 0, .int 24),
  (42, .newarray .int, 44, 0, 0, 0, .null),
  (44, .putfield 18, 47, 101, 3, 9, .null),
  (47, .aload_n 0, 48, 0, 0, 0, .null),
  (48, .bipush 24, 50, 0, 0, 0, .int 24),
  (50, .newarray .int, 52, 0, 0, 0, .null),
  (52, .putfield 21, 55, 102, 3, 10, .null),
  (55, .aload_n 0, 56, 0, 0, 0, .null),
  (56, .bipush 24, 58, 0, 0, 0, .int 24),
  (58, .newarray .int, 60, 0, 0, 0, .null),
  (60, .putfield 24, 63, 103, 3, 11, .null),
  (63, .aload_n 0, 64, 0, 0, 0, .null),
  (64, .bipush 24, 66, 0, 0, 0, .int 24),
  (66, .newarray .int, 68, 0, 0, 0, .null),
  (68, .putfield 27, 71, 104, 3, 12, .null),
  (71, .aload_n 0, 72, 0, 0, 0, .null),
  (72, .bipush 24, 74, 0, 0, 0, .int 24),
  (74, .newarray .int, 76, 0, 0, 0, .null),
  (76, .putfield 30, 79, 106, 3, 13, .null),
  (79, .aload_n 0, 80, 0, 0, 0, .null),
  (80, .bipush 24, 82, 0, 0, 0, .int 24),
  (82, .newarray .int, 84, 0, 0, 0, .null),
  (84, .putfield 33, 87, 107, 3, 14, .null),
  (87, .aload_n 0, 88, 0, 0, 0, .null),
  (88, .new 36, 91, 0, 0, 0, .null),
  (91, .dup, 92, 0, 0, 0, .null),
  (92, .invokespecial 38, 95, 0, 0, 0, .null),
  (95, .putfield 39, 98, 108, 3, 15, .null),
  (98, .aload_n 0, 99, 0, 0, 0, .null),
  (99, .new 43, 102, 0, 0, 0, .null),
  (102, .dup, 103, 0, 0, 0, .null),
  (103, .invokespecial 45, 106, 0, 0, 0, .null),
  (106, .putfield 46, 109, 110, 3, 16, .null),
  (109, .return_, 110, 0, 0, 0, .null)]
def mm_X3_init : ev_M := (RX3, "<init>", cX3_init, 1, none, tb_X3_init, 2, 51, 0, 0)
set_option maxRecDepth 100000 in
theorem ok_X3_init : ev_OK mm_X3_init := by unfold ev_OK; decide +kernel
theorem ci_X3_init : ev_CI yX3_init mm_X3_init 0 := ⟨ev_has_in (k := 49) (by decide +kernel), ev_has_in (k := 24) (by decide +kernel), ev_has_in (k := 48) (by decide +kernel), ⟨by decide +kernel, by decide +kernel, by decide +kernel⟩, rfl⟩
def tb_X3_copyFrom : ev_T := [(0, .aload_n 0, 1, 0, 0, 0, .null),
  (1, .aload_n 1, 2, 0, 1, 0, .null),
  (2, .getfield 50, 5, 85, 3, 0, .null),
  (5, .putfield 50, 8, 85, 3, 0, .null),
  (8, .aload_n 0, 9, 0, 0, 0, .null),
  (9, .aload_n 1, 10, 0, 1, 0, .null),
  (10, .getfield 54, 13, 87, 3, 1, .null),
  (13, .putfield 54, 16, 87, 3, 1, .null),
  (16, .aload_n 0, 17, 0, 0, 0, .null),
  (17, .aload_n 1, 18, 0, 1, 0, .null),
  (18, .getfield 57, 21, 89, 3, 2, .null),
  (21, .putfield 57, 24, 89, 3, 2, .null),
  (24, .aload_n 0, 25, 0, 0, 0, .null),
  (25, .aload_n 1, 26, 0, 1, 0, .null),
  (26, .getfield 60, 29, 91, 3, 3, .null),
  (29, .putfield 60, 32, 91, 3, 3, .null),
  (32, .aload_n 0, 33, 0, 0, 0, .null),
  (33, .aload_n 1, 34, 0, 1, 0, .null),
  (34, .getfield 63, 37, 93, 3, 4, .null),
  (37, .putfield 63, 40, 93, 3, 4, .null),
  (40, .aload_n 0, 41, 0, 0, 0, .null),
  (41, .aload_n 1, 42, 0, 1, 0, .null),
  (42, .getfield 66, 45, 95, 3, 5, .null),
  (45, .putfield 66, 48, 95, 3, 5, .null),
  (48, .aload_n 0, 49, 0, 0, 0, .null),
  (49, .aload_n 1, 50, 0, 1, 0, .null),
  (50, .getfield 69, 53, 97, 3, 6, .null),
  (53, .putfield 69, 56, 97, 3, 6, .null),
  (56, .aload_n 1, 57, 0, 1, 0, .null),
  (57, .getfield 9, 60, 98, 3, 7, .null),
  (60, .iconst 0, 61, 0, 0, 0, .int 0),
  (61, .aload_n 0, 62, 0, 0, 0, .null),
  (62, .getfield 9, 65, 98, 3, 7, .null),
  (65, .iconst 0, 66, 0, 0, 0, .int 0),
  (66, .iconst 5, 67, 0, 0, 0, .int 5),
  (67, .invokestatic 72, 70, 0, 0, 0, .null),
  (70, .aload_n 1, 71, 0, 1, 0, .null),
  (71, .getfield 15, 74, 100, 3, 8, .null),
  (74, .iconst 0, 75, 0, 0, 0, .int 0),
  (75, .aload_n 0, 76, 0, 0, 0, .null),
  (76, .getfield 15, 79, 100, 3, 8, .null),
  (79, .iconst 0, 80, 0, 0, 0, .int 0),
  (80, .bipush 24, 82, 0, 0, 0, .int 24),
  (82, .invokestatic 72, 85, 0, 0, 0, .null),
  (85, .aload_n 1, 86, 0, 1, 0, .null),
  (86, .getfield 18, 89, 101, 3, 9, .null),
  (89, .iconst 0, 90, 0, 0, 0, .int 0),
  (90, .aload_n 0, 91, 0, 0, 0, .null),
  (91, .getfield 18, 94, 101, 3, 9, .null),
  (94, .iconst 0, 95, 0, 0, 0, .int 0),
  (95, .bipush 24, 97, 0, 0, 0, .int 24),
  (97, .invokestatic 72, 100, 0, 0, 0, .null),
  (100, .aload_n 1, 101, 0, 1, 0, .null),
  (101, .getfield 21, 104, 102, 3, 10, .null),
  (104, .iconst 0, 105, 0, 0, 0, .int 0),
  (105, .aload_n 0, 106, 0, 0, 0, .null),
  (106, .getfield 21, 109, 102, 3, 10, .null),
  (109, .iconst 0, 110, 0, 0, 0, .int 0),
  (110, .bipush 24, 112, 0, 0, 0, .int 24),
  (112, .invokestatic 72, 115, 0, 0, 0, .null),
  (115, .aload_n 1, 116, 0, 1, 0, .null),
  (116, .getfield 24, 119, 103, 3, 11, .null),
  (119, .iconst 0, 120, 0, 0, 0, .int 0),
  (120, .aload_n 0, 121, 0, 0, 0, .null),
  (121, .getfield 24, 124, 103, 3, 11, .null),
  (124, .iconst 0, 125, 0, 0, 0, .int 0),
  (125, .bipush 24, 127, 0, 0, 0, .int 24),
  (127, .invokestatic 72, 130, 0, 0, 0, .null),
  (130, .aload_n 1, 131, 0, 1, 0, .null),
  (131, .getfield 27, 134, 104, 3, 12, .null),
  (134, .iconst 0, 135, 0, 0, 0, .int 0),
  (135, .aload_n 0, 136, 0, 0, 0, .null),
  (136, .getfield 27, 139, 104, 3, 12, .null),
  (139, .iconst 0, 140, 0, 0, 0, .int 0),
  (140, .bipush 24, 142, 0, 0, 0, .int 24),
  (142, .invokestatic 72, 145, 0, 0, 0, .null),
  (145, .aload_n 1, 146, 0, 1, 0, .null),
  (146, .getfield 30, 149, 106, 3, 13, .null),
  (149, .iconst 0, 150, 0, 0, 0, .int 0),
  (150, .aload_n 0, 151, 0, 0, 0, .null),
  (151, .getfield 30, 154, 106, 3, 13, .null),
  (154, .iconst 0, 155, 0, 0, 0, .int 0),
  (155, .bipush 24, 157, 0, 0, 0, .int 24),
  (157, .invokestatic 72, 160, 0, 0, 0, .null),
  (160, .aload_n 1, 161, 0, 1, 0, .null),
  (161, .getfield 33, 164, 107, 3, 14, .null),
  (164, .iconst 0, 165, 0, 0, 0, .int 0),
  (165, .aload_n 0, 166, 0, 0, 0, .null),
  (166, .getfield 33, 169, 107, 3, 14, .null),
  (169, .iconst 0, 170, 0, 0, 0, .int 0),
  (170, .bipush 24, 172, 0, 0, 0, .int 24),
  (172, .invokestatic 72, 175, 0, 0, 0, .null),
  (175, .aload_n 0, 176, 0, 0, 0, .null),
  (176, .getfield 39, 179, 108, 3, 15, .null),
  (179, .aload_n 1, 180, 0, 1, 0, .null),
  (180, .getfield 39, 183, 108, 3, 15, .null),
  (183, .invokevirtual 78, 186, 0, 0, 0, .null),
  (186, .aload_n 0, 187, 0, 0, 0, .null),
  (187, .getfield 46, 190, 110, 3, 16, .null),
  (190, .aload_n 1, 191, 0, 1, 0, .null),
  (191, .getfield 46, 194, 110, 3, 16, .null),
  (194, .invokevirtual 82, 197, 0, 0, 0, .null),
  (197, .return_, 198, 0, 0, 0, .null)]
def mm_X3_copyFrom : ev_M := (RX3, "copyFrom", cX3_copyFrom, 2, none, tb_X3_copyFrom, 2, 81, 0, 0)
set_option maxRecDepth 100000 in
theorem ok_X3_copyFrom : ev_OK mm_X3_copyFrom := by unfold ev_OK; decide +kernel
theorem cv_X3_copyFrom : ev_CV yX3_copyFrom mm_X3_copyFrom 3 1 := ⟨ev_has_in (k := 281) (by decide +kernel), ev_has_in (k := 24) (by decide +kernel), ev_has_in (k := 279) (by decide +kernel), ev_has_in (k := 280) (by decide +kernel), ⟨by decide +kernel, by decide +kernel, by decide +kernel⟩, rfl, by decide⟩
def tb_X3_lives : ev_T := [(0, .iload_n 1, 1, 0, 1, 0, .null),
  (1, .ifCond .lt 24, 4, 0, 25, 0, .null),
  (4, .iload_n 1, 5, 0, 1, 0, .null),
  (5, .bipush 24, 7, 0, 0, 0, .int 24),
  (7, .if_icmp .ge 18, 10, 0, 25, 0, .null),
  (10, .aload_n 0, 11, 0, 0, 0, .null),
  (11, .getfield 57, 14, 89, 3, 2, .null),
  (14, .iload_n 1, 15, 0, 1, 0, .null),
  (15, .invokestatic 85, 18, 0, 0, 0, .null),
  (18, .ifCond .eq 7, 21, 0, 25, 0, .null),
  (21, .iconst 1, 22, 0, 0, 0, .int 1),
  (22, .goto 4, 25, 0, 26, 0, .null),
  (25, .iconst 0, 26, 0, 0, 0, .int 0),
  (26, .ireturn, 27, 0, 0, 0, .null)]
def mm_X3_lives : ev_M := (RX3, "lives", cX3_lives, 2, (some .boolean), tb_X3_lives, 1, 21, 0, 0)
set_option maxRecDepth 100000 in
theorem ok_X3_lives : ev_OK mm_X3_lives := by unfold ev_OK; decide +kernel
theorem cv_X3_lives : ev_CV yX3_lives mm_X3_lives 3 1 := ⟨ev_has_in (k := 326) (by decide +kernel), ev_has_in (k := 24) (by decide +kernel), ev_has_in (k := 324) (by decide +kernel), ev_has_in (k := 325) (by decide +kernel), ⟨by decide +kernel, by decide +kernel, by decide +kernel⟩, rfl, by decide⟩
def tb_X3_mayBeHeld : ev_T := [(0, .iload_n 1, 1, 0, 1, 0, .null),
  (1, .iconst (-1), 2, 0, 0, 0, .int (-1)),
  (2, .if_icmp .eq 11, 5, 0, 13, 0, .null),
  (5, .aload_n 0, 6, 0, 0, 0, .null),
  (6, .iload_n 1, 7, 0, 1, 0, .null),
  (7, .invokevirtual 89, 10, 0, 0, 0, .null),
  (10, .ifCond .eq 7, 13, 0, 17, 0, .null),
  (13, .iconst 1, 14, 0, 0, 0, .int 1),
  (14, .goto 4, 17, 0, 18, 0, .null),
  (17, .iconst 0, 18, 0, 0, 0, .int 0),
  (18, .ireturn, 19, 0, 0, 0, .null)]
def mm_X3_mayBeHeld : ev_M := (RX3, "mayBeHeld", cX3_mayBeHeld, 2, (some .boolean), tb_X3_mayBeHeld, 2, 42, 0, 0)
set_option maxRecDepth 100000 in
theorem ok_X3_mayBeHeld : ev_OK mm_X3_mayBeHeld := by unfold ev_OK; decide +kernel
theorem cv_X3_mayBeHeld : ev_CV yX3_mayBeHeld mm_X3_mayBeHeld 3 1 := ⟨ev_has_in (k := 494) (by decide +kernel), ev_has_in (k := 24) (by decide +kernel), ev_has_in (k := 492) (by decide +kernel), ev_has_in (k := 493) (by decide +kernel), ⟨by decide +kernel, by decide +kernel, by decide +kernel⟩, rfl, by decide⟩
def tb_X3_bring : ev_T := [(0, .aload_n 0, 1, 0, 0, 0, .null),
  (1, .getfield 54, 4, 87, 3, 1, .null),
  (4, .istore_n 2, 5, 0, 2, 0, .null),
  (5, .iload_n 2, 6, 0, 2, 0, .null),
  (6, .ifCond .lt 9, 9, 0, 15, 0, .null),
  (9, .iload_n 2, 10, 0, 2, 0, .null),
  (10, .bipush 24, 12, 0, 0, 0, .int 24),
  (12, .if_icmp .lt 5, 15, 0, 17, 0, .null),
  (15, .iconst (-1), 16, 0, 0, 0, .int (-1)),
  (16, .ireturn, 17, 0, 0, 0, .null),
  (17, .aload_n 0, 18, 0, 0, 0, .null),
  (18, .getfield 15, 21, 100, 3, 8, .null),
  (21, .iload_n 2, 22, 0, 2, 0, .null),
  (22, .iload_n 1, 23, 0, 1, 0, .null),
  (23, .iastore, 24, 0, 0, 0, .null),
  (24, .aload_n 0, 25, 0, 0, 0, .null),
  (25, .getfield 21, 28, 102, 3, 10, .null),
  (28, .iload_n 2, 29, 0, 2, 0, .null),
  (29, .aload_n 0, 30, 0, 0, 0, .null),
  (30, .getfield 50, 33, 85, 3, 0, .null),
  (33, .iastore, 34, 0, 0, 0, .null),
  (34, .aload_n 0, 35, 0, 0, 0, .null),
  (35, .getfield 24, 38, 103, 3, 11, .null),
  (38, .iload_n 2, 39, 0, 2, 0, .null),
  (39, .iconst (-1), 40, 0, 0, 0, .int (-1)),
  (40, .iastore, 41, 0, 0, 0, .null),
  (41, .aload_n 0, 42, 0, 0, 0, .null),
  (42, .getfield 27, 45, 104, 3, 12, .null),
  (45, .iload_n 2, 46, 0, 2, 0, .null),
  (46, .iconst (-1), 47, 0, 0, 0, .int (-1)),
  (47, .iastore, 48, 0, 0, 0, .null),
  (48, .aload_n 0, 49, 0, 0, 0, .null),
  (49, .dup, 50, 0, 0, 0, .null),
  (50, .getfield 57, 53, 89, 3, 2, .null),
  (53, .iconst 1, 54, 0, 0, 0, .int 1),
  (54, .iload_n 2, 55, 0, 2, 0, .null),
  (55, .ishl, 56, 0, 0, 0, .null),
  (56, .ior, 57, 0, 0, 0, .null),
  (57, .putfield 57, 60, 89, 3, 2, .null),
  (60, .aload_n 0, 61, 0, 0, 0, .null),
  (61, .dup, 62, 0, 0, 0, .null),
  (62, .getfield 54, 65, 87, 3, 1, .null),
  (65, .iconst 1, 66, 0, 0, 0, .int 1),
  (66, .iadd, 67, 0, 0, 0, .null),
  (67, .putfield 54, 70, 87, 3, 1, .null),
  (70, .iload_n 2, 71, 0, 2, 0, .null),
  (71, .ireturn, 72, 0, 0, 0, .null)]
def mm_X3_bring : ev_M := (RX3, "bring", cX3_bring, 3, (some .int), tb_X3_bring, 0, 0, 0, 0)
set_option maxRecDepth 100000 in
theorem ok_X3_bring : ev_OK mm_X3_bring := by unfold ev_OK; decide +kernel
theorem cv_X3_bring : ev_CV yX3_bring mm_X3_bring 3 1 := ⟨ev_has_in (k := 298) (by decide +kernel), ev_has_in (k := 24) (by decide +kernel), ev_has_in (k := 296) (by decide +kernel), ev_has_in (k := 297) (by decide +kernel), ⟨by decide +kernel, by decide +kernel, by decide +kernel⟩, rfl, by decide⟩
def tb_X3_change : ev_T := [(0, .aload_n 0, 1, 0, 0, 0, .null),
  (1, .getfield 39, 4, 108, 3, 15, .null),
  (4, .iload_n 1, 5, 0, 1, 0, .null),
  (5, .invokevirtual 93, 8, 0, 0, 0, .null),
  (8, .istore_n 3, 9, 0, 3, 0, .null),
  (9, .aload_n 0, 10, 0, 0, 0, .null),
  (10, .getfield 39, 13, 108, 3, 15, .null),
  (13, .iload_n 1, 14, 0, 1, 0, .null),
  (14, .iload_n 2, 15, 0, 2, 0, .null),
  (15, .invokevirtual 97, 18, 0, 0, 0, .null),
  (18, .iload_n 2, 19, 0, 2, 0, .null),
  (19, .iconst (-1), 20, 0, 0, 0, .int (-1)),
  (20, .if_icmp .eq 19, 23, 0, 39, 0, .null),
  (23, .aload_n 0, 24, 0, 0, 0, .null),
  (24, .getfield 46, 27, 110, 3, 16, .null),
  (27, .iload_n 2, 28, 0, 2, 0, .null),
  (28, .iconst 1, 29, 0, 0, 0, .int 1),
  (29, .aload_n 0, 30, 0, 0, 0, .null),
  (30, .iload_n 2, 31, 0, 2, 0, .null),
  (31, .invokevirtual 101, 34, 0, 0, 0, .null),
  (34, .iconst 0, 35, 0, 0, 0, .int 0),
  (35, .invokevirtual 104, 38, 0, 0, 0, .null),
  (38, .pop, 39, 0, 0, 0, .null),
  (39, .iload_n 3, 40, 0, 3, 0, .null),
  (40, .iconst (-1), 41, 0, 0, 0, .int (-1)),
  (41, .if_icmp .eq 19, 44, 0, 60, 0, .null),
  (44, .aload_n 0, 45, 0, 0, 0, .null),
  (45, .getfield 46, 48, 110, 3, 16, .null),
  (48, .iload_n 3, 49, 0, 3, 0, .null),
  (49, .iconst (-1), 50, 0, 0, 0, .int (-1)),
  (50, .aload_n 0, 51, 0, 0, 0, .null),
  (51, .iload_n 3, 52, 0, 3, 0, .null),
  (52, .invokevirtual 101, 55, 0, 0, 0, .null),
  (55, .iconst 0, 56, 0, 0, 0, .int 0),
  (56, .invokevirtual 104, 59, 0, 0, 0, .null),
  (59, .pop, 60, 0, 0, 0, .null),
  (60, .aload_n 0, 61, 0, 0, 0, .null),
  (61, .invokevirtual 108, 64, 0, 0, 0, .null),
  (64, .iload_n 3, 65, 0, 3, 0, .null),
  (65, .ireturn, 66, 0, 0, 0, .null)]
def mm_X3_change : ev_M := (RX3, "change", cX3_change, 4, (some .int), tb_X3_change, 4, 136, 0, 0)
set_option maxRecDepth 100000 in
theorem ok_X3_change : ev_OK mm_X3_change := by unfold ev_OK; decide +kernel
theorem cv_X3_change : ev_CV yX3_change mm_X3_change 3 2 := ⟨ev_has_in (k := 500) (by decide +kernel), ev_has_in (k := 24) (by decide +kernel), ev_has_in (k := 498) (by decide +kernel), ev_has_in (k := 499) (by decide +kernel), ⟨by decide +kernel, by decide +kernel, by decide +kernel⟩, rfl, by decide⟩
def tb_X3_lie : ev_T := [(0, .aload_n 0, 1, 0, 0, 0, .null),
  (1, .getfield 46, 4, 110, 3, 16, .null),
  (4, .iload_n 1, 5, 0, 1, 0, .null),
  (5, .iload_n 2, 6, 0, 2, 0, .null),
  (6, .aload_n 0, 7, 0, 0, 0, .null),
  (7, .iload_n 1, 8, 0, 1, 0, .null),
  (8, .invokevirtual 101, 11, 0, 0, 0, .null),
  (11, .iconst 1, 12, 0, 0, 0, .int 1),
  (12, .invokevirtual 104, 15, 0, 0, 0, .null),
  (15, .istore_n 3, 16, 0, 3, 0, .null),
  (16, .aload_n 0, 17, 0, 0, 0, .null),
  (17, .invokevirtual 108, 20, 0, 0, 0, .null),
  (20, .iload_n 3, 21, 0, 3, 0, .null),
  (21, .ireturn, 22, 0, 0, 0, .null)]
def mm_X3_lie : ev_M := (RX3, "lie", cX3_lie, 4, (some .int), tb_X3_lie, 4, 136, 0, 0)
set_option maxRecDepth 100000 in
theorem ok_X3_lie : ev_OK mm_X3_lie := by unfold ev_OK; decide +kernel
theorem cv_X3_lie : ev_CV yX3_lie mm_X3_lie 3 2 := ⟨ev_has_in (k := 678) (by decide +kernel), ev_has_in (k := 24) (by decide +kernel), ev_has_in (k := 676) (by decide +kernel), ev_has_in (k := 677) (by decide +kernel), ⟨by decide +kernel, by decide +kernel, by decide +kernel⟩, rfl, by decide⟩
def tb_X3_passTicks : ev_T := [(0, .aload_n 0, 1, 0, 0, 0, .null),
  (1, .getfield 66, 4, 95, 3, 5, .null),
  (4, .istore_n 2, 5, 0, 2, 0, .null),
  (5, .iconst 0, 6, 0, 0, 0, .int 0),
  (6, .istore_n 3, 7, 0, 3, 0, .null),
  (7, .iload_n 3, 8, 0, 3, 0, .null),
  (8, .iload_n 1, 9, 0, 1, 0, .null),
  (9, .if_icmp .ge 51, 12, 0, 60, 0, .null),
  (12, .aload_n 0, 13, 0, 0, 0, .null),
  (13, .dup, 14, 0, 0, 0, .null),
  (14, .getfield 50, 17, 85, 3, 0, .null),
  (17, .iconst 1, 18, 0, 0, 0, .int 1),
  (18, .iadd, 19, 0, 0, 0, .null),
  (19, .putfield 50, 22, 85, 3, 0, .null),
  (22, .aload_n 0, 23, 0, 0, 0, .null),
  (23, .invokevirtual 108, 26, 0, 0, 0, .null),
  (26, .aload_n 0, 27, 0, 0, 0, .null),
  (27, .getfield 9, 30, 98, 3, 7, .null),
  (30, .iconst 4, 31, 0, 0, 0, .int 4),
  (31, .iaload, 32, 0, 0, 0, .null),
  (32, .istore 4, 34, 0, 4, 0, .null),
  (34, .iload 4, 36, 0, 4, 0, .null),
  (36, .ifCond .le 18, 39, 0, 54, 0, .null),
  (39, .aload_n 0, 40, 0, 0, 0, .null),
  (40, .getfield 50, 43, 85, 3, 0, .null),
  (43, .iload 4, 45, 0, 4, 0, .null),
  (45, .irem, 46, 0, 0, 0, .null),
  (46, .ifCond .ne 8, 49, 0, 54, 0, .null),
  (49, .aload_n 0, 50, 0, 0, 0, .null),
  (50, .invokevirtual 120, 53, 0, 0, 0, .null),
  (53, .pop, 54, 0, 0, 0, .null),
  (54, .iinc 3 1, 57, 0, 3, 0, .int 1),
  (57, .goto (-50), 60, 0, 7, 0, .null),
  (60, .aload_n 0, 61, 0, 0, 0, .null),
  (61, .getfield 66, 64, 95, 3, 5, .null),
  (64, .iload_n 2, 65, 0, 2, 0, .null),
  (65, .isub, 66, 0, 0, 0, .null),
  (66, .ireturn, 67, 0, 0, 0, .null)]
def mm_X3_passTicks : ev_M := (RX3, "passTicks", cX3_passTicks, 5, (some .int), tb_X3_passTicks, 5, 162, 0, 0)
set_option maxRecDepth 100000 in
theorem ok_X3_passTicks : ev_OK mm_X3_passTicks := by unfold ev_OK; decide +kernel
theorem cv_X3_passTicks : ev_CV yX3_passTicks mm_X3_passTicks 3 1 := ⟨ev_has_in (k := 359) (by decide +kernel), ev_has_in (k := 24) (by decide +kernel), ev_has_in (k := 357) (by decide +kernel), ev_has_in (k := 358) (by decide +kernel), ⟨by decide +kernel, by decide +kernel, by decide +kernel⟩, rfl, by decide⟩
def tb_X3_holdTrial : ev_T := [(0, .aload_n 0, 1, 0, 0, 0, .null),
  (1, .getfield 66, 4, 95, 3, 5, .null),
  (4, .istore_n 1, 5, 0, 1, 0, .null),
  (5, .aload_n 0, 6, 0, 0, 0, .null),
  (6, .getfield 60, 9, 91, 3, 3, .null),
  (9, .istore_n 2, 10, 0, 2, 0, .null),
  (10, .iconst 0, 11, 0, 0, 0, .int 0),
  (11, .istore_n 3, 12, 0, 3, 0, .null),
  (12, .iload_n 3, 13, 0, 3, 0, .null),
  (13, .bipush 24, 15, 0, 0, 0, .int 24),
  (15, .if_icmp .ge 31, 18, 0, 46, 0, .null),
  (18, .iload_n 2, 19, 0, 2, 0, .null),
  (19, .aload_n 0, 20, 0, 0, 0, .null),
  (20, .getfield 60, 23, 91, 3, 3, .null),
  (23, .iand, 24, 0, 0, 0, .null),
  (24, .iload_n 3, 25, 0, 3, 0, .null),
  (25, .invokestatic 85, 28, 0, 0, 0, .null),
  (28, .ifCond .eq 12, 31, 0, 40, 0, .null),
  (31, .aload_n 0, 32, 0, 0, 0, .null),
  (32, .iload_n 3, 33, 0, 3, 0, .null),
  (33, .invokevirtual 124, 36, 0, 0, 0, .null),
  (36, .aload_n 0, 37, 0, 0, 0, .null),
  (37, .invokevirtual 108, 40, 0, 0, 0, .null),
  (40, .iinc 3 1, 43, 0, 3, 0, .int 1),
  (43, .goto (-31), 46, 0, 12, 0, .null),
  (46, .aload_n 0, 47, 0, 0, 0, .null),
  (47, .getfield 66, 50, 95, 3, 5, .null),
  (50, .iload_n 1, 51, 0, 1, 0, .null),
  (51, .isub, 52, 0, 0, 0, .null),
  (52, .ireturn, 53, 0, 0, 0, .null)]
def mm_X3_holdTrial : ev_M := (RX3, "holdTrial", cX3_holdTrial, 4, (some .int), tb_X3_holdTrial, 4, 139, 0, 0)
set_option maxRecDepth 100000 in
theorem ok_X3_holdTrial : ev_OK mm_X3_holdTrial := by unfold ev_OK; decide +kernel
theorem cv_X3_holdTrial : ev_CV yX3_holdTrial mm_X3_holdTrial 3 0 := ⟨ev_has_in (k := 425) (by decide +kernel), ev_has_in (k := 24) (by decide +kernel), ev_has_in (k := 423) (by decide +kernel), ev_has_in (k := 424) (by decide +kernel), ⟨by decide +kernel, by decide +kernel, by decide +kernel⟩, rfl, by decide⟩
def tb_X3_judge : ev_T := [(0, .aload_n 0, 1, 0, 0, 0, .null),
  (1, .getfield 39, 4, 108, 3, 15, .null),
  (4, .iload_n 1, 5, 0, 1, 0, .null),
  (5, .invokevirtual 128, 8, 0, 0, 0, .null),
  (8, .iconst 1, 9, 0, 0, 0, .int 1),
  (9, .iload_n 1, 10, 0, 1, 0, .null),
  (10, .ishl, 11, 0, 0, 0, .null),
  (11, .ior, 12, 0, 0, 0, .null),
  (12, .istore_n 2, 13, 0, 2, 0, .null),
  (13, .aload_n 0, 14, 0, 0, 0, .null),
  (14, .getfield 46, 17, 110, 3, 16, .null),
  (17, .iload_n 2, 18, 0, 2, 0, .null),
  (18, .invokevirtual 131, 21, 0, 0, 0, .null),
  (21, .ifCond .eq 4, 24, 0, 25, 0, .null),
  (24, .return_, 25, 0, 0, 0, .null),
  (25, .aload_n 0, 26, 0, 0, 0, .null),
  (26, .dup, 27, 0, 0, 0, .null),
  (27, .getfield 60, 30, 91, 3, 3, .null),
  (30, .iconst 1, 31, 0, 0, 0, .int 1),
  (31, .iload_n 1, 32, 0, 1, 0, .null),
  (32, .ishl, 33, 0, 0, 0, .null),
  (33, .iconst (-1), 34, 0, 0, 0, .int (-1)),
  (34, .ixor, 35, 0, 0, 0, .null),
  (35, .iand, 36, 0, 0, 0, .null),
  (36, .putfield 60, 39, 91, 3, 3, .null),
  (39, .iload_n 2, 40, 0, 2, 0, .null),
  (40, .aload_n 0, 41, 0, 0, 0, .null),
  (41, .getfield 39, 44, 108, 3, 15, .null),
  (44, .aload_n 0, 45, 0, 0, 0, .null),
  (45, .iload_n 2, 46, 0, 2, 0, .null),
  (46, .invokevirtual 134, 49, 0, 0, 0, .null),
  (49, .iconst (-1), 50, 0, 0, 0, .int (-1)),
  (50, .invokevirtual 137, 53, 0, 0, 0, .null),
  (53, .iconst (-1), 54, 0, 0, 0, .int (-1)),
  (54, .ixor, 55, 0, 0, 0, .null),
  (55, .iand, 56, 0, 0, 0, .null),
  (56, .istore_n 3, 57, 0, 3, 0, .null),
  (57, .iload_n 3, 58, 0, 3, 0, .null),
  (58, .istore 4, 60, 0, 4, 0, .null),
  (60, .iconst 0, 61, 0, 0, 0, .int 0),
  (61, .istore 5, 63, 0, 5, 0, .null),
  (63, .iload 5, 65, 0, 5, 0, .null),
  (65, .bipush 24, 67, 0, 0, 0, .int 24),
  (67, .if_icmp .ge 41, 70, 0, 108, 0, .null),
  (70, .iload 4, 72, 0, 4, 0, .null),
  (72, .ifCond .eq 36, 75, 0, 108, 0, .null),
  (75, .aload_n 0, 76, 0, 0, 0, .null),
  (76, .iload 4, 78, 0, 4, 0, .null),
  (78, .invokevirtual 141, 81, 0, 0, 0, .null),
  (81, .istore 6, 83, 0, 6, 0, .null),
  (83, .aload_n 0, 84, 0, 0, 0, .null),
  (84, .iload 6, 86, 0, 6, 0, .null),
  (86, .iload_n 3, 87, 0, 3, 0, .null),
  (87, .iconst 2, 88, 0, 0, 0, .int 2),
  (88, .invokevirtual 144, 91, 0, 0, 0, .null),
  (91, .iload 4, 93, 0, 4, 0, .null),
  (93, .iconst 1, 94, 0, 0, 0, .int 1),
  (94, .iload 6, 96, 0, 6, 0, .null),
  (96, .ishl, 97, 0, 0, 0, .null),
  (97, .iconst (-1), 98, 0, 0, 0, .int (-1)),
  (98, .ixor, 99, 0, 0, 0, .null),
  (99, .iand, 100, 0, 0, 0, .null),
  (100, .istore 4, 102, 0, 4, 0, .null),
  (102, .iinc 5 1, 105, 0, 5, 0, .int 1),
  (105, .goto (-42), 108, 0, 63, 0, .null),
  (108, .return_, 109, 0, 0, 0, .null)]
def mm_X3_judge : ev_M := (RX3, "judge", cX3_judge, 7, none, tb_X3_judge, 3, 113, 0, 0)
set_option maxRecDepth 100000 in
theorem ok_X3_judge : ev_OK mm_X3_judge := by unfold ev_OK; decide +kernel
theorem cv_X3_judge : ev_CV yX3_judge mm_X3_judge 3 1 := ⟨ev_has_in (k := 429) (by decide +kernel), ev_has_in (k := 24) (by decide +kernel), ev_has_in (k := 428) (by decide +kernel), ev_has_in (k := 7) (by decide +kernel), ⟨by decide +kernel, by decide +kernel, by decide +kernel⟩, rfl, by decide⟩
def tb_X3_withRest : ev_T := [(0, .iconst 0, 1, 0, 0, 0, .int 0),
  (1, .istore_n 2, 2, 0, 2, 0, .null),
  (2, .iconst 0, 3, 0, 0, 0, .int 0),
  (3, .istore_n 3, 4, 0, 3, 0, .null),
  (4, .iload_n 3, 5, 0, 3, 0, .null),
  (5, .bipush 24, 7, 0, 0, 0, .int 24),
  (7, .if_icmp .ge 41, 10, 0, 48, 0, .null),
  (10, .iload_n 1, 11, 0, 1, 0, .null),
  (11, .iload_n 3, 12, 0, 3, 0, .null),
  (12, .invokestatic 85, 15, 0, 0, 0, .null),
  (15, .ifCond .eq 27, 18, 0, 42, 0, .null),
  (18, .aload_n 0, 19, 0, 0, 0, .null),
  (19, .getfield 18, 22, 101, 3, 9, .null),
  (22, .iload_n 3, 23, 0, 3, 0, .null),
  (23, .iaload, 24, 0, 0, 0, .null),
  (24, .aload_n 0, 25, 0, 0, 0, .null),
  (25, .getfield 39, 28, 108, 3, 15, .null),
  (28, .iload_n 3, 29, 0, 3, 0, .null),
  (29, .iload_n 1, 30, 0, 1, 0, .null),
  (30, .invokevirtual 148, 33, 0, 0, 0, .null),
  (33, .if_icmp .le 9, 36, 0, 42, 0, .null),
  (36, .iload_n 2, 37, 0, 2, 0, .null),
  (37, .iconst 1, 38, 0, 0, 0, .int 1),
  (38, .iload_n 3, 39, 0, 3, 0, .null),
  (39, .ishl, 40, 0, 0, 0, .null),
  (40, .ior, 41, 0, 0, 0, .null),
  (41, .istore_n 2, 42, 0, 2, 0, .null),
  (42, .iinc 3 1, 45, 0, 3, 0, .int 1),
  (45, .goto (-41), 48, 0, 4, 0, .null),
  (48, .iload_n 2, 49, 0, 2, 0, .null),
  (49, .ireturn, 50, 0, 0, 0, .null)]
def mm_X3_withRest : ev_M := (RX3, "withRest", cX3_withRest, 4, (some .int), tb_X3_withRest, 2, 45, 0, 0)
set_option maxRecDepth 100000 in
theorem ok_X3_withRest : ev_OK mm_X3_withRest := by unfold ev_OK; decide +kernel
theorem cv_X3_withRest : ev_CV yX3_withRest mm_X3_withRest 3 1 := ⟨ev_has_in (k := 450) (by decide +kernel), ev_has_in (k := 24) (by decide +kernel), ev_has_in (k := 449) (by decide +kernel), ev_has_in (k := 9) (by decide +kernel), ⟨by decide +kernel, by decide +kernel, by decide +kernel⟩, rfl, by decide⟩
def tb_X3_highestOf : ev_T := [(0, .iconst 0, 1, 0, 0, 0, .int 0),
  (1, .istore_n 2, 2, 0, 2, 0, .null),
  (2, .iconst (-1), 3, 0, 0, 0, .int (-1)),
  (3, .istore_n 3, 4, 0, 3, 0, .null),
  (4, .iconst 0, 5, 0, 0, 0, .int 0),
  (5, .istore 4, 7, 0, 4, 0, .null),
  (7, .iload 4, 9, 0, 4, 0, .null),
  (9, .bipush 24, 11, 0, 0, 0, .int 24),
  (11, .if_icmp .ge 40, 14, 0, 51, 0, .null),
  (14, .iload_n 1, 15, 0, 1, 0, .null),
  (15, .iload 4, 17, 0, 4, 0, .null),
  (17, .invokestatic 85, 20, 0, 0, 0, .null),
  (20, .ifCond .eq 25, 23, 0, 45, 0, .null),
  (23, .aload_n 0, 24, 0, 0, 0, .null),
  (24, .getfield 15, 27, 100, 3, 8, .null),
  (27, .iload 4, 29, 0, 4, 0, .null),
  (29, .iaload, 30, 0, 0, 0, .null),
  (30, .iload_n 3, 31, 0, 3, 0, .null),
  (31, .if_icmp .le 14, 34, 0, 45, 0, .null),
  (34, .iload 4, 36, 0, 4, 0, .null),
  (36, .istore_n 2, 37, 0, 2, 0, .null),
  (37, .aload_n 0, 38, 0, 0, 0, .null),
  (38, .getfield 15, 41, 100, 3, 8, .null),
  (41, .iload 4, 43, 0, 4, 0, .null),
  (43, .iaload, 44, 0, 0, 0, .null),
  (44, .istore_n 3, 45, 0, 3, 0, .null),
  (45, .iinc 4 1, 48, 0, 4, 0, .int 1),
  (48, .goto (-41), 51, 0, 7, 0, .null),
  (51, .iload_n 2, 52, 0, 2, 0, .null),
  (52, .ireturn, 53, 0, 0, 0, .null)]
def mm_X3_highestOf : ev_M := (RX3, "highestOf", cX3_highestOf, 5, (some .int), tb_X3_highestOf, 1, 21, 0, 0)
set_option maxRecDepth 100000 in
theorem ok_X3_highestOf : ev_OK mm_X3_highestOf := by unfold ev_OK; decide +kernel
theorem cv_X3_highestOf : ev_CV yX3_highestOf mm_X3_highestOf 3 1 := ⟨ev_has_in (k := 459) (by decide +kernel), ev_has_in (k := 24) (by decide +kernel), ev_has_in (k := 458) (by decide +kernel), ev_has_in (k := 10) (by decide +kernel), ⟨by decide +kernel, by decide +kernel, by decide +kernel⟩, rfl, by decide⟩
def tb_X3_hearDue : ev_T := [(0, .iconst 0, 1, 0, 0, 0, .int 0),
  (1, .istore_n 1, 2, 0, 1, 0, .null),
  (2, .iload_n 1, 3, 0, 1, 0, .null),
  (3, .sipush 1200, 6, 0, 0, 0, .int 1200),
  (6, .if_icmp .ge 89, 9, 0, 95, 0, .null),
  (9, .aload_n 0, 10, 0, 0, 0, .null),
  (10, .getfield 46, 13, 110, 3, 16, .null),
  (13, .aload_n 0, 14, 0, 0, 0, .null),
  (14, .getfield 50, 17, 85, 3, 0, .null),
  (17, .invokevirtual 151, 20, 0, 0, 0, .null),
  (20, .ifCond .eq 75, 23, 0, 95, 0, .null),
  (23, .aload_n 0, 24, 0, 0, 0, .null),
  (24, .getfield 46, 27, 110, 3, 16, .null),
  (27, .iconst 0, 28, 0, 0, 0, .int 0),
  (28, .iconst 1, 29, 0, 0, 0, .int 1),
  (29, .invokevirtual 154, 32, 0, 0, 0, .null),
  (32, .istore_n 2, 33, 0, 2, 0, .null),
  (33, .aload_n 0, 34, 0, 0, 0, .null),
  (34, .getfield 46, 37, 110, 3, 16, .null),
  (37, .iconst 0, 38, 0, 0, 0, .int 0),
  (38, .iconst 2, 39, 0, 0, 0, .int 2),
  (39, .invokevirtual 154, 42, 0, 0, 0, .null),
  (42, .istore_n 3, 43, 0, 3, 0, .null),
  (43, .aload_n 0, 44, 0, 0, 0, .null),
  (44, .getfield 46, 47, 110, 3, 16, .null),
  (47, .invokevirtual 157, 50, 0, 0, 0, .null),
  (50, .aload_n 0, 51, 0, 0, 0, .null),
  (51, .iload_n 2, 52, 0, 2, 0, .null),
  (52, .invokevirtual 89, 55, 0, 0, 0, .null),
  (55, .ifCond .eq 34, 58, 0, 89, 0, .null),
  (58, .aload_n 0, 59, 0, 0, 0, .null),
  (59, .getfield 18, 62, 101, 3, 9, .null),
  (62, .iload_n 2, 63, 0, 2, 0, .null),
  (63, .dup2, 64, 0, 0, 0, .null),
  (64, .iaload, 65, 0, 0, 0, .null),
  (65, .iload_n 3, 66, 0, 3, 0, .null),
  (66, .iadd, 67, 0, 0, 0, .null),
  (67, .iastore, 68, 0, 0, 0, .null),
  (68, .iload_n 3, 69, 0, 3, 0, .null),
  (69, .ifCond .ge 20, 72, 0, 89, 0, .null),
  (72, .aload_n 0, 73, 0, 0, 0, .null),
  (73, .iload_n 2, 74, 0, 2, 0, .null),
  (74, .invokevirtual 160, 77, 0, 0, 0, .null),
  (77, .ifCond .eq 12, 80, 0, 89, 0, .null),
  (80, .aload_n 0, 81, 0, 0, 0, .null),
  (81, .iload_n 2, 82, 0, 2, 0, .null),
  (82, .iconst 1, 83, 0, 0, 0, .int 1),
  (83, .iload_n 2, 84, 0, 2, 0, .null),
  (84, .ishl, 85, 0, 0, 0, .null),
  (85, .iconst 1, 86, 0, 0, 0, .int 1),
  (86, .invokevirtual 144, 89, 0, 0, 0, .null),
  (89, .iinc 1 1, 92, 0, 1, 0, .int 1),
  (92, .goto (-90), 95, 0, 2, 0, .null),
  (95, .return_, 96, 0, 0, 0, .null)]
def mm_X3_hearDue : ev_M := (RX3, "hearDue", cX3_hearDue, 4, none, tb_X3_hearDue, 3, 113, 0, 0)
set_option maxRecDepth 100000 in
theorem ok_X3_hearDue : ev_OK mm_X3_hearDue := by unfold ev_OK; decide +kernel
theorem cv_X3_hearDue : ev_CV yX3_hearDue mm_X3_hearDue 3 0 := ⟨ev_has_in (k := 363) (by decide +kernel), ev_has_in (k := 24) (by decide +kernel), ev_has_in (k := 362) (by decide +kernel), ev_has_in (k := 3) (by decide +kernel), ⟨by decide +kernel, by decide +kernel, by decide +kernel⟩, rfl, by decide⟩
def tb_X3_mustEnd : ev_T := [(0, .aload_n 0, 1, 0, 0, 0, .null),
  (1, .getfield 18, 4, 101, 3, 9, .null),
  (4, .iload_n 1, 5, 0, 1, 0, .null),
  (5, .iaload, 6, 0, 0, 0, .null),
  (6, .ifCond .le 17, 9, 0, 23, 0, .null),
  (9, .aload_n 0, 10, 0, 0, 0, .null),
  (10, .dup, 11, 0, 0, 0, .null),
  (11, .getfield 60, 14, 91, 3, 3, .null),
  (14, .iconst 1, 15, 0, 0, 0, .int 1),
  (15, .iload_n 1, 16, 0, 1, 0, .null),
  (16, .ishl, 17, 0, 0, 0, .null),
  (17, .ior, 18, 0, 0, 0, .null),
  (18, .putfield 60, 21, 91, 3, 3, .null),
  (21, .iconst 0, 22, 0, 0, 0, .int 0),
  (22, .ireturn, 23, 0, 0, 0, .null),
  (23, .aload_n 0, 24, 0, 0, 0, .null),
  (24, .getfield 46, 27, 110, 3, 16, .null),
  (27, .iconst 1, 28, 0, 0, 0, .int 1),
  (28, .iload_n 1, 29, 0, 1, 0, .null),
  (29, .ishl, 30, 0, 0, 0, .null),
  (30, .invokevirtual 131, 33, 0, 0, 0, .null),
  (33, .ifCond .eq 5, 36, 0, 38, 0, .null),
  (36, .iconst 0, 37, 0, 0, 0, .int 0),
  (37, .ireturn, 38, 0, 0, 0, .null),
  (38, .aload_n 0, 39, 0, 0, 0, .null),
  (39, .getfield 9, 42, 98, 3, 7, .null),
  (42, .iconst 3, 43, 0, 0, 0, .int 3),
  (43, .iaload, 44, 0, 0, 0, .null),
  (44, .ifCond .ne 7, 47, 0, 51, 0, .null),
  (47, .iconst 0, 48, 0, 0, 0, .int 0),
  (48, .goto 11, 51, 0, 59, 0, .null),
  (51, .aload_n 0, 52, 0, 0, 0, .null),
  (52, .getfield 39, 55, 108, 3, 15, .null),
  (55, .iload_n 1, 56, 0, 1, 0, .null),
  (56, .invokevirtual 114, 59, 0, 0, 0, .null),
  (59, .istore_n 2, 60, 0, 2, 0, .null),
  (60, .iload_n 2, 61, 0, 2, 0, .null),
  (61, .ifCond .ne 5, 64, 0, 66, 0, .null),
  (64, .iconst 1, 65, 0, 0, 0, .int 1),
  (65, .ireturn, 66, 0, 0, 0, .null),
  (66, .aload_n 0, 67, 0, 0, 0, .null),
  (67, .getfield 18, 70, 101, 3, 9, .null),
  (70, .iload_n 1, 71, 0, 1, 0, .null),
  (71, .iload_n 2, 72, 0, 2, 0, .null),
  (72, .iastore, 73, 0, 0, 0, .null),
  (73, .aload_n 0, 74, 0, 0, 0, .null),
  (74, .dup, 75, 0, 0, 0, .null),
  (75, .getfield 69, 78, 97, 3, 6, .null),
  (78, .iconst 1, 79, 0, 0, 0, .int 1),
  (79, .iadd, 80, 0, 0, 0, .null),
  (80, .putfield 69, 83, 97, 3, 6, .null),
  (83, .iconst 0, 84, 0, 0, 0, .int 0),
  (84, .ireturn, 85, 0, 0, 0, .null)]
def mm_X3_mustEnd : ev_M := (RX3, "mustEnd", cX3_mustEnd, 3, (some .boolean), tb_X3_mustEnd, 2, 43, 0, 0)
set_option maxRecDepth 100000 in
theorem ok_X3_mustEnd : ev_OK mm_X3_mustEnd := by unfold ev_OK; decide +kernel
theorem cv_X3_mustEnd : ev_CV yX3_mustEnd mm_X3_mustEnd 3 1 := ⟨ev_has_in (k := 381) (by decide +kernel), ev_has_in (k := 24) (by decide +kernel), ev_has_in (k := 380) (by decide +kernel), ev_has_in (k := 4) (by decide +kernel), ⟨by decide +kernel, by decide +kernel, by decide +kernel⟩, rfl, by decide⟩
def tb_X3_endThing : ev_T := [(0, .aload_n 0, 1, 0, 0, 0, .null),
  (1, .iload_n 1, 2, 0, 1, 0, .null),
  (2, .invokevirtual 89, 5, 0, 0, 0, .null),
  (5, .ifCond .eq 19, 8, 0, 24, 0, .null),
  (8, .aload_n 0, 9, 0, 0, 0, .null),
  (9, .getfield 66, 12, 95, 3, 5, .null),
  (12, .ifCond .lt 12, 15, 0, 24, 0, .null),
  (15, .aload_n 0, 16, 0, 0, 0, .null),
  (16, .getfield 66, 19, 95, 3, 5, .null),
  (19, .bipush 24, 21, 0, 0, 0, .int 24),
  (21, .if_icmp .lt 4, 24, 0, 25, 0, .null),
  (24, .return_, 25, 0, 0, 0, .null),
  (25, .aload_n 0, 26, 0, 0, 0, .null),
  (26, .dup, 27, 0, 0, 0, .null),
  (27, .getfield 57, 30, 89, 3, 2, .null),
  (30, .iconst 1, 31, 0, 0, 0, .int 1),
  (31, .iload_n 1, 32, 0, 1, 0, .null),
  (32, .ishl, 33, 0, 0, 0, .null),
  (33, .iconst (-1), 34, 0, 0, 0, .int (-1)),
  (34, .ixor, 35, 0, 0, 0, .null),
  (35, .iand, 36, 0, 0, 0, .null),
  (36, .putfield 57, 39, 89, 3, 2, .null),
  (39, .aload_n 0, 40, 0, 0, 0, .null),
  (40, .dup, 41, 0, 0, 0, .null),
  (41, .getfield 60, 44, 91, 3, 3, .null),
  (44, .iconst 1, 45, 0, 0, 0, .int 1),
  (45, .iload_n 1, 46, 0, 1, 0, .null),
  (46, .ishl, 47, 0, 0, 0, .null),
  (47, .iconst (-1), 48, 0, 0, 0, .int (-1)),
  (48, .ixor, 49, 0, 0, 0, .null),
  (49, .iand, 50, 0, 0, 0, .null),
  (50, .putfield 60, 53, 91, 3, 3, .null),
  (53, .aload_n 0, 54, 0, 0, 0, .null),
  (54, .getfield 24, 57, 103, 3, 11, .null),
  (57, .iload_n 1, 58, 0, 1, 0, .null),
  (58, .aload_n 0, 59, 0, 0, 0, .null),
  (59, .getfield 66, 62, 95, 3, 5, .null),
  (62, .iastore, 63, 0, 0, 0, .null),
  (63, .aload_n 0, 64, 0, 0, 0, .null),
  (64, .getfield 27, 67, 104, 3, 12, .null),
  (67, .iload_n 1, 68, 0, 1, 0, .null),
  (68, .aload_n 0, 69, 0, 0, 0, .null),
  (69, .getfield 50, 72, 85, 3, 0, .null),
  (72, .iastore, 73, 0, 0, 0, .null),
  (73, .aload_n 0, 74, 0, 0, 0, .null),
  (74, .getfield 30, 77, 106, 3, 13, .null),
  (77, .iload_n 1, 78, 0, 1, 0, .null),
  (78, .iload_n 3, 79, 0, 3, 0, .null),
  (79, .iastore, 80, 0, 0, 0, .null),
  (80, .aload_n 0, 81, 0, 0, 0, .null),
  (81, .getfield 33, 84, 107, 3, 14, .null),
  (84, .aload_n 0, 85, 0, 0, 0, .null),
  (85, .getfield 66, 88, 95, 3, 5, .null),
  (88, .iload_n 1, 89, 0, 1, 0, .null),
  (89, .iastore, 90, 0, 0, 0, .null),
  (90, .aload_n 0, 91, 0, 0, 0, .null),
  (91, .dup, 92, 0, 0, 0, .null),
  (92, .getfield 66, 95, 95, 3, 5, .null),
  (95, .iconst 1, 96, 0, 0, 0, .int 1),
  (96, .iadd, 97, 0, 0, 0, .null),
  (97, .putfield 66, 100, 95, 3, 5, .null),
  (100, .iconst 0, 101, 0, 0, 0, .int 0),
  (101, .istore 4, 103, 0, 4, 0, .null),
  (103, .iload 4, 105, 0, 4, 0, .null),
  (105, .iconst 4, 106, 0, 0, 0, .int 4),
  (106, .if_icmp .ge 71, 109, 0, 177, 0, .null),
  (109, .iload_n 1, 110, 0, 1, 0, .null),
  (110, .iload 4, 112, 0, 4, 0, .null),
  (112, .invokestatic 163, 115, 0, 0, 0, .null),
  (115, .istore 5, 117, 0, 5, 0, .null),
  (117, .aload_n 0, 118, 0, 0, 0, .null),
  (118, .getfield 39, 121, 108, 3, 15, .null),
  (121, .iload 5, 123, 0, 5, 0, .null),
  (123, .invokevirtual 93, 126, 0, 0, 0, .null),
  (126, .istore 6, 128, 0, 6, 0, .null),
  (128, .aload_n 0, 129, 0, 0, 0, .null),
  (129, .getfield 39, 132, 108, 3, 15, .null),
  (132, .iload 5, 134, 0, 5, 0, .null),
  (134, .iconst (-1), 135, 0, 0, 0, .int (-1)),
  (135, .invokevirtual 97, 138, 0, 0, 0, .null),
  (138, .iload 6, 140, 0, 6, 0, .null),
  (140, .iconst (-1), 141, 0, 0, 0, .int (-1)),
  (141, .if_icmp .eq 30, 144, 0, 171, 0, .null),
  (144, .iload_n 2, 145, 0, 2, 0, .null),
  (145, .iload 6, 147, 0, 6, 0, .null),
  (147, .invokestatic 85, 150, 0, 0, 0, .null),
  (150, .ifCond .ne 21, 153, 0, 171, 0, .null),
  (153, .aload_n 0, 154, 0, 0, 0, .null),
  (154, .getfield 46, 157, 110, 3, 16, .null),
  (157, .iload 6, 159, 0, 6, 0, .null),
  (159, .iconst (-1), 160, 0, 0, 0, .int (-1)),
  (160, .aload_n 0, 161, 0, 0, 0, .null),
  (161, .iload 6, 163, 0, 6, 0, .null),
  (163, .invokevirtual 101, 166, 0, 0, 0, .null),
  (166, .iconst 0, 167, 0, 0, 0, .int 0),
  (167, .invokevirtual 104, 170, 0, 0, 0, .null),
  (170, .pop, 171, 0, 0, 0, .null),
  (171, .iinc 4 1, 174, 0, 4, 0, .int 1),
  (174, .goto (-71), 177, 0, 103, 0, .null),
  (177, .aload_n 0, 178, 0, 0, 0, .null),
  (178, .getfield 39, 181, 108, 3, 15, .null),
  (181, .iload_n 1, 182, 0, 1, 0, .null),
  (182, .iload_n 2, 183, 0, 2, 0, .null),
  (183, .invokevirtual 166, 186, 0, 0, 0, .null),
  (186, .ifCond .eq 15, 189, 0, 201, 0, .null),
  (189, .aload_n 0, 190, 0, 0, 0, .null),
  (190, .dup, 191, 0, 0, 0, .null),
  (191, .getfield 63, 194, 93, 3, 4, .null),
  (194, .iconst 1, 195, 0, 0, 0, .int 1),
  (195, .iload_n 1, 196, 0, 1, 0, .null),
  (196, .ishl, 197, 0, 0, 0, .null),
  (197, .ior, 198, 0, 0, 0, .null),
  (198, .putfield 63, 201, 93, 3, 4, .null),
  (201, .return_, 202, 0, 0, 0, .null)]
def mm_X3_endThing : ev_M := (RX3, "endThing", cX3_endThing, 7, none, tb_X3_endThing, 2, 87, 0, 0)
set_option maxRecDepth 100000 in
theorem ok_X3_endThing : ev_OK mm_X3_endThing := by unfold ev_OK; decide +kernel
theorem cv_X3_endThing : ev_CV yX3_endThing mm_X3_endThing 3 3 := ⟨ev_has_in (k := 394) (by decide +kernel), ev_has_in (k := 24) (by decide +kernel), ev_has_in (k := 393) (by decide +kernel), ev_has_in (k := 5) (by decide +kernel), ⟨by decide +kernel, by decide +kernel, by decide +kernel⟩, rfl, by decide⟩
def tb_X3_dueTime : ev_T := [(0, .aload_n 0, 1, 0, 0, 0, .null),
  (1, .getfield 50, 4, 85, 3, 0, .null),
  (4, .aload_n 0, 5, 0, 0, 0, .null),
  (5, .getfield 9, 8, 98, 3, 7, .null),
  (8, .iload_n 1, 9, 0, 1, 0, .null),
  (9, .iconst 3, 10, 0, 0, 0, .int 3),
  (10, .invokestatic 169, 13, 0, 0, 0, .null),
  (13, .iaload, 14, 0, 0, 0, .null),
  (14, .iadd, 15, 0, 0, 0, .null),
  (15, .ireturn, 16, 0, 0, 0, .null)]
def mm_X3_dueTime : ev_M := (RX3, "dueTime", cX3_dueTime, 2, (some .int), tb_X3_dueTime, 1, 22, 0, 0)
set_option maxRecDepth 100000 in
theorem ok_X3_dueTime : ev_OK mm_X3_dueTime := by unfold ev_OK; decide +kernel
theorem cv_X3_dueTime : ev_CV yX3_dueTime mm_X3_dueTime 3 1 := ⟨ev_has_in (k := 409) (by decide +kernel), ev_has_in (k := 24) (by decide +kernel), ev_has_in (k := 408) (by decide +kernel), ev_has_in (k := 6) (by decide +kernel), ⟨by decide +kernel, by decide +kernel, by decide +kernel⟩, rfl, by decide⟩
def tb_X3_isWrong : ev_T := [(0, .aload_n 0, 1, 0, 0, 0, .null),
  (1, .getfield 18, 4, 101, 3, 9, .null),
  (4, .iload_n 1, 5, 0, 1, 0, .null),
  (5, .iaload, 6, 0, 0, 0, .null),
  (6, .aload_n 0, 7, 0, 0, 0, .null),
  (7, .getfield 46, 10, 110, 3, 16, .null),
  (10, .iload_n 1, 11, 0, 1, 0, .null),
  (11, .invokevirtual 117, 14, 0, 0, 0, .null),
  (14, .iadd, 15, 0, 0, 0, .null),
  (15, .aload_n 0, 16, 0, 0, 0, .null),
  (16, .getfield 39, 19, 108, 3, 15, .null),
  (19, .iload_n 1, 20, 0, 1, 0, .null),
  (20, .invokevirtual 114, 23, 0, 0, 0, .null),
  (23, .if_icmp .eq 7, 26, 0, 30, 0, .null),
  (26, .iconst 1, 27, 0, 0, 0, .int 1),
  (27, .goto 4, 30, 0, 31, 0, .null),
  (30, .iconst 0, 31, 0, 0, 0, .int 0),
  (31, .ireturn, 32, 0, 0, 0, .null)]
def mm_X3_isWrong : ev_M := (RX3, "isWrong", cX3_isWrong, 2, (some .boolean), tb_X3_isWrong, 1, 23, 0, 0)
set_option maxRecDepth 100000 in
theorem ok_X3_isWrong : ev_OK mm_X3_isWrong := by unfold ev_OK; decide +kernel
theorem cv_X3_isWrong : ev_CV yX3_isWrong mm_X3_isWrong 3 1 := ⟨ev_has_in (k := 630) (by decide +kernel), ev_has_in (k := 24) (by decide +kernel), ev_has_in (k := 629) (by decide +kernel), ev_has_in (k := 15) (by decide +kernel), ⟨by decide +kernel, by decide +kernel, by decide +kernel⟩, rfl, by decide⟩
def tb_X3_property : ev_T := [(0, .iload_n 1, 1, 0, 1, 0, .null),
  (1, .ifCond .lt 9, 4, 0, 10, 0, .null),
  (4, .iload_n 1, 5, 0, 1, 0, .null),
  (5, .bipush 24, 7, 0, 0, 0, .int 24),
  (7, .if_icmp .lt 5, 10, 0, 12, 0, .null),
  (10, .iconst 0, 11, 0, 0, 0, .int 0),
  (11, .ireturn, 12, 0, 0, 0, .null),
  (12, .iload_n 2, 13, 0, 2, 0, .null),
  (13, .tableswitch 162 0 11 #[63, 72, 79, 86, 95, 104, 113, 122, 134, 141, 148, 155], 76, 0, 63, 13, .null),
  (76, .aload_n 0, 77, 0, 0, 0, .null),
  (77, .getfield 57, 80, 89, 3, 2, .null),
  (80, .iload_n 1, 81, 0, 1, 0, .null),
  (81, .ishr, 82, 0, 0, 0, .null),
  (82, .iconst 1, 83, 0, 0, 0, .int 1),
  (83, .iand, 84, 0, 0, 0, .null),
  (84, .ireturn, 85, 0, 0, 0, .null),
  (85, .aload_n 0, 86, 0, 0, 0, .null),
  (86, .getfield 15, 89, 100, 3, 8, .null),
  (89, .iload_n 1, 90, 0, 1, 0, .null),
  (90, .iaload, 91, 0, 0, 0, .null),
  (91, .ireturn, 92, 0, 0, 0, .null),
  (92, .aload_n 0, 93, 0, 0, 0, .null),
  (93, .getfield 18, 96, 101, 3, 9, .null),
  (96, .iload_n 1, 97, 0, 1, 0, .null),
  (97, .iaload, 98, 0, 0, 0, .null),
  (98, .ireturn, 99, 0, 0, 0, .null),
  (99, .aload_n 0, 100, 0, 0, 0, .null),
  (100, .getfield 39, 103, 108, 3, 15, .null),
  (103, .iload_n 1, 104, 0, 1, 0, .null),
  (104, .invokevirtual 114, 107, 0, 0, 0, .null),
  (107, .ireturn, 108, 0, 0, 0, .null),
  (108, .aload_n 0, 109, 0, 0, 0, .null),
  (109, .getfield 46, 112, 110, 3, 16, .null),
  (112, .iload_n 1, 113, 0, 1, 0, .null),
  (113, .invokevirtual 174, 116, 0, 0, 0, .null),
  (116, .ireturn, 117, 0, 0, 0, .null),
  (117, .aload_n 0, 118, 0, 0, 0, .null),
  (118, .getfield 46, 121, 110, 3, 16, .null),
  (121, .iload_n 1, 122, 0, 1, 0, .null),
  (122, .invokevirtual 117, 125, 0, 0, 0, .null),
  (125, .ireturn, 126, 0, 0, 0, .null),
  (126, .aload_n 0, 127, 0, 0, 0, .null),
  (127, .getfield 60, 130, 91, 3, 3, .null),
  (130, .iload_n 1, 131, 0, 1, 0, .null),
  (131, .ishr, 132, 0, 0, 0, .null),
  (132, .iconst 1, 133, 0, 0, 0, .int 1),
  (133, .iand, 134, 0, 0, 0, .null),
  (134, .ireturn, 135, 0, 0, 0, .null),
  (135, .aload_n 0, 136, 0, 0, 0, .null),
  (136, .getfield 39, 139, 108, 3, 15, .null),
  (139, .invokevirtual 177, 142, 0, 0, 0, .null),
  (142, .iload_n 1, 143, 0, 1, 0, .null),
  (143, .ishr, 144, 0, 0, 0, .null),
  (144, .iconst 1, 145, 0, 0, 0, .int 1),
  (145, .iand, 146, 0, 0, 0, .null),
  (146, .ireturn, 147, 0, 0, 0, .null),
  (147, .aload_n 0, 148, 0, 0, 0, .null),
  (148, .getfield 21, 151, 102, 3, 10, .null),
  (151, .iload_n 1, 152, 0, 1, 0, .null),
  (152, .iaload, 153, 0, 0, 0, .null),
  (153, .ireturn, 154, 0, 0, 0, .null),
  (154, .aload_n 0, 155, 0, 0, 0, .null),
  (155, .getfield 24, 158, 103, 3, 11, .null),
  (158, .iload_n 1, 159, 0, 1, 0, .null),
  (159, .iaload, 160, 0, 0, 0, .null),
  (160, .ireturn, 161, 0, 0, 0, .null),
  (161, .aload_n 0, 162, 0, 0, 0, .null),
  (162, .getfield 27, 165, 104, 3, 12, .null),
  (165, .iload_n 1, 166, 0, 1, 0, .null),
  (166, .iaload, 167, 0, 0, 0, .null),
  (167, .ireturn, 168, 0, 0, 0, .null),
  (168, .aload_n 0, 169, 0, 0, 0, .null),
  (169, .getfield 30, 172, 106, 3, 13, .null),
  (172, .iload_n 1, 173, 0, 1, 0, .null),
  (173, .iaload, 174, 0, 0, 0, .null),
  (174, .ireturn, 175, 0, 0, 0, .null),
  (175, .aload_n 0, 176, 0, 0, 0, .null),
  (176, .getfield 63, 179, 93, 3, 4, .null),
  (179, .iload_n 1, 180, 0, 1, 0, .null),
  (180, .ishr, 181, 0, 0, 0, .null),
  (181, .iconst 1, 182, 0, 0, 0, .int 1),
  (182, .iand, 183, 0, 0, 0, .null),
  (183, .ireturn, 184, 0, 0, 0, .null)]
def mm_X3_property : ev_M := (RX3, "property", cX3_property, 3, (some .int), tb_X3_property, 4, 93, 0, 0)
set_option maxRecDepth 100000 in
theorem ok_X3_property : ev_OK mm_X3_property := by unfold ev_OK; decide +kernel
theorem cv_X3_property : ev_CV yX3_property mm_X3_property 3 2 := ⟨ev_has_in (k := 554) (by decide +kernel), ev_has_in (k := 24) (by decide +kernel), ev_has_in (k := 552) (by decide +kernel), ev_has_in (k := 553) (by decide +kernel), ⟨by decide +kernel, by decide +kernel, by decide +kernel⟩, rfl, by decide⟩
def tb_X3_total : ev_T := [(0, .iload_n 1, 1, 0, 1, 0, .null),
  (1, .tableswitch 147 0 11 #[63, 68, 73, 81, 92, 100, 108, 116, 121, 126, 134, 139], 64, 0, 63, 1, .null),
  (64, .aload_n 0, 65, 0, 0, 0, .null),
  (65, .getfield 50, 68, 85, 3, 0, .null),
  (68, .ireturn, 69, 0, 0, 0, .null),
  (69, .aload_n 0, 70, 0, 0, 0, .null),
  (70, .getfield 54, 73, 87, 3, 1, .null),
  (73, .ireturn, 74, 0, 0, 0, .null),
  (74, .aload_n 0, 75, 0, 0, 0, .null),
  (75, .getfield 57, 78, 89, 3, 2, .null),
  (78, .invokestatic 180, 81, 0, 0, 0, .null),
  (81, .ireturn, 82, 0, 0, 0, .null),
  (82, .aload_n 0, 83, 0, 0, 0, .null),
  (83, .getfield 39, 86, 108, 3, 15, .null),
  (86, .invokevirtual 177, 89, 0, 0, 0, .null),
  (89, .invokestatic 180, 92, 0, 0, 0, .null),
  (92, .ireturn, 93, 0, 0, 0, .null),
  (93, .aload_n 0, 94, 0, 0, 0, .null),
  (94, .getfield 60, 97, 91, 3, 3, .null),
  (97, .invokestatic 180, 100, 0, 0, 0, .null),
  (100, .ireturn, 101, 0, 0, 0, .null),
  (101, .aload_n 0, 102, 0, 0, 0, .null),
  (102, .getfield 46, 105, 110, 3, 16, .null),
  (105, .invokevirtual 185, 108, 0, 0, 0, .null),
  (108, .ireturn, 109, 0, 0, 0, .null),
  (109, .aload_n 0, 110, 0, 0, 0, .null),
  (110, .getfield 46, 113, 110, 3, 16, .null),
  (113, .getfield 188, 116, 70, 1, 1, .null),
  (116, .ireturn, 117, 0, 0, 0, .null),
  (117, .aload_n 0, 118, 0, 0, 0, .null),
  (118, .getfield 66, 121, 95, 3, 5, .null),
  (121, .ireturn, 122, 0, 0, 0, .null),
  (122, .aload_n 0, 123, 0, 0, 0, .null),
  (123, .invokevirtual 191, 126, 0, 0, 0, .null),
  (126, .ireturn, 127, 0, 0, 0, .null),
  (127, .aload_n 0, 128, 0, 0, 0, .null),
  (128, .getfield 63, 131, 93, 3, 4, .null),
  (131, .invokestatic 180, 134, 0, 0, 0, .null),
  (134, .ireturn, 135, 0, 0, 0, .null),
  (135, .aload_n 0, 136, 0, 0, 0, .null),
  (136, .getfield 69, 139, 97, 3, 6, .null),
  (139, .ireturn, 140, 0, 0, 0, .null),
  (140, .aload_n 0, 141, 0, 0, 0, .null),
  (141, .getfield 39, 144, 108, 3, 15, .null),
  (144, .invokevirtual 194, 147, 0, 0, 0, .null),
  (147, .ireturn, 148, 0, 0, 0, .null),
  (148, .aload_n 0, 149, 0, 0, 0, .null),
  (149, .invokevirtual 197, 152, 0, 0, 0, .null),
  (152, .ireturn, 153, 0, 0, 0, .null)]
def mm_X3_total : ev_M := (RX3, "total", cX3_total, 2, (some .int), tb_X3_total, 4, 93, 0, 0)
set_option maxRecDepth 100000 in
theorem ok_X3_total : ev_OK mm_X3_total := by unfold ev_OK; decide +kernel
theorem cv_X3_total : ev_CV yX3_total mm_X3_total 3 1 := ⟨ev_has_in (k := 612) (by decide +kernel), ev_has_in (k := 24) (by decide +kernel), ev_has_in (k := 610) (by decide +kernel), ev_has_in (k := 611) (by decide +kernel), ⟨by decide +kernel, by decide +kernel, by decide +kernel⟩, rfl, by decide⟩
def tb_X3_endsInTrials : ev_T := [(0, .iconst 0, 1, 0, 0, 0, .int 0),
  (1, .istore_n 1, 2, 0, 1, 0, .null),
  (2, .iconst 0, 3, 0, 0, 0, .int 0),
  (3, .istore_n 2, 4, 0, 2, 0, .null),
  (4, .iload_n 2, 5, 0, 2, 0, .null),
  (5, .aload_n 0, 6, 0, 0, 0, .null),
  (6, .getfield 54, 9, 87, 3, 1, .null),
  (9, .if_icmp .ge 28, 12, 0, 37, 0, .null),
  (12, .iload_n 2, 13, 0, 2, 0, .null),
  (13, .bipush 24, 15, 0, 0, 0, .int 24),
  (15, .if_icmp .ge 22, 18, 0, 37, 0, .null),
  (18, .aload_n 0, 19, 0, 0, 0, .null),
  (19, .getfield 30, 22, 106, 3, 13, .null),
  (22, .iload_n 2, 23, 0, 2, 0, .null),
  (23, .iaload, 24, 0, 0, 0, .null),
  (24, .iconst 2, 25, 0, 0, 0, .int 2),
  (25, .if_icmp .ne 6, 28, 0, 31, 0, .null),
  (28, .iinc 1 1, 31, 0, 1, 0, .int 1),
  (31, .iinc 2 1, 34, 0, 2, 0, .int 1),
  (34, .goto (-30), 37, 0, 4, 0, .null),
  (37, .iload_n 1, 38, 0, 1, 0, .null),
  (38, .ireturn, 39, 0, 0, 0, .null)]
def mm_X3_endsInTrials : ev_M := (RX3, "endsInTrials", cX3_endsInTrials, 3, (some .int), tb_X3_endsInTrials, 0, 0, 0, 0)
set_option maxRecDepth 100000 in
theorem ok_X3_endsInTrials : ev_OK mm_X3_endsInTrials := by unfold ev_OK; decide +kernel
theorem cv_X3_endsInTrials : ev_CV yX3_endsInTrials mm_X3_endsInTrials 3 0 := ⟨ev_has_in (k := 618) (by decide +kernel), ev_has_in (k := 24) (by decide +kernel), ev_has_in (k := 617) (by decide +kernel), ev_has_in (k := 13) (by decide +kernel), ⟨by decide +kernel, by decide +kernel, by decide +kernel⟩, rfl, by decide⟩
def tb_X3_wrongCounts : ev_T := [(0, .iconst 0, 1, 0, 0, 0, .int 0),
  (1, .istore_n 1, 2, 0, 1, 0, .null),
  (2, .iconst 0, 3, 0, 0, 0, .int 0),
  (3, .istore_n 2, 4, 0, 2, 0, .null),
  (4, .iload_n 2, 5, 0, 2, 0, .null),
  (5, .bipush 24, 7, 0, 0, 0, .int 24),
  (7, .if_icmp .ge 28, 10, 0, 35, 0, .null),
  (10, .aload_n 0, 11, 0, 0, 0, .null),
  (11, .iload_n 2, 12, 0, 2, 0, .null),
  (12, .invokevirtual 89, 15, 0, 0, 0, .null),
  (15, .ifCond .eq 14, 18, 0, 29, 0, .null),
  (18, .aload_n 0, 19, 0, 0, 0, .null),
  (19, .iload_n 2, 20, 0, 2, 0, .null),
  (20, .invokevirtual 111, 23, 0, 0, 0, .null),
  (23, .ifCond .eq 6, 26, 0, 29, 0, .null),
  (26, .iinc 1 1, 29, 0, 1, 0, .int 1),
  (29, .iinc 2 1, 32, 0, 2, 0, .int 1),
  (32, .goto (-28), 35, 0, 4, 0, .null),
  (35, .iload_n 1, 36, 0, 1, 0, .null),
  (36, .ireturn, 37, 0, 0, 0, .null)]
def mm_X3_wrongCounts : ev_M := (RX3, "wrongCounts", cX3_wrongCounts, 3, (some .int), tb_X3_wrongCounts, 2, 44, 0, 0)
set_option maxRecDepth 100000 in
theorem ok_X3_wrongCounts : ev_OK mm_X3_wrongCounts := by unfold ev_OK; decide +kernel
theorem cv_X3_wrongCounts : ev_CV yX3_wrongCounts mm_X3_wrongCounts 3 0 := ⟨ev_has_in (k := 626) (by decide +kernel), ev_has_in (k := 24) (by decide +kernel), ev_has_in (k := 625) (by decide +kernel), ev_has_in (k := 14) (by decide +kernel), ⟨by decide +kernel, by decide +kernel, by decide +kernel⟩, rfl, by decide⟩
theorem ml_X3_38 : ev_ml RX3 38 yX0_init := Or.inl (ev_has_in (k := 53) (by decide +kernel))
theorem ml_X3_45 : ev_ml RX3 45 yX1_init := Or.inl (ev_has_in (k := 64) (by decide +kernel))
theorem ml_X3_78 : ev_ml RX3 78 yX0_copyFrom := Or.inl (ev_has_in (k := 285) (by decide +kernel))
theorem ml_X3_82 : ev_ml RX3 82 yX1_copyFrom := Or.inl (ev_has_in (k := 290) (by decide +kernel))
theorem ml_X3_85 : ev_ml RX3 85 yX4_isIn := Or.inr ⟨"GossipCounts", ev_has_in (k := 327) (by decide +kernel)⟩
theorem ml_X3_89 : ev_ml RX3 89 yX3_lives := Or.inl (ev_has_in (k := 377) (by decide +kernel))
theorem ml_X3_93 : ev_ml RX3 93 yX0_at := Or.inl (ev_has_in (k := 398) (by decide +kernel))
theorem ml_X3_97 : ev_ml RX3 97 yX0_hold := Or.inl (ev_has_in (k := 402) (by decide +kernel))
theorem ml_X3_101 : ev_ml RX3 101 yX3_dueTime := Or.inl (ev_has_in (k := 406) (by decide +kernel))
theorem ml_X3_104 : ev_ml RX3 104 yX1_make := Or.inl (ev_has_in (k := 413) (by decide +kernel))
theorem ml_X3_108 : ev_ml RX3 108 yX3_hearDue := Or.inl (ev_has_in (k := 360) (by decide +kernel))
theorem ml_X3_120 : ev_ml RX3 120 yX3_holdTrial := Or.inl (ev_has_in (k := 422) (by decide +kernel))
theorem ml_X3_124 : ev_ml RX3 124 yX3_judge := Or.inl (ev_has_in (k := 426) (by decide +kernel))
theorem ml_X3_128 : ev_ml RX3 128 yX0_reachOf := Or.inl (ev_has_in (k := 430) (by decide +kernel))
theorem ml_X3_131 : ev_ml RX3 131 yX1_anyFor := Or.inl (ev_has_in (k := 382) (by decide +kernel))
theorem ml_X3_134 : ev_ml RX3 134 yX3_withRest := Or.inl (ev_has_in (k := 447) (by decide +kernel))
theorem ml_X3_137 : ev_ml RX3 137 yX0_reachedFrom := Or.inl (ev_has_in (k := 455) (by decide +kernel))
theorem ml_X3_141 : ev_ml RX3 141 yX3_highestOf := Or.inl (ev_has_in (k := 456) (by decide +kernel))
theorem ml_X3_144 : ev_ml RX3 144 yX3_endThing := Or.inl (ev_has_in (k := 391) (by decide +kernel))
theorem ml_X3_148 : ev_ml RX3 148 yX0_slotsThatHold := Or.inl (ev_has_in (k := 451) (by decide +kernel))
theorem ml_X3_151 : ev_ml RX3 151 yX1_anyDue := Or.inl (ev_has_in (k := 364) (by decide +kernel))
theorem ml_X3_154 : ev_ml RX3 154 yX1_part := Or.inl (ev_has_in (k := 372) (by decide +kernel))
theorem ml_X3_157 : ev_ml RX3 157 yX1_dropFirst := Or.inl (ev_has_in (k := 373) (by decide +kernel))
theorem ml_X3_160 : ev_ml RX3 160 yX3_mustEnd := Or.inl (ev_has_in (k := 378) (by decide +kernel))
theorem ml_X3_114 : ev_ml RX3 114 yX0_truthOf := Or.inl (ev_has_in (k := 387) (by decide +kernel))
theorem ml_X3_163 : ev_ml RX3 163 yX4_placeOf := Or.inr ⟨"GossipCounts", ev_has_in (k := 395) (by decide +kernel)⟩
theorem ml_X3_166 : ev_ml RX3 166 yX0_letGo := Or.inl (ev_has_in (k := 417) (by decide +kernel))
theorem ml_X3_169 : ev_ml RX3 169 yJ9_floorMod_7cf53 := Or.inl (ev_has_in (k := 410) (by decide +kernel))
theorem ml_X3_117 : ev_ml RX3 117 yX1_sumFor := Or.inl (ev_has_in (k := 559) (by decide +kernel))
theorem ml_X3_174 : ev_ml RX3 174 yX1_numberFor := Or.inl (ev_has_in (k := 555) (by decide +kernel))
theorem ml_X3_177 : ev_ml RX3 177 yX0_reached := Or.inl (ev_has_in (k := 563) (by decide +kernel))
theorem ml_X3_180 : ev_ml RX3 180 yJ6_bitCount_0f7a4 := Or.inl (ev_has_in (k := 613) (by decide +kernel))
theorem ml_X3_185 : ev_ml RX3 185 yX1_underWay := Or.inl (ev_has_in (k := 614) (by decide +kernel))
theorem ml_X3_191 : ev_ml RX3 191 yX3_endsInTrials := Or.inl (ev_has_in (k := 615) (by decide +kernel))
theorem ml_X3_194 : ev_ml RX3 194 yX0_taken := Or.inl (ev_has_in (k := 619) (by decide +kernel))
theorem ml_X3_197 : ev_ml RX3 197 yX3_wrongCounts := Or.inl (ev_has_in (k := 623) (by decide +kernel))
theorem ml_X3_111 : ev_ml RX3 111 yX3_isWrong := Or.inl (ev_has_in (k := 627) (by decide +kernel))
end
section
/-! tables of the methods of GossipCounts, laid by wip/p32/gen/tabs2.py -/
def tb_X4_init : ev_T := [(0, .aload_n 0, 1, 0, 0, 0, .null),
  (1, .invokespecial 3, 4, 0, 0, 0, .null),
  (4, .aload_n 0, 5, 0, 0, 0, .null),
  (5, .new 9, 8, 0, 0, 0, .null),
  (8, .dup, 9, 0, 0, 0, .null),
  (9, .invokespecial 11, 12, 0, 0, 0, .null),
  (12, .putfield 12, 15, 167, 4, 0, .null),
  (15, .aload_n 0, 16, 0, 0, 0, .null),
  (16, .new 9, 19, 0, 0, 0, .null),
  (19, .dup, 20, 0, 0, 0, .null),
  (20, .invokespecial 11, 23, 0, 0, 0, .null),
  (23, .putfield 16, 26, 168, 4, 1, .null),
  (26, .aload_n 0, 27, 0, 0, 0, .null),
  (27, .new 9, 30, 0, 0, 0, .null),
  (30, .dup, 31, 0, 0, 0, .null),
  (31, .invokespecial 11, 34, 0, 0, 0, .null),
  (34, .putfield 19, 37, 169, 4, 2, .null),
  (37, .aload_n 0, 38, 0, 0, 0, .null),
  (38, .bipush 6, 40, 0, 0, 0, .int 6),
  (40, .anewarray 9, 43, 0, 0, 0, .null),
  (43, .putfield 22, 46, 170, 4, 3, .null),
  (46, .iconst 0, 47, 0, 0, 0, .int 0),
  (47, .istore_n 1, 48, 0, 1, 0, .null),
  (48, .iload_n 1, 49, 0, 1, 0, .null),
  (49, .bipush 6, 51, 0, 0, 0, .int 6),
  (51, .if_icmp .ge 22, 54, 0, 73, 0, .null),
  (54, .aload_n 0, 55, 0, 0, 0, .null),
  (55, .getfield 22, 58, 170, 4, 3, .null),
  (58, .iload_n 1, 59, 0, 1, 0, .null),
  (59, .new 9, 62, 0, 0, 0, .null),
  (62, .dup, 63, 0, 0, 0, .null),
  (63, .invokespecial 11, 66, 0, 0, 0, .null),
  (66, .aastore, 67, 0, 0, 0, .null),
  (67, .iinc 1 1, 70, 0, 1, 0, .int 1),
  (70, .goto (-22), 73, 0, 48, 0, .null),
  (73, .aload_n 0, 74, 0, 0, 0, .null),
  (74, .new 26, 77, 0, 0, 0, .null),
  (77, .dup, 78, 0, 0, 0, .null),
  (78, .invokespecial 28, 81, 0, 0, 0, .null),
  (81, .putfield 29, 84, 172, 4, 5, .null),
  (84, .return_, 85, 0, 0, 0, .null)]
def mm_X4_init : ev_M := (RX4, "<init>", cX4_init, 2, none, tb_X4_init, 3, 71, 0, 0)
set_option maxRecDepth 100000 in
theorem ok_X4_init : ev_OK mm_X4_init := by unfold ev_OK; decide +kernel
theorem ci_X4_init : ev_CI yX4_init mm_X4_init 0 := ⟨ev_has_in (k := 41) (by decide +kernel), ev_has_in (k := 23) (by decide +kernel), ev_has_in (k := 40) (by decide +kernel), ⟨by decide +kernel, by decide +kernel, by decide +kernel⟩, rfl⟩
def tb_X4_add : ev_T := [(0, .iload_n 1, 1, 0, 1, 0, .null),
  (1, .ifCond .lt 9, 4, 0, 10, 0, .null),
  (4, .iload_n 1, 5, 0, 1, 0, .null),
  (5, .bipush 9, 7, 0, 0, 0, .int 9),
  (7, .if_icmp .le 13, 10, 0, 20, 0, .null),
  (10, .new 33, 13, 0, 0, 0, .null),
  (13, .dup, 14, 0, 0, 0, .null),
  (16, .invokespecial 37, 19, 0, 0, 0, .null),
  (19, .athrow, 20, 0, 0, 0, .null),
  (20, .aload_n 0, 21, 0, 0, 0, .null),
  (21, .getfield 12, 24, 167, 4, 0, .null),
  (24, .getfield 40, 27, 88, 3, 1, .null),
  (27, .bipush 24, 29, 0, 0, 0, .int 24),
  (29, .if_icmp .lt 13, 32, 0, 42, 0, .null),
  (32, .new 44, 35, 0, 0, 0, .null),
  (35, .dup, 36, 0, 0, 0, .null),
  (38, .invokespecial 48, 41, 0, 0, 0, .null),
  (41, .athrow, 42, 0, 0, 0, .null),
  (42, .aload_n 0, 43, 0, 0, 0, .null),
  (43, .invokevirtual 49, 46, 0, 0, 0, .null),
  (46, .aload_n 0, 47, 0, 0, 0, .null),
  (47, .getfield 12, 50, 167, 4, 0, .null),
  (50, .iload_n 1, 51, 0, 1, 0, .null),
  (51, .invokevirtual 52, 54, 0, 0, 0, .null),
  (54, .ireturn, 55, 0, 0, 0, .null)]
def mm_X4_add : ev_M := (RX4, "add", cX4_add, 2, (some .int), tb_X4_add, 6, 160, 0, 0)
set_option maxRecDepth 100000 in
theorem ok_X4_add : ev_OK mm_X4_add := by unfold ev_OK; decide +kernel
theorem cv_X4_add : ev_CV yX4_add mm_X4_add 4 1 := ⟨ev_has_in (k := 189) (by decide +kernel), ev_has_in (k := 23) (by decide +kernel), ev_has_in (k := 187) (by decide +kernel), ev_has_in (k := 188) (by decide +kernel), ⟨by decide +kernel, by decide +kernel, by decide +kernel⟩, rfl, by decide⟩
def tb_X4_take : ev_T := [(0, .iload_n 1, 1, 0, 1, 0, .null),
  (1, .invokestatic 56, 4, 0, 0, 0, .null),
  (4, .ifCond .eq 11, 7, 0, 15, 0, .null),
  (7, .aload_n 0, 8, 0, 0, 0, .null),
  (8, .iload_n 2, 9, 0, 2, 0, .null),
  (9, .invokevirtual 60, 12, 0, 0, 0, .null),
  (12, .ifCond .ne 13, 15, 0, 25, 0, .null),
  (15, .new 63, 18, 0, 0, 0, .null),
  (18, .dup, 19, 0, 0, 0, .null),
  (21, .invokespecial 67, 24, 0, 0, 0, .null),
  (24, .athrow, 25, 0, 0, 0, .null),
  (25, .aload_n 0, 26, 0, 0, 0, .null),
  (26, .getfield 12, 29, 167, 4, 0, .null),
  (29, .iload_n 2, 30, 0, 2, 0, .null),
  (30, .invokevirtual 68, 33, 0, 0, 0, .null),
  (33, .ifCond .ne 13, 36, 0, 46, 0, .null),
  (36, .new 44, 39, 0, 0, 0, .null),
  (39, .dup, 40, 0, 0, 0, .null),
  (42, .invokespecial 48, 45, 0, 0, 0, .null),
  (45, .athrow, 46, 0, 0, 0, .null),
  (46, .aload_n 0, 47, 0, 0, 0, .null),
  (47, .invokevirtual 49, 50, 0, 0, 0, .null),
  (50, .aload_n 0, 51, 0, 0, 0, .null),
  (51, .getfield 12, 54, 167, 4, 0, .null),
  (54, .iload_n 1, 55, 0, 1, 0, .null),
  (55, .iload_n 2, 56, 0, 2, 0, .null),
  (56, .invokevirtual 73, 59, 0, 0, 0, .null),
  (59, .ireturn, 60, 0, 0, 0, .null)]
def mm_X4_take : ev_M := (RX4, "take", cX4_take, 3, (some .int), tb_X4_take, 6, 160, 0, 0)
set_option maxRecDepth 100000 in
theorem ok_X4_take : ev_OK mm_X4_take := by unfold ev_OK; decide +kernel
theorem cv_X4_take : ev_CV yX4_take mm_X4_take 4 2 := ⟨ev_has_in (k := 507) (by decide +kernel), ev_has_in (k := 23) (by decide +kernel), ev_has_in (k := 505) (by decide +kernel), ev_has_in (k := 506) (by decide +kernel), ⟨by decide +kernel, by decide +kernel, by decide +kernel⟩, rfl, by decide⟩
def tb_X4_put : ev_T := [(0, .aload_n 0, 1, 0, 0, 0, .null),
  (1, .iload_n 1, 2, 0, 1, 0, .null),
  (2, .invokevirtual 77, 5, 0, 0, 0, .null),
  (5, .ifCond .eq 18, 8, 0, 23, 0, .null),
  (8, .iload_n 2, 9, 0, 2, 0, .null),
  (9, .invokestatic 80, 12, 0, 0, 0, .null),
  (12, .ifCond .eq 11, 15, 0, 23, 0, .null),
  (15, .aload_n 0, 16, 0, 0, 0, .null),
  (16, .iload_n 3, 17, 0, 3, 0, .null),
  (17, .invokevirtual 60, 20, 0, 0, 0, .null),
  (20, .ifCond .ne 13, 23, 0, 33, 0, .null),
  (23, .new 63, 26, 0, 0, 0, .null),
  (26, .dup, 27, 0, 0, 0, .null),
  (29, .invokespecial 67, 32, 0, 0, 0, .null),
  (32, .athrow, 33, 0, 0, 0, .null),
  (33, .aload_n 0, 34, 0, 0, 0, .null),
  (34, .getfield 12, 37, 167, 4, 0, .null),
  (37, .iload_n 1, 38, 0, 1, 0, .null),
  (38, .invokevirtual 85, 41, 0, 0, 0, .null),
  (41, .ifCond .eq 14, 44, 0, 55, 0, .null),
  (44, .aload_n 0, 45, 0, 0, 0, .null),
  (45, .getfield 12, 48, 167, 4, 0, .null),
  (48, .iload_n 3, 49, 0, 3, 0, .null),
  (49, .invokevirtual 68, 52, 0, 0, 0, .null),
  (52, .ifCond .ne 13, 55, 0, 65, 0, .null),
  (55, .new 44, 58, 0, 0, 0, .null),
  (58, .dup, 59, 0, 0, 0, .null),
  (61, .invokespecial 48, 64, 0, 0, 0, .null),
  (64, .athrow, 65, 0, 0, 0, .null),
  (65, .aload_n 0, 66, 0, 0, 0, .null),
  (66, .invokevirtual 49, 69, 0, 0, 0, .null),
  (69, .aload_n 0, 70, 0, 0, 0, .null),
  (70, .getfield 12, 73, 167, 4, 0, .null),
  (73, .iload_n 1, 74, 0, 1, 0, .null),
  (74, .iload_n 2, 75, 0, 2, 0, .null),
  (75, .invokestatic 90, 78, 0, 0, 0, .null),
  (78, .iload_n 3, 79, 0, 3, 0, .null),
  (79, .invokevirtual 73, 82, 0, 0, 0, .null),
  (82, .ireturn, 83, 0, 0, 0, .null)]
def mm_X4_put : ev_M := (RX4, "put", cX4_put, 4, (some .int), tb_X4_put, 6, 160, 0, 0)
set_option maxRecDepth 100000 in
theorem ok_X4_put : ev_OK mm_X4_put := by unfold ev_OK; decide +kernel
theorem cv_X4_put : ev_CV yX4_put mm_X4_put 4 3 := ⟨ev_has_in (k := 482) (by decide +kernel), ev_has_in (k := 23) (by decide +kernel), ev_has_in (k := 480) (by decide +kernel), ev_has_in (k := 481) (by decide +kernel), ⟨by decide +kernel, by decide +kernel, by decide +kernel⟩, rfl, by decide⟩
def tb_X4_suspect : ev_T := [(0, .aload_n 0, 1, 0, 0, 0, .null),
  (1, .iload_n 1, 2, 0, 1, 0, .null),
  (2, .invokevirtual 77, 5, 0, 0, 0, .null),
  (5, .ifCond .ne 13, 8, 0, 18, 0, .null),
  (8, .new 63, 11, 0, 0, 0, .null),
  (11, .dup, 12, 0, 0, 0, .null),
  (14, .invokespecial 67, 17, 0, 0, 0, .null),
  (17, .athrow, 18, 0, 0, 0, .null),
  (18, .aload_n 0, 19, 0, 0, 0, .null),
  (19, .getfield 12, 22, 167, 4, 0, .null),
  (22, .iload_n 1, 23, 0, 1, 0, .null),
  (23, .invokevirtual 85, 26, 0, 0, 0, .null),
  (26, .ifCond .eq 17, 29, 0, 43, 0, .null),
  (29, .aload_n 0, 30, 0, 0, 0, .null),
  (30, .getfield 12, 33, 167, 4, 0, .null),
  (33, .getfield 100, 36, 92, 3, 3, .null),
  (36, .iload_n 1, 37, 0, 1, 0, .null),
  (37, .invokestatic 103, 40, 0, 0, 0, .null),
  (40, .ifCond .eq 13, 43, 0, 53, 0, .null),
  (43, .new 44, 46, 0, 0, 0, .null),
  (46, .dup, 47, 0, 0, 0, .null),
  (49, .invokespecial 48, 52, 0, 0, 0, .null),
  (52, .athrow, 53, 0, 0, 0, .null),
  (53, .aload_n 0, 54, 0, 0, 0, .null),
  (54, .invokevirtual 49, 57, 0, 0, 0, .null),
  (57, .aload_n 0, 58, 0, 0, 0, .null),
  (58, .getfield 12, 61, 167, 4, 0, .null),
  (61, .dup, 62, 0, 0, 0, .null),
  (62, .getfield 100, 65, 92, 3, 3, .null),
  (65, .iconst 1, 66, 0, 0, 0, .int 1),
  (66, .iload_n 1, 67, 0, 1, 0, .null),
  (67, .ishl, 68, 0, 0, 0, .null),
  (68, .ior, 69, 0, 0, 0, .null),
  (69, .putfield 100, 72, 92, 3, 3, .null),
  (72, .aload_n 0, 73, 0, 0, 0, .null),
  (73, .getfield 12, 76, 167, 4, 0, .null),
  (76, .getfield 100, 79, 92, 3, 3, .null),
  (79, .invokestatic 109, 82, 0, 0, 0, .null),
  (82, .ireturn, 83, 0, 0, 0, .null)]
def mm_X4_suspect : ev_M := (RX4, "suspect", cX4_suspect, 2, (some .int), tb_X4_suspect, 6, 160, 0, 0)
set_option maxRecDepth 100000 in
theorem ok_X4_suspect : ev_OK mm_X4_suspect := by unfold ev_OK; decide +kernel
theorem cv_X4_suspect : ev_CV yX4_suspect mm_X4_suspect 4 1 := ⟨ev_has_in (k := 302) (by decide +kernel), ev_has_in (k := 23) (by decide +kernel), ev_has_in (k := 300) (by decide +kernel), ev_has_in (k := 301) (by decide +kernel), ⟨by decide +kernel, by decide +kernel, by decide +kernel⟩, rfl, by decide⟩
def tb_X4_set : ev_T := [(0, .iload_n 1, 1, 0, 1, 0, .null),
  (1, .invokestatic 114, 4, 0, 0, 0, .null),
  (4, .ifCond .ne 13, 7, 0, 17, 0, .null),
  (7, .new 63, 10, 0, 0, 0, .null),
  (10, .dup, 11, 0, 0, 0, .null),
  (13, .invokespecial 67, 16, 0, 0, 0, .null),
  (16, .athrow, 17, 0, 0, 0, .null),
  (17, .iload_n 2, 18, 0, 2, 0, .null),
  (18, .ifCond .lt 11, 21, 0, 29, 0, .null),
  (21, .iload_n 2, 22, 0, 2, 0, .null),
  (22, .iload_n 1, 23, 0, 1, 0, .null),
  (23, .invokestatic 119, 26, 0, 0, 0, .null),
  (26, .if_icmp .le 13, 29, 0, 39, 0, .null),
  (29, .new 33, 32, 0, 0, 0, .null),
  (32, .dup, 33, 0, 0, 0, .null),
  (35, .invokespecial 37, 38, 0, 0, 0, .null),
  (38, .athrow, 39, 0, 0, 0, .null),
  (39, .aload_n 0, 40, 0, 0, 0, .null),
  (40, .invokevirtual 49, 43, 0, 0, 0, .null),
  (43, .aload_n 0, 44, 0, 0, 0, .null),
  (44, .getfield 12, 47, 167, 4, 0, .null),
  (47, .getfield 124, 50, 99, 3, 7, .null),
  (50, .iload_n 1, 51, 0, 1, 0, .null),
  (51, .iaload, 52, 0, 0, 0, .null),
  (52, .istore_n 3, 53, 0, 3, 0, .null),
  (53, .aload_n 0, 54, 0, 0, 0, .null),
  (54, .getfield 12, 57, 167, 4, 0, .null),
  (57, .getfield 124, 60, 99, 3, 7, .null),
  (60, .iload_n 1, 61, 0, 1, 0, .null),
  (61, .iload_n 2, 62, 0, 2, 0, .null),
  (62, .iastore, 63, 0, 0, 0, .null),
  (63, .iload_n 3, 64, 0, 3, 0, .null),
  (64, .ireturn, 65, 0, 0, 0, .null)]
def mm_X4_set : ev_M := (RX4, "set", cX4_set, 4, (some .int), tb_X4_set, 6, 160, 0, 0)
set_option maxRecDepth 100000 in
theorem ok_X4_set : ev_OK mm_X4_set := by unfold ev_OK; decide +kernel
theorem cv_X4_set : ev_CV yX4_set mm_X4_set 4 2 := ⟨ev_has_in (k := 341) (by decide +kernel), ev_has_in (k := 23) (by decide +kernel), ev_has_in (k := 339) (by decide +kernel), ev_has_in (k := 340) (by decide +kernel), ⟨by decide +kernel, by decide +kernel, by decide +kernel⟩, rfl, by decide⟩
def tb_X4_pass : ev_T := [(0, .iload_n 1, 1, 0, 1, 0, .null),
  (1, .iconst 1, 2, 0, 0, 0, .int 1),
  (2, .if_icmp .lt 9, 5, 0, 11, 0, .null),
  (5, .iload_n 1, 6, 0, 1, 0, .null),
  (6, .bipush 100, 8, 0, 0, 0, .int 100),
  (8, .if_icmp .le 13, 11, 0, 21, 0, .null),
  (11, .new 33, 14, 0, 0, 0, .null),
  (14, .dup, 15, 0, 0, 0, .null),
  (17, .invokespecial 37, 20, 0, 0, 0, .null),
  (20, .athrow, 21, 0, 0, 0, .null),
  (21, .aload_n 0, 22, 0, 0, 0, .null),
  (22, .getfield 12, 25, 167, 4, 0, .null),
  (25, .getfield 130, 28, 86, 3, 0, .null),
  (28, .iload_n 1, 29, 0, 1, 0, .null),
  (29, .iadd, 30, 0, 0, 0, .null),
  (30, .sipush 5000, 33, 0, 0, 0, .int 5000),
  (33, .if_icmp .le 13, 36, 0, 46, 0, .null),
  (36, .new 44, 39, 0, 0, 0, .null),
  (39, .dup, 40, 0, 0, 0, .null),
  (42, .invokespecial 48, 45, 0, 0, 0, .null),
  (45, .athrow, 46, 0, 0, 0, .null),
  (46, .aload_n 0, 47, 0, 0, 0, .null),
  (47, .invokevirtual 49, 50, 0, 0, 0, .null),
  (50, .aload_n 0, 51, 0, 0, 0, .null),
  (51, .getfield 12, 54, 167, 4, 0, .null),
  (54, .iload_n 1, 55, 0, 1, 0, .null),
  (55, .invokevirtual 135, 58, 0, 0, 0, .null),
  (58, .ireturn, 59, 0, 0, 0, .null)]
def mm_X4_pass : ev_M := (RX4, "pass", cX4_pass, 2, (some .int), tb_X4_pass, 6, 186, 0, 0)
set_option maxRecDepth 100000 in
theorem ok_X4_pass : ev_OK mm_X4_pass := by unfold ev_OK; decide +kernel
theorem cv_X4_pass : ev_CV yX4_pass mm_X4_pass 4 1 := ⟨ev_has_in (k := 353) (by decide +kernel), ev_has_in (k := 23) (by decide +kernel), ev_has_in (k := 351) (by decide +kernel), ev_has_in (k := 352) (by decide +kernel), ⟨by decide +kernel, by decide +kernel, by decide +kernel⟩, rfl, by decide⟩
def tb_X4_trial : ev_T := [(0, .aload_n 0, 1, 0, 0, 0, .null),
  (1, .invokevirtual 49, 4, 0, 0, 0, .null),
  (4, .aload_n 0, 5, 0, 0, 0, .null),
  (5, .getfield 12, 8, 167, 4, 0, .null),
  (8, .invokevirtual 138, 11, 0, 0, 0, .null),
  (11, .ireturn, 12, 0, 0, 0, .null)]
def mm_X4_trial : ev_M := (RX4, "trial", cX4_trial, 1, (some .int), tb_X4_trial, 5, 162, 0, 0)
set_option maxRecDepth 100000 in
theorem ok_X4_trial : ev_OK mm_X4_trial := by unfold ev_OK; decide +kernel
theorem cv_X4_trial : ev_CV yX4_trial mm_X4_trial 4 0 := ⟨ev_has_in (k := 463) (by decide +kernel), ev_has_in (k := 23) (by decide +kernel), ev_has_in (k := 461) (by decide +kernel), ev_has_in (k := 462) (by decide +kernel), ⟨by decide +kernel, by decide +kernel, by decide +kernel⟩, rfl, by decide⟩
def tb_X4_thing : ev_T := [(0, .aload_n 0, 1, 0, 0, 0, .null),
  (1, .iload_n 1, 2, 0, 1, 0, .null),
  (2, .invokevirtual 77, 5, 0, 0, 0, .null),
  (5, .ifCond .ne 13, 8, 0, 18, 0, .null),
  (8, .new 63, 11, 0, 0, 0, .null),
  (11, .dup, 12, 0, 0, 0, .null),
  (14, .invokespecial 67, 17, 0, 0, 0, .null),
  (17, .athrow, 18, 0, 0, 0, .null),
  (18, .iload_n 2, 19, 0, 2, 0, .null),
  (19, .ifCond .lt 9, 22, 0, 28, 0, .null),
  (22, .iload_n 2, 23, 0, 2, 0, .null),
  (23, .bipush 13, 25, 0, 0, 0, .int 13),
  (25, .if_icmp .lt 13, 28, 0, 38, 0, .null),
  (28, .new 33, 31, 0, 0, 0, .null),
  (31, .dup, 32, 0, 0, 0, .null),
  (34, .invokespecial 37, 37, 0, 0, 0, .null),
  (37, .athrow, 38, 0, 0, 0, .null),
  (38, .aload_n 0, 39, 0, 0, 0, .null),
  (39, .getfield 12, 42, 167, 4, 0, .null),
  (42, .iload_n 1, 43, 0, 1, 0, .null),
  (43, .iload_n 2, 44, 0, 2, 0, .null),
  (44, .invokevirtual 184, 47, 0, 0, 0, .null),
  (47, .ireturn, 48, 0, 0, 0, .null)]
def mm_X4_thing : ev_M := (RX4, "thing", cX4_thing, 3, (some .int), tb_X4_thing, 6, 160, 0, 0)
set_option maxRecDepth 100000 in
theorem ok_X4_thing : ev_OK mm_X4_thing := by unfold ev_OK; decide +kernel
theorem cv_X4_thing : ev_CV yX4_thing mm_X4_thing 4 2 := ⟨ev_has_in (k := 549) (by decide +kernel), ev_has_in (k := 23) (by decide +kernel), ev_has_in (k := 547) (by decide +kernel), ev_has_in (k := 548) (by decide +kernel), ⟨by decide +kernel, by decide +kernel, by decide +kernel⟩, rfl, by decide⟩
def tb_X4_slot : ev_T := [(0, .aload_n 0, 1, 0, 0, 0, .null),
  (1, .iload_n 1, 2, 0, 1, 0, .null),
  (2, .invokevirtual 77, 5, 0, 0, 0, .null),
  (5, .ifCond .eq 10, 8, 0, 15, 0, .null),
  (8, .iload_n 2, 9, 0, 2, 0, .null),
  (9, .invokestatic 80, 12, 0, 0, 0, .null),
  (12, .ifCond .ne 13, 15, 0, 25, 0, .null),
  (15, .new 63, 18, 0, 0, 0, .null),
  (18, .dup, 19, 0, 0, 0, .null),
  (21, .invokespecial 67, 24, 0, 0, 0, .null),
  (24, .athrow, 25, 0, 0, 0, .null),
  (25, .aload_n 0, 26, 0, 0, 0, .null),
  (26, .getfield 12, 29, 167, 4, 0, .null),
  (29, .getfield 189, 32, 109, 3, 15, .null),
  (32, .iload_n 1, 33, 0, 1, 0, .null),
  (33, .iload_n 2, 34, 0, 2, 0, .null),
  (34, .invokestatic 90, 37, 0, 0, 0, .null),
  (37, .invokevirtual 193, 40, 0, 0, 0, .null),
  (40, .ireturn, 41, 0, 0, 0, .null)]
def mm_X4_slot : ev_M := (RX4, "slot", cX4_slot, 3, (some .int), tb_X4_slot, 6, 160, 0, 0)
set_option maxRecDepth 100000 in
theorem ok_X4_slot : ev_OK mm_X4_slot := by unfold ev_OK; decide +kernel
theorem cv_X4_slot : ev_CV yX4_slot mm_X4_slot 4 2 := ⟨ev_has_in (k := 586) (by decide +kernel), ev_has_in (k := 23) (by decide +kernel), ev_has_in (k := 584) (by decide +kernel), ev_has_in (k := 585) (by decide +kernel), ⟨by decide +kernel, by decide +kernel, by decide +kernel⟩, rfl, by decide⟩
def tb_X4_hand : ev_T := [(0, .iload_n 1, 1, 0, 1, 0, .null),
  (1, .invokestatic 56, 4, 0, 0, 0, .null),
  (4, .ifCond .ne 13, 7, 0, 17, 0, .null),
  (7, .new 63, 10, 0, 0, 0, .null),
  (10, .dup, 11, 0, 0, 0, .null),
  (13, .invokespecial 67, 16, 0, 0, 0, .null),
  (16, .athrow, 17, 0, 0, 0, .null),
  (17, .aload_n 0, 18, 0, 0, 0, .null),
  (18, .getfield 12, 21, 167, 4, 0, .null),
  (21, .getfield 189, 24, 109, 3, 15, .null),
  (24, .iload_n 1, 25, 0, 1, 0, .null),
  (25, .invokevirtual 193, 28, 0, 0, 0, .null),
  (28, .ireturn, 29, 0, 0, 0, .null)]
def mm_X4_hand : ev_M := (RX4, "hand", cX4_hand, 2, (some .int), tb_X4_hand, 6, 160, 0, 0)
set_option maxRecDepth 100000 in
theorem ok_X4_hand : ev_OK mm_X4_hand := by unfold ev_OK; decide +kernel
theorem cv_X4_hand : ev_CV yX4_hand mm_X4_hand 4 1 := ⟨ev_has_in (k := 592) (by decide +kernel), ev_has_in (k := 23) (by decide +kernel), ev_has_in (k := 590) (by decide +kernel), ev_has_in (k := 591) (by decide +kernel), ⟨by decide +kernel, by decide +kernel, by decide +kernel⟩, rfl, by decide⟩
def tb_X4_report : ev_T := [(0, .iload_n 1, 1, 0, 1, 0, .null),
  (1, .ifCond .lt 17, 4, 0, 18, 0, .null),
  (4, .iload_n 1, 5, 0, 1, 0, .null),
  (5, .aload_n 0, 6, 0, 0, 0, .null),
  (6, .getfield 12, 9, 167, 4, 0, .null),
  (9, .getfield 200, 12, 111, 3, 16, .null),
  (12, .invokevirtual 204, 15, 0, 0, 0, .null),
  (15, .if_icmp .lt 13, 18, 0, 28, 0, .null),
  (18, .new 63, 21, 0, 0, 0, .null),
  (21, .dup, 22, 0, 0, 0, .null),
  (24, .invokespecial 67, 27, 0, 0, 0, .null),
  (27, .athrow, 28, 0, 0, 0, .null),
  (28, .iload_n 2, 29, 0, 2, 0, .null),
  (29, .ifCond .lt 8, 32, 0, 37, 0, .null),
  (32, .iload_n 2, 33, 0, 2, 0, .null),
  (33, .iconst 5, 34, 0, 0, 0, .int 5),
  (34, .if_icmp .lt 13, 37, 0, 47, 0, .null),
  (37, .new 33, 40, 0, 0, 0, .null),
  (40, .dup, 41, 0, 0, 0, .null),
  (43, .invokespecial 37, 46, 0, 0, 0, .null),
  (46, .athrow, 47, 0, 0, 0, .null),
  (47, .aload_n 0, 48, 0, 0, 0, .null),
  (48, .getfield 12, 51, 167, 4, 0, .null),
  (51, .getfield 200, 54, 111, 3, 16, .null),
  (54, .iload_n 1, 55, 0, 1, 0, .null),
  (55, .iload_n 2, 56, 0, 2, 0, .null),
  (56, .invokevirtual 213, 59, 0, 0, 0, .null),
  (59, .ireturn, 60, 0, 0, 0, .null)]
def mm_X4_report : ev_M := (RX4, "report", cX4_report, 3, (some .int), tb_X4_report, 6, 160, 0, 0)
set_option maxRecDepth 100000 in
theorem ok_X4_report : ev_OK mm_X4_report := by unfold ev_OK; decide +kernel
theorem cv_X4_report : ev_CV yX4_report mm_X4_report 4 2 := ⟨ev_has_in (k := 597) (by decide +kernel), ev_has_in (k := 23) (by decide +kernel), ev_has_in (k := 595) (by decide +kernel), ev_has_in (k := 596) (by decide +kernel), ⟨by decide +kernel, by decide +kernel, by decide +kernel⟩, rfl, by decide⟩
def tb_X4_count : ev_T := [(0, .iload_n 1, 1, 0, 1, 0, .null),
  (1, .ifCond .lt 9, 4, 0, 10, 0, .null),
  (4, .iload_n 1, 5, 0, 1, 0, .null),
  (5, .bipush 14, 7, 0, 0, 0, .int 14),
  (7, .if_icmp .lt 13, 10, 0, 20, 0, .null),
  (10, .new 33, 13, 0, 0, 0, .null),
  (13, .dup, 14, 0, 0, 0, .null),
  (16, .invokespecial 37, 19, 0, 0, 0, .null),
  (19, .athrow, 20, 0, 0, 0, .null),
  (20, .iload_n 1, 21, 0, 1, 0, .null),
  (21, .bipush 13, 23, 0, 0, 0, .int 13),
  (23, .if_icmp .ne 10, 26, 0, 33, 0, .null),
  (26, .aload_n 0, 27, 0, 0, 0, .null),
  (27, .getfield 173, 30, 171, 4, 4, .null),
  (30, .goto 11, 33, 0, 41, 0, .null),
  (33, .aload_n 0, 34, 0, 0, 0, .null),
  (34, .getfield 12, 37, 167, 4, 0, .null),
  (37, .iload_n 1, 38, 0, 1, 0, .null),
  (38, .invokevirtual 226, 41, 0, 0, 0, .null),
  (41, .ireturn, 42, 0, 0, 0, .null)]
def mm_X4_count : ev_M := (RX4, "count", cX4_count, 2, (some .int), tb_X4_count, 6, 160, 0, 0)
set_option maxRecDepth 100000 in
theorem ok_X4_count : ev_OK mm_X4_count := by unfold ev_OK; decide +kernel
theorem cv_X4_count : ev_CV yX4_count mm_X4_count 4 1 := ⟨ev_has_in (k := 637) (by decide +kernel), ev_has_in (k := 23) (by decide +kernel), ev_has_in (k := 635) (by decide +kernel), ev_has_in (k := 636) (by decide +kernel), ⟨by decide +kernel, by decide +kernel, by decide +kernel⟩, rfl, by decide⟩
def tb_X4_ifPassed : ev_T := [(0, .iload_n 1, 1, 0, 1, 0, .null),
  (1, .iconst 1, 2, 0, 0, 0, .int 1),
  (2, .if_icmp .lt 18, 5, 0, 20, 0, .null),
  (5, .iload_n 1, 6, 0, 1, 0, .null),
  (6, .bipush 100, 8, 0, 0, 0, .int 100),
  (8, .if_icmp .gt 12, 11, 0, 20, 0, .null),
  (11, .iload_n 2, 12, 0, 2, 0, .null),
  (12, .ifCond .lt 8, 15, 0, 20, 0, .null),
  (15, .iload_n 2, 16, 0, 2, 0, .null),
  (16, .iconst 3, 17, 0, 0, 0, .int 3),
  (17, .if_icmp .le 13, 20, 0, 30, 0, .null),
  (20, .new 33, 23, 0, 0, 0, .null),
  (23, .dup, 24, 0, 0, 0, .null),
  (26, .invokespecial 37, 29, 0, 0, 0, .null),
  (29, .athrow, 30, 0, 0, 0, .null),
  (30, .aload_n 0, 31, 0, 0, 0, .null),
  (31, .iload_n 1, 32, 0, 1, 0, .null),
  (32, .invokevirtual 231, 35, 0, 0, 0, .null),
  (35, .aload_n 0, 36, 0, 0, 0, .null),
  (36, .iload_n 2, 37, 0, 2, 0, .null),
  (37, .invokevirtual 235, 40, 0, 0, 0, .null),
  (40, .ireturn, 41, 0, 0, 0, .null)]
def mm_X4_ifPassed : ev_M := (RX4, "ifPassed", cX4_ifPassed, 3, (some .int), tb_X4_ifPassed, 7, 207, 0, 0)
set_option maxRecDepth 100000 in
theorem ok_X4_ifPassed : ev_OK mm_X4_ifPassed := by unfold ev_OK; decide +kernel
theorem cv_X4_ifPassed : ev_CV yX4_ifPassed mm_X4_ifPassed 4 2 := ⟨ev_has_in (k := 648) (by decide +kernel), ev_has_in (k := 23) (by decide +kernel), ev_has_in (k := 646) (by decide +kernel), ev_has_in (k := 647) (by decide +kernel), ⟨by decide +kernel, by decide +kernel, by decide +kernel⟩, rfl, by decide⟩
def tb_X4_endsIn : ev_T := [(0, .aload_n 0, 1, 0, 0, 0, .null),
  (1, .iload_n 1, 2, 0, 1, 0, .null),
  (2, .invokevirtual 77, 5, 0, 0, 0, .null),
  (5, .ifCond .ne 13, 8, 0, 18, 0, .null),
  (8, .new 63, 11, 0, 0, 0, .null),
  (11, .dup, 12, 0, 0, 0, .null),
  (14, .invokespecial 67, 17, 0, 0, 0, .null),
  (17, .athrow, 18, 0, 0, 0, .null),
  (18, .aload_n 0, 19, 0, 0, 0, .null),
  (19, .sipush 200, 22, 0, 0, 0, .int 200),
  (22, .invokevirtual 231, 25, 0, 0, 0, .null),
  (25, .aload_n 0, 26, 0, 0, 0, .null),
  (26, .iload_n 1, 27, 0, 1, 0, .null),
  (27, .invokevirtual 238, 30, 0, 0, 0, .null),
  (30, .ireturn, 31, 0, 0, 0, .null)]
def mm_X4_endsIn : ev_M := (RX4, "endsIn", cX4_endsIn, 2, (some .int), tb_X4_endsIn, 7, 207, 0, 0)
set_option maxRecDepth 100000 in
theorem ok_X4_endsIn : ev_OK mm_X4_endsIn := by unfold ev_OK; decide +kernel
theorem cv_X4_endsIn : ev_CV yX4_endsIn mm_X4_endsIn 4 1 := ⟨ev_has_in (k := 662) (by decide +kernel), ev_has_in (k := 23) (by decide +kernel), ev_has_in (k := 660) (by decide +kernel), ev_has_in (k := 661) (by decide +kernel), ⟨by decide +kernel, by decide +kernel, by decide +kernel⟩, rfl, by decide⟩
def tb_X4_ifTried : ev_T := [(0, .iload_n 1, 1, 0, 1, 0, .null),
  (1, .ifCond .lt 8, 4, 0, 9, 0, .null),
  (4, .iload_n 1, 5, 0, 1, 0, .null),
  (5, .iconst 2, 6, 0, 0, 0, .int 2),
  (6, .if_icmp .le 13, 9, 0, 19, 0, .null),
  (9, .new 33, 12, 0, 0, 0, .null),
  (12, .dup, 13, 0, 0, 0, .null),
  (15, .invokespecial 37, 18, 0, 0, 0, .null),
  (18, .athrow, 19, 0, 0, 0, .null),
  (19, .aload_n 0, 20, 0, 0, 0, .null),
  (20, .invokevirtual 243, 23, 0, 0, 0, .null),
  (23, .aload_n 0, 24, 0, 0, 0, .null),
  (24, .iload_n 1, 25, 0, 1, 0, .null),
  (25, .invokevirtual 246, 28, 0, 0, 0, .null),
  (28, .ireturn, 29, 0, 0, 0, .null)]
def mm_X4_ifTried : ev_M := (RX4, "ifTried", cX4_ifTried, 2, (some .int), tb_X4_ifTried, 6, 182, 0, 0)
set_option maxRecDepth 100000 in
theorem ok_X4_ifTried : ev_OK mm_X4_ifTried := by unfold ev_OK; decide +kernel
theorem cv_X4_ifTried : ev_CV yX4_ifTried mm_X4_ifTried 4 1 := ⟨ev_has_in (k := 682) (by decide +kernel), ev_has_in (k := 23) (by decide +kernel), ev_has_in (k := 680) (by decide +kernel), ev_has_in (k := 681) (by decide +kernel), ⟨by decide +kernel, by decide +kernel, by decide +kernel⟩, rfl, by decide⟩
def tb_X4_ring : ev_T := [(0, .aload_n 0, 1, 0, 0, 0, .null),
  (1, .iload_n 1, 2, 0, 1, 0, .null),
  (2, .invokevirtual 77, 5, 0, 0, 0, .null),
  (5, .ifCond .ne 13, 8, 0, 18, 0, .null),
  (8, .new 63, 11, 0, 0, 0, .null),
  (11, .dup, 12, 0, 0, 0, .null),
  (14, .invokespecial 67, 17, 0, 0, 0, .null),
  (17, .athrow, 18, 0, 0, 0, .null),
  (18, .aload_n 0, 19, 0, 0, 0, .null),
  (19, .getfield 12, 22, 167, 4, 0, .null),
  (22, .getfield 189, 25, 109, 3, 15, .null),
  (25, .iload_n 1, 26, 0, 1, 0, .null),
  (26, .invokevirtual 249, 29, 0, 0, 0, .null),
  (29, .ireturn, 30, 0, 0, 0, .null)]
def mm_X4_ring : ev_M := (RX4, "ring", cX4_ring, 2, (some .int), tb_X4_ring, 6, 160, 0, 0)
set_option maxRecDepth 100000 in
theorem ok_X4_ring : ev_OK mm_X4_ring := by unfold ev_OK; decide +kernel
theorem cv_X4_ring : ev_CV yX4_ring mm_X4_ring 4 1 := ⟨ev_has_in (k := 577) (by decide +kernel), ev_has_in (k := 23) (by decide +kernel), ev_has_in (k := 575) (by decide +kernel), ev_has_in (k := 576) (by decide +kernel), ⟨by decide +kernel, by decide +kernel, by decide +kernel⟩, rfl, by decide⟩
def tb_X4_bestCut : ev_T := [(0, .iload_n 1, 1, 0, 1, 0, .null),
  (1, .ifCond .eq 18, 4, 0, 19, 0, .null),
  (4, .iload_n 1, 5, 0, 1, 0, .null),
  (5, .iconst 1, 6, 0, 0, 0, .int 1),
  (6, .if_icmp .eq 13, 9, 0, 19, 0, .null),
  (9, .new 33, 12, 0, 0, 0, .null),
  (12, .dup, 13, 0, 0, 0, .null),
  (15, .invokespecial 37, 18, 0, 0, 0, .null),
  (18, .athrow, 19, 0, 0, 0, .null),
  (19, .aload_n 0, 20, 0, 0, 0, .null),
  (20, .getfield 12, 23, 167, 4, 0, .null),
  (23, .getfield 189, 26, 109, 3, 15, .null),
  (26, .invokevirtual 254, 29, 0, 0, 0, .null),
  (29, .istore_n 2, 30, 0, 2, 0, .null),
  (30, .iload_n 1, 31, 0, 1, 0, .null),
  (31, .ifCond .ne 5, 34, 0, 36, 0, .null),
  (34, .iload_n 2, 35, 0, 2, 0, .null),
  (35, .ireturn, 36, 0, 0, 0, .null),
  (36, .iload_n 2, 37, 0, 2, 0, .null),
  (37, .iconst (-1), 38, 0, 0, 0, .int (-1)),
  (38, .if_icmp .ne 7, 41, 0, 45, 0, .null),
  (41, .iconst 0, 42, 0, 0, 0, .int 0),
  (42, .goto 14, 45, 0, 56, 0, .null),
  (45, .aload_n 0, 46, 0, 0, 0, .null),
  (46, .getfield 12, 49, 167, 4, 0, .null),
  (49, .getfield 189, 52, 109, 3, 15, .null),
  (52, .iload_n 2, 53, 0, 2, 0, .null),
  (53, .invokevirtual 257, 56, 0, 0, 0, .null),
  (56, .ireturn, 57, 0, 0, 0, .null)]
def mm_X4_bestCut : ev_M := (RX4, "bestCut", cX4_bestCut, 3, (some .int), tb_X4_bestCut, 6, 160, 0, 0)
set_option maxRecDepth 100000 in
theorem ok_X4_bestCut : ev_OK mm_X4_bestCut := by unfold ev_OK; decide +kernel
theorem cv_X4_bestCut : ev_CV yX4_bestCut mm_X4_bestCut 4 1 := ⟨ev_has_in (k := 695) (by decide +kernel), ev_has_in (k := 23) (by decide +kernel), ev_has_in (k := 693) (by decide +kernel), ev_has_in (k := 694) (by decide +kernel), ⟨by decide +kernel, by decide +kernel, by decide +kernel⟩, rfl, by decide⟩
def tb_X4_bears : ev_T := [(0, .aload_n 0, 1, 0, 0, 0, .null),
  (1, .iload_n 1, 2, 0, 1, 0, .null),
  (2, .invokevirtual 77, 5, 0, 0, 0, .null),
  (5, .ifCond .ne 13, 8, 0, 18, 0, .null),
  (8, .new 63, 11, 0, 0, 0, .null),
  (11, .dup, 12, 0, 0, 0, .null),
  (14, .invokespecial 67, 17, 0, 0, 0, .null),
  (17, .athrow, 18, 0, 0, 0, .null),
  (18, .aload_n 0, 19, 0, 0, 0, .null),
  (19, .iload_n 1, 20, 0, 1, 0, .null),
  (20, .invokevirtual 260, 23, 0, 0, 0, .null),
  (23, .ireturn, 24, 0, 0, 0, .null)]
def mm_X4_bears : ev_M := (RX4, "bears", cX4_bears, 2, (some .int), tb_X4_bears, 7, 208, 0, 0)
set_option maxRecDepth 100000 in
theorem ok_X4_bears : ev_OK mm_X4_bears := by unfold ev_OK; decide +kernel
theorem cv_X4_bears : ev_CV yX4_bears mm_X4_bears 4 1 := ⟨ev_has_in (k := 670) (by decide +kernel), ev_has_in (k := 23) (by decide +kernel), ev_has_in (k := 668) (by decide +kernel), ev_has_in (k := 669) (by decide +kernel), ⟨by decide +kernel, by decide +kernel, by decide +kernel⟩, rfl, by decide⟩
def tb_X4_reachedShare : ev_T := [(0, .aload_n 0, 1, 0, 0, 0, .null),
  (1, .getfield 12, 4, 167, 4, 0, .null),
  (4, .iconst 2, 5, 0, 0, 0, .int 2),
  (5, .invokevirtual 226, 8, 0, 0, 0, .null),
  (8, .istore_n 1, 9, 0, 1, 0, .null),
  (9, .iload_n 1, 10, 0, 1, 0, .null),
  (10, .ifCond .ne 7, 13, 0, 17, 0, .null),
  (13, .dconst 0, 14, 0, 0, 0, .double FP.dconst0),
  (14, .goto 15, 17, 0, 29, 0, .null),
  (17, .aload_n 0, 18, 0, 0, 0, .null),
  (18, .getfield 12, 21, 167, 4, 0, .null),
  (21, .iconst 3, 22, 0, 0, 0, .int 3),
  (22, .invokevirtual 226, 25, 0, 0, 0, .null),
  (25, .i2d, 26, 0, 0, 0, .null),
  (26, .iload_n 1, 27, 0, 1, 0, .null),
  (27, .i2d, 28, 0, 0, 0, .null),
  (28, .ddiv, 29, 0, 0, 0, .null),
  (29, .dreturn, 30, 0, 0, 0, .null)]
def mm_X4_reachedShare : ev_M := (RX4, "reachedShare", cX4_reachedShare, 2, (some .double), tb_X4_reachedShare, 5, 114, 0, 0)
set_option maxRecDepth 100000 in
theorem ok_X4_reachedShare : ev_OK mm_X4_reachedShare := by unfold ev_OK; decide +kernel
theorem cv_X4_reachedShare : ev_CV yX4_reachedShare mm_X4_reachedShare 4 0 := ⟨ev_has_in (k := 608) (by decide +kernel), ev_has_in (k := 23) (by decide +kernel), ev_has_in (k := 606) (by decide +kernel), ev_has_in (k := 607) (by decide +kernel), ⟨by decide +kernel, by decide +kernel, by decide +kernel⟩, rfl, by decide⟩
def tb_X4_foresee : ev_T := [(0, .aload_n 0, 1, 0, 0, 0, .null),
  (1, .getfield 16, 4, 168, 4, 1, .null),
  (4, .aload_n 0, 5, 0, 0, 0, .null),
  (5, .getfield 12, 8, 167, 4, 0, .null),
  (8, .invokevirtual 178, 11, 0, 0, 0, .null),
  (11, .aload_n 0, 12, 0, 0, 0, .null),
  (12, .getfield 16, 15, 168, 4, 1, .null),
  (15, .iload_n 1, 16, 0, 1, 0, .null),
  (16, .invokevirtual 135, 19, 0, 0, 0, .null),
  (19, .pop, 20, 0, 0, 0, .null),
  (20, .return_, 21, 0, 0, 0, .null)]
def mm_X4_foresee : ev_M := (RX4, "foresee", cX4_foresee, 2, none, tb_X4_foresee, 6, 186, 0, 0)
set_option maxRecDepth 100000 in
theorem ok_X4_foresee : ev_OK mm_X4_foresee := by unfold ev_OK; decide +kernel
theorem cv_X4_foresee : ev_CV yX4_foresee mm_X4_foresee 4 1 := ⟨ev_has_in (k := 653) (by decide +kernel), ev_has_in (k := 23) (by decide +kernel), ev_has_in (k := 652) (by decide +kernel), ev_has_in (k := 16) (by decide +kernel), ⟨by decide +kernel, by decide +kernel, by decide +kernel⟩, rfl, by decide⟩
def tb_X4_passedPart : ev_T := [(0, .iload_n 1, 1, 0, 1, 0, .null),
  (1, .tableswitch 76 0 2 #[27, 43, 65], 28, 0, 27, 1, .null),
  (28, .aload_n 0, 29, 0, 0, 0, .null),
  (29, .getfield 16, 32, 168, 4, 1, .null),
  (32, .getfield 216, 35, 96, 3, 5, .null),
  (35, .aload_n 0, 36, 0, 0, 0, .null),
  (36, .getfield 12, 39, 167, 4, 0, .null),
  (39, .getfield 216, 42, 96, 3, 5, .null),
  (42, .isub, 43, 0, 0, 0, .null),
  (43, .ireturn, 44, 0, 0, 0, .null),
  (44, .aload_n 0, 45, 0, 0, 0, .null),
  (45, .getfield 16, 48, 168, 4, 1, .null),
  (48, .getfield 304, 51, 94, 3, 4, .null),
  (51, .invokestatic 109, 54, 0, 0, 0, .null),
  (54, .aload_n 0, 55, 0, 0, 0, .null),
  (55, .getfield 12, 58, 167, 4, 0, .null),
  (58, .getfield 304, 61, 94, 3, 4, .null),
  (61, .invokestatic 109, 64, 0, 0, 0, .null),
  (64, .isub, 65, 0, 0, 0, .null),
  (65, .ireturn, 66, 0, 0, 0, .null),
  (66, .aload_n 0, 67, 0, 0, 0, .null),
  (67, .getfield 16, 70, 168, 4, 1, .null),
  (70, .getfield 200, 73, 111, 3, 16, .null),
  (73, .invokevirtual 204, 76, 0, 0, 0, .null),
  (76, .ireturn, 77, 0, 0, 0, .null),
  (77, .aload_n 0, 78, 0, 0, 0, .null),
  (78, .getfield 16, 81, 168, 4, 1, .null),
  (81, .getfield 307, 84, 90, 3, 2, .null),
  (84, .aload_n 0, 85, 0, 0, 0, .null),
  (85, .getfield 16, 88, 168, 4, 1, .null),
  (88, .getfield 189, 91, 109, 3, 15, .null),
  (91, .invokevirtual 310, 94, 0, 0, 0, .null),
  (94, .iconst (-1), 95, 0, 0, 0, .int (-1)),
  (95, .ixor, 96, 0, 0, 0, .null),
  (96, .iand, 97, 0, 0, 0, .null),
  (97, .invokestatic 109, 100, 0, 0, 0, .null),
  (100, .ireturn, 101, 0, 0, 0, .null)]
def mm_X4_passedPart : ev_M := (RX4, "passedPart", cX4_passedPart, 2, (some .int), tb_X4_passedPart, 4, 93, 0, 0)
set_option maxRecDepth 100000 in
theorem ok_X4_passedPart : ev_OK mm_X4_passedPart := by unfold ev_OK; decide +kernel
theorem cv_X4_passedPart : ev_CV yX4_passedPart mm_X4_passedPart 4 1 := ⟨ev_has_in (k := 657) (by decide +kernel), ev_has_in (k := 23) (by decide +kernel), ev_has_in (k := 656) (by decide +kernel), ev_has_in (k := 17) (by decide +kernel), ⟨by decide +kernel, by decide +kernel, by decide +kernel⟩, rfl, by decide⟩
def tb_X4_foreseenEnd : ev_T := [(0, .aload_n 0, 1, 0, 0, 0, .null),
  (1, .getfield 12, 4, 167, 4, 0, .null),
  (4, .iload_n 1, 5, 0, 1, 0, .null),
  (5, .invokevirtual 85, 8, 0, 0, 0, .null),
  (8, .ifCond .ne 5, 11, 0, 13, 0, .null),
  (11, .iconst 0, 12, 0, 0, 0, .int 0),
  (12, .ireturn, 13, 0, 0, 0, .null),
  (13, .aload_n 0, 14, 0, 0, 0, .null),
  (14, .getfield 16, 17, 168, 4, 1, .null),
  (17, .iload_n 1, 18, 0, 1, 0, .null),
  (18, .invokevirtual 85, 21, 0, 0, 0, .null),
  (21, .ifCond .eq 7, 24, 0, 28, 0, .null),
  (24, .iconst (-1), 25, 0, 0, 0, .int (-1)),
  (25, .goto 20, 28, 0, 45, 0, .null),
  (28, .aload_n 0, 29, 0, 0, 0, .null),
  (29, .getfield 16, 32, 168, 4, 1, .null),
  (32, .getfield 313, 35, 105, 3, 12, .null),
  (35, .iload_n 1, 36, 0, 1, 0, .null),
  (36, .iaload, 37, 0, 0, 0, .null),
  (37, .aload_n 0, 38, 0, 0, 0, .null),
  (38, .getfield 12, 41, 167, 4, 0, .null),
  (41, .getfield 130, 44, 86, 3, 0, .null),
  (44, .isub, 45, 0, 0, 0, .null),
  (45, .ireturn, 46, 0, 0, 0, .null)]
def mm_X4_foreseenEnd : ev_M := (RX4, "foreseenEnd", cX4_foreseenEnd, 2, (some .int), tb_X4_foreseenEnd, 2, 42, 0, 0)
set_option maxRecDepth 100000 in
theorem ok_X4_foreseenEnd : ev_OK mm_X4_foreseenEnd := by unfold ev_OK; decide +kernel
theorem cv_X4_foreseenEnd : ev_CV yX4_foreseenEnd mm_X4_foreseenEnd 4 1 := ⟨ev_has_in (k := 666) (by decide +kernel), ev_has_in (k := 23) (by decide +kernel), ev_has_in (k := 665) (by decide +kernel), ev_has_in (k := 18) (by decide +kernel), ⟨by decide +kernel, by decide +kernel, by decide +kernel⟩, rfl, by decide⟩
def tb_X4_foreseeTrial : ev_T := [(0, .aload_n 0, 1, 0, 0, 0, .null),
  (1, .getfield 16, 4, 168, 4, 1, .null),
  (4, .aload_n 0, 5, 0, 0, 0, .null),
  (5, .getfield 12, 8, 167, 4, 0, .null),
  (8, .invokevirtual 178, 11, 0, 0, 0, .null),
  (11, .aload_n 0, 12, 0, 0, 0, .null),
  (12, .getfield 16, 15, 168, 4, 1, .null),
  (15, .invokevirtual 138, 18, 0, 0, 0, .null),
  (18, .pop, 19, 0, 0, 0, .null),
  (19, .return_, 20, 0, 0, 0, .null)]
def mm_X4_foreseeTrial : ev_M := (RX4, "foreseeTrial", cX4_foreseeTrial, 1, none, tb_X4_foreseeTrial, 5, 162, 0, 0)
set_option maxRecDepth 100000 in
theorem ok_X4_foreseeTrial : ev_OK mm_X4_foreseeTrial := by unfold ev_OK; decide +kernel
theorem cv_X4_foreseeTrial : ev_CV yX4_foreseeTrial mm_X4_foreseeTrial 4 0 := ⟨ev_has_in (k := 687) (by decide +kernel), ev_has_in (k := 23) (by decide +kernel), ev_has_in (k := 686) (by decide +kernel), ev_has_in (k := 20) (by decide +kernel), ⟨by decide +kernel, by decide +kernel, by decide +kernel⟩, rfl, by decide⟩
def tb_X4_triedPart : ev_T := [(0, .iload_n 1, 1, 0, 1, 0, .null),
  (1, .lookupswitch 54 #[(0, 27), (1, 43)], 28, 0, 27, 1, .null),
  (28, .aload_n 0, 29, 0, 0, 0, .null),
  (29, .getfield 16, 32, 168, 4, 1, .null),
  (32, .getfield 216, 35, 96, 3, 5, .null),
  (35, .aload_n 0, 36, 0, 0, 0, .null),
  (36, .getfield 12, 39, 167, 4, 0, .null),
  (39, .getfield 216, 42, 96, 3, 5, .null),
  (42, .isub, 43, 0, 0, 0, .null),
  (43, .ireturn, 44, 0, 0, 0, .null),
  (44, .aload_n 0, 45, 0, 0, 0, .null),
  (45, .getfield 16, 48, 168, 4, 1, .null),
  (48, .getfield 100, 51, 92, 3, 3, .null),
  (51, .invokestatic 109, 54, 0, 0, 0, .null),
  (54, .ireturn, 55, 0, 0, 0, .null),
  (55, .aload_n 0, 56, 0, 0, 0, .null),
  (56, .getfield 16, 59, 168, 4, 1, .null),
  (59, .getfield 304, 62, 94, 3, 4, .null),
  (62, .invokestatic 109, 65, 0, 0, 0, .null),
  (65, .aload_n 0, 66, 0, 0, 0, .null),
  (66, .getfield 12, 69, 167, 4, 0, .null),
  (69, .getfield 304, 72, 94, 3, 4, .null),
  (72, .invokestatic 109, 75, 0, 0, 0, .null),
  (75, .isub, 76, 0, 0, 0, .null),
  (76, .ireturn, 77, 0, 0, 0, .null)]
def mm_X4_triedPart : ev_M := (RX4, "triedPart", cX4_triedPart, 2, (some .int), tb_X4_triedPart, 1, 20, 0, 0)
set_option maxRecDepth 100000 in
theorem ok_X4_triedPart : ev_OK mm_X4_triedPart := by unfold ev_OK; decide +kernel
theorem cv_X4_triedPart : ev_CV yX4_triedPart mm_X4_triedPart 4 1 := ⟨ev_has_in (k := 691) (by decide +kernel), ev_has_in (k := 23) (by decide +kernel), ev_has_in (k := 690) (by decide +kernel), ev_has_in (k := 21) (by decide +kernel), ⟨by decide +kernel, by decide +kernel, by decide +kernel⟩, rfl, by decide⟩
def tb_X4_slandersToEnd : ev_T := [(0, .aload_n 0, 1, 0, 0, 0, .null),
  (1, .getfield 19, 4, 169, 4, 2, .null),
  (4, .aload_n 0, 5, 0, 0, 0, .null),
  (5, .getfield 12, 8, 167, 4, 0, .null),
  (8, .invokevirtual 178, 11, 0, 0, 0, .null),
  (11, .iconst 0, 12, 0, 0, 0, .int 0),
  (12, .istore_n 2, 13, 0, 2, 0, .null),
  (13, .iload_n 2, 14, 0, 2, 0, .null),
  (14, .bipush 12, 16, 0, 0, 0, .int 12),
  (16, .if_icmp .gt 53, 19, 0, 69, 0, .null),
  (19, .aload_n 0, 20, 0, 0, 0, .null),
  (20, .getfield 16, 23, 168, 4, 1, .null),
  (23, .aload_n 0, 24, 0, 0, 0, .null),
  (24, .getfield 19, 27, 169, 4, 2, .null),
  (27, .invokevirtual 178, 30, 0, 0, 0, .null),
  (30, .aload_n 0, 31, 0, 0, 0, .null),
  (31, .getfield 16, 34, 168, 4, 1, .null),
  (34, .bipush 30, 36, 0, 0, 0, .int 30),
  (36, .invokevirtual 135, 39, 0, 0, 0, .null),
  (39, .pop, 40, 0, 0, 0, .null),
  (40, .aload_n 0, 41, 0, 0, 0, .null),
  (41, .getfield 16, 44, 168, 4, 1, .null),
  (44, .iload_n 1, 45, 0, 1, 0, .null),
  (45, .invokevirtual 85, 48, 0, 0, 0, .null),
  (48, .ifCond .ne 5, 51, 0, 53, 0, .null),
  (51, .iload_n 2, 52, 0, 2, 0, .null),
  (52, .ireturn, 53, 0, 0, 0, .null),
  (53, .aload_n 0, 54, 0, 0, 0, .null),
  (54, .getfield 19, 57, 169, 4, 2, .null),
  (57, .iload_n 1, 58, 0, 1, 0, .null),
  (58, .iconst (-1), 59, 0, 0, 0, .int (-1)),
  (59, .invokevirtual 97, 62, 0, 0, 0, .null),
  (62, .pop, 63, 0, 0, 0, .null),
  (63, .iinc 2 1, 66, 0, 2, 0, .int 1),
  (66, .goto (-53), 69, 0, 13, 0, .null),
  (69, .iconst (-1), 70, 0, 0, 0, .int (-1)),
  (70, .ireturn, 71, 0, 0, 0, .null)]
def mm_X4_slandersToEnd : ev_M := (RX4, "slandersToEnd", cX4_slandersToEnd, 3, (some .int), tb_X4_slandersToEnd, 6, 186, 0, 0)
set_option maxRecDepth 100000 in
theorem ok_X4_slandersToEnd : ev_OK mm_X4_slandersToEnd := by unfold ev_OK; decide +kernel
theorem cv_X4_slandersToEnd : ev_CV yX4_slandersToEnd mm_X4_slandersToEnd 4 1 := ⟨ev_has_in (k := 674) (by decide +kernel), ev_has_in (k := 23) (by decide +kernel), ev_has_in (k := 673) (by decide +kernel), ev_has_in (k := 19) (by decide +kernel), ⟨by decide +kernel, by decide +kernel, by decide +kernel⟩, rfl, by decide⟩
def tb_X4_save : ev_T := [(0, .aload_n 0, 1, 0, 0, 0, .null),
  (1, .getfield 173, 4, 171, 4, 4, .null),
  (4, .bipush 6, 6, 0, 0, 0, .int 6),
  (6, .if_icmp .lt 50, 9, 0, 56, 0, .null),
  (9, .aload_n 0, 10, 0, 0, 0, .null),
  (10, .getfield 22, 13, 170, 4, 3, .null),
  (13, .iconst 0, 14, 0, 0, 0, .int 0),
  (14, .aaload, 15, 0, 0, 0, .null),
  (15, .astore_n 1, 16, 0, 1, 0, .null),
  (16, .iconst 1, 17, 0, 0, 0, .int 1),
  (17, .istore_n 2, 18, 0, 2, 0, .null),
  (18, .iload_n 2, 19, 0, 2, 0, .null),
  (19, .bipush 6, 21, 0, 0, 0, .int 6),
  (21, .if_icmp .ge 23, 24, 0, 44, 0, .null),
  (24, .aload_n 0, 25, 0, 0, 0, .null),
  (25, .getfield 22, 28, 170, 4, 3, .null),
  (28, .iload_n 2, 29, 0, 2, 0, .null),
  (29, .iconst 1, 30, 0, 0, 0, .int 1),
  (30, .isub, 31, 0, 0, 0, .null),
  (31, .aload_n 0, 32, 0, 0, 0, .null),
  (32, .getfield 22, 35, 170, 4, 3, .null),
  (35, .iload_n 2, 36, 0, 2, 0, .null),
  (36, .aaload, 37, 0, 0, 0, .null),
  (37, .aastore, 38, 0, 0, 0, .null),
  (38, .iinc 2 1, 41, 0, 2, 0, .int 1),
  (41, .goto (-23), 44, 0, 18, 0, .null),
  (44, .aload_n 0, 45, 0, 0, 0, .null),
  (45, .getfield 22, 48, 170, 4, 3, .null),
  (48, .iconst 5, 49, 0, 0, 0, .int 5),
  (49, .aload_n 1, 50, 0, 1, 0, .null),
  (50, .aastore, 51, 0, 0, 0, .null),
  (51, .aload_n 0, 52, 0, 0, 0, .null),
  (52, .iconst 5, 53, 0, 0, 0, .int 5),
  (53, .putfield 173, 56, 171, 4, 4, .null),
  (56, .aload_n 0, 57, 0, 0, 0, .null),
  (57, .getfield 22, 60, 170, 4, 3, .null),
  (60, .aload_n 0, 61, 0, 0, 0, .null),
  (61, .getfield 173, 64, 171, 4, 4, .null),
  (64, .aaload, 65, 0, 0, 0, .null),
  (65, .aload_n 0, 66, 0, 0, 0, .null),
  (66, .getfield 12, 69, 167, 4, 0, .null),
  (69, .invokevirtual 178, 72, 0, 0, 0, .null),
  (72, .aload_n 0, 73, 0, 0, 0, .null),
  (73, .dup, 74, 0, 0, 0, .null),
  (74, .getfield 173, 77, 171, 4, 4, .null),
  (77, .iconst 1, 78, 0, 0, 0, .int 1),
  (78, .iadd, 79, 0, 0, 0, .null),
  (79, .putfield 173, 82, 171, 4, 4, .null),
  (82, .return_, 83, 0, 0, 0, .null)]
def mm_X4_save : ev_M := (RX4, "save", cX4_save, 3, none, tb_X4_save, 3, 102, 0, 0)
set_option maxRecDepth 100000 in
theorem ok_X4_save : ev_OK mm_X4_save := by unfold ev_OK; decide +kernel
theorem cv_X4_save : ev_CV yX4_save mm_X4_save 4 0 := ⟨ev_has_in (k := 277) (by decide +kernel), ev_has_in (k := 23) (by decide +kernel), ev_has_in (k := 276) (by decide +kernel), ev_has_in (k := 1) (by decide +kernel), ⟨by decide +kernel, by decide +kernel, by decide +kernel⟩, rfl, by decide⟩
def tb_X4_isThing : ev_T := [(0, .iload_n 1, 1, 0, 1, 0, .null),
  (1, .ifCond .lt 18, 4, 0, 19, 0, .null),
  (4, .iload_n 1, 5, 0, 1, 0, .null),
  (5, .aload_n 0, 6, 0, 0, 0, .null),
  (6, .getfield 12, 9, 167, 4, 0, .null),
  (9, .getfield 40, 12, 88, 3, 1, .null),
  (12, .if_icmp .ge 7, 15, 0, 19, 0, .null),
  (15, .iconst 1, 16, 0, 0, 0, .int 1),
  (16, .goto 4, 19, 0, 20, 0, .null),
  (19, .iconst 0, 20, 0, 0, 0, .int 0),
  (20, .ireturn, 21, 0, 0, 0, .null)]
def mm_X4_isThing : ev_M := (RX4, "isThing", cX4_isThing, 2, (some .boolean), tb_X4_isThing, 0, 0, 0, 0)
set_option maxRecDepth 100000 in
theorem ok_X4_isThing : ev_OK mm_X4_isThing := by unfold ev_OK; decide +kernel
theorem cv_X4_isThing : ev_CV yX4_isThing mm_X4_isThing 4 1 := ⟨ev_has_in (k := 306) (by decide +kernel), ev_has_in (k := 23) (by decide +kernel), ev_has_in (k := 305) (by decide +kernel), ev_has_in (k := 2) (by decide +kernel), ⟨by decide +kernel, by decide +kernel, by decide +kernel⟩, rfl, by decide⟩
def tb_X4_isThingOrNone : ev_T := [(0, .iload_n 1, 1, 0, 1, 0, .null),
  (1, .iconst (-1), 2, 0, 0, 0, .int (-1)),
  (2, .if_icmp .eq 11, 5, 0, 13, 0, .null),
  (5, .aload_n 0, 6, 0, 0, 0, .null),
  (6, .iload_n 1, 7, 0, 1, 0, .null),
  (7, .invokevirtual 77, 10, 0, 0, 0, .null),
  (10, .ifCond .eq 7, 13, 0, 17, 0, .null),
  (13, .iconst 1, 14, 0, 0, 0, .int 1),
  (14, .goto 4, 17, 0, 18, 0, .null),
  (17, .iconst 0, 18, 0, 0, 0, .int 0),
  (18, .ireturn, 19, 0, 0, 0, .null)]
def mm_X4_isThingOrNone : ev_M := (RX4, "isThingOrNone", cX4_isThingOrNone, 2, (some .boolean), tb_X4_isThingOrNone, 1, 21, 0, 0)
set_option maxRecDepth 100000 in
theorem ok_X4_isThingOrNone : ev_OK mm_X4_isThingOrNone := by unfold ev_OK; decide +kernel
theorem cv_X4_isThingOrNone : ev_CV yX4_isThingOrNone mm_X4_isThingOrNone 4 1 := ⟨ev_has_in (k := 489) (by decide +kernel), ev_has_in (k := 23) (by decide +kernel), ev_has_in (k := 488) (by decide +kernel), ev_has_in (k := 11) (by decide +kernel), ⟨by decide +kernel, by decide +kernel, by decide +kernel⟩, rfl, by decide⟩
def tb_X4_isHand : ev_T := [(0, .iload_n 0, 1, 0, 0, 0, .null),
  (1, .ifCond .lt 12, 4, 0, 13, 0, .null),
  (4, .iload_n 0, 5, 0, 0, 0, .null),
  (5, .iconst 4, 6, 0, 0, 0, .int 4),
  (6, .if_icmp .ge 7, 9, 0, 13, 0, .null),
  (9, .iconst 1, 10, 0, 0, 0, .int 1),
  (10, .goto 4, 13, 0, 14, 0, .null),
  (13, .iconst 0, 14, 0, 0, 0, .int 0),
  (14, .ireturn, 15, 0, 0, 0, .null)]
def mm_X4_isHand : ev_M := (RX4, "isHand", cX4_isHand, 1, (some .boolean), tb_X4_isHand, 0, 0, 0, 0)
set_option maxRecDepth 100000 in
theorem ok_X4_isHand : ev_OK mm_X4_isHand := by unfold ev_OK; decide +kernel
theorem cs_X4_isHand : ev_CS yX4_isHand mm_X4_isHand 1 := ⟨ev_has_in (k := 510) (by decide +kernel), ev_has_in (k := 23) (by decide +kernel), ev_has_in (k := 509) (by decide +kernel), ⟨by decide +kernel, by decide +kernel, by decide +kernel⟩⟩
def tb_X4_isSlot : ev_T := [(0, .iload_n 0, 1, 0, 0, 0, .null),
  (1, .ifCond .lt 12, 4, 0, 13, 0, .null),
  (4, .iload_n 0, 5, 0, 0, 0, .null),
  (5, .iconst 4, 6, 0, 0, 0, .int 4),
  (6, .if_icmp .ge 7, 9, 0, 13, 0, .null),
  (9, .iconst 1, 10, 0, 0, 0, .int 1),
  (10, .goto 4, 13, 0, 14, 0, .null),
  (13, .iconst 0, 14, 0, 0, 0, .int 0),
  (14, .ireturn, 15, 0, 0, 0, .null)]
def mm_X4_isSlot : ev_M := (RX4, "isSlot", cX4_isSlot, 1, (some .boolean), tb_X4_isSlot, 0, 0, 0, 0)
set_option maxRecDepth 100000 in
theorem ok_X4_isSlot : ev_OK mm_X4_isSlot := by unfold ev_OK; decide +kernel
theorem cs_X4_isSlot : ev_CS yX4_isSlot mm_X4_isSlot 1 := ⟨ev_has_in (k := 485) (by decide +kernel), ev_has_in (k := 23) (by decide +kernel), ev_has_in (k := 484) (by decide +kernel), ⟨by decide +kernel, by decide +kernel, by decide +kernel⟩⟩
def tb_X4_isSetting : ev_T := [(0, .iload_n 0, 1, 0, 0, 0, .null),
  (1, .ifCond .lt 12, 4, 0, 13, 0, .null),
  (4, .iload_n 0, 5, 0, 0, 0, .null),
  (5, .iconst 5, 6, 0, 0, 0, .int 5),
  (6, .if_icmp .ge 7, 9, 0, 13, 0, .null),
  (9, .iconst 1, 10, 0, 0, 0, .int 1),
  (10, .goto 4, 13, 0, 14, 0, .null),
  (13, .iconst 0, 14, 0, 0, 0, .int 0),
  (14, .ireturn, 15, 0, 0, 0, .null)]
def mm_X4_isSetting : ev_M := (RX4, "isSetting", cX4_isSetting, 1, (some .boolean), tb_X4_isSetting, 0, 0, 0, 0)
set_option maxRecDepth 100000 in
theorem ok_X4_isSetting : ev_OK mm_X4_isSetting := by unfold ev_OK; decide +kernel
theorem cs_X4_isSetting : ev_CS yX4_isSetting mm_X4_isSetting 1 := ⟨ev_has_in (k := 344) (by decide +kernel), ev_has_in (k := 23) (by decide +kernel), ev_has_in (k := 343) (by decide +kernel), ⟨by decide +kernel, by decide +kernel, by decide +kernel⟩⟩
def tb_X4_mostOf : ev_T := [(0, .iload_n 0, 1, 0, 0, 0, .null),
  (1, .iconst 3, 2, 0, 0, 0, .int 3),
  (2, .if_icmp .ge 6, 5, 0, 8, 0, .null),
  (5, .bipush 20, 7, 0, 0, 0, .int 20),
  (7, .ireturn, 8, 0, 0, 0, .null),
  (8, .iload_n 0, 9, 0, 0, 0, .null),
  (9, .iconst 3, 10, 0, 0, 0, .int 3),
  (10, .if_icmp .ne 7, 13, 0, 17, 0, .null),
  (13, .iconst 1, 14, 0, 0, 0, .int 1),
  (14, .goto 5, 17, 0, 19, 0, .null),
  (17, .bipush 50, 19, 0, 0, 0, .int 50),
  (19, .ireturn, 20, 0, 0, 0, .null)]
def mm_X4_mostOf : ev_M := (RX4, "mostOf", cX4_mostOf, 1, (some .int), tb_X4_mostOf, 0, 0, 0, 0)
set_option maxRecDepth 100000 in
theorem ok_X4_mostOf : ev_OK mm_X4_mostOf := by unfold ev_OK; decide +kernel
theorem cs_X4_mostOf : ev_CS yX4_mostOf mm_X4_mostOf 1 := ⟨ev_has_in (k := 348) (by decide +kernel), ev_has_in (k := 23) (by decide +kernel), ev_has_in (k := 347) (by decide +kernel), ⟨by decide +kernel, by decide +kernel, by decide +kernel⟩⟩
def tb_X4_placeOf : ev_T := [(0, .iconst 4, 1, 0, 0, 0, .int 4),
  (1, .iconst 4, 2, 0, 0, 0, .int 4),
  (2, .iload_n 0, 3, 0, 0, 0, .null),
  (3, .imul, 4, 0, 0, 0, .null),
  (4, .iadd, 5, 0, 0, 0, .null),
  (5, .iload_n 1, 6, 0, 1, 0, .null),
  (6, .iadd, 7, 0, 0, 0, .null),
  (7, .ireturn, 8, 0, 0, 0, .null)]
def mm_X4_placeOf : ev_M := (RX4, "placeOf", cX4_placeOf, 2, (some .int), tb_X4_placeOf, 0, 0, 0, 0)
set_option maxRecDepth 100000 in
theorem ok_X4_placeOf : ev_OK mm_X4_placeOf := by unfold ev_OK; decide +kernel
theorem cs_X4_placeOf : ev_CS yX4_placeOf mm_X4_placeOf 2 := ⟨ev_has_in (k := 397) (by decide +kernel), ev_has_in (k := 23) (by decide +kernel), ev_has_in (k := 396) (by decide +kernel), ⟨by decide +kernel, by decide +kernel, by decide +kernel⟩⟩
def tb_X4_isIn : ev_T := [(0, .iload_n 0, 1, 0, 0, 0, .null),
  (1, .iload_n 1, 2, 0, 1, 0, .null),
  (2, .ishr, 3, 0, 0, 0, .null),
  (3, .iconst 1, 4, 0, 0, 0, .int 1),
  (4, .iand, 5, 0, 0, 0, .null),
  (5, .ifCond .eq 7, 8, 0, 12, 0, .null),
  (8, .iconst 1, 9, 0, 0, 0, .int 1),
  (9, .goto 4, 12, 0, 13, 0, .null),
  (12, .iconst 0, 13, 0, 0, 0, .int 0),
  (13, .ireturn, 14, 0, 0, 0, .null)]
def mm_X4_isIn : ev_M := (RX4, "isIn", cX4_isIn, 2, (some .boolean), tb_X4_isIn, 0, 0, 0, 0)
set_option maxRecDepth 100000 in
theorem ok_X4_isIn : ev_OK mm_X4_isIn := by unfold ev_OK; decide +kernel
theorem cs_X4_isIn : ev_CS yX4_isIn mm_X4_isIn 2 := ⟨ev_has_in (k := 329) (by decide +kernel), ev_has_in (k := 23) (by decide +kernel), ev_has_in (k := 328) (by decide +kernel), ⟨by decide +kernel, by decide +kernel, by decide +kernel⟩⟩
theorem ml_X4_11 : ev_ml RX4 11 yX3_init := Or.inl (ev_has_in (k := 47) (by decide +kernel))
theorem ml_X4_28 : ev_ml RX4 28 yX2_init := Or.inl (ev_has_in (k := 150) (by decide +kernel))
theorem ml_X4_49 : ev_ml RX4 49 yX4_save := Or.inl (ev_has_in (k := 274) (by decide +kernel))
theorem ml_X4_52 : ev_ml RX4 52 yX3_bring := Or.inl (ev_has_in (k := 295) (by decide +kernel))
theorem ml_X4_56 : ev_ml RX4 56 yX4_isHand := Or.inl (ev_has_in (k := 508) (by decide +kernel))
theorem ml_X4_60 : ev_ml RX4 60 yX4_isThingOrNone := Or.inl (ev_has_in (k := 486) (by decide +kernel))
theorem ml_X4_68 : ev_ml RX4 68 yX3_mayBeHeld := Or.inl (ev_has_in (k := 491) (by decide +kernel))
theorem ml_X4_73 : ev_ml RX4 73 yX3_change := Or.inl (ev_has_in (k := 497) (by decide +kernel))
theorem ml_X4_77 : ev_ml RX4 77 yX4_isThing := Or.inl (ev_has_in (k := 303) (by decide +kernel))
theorem ml_X4_80 : ev_ml RX4 80 yX4_isSlot := Or.inl (ev_has_in (k := 483) (by decide +kernel))
theorem ml_X4_85 : ev_ml RX4 85 yX3_lives := Or.inl (ev_has_in (k := 323) (by decide +kernel))
theorem ml_X4_90 : ev_ml RX4 90 yX4_placeOf := Or.inl (ev_has_in (k := 496) (by decide +kernel))
theorem ml_X4_103 : ev_ml RX4 103 yX4_isIn := Or.inl (ev_has_in (k := 330) (by decide +kernel))
theorem ml_X4_109 : ev_ml RX4 109 yJ6_bitCount_0f7a4 := Or.inl (ev_has_in (k := 332) (by decide +kernel))
theorem ml_X4_114 : ev_ml RX4 114 yX4_isSetting := Or.inl (ev_has_in (k := 342) (by decide +kernel))
theorem ml_X4_119 : ev_ml RX4 119 yX4_mostOf := Or.inl (ev_has_in (k := 346) (by decide +kernel))
theorem ml_X4_135 : ev_ml RX4 135 yX3_passTicks := Or.inl (ev_has_in (k := 356) (by decide +kernel))
theorem ml_X4_138 : ev_ml RX4 138 yX3_holdTrial := Or.inl (ev_has_in (k := 464) (by decide +kernel))
theorem ml_X4_184 : ev_ml RX4 184 yX3_property := Or.inl (ev_has_in (k := 551) (by decide +kernel))
theorem ml_X4_193 : ev_ml RX4 193 yX0_at := Or.inl (ev_has_in (k := 588) (by decide +kernel))
theorem ml_X4_204 : ev_ml RX4 204 yX1_underWay := Or.inl (ev_has_in (k := 598) (by decide +kernel))
theorem ml_X4_213 : ev_ml RX4 213 yX1_part := Or.inl (ev_has_in (k := 604) (by decide +kernel))
theorem ml_X4_226 : ev_ml RX4 226 yX3_total := Or.inl (ev_has_in (k := 609) (by decide +kernel))
theorem ml_X4_231 : ev_ml RX4 231 yX4_foresee := Or.inl (ev_has_in (k := 650) (by decide +kernel))
theorem ml_X4_235 : ev_ml RX4 235 yX4_passedPart := Or.inl (ev_has_in (k := 654) (by decide +kernel))
theorem ml_X4_238 : ev_ml RX4 238 yX4_foreseenEnd := Or.inl (ev_has_in (k := 663) (by decide +kernel))
theorem ml_X4_243 : ev_ml RX4 243 yX4_foreseeTrial := Or.inl (ev_has_in (k := 684) (by decide +kernel))
theorem ml_X4_246 : ev_ml RX4 246 yX4_triedPart := Or.inl (ev_has_in (k := 688) (by decide +kernel))
theorem ml_X4_249 : ev_ml RX4 249 yX0_ringOf := Or.inl (ev_has_in (k := 578) (by decide +kernel))
theorem ml_X4_254 : ev_ml RX4 254 yX0_cutWithMostLost := Or.inl (ev_has_in (k := 697) (by decide +kernel))
theorem ml_X4_257 : ev_ml RX4 257 yX0_lostWithout := Or.inl (ev_has_in (k := 707) (by decide +kernel))
theorem ml_X4_260 : ev_ml RX4 260 yX4_slandersToEnd := Or.inl (ev_has_in (k := 671) (by decide +kernel))
theorem ml_X4_178 : ev_ml RX4 178 yX3_copyFrom := Or.inl (ev_has_in (k := 278) (by decide +kernel))
theorem ml_X4_310 : ev_ml RX4 310 yX0_reached := Or.inl (ev_has_in (k := 658) (by decide +kernel))
theorem ml_X4_97 : ev_ml RX4 97 yX3_lie := Or.inl (ev_has_in (k := 675) (by decide +kernel))
end
section
/-! numbers and folds -/
theorem ev_to {μ : ev_M} {N0 : Option Nat} {X : ev_X} {pc : Nat} {L L' : ev_L} {st st' : List Value} {w w' : List ev_E} {kc ks : Nat} (k : ev_V μ N0 X pc L' st' w' kc ks) (hL : L = L') (hs : st = st') (hw : w = w') : ev_V μ N0 X pc L st w kc ks := by
  subst hL; subst hs; subst hw; exact k
def ev_b (b : Bool) : Int32 := match b with
  | true => 1
  | false => 0
theorem ev_bn (b : Bool) : narrow .boolean (.int (ev_b b)) = .int (ev_b b) := by cases b <;> rfl
theorem ev_b0 {b : Bool} (h : ev_b b = 0) : b = false := by
  cases b with
  | false => rfl
  | true => exact absurd h (by decide)
theorem ev_b1 {b : Bool} (h : ¬ ev_b b = 0) : b = true := by
  cases b with
  | true => rfl
  | false => exact absurd rfl h
theorem ni_nat {k : Nat} (h : k < 2147483648) : (nI k).toNatClampNeg = k := by
  unfold nI
  have h1 : (Int32.ofNat k).toInt = (k : Int) := Int32.toInt_ofNat_of_lt h
  unfold Int32.toNatClampNeg
  rw [h1]
  rfl
theorem ni_int {k : Nat} (h : k < 2147483648) : (nI k).toInt = (k : Int) := Int32.toInt_ofNat_of_lt h
theorem ni_lt {a b : Nat} (ha : a < 2147483648) (hb : b < 2147483648) : nI a < nI b ↔ a < b := by
  rw [Int32.lt_iff_toInt_lt, ni_int ha, ni_int hb]
  omega
theorem ni_le {a b : Nat} (ha : a < 2147483648) (hb : b < 2147483648) : nI a ≤ nI b ↔ a ≤ b := by
  rw [Int32.le_iff_toInt_le, ni_int ha, ni_int hb]
  omega
theorem ni_eq {a b : Nat} (ha : a < 2147483648) (hb : b < 2147483648) : nI a = nI b ↔ a = b := by
  constructor
  · intro h
    have := congrArg Int32.toInt h
    rw [ni_int ha, ni_int hb] at this
    omega
  · intro h; rw [h]
theorem ni_nle {k N : Nat} (h : k < N) (hN : N < 2147483648) : ¬ nI N ≤ nI k := by
  rw [ni_le hN (by omega)]; omega
theorem ni_nlt {k N : Nat} (h : N ≤ k) (hk : k < 2147483648) : ¬ nI k < nI N := by
  rw [ni_lt hk (by omega)]; omega
theorem ni_1 (k : Nat) : nI k + 1 = nI (k + 1) := by
  unfold nI
  rw [Int32.ofNat_add]
  rfl
theorem ni_in {k n : Nat} (h : k < n) (hk : k < 2147483648) : vp_in (nI k) n := by
  unfold vp_in
  rw [ni_nat hk]
  intro q
  rcases q with q | q
  · exact ni_nlt (N := 0) (Nat.zero_le k) hk q
  · omega
theorem ni_of {x : Int32} (h : ¬ x < 0) : x = nI x.toNatClampNeg := by
  have h1 : ¬ x.toInt < 0 := fun q => h (Int32.lt_iff_toInt_lt.mpr (by simpa using q))
  apply Int32.toInt_inj.mp
  have h2 : x.toInt < 2147483648 := Int32.toInt_lt x
  have h3 : x.toNatClampNeg < 2147483648 := by unfold Int32.toNatClampNeg; omega
  rw [ni_int h3]
  unfold Int32.toNatClampNeg
  omega
theorem ni_lt31 (x : Int32) : x.toNatClampNeg < 2147483648 := by
  have h2 : x.toInt < 2147483648 := Int32.toInt_lt x
  unfold Int32.toNatClampNeg; omega
theorem vp_of {x : Int32} {n : Nat} (h1 : ¬ x < 0) (hn : n < 2147483648) (h2 : ¬ nI n ≤ x) : vp_in x n := by
  intro q
  rcases q with q | q
  · exact h1 q
  · apply h2
    rw [ni_of h1, ni_le hn (ni_lt31 x)]
    exact q
def fo_it {α : Type} : Nat → (Nat → α → α) → α → α
  | 0, _, s => s
  | n + 1, f, s => f n (fo_it n f s)
theorem fo_S {α : Type} (n : Nat) (f : Nat → α → α) (s : α) : fo_it (n + 1) f s = f n (fo_it n f s) := rfl
end
section
/-! System.arraycopy over rows of ints -/
theorem ev_sysw : (Jvm.Cond.native arraycopyName ∈ ev_WA ∧ Jvm.Cond.static arraycopyName ∈ ev_WA) ∧ Jvm.Cond.initialized "java/lang/System" ∈ ev_WA := by
  refine ⟨⟨List.mem_filter.mpr ⟨?_, ?_⟩, List.mem_filter.mpr ⟨?_, ?_⟩⟩, List.mem_filter.mpr ⟨?_, ?_⟩⟩ <;> decide +kernel
theorem ev_cpy {μ : ev_M} {N0 : Option Nat} {X : ev_X} {pc : Nat} {L : ev_L} {rest : List Value} {w : List ev_E} {kc ks idx nx k x yy n0 n1 a0 a : Nat} {v : Value} {sp dp n : Int32} {f g : Nat → Int32}
    (hl : Jvm.Cond.methodLink (ev_own μ) idx arraycopyName ∈ ev_WA) (hlk : ev_look (ev_tab μ) pc = some (.invokestatic idx, nx, k, x, yy, v)) (h0 : ev_wg w a0 = some (.inl (0, n0, .inl f))) (h1 : ev_wg w a = some (.inl (0, n1, .inl g)))
    (hc : ¬ sp < 0 ∧ ¬ dp < 0 ∧ ¬ n < 0 ∧ sp.toNatClampNeg + n.toNatClampNeg ≤ n0 ∧ dp.toNatClampNeg + n.toNatClampNeg ≤ n1) (hW : (rest.map fun v => v.category).sum ≤ 8) (hR : 1 ≤ ev_fr μ ∧ 8 + (nativeFrameWords "java/lang/System" "arraycopy" 5 + 11) ≤ ev_lo μ)
    (kk : ev_V μ N0 X (pc + 3) L rest (ev_ws w a (.inl (0, n1, .inl (va_cpy f g sp.toNatClampNeg dp.toNatClampNeg n.toNatClampNeg)))) kc ks) : ev_V μ N0 X pc L (.int n :: .int dp :: .ref a :: .int sp :: .ref a0 :: rest) w kc ks := by
  intro p l e R s m args below meth c D ct ad0 A Q hi hx ad H locs ls I
  have hi' := hi
  obtain ⟨hP, hD, hS, hE, hL⟩ := I
  obtain ⟨hok, ⟨hx1, hb, hml, hr, hown, hts, hlocks, hnm, hR1, hR2, -⟩, hK, hA⟩ := hi
  obtain ⟨hd, -, -⟩ := ev_use hok hlk
  rw [ev_wg_eq] at h0 h1
  have g0 := ev_lay_get (ad := ad) (ct := ct) h0
  have g1 := ev_lay_get (ad := ad) (ct := ct) h1
  refine va_copyi (t0 := 0) (t1 := 0) (ty := .int) hx1 hb (hml.trans hL.1.symm) hown (hts _ hl) (hts _ ev_sysw.1.1) (hts _ ev_sysw.1.2) (hts _ ev_sysw.2) hK hP hD hS a0 a g0 g1 rfl rfl rfl hc.1 hc.2.1 hc.2.2.1 hc.2.2.2.1 hc.2.2.2.2 (fun _ _ => rfl) (Nat.le_trans hR.1 hR1) ?_ hd ?_
  · rw [ev_sum_cat]
    have h2 := hR.2
    omega
  · intro H1 locs1 q1 q2 q3
    have ee : ev_ce ad ct (.inl (0, n1, .inl (va_cpy f g sp.toNatClampNeg dp.toNatClampNeg n.toNatClampNeg))) = .inl (ct 0, n1, .inl (va_cpy f g sp.toNatClampNeg dp.toNatClampNeg n.toNatClampNeg)) := rfl
    rw [← ee, ev_lay_set, ← ev_ws_eq] at q1 q2
    exact kk p l e R s m args below meth c D ct ad0 A Q hi' hx ad H1 locs1 ls ⟨q1, q2, q3, hE, hL⟩
/-- Met.ofW for a method of a class some of whose methods the machine overrides, itself not among them -/
theorem ev_ofWF {l : Launch} {y : MethodName} {ws ws' : List Jvm.Cond} {rm : Room} {Pc : Array Value → State → Prop} {Qc : Array Value → State → Outcome → State → Prop} {mc ms : Nat} {free : Addr → Prop} {cc : ByteArray} {maxL : Nat} {ret : Option FieldType}
    (hy : plainFor y = true) (hw : ws = Cond.code y cc maxL ret :: ws')
    (body : ∀ p e s m args below meth c s₁, BodyLoose p l y (headSpec ws rm) cc maxL ret e s m args below meth c s₁ → c.maxLocals = maxL → Pc args s →
      W p l e (headSpec ws rm).room s m args below meth c s.heap [] 0 0 (MQ below Qc args s mc ms free) (entryFrame m args maxL)) : Met l y ws rm Pc Qc mc ms free := by
  refine MetFree.of_bodySF (code := cc) (maxLocals := maxL) (ret := ret) hy ?_ ?_
  · intro args s m h hn
    obtain ⟨meth, c, h1, h2, h3, h4, h5, h6, -, -⟩ := Cond.code_spec hn (atoms_spec (ws := ws) h _ (by rw [hw]; exact List.mem_cons_self))
    exact ⟨meth, c, h1, h2, h3, h4, h5, h6⟩
  · intro p e s m args below meth c s₁ B hml hP _
    have hh0 : s₁.heap = s.heap := by rw [B.state]; rfl
    obtain ⟨t, a1, o, b1, b2, b3⟩ := body p e s m args below meth c s₁ B hml hP s₁ hh0 (Stand.of_body B)
    exact ⟨t, o, a1, b1, b2, ⟨b3.1, b3.2⟩⟩
set_option maxHeartbeats 1000000 in
theorem ev_startF {y : MethodName} {μ : ev_M} {N0 : Option Nat} {as : List Value} {w : List ev_E} {post : Option Value → List ev_E → Prop} (hok : ev_OK μ) (hy : plainFor y = true) (hc : y.cls = ev_own μ) (hn : y.name = ev_mn μ) (hsl : (lg_sl as).length ≤ ev_nL μ) (k : ev_V μ N0 (ev_XR μ post) 0 (ev_ent as (ev_nL μ)) [] w 0 0) : ev_A y μ N0 as w post := by
  intro l D ct ad sz
  refine ev_ofWF (cc := ev_cc μ) (maxL := ev_nL μ) (ret := ev_rt μ) hy rfl ?_
  intro p e s m args below meth c s₁ B hml hv
  obtain ⟨rfl, hsz, hP, hK, hD0⟩ := hv
  have hts := atoms_spec (ws := ev_wsm y μ) B.pre
  have hD := hD0.self (sz := s.heap.size)
  subst hsz
  have hsl2 : (lg_sl (as.map (ev_cv ad))).length ≤ ev_nL μ := by
    have : (lg_sl (as.map (ev_cv ad))).length = (lg_sl as).length := by
      clear k hsl hP hD hD0 B hts
      induction as with
      | nil => rfl
      | cons a l ih =>
        unfold lg_sl at ih ⊢
        rw [List.map_cons, List.flatMap_cons, List.flatMap_cons, List.length_append, List.length_append, ih, ev_cv_cat]
        by_cases h : a.category = 2 <;> simp [h]
    omega
  have hl := lv_entry (as.map (ev_cv ad)) (n := ev_nL μ) hsl2
  rw [lg_entry_eq]
  refine k p l e _ s m _ below meth c D ct ad _ _ ⟨hok, ⟨B.exec, B.bytes, hml, B.returns, hc ▸ findClass_of_methodNamed B.named, fun w hw => hts w (List.mem_cons_of_mem _ hw), B.notSynchronized, (name_of_methodNamed B.named B.method).1.trans hn, Nat.le_refl _, Nat.le_refl _, Nat.le_refl _, Nat.le_refl _⟩, hK, fun q hq => Or.inr hq⟩ ?_ ad s.heap [] _ ⟨hP, hD, va_S.rf, (by cases N0 with
    | none => rfl
    | some n => exact fun _ _ => rfl), ev_LH.of hl (fun i v h => by simpa using ev_ent_ok ad as (ev_nL μ) 0 i v h)⟩
  intro pc' L' st' w' kc' ks' hX ad' H locs ls I
  obtain ⟨i, r, hlk, hrk, hpost, hkc, hks⟩ := hX
  obtain ⟨ins, nx, kk, x, yy, v⟩ := i
  obtain ⟨hd, -, -⟩ := ev_use hok hlk
  obtain ⟨hP2, hD2, hS2, hE2, -⟩ := I
  refine W.widen hkc hks ?_
  have hr := B.returns
  have hlocks := B.notSynchronized
  unfold ev_rk at hrk
  dsimp only at hrk
  split at hrk
  · obtain ⟨rfl, hrt⟩ := hrk
    rcases hrt with hrt | ⟨hrt, hnar⟩
    · exact W.iret B.exec B.bytes (hr.trans hrt) (fun t ht hW => ⟨⟨_, w', ad', rfl, hpost, hE2, by rw [ht]; exact hP2, va_K.moved hW.alike hK, hD2⟩, hS2.F ht⟩) hS2.2.2 hd
    · exact W.zret B.exec B.bytes (hr.trans hrt) hnar (fun t ht hW => ⟨⟨_, w', ad', rfl, hpost, hE2, by rw [ht]; exact hP2, va_K.moved hW.alike hK, hD2⟩, hS2.F ht⟩) hS2.2.2 hd
  · obtain ⟨rfl, hrt⟩ := hrk
    exact W.lret B.exec B.bytes (hr.trans hrt) (fun t ht hW => ⟨⟨_, w', ad', rfl, hpost, hE2, by rw [ht]; exact hP2, va_K.moved hW.alike hK, hD2⟩, hS2.F ht⟩) hS2.2.2 hd
  · obtain ⟨rfl, hrt⟩ := hrk
    exact W.dret B.exec B.bytes (hr.trans hrt) (fun t ht hW => ⟨⟨_, w', ad', rfl, hpost, hE2, by rw [ht]; exact hP2, va_K.moved hW.alike hK, hD2⟩, hS2.F ht⟩) hS2.2.2 hd
  · obtain ⟨rfl, hrt⟩ := hrk
    exact W.vret B.exec B.bytes (hr.trans hrt) (fun t ht hW => ⟨⟨_, w', ad', rfl, hpost, hE2, by rw [ht]; exact hP2, va_K.moved hW.alike hK, hD2⟩, hS2.F ht⟩) hS2.2.2 hd
  · exact hrk.elim
end
section
/-! fewer locals known; rows of ints that agree as far as they go -/
def ev_sub : ev_L → ev_L → Prop
  | [], _ => True
  | none :: l, _ :: m => ev_sub l m
  | some v :: l, some u :: m => u = v ∧ ev_sub l m
  | _ :: _, _ => False
theorem ev_sub_nth {L' L : ev_L} (h : ev_sub L' L) : ∀ i v, ev_nth L' i = some v → ev_nth L i = some v := by
  induction L' generalizing L with
  | nil => intro i v hv; cases hv
  | cons x l ih =>
    intro i v hv
    cases L with
    | nil => cases x <;> exact h.elim
    | cons y m =>
      cases x with
      | none =>
        cases i with
        | zero => cases hv
        | succ i => exact ih h i v hv
      | some a =>
        cases y with
        | none => exact h.elim
        | some b =>
          cases i with
          | zero => cases hv; exact congrArg some h.1
          | succ i => exact ih h.2 i v hv
theorem ev_to2 {μ : ev_M} {N0 : Option Nat} {X : ev_X} {pc : Nat} {L L' : ev_L} {st st' : List Value} {w w' : List ev_E} {kc ks : Nat} (k : ev_V μ N0 X pc L' st' w' kc ks) (hL : ev_sub L' L) (hs : st = st') (hw : w = w') : ev_V μ N0 X pc L st w kc ks := by
  subst hs; subst hw
  intro p l e R s m args below meth c D ct ad0 A Q h0 hx ad H locs ls I
  exact k p l e R s m args below meth c D ct ad0 A Q h0 hx ad H locs ls ⟨I.1, I.2.1, I.2.2.1, I.2.2.2.1, I.2.2.2.2.1, I.2.2.2.2.2.1, fun i v hv => I.2.2.2.2.2.2 i v (ev_sub_nth hL i v hv)⟩
theorem ev_vpc {cA : ClassId} {n : Nat} {f g : Nat → Int32} (h : ∀ k, k < n → f k = g k) : vp_cell cA (n, .inl f) = vp_cell cA (n, .inl g) := by
  rw [vp_cell_i, vp_cell_i]
  unfold arrV
  have : (fun j : Fin n => Value.int (f j.val)) = fun j : Fin n => Value.int (g j.val) := funext fun j => by rw [h j.val j.isLt]
  rw [this]
theorem ev_nrm {μ : ev_M} {N0 : Option Nat} {X : ev_X} {pc : Nat} {L : ev_L} {st : List Value} {w : List ev_E} {kc ks : Nat} (k : Nat) {n : Nat} {f : Nat → Int32} (g : Nat → Int32) (hw : ev_wg w k = some (.inl (0, n, .inl f))) (hf : ∀ j, j < n → f j = g j) (kk : ev_V μ N0 X pc L st (ev_ws w k (.inl (0, n, .inl g))) kc ks) : ev_V μ N0 X pc L st w kc ks := by
  intro p l e R s m args below meth c D ct ad0 A Q h0 hx ad H locs ls I
  obtain ⟨hP, hD, hS, hE, hL⟩ := I
  rw [ev_wg_eq] at hw
  refine kk p l e R s m args below meth c D ct ad0 A Q h0 hx ad H locs ls ⟨?_, ?_, hS, hE, hL⟩
  · intro j q hq
    obtain ⟨E, h1, rfl⟩ := ev_lay_inv hq
    rw [ev_ws_eq, List.getElem?_set] at h1
    by_cases hj : k = j
    · subst hj
      rw [if_pos rfl] at h1
      split at h1
      · cases h1
        have h2 := hP k _ (ev_lay_get hw)
        have h3 : H[ad k]? = some (vp_cell (ct 0) (n, .inl f)) := h2
        rw [ev_vpc hf] at h3
        exact h3
      · cases h1
    · rw [if_neg hj] at h1
      exact hP j _ (ev_lay_get h1)
  · have hin : ∀ (j : Nat) (E : ev_E), (ev_ws w k (.inl (0, n, .inl g)))[j]? = some E → ∃ E0, w[j]? = some E0 := by
      intro j E h
      have h1 := (List.getElem?_eq_some_iff.mp h).1
      rw [ev_ws_eq, List.length_set] at h1
      exact ⟨_, List.getElem?_eq_getElem h1⟩
    refine ⟨fun i j a b hi hj hab => ?_, fun j q hq => ?_⟩
    · obtain ⟨E1, h1, rfl⟩ := ev_lay_inv hi
      obtain ⟨E2, h2, rfl⟩ := ev_lay_inv hj
      obtain ⟨F1, g1⟩ := hin i E1 h1
      obtain ⟨F2, g2⟩ := hin j E2 h2
      exact hD.1 i j (ad i, ev_ce ad ct F1) (ad j, ev_ce ad ct F2) (ev_lay_get g1) (ev_lay_get g2) hab
    · obtain ⟨E1, h1, rfl⟩ := ev_lay_inv hq
      obtain ⟨F1, g1⟩ := hin j E1 h1
      exact hD.2 j (ad j, ev_ce ad ct F1) (ev_lay_get g1)
theorem ni_ge0 {p : Int32} (h : ¬ p < 0) : 0 ≤ p.toInt := by
  have : ¬ p.toInt < 0 := fun q => h (Int32.lt_iff_toInt_lt.mpr (by simpa using q))
  omega
theorem am_next {p : Int32} {n : Nat} (h1 : ¬ p < 0) (h3 : ¬ (100 : Int32) ≤ p) (hm : 0 ≤ p.toInt → 100 < p.toInt + ((n + 1 : Nat) : Int)) : 0 ≤ (p + 1).toInt → 100 < (p + 1).toInt + (n : Int) := by
  intro _
  have e := ni_of h1
  have hlt : p.toNatClampNeg < 2147483648 := ni_lt31 p
  have h4 : ¬ 100 ≤ p.toNatClampNeg := by
    intro q
    apply h3
    rw [e]
    exact (ni_le (a := 100) (by decide) hlt).mpr q
  have e2 : (p + 1).toInt = p.toInt + 1 := by
    rw [e, ni_1, ni_int (by omega), ni_int (by omega)]
    omega
  have := hm (ni_ge0 h1)
  omega
theorem am_last {p : Int32} (h1 : ¬ p < 0) (h3 : ¬ (100 : Int32) ≤ p) : ¬ (0 ≤ p.toInt → 100 < p.toInt + ((0 : Nat) : Int)) := by
  intro hm
  have := hm (ni_ge0 h1)
  apply h3
  rw [Int32.le_iff_toInt_le]
  have : (100 : Int32).toInt = 100 := rfl
  omega
end
section
/-! small functions: isIn, placeOf, and the JDK's -/
def st_in (s t : Int32) : Bool := !decide ((s >>> (t &&& 31)) &&& 1 = 0)
def st_pl (t s : Int32) : Int32 := 4 + 4 * t + s
def jd_nz1 (q : Int32 × Int32) : Int32 × Int32 := if q.2 ≤ 65536 then q else (q.1 + 16, (q.2.toUInt32 >>> (Int32.toUInt32 16 &&& Int32.toUInt32 31)).toInt32)
def jd_nz2 (q : Int32 × Int32) : Int32 × Int32 := if q.2 ≤ 256 then q else (q.1 + 8, (q.2.toUInt32 >>> (Int32.toUInt32 8 &&& Int32.toUInt32 31)).toInt32)
def jd_nz3 (q : Int32 × Int32) : Int32 × Int32 := if q.2 ≤ 16 then q else (q.1 + 4, (q.2.toUInt32 >>> (Int32.toUInt32 4 &&& Int32.toUInt32 31)).toInt32)
def jd_nz4 (q : Int32 × Int32) : Int32 × Int32 := if q.2 ≤ 4 then q else (q.1 + 2, (q.2.toUInt32 >>> (Int32.toUInt32 2 &&& Int32.toUInt32 31)).toInt32)
def jd_ntz (x0 : Int32) : Int32 :=
  let x := (x0 ^^^ -1) &&& (x0 - 1)
  if 0 < x then
    let q := jd_nz4 (jd_nz3 (jd_nz2 (jd_nz1 (1, x))))
    q.1 + (q.2.toUInt32 >>> (Int32.toUInt32 1 &&& Int32.toUInt32 31)).toInt32
  else x &&& 32
def jd_us (x : Int32) (k : Int32) : Int32 := (x.toUInt32 >>> (k.toUInt32 &&& Int32.toUInt32 31)).toInt32
def jd_bc (x0 : Int32) : Int32 :=
  let x1 := x0 - (jd_us x0 1 &&& 1431655765)
  let x2 := (x1 &&& 858993459) + (jd_us x1 2 &&& 858993459)
  let x3 := (x2 + jd_us x2 4) &&& 252645135
  let x4 := x3 + jd_us x3 8
  let x5 := x4 + jd_us x4 16
  x5 &&& 63
def jd_fm (x y : Int32) : Int32 := if 0 ≤ (x ^^^ y) then x - x / y * y else if x - x / y * y = 0 then x - x / y * y else x - x / y * y + y

set_option maxRecDepth 20000 in
theorem t_X4_isIn (s t : Int32) : ev_A yX4_isIn mm_X4_isIn none [.int s, .int t] (([] : List ev_E)) (fun r w => r = some (.int (ev_b (st_in s t))) ∧ w = []) := by
  refine ev_start ok_X4_isIn (by decide +kernel) rfl rfl (Nat.le_of_ble_eq_true rfl) ?_
  refine ev_run [] 5 rfl trivial ?_
  refine ev_br rfl rfl (fun h1 => ?_) (fun h1 => ?_)
  · refine ev_run [] 1 rfl trivial ?_
    refine ev_exit ⟨_, _, rfl, ⟨rfl, Or.inr ⟨rfl, rfl⟩⟩, ?_, Nat.le_refl _, Nat.le_refl _⟩
    exact ⟨by simp [st_in, ev_b, h1], rfl⟩
  · refine ev_run [] 2 rfl trivial ?_
    refine ev_exit ⟨_, _, rfl, ⟨rfl, Or.inr ⟨rfl, rfl⟩⟩, ?_, Nat.le_refl _, Nat.le_refl _⟩
    exact ⟨by simp [st_in, ev_b, h1], rfl⟩

set_option maxRecDepth 20000 in
theorem t_X4_placeOf (t s : Int32) : ev_A yX4_placeOf mm_X4_placeOf none [.int t, .int s] (([] : List ev_E)) (fun r w => r = some (.int (st_pl t s)) ∧ w = []) := by
  refine ev_start ok_X4_placeOf (by decide +kernel) rfl rfl (Nat.le_of_ble_eq_true rfl) ?_
  refine ev_run [] 7 rfl trivial ?_
  refine ev_exit ⟨_, _, rfl, ⟨rfl, Or.inl rfl⟩, ?_, Nat.le_refl _, Nat.le_refl _⟩
  exact ⟨rfl, rfl⟩

set_option maxRecDepth 20000 in
theorem t_J6_numberOfTrailingZeros_0f7a4 (x : Int32) : ev_A yJ6_numberOfTrailingZeros_0f7a4 mm_J6_numberOfTrailingZeros_0f7a4 none [.int x] (([] : List ev_E)) (fun r w => r = some (.int (jd_ntz x)) ∧ w = []) := by
  refine ev_start ok_J6_numberOfTrailingZeros_0f7a4 (by decide +kernel) rfl rfl (Nat.le_of_ble_eq_true rfl) ?_
  refine ev_run [] 9 rfl trivial ?_
  refine ev_br rfl rfl (fun h1 => ?_) (fun h1 => ?_)
  · refine ev_run [] 4 rfl trivial ?_
    refine ev_br rfl rfl (fun h2 => ?_) (fun h2 => ?_)
    · refine ev_run [] 2 rfl trivial ?_
      refine ev_br rfl rfl (fun h3 => ?_) (fun h3 => ?_)
      · refine ev_run [] 2 rfl trivial ?_
        refine ev_br rfl rfl (fun h4 => ?_) (fun h4 => ?_)
        · refine ev_run [] 2 rfl trivial ?_
          refine ev_br rfl rfl (fun h5 => ?_) (fun h5 => ?_)
          · refine ev_run [] 5 rfl trivial ?_
            refine ev_exit ⟨_, _, rfl, ⟨rfl, Or.inl rfl⟩, ?_, Nat.le_refl _, Nat.le_refl _⟩
            exact ⟨by simp only [jd_ntz, jd_nz1, jd_nz2, jd_nz3, jd_nz4, ↓reduceIte, h1, h2, h3, h4, h5], rfl⟩
          · refine ev_run [] 10 rfl trivial ?_
            refine ev_exit ⟨_, _, rfl, ⟨rfl, Or.inl rfl⟩, ?_, Nat.le_refl _, Nat.le_refl _⟩
            exact ⟨by simp only [jd_ntz, jd_nz1, jd_nz2, jd_nz3, jd_nz4, ↓reduceIte, h1, h2, h3, h4, h5], rfl⟩
        · refine ev_run [] 7 rfl trivial ?_
          refine ev_br rfl rfl (fun h6 => ?_) (fun h6 => ?_)
          · refine ev_run [] 5 rfl trivial ?_
            refine ev_exit ⟨_, _, rfl, ⟨rfl, Or.inl rfl⟩, ?_, Nat.le_refl _, Nat.le_refl _⟩
            exact ⟨by simp only [jd_ntz, jd_nz1, jd_nz2, jd_nz3, jd_nz4, ↓reduceIte, h1, h2, h3, h4, h6], rfl⟩
          · refine ev_run [] 10 rfl trivial ?_
            refine ev_exit ⟨_, _, rfl, ⟨rfl, Or.inl rfl⟩, ?_, Nat.le_refl _, Nat.le_refl _⟩
            exact ⟨by simp only [jd_ntz, jd_nz1, jd_nz2, jd_nz3, jd_nz4, ↓reduceIte, h1, h2, h3, h4, h6], rfl⟩
      · refine ev_run [] 7 rfl trivial ?_
        refine ev_br rfl rfl (fun h7 => ?_) (fun h7 => ?_)
        · refine ev_run [] 2 rfl trivial ?_
          refine ev_br rfl rfl (fun h8 => ?_) (fun h8 => ?_)
          · refine ev_run [] 5 rfl trivial ?_
            refine ev_exit ⟨_, _, rfl, ⟨rfl, Or.inl rfl⟩, ?_, Nat.le_refl _, Nat.le_refl _⟩
            exact ⟨by simp only [jd_ntz, jd_nz1, jd_nz2, jd_nz3, jd_nz4, ↓reduceIte, h1, h2, h3, h7, h8], rfl⟩
          · refine ev_run [] 10 rfl trivial ?_
            refine ev_exit ⟨_, _, rfl, ⟨rfl, Or.inl rfl⟩, ?_, Nat.le_refl _, Nat.le_refl _⟩
            exact ⟨by simp only [jd_ntz, jd_nz1, jd_nz2, jd_nz3, jd_nz4, ↓reduceIte, h1, h2, h3, h7, h8], rfl⟩
        · refine ev_run [] 7 rfl trivial ?_
          refine ev_br rfl rfl (fun h9 => ?_) (fun h9 => ?_)
          · refine ev_run [] 5 rfl trivial ?_
            refine ev_exit ⟨_, _, rfl, ⟨rfl, Or.inl rfl⟩, ?_, Nat.le_refl _, Nat.le_refl _⟩
            exact ⟨by simp only [jd_ntz, jd_nz1, jd_nz2, jd_nz3, jd_nz4, ↓reduceIte, h1, h2, h3, h7, h9], rfl⟩
          · refine ev_run [] 10 rfl trivial ?_
            refine ev_exit ⟨_, _, rfl, ⟨rfl, Or.inl rfl⟩, ?_, Nat.le_refl _, Nat.le_refl _⟩
            exact ⟨by simp only [jd_ntz, jd_nz1, jd_nz2, jd_nz3, jd_nz4, ↓reduceIte, h1, h2, h3, h7, h9], rfl⟩
    · refine ev_run [] 7 rfl trivial ?_
      refine ev_br rfl rfl (fun h10 => ?_) (fun h10 => ?_)
      · refine ev_run [] 2 rfl trivial ?_
        refine ev_br rfl rfl (fun h11 => ?_) (fun h11 => ?_)
        · refine ev_run [] 2 rfl trivial ?_
          refine ev_br rfl rfl (fun h12 => ?_) (fun h12 => ?_)
          · refine ev_run [] 5 rfl trivial ?_
            refine ev_exit ⟨_, _, rfl, ⟨rfl, Or.inl rfl⟩, ?_, Nat.le_refl _, Nat.le_refl _⟩
            exact ⟨by simp only [jd_ntz, jd_nz1, jd_nz2, jd_nz3, jd_nz4, ↓reduceIte, h1, h2, h10, h11, h12], rfl⟩
          · refine ev_run [] 10 rfl trivial ?_
            refine ev_exit ⟨_, _, rfl, ⟨rfl, Or.inl rfl⟩, ?_, Nat.le_refl _, Nat.le_refl _⟩
            exact ⟨by simp only [jd_ntz, jd_nz1, jd_nz2, jd_nz3, jd_nz4, ↓reduceIte, h1, h2, h10, h11, h12], rfl⟩
        · refine ev_run [] 7 rfl trivial ?_
          refine ev_br rfl rfl (fun h13 => ?_) (fun h13 => ?_)
          · refine ev_run [] 5 rfl trivial ?_
            refine ev_exit ⟨_, _, rfl, ⟨rfl, Or.inl rfl⟩, ?_, Nat.le_refl _, Nat.le_refl _⟩
            exact ⟨by simp only [jd_ntz, jd_nz1, jd_nz2, jd_nz3, jd_nz4, ↓reduceIte, h1, h2, h10, h11, h13], rfl⟩
          · refine ev_run [] 10 rfl trivial ?_
            refine ev_exit ⟨_, _, rfl, ⟨rfl, Or.inl rfl⟩, ?_, Nat.le_refl _, Nat.le_refl _⟩
            exact ⟨by simp only [jd_ntz, jd_nz1, jd_nz2, jd_nz3, jd_nz4, ↓reduceIte, h1, h2, h10, h11, h13], rfl⟩
      · refine ev_run [] 7 rfl trivial ?_
        refine ev_br rfl rfl (fun h14 => ?_) (fun h14 => ?_)
        · refine ev_run [] 2 rfl trivial ?_
          refine ev_br rfl rfl (fun h15 => ?_) (fun h15 => ?_)
          · refine ev_run [] 5 rfl trivial ?_
            refine ev_exit ⟨_, _, rfl, ⟨rfl, Or.inl rfl⟩, ?_, Nat.le_refl _, Nat.le_refl _⟩
            exact ⟨by simp only [jd_ntz, jd_nz1, jd_nz2, jd_nz3, jd_nz4, ↓reduceIte, h1, h2, h10, h14, h15], rfl⟩
          · refine ev_run [] 10 rfl trivial ?_
            refine ev_exit ⟨_, _, rfl, ⟨rfl, Or.inl rfl⟩, ?_, Nat.le_refl _, Nat.le_refl _⟩
            exact ⟨by simp only [jd_ntz, jd_nz1, jd_nz2, jd_nz3, jd_nz4, ↓reduceIte, h1, h2, h10, h14, h15], rfl⟩
        · refine ev_run [] 7 rfl trivial ?_
          refine ev_br rfl rfl (fun h16 => ?_) (fun h16 => ?_)
          · refine ev_run [] 5 rfl trivial ?_
            refine ev_exit ⟨_, _, rfl, ⟨rfl, Or.inl rfl⟩, ?_, Nat.le_refl _, Nat.le_refl _⟩
            exact ⟨by simp only [jd_ntz, jd_nz1, jd_nz2, jd_nz3, jd_nz4, ↓reduceIte, h1, h2, h10, h14, h16], rfl⟩
          · refine ev_run [] 10 rfl trivial ?_
            refine ev_exit ⟨_, _, rfl, ⟨rfl, Or.inl rfl⟩, ?_, Nat.le_refl _, Nat.le_refl _⟩
            exact ⟨by simp only [jd_ntz, jd_nz1, jd_nz2, jd_nz3, jd_nz4, ↓reduceIte, h1, h2, h10, h14, h16], rfl⟩
  · refine ev_run [] 3 rfl trivial ?_
    refine ev_exit ⟨_, _, rfl, ⟨rfl, Or.inl rfl⟩, ?_, Nat.le_refl _, Nat.le_refl _⟩
    exact ⟨by simp only [jd_ntz, jd_nz1, jd_nz2, jd_nz3, jd_nz4, ↓reduceIte, h1], rfl⟩

set_option maxRecDepth 20000 in
theorem t_J6_bitCount_0f7a4 (x : Int32) : ev_A yJ6_bitCount_0f7a4 mm_J6_bitCount_0f7a4 none [.int x] (([] : List ev_E)) (fun r w => r = some (.int (jd_bc x)) ∧ w = []) := by
  refine ev_start ok_J6_bitCount_0f7a4 (by decide +kernel) rfl rfl (Nat.le_of_ble_eq_true rfl) ?_
  refine ev_run [] 41 rfl trivial ?_
  refine ev_exit ⟨_, _, rfl, ⟨rfl, Or.inl rfl⟩, ?_, Nat.le_refl _, Nat.le_refl _⟩
  exact ⟨rfl, rfl⟩

set_option maxRecDepth 20000 in
theorem t_J9_floorMod_7cf53 (x y : Int32) (hy : ¬ y = 0) : ev_A yJ9_floorMod_7cf53 mm_J9_floorMod_7cf53 none [.int x, .int y] (([] : List ev_E)) (fun r w => r = some (.int (jd_fm x y)) ∧ w = []) := by
  refine ev_startF ok_J9_floorMod_7cf53 (by decide +kernel) rfl rfl (Nat.le_of_ble_eq_true rfl) ?_
  refine ev_run [] 7 rfl ?_ ?_
  · exact hy
  refine ev_br rfl rfl (fun h1 => ?_) (fun h1 => ?_)
  · refine ev_run [] 1 rfl trivial ?_
    refine ev_exit ⟨_, _, rfl, ⟨rfl, Or.inl rfl⟩, ?_, Nat.le_refl _, Nat.le_refl _⟩
    exact ⟨by simp [jd_fm, h1], rfl⟩
  · refine ev_run [] 1 rfl trivial ?_
    refine ev_br rfl rfl (fun h2 => ?_) (fun h2 => ?_)
    · refine ev_run [] 1 rfl trivial ?_
      refine ev_exit ⟨_, _, rfl, ⟨rfl, Or.inl rfl⟩, ?_, Nat.le_refl _, Nat.le_refl _⟩
      exact ⟨by simp [jd_fm, h1, h2], rfl⟩
    · refine ev_run [] 3 rfl trivial ?_
      refine ev_exit ⟨_, _, rfl, ⟨rfl, Or.inl rfl⟩, ?_, Nat.le_refl _, Nat.le_refl _⟩
      exact ⟨by simp [jd_fm, h1, h2], rfl⟩
end
section
/-! laws for what lift.py prints -/
abbrev lf_ix (i : Int32) (n : Nat) : Prop := ¬ (i < 0 ∨ n ≤ i.toNatClampNeg)
abbrev lf_cp (sp dp n : Int32) (n0 n1 : Nat) : Prop := ¬ sp < 0 ∧ ¬ dp < 0 ∧ ¬ n < 0 ∧ sp.toNatClampNeg + n.toNatClampNeg ≤ n0 ∧ dp.toNatClampNeg + n.toNatClampNeg ≤ n1
theorem lf_t {α : Type} {P : Prop} [Decidable P] {A B : Option α} {x : α} (h : P) (hR : (if P then A else B) = some x) : A = some x := by rwa [if_pos h] at hR
theorem lf_f {α : Type} {P : Prop} [Decidable P] {A B : Option α} {x : α} (h : ¬ P) (hR : (if P then A else B) = some x) : B = some x := by rwa [if_neg h] at hR
theorem lf_g {α : Type} {P : Prop} [Decidable P] {A : Option α} {x : α} (hR : (if P then A else none) = some x) : P ∧ A = some x := by
  by_cases h : P
  · exact ⟨h, by rwa [if_pos h] at hR⟩
  · rw [if_neg h] at hR; cases hR
theorem lf_b {α β : Type} {o : Option α} {f : α → Option β} {x : β} (hR : o.bind f = some x) : ∃ y, o = some y ∧ f y = some x := by
  cases o with
  | none => cases hR
  | some y => exact ⟨y, rfl, hR⟩
theorem lf_z0 {α : Type} {b : Bool} {A B : Option α} {x : α} (h : ev_b b = 0) (hR : (if b then A else B) = some x) : B = some x := by
  cases b
  · exact hR
  · exact absurd h (by decide)
theorem lf_z1 {α : Type} {b : Bool} {A B : Option α} {x : α} (h : ¬ ev_b b = 0) (hR : (if b then A else B) = some x) : A = some x := by
  cases b
  · exact absurd rfl h
  · exact hR
def lf_let {α β : Type} (a : α) (f : α → Option β) : Option β := f a
theorem lf_l {α β : Type} {a : α} {f : α → Option β} {x : β} (hR : lf_let a f = some x) : ∃ z, z = a ∧ f z = some x := ⟨a, rfl, hR⟩
theorem lf_nt {a c : Int32} (h : ¬ a = c) : ¬ a.toInt = c.toInt := fun q => h (Int32.toInt_inj.mp q)
theorem ev_lit {μ : ev_M} {N0 : Option Nat} {X : ev_X} {pc : Nat} {L : ev_L} {a c : Int32} {r : List Value} {w : List ev_E} {kc ks : Nat} (h : a = c) (k : ev_V μ N0 X pc L (.int c :: r) w kc ks) : ev_V μ N0 X pc L (.int a :: r) w kc ks := by subst h; exact k
theorem ev_nx {μ : ev_M} {N0 : Option Nat} {X : ev_X} {pc pc' : Nat} {L : ev_L} {st st' : List Value} {w w' : List ev_E} {kc ks : Nat} (h1 : pc = pc') (h2 : st = st') (h3 : w = w') (h4 : kc = 0) (h5 : ks = 0) (k : ev_V μ N0 X pc' L st' w' 0 0) : ev_V μ N0 X pc L st w kc ks := by subst h1; subst h2; subst h3; subst h4; subst h5; exact k
theorem ev_nw {μ : ev_M} {N0 : Option Nat} {X : ev_X} {pc : Nat} {L : ev_L} {st : List Value} {w w' : List ev_E} {kc ks : Nat} (h : w = w') (k : ev_V μ N0 X pc L st w' kc ks) : ev_V μ N0 X pc L st w kc ks := by subst h; exact k
def lf_em (n a b k : Nat) : Nat := if k < n then a + k else b + (k - n)
theorem lf_emi {n a b : Nat} (h : a + n ≤ b ∨ b + n ≤ a) : ∀ i, i < n + n → ∀ j, j < n + n → lf_em n a b i = lf_em n a b j → i = j := by
  intro i hi j hj e
  unfold lf_em at e
  split at e <;> split at e <;> omega
/-! calls where the callee's cells lie in one row, or in two -/
abbrev ev_sput (b : Nat) (w l : List ev_E) : List ev_E := w.take b ++ (l ++ w.drop (b + l.length))
theorem ev_pick_row {w : List ev_E} {em : Nat → Nat} (n : Nat) : ∀ (k c : Nat), (∀ i, i < n → em (k + i) = c + i) → c + n ≤ w.length → ev_pick w em k n = (w.drop c).take n := by
  induction n with
  | zero => intro k c _ _; rw [ev_pick, List.take_zero]
  | succ n ih =>
    intro k c h hl
    have h0 := h 0 (by omega)
    rw [Nat.add_zero, Nat.add_zero] at h0
    have hc : c < w.length := by omega
    rw [ev_pick, h0, ev_wg_eq, List.getElem?_eq_getElem hc]
    dsimp only
    rw [ih (k + 1) (c + 1) (fun i hi => by have := h (i + 1) (by omega); rw [show k + 1 + i = k + (i + 1) by omega, this]; omega) (by omega), List.drop_eq_getElem_cons hc, List.take_succ_cons]
theorem ev_putm_row {em : Nat → Nat} (l : List ev_E) : ∀ (w : List ev_E) (k c : Nat), (∀ i, i < l.length → em (k + i) = c + i) → c + l.length ≤ w.length → ev_putm em w k l = ev_sput c w (l.map (ev_ren em)) := by
  induction l with
  | nil => intro w k c _ _; simp [ev_putm, ev_sput]
  | cons a l ih =>
    intro w k c h hl
    have h0 := h 0 (by simp)
    rw [Nat.add_zero, Nat.add_zero] at h0
    rw [List.length_cons] at hl
    have hc : c < w.length := by omega
    rw [ev_putm, h0, ev_ws_eq, ih (w.set c (ev_ren em a)) (k + 1) (c + 1) (fun i hi => by have := h (i + 1) (by rw [List.length_cons]; omega); rw [show k + 1 + i = k + (i + 1) by omega, this]; omega) (by rw [List.length_set]; omega)]
    unfold ev_sput
    apply List.ext_getElem?
    intro j
    simp only [List.getElem?_append, List.length_take, List.length_set, List.length_map, List.getElem?_take, List.getElem?_drop, List.getElem?_set, List.length_cons, List.map_cons, List.getElem?_cons]
    by_cases h1 : j < c
    · have h2 : j < c + 1 := by omega
      have h3 : ¬ c = j := by omega
      simp [h1, h2, h3, show j < min (c + 1) w.length by omega, show j < min c w.length by omega]
    · by_cases h2 : j = c
      · subst h2
        simp [show j < min (j + 1) w.length by omega, show ¬ j < min j w.length by omega, hc, show min j w.length = j by omega]
      · rw [if_neg (show ¬ j < min (c + 1) w.length by omega), if_neg (show ¬ j < min c w.length by omega), show min (c + 1) w.length = c + 1 by omega, show min c w.length = c by omega]
        by_cases h3 : j - (c + 1) < l.length
        · rw [if_pos h3, if_pos (show j - c < l.length + 1 by omega), if_neg (show ¬ j - c = 0 by omega), show j - c - 1 = j - (c + 1) by omega]
        · rw [if_neg h3, if_neg (show ¬ j - c < l.length + 1 by omega)]
          rw [if_neg (show ¬ c = c + 1 + l.length + (j - (c + 1) - l.length) by omega)]
          congr 1
          omega
theorem ev_pick_app {w : List ev_E} {em : Nat → Nat} (n m : Nat) : ∀ k, (ev_pick w em k n).length = n → ev_pick w em k (n + m) = ev_pick w em k n ++ ev_pick w em (k + n) m := by
  induction n with
  | zero => intro k _; rw [ev_pick, List.nil_append, Nat.zero_add, Nat.add_zero]
  | succ n ih =>
    intro k h
    rw [show n + 1 + m = (n + m) + 1 by omega, ev_pick, ev_pick]
    rw [ev_pick] at h
    cases hw : ev_wg w (em k) with
    | none => rw [hw] at h; cases h
    | some E =>
      rw [hw] at h
      dsimp only at h ⊢
      rw [ih (k + 1) (by simpa using h), List.cons_append, show k + 1 + n = k + (n + 1) by omega]
theorem ev_putm_app {em : Nat → Nat} (l : List ev_E) : ∀ (m w : List ev_E) (k : Nat), ev_putm em w k (l ++ m) = ev_putm em (ev_putm em w k l) (k + l.length) m := by
  induction l with
  | nil => intro m w k; simp [ev_putm]
  | cons a l ih => intro m w k; rw [List.cons_append, ev_putm, ev_putm, ih, List.length_cons, show k + 1 + l.length = k + (l.length + 1) by omega]
theorem ev_sput_len {b : Nat} {w l : List ev_E} (h : b + l.length ≤ w.length) : (ev_sput b w l).length = w.length := by
  unfold ev_sput
  simp only [List.length_append, List.length_take, List.length_drop]
  omega
/-- the row's own law of selection -/
theorem ev_row1 {w wc : List ev_E} (b : Nat) (h : (w.drop b).take wc.length = wc.map (ev_ren fun k => b + k)) (hb : b ≤ w.length) : b + wc.length ≤ w.length ∧ ev_pick w (fun k => b + k) 0 wc.length = wc.map (ev_ren fun k => b + k) := by
  have hl := congrArg List.length h
  rw [List.length_take, List.length_drop, List.length_map] at hl
  have h1 : b + wc.length ≤ w.length := by omega
  exact ⟨h1, by rw [ev_pick_row wc.length 0 b (fun i _ => by rw [Nat.zero_add]) h1, h]⟩
theorem ev_row2 {w wc : List ev_E} (n a b : Nat) (h : (w.drop a).take n ++ (w.drop b).take n = wc.map (ev_ren (lf_em n a b))) (hn : wc.length = n + n) (ha : a ≤ w.length) (hb : b ≤ w.length) : a + n ≤ w.length ∧ b + n ≤ w.length ∧ ev_pick w (lf_em n a b) 0 wc.length = wc.map (ev_ren (lf_em n a b)) := by
  have hl := congrArg List.length h
  rw [List.length_append, List.length_take, List.length_take, List.length_drop, List.length_drop, List.length_map, hn] at hl
  have h1 : a + n ≤ w.length := by omega
  have h2 : b + n ≤ w.length := by omega
  have e1 : ev_pick w (lf_em n a b) 0 n = (w.drop a).take n := ev_pick_row n 0 a (fun i hi => by unfold lf_em; rw [Nat.zero_add, if_pos hi]) h1
  have e2 : ev_pick w (lf_em n a b) (0 + n) n = (w.drop b).take n := ev_pick_row n (0 + n) b (fun i hi => by unfold lf_em; rw [if_neg (by omega)]; omega) h2
  refine ⟨h1, h2, ?_⟩
  rw [hn, ev_pick_app n n 0 (by rw [e1, List.length_take, List.length_drop]; omega), e1, e2, h]
theorem ev_put2 {w : List ev_E} (n a b : Nat) (l : List ev_E) (hn : l.length = n + n) (h1 : a + n ≤ w.length) (h2 : b + n ≤ w.length) : ev_putm (lf_em n a b) w 0 l = ev_sput b (ev_sput a w ((l.take n).map (ev_ren (lf_em n a b)))) ((l.drop n).map (ev_ren (lf_em n a b))) := by
  have e : ev_putm (lf_em n a b) w 0 l = ev_putm (lf_em n a b) w 0 (l.take n ++ l.drop n) := by rw [List.take_append_drop]
  have t1 : (l.take n).length = n := by rw [List.length_take]; omega
  have t2 : (l.drop n).length = n := by rw [List.length_drop]; omega
  rw [e, ev_putm_app, ev_putm_row (l.take n) w 0 a (fun i hi => by unfold lf_em; rw [Nat.zero_add, if_pos (by omega)]) (by omega), t1, ev_putm_row (l.drop n) _ (0 + n) b (fun i hi => by unfold lf_em; rw [if_neg (by omega)]; omega) (by rw [ev_sput_len (by rw [List.length_map]; omega)]; omega)]
theorem ev_callV1 {μ μc : ev_M} {N0 : Option Nat} {X : ev_X} (b : Nat) {pc : Nat} {L : ev_L} {st rest : List Value} {w : List ev_E} {kc ks ci n idx nx k x yy : Nat} {v : Value} {y : MethodName} {as1 : List Value} {fs : List Value} {wt : List ev_E} {post : Option Value → List ev_E → Prop}
    (hM : ev_A y μc none (.ref 0 :: as1) (.inr (ci, fs) :: wt) post) (cv : ev_CV y μc ci n) (hl : ev_ml (ev_own μ) idx y) (hlk : ev_look (ev_tab μ) pc = some (.invokevirtual idx, nx, k, x, yy, v))
    (hst : (as1.map (ev_cv fun k => b + k)).reverse ++ (.ref (b + 0) :: rest) = st) (hn : as1.length = n) (hb : b ≤ w.length) (hsel : (w.drop b).take (.inr (ci, fs) :: wt : List ev_E).length = (.inr (ci, fs) :: wt : List ev_E).map (ev_ren fun k => b + k))
    (hW : (rest.map fun v => v.category).sum ≤ 8) (hroom : ev_fr μc + 1 ≤ ev_fr μ ∧ 8 + (ev_nL μc + 11) + ev_lo μc ≤ ev_lo μ) (hmc : kc + ev_mc μc ≤ ev_mc μ ∧ ks + ev_ms μc ≤ ev_ms μ) (hlen : ∀ r w', post r w' → w'.length = (.inr (ci, fs) :: wt : List ev_E).length)
    (kk : ∀ r w', post r w' → ev_V μ N0 X (pc + 3) L ((r.map (ev_cv fun k => b + k)).toList ++ rest) (ev_sput b w (w'.map (ev_ren fun k => b + k))) (kc + ev_mc μc) (ks + ev_ms μc)) : ev_V μ N0 X pc L st w kc ks := by
  obtain ⟨h1, h2⟩ := ev_row1 b hsel hb
  refine ev_callV (fun k => b + k) hM cv hl hlk hst hn h2 (fun i _ j _ h => by omega) hW hroom hmc hlen fun r w' hp => ?_
  rw [ev_putm_row w' w 0 b (fun i _ => by rw [Nat.zero_add]) (by rw [hlen r w' hp]; exact h1)]
  exact kk r w' hp
theorem ev_callS1 {μ μc : ev_M} {N0 : Option Nat} {X : ev_X} (b : Nat) {pc : Nat} {L : ev_L} {st rest : List Value} {w : List ev_E} {kc ks n idx nx k x yy : Nat} {v : Value} {y : MethodName} {as1 : List Value} {wt : List ev_E} {post : Option Value → List ev_E → Prop}
    (hM : ev_A y μc none as1 wt post) (cv : ev_CS y μc n) (hl : ev_ml (ev_own μ) idx y) (hlk : ev_look (ev_tab μ) pc = some (.invokestatic idx, nx, k, x, yy, v))
    (hst : (as1.map (ev_cv fun k => b + k)).reverse ++ rest = st) (hn : as1.length = n) (hb : b ≤ w.length) (hsel : (w.drop b).take wt.length = wt.map (ev_ren fun k => b + k))
    (hW : (rest.map fun v => v.category).sum ≤ 8) (hroom : ev_fr μc + 1 ≤ ev_fr μ ∧ 8 + (ev_nL μc + 11) + ev_lo μc ≤ ev_lo μ) (hmc : kc + ev_mc μc ≤ ev_mc μ ∧ ks + ev_ms μc ≤ ev_ms μ) (hlen : ∀ r w', post r w' → w'.length = wt.length)
    (kk : ∀ r w', post r w' → ev_V μ N0 X (pc + 3) L ((r.map (ev_cv fun k => b + k)).toList ++ rest) (ev_sput b w (w'.map (ev_ren fun k => b + k))) (kc + ev_mc μc) (ks + ev_ms μc)) : ev_V μ N0 X pc L st w kc ks := by
  obtain ⟨h1, h2⟩ := ev_row1 b hsel hb
  refine ev_callS (fun k => b + k) hM cv hl hlk hst hn h2 (fun i _ j _ h => by omega) hW hroom hmc hlen fun r w' hp => ?_
  rw [ev_putm_row w' w 0 b (fun i _ => by rw [Nat.zero_add]) (by rw [hlen r w' hp]; exact h1)]
  exact kk r w' hp
theorem ev_callV2 {μ μc : ev_M} {N0 : Option Nat} {X : ev_X} (m a b : Nat) {pc : Nat} {L : ev_L} {st rest : List Value} {w : List ev_E} {kc ks ci n idx nx k x yy : Nat} {v : Value} {y : MethodName} {as1 : List Value} {fs : List Value} {wt : List ev_E} {post : Option Value → List ev_E → Prop}
    (hM : ev_A y μc none (.ref 0 :: as1) (.inr (ci, fs) :: wt) post) (cv : ev_CV y μc ci n) (hl : ev_ml (ev_own μ) idx y) (hlk : ev_look (ev_tab μ) pc = some (.invokevirtual idx, nx, k, x, yy, v))
    (hst : (as1.map (ev_cv (lf_em m a b))).reverse ++ (.ref (lf_em m a b 0) :: rest) = st) (hn : as1.length = n) (hm : (.inr (ci, fs) :: wt : List ev_E).length = m + m) (ha : a ≤ w.length) (hb : b ≤ w.length) (hab : a + m ≤ b ∨ b + m ≤ a) (hsel : (w.drop a).take m ++ (w.drop b).take m = (.inr (ci, fs) :: wt : List ev_E).map (ev_ren (lf_em m a b)))
    (hW : (rest.map fun v => v.category).sum ≤ 8) (hroom : ev_fr μc + 1 ≤ ev_fr μ ∧ 8 + (ev_nL μc + 11) + ev_lo μc ≤ ev_lo μ) (hmc : kc + ev_mc μc ≤ ev_mc μ ∧ ks + ev_ms μc ≤ ev_ms μ) (hlen : ∀ r w', post r w' → w'.length = (.inr (ci, fs) :: wt : List ev_E).length)
    (kk : ∀ r w', post r w' → ev_V μ N0 X (pc + 3) L ((r.map (ev_cv (lf_em m a b))).toList ++ rest) (ev_sput b (ev_sput a w ((w'.take m).map (ev_ren (lf_em m a b)))) ((w'.drop m).map (ev_ren (lf_em m a b)))) (kc + ev_mc μc) (ks + ev_ms μc)) : ev_V μ N0 X pc L st w kc ks := by
  obtain ⟨h1, h2, h3⟩ := ev_row2 m a b hsel hm ha hb
  refine ev_callV (lf_em m a b) hM cv hl hlk hst hn h3 (hm ▸ lf_emi hab) hW hroom hmc hlen fun r w' hp => ?_
  rw [ev_put2 m a b w' (by rw [hlen r w' hp]; exact hm) h1 h2]
  exact kk r w' hp
theorem ev_callS2 {μ μc : ev_M} {N0 : Option Nat} {X : ev_X} (m a b : Nat) {pc : Nat} {L : ev_L} {st rest : List Value} {w : List ev_E} {kc ks n idx nx k x yy : Nat} {v : Value} {y : MethodName} {as1 : List Value} {wt : List ev_E} {post : Option Value → List ev_E → Prop}
    (hM : ev_A y μc none as1 wt post) (cv : ev_CS y μc n) (hl : ev_ml (ev_own μ) idx y) (hlk : ev_look (ev_tab μ) pc = some (.invokestatic idx, nx, k, x, yy, v))
    (hst : (as1.map (ev_cv (lf_em m a b))).reverse ++ rest = st) (hn : as1.length = n) (hm : wt.length = m + m) (ha : a ≤ w.length) (hb : b ≤ w.length) (hab : a + m ≤ b ∨ b + m ≤ a) (hsel : (w.drop a).take m ++ (w.drop b).take m = wt.map (ev_ren (lf_em m a b)))
    (hW : (rest.map fun v => v.category).sum ≤ 8) (hroom : ev_fr μc + 1 ≤ ev_fr μ ∧ 8 + (ev_nL μc + 11) + ev_lo μc ≤ ev_lo μ) (hmc : kc + ev_mc μc ≤ ev_mc μ ∧ ks + ev_ms μc ≤ ev_ms μ) (hlen : ∀ r w', post r w' → w'.length = wt.length)
    (kk : ∀ r w', post r w' → ev_V μ N0 X (pc + 3) L ((r.map (ev_cv (lf_em m a b))).toList ++ rest) (ev_sput b (ev_sput a w ((w'.take m).map (ev_ren (lf_em m a b)))) ((w'.drop m).map (ev_ren (lf_em m a b)))) (kc + ev_mc μc) (ks + ev_ms μc)) : ev_V μ N0 X pc L st w kc ks := by
  obtain ⟨h1, h2, h3⟩ := ev_row2 m a b hsel hm ha hb
  refine ev_callS (lf_em m a b) hM cv hl hlk hst hn h3 (hm ▸ lf_emi hab) hW hroom hmc hlen fun r w' hp => ?_
  rw [ev_put2 m a b w' (by rw [hlen r w' hp]; exact hm) h1 h2]
  exact kk r w' hp
abbrev S_X0 : Type := (Nat → Int32)
abbrev a_X0_held (u : S_X0) : Nat → Int32 := u
abbrev m_X0_held (v : Nat → Int32) (u : S_X0) : S_X0 := v
abbrev W_X0 (u : S_X0) : List ev_E := [.inr (0, [.ref 1]), .inl (0, 100, .inl (a_X0_held u))]
abbrev S_X1 : Type := Int32 × Int32 × (Nat → Int32) × (Nat → Int32) × (Nat → Int32)
abbrev a_X1_heard (u : S_X1) : Int32 := u.1
abbrev m_X1_heard (v : Int32) (u : S_X1) : S_X1 := (v, u.2.1, u.2.2.1, u.2.2.2.1, u.2.2.2.2)
abbrev a_X1_made (u : S_X1) : Int32 := u.2.1
abbrev m_X1_made (v : Int32) (u : S_X1) : S_X1 := (u.1, v, u.2.2.1, u.2.2.2.1, u.2.2.2.2)
abbrev a_X1_rows (u : S_X1) : Nat → Int32 := u.2.2.1
abbrev m_X1_rows (v : Nat → Int32) (u : S_X1) : S_X1 := (u.1, u.2.1, v, u.2.2.2.1, u.2.2.2.2)
abbrev a_X1_numbers (u : S_X1) : Nat → Int32 := u.2.2.2.1
abbrev m_X1_numbers (v : Nat → Int32) (u : S_X1) : S_X1 := (u.1, u.2.1, u.2.2.1, v, u.2.2.2.2)
abbrev a_X1_sums (u : S_X1) : Nat → Int32 := u.2.2.2.2
abbrev m_X1_sums (v : Nat → Int32) (u : S_X1) : S_X1 := (u.1, u.2.1, u.2.2.1, u.2.2.2.1, v)
abbrev W_X1 (u : S_X1) : List ev_E := [.inr (1, [.int (a_X1_heard u), .int (a_X1_made u), .ref 1, .ref 2, .ref 3]), .inl (0, 6000, .inl (a_X1_rows u)), .inl (0, 24, .inl (a_X1_numbers u)), .inl (0, 24, .inl (a_X1_sums u))]
abbrev S_X2 : Type := Int32 × Int32 × Int32 × (Nat → Int32) × (Nat → Int32)
abbrev a_X2_length (u : S_X2) : Int32 := u.1
abbrev m_X2_length (v : Int32) (u : S_X2) : S_X2 := (v, u.2.1, u.2.2.1, u.2.2.2.1, u.2.2.2.2)
abbrev a_X2_letter (u : S_X2) : Int32 := u.2.1
abbrev m_X2_letter (v : Int32) (u : S_X2) : S_X2 := (u.1, v, u.2.2.1, u.2.2.2.1, u.2.2.2.2)
abbrev a_X2_at (u : S_X2) : Int32 := u.2.2.1
abbrev m_X2_at (v : Int32) (u : S_X2) : S_X2 := (u.1, u.2.1, v, u.2.2.2.1, u.2.2.2.2)
abbrev a_X2_codes (u : S_X2) : Nat → Int32 := u.2.2.2.1
abbrev m_X2_codes (v : Nat → Int32) (u : S_X2) : S_X2 := (u.1, u.2.1, u.2.2.1, v, u.2.2.2.2)
abbrev a_X2_numbers (u : S_X2) : Nat → Int32 := u.2.2.2.2
abbrev m_X2_numbers (v : Nat → Int32) (u : S_X2) : S_X2 := (u.1, u.2.1, u.2.2.1, u.2.2.2.1, v)
abbrev W_X2 (u : S_X2) : List ev_E := [.inr (2, [.int (a_X2_length u), .ref 1, .int (a_X2_letter u), .ref 2, .int (a_X2_at u)]), .inl (0, 60, .inl (a_X2_codes u)), .inl (0, 3, .inl (a_X2_numbers u))]
abbrev S_X3 : Type := Int32 × Int32 × Int32 × Int32 × Int32 × Int32 × Int32 × (Nat → Int32) × (Nat → Int32) × (Nat → Int32) × (Nat → Int32) × (Nat → Int32) × (Nat → Int32) × (Nat → Int32) × (Nat → Int32) × S_X0 × S_X1
abbrev a_X3_time (u : S_X3) : Int32 := u.1
abbrev m_X3_time (v : Int32) (u : S_X3) : S_X3 := (v, u.2.1, u.2.2.1, u.2.2.2.1, u.2.2.2.2.1, u.2.2.2.2.2.1, u.2.2.2.2.2.2.1, u.2.2.2.2.2.2.2.1, u.2.2.2.2.2.2.2.2.1, u.2.2.2.2.2.2.2.2.2.1, u.2.2.2.2.2.2.2.2.2.2.1, u.2.2.2.2.2.2.2.2.2.2.2.1, u.2.2.2.2.2.2.2.2.2.2.2.2.1, u.2.2.2.2.2.2.2.2.2.2.2.2.2.1, u.2.2.2.2.2.2.2.2.2.2.2.2.2.2.1, u.2.2.2.2.2.2.2.2.2.2.2.2.2.2.2.1, u.2.2.2.2.2.2.2.2.2.2.2.2.2.2.2.2)
abbrev a_X3_things (u : S_X3) : Int32 := u.2.1
abbrev m_X3_things (v : Int32) (u : S_X3) : S_X3 := (u.1, v, u.2.2.1, u.2.2.2.1, u.2.2.2.2.1, u.2.2.2.2.2.1, u.2.2.2.2.2.2.1, u.2.2.2.2.2.2.2.1, u.2.2.2.2.2.2.2.2.1, u.2.2.2.2.2.2.2.2.2.1, u.2.2.2.2.2.2.2.2.2.2.1, u.2.2.2.2.2.2.2.2.2.2.2.1, u.2.2.2.2.2.2.2.2.2.2.2.2.1, u.2.2.2.2.2.2.2.2.2.2.2.2.2.1, u.2.2.2.2.2.2.2.2.2.2.2.2.2.2.1, u.2.2.2.2.2.2.2.2.2.2.2.2.2.2.2.1, u.2.2.2.2.2.2.2.2.2.2.2.2.2.2.2.2)
abbrev a_X3_living (u : S_X3) : Int32 := u.2.2.1
abbrev m_X3_living (v : Int32) (u : S_X3) : S_X3 := (u.1, u.2.1, v, u.2.2.2.1, u.2.2.2.2.1, u.2.2.2.2.2.1, u.2.2.2.2.2.2.1, u.2.2.2.2.2.2.2.1, u.2.2.2.2.2.2.2.2.1, u.2.2.2.2.2.2.2.2.2.1, u.2.2.2.2.2.2.2.2.2.2.1, u.2.2.2.2.2.2.2.2.2.2.2.1, u.2.2.2.2.2.2.2.2.2.2.2.2.1, u.2.2.2.2.2.2.2.2.2.2.2.2.2.1, u.2.2.2.2.2.2.2.2.2.2.2.2.2.2.1, u.2.2.2.2.2.2.2.2.2.2.2.2.2.2.2.1, u.2.2.2.2.2.2.2.2.2.2.2.2.2.2.2.2)
abbrev a_X3_suspects (u : S_X3) : Int32 := u.2.2.2.1
abbrev m_X3_suspects (v : Int32) (u : S_X3) : S_X3 := (u.1, u.2.1, u.2.2.1, v, u.2.2.2.2.1, u.2.2.2.2.2.1, u.2.2.2.2.2.2.1, u.2.2.2.2.2.2.2.1, u.2.2.2.2.2.2.2.2.1, u.2.2.2.2.2.2.2.2.2.1, u.2.2.2.2.2.2.2.2.2.2.1, u.2.2.2.2.2.2.2.2.2.2.2.1, u.2.2.2.2.2.2.2.2.2.2.2.2.1, u.2.2.2.2.2.2.2.2.2.2.2.2.2.1, u.2.2.2.2.2.2.2.2.2.2.2.2.2.2.1, u.2.2.2.2.2.2.2.2.2.2.2.2.2.2.2.1, u.2.2.2.2.2.2.2.2.2.2.2.2.2.2.2.2)
abbrev a_X3_wronged (u : S_X3) : Int32 := u.2.2.2.2.1
abbrev m_X3_wronged (v : Int32) (u : S_X3) : S_X3 := (u.1, u.2.1, u.2.2.1, u.2.2.2.1, v, u.2.2.2.2.2.1, u.2.2.2.2.2.2.1, u.2.2.2.2.2.2.2.1, u.2.2.2.2.2.2.2.2.1, u.2.2.2.2.2.2.2.2.2.1, u.2.2.2.2.2.2.2.2.2.2.1, u.2.2.2.2.2.2.2.2.2.2.2.1, u.2.2.2.2.2.2.2.2.2.2.2.2.1, u.2.2.2.2.2.2.2.2.2.2.2.2.2.1, u.2.2.2.2.2.2.2.2.2.2.2.2.2.2.1, u.2.2.2.2.2.2.2.2.2.2.2.2.2.2.2.1, u.2.2.2.2.2.2.2.2.2.2.2.2.2.2.2.2)
abbrev a_X3_ends (u : S_X3) : Int32 := u.2.2.2.2.2.1
abbrev m_X3_ends (v : Int32) (u : S_X3) : S_X3 := (u.1, u.2.1, u.2.2.1, u.2.2.2.1, u.2.2.2.2.1, v, u.2.2.2.2.2.2.1, u.2.2.2.2.2.2.2.1, u.2.2.2.2.2.2.2.2.1, u.2.2.2.2.2.2.2.2.2.1, u.2.2.2.2.2.2.2.2.2.2.1, u.2.2.2.2.2.2.2.2.2.2.2.1, u.2.2.2.2.2.2.2.2.2.2.2.2.1, u.2.2.2.2.2.2.2.2.2.2.2.2.2.1, u.2.2.2.2.2.2.2.2.2.2.2.2.2.2.1, u.2.2.2.2.2.2.2.2.2.2.2.2.2.2.2.1, u.2.2.2.2.2.2.2.2.2.2.2.2.2.2.2.2)
abbrev a_X3_slanderFound (u : S_X3) : Int32 := u.2.2.2.2.2.2.1
abbrev m_X3_slanderFound (v : Int32) (u : S_X3) : S_X3 := (u.1, u.2.1, u.2.2.1, u.2.2.2.1, u.2.2.2.2.1, u.2.2.2.2.2.1, v, u.2.2.2.2.2.2.2.1, u.2.2.2.2.2.2.2.2.1, u.2.2.2.2.2.2.2.2.2.1, u.2.2.2.2.2.2.2.2.2.2.1, u.2.2.2.2.2.2.2.2.2.2.2.1, u.2.2.2.2.2.2.2.2.2.2.2.2.1, u.2.2.2.2.2.2.2.2.2.2.2.2.2.1, u.2.2.2.2.2.2.2.2.2.2.2.2.2.2.1, u.2.2.2.2.2.2.2.2.2.2.2.2.2.2.2.1, u.2.2.2.2.2.2.2.2.2.2.2.2.2.2.2.2)
abbrev a_X3_settings (u : S_X3) : Nat → Int32 := u.2.2.2.2.2.2.2.1
abbrev m_X3_settings (v : Nat → Int32) (u : S_X3) : S_X3 := (u.1, u.2.1, u.2.2.1, u.2.2.2.1, u.2.2.2.2.1, u.2.2.2.2.2.1, u.2.2.2.2.2.2.1, v, u.2.2.2.2.2.2.2.2.1, u.2.2.2.2.2.2.2.2.2.1, u.2.2.2.2.2.2.2.2.2.2.1, u.2.2.2.2.2.2.2.2.2.2.2.1, u.2.2.2.2.2.2.2.2.2.2.2.2.1, u.2.2.2.2.2.2.2.2.2.2.2.2.2.1, u.2.2.2.2.2.2.2.2.2.2.2.2.2.2.1, u.2.2.2.2.2.2.2.2.2.2.2.2.2.2.2.1, u.2.2.2.2.2.2.2.2.2.2.2.2.2.2.2.2)
abbrev a_X3_ranks (u : S_X3) : Nat → Int32 := u.2.2.2.2.2.2.2.2.1
abbrev m_X3_ranks (v : Nat → Int32) (u : S_X3) : S_X3 := (u.1, u.2.1, u.2.2.1, u.2.2.2.1, u.2.2.2.2.1, u.2.2.2.2.2.1, u.2.2.2.2.2.2.1, u.2.2.2.2.2.2.2.1, v, u.2.2.2.2.2.2.2.2.2.1, u.2.2.2.2.2.2.2.2.2.2.1, u.2.2.2.2.2.2.2.2.2.2.2.1, u.2.2.2.2.2.2.2.2.2.2.2.2.1, u.2.2.2.2.2.2.2.2.2.2.2.2.2.1, u.2.2.2.2.2.2.2.2.2.2.2.2.2.2.1, u.2.2.2.2.2.2.2.2.2.2.2.2.2.2.2.1, u.2.2.2.2.2.2.2.2.2.2.2.2.2.2.2.2)
abbrev a_X3_counts (u : S_X3) : Nat → Int32 := u.2.2.2.2.2.2.2.2.2.1
abbrev m_X3_counts (v : Nat → Int32) (u : S_X3) : S_X3 := (u.1, u.2.1, u.2.2.1, u.2.2.2.1, u.2.2.2.2.1, u.2.2.2.2.2.1, u.2.2.2.2.2.2.1, u.2.2.2.2.2.2.2.1, u.2.2.2.2.2.2.2.2.1, v, u.2.2.2.2.2.2.2.2.2.2.1, u.2.2.2.2.2.2.2.2.2.2.2.1, u.2.2.2.2.2.2.2.2.2.2.2.2.1, u.2.2.2.2.2.2.2.2.2.2.2.2.2.1, u.2.2.2.2.2.2.2.2.2.2.2.2.2.2.1, u.2.2.2.2.2.2.2.2.2.2.2.2.2.2.2.1, u.2.2.2.2.2.2.2.2.2.2.2.2.2.2.2.2)
abbrev a_X3_came (u : S_X3) : Nat → Int32 := u.2.2.2.2.2.2.2.2.2.2.1
abbrev m_X3_came (v : Nat → Int32) (u : S_X3) : S_X3 := (u.1, u.2.1, u.2.2.1, u.2.2.2.1, u.2.2.2.2.1, u.2.2.2.2.2.1, u.2.2.2.2.2.2.1, u.2.2.2.2.2.2.2.1, u.2.2.2.2.2.2.2.2.1, u.2.2.2.2.2.2.2.2.2.1, v, u.2.2.2.2.2.2.2.2.2.2.2.1, u.2.2.2.2.2.2.2.2.2.2.2.2.1, u.2.2.2.2.2.2.2.2.2.2.2.2.2.1, u.2.2.2.2.2.2.2.2.2.2.2.2.2.2.1, u.2.2.2.2.2.2.2.2.2.2.2.2.2.2.2.1, u.2.2.2.2.2.2.2.2.2.2.2.2.2.2.2.2)
abbrev a_X3_endNumbers (u : S_X3) : Nat → Int32 := u.2.2.2.2.2.2.2.2.2.2.2.1
abbrev m_X3_endNumbers (v : Nat → Int32) (u : S_X3) : S_X3 := (u.1, u.2.1, u.2.2.1, u.2.2.2.1, u.2.2.2.2.1, u.2.2.2.2.2.1, u.2.2.2.2.2.2.1, u.2.2.2.2.2.2.2.1, u.2.2.2.2.2.2.2.2.1, u.2.2.2.2.2.2.2.2.2.1, u.2.2.2.2.2.2.2.2.2.2.1, v, u.2.2.2.2.2.2.2.2.2.2.2.2.1, u.2.2.2.2.2.2.2.2.2.2.2.2.2.1, u.2.2.2.2.2.2.2.2.2.2.2.2.2.2.1, u.2.2.2.2.2.2.2.2.2.2.2.2.2.2.2.1, u.2.2.2.2.2.2.2.2.2.2.2.2.2.2.2.2)
abbrev a_X3_endTimes (u : S_X3) : Nat → Int32 := u.2.2.2.2.2.2.2.2.2.2.2.2.1
abbrev m_X3_endTimes (v : Nat → Int32) (u : S_X3) : S_X3 := (u.1, u.2.1, u.2.2.1, u.2.2.2.1, u.2.2.2.2.1, u.2.2.2.2.2.1, u.2.2.2.2.2.2.1, u.2.2.2.2.2.2.2.1, u.2.2.2.2.2.2.2.2.1, u.2.2.2.2.2.2.2.2.2.1, u.2.2.2.2.2.2.2.2.2.2.1, u.2.2.2.2.2.2.2.2.2.2.2.1, v, u.2.2.2.2.2.2.2.2.2.2.2.2.2.1, u.2.2.2.2.2.2.2.2.2.2.2.2.2.2.1, u.2.2.2.2.2.2.2.2.2.2.2.2.2.2.2.1, u.2.2.2.2.2.2.2.2.2.2.2.2.2.2.2.2)
abbrev a_X3_endKinds (u : S_X3) : Nat → Int32 := u.2.2.2.2.2.2.2.2.2.2.2.2.2.1
abbrev m_X3_endKinds (v : Nat → Int32) (u : S_X3) : S_X3 := (u.1, u.2.1, u.2.2.1, u.2.2.2.1, u.2.2.2.2.1, u.2.2.2.2.2.1, u.2.2.2.2.2.2.1, u.2.2.2.2.2.2.2.1, u.2.2.2.2.2.2.2.2.1, u.2.2.2.2.2.2.2.2.2.1, u.2.2.2.2.2.2.2.2.2.2.1, u.2.2.2.2.2.2.2.2.2.2.2.1, u.2.2.2.2.2.2.2.2.2.2.2.2.1, v, u.2.2.2.2.2.2.2.2.2.2.2.2.2.2.1, u.2.2.2.2.2.2.2.2.2.2.2.2.2.2.2.1, u.2.2.2.2.2.2.2.2.2.2.2.2.2.2.2.2)
abbrev a_X3_endOrder (u : S_X3) : Nat → Int32 := u.2.2.2.2.2.2.2.2.2.2.2.2.2.2.1
abbrev m_X3_endOrder (v : Nat → Int32) (u : S_X3) : S_X3 := (u.1, u.2.1, u.2.2.1, u.2.2.2.1, u.2.2.2.2.1, u.2.2.2.2.2.1, u.2.2.2.2.2.2.1, u.2.2.2.2.2.2.2.1, u.2.2.2.2.2.2.2.2.1, u.2.2.2.2.2.2.2.2.2.1, u.2.2.2.2.2.2.2.2.2.2.1, u.2.2.2.2.2.2.2.2.2.2.2.1, u.2.2.2.2.2.2.2.2.2.2.2.2.1, u.2.2.2.2.2.2.2.2.2.2.2.2.2.1, v, u.2.2.2.2.2.2.2.2.2.2.2.2.2.2.2.1, u.2.2.2.2.2.2.2.2.2.2.2.2.2.2.2.2)
abbrev a_X3_hold (u : S_X3) : S_X0 := u.2.2.2.2.2.2.2.2.2.2.2.2.2.2.2.1
abbrev m_X3_hold (v : S_X0) (u : S_X3) : S_X3 := (u.1, u.2.1, u.2.2.1, u.2.2.2.1, u.2.2.2.2.1, u.2.2.2.2.2.1, u.2.2.2.2.2.2.1, u.2.2.2.2.2.2.2.1, u.2.2.2.2.2.2.2.2.1, u.2.2.2.2.2.2.2.2.2.1, u.2.2.2.2.2.2.2.2.2.2.1, u.2.2.2.2.2.2.2.2.2.2.2.1, u.2.2.2.2.2.2.2.2.2.2.2.2.1, u.2.2.2.2.2.2.2.2.2.2.2.2.2.1, u.2.2.2.2.2.2.2.2.2.2.2.2.2.2.1, v, u.2.2.2.2.2.2.2.2.2.2.2.2.2.2.2.2)
abbrev a_X3_rep (u : S_X3) : S_X1 := u.2.2.2.2.2.2.2.2.2.2.2.2.2.2.2.2
abbrev m_X3_rep (v : S_X1) (u : S_X3) : S_X3 := (u.1, u.2.1, u.2.2.1, u.2.2.2.1, u.2.2.2.2.1, u.2.2.2.2.2.1, u.2.2.2.2.2.2.1, u.2.2.2.2.2.2.2.1, u.2.2.2.2.2.2.2.2.1, u.2.2.2.2.2.2.2.2.2.1, u.2.2.2.2.2.2.2.2.2.2.1, u.2.2.2.2.2.2.2.2.2.2.2.1, u.2.2.2.2.2.2.2.2.2.2.2.2.1, u.2.2.2.2.2.2.2.2.2.2.2.2.2.1, u.2.2.2.2.2.2.2.2.2.2.2.2.2.2.1, u.2.2.2.2.2.2.2.2.2.2.2.2.2.2.2.1, v)
abbrev W_X3 (u : S_X3) : List ev_E := [.inr (3, [.int (a_X3_time u), .int (a_X3_things u), .int (a_X3_living u), .int (a_X3_suspects u), .int (a_X3_wronged u), .int (a_X3_ends u), .int (a_X3_slanderFound u), .ref 1, .ref 2, .ref 3, .ref 4, .ref 5, .ref 6, .ref 7, .ref 8, .ref 9, .ref 11]), .inl (0, 5, .inl (a_X3_settings u)), .inl (0, 24, .inl (a_X3_ranks u)), .inl (0, 24, .inl (a_X3_counts u)), .inl (0, 24, .inl (a_X3_came u)), .inl (0, 24, .inl (a_X3_endNumbers u)), .inl (0, 24, .inl (a_X3_endTimes u)), .inl (0, 24, .inl (a_X3_endKinds u)), .inl (0, 24, .inl (a_X3_endOrder u)), .inr (0, [.ref 10]), .inl (0, 100, .inl (a_X0_held (a_X3_hold u))), .inr (1, [.int (a_X1_heard (a_X3_rep u)), .int (a_X1_made (a_X3_rep u)), .ref 12, .ref 13, .ref 14]), .inl (0, 6000, .inl (a_X1_rows (a_X3_rep u))), .inl (0, 24, .inl (a_X1_numbers (a_X3_rep u))), .inl (0, 24, .inl (a_X1_sums (a_X3_rep u)))]
abbrev S_X4 : Type := Int32 × S_X3 × S_X3 × S_X3 × S_X2
abbrev a_X4_savedStates (u : S_X4) : Int32 := u.1
abbrev m_X4_savedStates (v : Int32) (u : S_X4) : S_X4 := (v, u.2.1, u.2.2.1, u.2.2.2.1, u.2.2.2.2)
abbrev a_X4_now (u : S_X4) : S_X3 := u.2.1
abbrev m_X4_now (v : S_X3) (u : S_X4) : S_X4 := (u.1, v, u.2.2.1, u.2.2.2.1, u.2.2.2.2)
abbrev a_X4_ahead (u : S_X4) : S_X3 := u.2.2.1
abbrev m_X4_ahead (v : S_X3) (u : S_X4) : S_X4 := (u.1, u.2.1, v, u.2.2.2.1, u.2.2.2.2)
abbrev a_X4_slandered (u : S_X4) : S_X3 := u.2.2.2.1
abbrev m_X4_slandered (v : S_X3) (u : S_X4) : S_X4 := (u.1, u.2.1, u.2.2.1, v, u.2.2.2.2)
abbrev a_X4_text (u : S_X4) : S_X2 := u.2.2.2.2
abbrev m_X4_text (v : S_X2) (u : S_X4) : S_X4 := (u.1, u.2.1, u.2.2.1, u.2.2.2.1, v)
abbrev W_X4 (u : S_X4) : List ev_E := [.inr (4, [.ref 1, .ref 16, .ref 31, .ref 49, .int (a_X4_savedStates u), .ref 46]), .inr (3, [.int (a_X3_time (a_X4_now u)), .int (a_X3_things (a_X4_now u)), .int (a_X3_living (a_X4_now u)), .int (a_X3_suspects (a_X4_now u)), .int (a_X3_wronged (a_X4_now u)), .int (a_X3_ends (a_X4_now u)), .int (a_X3_slanderFound (a_X4_now u)), .ref 2, .ref 3, .ref 4, .ref 5, .ref 6, .ref 7, .ref 8, .ref 9, .ref 10, .ref 12]), .inl (0, 5, .inl (a_X3_settings (a_X4_now u))), .inl (0, 24, .inl (a_X3_ranks (a_X4_now u))), .inl (0, 24, .inl (a_X3_counts (a_X4_now u))), .inl (0, 24, .inl (a_X3_came (a_X4_now u))), .inl (0, 24, .inl (a_X3_endNumbers (a_X4_now u))), .inl (0, 24, .inl (a_X3_endTimes (a_X4_now u))), .inl (0, 24, .inl (a_X3_endKinds (a_X4_now u))), .inl (0, 24, .inl (a_X3_endOrder (a_X4_now u))), .inr (0, [.ref 11]), .inl (0, 100, .inl (a_X0_held (a_X3_hold (a_X4_now u)))), .inr (1, [.int (a_X1_heard (a_X3_rep (a_X4_now u))), .int (a_X1_made (a_X3_rep (a_X4_now u))), .ref 13, .ref 14, .ref 15]), .inl (0, 6000, .inl (a_X1_rows (a_X3_rep (a_X4_now u)))), .inl (0, 24, .inl (a_X1_numbers (a_X3_rep (a_X4_now u)))), .inl (0, 24, .inl (a_X1_sums (a_X3_rep (a_X4_now u)))), .inr (3, [.int (a_X3_time (a_X4_ahead u)), .int (a_X3_things (a_X4_ahead u)), .int (a_X3_living (a_X4_ahead u)), .int (a_X3_suspects (a_X4_ahead u)), .int (a_X3_wronged (a_X4_ahead u)), .int (a_X3_ends (a_X4_ahead u)), .int (a_X3_slanderFound (a_X4_ahead u)), .ref 17, .ref 18, .ref 19, .ref 20, .ref 21, .ref 22, .ref 23, .ref 24, .ref 25, .ref 27]), .inl (0, 5, .inl (a_X3_settings (a_X4_ahead u))), .inl (0, 24, .inl (a_X3_ranks (a_X4_ahead u))), .inl (0, 24, .inl (a_X3_counts (a_X4_ahead u))), .inl (0, 24, .inl (a_X3_came (a_X4_ahead u))), .inl (0, 24, .inl (a_X3_endNumbers (a_X4_ahead u))), .inl (0, 24, .inl (a_X3_endTimes (a_X4_ahead u))), .inl (0, 24, .inl (a_X3_endKinds (a_X4_ahead u))), .inl (0, 24, .inl (a_X3_endOrder (a_X4_ahead u))), .inr (0, [.ref 26]), .inl (0, 100, .inl (a_X0_held (a_X3_hold (a_X4_ahead u)))), .inr (1, [.int (a_X1_heard (a_X3_rep (a_X4_ahead u))), .int (a_X1_made (a_X3_rep (a_X4_ahead u))), .ref 28, .ref 29, .ref 30]), .inl (0, 6000, .inl (a_X1_rows (a_X3_rep (a_X4_ahead u)))), .inl (0, 24, .inl (a_X1_numbers (a_X3_rep (a_X4_ahead u)))), .inl (0, 24, .inl (a_X1_sums (a_X3_rep (a_X4_ahead u)))), .inr (3, [.int (a_X3_time (a_X4_slandered u)), .int (a_X3_things (a_X4_slandered u)), .int (a_X3_living (a_X4_slandered u)), .int (a_X3_suspects (a_X4_slandered u)), .int (a_X3_wronged (a_X4_slandered u)), .int (a_X3_ends (a_X4_slandered u)), .int (a_X3_slanderFound (a_X4_slandered u)), .ref 32, .ref 33, .ref 34, .ref 35, .ref 36, .ref 37, .ref 38, .ref 39, .ref 40, .ref 42]), .inl (0, 5, .inl (a_X3_settings (a_X4_slandered u))), .inl (0, 24, .inl (a_X3_ranks (a_X4_slandered u))), .inl (0, 24, .inl (a_X3_counts (a_X4_slandered u))), .inl (0, 24, .inl (a_X3_came (a_X4_slandered u))), .inl (0, 24, .inl (a_X3_endNumbers (a_X4_slandered u))), .inl (0, 24, .inl (a_X3_endTimes (a_X4_slandered u))), .inl (0, 24, .inl (a_X3_endKinds (a_X4_slandered u))), .inl (0, 24, .inl (a_X3_endOrder (a_X4_slandered u))), .inr (0, [.ref 41]), .inl (0, 100, .inl (a_X0_held (a_X3_hold (a_X4_slandered u)))), .inr (1, [.int (a_X1_heard (a_X3_rep (a_X4_slandered u))), .int (a_X1_made (a_X3_rep (a_X4_slandered u))), .ref 43, .ref 44, .ref 45]), .inl (0, 6000, .inl (a_X1_rows (a_X3_rep (a_X4_slandered u)))), .inl (0, 24, .inl (a_X1_numbers (a_X3_rep (a_X4_slandered u)))), .inl (0, 24, .inl (a_X1_sums (a_X3_rep (a_X4_slandered u)))), .inr (2, [.int (a_X2_length (a_X4_text u)), .ref 47, .int (a_X2_letter (a_X4_text u)), .ref 48, .int (a_X2_at (a_X4_text u))]), .inl (0, 60, .inl (a_X2_codes (a_X4_text u))), .inl (0, 3, .inl (a_X2_numbers (a_X4_text u)))]
abbrev S_X5 : Type := Int32 × Int32 × Int32 × Int32 × Int32 × Int32 × Int32 × (Nat → Int32) × (Nat → Int32) × (Nat → Int32) × (Nat → Int32) × (Nat → Int32) × (Nat → Int32) × (Nat → Int32) × (Nat → Int32)
abbrev a_X5_thrown (u : S_X5) : Int32 := u.1
abbrev m_X5_thrown (v : Int32) (u : S_X5) : S_X5 := (v, u.2.1, u.2.2.1, u.2.2.2.1, u.2.2.2.2.1, u.2.2.2.2.2.1, u.2.2.2.2.2.2.1, u.2.2.2.2.2.2.2.1, u.2.2.2.2.2.2.2.2.1, u.2.2.2.2.2.2.2.2.2.1, u.2.2.2.2.2.2.2.2.2.2.1, u.2.2.2.2.2.2.2.2.2.2.2.1, u.2.2.2.2.2.2.2.2.2.2.2.2.1, u.2.2.2.2.2.2.2.2.2.2.2.2.2.1, u.2.2.2.2.2.2.2.2.2.2.2.2.2.2)
abbrev a_X5_savedMany (u : S_X5) : Int32 := u.2.1
abbrev m_X5_savedMany (v : Int32) (u : S_X5) : S_X5 := (u.1, v, u.2.2.1, u.2.2.2.1, u.2.2.2.2.1, u.2.2.2.2.2.1, u.2.2.2.2.2.2.1, u.2.2.2.2.2.2.2.1, u.2.2.2.2.2.2.2.2.1, u.2.2.2.2.2.2.2.2.2.1, u.2.2.2.2.2.2.2.2.2.2.1, u.2.2.2.2.2.2.2.2.2.2.2.1, u.2.2.2.2.2.2.2.2.2.2.2.2.1, u.2.2.2.2.2.2.2.2.2.2.2.2.2.1, u.2.2.2.2.2.2.2.2.2.2.2.2.2.2)
abbrev a_X5_textLength (u : S_X5) : Int32 := u.2.2.1
abbrev m_X5_textLength (v : Int32) (u : S_X5) : S_X5 := (u.1, u.2.1, v, u.2.2.2.1, u.2.2.2.2.1, u.2.2.2.2.2.1, u.2.2.2.2.2.2.1, u.2.2.2.2.2.2.2.1, u.2.2.2.2.2.2.2.2.1, u.2.2.2.2.2.2.2.2.2.1, u.2.2.2.2.2.2.2.2.2.2.1, u.2.2.2.2.2.2.2.2.2.2.2.1, u.2.2.2.2.2.2.2.2.2.2.2.2.1, u.2.2.2.2.2.2.2.2.2.2.2.2.2.1, u.2.2.2.2.2.2.2.2.2.2.2.2.2.2)
abbrev a_X5_kind (u : S_X5) : Int32 := u.2.2.2.1
abbrev m_X5_kind (v : Int32) (u : S_X5) : S_X5 := (u.1, u.2.1, u.2.2.1, v, u.2.2.2.2.1, u.2.2.2.2.2.1, u.2.2.2.2.2.2.1, u.2.2.2.2.2.2.2.1, u.2.2.2.2.2.2.2.2.1, u.2.2.2.2.2.2.2.2.2.1, u.2.2.2.2.2.2.2.2.2.2.1, u.2.2.2.2.2.2.2.2.2.2.2.1, u.2.2.2.2.2.2.2.2.2.2.2.2.1, u.2.2.2.2.2.2.2.2.2.2.2.2.2.1, u.2.2.2.2.2.2.2.2.2.2.2.2.2.2)
abbrev a_X5_first (u : S_X5) : Int32 := u.2.2.2.2.1
abbrev m_X5_first (v : Int32) (u : S_X5) : S_X5 := (u.1, u.2.1, u.2.2.1, u.2.2.2.1, v, u.2.2.2.2.2.1, u.2.2.2.2.2.2.1, u.2.2.2.2.2.2.2.1, u.2.2.2.2.2.2.2.2.1, u.2.2.2.2.2.2.2.2.2.1, u.2.2.2.2.2.2.2.2.2.2.1, u.2.2.2.2.2.2.2.2.2.2.2.1, u.2.2.2.2.2.2.2.2.2.2.2.2.1, u.2.2.2.2.2.2.2.2.2.2.2.2.2.1, u.2.2.2.2.2.2.2.2.2.2.2.2.2.2)
abbrev a_X5_second (u : S_X5) : Int32 := u.2.2.2.2.2.1
abbrev m_X5_second (v : Int32) (u : S_X5) : S_X5 := (u.1, u.2.1, u.2.2.1, u.2.2.2.1, u.2.2.2.2.1, v, u.2.2.2.2.2.2.1, u.2.2.2.2.2.2.2.1, u.2.2.2.2.2.2.2.2.1, u.2.2.2.2.2.2.2.2.2.1, u.2.2.2.2.2.2.2.2.2.2.1, u.2.2.2.2.2.2.2.2.2.2.2.1, u.2.2.2.2.2.2.2.2.2.2.2.2.1, u.2.2.2.2.2.2.2.2.2.2.2.2.2.1, u.2.2.2.2.2.2.2.2.2.2.2.2.2.2)
abbrev a_X5_held (u : S_X5) : Int32 := u.2.2.2.2.2.2.1
abbrev m_X5_held (v : Int32) (u : S_X5) : S_X5 := (u.1, u.2.1, u.2.2.1, u.2.2.2.1, u.2.2.2.2.1, u.2.2.2.2.2.1, v, u.2.2.2.2.2.2.2.1, u.2.2.2.2.2.2.2.2.1, u.2.2.2.2.2.2.2.2.2.1, u.2.2.2.2.2.2.2.2.2.2.1, u.2.2.2.2.2.2.2.2.2.2.2.1, u.2.2.2.2.2.2.2.2.2.2.2.2.1, u.2.2.2.2.2.2.2.2.2.2.2.2.2.1, u.2.2.2.2.2.2.2.2.2.2.2.2.2.2)
abbrev a_X5_state (u : S_X5) : Nat → Int32 := u.2.2.2.2.2.2.2.1
abbrev m_X5_state (v : Nat → Int32) (u : S_X5) : S_X5 := (u.1, u.2.1, u.2.2.1, u.2.2.2.1, u.2.2.2.2.1, u.2.2.2.2.2.1, u.2.2.2.2.2.2.1, v, u.2.2.2.2.2.2.2.2.1, u.2.2.2.2.2.2.2.2.2.1, u.2.2.2.2.2.2.2.2.2.2.1, u.2.2.2.2.2.2.2.2.2.2.2.1, u.2.2.2.2.2.2.2.2.2.2.2.2.1, u.2.2.2.2.2.2.2.2.2.2.2.2.2.1, u.2.2.2.2.2.2.2.2.2.2.2.2.2.2)
abbrev a_X5_kept (u : S_X5) : Nat → Int32 := u.2.2.2.2.2.2.2.2.1
abbrev m_X5_kept (v : Nat → Int32) (u : S_X5) : S_X5 := (u.1, u.2.1, u.2.2.1, u.2.2.2.1, u.2.2.2.2.1, u.2.2.2.2.2.1, u.2.2.2.2.2.2.1, u.2.2.2.2.2.2.2.1, v, u.2.2.2.2.2.2.2.2.2.1, u.2.2.2.2.2.2.2.2.2.2.1, u.2.2.2.2.2.2.2.2.2.2.2.1, u.2.2.2.2.2.2.2.2.2.2.2.2.1, u.2.2.2.2.2.2.2.2.2.2.2.2.2.1, u.2.2.2.2.2.2.2.2.2.2.2.2.2.2)
abbrev a_X5_saved (u : S_X5) : Nat → Int32 := u.2.2.2.2.2.2.2.2.2.1
abbrev m_X5_saved (v : Nat → Int32) (u : S_X5) : S_X5 := (u.1, u.2.1, u.2.2.1, u.2.2.2.1, u.2.2.2.2.1, u.2.2.2.2.2.1, u.2.2.2.2.2.2.1, u.2.2.2.2.2.2.2.1, u.2.2.2.2.2.2.2.2.1, v, u.2.2.2.2.2.2.2.2.2.2.1, u.2.2.2.2.2.2.2.2.2.2.2.1, u.2.2.2.2.2.2.2.2.2.2.2.2.1, u.2.2.2.2.2.2.2.2.2.2.2.2.2.1, u.2.2.2.2.2.2.2.2.2.2.2.2.2.2)
abbrev a_X5_text (u : S_X5) : Nat → Int32 := u.2.2.2.2.2.2.2.2.2.2.1
abbrev m_X5_text (v : Nat → Int32) (u : S_X5) : S_X5 := (u.1, u.2.1, u.2.2.1, u.2.2.2.1, u.2.2.2.2.1, u.2.2.2.2.2.1, u.2.2.2.2.2.2.1, u.2.2.2.2.2.2.2.1, u.2.2.2.2.2.2.2.2.1, u.2.2.2.2.2.2.2.2.2.1, v, u.2.2.2.2.2.2.2.2.2.2.2.1, u.2.2.2.2.2.2.2.2.2.2.2.2.1, u.2.2.2.2.2.2.2.2.2.2.2.2.2.1, u.2.2.2.2.2.2.2.2.2.2.2.2.2.2)
abbrev a_X5_isReached (u : S_X5) : Nat → Int32 := u.2.2.2.2.2.2.2.2.2.2.2.1
abbrev m_X5_isReached (v : Nat → Int32) (u : S_X5) : S_X5 := (u.1, u.2.1, u.2.2.1, u.2.2.2.1, u.2.2.2.2.1, u.2.2.2.2.2.1, u.2.2.2.2.2.2.1, u.2.2.2.2.2.2.2.1, u.2.2.2.2.2.2.2.2.1, u.2.2.2.2.2.2.2.2.2.1, u.2.2.2.2.2.2.2.2.2.2.1, v, u.2.2.2.2.2.2.2.2.2.2.2.2.1, u.2.2.2.2.2.2.2.2.2.2.2.2.2.1, u.2.2.2.2.2.2.2.2.2.2.2.2.2.2)
abbrev a_X5_isInSet (u : S_X5) : Nat → Int32 := u.2.2.2.2.2.2.2.2.2.2.2.2.1
abbrev m_X5_isInSet (v : Nat → Int32) (u : S_X5) : S_X5 := (u.1, u.2.1, u.2.2.1, u.2.2.2.1, u.2.2.2.2.1, u.2.2.2.2.2.1, u.2.2.2.2.2.2.1, u.2.2.2.2.2.2.2.1, u.2.2.2.2.2.2.2.2.1, u.2.2.2.2.2.2.2.2.2.1, u.2.2.2.2.2.2.2.2.2.2.1, u.2.2.2.2.2.2.2.2.2.2.2.1, v, u.2.2.2.2.2.2.2.2.2.2.2.2.2.1, u.2.2.2.2.2.2.2.2.2.2.2.2.2.2)
abbrev a_X5_isInnocent (u : S_X5) : Nat → Int32 := u.2.2.2.2.2.2.2.2.2.2.2.2.2.1
abbrev m_X5_isInnocent (v : Nat → Int32) (u : S_X5) : S_X5 := (u.1, u.2.1, u.2.2.1, u.2.2.2.1, u.2.2.2.2.1, u.2.2.2.2.2.1, u.2.2.2.2.2.2.1, u.2.2.2.2.2.2.2.1, u.2.2.2.2.2.2.2.2.1, u.2.2.2.2.2.2.2.2.2.1, u.2.2.2.2.2.2.2.2.2.2.1, u.2.2.2.2.2.2.2.2.2.2.2.1, u.2.2.2.2.2.2.2.2.2.2.2.2.1, v, u.2.2.2.2.2.2.2.2.2.2.2.2.2.2)
abbrev a_X5_isSuspect (u : S_X5) : Nat → Int32 := u.2.2.2.2.2.2.2.2.2.2.2.2.2.2
abbrev m_X5_isSuspect (v : Nat → Int32) (u : S_X5) : S_X5 := (u.1, u.2.1, u.2.2.1, u.2.2.2.1, u.2.2.2.2.1, u.2.2.2.2.2.1, u.2.2.2.2.2.2.1, u.2.2.2.2.2.2.2.1, u.2.2.2.2.2.2.2.2.1, u.2.2.2.2.2.2.2.2.2.1, u.2.2.2.2.2.2.2.2.2.2.1, u.2.2.2.2.2.2.2.2.2.2.2.1, u.2.2.2.2.2.2.2.2.2.2.2.2.1, u.2.2.2.2.2.2.2.2.2.2.2.2.2.1, v)
abbrev W_X5 (u : S_X5) : List ev_E := [.inr (5, [.int (a_X5_thrown u), .ref 1, .ref 2, .ref 3, .int (a_X5_savedMany u), .ref 4, .int (a_X5_textLength u), .ref 5, .ref 6, .ref 7, .ref 8, .int (a_X5_kind u), .int (a_X5_first u), .int (a_X5_second u), .int (a_X5_held u)]), .inl (0, 20377, .inl (a_X5_state u)), .inl (0, 20377, .inl (a_X5_kept u)), .inl (0, 122262, .inl (a_X5_saved u)), .inl (0, 60, .inl (a_X5_text u)), .inl (0, 24, .inl (a_X5_isReached u)), .inl (0, 24, .inl (a_X5_isInSet u)), .inl (0, 24, .inl (a_X5_isInnocent u)), .inl (0, 24, .inl (a_X5_isSuspect u))]
abbrev W2_X0 (u v : S_X0) : List ev_E := [.inr (0, [.ref 1]), .inl (0, 100, .inl (a_X0_held u)), .inr (0, [.ref 3]), .inl (0, 100, .inl (a_X0_held v))]
abbrev W2_X1 (u v : S_X1) : List ev_E := [.inr (1, [.int (a_X1_heard u), .int (a_X1_made u), .ref 1, .ref 2, .ref 3]), .inl (0, 6000, .inl (a_X1_rows u)), .inl (0, 24, .inl (a_X1_numbers u)), .inl (0, 24, .inl (a_X1_sums u)), .inr (1, [.int (a_X1_heard v), .int (a_X1_made v), .ref 5, .ref 6, .ref 7]), .inl (0, 6000, .inl (a_X1_rows v)), .inl (0, 24, .inl (a_X1_numbers v)), .inl (0, 24, .inl (a_X1_sums v))]
abbrev W2_X3 (u v : S_X3) : List ev_E := [.inr (3, [.int (a_X3_time u), .int (a_X3_things u), .int (a_X3_living u), .int (a_X3_suspects u), .int (a_X3_wronged u), .int (a_X3_ends u), .int (a_X3_slanderFound u), .ref 1, .ref 2, .ref 3, .ref 4, .ref 5, .ref 6, .ref 7, .ref 8, .ref 9, .ref 11]), .inl (0, 5, .inl (a_X3_settings u)), .inl (0, 24, .inl (a_X3_ranks u)), .inl (0, 24, .inl (a_X3_counts u)), .inl (0, 24, .inl (a_X3_came u)), .inl (0, 24, .inl (a_X3_endNumbers u)), .inl (0, 24, .inl (a_X3_endTimes u)), .inl (0, 24, .inl (a_X3_endKinds u)), .inl (0, 24, .inl (a_X3_endOrder u)), .inr (0, [.ref 10]), .inl (0, 100, .inl (a_X0_held (a_X3_hold u))), .inr (1, [.int (a_X1_heard (a_X3_rep u)), .int (a_X1_made (a_X3_rep u)), .ref 12, .ref 13, .ref 14]), .inl (0, 6000, .inl (a_X1_rows (a_X3_rep u))), .inl (0, 24, .inl (a_X1_numbers (a_X3_rep u))), .inl (0, 24, .inl (a_X1_sums (a_X3_rep u))), .inr (3, [.int (a_X3_time v), .int (a_X3_things v), .int (a_X3_living v), .int (a_X3_suspects v), .int (a_X3_wronged v), .int (a_X3_ends v), .int (a_X3_slanderFound v), .ref 16, .ref 17, .ref 18, .ref 19, .ref 20, .ref 21, .ref 22, .ref 23, .ref 24, .ref 26]), .inl (0, 5, .inl (a_X3_settings v)), .inl (0, 24, .inl (a_X3_ranks v)), .inl (0, 24, .inl (a_X3_counts v)), .inl (0, 24, .inl (a_X3_came v)), .inl (0, 24, .inl (a_X3_endNumbers v)), .inl (0, 24, .inl (a_X3_endTimes v)), .inl (0, 24, .inl (a_X3_endKinds v)), .inl (0, 24, .inl (a_X3_endOrder v)), .inr (0, [.ref 25]), .inl (0, 100, .inl (a_X0_held (a_X3_hold v))), .inr (1, [.int (a_X1_heard (a_X3_rep v)), .int (a_X1_made (a_X3_rep v)), .ref 27, .ref 28, .ref 29]), .inl (0, 6000, .inl (a_X1_rows (a_X3_rep v))), .inl (0, 24, .inl (a_X1_numbers (a_X3_rep v))), .inl (0, 24, .inl (a_X1_sums (a_X3_rep v)))]
end
