section
-- ===== PART A: goes FIRST, ahead of the names: the tables' words, and 'selects' of the private methods out of them =====
/-- a private method of a class that the tables say can be made, by its rows of tables_1 -/
def lw_okq (q : MethodName × Nat) : Prop := (q.1.cls ≠ "java/lang/invoke/MethodHandle" ∧ q.1.cls ≠ "java/lang/invoke/VarHandle") ∧ Cond.instantiable q.1.cls q.2 ∈ tables_1 ∧ Cond.privateMethod q.1 ∈ tables_1 ∧ Cond.instanceMethod q.1 ∈ tables_1
theorem lw_p0 : lw_okq (⟨"FountainShow$Weather", "enter", "(I)V"⟩, 4) := ⟨⟨by decide +kernel, by decide +kernel⟩, List.mem_of_getElem? (i := 152) (by decide +kernel), List.mem_of_getElem? (i := 433) (by decide +kernel), List.mem_of_getElem? (i := 434) (by decide +kernel)⟩
theorem lw_p1 : lw_okq (⟨"FountainShow$Weather", "calmDown", "(I)V"⟩, 4) := ⟨⟨by decide +kernel, by decide +kernel⟩, List.mem_of_getElem? (i := 152) (by decide +kernel), List.mem_of_getElem? (i := 437) (by decide +kernel), List.mem_of_getElem? (i := 438) (by decide +kernel)⟩
theorem lw_p2 : lw_okq (⟨"FountainShow$Nozzles", "commandAt", "(II)I"⟩, 10) := ⟨⟨by decide +kernel, by decide +kernel⟩, List.mem_of_getElem? (i := 66) (by decide +kernel), List.mem_of_getElem? (i := 447) (by decide +kernel), List.mem_of_getElem? (i := 448) (by decide +kernel)⟩
theorem lw_p3 : lw_okq (⟨"FountainShow$Nozzles", "demandAt", "(I)I"⟩, 10) := ⟨⟨by decide +kernel, by decide +kernel⟩, List.mem_of_getElem? (i := 66) (by decide +kernel), List.mem_of_getElem? (i := 468) (by decide +kernel), List.mem_of_getElem? (i := 469) (by decide +kernel)⟩
theorem lw_p4 : lw_okq (⟨"FountainShow$Cues", "shift", "(III)V"⟩, 4) := ⟨⟨by decide +kernel, by decide +kernel⟩, List.mem_of_getElem? (i := 176) (by decide +kernel), List.mem_of_getElem? (i := 514) (by decide +kernel), List.mem_of_getElem? (i := 515) (by decide +kernel)⟩
theorem lw_p5 : lw_okq (⟨"FountainShow", "greatestDemand", "(II)I"⟩, 5) := ⟨⟨by decide +kernel, by decide +kernel⟩, List.mem_of_getElem? (i := 13) (by decide +kernel), List.mem_of_getElem? (i := 595) (by decide +kernel), List.mem_of_getElem? (i := 596) (by decide +kernel)⟩
theorem lw_p6 : lw_okq (⟨"FountainShow", "shortTicks", "(II)I"⟩, 5) := ⟨⟨by decide +kernel, by decide +kernel⟩, List.mem_of_getElem? (i := 13) (by decide +kernel), List.mem_of_getElem? (i := 599) (by decide +kernel), List.mem_of_getElem? (i := 600) (by decide +kernel)⟩
theorem lw_p7 : lw_okq (⟨"FountainShow", "firstShort", "(II)I"⟩, 5) := ⟨⟨by decide +kernel, by decide +kernel⟩, List.mem_of_getElem? (i := 13) (by decide +kernel), List.mem_of_getElem? (i := 603) (by decide +kernel), List.mem_of_getElem? (i := 604) (by decide +kernel)⟩
theorem lw_p8 : lw_okq (⟨"FountainShow", "wetTicks", "(I)I"⟩, 5) := ⟨⟨by decide +kernel, by decide +kernel⟩, List.mem_of_getElem? (i := 13) (by decide +kernel), List.mem_of_getElem? (i := 608) (by decide +kernel), List.mem_of_getElem? (i := 609) (by decide +kernel)⟩
theorem lw_p9 : lw_okq (⟨"FountainShow", "greatestHeight", "(I)I"⟩, 5) := ⟨⟨by decide +kernel, by decide +kernel⟩, List.mem_of_getElem? (i := 13) (by decide +kernel), List.mem_of_getElem? (i := 612) (by decide +kernel), List.mem_of_getElem? (i := 613) (by decide +kernel)⟩
theorem lw_p10 : lw_okq (⟨"FountainShow", "slotAt", "(I)LFountainShow$Slot;"⟩, 5) := ⟨⟨by decide +kernel, by decide +kernel⟩, List.mem_of_getElem? (i := 13) (by decide +kernel), List.mem_of_getElem? (i := 624) (by decide +kernel), List.mem_of_getElem? (i := 625) (by decide +kernel)⟩
theorem lw_p11 : lw_okq (⟨"FountainShow", "staysSupplied", "(I)Z"⟩, 5) := ⟨⟨by decide +kernel, by decide +kernel⟩, List.mem_of_getElem? (i := 13) (by decide +kernel), List.mem_of_getElem? (i := 639) (by decide +kernel), List.mem_of_getElem? (i := 640) (by decide +kernel)⟩
theorem lw_p12 : lw_okq (⟨"FountainShow", "staysDry", "(I)Z"⟩, 5) := ⟨⟨by decide +kernel, by decide +kernel⟩, List.mem_of_getElem? (i := 13) (by decide +kernel), List.mem_of_getElem? (i := 654) (by decide +kernel), List.mem_of_getElem? (i := 655) (by decide +kernel)⟩
theorem lw_p13 : lw_okq (⟨"FountainShow$Pad", "accepts", "(C)Z"⟩, 7) := ⟨⟨by decide +kernel, by decide +kernel⟩, List.mem_of_getElem? (i := 247) (by decide +kernel), List.mem_of_getElem? (i := 698) (by decide +kernel), List.mem_of_getElem? (i := 699) (by decide +kernel)⟩
theorem lw_p14 : lw_okq (⟨"FountainShow$Pad", "endsTime", "()Z"⟩, 7) := ⟨⟨by decide +kernel, by decide +kernel⟩, List.mem_of_getElem? (i := 247) (by decide +kernel), List.mem_of_getElem? (i := 702) (by decide +kernel), List.mem_of_getElem? (i := 703) (by decide +kernel)⟩
theorem lw_p15 : lw_okq (⟨"FountainShow$Pad", "isDigitUpTo", "(IC)Z"⟩, 7) := ⟨⟨by decide +kernel, by decide +kernel⟩, List.mem_of_getElem? (i := 247) (by decide +kernel), List.mem_of_getElem? (i := 706) (by decide +kernel), List.mem_of_getElem? (i := 707) (by decide +kernel)⟩
def lw_privs_1 : List (MethodName × Nat) := [(⟨"FountainShow$Weather", "enter", "(I)V"⟩, 4), (⟨"FountainShow$Weather", "calmDown", "(I)V"⟩, 4), (⟨"FountainShow$Nozzles", "commandAt", "(II)I"⟩, 10), (⟨"FountainShow$Nozzles", "demandAt", "(I)I"⟩, 10), (⟨"FountainShow$Cues", "shift", "(III)V"⟩, 4), (⟨"FountainShow", "greatestDemand", "(II)I"⟩, 5), (⟨"FountainShow", "shortTicks", "(II)I"⟩, 5), (⟨"FountainShow", "firstShort", "(II)I"⟩, 5), (⟨"FountainShow", "wetTicks", "(I)I"⟩, 5), (⟨"FountainShow", "greatestHeight", "(I)I"⟩, 5), (⟨"FountainShow", "slotAt", "(I)LFountainShow$Slot;"⟩, 5), (⟨"FountainShow", "staysSupplied", "(I)Z"⟩, 5), (⟨"FountainShow", "staysDry", "(I)Z"⟩, 5), (⟨"FountainShow$Pad", "accepts", "(C)Z"⟩, 7), (⟨"FountainShow$Pad", "endsTime", "()Z"⟩, 7), (⟨"FountainShow$Pad", "isDigitUpTo", "(IC)Z"⟩, 7)]
theorem lw_r1 : ∀ q ∈ lw_privs_1, lw_okq q := List.forall_mem_cons.mpr ⟨lw_p0, List.forall_mem_cons.mpr ⟨lw_p1, List.forall_mem_cons.mpr ⟨lw_p2, List.forall_mem_cons.mpr ⟨lw_p3, List.forall_mem_cons.mpr ⟨lw_p4, List.forall_mem_cons.mpr ⟨lw_p5, List.forall_mem_cons.mpr ⟨lw_p6, List.forall_mem_cons.mpr ⟨lw_p7, List.forall_mem_cons.mpr ⟨lw_p8, List.forall_mem_cons.mpr ⟨lw_p9, List.forall_mem_cons.mpr ⟨lw_p10, List.forall_mem_cons.mpr ⟨lw_p11, List.forall_mem_cons.mpr ⟨lw_p12, List.forall_mem_cons.mpr ⟨lw_p13, List.forall_mem_cons.mpr ⟨lw_p14, List.forall_mem_cons.mpr ⟨lw_p15, fun _ h => absurd h List.not_mem_nil⟩⟩⟩⟩⟩⟩⟩⟩⟩⟩⟩⟩⟩⟩⟩⟩
theorem lw_p16 : lw_okq (⟨"FountainShow$Pad", "endsSet", "()Z"⟩, 7) := ⟨⟨by decide +kernel, by decide +kernel⟩, List.mem_of_getElem? (i := 247) (by decide +kernel), List.mem_of_getElem? (i := 710) (by decide +kernel), List.mem_of_getElem? (i := 711) (by decide +kernel)⟩
theorem lw_p17 : lw_okq (⟨"FountainShow$Pad", "isLetter", "(C)Z"⟩, 7) := ⟨⟨by decide +kernel, by decide +kernel⟩, List.mem_of_getElem? (i := 247) (by decide +kernel), List.mem_of_getElem? (i := 714) (by decide +kernel), List.mem_of_getElem? (i := 715) (by decide +kernel)⟩
theorem lw_p18 : lw_okq (⟨"FountainShow$Pad", "endsCue", "()Z"⟩, 7) := ⟨⟨by decide +kernel, by decide +kernel⟩, List.mem_of_getElem? (i := 247) (by decide +kernel), List.mem_of_getElem? (i := 718) (by decide +kernel), List.mem_of_getElem? (i := 719) (by decide +kernel)⟩
def lw_privs_2 : List (MethodName × Nat) := [(⟨"FountainShow$Pad", "endsSet", "()Z"⟩, 7), (⟨"FountainShow$Pad", "isLetter", "(C)Z"⟩, 7), (⟨"FountainShow$Pad", "endsCue", "()Z"⟩, 7)]
theorem lw_r2 : ∀ q ∈ lw_privs_2, lw_okq q := List.forall_mem_cons.mpr ⟨lw_p16, List.forall_mem_cons.mpr ⟨lw_p17, List.forall_mem_cons.mpr ⟨lw_p18, fun _ h => absurd h List.not_mem_nil⟩⟩⟩
def lw_privs : List (MethodName × Nat) := lw_privs_1 ++ (lw_privs_2)
def lw_tbl : List Cond := k2_sels lw_privs ++ tables_1
theorem lw_privs_ok : ∀ q ∈ lw_privs, lw_okq q := by
  show ∀ q ∈ lw_privs_1 ++ (lw_privs_2), lw_okq q
  exact List.forall_mem_append.mpr ⟨lw_r1, lw_r2⟩
/-- the streams that the claim lets the run draw from -/
abbrev lw_cs : List Choice := [Jvm.Choice.named "NaN.bits"]
theorem lw_bits : nanBits ∈ lw_cs := by first | decide | exact List.mem_cons_self | simp [lw_cs, nanBits]
end
section
def RX0 : String := "FountainShow$Cues"
def TX0 : u_T := fun k => match k with
  | 0 => ("FountainShow$Cues", "times", "[I", true)
  | 1 => ("FountainShow$Cues", "sets", "[I", true)
  | 2 => ("FountainShow$Cues", "values", "[I", true)
  | _ => ("FountainShow$Cues", "count", "I", false)
def tyX0 : Nat → FieldType := fun k => match k with
  | 0 => .array .int
  | 1 => .array .int
  | 2 => .array .int
  | _ => .int
theorem nmX0 : ∀ a, a < 4 → ∀ b, b < 4 → a ≠ b → (TX0 a).2.1 ≠ (TX0 b).2.1 := by decide +kernel
theorem tyX0_ok : ∀ k, k < 4 → parseFieldDescriptor (TX0 k).2.2.1 = some (tyX0 k) := by decide +kernel
abbrev cX0_init : ByteArray := prog_2_method_1_code
def yX0_init : MethodName := ⟨RX0, "<init>", "()V"⟩
abbrev cX0_has : ByteArray := prog_2_method_2_code
def yX0_has : MethodName := ⟨RX0, "has", "(I)Z"⟩
abbrev cX0_copy : ByteArray := prog_2_method_3_code
def yX0_copy : MethodName := ⟨RX0, "copy", "(LFountainShow$Cues;)V"⟩
abbrev cX0_insert : ByteArray := prog_2_method_4_code
def yX0_insert : MethodName := ⟨RX0, "insert", "(III)I"⟩
abbrev cX0_takeOut : ByteArray := prog_2_method_5_code
def yX0_takeOut : MethodName := ⟨RX0, "takeOut", "(I)V"⟩
abbrev cX0_postpone : ByteArray := prog_2_method_6_code
def yX0_postpone : MethodName := ⟨RX0, "postpone", "(II)I"⟩
abbrev cX0_next : ByteArray := prog_2_method_7_code
def yX0_next : MethodName := ⟨RX0, "next", "(I)I"⟩
abbrev cX0_carryOut : ByteArray := prog_2_method_8_code
def yX0_carryOut : MethodName := ⟨RX0, "carryOut", "(ILFountainShow$Nozzles;)V"⟩
abbrev cX0_shift : ByteArray := prog_2_method_9_code
def yX0_shift : MethodName := ⟨RX0, "shift", "(III)V"⟩
def RX1 : String := "FountainShow$Nozzles"
def TX1 : u_T := fun k => match k with
  | 0 => ("FountainShow$Nozzles", "settings", "LFountainShow$Settings;", true)
  | 1 => ("FountainShow$Nozzles", "commands", "[I", true)
  | 2 => ("FountainShow$Nozzles", "openings", "[I", true)
  | 3 => ("FountainShow$Nozzles", "flows", "[I", true)
  | 4 => ("FountainShow$Nozzles", "heights", "[I", true)
  | 5 => ("FountainShow$Nozzles", "drifts", "[I", true)
  | 6 => ("FountainShow$Nozzles", "greatest", "[I", true)
  | 7 => ("FountainShow$Nozzles", "past", "[I", true)
  | 8 => ("FountainShow$Nozzles", "count", "I", false)
  | _ => ("FountainShow$Nozzles", "greatestCutGoal", "I", false)
def tyX1 : Nat → FieldType := fun k => match k with
  | 0 => .object "FountainShow$Settings"
  | 1 => .array .int
  | 2 => .array .int
  | 3 => .array .int
  | 4 => .array .int
  | 5 => .array .int
  | 6 => .array .int
  | 7 => .array .int
  | 8 => .int
  | _ => .int
theorem nmX1 : ∀ a, a < 10 → ∀ b, b < 10 → a ≠ b → (TX1 a).2.1 ≠ (TX1 b).2.1 := by decide +kernel
theorem tyX1_ok : ∀ k, k < 10 → parseFieldDescriptor (TX1 k).2.2.1 = some (tyX1 k) := by decide +kernel
abbrev cX1_init : ByteArray := prog_3_method_1_code
def yX1_init : MethodName := ⟨RX1, "<init>", "()V"⟩
abbrev cX1_has : ByteArray := prog_3_method_2_code
def yX1_has : MethodName := ⟨RX1, "has", "(I)Z"⟩
abbrev cX1_begin : ByteArray := prog_3_method_3_code
def yX1_begin : MethodName := ⟨RX1, "begin", "(I)V"⟩
abbrev cX1_goBack : ByteArray := prog_3_method_4_code
def yX1_goBack : MethodName := ⟨RX1, "goBack", "()V"⟩
abbrev cX1_copy : ByteArray := prog_3_method_5_code
def yX1_copy : MethodName := ⟨RX1, "copy", "(LFountainShow$Nozzles;)V"⟩
abbrev cX1_obey : ByteArray := prog_3_method_6_code
def yX1_obey : MethodName := ⟨RX1, "obey", "(II)V"⟩
abbrev cX1_keepCommands : ByteArray := prog_3_method_7_code
def yX1_keepCommands : MethodName := ⟨RX1, "keepCommands", "(I)V"⟩
abbrev cX1_open : ByteArray := prog_3_method_8_code
def yX1_open : MethodName := ⟨RX1, "open", "(III)V"⟩
abbrev cX1_demandOf : ByteArray := prog_3_method_9_code
def yX1_demandOf : MethodName := ⟨RX1, "demandOf", "(I)I"⟩
abbrev cX1_flow : ByteArray := prog_3_method_10_code
def yX1_flow : MethodName := ⟨RX1, "flow", "(III)V"⟩
abbrev cX1_rise : ByteArray := prog_3_method_11_code
def yX1_rise : MethodName := ⟨RX1, "rise", "(I)V"⟩
abbrev cX1_driftsBeyond : ByteArray := prog_3_method_12_code
def yX1_driftsBeyond : MethodName := ⟨RX1, "driftsBeyond", "(I)Z"⟩
abbrev cX1_greatestHeightNow : ByteArray := prog_3_method_14_code
def yX1_greatestHeightNow : MethodName := ⟨RX1, "greatestHeightNow", "()I"⟩
abbrev cX1_demandAt : ByteArray := prog_3_method_15_code
def yX1_demandAt : MethodName := ⟨RX1, "demandAt", "(I)I"⟩
abbrev cX1_commandAt : ByteArray := prog_3_method_16_code
def yX1_commandAt : MethodName := ⟨RX1, "commandAt", "(II)I"⟩
abbrev cX1_rowOf : ByteArray := prog_3_method_17_code
def yX1_rowOf : MethodName := ⟨RX1, "rowOf", "(I)I"⟩
def RX2 : String := "FountainShow$Pad"
def TX2 : u_T := fun k => match k with
  | 0 => ("FountainShow$Pad", "found", "LFountainShow$Cues;", true)
  | 1 => ("FountainShow$Pad", "text", "[C", true)
  | 2 => ("FountainShow$Pad", "length", "I", false)
  | 3 => ("FountainShow$Pad", "phase", "I", false)
  | 4 => ("FountainShow$Pad", "time", "I", false)
  | 5 => ("FountainShow$Pad", "set", "I", false)
  | _ => ("FountainShow$Pad", "number", "I", false)
def tyX2 : Nat → FieldType := fun k => match k with
  | 0 => .object "FountainShow$Cues"
  | 1 => .array .char
  | 2 => .int
  | 3 => .int
  | 4 => .int
  | 5 => .int
  | _ => .int
theorem nmX2 : ∀ a, a < 7 → ∀ b, b < 7 → a ≠ b → (TX2 a).2.1 ≠ (TX2 b).2.1 := by decide +kernel
theorem tyX2_ok : ∀ k, k < 7 → parseFieldDescriptor (TX2 k).2.2.1 = some (tyX2 k) := by decide +kernel
abbrev cX2_init : ByteArray := prog_4_method_1_code
def yX2_init : MethodName := ⟨RX2, "<init>", "()V"⟩
abbrev cX2_append : ByteArray := prog_4_method_2_code
def yX2_append : MethodName := ⟨RX2, "append", "(C)I"⟩
abbrev cX2_findFault : ByteArray := prog_4_method_3_code
def yX2_findFault : MethodName := ⟨RX2, "findFault", "()I"⟩
abbrev cX2_accepts : ByteArray := prog_4_method_4_code
def yX2_accepts : MethodName := ⟨RX2, "accepts", "(C)Z"⟩
abbrev cX2_endsTime : ByteArray := prog_4_method_5_code
def yX2_endsTime : MethodName := ⟨RX2, "endsTime", "()Z"⟩
abbrev cX2_endsSet : ByteArray := prog_4_method_6_code
def yX2_endsSet : MethodName := ⟨RX2, "endsSet", "()Z"⟩
abbrev cX2_endsCue : ByteArray := prog_4_method_7_code
def yX2_endsCue : MethodName := ⟨RX2, "endsCue", "()Z"⟩
abbrev cX2_isDigitUpTo : ByteArray := prog_4_method_8_code
def yX2_isDigitUpTo : MethodName := ⟨RX2, "isDigitUpTo", "(IC)Z"⟩
abbrev cX2_isLetter : ByteArray := prog_4_method_9_code
def yX2_isLetter : MethodName := ⟨RX2, "isLetter", "(C)Z"⟩
def RX3 : String := "FountainShow$Pumps"
def TX3 : u_T := fun k => match k with
  | 0 => ("FountainShow$Pumps", "settings", "LFountainShow$Settings;", true)
  | 1 => ("FountainShow$Pumps", "flows", "[I", true)
  | 2 => ("FountainShow$Pumps", "demands", "[I", true)
  | _ => ("FountainShow$Pumps", "shortTicks", "[I", true)
def tyX3 : Nat → FieldType := fun k => match k with
  | 0 => .object "FountainShow$Settings"
  | 1 => .array .int
  | 2 => .array .int
  | _ => .array .int
theorem nmX3 : ∀ a, a < 4 → ∀ b, b < 4 → a ≠ b → (TX3 a).2.1 ≠ (TX3 b).2.1 := by decide +kernel
theorem tyX3_ok : ∀ k, k < 4 → parseFieldDescriptor (TX3 k).2.2.1 = some (tyX3 k) := by decide +kernel
abbrev cX3_init : ByteArray := prog_5_method_1_code
def yX3_init : MethodName := ⟨RX3, "<init>", "()V"⟩
abbrev cX3_goBack : ByteArray := prog_5_method_2_code
def yX3_goBack : MethodName := ⟨RX3, "goBack", "()V"⟩
abbrev cX3_copy : ByteArray := prog_5_method_3_code
def yX3_copy : MethodName := ⟨RX3, "copy", "(LFountainShow$Pumps;)V"⟩
abbrev cX3_supply : ByteArray := prog_5_method_4_code
def yX3_supply : MethodName := ⟨RX3, "supply", "(LFountainShow$Nozzles;)V"⟩
abbrev cX3_countShort : ByteArray := prog_5_method_5_code
def yX3_countShort : MethodName := ⟨RX3, "countShort", "()V"⟩
abbrev cX3_isShort : ByteArray := prog_5_method_6_code
def yX3_isShort : MethodName := ⟨RX3, "isShort", "(I)Z"⟩
abbrev cX3_someShort : ByteArray := prog_5_method_7_code
def yX3_someShort : MethodName := ⟨RX3, "someShort", "()Z"⟩
def RX4 : String := "FountainShow$Settings"
def TX4 : u_T := fun k => match k with
  | 0 => ("FountainShow$Settings", "least", "[I", true)
  | 1 => ("FountainShow$Settings", "most", "[I", true)
  | 2 => ("FountainShow$Settings", "initial", "[I", true)
  | 3 => ("FountainShow$Settings", "things", "I", true)
  | _ => ("FountainShow$Settings", "values", "[I", true)
def tyX4 : Nat → FieldType := fun k => match k with
  | 0 => .array .int
  | 1 => .array .int
  | 2 => .array .int
  | 3 => .int
  | _ => .array .int
theorem nmX4 : ∀ a, a < 5 → ∀ b, b < 5 → a ≠ b → (TX4 a).2.1 ≠ (TX4 b).2.1 := by decide +kernel
theorem tyX4_ok : ∀ k, k < 5 → parseFieldDescriptor (TX4 k).2.2.1 = some (tyX4 k) := by decide +kernel
abbrev cX4_init : ByteArray := prog_6_method_1_code
def yX4_init : MethodName := ⟨RX4, "<init>", "(I[I[I[I)V"⟩
abbrev cX4_reset : ByteArray := prog_6_method_2_code
def yX4_reset : MethodName := ⟨RX4, "reset", "()V"⟩
abbrev cX4_value : ByteArray := prog_6_method_3_code
def yX4_value : MethodName := ⟨RX4, "value", "(II)I"⟩
abbrev cX4_change : ByteArray := prog_6_method_4_code
def yX4_change : MethodName := ⟨RX4, "change", "(III)I"⟩
abbrev cX4_copy : ByteArray := prog_6_method_5_code
def yX4_copy : MethodName := ⟨RX4, "copy", "(LFountainShow$Settings;)V"⟩
def RX5 : String := "FountainShow$Show"
def TX5 : u_T := fun k => match k with
  | 0 => ("FountainShow$Show", "settings", "LFountainShow$Settings;", true)
  | 1 => ("FountainShow$Show", "nozzles", "LFountainShow$Nozzles;", true)
  | 2 => ("FountainShow$Show", "pumps", "LFountainShow$Pumps;", true)
  | 3 => ("FountainShow$Show", "weather", "LFountainShow$Weather;", true)
  | 4 => ("FountainShow$Show", "cues", "LFountainShow$Cues;", true)
  | 5 => ("FountainShow$Show", "time", "I", false)
  | _ => ("FountainShow$Show", "wetTicks", "I", false)
def tyX5 : Nat → FieldType := fun k => match k with
  | 0 => .object "FountainShow$Settings"
  | 1 => .object "FountainShow$Nozzles"
  | 2 => .object "FountainShow$Pumps"
  | 3 => .object "FountainShow$Weather"
  | 4 => .object "FountainShow$Cues"
  | 5 => .int
  | _ => .int
theorem nmX5 : ∀ a, a < 7 → ∀ b, b < 7 → a ≠ b → (TX5 a).2.1 ≠ (TX5 b).2.1 := by decide +kernel
theorem tyX5_ok : ∀ k, k < 7 → parseFieldDescriptor (TX5 k).2.2.1 = some (tyX5 k) := by decide +kernel
abbrev cX5_init : ByteArray := prog_7_method_1_code
def yX5_init : MethodName := ⟨RX5, "<init>", "()V"⟩
abbrev cX5_begin : ByteArray := prog_7_method_2_code
def yX5_begin : MethodName := ⟨RX5, "begin", "(I)V"⟩
abbrev cX5_goBack : ByteArray := prog_7_method_3_code
def yX5_goBack : MethodName := ⟨RX5, "goBack", "()V"⟩
abbrev cX5_copy : ByteArray := prog_7_method_4_code
def yX5_copy : MethodName := ⟨RX5, "copy", "(LFountainShow$Show;)V"⟩
abbrev cX5_makeTick : ByteArray := prog_7_method_5_code
def yX5_makeTick : MethodName := ⟨RX5, "makeTick", "()V"⟩
def RX6 : String := "FountainShow$Slot"
def TX6 : u_T := fun k => match k with
  | 0 => ("FountainShow$Slot", "kept", "LFountainShow$Show;", true)
  | _ => ("FountainShow$Slot", "filled", "Z", false)
def tyX6 : Nat → FieldType := fun k => match k with
  | 0 => .object "FountainShow$Show"
  | _ => .boolean
theorem nmX6 : ∀ a, a < 2 → ∀ b, b < 2 → a ≠ b → (TX6 a).2.1 ≠ (TX6 b).2.1 := by decide +kernel
theorem tyX6_ok : ∀ k, k < 2 → parseFieldDescriptor (TX6 k).2.2.1 = some (tyX6 k) := by decide +kernel
abbrev cX6_init : ByteArray := prog_8_method_1_code
def yX6_init : MethodName := ⟨RX6, "<init>", "()V"⟩
def RX7 : String := "FountainShow$Weather"
def TX7 : u_T := fun k => match k with
  | 0 => ("FountainShow$Weather", "wind", "I", false)
  | 1 => ("FountainShow$Weather", "filtered", "I", false)
  | 2 => ("FountainShow$Weather", "stage", "I", false)
  | _ => ("FountainShow$Weather", "calm", "I", false)
def tyX7 : Nat → FieldType := fun k => match k with
  | 0 => .int
  | 1 => .int
  | 2 => .int
  | _ => .int
theorem nmX7 : ∀ a, a < 4 → ∀ b, b < 4 → a ≠ b → (TX7 a).2.1 ≠ (TX7 b).2.1 := by decide +kernel
theorem tyX7_ok : ∀ k, k < 4 → parseFieldDescriptor (TX7 k).2.2.1 = some (tyX7 k) := by decide +kernel
abbrev cX7_init : ByteArray := prog_9_method_1_code
def yX7_init : MethodName := ⟨RX7, "<init>", "()V"⟩
abbrev cX7_measured : ByteArray := prog_9_method_2_code
def yX7_measured : MethodName := ⟨RX7, "measured", "()I"⟩
abbrev cX7_goBack : ByteArray := prog_9_method_3_code
def yX7_goBack : MethodName := ⟨RX7, "goBack", "()V"⟩
abbrev cX7_copy : ByteArray := prog_9_method_4_code
def yX7_copy : MethodName := ⟨RX7, "copy", "(LFountainShow$Weather;)V"⟩
abbrev cX7_blow : ByteArray := prog_9_method_5_code
def yX7_blow : MethodName := ⟨RX7, "blow", "(LFountainShow$Settings;)V"⟩
abbrev cX7_enter : ByteArray := prog_9_method_6_code
def yX7_enter : MethodName := ⟨RX7, "enter", "(I)V"⟩
abbrev cX7_calmDown : ByteArray := prog_9_method_7_code
def yX7_calmDown : MethodName := ⟨RX7, "calmDown", "(I)V"⟩
def RX8 : String := "FountainShow"
def TX8 : u_T := fun k => match k with
  | 0 => ("FountainShow", "show", "LFountainShow$Show;", true)
  | 1 => ("FountainShow", "trial", "LFountainShow$Show;", true)
  | 2 => ("FountainShow", "firstSlot", "LFountainShow$Slot;", true)
  | 3 => ("FountainShow", "secondSlot", "LFountainShow$Slot;", true)
  | _ => ("FountainShow", "pad", "LFountainShow$Pad;", true)
def tyX8 : Nat → FieldType := fun k => match k with
  | 0 => .object "FountainShow$Show"
  | 1 => .object "FountainShow$Show"
  | 2 => .object "FountainShow$Slot"
  | 3 => .object "FountainShow$Slot"
  | _ => .object "FountainShow$Pad"
theorem nmX8 : ∀ a, a < 5 → ∀ b, b < 5 → a ≠ b → (TX8 a).2.1 ≠ (TX8 b).2.1 := by decide +kernel
theorem tyX8_ok : ∀ k, k < 5 → parseFieldDescriptor (TX8 k).2.2.1 = some (tyX8 k) := by decide +kernel
abbrev cX8_init : ByteArray := prog_1_method_1_code
def yX8_init : MethodName := ⟨RX8, "<init>", "()V"⟩
abbrev cX8_setUp : ByteArray := prog_1_method_2_code
def yX8_setUp : MethodName := ⟨RX8, "setUp", "(I)I"⟩
abbrev cX8_nozzle : ByteArray := prog_1_method_3_code
def yX8_nozzle : MethodName := ⟨RX8, "nozzle", "(III)I"⟩
abbrev cX8_pump : ByteArray := prog_1_method_4_code
def yX8_pump : MethodName := ⟨RX8, "pump", "(III)I"⟩
abbrev cX8_set : ByteArray := prog_1_method_5_code
def yX8_set : MethodName := ⟨RX8, "set", "(II)I"⟩
abbrev cX8_wind : ByteArray := prog_1_method_6_code
def yX8_wind : MethodName := ⟨RX8, "wind", "(I)I"⟩
abbrev cX8_cue : ByteArray := prog_1_method_7_code
def yX8_cue : MethodName := ⟨RX8, "cue", "(III)I"⟩
abbrev cX8_remove : ByteArray := prog_1_method_8_code
def yX8_remove : MethodName := ⟨RX8, "remove", "(I)I"⟩
abbrev cX8_move : ByteArray := prog_1_method_9_code
def yX8_move : MethodName := ⟨RX8, "move", "(II)I"⟩
abbrev cX8_part : ByteArray := prog_1_method_10_code
def yX8_part : MethodName := ⟨RX8, "part", "(II)I"⟩
abbrev cX8_command : ByteArray := prog_1_method_11_code
def yX8_command : MethodName := ⟨RX8, "command", "(II)I"⟩
abbrev cX8_tick : ByteArray := prog_1_method_12_code
def yX8_tick : MethodName := ⟨RX8, "tick", "(I)I"⟩
abbrev cX8_rewind : ByteArray := prog_1_method_13_code
def yX8_rewind : MethodName := ⟨RX8, "rewind", "()I"⟩
abbrev cX8_spray : ByteArray := prog_1_method_14_code
def yX8_spray : MethodName := ⟨RX8, "spray", "(II)I"⟩
abbrev cX8_pressure : ByteArray := prog_1_method_15_code
def yX8_pressure : MethodName := ⟨RX8, "pressure", "(II)I"⟩
abbrev cX8_load : ByteArray := prog_1_method_16_code
def yX8_load : MethodName := ⟨RX8, "load", "(I)F"⟩
abbrev cX8_state : ByteArray := prog_1_method_18_code
def yX8_state : MethodName := ⟨RX8, "state", "(I)I"⟩
abbrev cX8_ahead : ByteArray := prog_1_method_19_code
def yX8_ahead : MethodName := ⟨RX8, "ahead", "(III)I"⟩
abbrev cX8_delay : ByteArray := prog_1_method_20_code
def yX8_delay : MethodName := ⟨RX8, "delay", "(III)I"⟩
abbrev cX8_safeCut : ByteArray := prog_1_method_21_code
def yX8_safeCut : MethodName := ⟨RX8, "safeCut", "(I)I"⟩
abbrev cX8_say : ByteArray := prog_1_method_22_code
def yX8_say : MethodName := ⟨RX8, "say", "(I)I"⟩
abbrev cX8_read : ByteArray := prog_1_method_25_code
def yX8_read : MethodName := ⟨RX8, "read", "(I)I"⟩
abbrev cX8_save : ByteArray := prog_1_method_26_code
def yX8_save : MethodName := ⟨RX8, "save", "(I)I"⟩
abbrev cX8_restore : ByteArray := prog_1_method_27_code
def yX8_restore : MethodName := ⟨RX8, "restore", "(I)I"⟩
abbrev cX8_slotAt : ByteArray := prog_1_method_28_code
def yX8_slotAt : MethodName := ⟨RX8, "slotAt", "(I)LFountainShow$Slot;"⟩
abbrev cX8_greatestDemand : ByteArray := prog_1_method_29_code
def yX8_greatestDemand : MethodName := ⟨RX8, "greatestDemand", "(II)I"⟩
abbrev cX8_shortTicks : ByteArray := prog_1_method_30_code
def yX8_shortTicks : MethodName := ⟨RX8, "shortTicks", "(II)I"⟩
abbrev cX8_firstShort : ByteArray := prog_1_method_31_code
def yX8_firstShort : MethodName := ⟨RX8, "firstShort", "(II)I"⟩
abbrev cX8_wetTicks : ByteArray := prog_1_method_32_code
def yX8_wetTicks : MethodName := ⟨RX8, "wetTicks", "(I)I"⟩
abbrev cX8_greatestHeight : ByteArray := prog_1_method_33_code
def yX8_greatestHeight : MethodName := ⟨RX8, "greatestHeight", "(I)I"⟩
abbrev cX8_staysSupplied : ByteArray := prog_1_method_34_code
def yX8_staysSupplied : MethodName := ⟨RX8, "staysSupplied", "(I)Z"⟩
abbrev cX8_staysDry : ByteArray := prog_1_method_35_code
def yX8_staysDry : MethodName := ⟨RX8, "staysDry", "(I)Z"⟩
abbrev cX8_within : ByteArray := prog_1_method_36_code
def yX8_within : MethodName := ⟨RX8, "within", "(III)Z"⟩
abbrev cX8_quotient : ByteArray := prog_1_method_37_code
def yX8_quotient : MethodName := ⟨RX8, "quotient", "(JJ)J"⟩
abbrev cX8_toward : ByteArray := prog_1_method_38_code
def yX8_toward : MethodName := ⟨RX8, "toward", "(III)I"⟩
abbrev cX8_copyRow : ByteArray := prog_1_method_39_code
def yX8_copyRow : MethodName := ⟨RX8, "copyRow", "([I[I)V"⟩
abbrev cX8_clear : ByteArray := prog_1_method_40_code
def yX8_clear : MethodName := ⟨RX8, "clear", "([I)V"⟩
def RX9 : String := "FountainShowModel"
def TX9 : u_T := fun k => match k with
  | _ => ("", "", "", false)
def tyX9 : Nat → FieldType := fun k => match k with
  | _ => .int
theorem nmX9 : ∀ a, a < 0 → ∀ b, b < 0 → a ≠ b → (TX9 a).2.1 ≠ (TX9 b).2.1 := by decide +kernel
theorem tyX9_ok : ∀ k, k < 0 → parseFieldDescriptor (TX9 k).2.2.1 = some (tyX9 k) := by decide +kernel
def RJ9 : String := "java/lang/Math"
def TJ9 : u_T := fun k => match k with
  | _ => ("", "", "", false)
abbrev cJ9_floorDiv_f86c9 : ByteArray := prog_12_method_49_code
def yJ9_floorDiv_f86c9 : MethodName := ⟨RJ9, "floorDiv", "(JJ)J"⟩
abbrev cJ9_floorMod_7cf53 : ByteArray := prog_12_method_50_code
def yJ9_floorMod_7cf53 : MethodName := ⟨RJ9, "floorMod", "(II)I"⟩
abbrev cJ9_max_7cf53 : ByteArray := prog_12_method_65_code
def yJ9_max_7cf53 : MethodName := ⟨RJ9, "max", "(II)I"⟩
abbrev cJ9_min_7cf53 : ByteArray := prog_12_method_69_code
def yJ9_min_7cf53 : MethodName := ⟨RJ9, "min", "(II)I"⟩
def RJ10 : String := "java/lang/System"
def TJ10 : u_T := fun k => match k with
  | _ => ("", "", "", false)
def RL : String := "FountainShowLaw"
abbrev cL_cell : ByteArray := method_2_code
def yL_cell : MethodName := ⟨RL, "cell", "([II)I"⟩
abbrev cL_up : ByteArray := method_3_code
def yL_up : MethodName := ⟨RL, "up", "(II)I"⟩
abbrev cL_law : ByteArray := code
def yL_law : MethodName := ⟨RL, "law", "([I)Z"⟩
abbrev cL_act : ByteArray := method_5_code
def yL_act : MethodName := ⟨RL, "act", "(LFountainShow;III)Z"⟩
abbrev cL_ordered : ByteArray := method_6_code
def yL_ordered : MethodName := ⟨RL, "ordered", "(LFountainShow;)Z"⟩
abbrev cL_ticks : ByteArray := method_7_code
def yL_ticks : MethodName := ⟨RL, "ticks", "(LFountainShow;I)Z"⟩
abbrev cL_wind : ByteArray := method_8_code
def yL_wind : MethodName := ⟨RL, "wind", "(LFountainShow;II)Z"⟩
abbrev cL_comesTrue : ByteArray := method_9_code
def yL_comesTrue : MethodName := ⟨RL, "comesTrue", "(LFountainShow;I)Z"⟩
abbrev cL_delayed : ByteArray := method_10_code
def yL_delayed : MethodName := ⟨RL, "delayed", "(LFountainShow;I)Z"⟩
abbrev cL_cutBack : ByteArray := method_11_code
def yL_cutBack : MethodName := ⟨RL, "cutBack", "(LFountainShow;I)Z"⟩
abbrev cL_kept : ByteArray := method_12_code
def yL_kept : MethodName := ⟨RL, "kept", "(LFountainShow;I)Z"⟩
abbrev cL_refused : ByteArray := method_13_code
def yL_refused : MethodName := ⟨RL, "refused", "(LFountainShow;I)Z"⟩
abbrev vwCl : List vw_C := [(RX0, TX0, 4), (RX1, TX1, 10), (RX2, TX2, 7), (RX3, TX3, 4), (RX4, TX4, 5), (RX5, TX5, 7), (RX6, TX6, 2), (RX7, TX7, 4), (RX8, TX8, 5)]
end
section
theorem dX0_init_0 : decode cX0_init 0 = .ok (.aload_n 0, 1) := by decide +kernel
theorem dX0_init_1 : decode cX0_init 1 = .ok (.invokespecial 3, 3) := by decide +kernel
theorem dX0_init_4 : decode cX0_init 4 = .ok (.aload_n 0, 1) := by decide +kernel
theorem dX0_init_5 : decode cX0_init 5 = .ok (.bipush 60, 2) := by decide +kernel
theorem dX0_init_7 : decode cX0_init 7 = .ok (.newarray .int, 2) := by decide +kernel
theorem dX0_init_9 : decode cX0_init 9 = .ok (.putfield 9, 3) := by decide +kernel
theorem dX0_init_12 : decode cX0_init 12 = .ok (.aload_n 0, 1) := by decide +kernel
theorem dX0_init_13 : decode cX0_init 13 = .ok (.bipush 60, 2) := by decide +kernel
theorem dX0_init_15 : decode cX0_init 15 = .ok (.newarray .int, 2) := by decide +kernel
theorem dX0_init_17 : decode cX0_init 17 = .ok (.putfield 15, 3) := by decide +kernel
theorem dX0_init_20 : decode cX0_init 20 = .ok (.aload_n 0, 1) := by decide +kernel
theorem dX0_init_21 : decode cX0_init 21 = .ok (.bipush 60, 2) := by decide +kernel
theorem dX0_init_23 : decode cX0_init 23 = .ok (.newarray .int, 2) := by decide +kernel
theorem dX0_init_25 : decode cX0_init 25 = .ok (.putfield 18, 3) := by decide +kernel
theorem dX0_init_28 : decode cX0_init 28 = .ok (.aload_n 0, 1) := by decide +kernel
theorem dX0_init_29 : decode cX0_init 29 = .ok (.iconst 0, 1) := by decide +kernel
theorem dX0_init_30 : decode cX0_init 30 = .ok (.putfield 21, 3) := by decide +kernel
theorem dX0_init_33 : decode cX0_init 33 = .ok (.return_, 1) := by decide +kernel
theorem dX0_has_0 : decode cX0_has 0 = .ok (.iload_n 1, 1) := by decide +kernel
theorem dX0_has_1 : decode cX0_has 1 = .ok (.iconst 0, 1) := by decide +kernel
theorem dX0_has_2 : decode cX0_has 2 = .ok (.aload_n 0, 1) := by decide +kernel
theorem dX0_has_3 : decode cX0_has 3 = .ok (.getfield 21, 3) := by decide +kernel
theorem dX0_has_6 : decode cX0_has 6 = .ok (.iconst 1, 1) := by decide +kernel
theorem dX0_has_7 : decode cX0_has 7 = .ok (.isub, 1) := by decide +kernel
theorem dX0_has_8 : decode cX0_has 8 = .ok (.invokestatic 25, 3) := by decide +kernel
theorem dX0_has_11 : decode cX0_has 11 = .ok (.ireturn, 1) := by decide +kernel
theorem dX0_copy_0 : decode cX0_copy 0 = .ok (.aload_n 0, 1) := by decide +kernel
theorem dX0_copy_1 : decode cX0_copy 1 = .ok (.aload_n 1, 1) := by decide +kernel
theorem dX0_copy_2 : decode cX0_copy 2 = .ok (.getfield 21, 3) := by decide +kernel
theorem dX0_copy_5 : decode cX0_copy 5 = .ok (.putfield 21, 3) := by decide +kernel
theorem dX0_copy_8 : decode cX0_copy 8 = .ok (.aload_n 1, 1) := by decide +kernel
theorem dX0_copy_9 : decode cX0_copy 9 = .ok (.getfield 9, 3) := by decide +kernel
theorem dX0_copy_12 : decode cX0_copy 12 = .ok (.aload_n 0, 1) := by decide +kernel
theorem dX0_copy_13 : decode cX0_copy 13 = .ok (.getfield 9, 3) := by decide +kernel
theorem dX0_copy_16 : decode cX0_copy 16 = .ok (.invokestatic 29, 3) := by decide +kernel
theorem dX0_copy_19 : decode cX0_copy 19 = .ok (.aload_n 1, 1) := by decide +kernel
theorem dX0_copy_20 : decode cX0_copy 20 = .ok (.getfield 15, 3) := by decide +kernel
theorem dX0_copy_23 : decode cX0_copy 23 = .ok (.aload_n 0, 1) := by decide +kernel
theorem dX0_copy_24 : decode cX0_copy 24 = .ok (.getfield 15, 3) := by decide +kernel
theorem dX0_copy_27 : decode cX0_copy 27 = .ok (.invokestatic 29, 3) := by decide +kernel
theorem dX0_copy_30 : decode cX0_copy 30 = .ok (.aload_n 1, 1) := by decide +kernel
theorem dX0_copy_31 : decode cX0_copy 31 = .ok (.getfield 18, 3) := by decide +kernel
theorem dX0_copy_34 : decode cX0_copy 34 = .ok (.aload_n 0, 1) := by decide +kernel
theorem dX0_copy_35 : decode cX0_copy 35 = .ok (.getfield 18, 3) := by decide +kernel
theorem dX0_copy_38 : decode cX0_copy 38 = .ok (.invokestatic 29, 3) := by decide +kernel
theorem dX0_copy_41 : decode cX0_copy 41 = .ok (.return_, 1) := by decide +kernel
theorem dX0_insert_0 : decode cX0_insert 0 = .ok (.aload_n 0, 1) := by decide +kernel
theorem dX0_insert_1 : decode cX0_insert 1 = .ok (.getfield 21, 3) := by decide +kernel
theorem dX0_insert_4 : decode cX0_insert 4 = .ok (.bipush 60, 2) := by decide +kernel
theorem dX0_insert_6 : decode cX0_insert 6 = .ok (.if_icmp .lt 6, 3) := by decide +kernel
theorem dX0_insert_9 : decode cX0_insert 9 = .ok (.bipush (-4), 2) := by decide +kernel
theorem dX0_insert_11 : decode cX0_insert 11 = .ok (.ireturn, 1) := by decide +kernel
theorem dX0_insert_12 : decode cX0_insert 12 = .ok (.aload_n 0, 1) := by decide +kernel
theorem dX0_insert_13 : decode cX0_insert 13 = .ok (.iload_n 1, 1) := by decide +kernel
theorem dX0_insert_14 : decode cX0_insert 14 = .ok (.iconst 1, 1) := by decide +kernel
theorem dX0_insert_15 : decode cX0_insert 15 = .ok (.iadd, 1) := by decide +kernel
theorem dX0_insert_16 : decode cX0_insert 16 = .ok (.invokevirtual 33, 3) := by decide +kernel
theorem dX0_insert_19 : decode cX0_insert 19 = .ok (.istore 4, 2) := by decide +kernel
theorem dX0_insert_21 : decode cX0_insert 21 = .ok (.iload 4, 2) := by decide +kernel
theorem dX0_insert_23 : decode cX0_insert 23 = .ok (.bipush (-6), 2) := by decide +kernel
theorem dX0_insert_25 : decode cX0_insert 25 = .ok (.if_icmp .ne 9, 3) := by decide +kernel
theorem dX0_insert_28 : decode cX0_insert 28 = .ok (.aload_n 0, 1) := by decide +kernel
theorem dX0_insert_29 : decode cX0_insert 29 = .ok (.getfield 21, 3) := by decide +kernel
theorem dX0_insert_32 : decode cX0_insert 32 = .ok (.istore 4, 2) := by decide +kernel
theorem dX0_insert_34 : decode cX0_insert 34 = .ok (.aload_n 0, 1) := by decide +kernel
theorem dX0_insert_35 : decode cX0_insert 35 = .ok (.iload 4, 2) := by decide +kernel
theorem dX0_insert_37 : decode cX0_insert 37 = .ok (.iload 4, 2) := by decide +kernel
theorem dX0_insert_39 : decode cX0_insert 39 = .ok (.iconst 1, 1) := by decide +kernel
theorem dX0_insert_40 : decode cX0_insert 40 = .ok (.iadd, 1) := by decide +kernel
theorem dX0_insert_41 : decode cX0_insert 41 = .ok (.aload_n 0, 1) := by decide +kernel
theorem dX0_insert_42 : decode cX0_insert 42 = .ok (.getfield 21, 3) := by decide +kernel
theorem dX0_insert_45 : decode cX0_insert 45 = .ok (.iload 4, 2) := by decide +kernel
theorem dX0_insert_47 : decode cX0_insert 47 = .ok (.isub, 1) := by decide +kernel
theorem dX0_insert_48 : decode cX0_insert 48 = .ok (.invokevirtual 37, 3) := by decide +kernel
theorem dX0_insert_51 : decode cX0_insert 51 = .ok (.aload_n 0, 1) := by decide +kernel
theorem dX0_insert_52 : decode cX0_insert 52 = .ok (.getfield 9, 3) := by decide +kernel
theorem dX0_insert_55 : decode cX0_insert 55 = .ok (.iload 4, 2) := by decide +kernel
theorem dX0_insert_57 : decode cX0_insert 57 = .ok (.iload_n 1, 1) := by decide +kernel
theorem dX0_insert_58 : decode cX0_insert 58 = .ok (.iastore, 1) := by decide +kernel
theorem dX0_insert_59 : decode cX0_insert 59 = .ok (.aload_n 0, 1) := by decide +kernel
theorem dX0_insert_60 : decode cX0_insert 60 = .ok (.getfield 15, 3) := by decide +kernel
theorem dX0_insert_63 : decode cX0_insert 63 = .ok (.iload 4, 2) := by decide +kernel
theorem dX0_insert_65 : decode cX0_insert 65 = .ok (.iload_n 2, 1) := by decide +kernel
theorem dX0_insert_66 : decode cX0_insert 66 = .ok (.iastore, 1) := by decide +kernel
theorem dX0_insert_67 : decode cX0_insert 67 = .ok (.aload_n 0, 1) := by decide +kernel
theorem dX0_insert_68 : decode cX0_insert 68 = .ok (.getfield 18, 3) := by decide +kernel
theorem dX0_insert_71 : decode cX0_insert 71 = .ok (.iload 4, 2) := by decide +kernel
theorem dX0_insert_73 : decode cX0_insert 73 = .ok (.iload_n 3, 1) := by decide +kernel
theorem dX0_insert_74 : decode cX0_insert 74 = .ok (.iastore, 1) := by decide +kernel
theorem dX0_insert_75 : decode cX0_insert 75 = .ok (.aload_n 0, 1) := by decide +kernel
theorem dX0_insert_76 : decode cX0_insert 76 = .ok (.dup, 1) := by decide +kernel
theorem dX0_insert_77 : decode cX0_insert 77 = .ok (.getfield 21, 3) := by decide +kernel
theorem dX0_insert_80 : decode cX0_insert 80 = .ok (.iconst 1, 1) := by decide +kernel
theorem dX0_insert_81 : decode cX0_insert 81 = .ok (.iadd, 1) := by decide +kernel
theorem dX0_insert_82 : decode cX0_insert 82 = .ok (.putfield 21, 3) := by decide +kernel
theorem dX0_insert_85 : decode cX0_insert 85 = .ok (.iload 4, 2) := by decide +kernel
theorem dX0_insert_87 : decode cX0_insert 87 = .ok (.ireturn, 1) := by decide +kernel
theorem dX0_takeOut_0 : decode cX0_takeOut 0 = .ok (.aload_n 0, 1) := by decide +kernel
theorem dX0_takeOut_1 : decode cX0_takeOut 1 = .ok (.iload_n 1, 1) := by decide +kernel
theorem dX0_takeOut_2 : decode cX0_takeOut 2 = .ok (.iconst 1, 1) := by decide +kernel
theorem dX0_takeOut_3 : decode cX0_takeOut 3 = .ok (.iadd, 1) := by decide +kernel
theorem dX0_takeOut_4 : decode cX0_takeOut 4 = .ok (.iload_n 1, 1) := by decide +kernel
theorem dX0_takeOut_5 : decode cX0_takeOut 5 = .ok (.aload_n 0, 1) := by decide +kernel
theorem dX0_takeOut_6 : decode cX0_takeOut 6 = .ok (.getfield 21, 3) := by decide +kernel
theorem dX0_takeOut_9 : decode cX0_takeOut 9 = .ok (.iload_n 1, 1) := by decide +kernel
theorem dX0_takeOut_10 : decode cX0_takeOut 10 = .ok (.isub, 1) := by decide +kernel
theorem dX0_takeOut_11 : decode cX0_takeOut 11 = .ok (.iconst 1, 1) := by decide +kernel
theorem dX0_takeOut_12 : decode cX0_takeOut 12 = .ok (.isub, 1) := by decide +kernel
theorem dX0_takeOut_13 : decode cX0_takeOut 13 = .ok (.invokevirtual 37, 3) := by decide +kernel
theorem dX0_takeOut_16 : decode cX0_takeOut 16 = .ok (.aload_n 0, 1) := by decide +kernel
theorem dX0_takeOut_17 : decode cX0_takeOut 17 = .ok (.dup, 1) := by decide +kernel
theorem dX0_takeOut_18 : decode cX0_takeOut 18 = .ok (.getfield 21, 3) := by decide +kernel
theorem dX0_takeOut_21 : decode cX0_takeOut 21 = .ok (.iconst 1, 1) := by decide +kernel
theorem dX0_takeOut_22 : decode cX0_takeOut 22 = .ok (.isub, 1) := by decide +kernel
theorem dX0_takeOut_23 : decode cX0_takeOut 23 = .ok (.putfield 21, 3) := by decide +kernel
theorem dX0_takeOut_26 : decode cX0_takeOut 26 = .ok (.return_, 1) := by decide +kernel
theorem dX0_postpone_0 : decode cX0_postpone 0 = .ok (.aload_n 0, 1) := by decide +kernel
theorem dX0_postpone_1 : decode cX0_postpone 1 = .ok (.getfield 9, 3) := by decide +kernel
theorem dX0_postpone_4 : decode cX0_postpone 4 = .ok (.iload_n 1, 1) := by decide +kernel
theorem dX0_postpone_5 : decode cX0_postpone 5 = .ok (.iaload, 1) := by decide +kernel
theorem dX0_postpone_6 : decode cX0_postpone 6 = .ok (.iload_n 2, 1) := by decide +kernel
theorem dX0_postpone_7 : decode cX0_postpone 7 = .ok (.iadd, 1) := by decide +kernel
theorem dX0_postpone_8 : decode cX0_postpone 8 = .ok (.istore_n 3, 1) := by decide +kernel
theorem dX0_postpone_9 : decode cX0_postpone 9 = .ok (.aload_n 0, 1) := by decide +kernel
theorem dX0_postpone_10 : decode cX0_postpone 10 = .ok (.getfield 15, 3) := by decide +kernel
theorem dX0_postpone_13 : decode cX0_postpone 13 = .ok (.iload_n 1, 1) := by decide +kernel
theorem dX0_postpone_14 : decode cX0_postpone 14 = .ok (.iaload, 1) := by decide +kernel
theorem dX0_postpone_15 : decode cX0_postpone 15 = .ok (.istore 4, 2) := by decide +kernel
theorem dX0_postpone_17 : decode cX0_postpone 17 = .ok (.aload_n 0, 1) := by decide +kernel
theorem dX0_postpone_18 : decode cX0_postpone 18 = .ok (.getfield 18, 3) := by decide +kernel
theorem dX0_postpone_21 : decode cX0_postpone 21 = .ok (.iload_n 1, 1) := by decide +kernel
theorem dX0_postpone_22 : decode cX0_postpone 22 = .ok (.iaload, 1) := by decide +kernel
theorem dX0_postpone_23 : decode cX0_postpone 23 = .ok (.istore 5, 2) := by decide +kernel
theorem dX0_postpone_25 : decode cX0_postpone 25 = .ok (.aload_n 0, 1) := by decide +kernel
theorem dX0_postpone_26 : decode cX0_postpone 26 = .ok (.iload_n 1, 1) := by decide +kernel
theorem dX0_postpone_27 : decode cX0_postpone 27 = .ok (.invokevirtual 41, 3) := by decide +kernel
theorem dX0_postpone_30 : decode cX0_postpone 30 = .ok (.aload_n 0, 1) := by decide +kernel
theorem dX0_postpone_31 : decode cX0_postpone 31 = .ok (.iload_n 3, 1) := by decide +kernel
theorem dX0_postpone_32 : decode cX0_postpone 32 = .ok (.iload 4, 2) := by decide +kernel
theorem dX0_postpone_34 : decode cX0_postpone 34 = .ok (.iload 5, 2) := by decide +kernel
theorem dX0_postpone_36 : decode cX0_postpone 36 = .ok (.invokevirtual 45, 3) := by decide +kernel
theorem dX0_postpone_39 : decode cX0_postpone 39 = .ok (.ireturn, 1) := by decide +kernel
theorem dX0_next_0 : decode cX0_next 0 = .ok (.iconst 0, 1) := by decide +kernel
theorem dX0_next_1 : decode cX0_next 1 = .ok (.istore_n 2, 1) := by decide +kernel
theorem dX0_next_2 : decode cX0_next 2 = .ok (.iload_n 2, 1) := by decide +kernel
theorem dX0_next_3 : decode cX0_next 3 = .ok (.aload_n 0, 1) := by decide +kernel
theorem dX0_next_4 : decode cX0_next 4 = .ok (.getfield 21, 3) := by decide +kernel
theorem dX0_next_7 : decode cX0_next 7 = .ok (.if_icmp .ge 21, 3) := by decide +kernel
theorem dX0_next_10 : decode cX0_next 10 = .ok (.aload_n 0, 1) := by decide +kernel
theorem dX0_next_11 : decode cX0_next 11 = .ok (.getfield 9, 3) := by decide +kernel
theorem dX0_next_14 : decode cX0_next 14 = .ok (.iload_n 2, 1) := by decide +kernel
theorem dX0_next_15 : decode cX0_next 15 = .ok (.iaload, 1) := by decide +kernel
theorem dX0_next_16 : decode cX0_next 16 = .ok (.iload_n 1, 1) := by decide +kernel
theorem dX0_next_17 : decode cX0_next 17 = .ok (.if_icmp .lt 5, 3) := by decide +kernel
theorem dX0_next_20 : decode cX0_next 20 = .ok (.iload_n 2, 1) := by decide +kernel
theorem dX0_next_21 : decode cX0_next 21 = .ok (.ireturn, 1) := by decide +kernel
theorem dX0_next_22 : decode cX0_next 22 = .ok (.iinc 2 1, 3) := by decide +kernel
theorem dX0_next_25 : decode cX0_next 25 = .ok (.goto (-23), 3) := by decide +kernel
theorem dX0_next_28 : decode cX0_next 28 = .ok (.bipush (-6), 2) := by decide +kernel
theorem dX0_next_30 : decode cX0_next 30 = .ok (.ireturn, 1) := by decide +kernel
theorem dX0_carryOut_0 : decode cX0_carryOut 0 = .ok (.iconst 0, 1) := by decide +kernel
theorem dX0_carryOut_1 : decode cX0_carryOut 1 = .ok (.istore_n 3, 1) := by decide +kernel
theorem dX0_carryOut_2 : decode cX0_carryOut 2 = .ok (.iload_n 3, 1) := by decide +kernel
theorem dX0_carryOut_3 : decode cX0_carryOut 3 = .ok (.aload_n 0, 1) := by decide +kernel
theorem dX0_carryOut_4 : decode cX0_carryOut 4 = .ok (.getfield 21, 3) := by decide +kernel
theorem dX0_carryOut_7 : decode cX0_carryOut 7 = .ok (.if_icmp .ge 45, 3) := by decide +kernel
theorem dX0_carryOut_10 : decode cX0_carryOut 10 = .ok (.aload_n 0, 1) := by decide +kernel
theorem dX0_carryOut_11 : decode cX0_carryOut 11 = .ok (.getfield 9, 3) := by decide +kernel
theorem dX0_carryOut_14 : decode cX0_carryOut 14 = .ok (.iload_n 3, 1) := by decide +kernel
theorem dX0_carryOut_15 : decode cX0_carryOut 15 = .ok (.iaload, 1) := by decide +kernel
theorem dX0_carryOut_16 : decode cX0_carryOut 16 = .ok (.iload_n 1, 1) := by decide +kernel
theorem dX0_carryOut_17 : decode cX0_carryOut 17 = .ok (.if_icmp .gt 35, 3) := by decide +kernel
theorem dX0_carryOut_20 : decode cX0_carryOut 20 = .ok (.aload_n 0, 1) := by decide +kernel
theorem dX0_carryOut_21 : decode cX0_carryOut 21 = .ok (.getfield 9, 3) := by decide +kernel
theorem dX0_carryOut_24 : decode cX0_carryOut 24 = .ok (.iload_n 3, 1) := by decide +kernel
theorem dX0_carryOut_25 : decode cX0_carryOut 25 = .ok (.iaload, 1) := by decide +kernel
theorem dX0_carryOut_26 : decode cX0_carryOut 26 = .ok (.iload_n 1, 1) := by decide +kernel
theorem dX0_carryOut_27 : decode cX0_carryOut 27 = .ok (.if_icmp .ne 19, 3) := by decide +kernel
theorem dX0_carryOut_30 : decode cX0_carryOut 30 = .ok (.aload_n 2, 1) := by decide +kernel
theorem dX0_carryOut_31 : decode cX0_carryOut 31 = .ok (.aload_n 0, 1) := by decide +kernel
theorem dX0_carryOut_32 : decode cX0_carryOut 32 = .ok (.getfield 15, 3) := by decide +kernel
theorem dX0_carryOut_35 : decode cX0_carryOut 35 = .ok (.iload_n 3, 1) := by decide +kernel
theorem dX0_carryOut_36 : decode cX0_carryOut 36 = .ok (.iaload, 1) := by decide +kernel
theorem dX0_carryOut_37 : decode cX0_carryOut 37 = .ok (.aload_n 0, 1) := by decide +kernel
theorem dX0_carryOut_38 : decode cX0_carryOut 38 = .ok (.getfield 18, 3) := by decide +kernel
theorem dX0_carryOut_41 : decode cX0_carryOut 41 = .ok (.iload_n 3, 1) := by decide +kernel
theorem dX0_carryOut_42 : decode cX0_carryOut 42 = .ok (.iaload, 1) := by decide +kernel
theorem dX0_carryOut_43 : decode cX0_carryOut 43 = .ok (.invokevirtual 49, 3) := by decide +kernel
theorem dX0_carryOut_46 : decode cX0_carryOut 46 = .ok (.iinc 3 1, 3) := by decide +kernel
theorem dX0_carryOut_49 : decode cX0_carryOut 49 = .ok (.goto (-47), 3) := by decide +kernel
theorem dX0_carryOut_52 : decode cX0_carryOut 52 = .ok (.return_, 1) := by decide +kernel
theorem dX0_shift_0 : decode cX0_shift 0 = .ok (.aload_n 0, 1) := by decide +kernel
theorem dX0_shift_1 : decode cX0_shift 1 = .ok (.getfield 9, 3) := by decide +kernel
theorem dX0_shift_4 : decode cX0_shift 4 = .ok (.iload_n 1, 1) := by decide +kernel
theorem dX0_shift_5 : decode cX0_shift 5 = .ok (.aload_n 0, 1) := by decide +kernel
theorem dX0_shift_6 : decode cX0_shift 6 = .ok (.getfield 9, 3) := by decide +kernel
theorem dX0_shift_9 : decode cX0_shift 9 = .ok (.iload_n 2, 1) := by decide +kernel
theorem dX0_shift_10 : decode cX0_shift 10 = .ok (.iload_n 3, 1) := by decide +kernel
theorem dX0_shift_11 : decode cX0_shift 11 = .ok (.invokestatic 55, 3) := by decide +kernel
theorem dX0_shift_14 : decode cX0_shift 14 = .ok (.aload_n 0, 1) := by decide +kernel
theorem dX0_shift_15 : decode cX0_shift 15 = .ok (.getfield 15, 3) := by decide +kernel
theorem dX0_shift_18 : decode cX0_shift 18 = .ok (.iload_n 1, 1) := by decide +kernel
theorem dX0_shift_19 : decode cX0_shift 19 = .ok (.aload_n 0, 1) := by decide +kernel
theorem dX0_shift_20 : decode cX0_shift 20 = .ok (.getfield 15, 3) := by decide +kernel
theorem dX0_shift_23 : decode cX0_shift 23 = .ok (.iload_n 2, 1) := by decide +kernel
theorem dX0_shift_24 : decode cX0_shift 24 = .ok (.iload_n 3, 1) := by decide +kernel
theorem dX0_shift_25 : decode cX0_shift 25 = .ok (.invokestatic 55, 3) := by decide +kernel
theorem dX0_shift_28 : decode cX0_shift 28 = .ok (.aload_n 0, 1) := by decide +kernel
theorem dX0_shift_29 : decode cX0_shift 29 = .ok (.getfield 18, 3) := by decide +kernel
theorem dX0_shift_32 : decode cX0_shift 32 = .ok (.iload_n 1, 1) := by decide +kernel
theorem dX0_shift_33 : decode cX0_shift 33 = .ok (.aload_n 0, 1) := by decide +kernel
theorem dX0_shift_34 : decode cX0_shift 34 = .ok (.getfield 18, 3) := by decide +kernel
theorem dX0_shift_37 : decode cX0_shift 37 = .ok (.iload_n 2, 1) := by decide +kernel
theorem dX0_shift_38 : decode cX0_shift 38 = .ok (.iload_n 3, 1) := by decide +kernel
theorem dX0_shift_39 : decode cX0_shift 39 = .ok (.invokestatic 55, 3) := by decide +kernel
theorem dX0_shift_42 : decode cX0_shift 42 = .ok (.return_, 1) := by decide +kernel
theorem dX1_init_0 : decode cX1_init 0 = .ok (.aload_n 0, 1) := by decide +kernel
theorem dX1_init_1 : decode cX1_init 1 = .ok (.invokespecial 3, 3) := by decide +kernel
theorem dX1_init_4 : decode cX1_init 4 = .ok (.aload_n 0, 1) := by decide +kernel
theorem dX1_init_5 : decode cX1_init 5 = .ok (.new 9, 3) := by decide +kernel
theorem dX1_init_8 : decode cX1_init 8 = .ok (.dup, 1) := by decide +kernel
theorem dX1_init_9 : decode cX1_init 9 = .ok (.bipush 12, 2) := by decide +kernel
theorem dX1_init_11 : decode cX1_init 11 = .ok (.getstatic 11, 3) := by decide +kernel
theorem dX1_init_14 : decode cX1_init 14 = .ok (.getstatic 15, 3) := by decide +kernel
theorem dX1_init_17 : decode cX1_init 17 = .ok (.getstatic 18, 3) := by decide +kernel
theorem dX1_init_20 : decode cX1_init 20 = .ok (.invokespecial 21, 3) := by decide +kernel
theorem dX1_init_23 : decode cX1_init 23 = .ok (.putfield 24, 3) := by decide +kernel
theorem dX1_init_26 : decode cX1_init 26 = .ok (.aload_n 0, 1) := by decide +kernel
theorem dX1_init_27 : decode cX1_init 27 = .ok (.bipush 12, 2) := by decide +kernel
theorem dX1_init_29 : decode cX1_init 29 = .ok (.newarray .int, 2) := by decide +kernel
theorem dX1_init_31 : decode cX1_init 31 = .ok (.putfield 30, 3) := by decide +kernel
theorem dX1_init_34 : decode cX1_init 34 = .ok (.aload_n 0, 1) := by decide +kernel
theorem dX1_init_35 : decode cX1_init 35 = .ok (.bipush 12, 2) := by decide +kernel
theorem dX1_init_37 : decode cX1_init 37 = .ok (.newarray .int, 2) := by decide +kernel
theorem dX1_init_39 : decode cX1_init 39 = .ok (.putfield 33, 3) := by decide +kernel
theorem dX1_init_42 : decode cX1_init 42 = .ok (.aload_n 0, 1) := by decide +kernel
theorem dX1_init_43 : decode cX1_init 43 = .ok (.bipush 12, 2) := by decide +kernel
theorem dX1_init_45 : decode cX1_init 45 = .ok (.newarray .int, 2) := by decide +kernel
theorem dX1_init_47 : decode cX1_init 47 = .ok (.putfield 36, 3) := by decide +kernel
theorem dX1_init_50 : decode cX1_init 50 = .ok (.aload_n 0, 1) := by decide +kernel
theorem dX1_init_51 : decode cX1_init 51 = .ok (.bipush 12, 2) := by decide +kernel
theorem dX1_init_53 : decode cX1_init 53 = .ok (.newarray .int, 2) := by decide +kernel
theorem dX1_init_55 : decode cX1_init 55 = .ok (.putfield 39, 3) := by decide +kernel
theorem dX1_init_58 : decode cX1_init 58 = .ok (.aload_n 0, 1) := by decide +kernel
theorem dX1_init_59 : decode cX1_init 59 = .ok (.bipush 12, 2) := by decide +kernel
theorem dX1_init_61 : decode cX1_init 61 = .ok (.newarray .int, 2) := by decide +kernel
theorem dX1_init_63 : decode cX1_init 63 = .ok (.putfield 42, 3) := by decide +kernel
theorem dX1_init_66 : decode cX1_init 66 = .ok (.aload_n 0, 1) := by decide +kernel
theorem dX1_init_67 : decode cX1_init 67 = .ok (.bipush 12, 2) := by decide +kernel
theorem dX1_init_69 : decode cX1_init 69 = .ok (.newarray .int, 2) := by decide +kernel
theorem dX1_init_71 : decode cX1_init 71 = .ok (.putfield 45, 3) := by decide +kernel
theorem dX1_init_74 : decode cX1_init 74 = .ok (.aload_n 0, 1) := by decide +kernel
theorem dX1_init_75 : decode cX1_init 75 = .ok (.sipush 612, 3) := by decide +kernel
theorem dX1_init_78 : decode cX1_init 78 = .ok (.newarray .int, 2) := by decide +kernel
theorem dX1_init_80 : decode cX1_init 80 = .ok (.putfield 48, 3) := by decide +kernel
theorem dX1_init_83 : decode cX1_init 83 = .ok (.aload_n 0, 1) := by decide +kernel
theorem dX1_init_84 : decode cX1_init 84 = .ok (.iconst 4, 1) := by decide +kernel
theorem dX1_init_85 : decode cX1_init 85 = .ok (.putfield 51, 3) := by decide +kernel
theorem dX1_init_88 : decode cX1_init 88 = .ok (.aload_n 0, 1) := by decide +kernel
theorem dX1_init_89 : decode cX1_init 89 = .ok (.iconst 0, 1) := by decide +kernel
theorem dX1_init_90 : decode cX1_init 90 = .ok (.putfield 55, 3) := by decide +kernel
theorem dX1_init_93 : decode cX1_init 93 = .ok (.return_, 1) := by decide +kernel
theorem dX1_has_0 : decode cX1_has 0 = .ok (.iload_n 1, 1) := by decide +kernel
theorem dX1_has_1 : decode cX1_has 1 = .ok (.iconst 0, 1) := by decide +kernel
theorem dX1_has_2 : decode cX1_has 2 = .ok (.aload_n 0, 1) := by decide +kernel
theorem dX1_has_3 : decode cX1_has 3 = .ok (.getfield 51, 3) := by decide +kernel
theorem dX1_has_6 : decode cX1_has 6 = .ok (.iconst 1, 1) := by decide +kernel
theorem dX1_has_7 : decode cX1_has 7 = .ok (.isub, 1) := by decide +kernel
theorem dX1_has_8 : decode cX1_has 8 = .ok (.invokestatic 58, 3) := by decide +kernel
theorem dX1_has_11 : decode cX1_has 11 = .ok (.ireturn, 1) := by decide +kernel
theorem dX1_begin_0 : decode cX1_begin 0 = .ok (.aload_n 0, 1) := by decide +kernel
theorem dX1_begin_1 : decode cX1_begin 1 = .ok (.iload_n 1, 1) := by decide +kernel
theorem dX1_begin_2 : decode cX1_begin 2 = .ok (.putfield 51, 3) := by decide +kernel
theorem dX1_begin_5 : decode cX1_begin 5 = .ok (.aload_n 0, 1) := by decide +kernel
theorem dX1_begin_6 : decode cX1_begin 6 = .ok (.getfield 24, 3) := by decide +kernel
theorem dX1_begin_9 : decode cX1_begin 9 = .ok (.invokevirtual 62, 3) := by decide +kernel
theorem dX1_begin_12 : decode cX1_begin 12 = .ok (.return_, 1) := by decide +kernel
theorem dX1_goBack_0 : decode cX1_goBack 0 = .ok (.aload_n 0, 1) := by decide +kernel
theorem dX1_goBack_1 : decode cX1_goBack 1 = .ok (.getfield 30, 3) := by decide +kernel
theorem dX1_goBack_4 : decode cX1_goBack 4 = .ok (.invokestatic 65, 3) := by decide +kernel
theorem dX1_goBack_7 : decode cX1_goBack 7 = .ok (.aload_n 0, 1) := by decide +kernel
theorem dX1_goBack_8 : decode cX1_goBack 8 = .ok (.getfield 33, 3) := by decide +kernel
theorem dX1_goBack_11 : decode cX1_goBack 11 = .ok (.invokestatic 65, 3) := by decide +kernel
theorem dX1_goBack_14 : decode cX1_goBack 14 = .ok (.aload_n 0, 1) := by decide +kernel
theorem dX1_goBack_15 : decode cX1_goBack 15 = .ok (.getfield 36, 3) := by decide +kernel
theorem dX1_goBack_18 : decode cX1_goBack 18 = .ok (.invokestatic 65, 3) := by decide +kernel
theorem dX1_goBack_21 : decode cX1_goBack 21 = .ok (.aload_n 0, 1) := by decide +kernel
theorem dX1_goBack_22 : decode cX1_goBack 22 = .ok (.getfield 39, 3) := by decide +kernel
theorem dX1_goBack_25 : decode cX1_goBack 25 = .ok (.invokestatic 65, 3) := by decide +kernel
theorem dX1_goBack_28 : decode cX1_goBack 28 = .ok (.aload_n 0, 1) := by decide +kernel
theorem dX1_goBack_29 : decode cX1_goBack 29 = .ok (.getfield 42, 3) := by decide +kernel
theorem dX1_goBack_32 : decode cX1_goBack 32 = .ok (.invokestatic 65, 3) := by decide +kernel
theorem dX1_goBack_35 : decode cX1_goBack 35 = .ok (.aload_n 0, 1) := by decide +kernel
theorem dX1_goBack_36 : decode cX1_goBack 36 = .ok (.getfield 45, 3) := by decide +kernel
theorem dX1_goBack_39 : decode cX1_goBack 39 = .ok (.invokestatic 65, 3) := by decide +kernel
theorem dX1_goBack_42 : decode cX1_goBack 42 = .ok (.aload_n 0, 1) := by decide +kernel
theorem dX1_goBack_43 : decode cX1_goBack 43 = .ok (.getfield 48, 3) := by decide +kernel
theorem dX1_goBack_46 : decode cX1_goBack 46 = .ok (.invokestatic 65, 3) := by decide +kernel
theorem dX1_goBack_49 : decode cX1_goBack 49 = .ok (.return_, 1) := by decide +kernel
theorem dX1_copy_0 : decode cX1_copy 0 = .ok (.aload_n 0, 1) := by decide +kernel
theorem dX1_copy_1 : decode cX1_copy 1 = .ok (.aload_n 1, 1) := by decide +kernel
theorem dX1_copy_2 : decode cX1_copy 2 = .ok (.getfield 51, 3) := by decide +kernel
theorem dX1_copy_5 : decode cX1_copy 5 = .ok (.putfield 51, 3) := by decide +kernel
theorem dX1_copy_8 : decode cX1_copy 8 = .ok (.aload_n 0, 1) := by decide +kernel
theorem dX1_copy_9 : decode cX1_copy 9 = .ok (.getfield 24, 3) := by decide +kernel
theorem dX1_copy_12 : decode cX1_copy 12 = .ok (.aload_n 1, 1) := by decide +kernel
theorem dX1_copy_13 : decode cX1_copy 13 = .ok (.getfield 24, 3) := by decide +kernel
theorem dX1_copy_16 : decode cX1_copy 16 = .ok (.invokevirtual 69, 3) := by decide +kernel
theorem dX1_copy_19 : decode cX1_copy 19 = .ok (.aload_n 1, 1) := by decide +kernel
theorem dX1_copy_20 : decode cX1_copy 20 = .ok (.getfield 30, 3) := by decide +kernel
theorem dX1_copy_23 : decode cX1_copy 23 = .ok (.aload_n 0, 1) := by decide +kernel
theorem dX1_copy_24 : decode cX1_copy 24 = .ok (.getfield 30, 3) := by decide +kernel
theorem dX1_copy_27 : decode cX1_copy 27 = .ok (.invokestatic 73, 3) := by decide +kernel
theorem dX1_copy_30 : decode cX1_copy 30 = .ok (.aload_n 1, 1) := by decide +kernel
theorem dX1_copy_31 : decode cX1_copy 31 = .ok (.getfield 33, 3) := by decide +kernel
theorem dX1_copy_34 : decode cX1_copy 34 = .ok (.aload_n 0, 1) := by decide +kernel
theorem dX1_copy_35 : decode cX1_copy 35 = .ok (.getfield 33, 3) := by decide +kernel
theorem dX1_copy_38 : decode cX1_copy 38 = .ok (.invokestatic 73, 3) := by decide +kernel
theorem dX1_copy_41 : decode cX1_copy 41 = .ok (.aload_n 1, 1) := by decide +kernel
theorem dX1_copy_42 : decode cX1_copy 42 = .ok (.getfield 36, 3) := by decide +kernel
theorem dX1_copy_45 : decode cX1_copy 45 = .ok (.aload_n 0, 1) := by decide +kernel
theorem dX1_copy_46 : decode cX1_copy 46 = .ok (.getfield 36, 3) := by decide +kernel
theorem dX1_copy_49 : decode cX1_copy 49 = .ok (.invokestatic 73, 3) := by decide +kernel
theorem dX1_copy_52 : decode cX1_copy 52 = .ok (.aload_n 1, 1) := by decide +kernel
theorem dX1_copy_53 : decode cX1_copy 53 = .ok (.getfield 39, 3) := by decide +kernel
theorem dX1_copy_56 : decode cX1_copy 56 = .ok (.aload_n 0, 1) := by decide +kernel
theorem dX1_copy_57 : decode cX1_copy 57 = .ok (.getfield 39, 3) := by decide +kernel
theorem dX1_copy_60 : decode cX1_copy 60 = .ok (.invokestatic 73, 3) := by decide +kernel
theorem dX1_copy_63 : decode cX1_copy 63 = .ok (.aload_n 1, 1) := by decide +kernel
theorem dX1_copy_64 : decode cX1_copy 64 = .ok (.getfield 42, 3) := by decide +kernel
theorem dX1_copy_67 : decode cX1_copy 67 = .ok (.aload_n 0, 1) := by decide +kernel
theorem dX1_copy_68 : decode cX1_copy 68 = .ok (.getfield 42, 3) := by decide +kernel
theorem dX1_copy_71 : decode cX1_copy 71 = .ok (.invokestatic 73, 3) := by decide +kernel
theorem dX1_copy_74 : decode cX1_copy 74 = .ok (.aload_n 1, 1) := by decide +kernel
theorem dX1_copy_75 : decode cX1_copy 75 = .ok (.getfield 45, 3) := by decide +kernel
theorem dX1_copy_78 : decode cX1_copy 78 = .ok (.aload_n 0, 1) := by decide +kernel
theorem dX1_copy_79 : decode cX1_copy 79 = .ok (.getfield 45, 3) := by decide +kernel
theorem dX1_copy_82 : decode cX1_copy 82 = .ok (.invokestatic 73, 3) := by decide +kernel
theorem dX1_copy_85 : decode cX1_copy 85 = .ok (.aload_n 1, 1) := by decide +kernel
theorem dX1_copy_86 : decode cX1_copy 86 = .ok (.getfield 48, 3) := by decide +kernel
theorem dX1_copy_89 : decode cX1_copy 89 = .ok (.aload_n 0, 1) := by decide +kernel
theorem dX1_copy_90 : decode cX1_copy 90 = .ok (.getfield 48, 3) := by decide +kernel
theorem dX1_copy_93 : decode cX1_copy 93 = .ok (.invokestatic 73, 3) := by decide +kernel
theorem dX1_copy_96 : decode cX1_copy 96 = .ok (.return_, 1) := by decide +kernel
theorem dX1_obey_0 : decode cX1_obey 0 = .ok (.iconst 0, 1) := by decide +kernel
theorem dX1_obey_1 : decode cX1_obey 1 = .ok (.istore_n 3, 1) := by decide +kernel
theorem dX1_obey_2 : decode cX1_obey 2 = .ok (.iload_n 3, 1) := by decide +kernel
theorem dX1_obey_3 : decode cX1_obey 3 = .ok (.aload_n 0, 1) := by decide +kernel
theorem dX1_obey_4 : decode cX1_obey 4 = .ok (.getfield 51, 3) := by decide +kernel
theorem dX1_obey_7 : decode cX1_obey 7 = .ok (.if_icmp .ge 25, 3) := by decide +kernel
theorem dX1_obey_10 : decode cX1_obey 10 = .ok (.iload_n 1, 1) := by decide +kernel
theorem dX1_obey_11 : decode cX1_obey 11 = .ok (.iload_n 3, 1) := by decide +kernel
theorem dX1_obey_12 : decode cX1_obey 12 = .ok (.ishr, 1) := by decide +kernel
theorem dX1_obey_13 : decode cX1_obey 13 = .ok (.iconst 1, 1) := by decide +kernel
theorem dX1_obey_14 : decode cX1_obey 14 = .ok (.iand, 1) := by decide +kernel
theorem dX1_obey_15 : decode cX1_obey 15 = .ok (.iconst 1, 1) := by decide +kernel
theorem dX1_obey_16 : decode cX1_obey 16 = .ok (.if_icmp .ne 10, 3) := by decide +kernel
theorem dX1_obey_19 : decode cX1_obey 19 = .ok (.aload_n 0, 1) := by decide +kernel
theorem dX1_obey_20 : decode cX1_obey 20 = .ok (.getfield 30, 3) := by decide +kernel
theorem dX1_obey_23 : decode cX1_obey 23 = .ok (.iload_n 3, 1) := by decide +kernel
theorem dX1_obey_24 : decode cX1_obey 24 = .ok (.iload_n 2, 1) := by decide +kernel
theorem dX1_obey_25 : decode cX1_obey 25 = .ok (.iastore, 1) := by decide +kernel
theorem dX1_obey_26 : decode cX1_obey 26 = .ok (.iinc 3 1, 3) := by decide +kernel
theorem dX1_obey_29 : decode cX1_obey 29 = .ok (.goto (-27), 3) := by decide +kernel
theorem dX1_obey_32 : decode cX1_obey 32 = .ok (.return_, 1) := by decide +kernel
theorem dX1_keepCommands_0 : decode cX1_keepCommands 0 = .ok (.aload_n 0, 1) := by decide +kernel
theorem dX1_keepCommands_1 : decode cX1_keepCommands 1 = .ok (.getfield 30, 3) := by decide +kernel
theorem dX1_keepCommands_4 : decode cX1_keepCommands 4 = .ok (.iconst 0, 1) := by decide +kernel
theorem dX1_keepCommands_5 : decode cX1_keepCommands 5 = .ok (.aload_n 0, 1) := by decide +kernel
theorem dX1_keepCommands_6 : decode cX1_keepCommands 6 = .ok (.getfield 48, 3) := by decide +kernel
theorem dX1_keepCommands_9 : decode cX1_keepCommands 9 = .ok (.iload_n 1, 1) := by decide +kernel
theorem dX1_keepCommands_10 : decode cX1_keepCommands 10 = .ok (.invokestatic 77, 3) := by decide +kernel
theorem dX1_keepCommands_13 : decode cX1_keepCommands 13 = .ok (.bipush 12, 2) := by decide +kernel
theorem dX1_keepCommands_15 : decode cX1_keepCommands 15 = .ok (.invokestatic 81, 3) := by decide +kernel
theorem dX1_keepCommands_18 : decode cX1_keepCommands 18 = .ok (.return_, 1) := by decide +kernel
theorem dX1_open_0 : decode cX1_open 0 = .ok (.iconst 0, 1) := by decide +kernel
theorem dX1_open_1 : decode cX1_open 1 = .ok (.istore 4, 2) := by decide +kernel
theorem dX1_open_3 : decode cX1_open 3 = .ok (.iload 4, 2) := by decide +kernel
theorem dX1_open_5 : decode cX1_open 5 = .ok (.aload_n 0, 1) := by decide +kernel
theorem dX1_open_6 : decode cX1_open 6 = .ok (.getfield 51, 3) := by decide +kernel
theorem dX1_open_9 : decode cX1_open 9 = .ok (.if_icmp .ge 95, 3) := by decide +kernel
theorem dX1_open_12 : decode cX1_open 12 = .ok (.aload_n 0, 1) := by decide +kernel
theorem dX1_open_13 : decode cX1_open 13 = .ok (.iload_n 1, 1) := by decide +kernel
theorem dX1_open_14 : decode cX1_open 14 = .ok (.aload_n 0, 1) := by decide +kernel
theorem dX1_open_15 : decode cX1_open 15 = .ok (.getfield 24, 3) := by decide +kernel
theorem dX1_open_18 : decode cX1_open 18 = .ok (.iload 4, 2) := by decide +kernel
theorem dX1_open_20 : decode cX1_open 20 = .ok (.iconst 2, 1) := by decide +kernel
theorem dX1_open_21 : decode cX1_open 21 = .ok (.invokevirtual 87, 3) := by decide +kernel
theorem dX1_open_24 : decode cX1_open 24 = .ok (.isub, 1) := by decide +kernel
theorem dX1_open_25 : decode cX1_open 25 = .ok (.iload 4, 2) := by decide +kernel
theorem dX1_open_27 : decode cX1_open 27 = .ok (.invokevirtual 91, 3) := by decide +kernel
theorem dX1_open_30 : decode cX1_open 30 = .ok (.istore 5, 2) := by decide +kernel
theorem dX1_open_32 : decode cX1_open 32 = .ok (.iload_n 2, 1) := by decide +kernel
theorem dX1_open_33 : decode cX1_open 33 = .ok (.iconst 1, 1) := by decide +kernel
theorem dX1_open_34 : decode cX1_open 34 = .ok (.if_icmp .ne 27, 3) := by decide +kernel
theorem dX1_open_37 : decode cX1_open 37 = .ok (.aload_n 0, 1) := by decide +kernel
theorem dX1_open_38 : decode cX1_open 38 = .ok (.aload_n 0, 1) := by decide +kernel
theorem dX1_open_39 : decode cX1_open 39 = .ok (.getfield 55, 3) := by decide +kernel
theorem dX1_open_42 : decode cX1_open 42 = .ok (.iload 5, 2) := by decide +kernel
theorem dX1_open_44 : decode cX1_open 44 = .ok (.invokestatic 94, 3) := by decide +kernel
theorem dX1_open_47 : decode cX1_open 47 = .ok (.putfield 55, 3) := by decide +kernel
theorem dX1_open_50 : decode cX1_open 50 = .ok (.iload 5, 2) := by decide +kernel
theorem dX1_open_52 : decode cX1_open 52 = .ok (.iload_n 3, 1) := by decide +kernel
theorem dX1_open_53 : decode cX1_open 53 = .ok (.invokestatic 99, 3) := by decide +kernel
theorem dX1_open_56 : decode cX1_open 56 = .ok (.istore 5, 2) := by decide +kernel
theorem dX1_open_58 : decode cX1_open 58 = .ok (.goto 11, 3) := by decide +kernel
theorem dX1_open_61 : decode cX1_open 61 = .ok (.iload_n 2, 1) := by decide +kernel
theorem dX1_open_62 : decode cX1_open 62 = .ok (.iconst 2, 1) := by decide +kernel
theorem dX1_open_63 : decode cX1_open 63 = .ok (.if_icmp .ne 6, 3) := by decide +kernel
theorem dX1_open_66 : decode cX1_open 66 = .ok (.iconst 0, 1) := by decide +kernel
theorem dX1_open_67 : decode cX1_open 67 = .ok (.istore 5, 2) := by decide +kernel
theorem dX1_open_69 : decode cX1_open 69 = .ok (.aload_n 0, 1) := by decide +kernel
theorem dX1_open_70 : decode cX1_open 70 = .ok (.getfield 33, 3) := by decide +kernel
theorem dX1_open_73 : decode cX1_open 73 = .ok (.iload 4, 2) := by decide +kernel
theorem dX1_open_75 : decode cX1_open 75 = .ok (.aload_n 0, 1) := by decide +kernel
theorem dX1_open_76 : decode cX1_open 76 = .ok (.getfield 33, 3) := by decide +kernel
theorem dX1_open_79 : decode cX1_open 79 = .ok (.iload 4, 2) := by decide +kernel
theorem dX1_open_81 : decode cX1_open 81 = .ok (.iaload, 1) := by decide +kernel
theorem dX1_open_82 : decode cX1_open 82 = .ok (.iload 5, 2) := by decide +kernel
theorem dX1_open_84 : decode cX1_open 84 = .ok (.aload_n 0, 1) := by decide +kernel
theorem dX1_open_85 : decode cX1_open 85 = .ok (.getfield 24, 3) := by decide +kernel
theorem dX1_open_88 : decode cX1_open 88 = .ok (.iload 4, 2) := by decide +kernel
theorem dX1_open_90 : decode cX1_open 90 = .ok (.iconst 3, 1) := by decide +kernel
theorem dX1_open_91 : decode cX1_open 91 = .ok (.invokevirtual 87, 3) := by decide +kernel
theorem dX1_open_94 : decode cX1_open 94 = .ok (.invokestatic 102, 3) := by decide +kernel
theorem dX1_open_97 : decode cX1_open 97 = .ok (.iastore, 1) := by decide +kernel
theorem dX1_open_98 : decode cX1_open 98 = .ok (.iinc 4 1, 3) := by decide +kernel
theorem dX1_open_101 : decode cX1_open 101 = .ok (.goto (-98), 3) := by decide +kernel
theorem dX1_open_104 : decode cX1_open 104 = .ok (.return_, 1) := by decide +kernel
theorem dX1_demandOf_0 : decode cX1_demandOf 0 = .ok (.iconst 0, 1) := by decide +kernel
theorem dX1_demandOf_1 : decode cX1_demandOf 1 = .ok (.istore_n 2, 1) := by decide +kernel
theorem dX1_demandOf_2 : decode cX1_demandOf 2 = .ok (.iconst 0, 1) := by decide +kernel
theorem dX1_demandOf_3 : decode cX1_demandOf 3 = .ok (.istore_n 3, 1) := by decide +kernel
theorem dX1_demandOf_4 : decode cX1_demandOf 4 = .ok (.iload_n 3, 1) := by decide +kernel
theorem dX1_demandOf_5 : decode cX1_demandOf 5 = .ok (.aload_n 0, 1) := by decide +kernel
theorem dX1_demandOf_6 : decode cX1_demandOf 6 = .ok (.getfield 51, 3) := by decide +kernel
theorem dX1_demandOf_9 : decode cX1_demandOf 9 = .ok (.if_icmp .ge 30, 3) := by decide +kernel
theorem dX1_demandOf_12 : decode cX1_demandOf 12 = .ok (.aload_n 0, 1) := by decide +kernel
theorem dX1_demandOf_13 : decode cX1_demandOf 13 = .ok (.getfield 24, 3) := by decide +kernel
theorem dX1_demandOf_16 : decode cX1_demandOf 16 = .ok (.iload_n 3, 1) := by decide +kernel
theorem dX1_demandOf_17 : decode cX1_demandOf 17 = .ok (.iconst 4, 1) := by decide +kernel
theorem dX1_demandOf_18 : decode cX1_demandOf 18 = .ok (.invokevirtual 87, 3) := by decide +kernel
theorem dX1_demandOf_21 : decode cX1_demandOf 21 = .ok (.iload_n 1, 1) := by decide +kernel
theorem dX1_demandOf_22 : decode cX1_demandOf 22 = .ok (.if_icmp .ne 11, 3) := by decide +kernel
theorem dX1_demandOf_25 : decode cX1_demandOf 25 = .ok (.iload_n 2, 1) := by decide +kernel
theorem dX1_demandOf_26 : decode cX1_demandOf 26 = .ok (.aload_n 0, 1) := by decide +kernel
theorem dX1_demandOf_27 : decode cX1_demandOf 27 = .ok (.iload_n 3, 1) := by decide +kernel
theorem dX1_demandOf_28 : decode cX1_demandOf 28 = .ok (.invokevirtual 106, 3) := by decide +kernel
theorem dX1_demandOf_31 : decode cX1_demandOf 31 = .ok (.iadd, 1) := by decide +kernel
theorem dX1_demandOf_32 : decode cX1_demandOf 32 = .ok (.istore_n 2, 1) := by decide +kernel
theorem dX1_demandOf_33 : decode cX1_demandOf 33 = .ok (.iinc 3 1, 3) := by decide +kernel
theorem dX1_demandOf_36 : decode cX1_demandOf 36 = .ok (.goto (-32), 3) := by decide +kernel
theorem dX1_demandOf_39 : decode cX1_demandOf 39 = .ok (.iload_n 2, 1) := by decide +kernel
theorem dX1_demandOf_40 : decode cX1_demandOf 40 = .ok (.ireturn, 1) := by decide +kernel
theorem dX1_flow_0 : decode cX1_flow 0 = .ok (.iconst 0, 1) := by decide +kernel
theorem dX1_flow_1 : decode cX1_flow 1 = .ok (.istore 4, 2) := by decide +kernel
theorem dX1_flow_3 : decode cX1_flow 3 = .ok (.iload 4, 2) := by decide +kernel
theorem dX1_flow_5 : decode cX1_flow 5 = .ok (.aload_n 0, 1) := by decide +kernel
theorem dX1_flow_6 : decode cX1_flow 6 = .ok (.getfield 51, 3) := by decide +kernel
theorem dX1_flow_9 : decode cX1_flow 9 = .ok (.if_icmp .ge 60, 3) := by decide +kernel
theorem dX1_flow_12 : decode cX1_flow 12 = .ok (.aload_n 0, 1) := by decide +kernel
theorem dX1_flow_13 : decode cX1_flow 13 = .ok (.getfield 24, 3) := by decide +kernel
theorem dX1_flow_16 : decode cX1_flow 16 = .ok (.iload 4, 2) := by decide +kernel
theorem dX1_flow_18 : decode cX1_flow 18 = .ok (.iconst 4, 1) := by decide +kernel
theorem dX1_flow_19 : decode cX1_flow 19 = .ok (.invokevirtual 87, 3) := by decide +kernel
theorem dX1_flow_22 : decode cX1_flow 22 = .ok (.iload_n 1, 1) := by decide +kernel
theorem dX1_flow_23 : decode cX1_flow 23 = .ok (.if_icmp .ne 40, 3) := by decide +kernel
theorem dX1_flow_26 : decode cX1_flow 26 = .ok (.aload_n 0, 1) := by decide +kernel
theorem dX1_flow_27 : decode cX1_flow 27 = .ok (.iload 4, 2) := by decide +kernel
theorem dX1_flow_29 : decode cX1_flow 29 = .ok (.invokevirtual 106, 3) := by decide +kernel
theorem dX1_flow_32 : decode cX1_flow 32 = .ok (.istore 5, 2) := by decide +kernel
theorem dX1_flow_34 : decode cX1_flow 34 = .ok (.aload_n 0, 1) := by decide +kernel
theorem dX1_flow_35 : decode cX1_flow 35 = .ok (.getfield 36, 3) := by decide +kernel
theorem dX1_flow_38 : decode cX1_flow 38 = .ok (.iload 4, 2) := by decide +kernel
theorem dX1_flow_40 : decode cX1_flow 40 = .ok (.iload_n 2, 1) := by decide +kernel
theorem dX1_flow_41 : decode cX1_flow 41 = .ok (.iload_n 3, 1) := by decide +kernel
theorem dX1_flow_42 : decode cX1_flow 42 = .ok (.if_icmp .gt 8, 3) := by decide +kernel
theorem dX1_flow_45 : decode cX1_flow 45 = .ok (.iload 5, 2) := by decide +kernel
theorem dX1_flow_47 : decode cX1_flow 47 = .ok (.goto 15, 3) := by decide +kernel
theorem dX1_flow_50 : decode cX1_flow 50 = .ok (.iload 5, 2) := by decide +kernel
theorem dX1_flow_52 : decode cX1_flow 52 = .ok (.i2l, 1) := by decide +kernel
theorem dX1_flow_53 : decode cX1_flow 53 = .ok (.iload_n 3, 1) := by decide +kernel
theorem dX1_flow_54 : decode cX1_flow 54 = .ok (.i2l, 1) := by decide +kernel
theorem dX1_flow_55 : decode cX1_flow 55 = .ok (.lmul, 1) := by decide +kernel
theorem dX1_flow_56 : decode cX1_flow 56 = .ok (.iload_n 2, 1) := by decide +kernel
theorem dX1_flow_57 : decode cX1_flow 57 = .ok (.i2l, 1) := by decide +kernel
theorem dX1_flow_58 : decode cX1_flow 58 = .ok (.invokestatic 109, 3) := by decide +kernel
theorem dX1_flow_61 : decode cX1_flow 61 = .ok (.l2i, 1) := by decide +kernel
theorem dX1_flow_62 : decode cX1_flow 62 = .ok (.iastore, 1) := by decide +kernel
theorem dX1_flow_63 : decode cX1_flow 63 = .ok (.iinc 4 1, 3) := by decide +kernel
theorem dX1_flow_66 : decode cX1_flow 66 = .ok (.goto (-63), 3) := by decide +kernel
theorem dX1_flow_69 : decode cX1_flow 69 = .ok (.return_, 1) := by decide +kernel
theorem dX1_rise_0 : decode cX1_rise 0 = .ok (.iconst 0, 1) := by decide +kernel
theorem dX1_rise_1 : decode cX1_rise 1 = .ok (.istore_n 2, 1) := by decide +kernel
theorem dX1_rise_2 : decode cX1_rise 2 = .ok (.iload_n 2, 1) := by decide +kernel
theorem dX1_rise_3 : decode cX1_rise 3 = .ok (.aload_n 0, 1) := by decide +kernel
theorem dX1_rise_4 : decode cX1_rise 4 = .ok (.getfield 51, 3) := by decide +kernel
theorem dX1_rise_7 : decode cX1_rise 7 = .ok (.if_icmp .ge 108, 3) := by decide +kernel
theorem dX1_rise_10 : decode cX1_rise 10 = .ok (.aload_n 0, 1) := by decide +kernel
theorem dX1_rise_11 : decode cX1_rise 11 = .ok (.getfield 36, 3) := by decide +kernel
theorem dX1_rise_14 : decode cX1_rise 14 = .ok (.iload_n 2, 1) := by decide +kernel
theorem dX1_rise_15 : decode cX1_rise 15 = .ok (.iaload, 1) := by decide +kernel
theorem dX1_rise_16 : decode cX1_rise 16 = .ok (.i2l, 1) := by decide +kernel
theorem dX1_rise_17 : decode cX1_rise 17 = .ok (.aload_n 0, 1) := by decide +kernel
theorem dX1_rise_18 : decode cX1_rise 18 = .ok (.getfield 24, 3) := by decide +kernel
theorem dX1_rise_21 : decode cX1_rise 21 = .ok (.iload_n 2, 1) := by decide +kernel
theorem dX1_rise_22 : decode cX1_rise 22 = .ok (.iconst 0, 1) := by decide +kernel
theorem dX1_rise_23 : decode cX1_rise 23 = .ok (.invokevirtual 87, 3) := by decide +kernel
theorem dX1_rise_26 : decode cX1_rise 26 = .ok (.i2l, 1) := by decide +kernel
theorem dX1_rise_27 : decode cX1_rise 27 = .ok (.invokestatic 109, 3) := by decide +kernel
theorem dX1_rise_30 : decode cX1_rise 30 = .ok (.lstore_n 3, 1) := by decide +kernel
theorem dX1_rise_31 : decode cX1_rise 31 = .ok (.aload_n 0, 1) := by decide +kernel
theorem dX1_rise_32 : decode cX1_rise 32 = .ok (.getfield 39, 3) := by decide +kernel
theorem dX1_rise_35 : decode cX1_rise 35 = .ok (.iload_n 2, 1) := by decide +kernel
theorem dX1_rise_36 : decode cX1_rise 36 = .ok (.aload_n 0, 1) := by decide +kernel
theorem dX1_rise_37 : decode cX1_rise 37 = .ok (.getfield 24, 3) := by decide +kernel
theorem dX1_rise_40 : decode cX1_rise 40 = .ok (.iload_n 2, 1) := by decide +kernel
theorem dX1_rise_41 : decode cX1_rise 41 = .ok (.iconst 1, 1) := by decide +kernel
theorem dX1_rise_42 : decode cX1_rise 42 = .ok (.invokevirtual 87, 3) := by decide +kernel
theorem dX1_rise_45 : decode cX1_rise 45 = .ok (.i2l, 1) := by decide +kernel
theorem dX1_rise_46 : decode cX1_rise 46 = .ok (.lload_n 3, 1) := by decide +kernel
theorem dX1_rise_47 : decode cX1_rise 47 = .ok (.lmul, 1) := by decide +kernel
theorem dX1_rise_48 : decode cX1_rise 48 = .ok (.lload_n 3, 1) := by decide +kernel
theorem dX1_rise_49 : decode cX1_rise 49 = .ok (.lmul, 1) := by decide +kernel
theorem dX1_rise_50 : decode cX1_rise 50 = .ok (.ldc2_w 113, 3) := by decide +kernel
theorem dX1_rise_53 : decode cX1_rise 53 = .ok (.ldiv, 1) := by decide +kernel
theorem dX1_rise_54 : decode cX1_rise 54 = .ok (.l2i, 1) := by decide +kernel
theorem dX1_rise_55 : decode cX1_rise 55 = .ok (.iastore, 1) := by decide +kernel
theorem dX1_rise_56 : decode cX1_rise 56 = .ok (.aload_n 0, 1) := by decide +kernel
theorem dX1_rise_57 : decode cX1_rise 57 = .ok (.getfield 42, 3) := by decide +kernel
theorem dX1_rise_60 : decode cX1_rise 60 = .ok (.iload_n 2, 1) := by decide +kernel
theorem dX1_rise_61 : decode cX1_rise 61 = .ok (.aload_n 0, 1) := by decide +kernel
theorem dX1_rise_62 : decode cX1_rise 62 = .ok (.getfield 39, 3) := by decide +kernel
theorem dX1_rise_65 : decode cX1_rise 65 = .ok (.iload_n 2, 1) := by decide +kernel
theorem dX1_rise_66 : decode cX1_rise 66 = .ok (.iaload, 1) := by decide +kernel
theorem dX1_rise_67 : decode cX1_rise 67 = .ok (.i2l, 1) := by decide +kernel
theorem dX1_rise_68 : decode cX1_rise 68 = .ok (.iload_n 1, 1) := by decide +kernel
theorem dX1_rise_69 : decode cX1_rise 69 = .ok (.i2l, 1) := by decide +kernel
theorem dX1_rise_70 : decode cX1_rise 70 = .ok (.lmul, 1) := by decide +kernel
theorem dX1_rise_71 : decode cX1_rise 71 = .ok (.aload_n 0, 1) := by decide +kernel
theorem dX1_rise_72 : decode cX1_rise 72 = .ok (.getfield 24, 3) := by decide +kernel
theorem dX1_rise_75 : decode cX1_rise 75 = .ok (.iload_n 2, 1) := by decide +kernel
theorem dX1_rise_76 : decode cX1_rise 76 = .ok (.iconst 5, 1) := by decide +kernel
theorem dX1_rise_77 : decode cX1_rise 77 = .ok (.invokevirtual 87, 3) := by decide +kernel
theorem dX1_rise_80 : decode cX1_rise 80 = .ok (.i2l, 1) := by decide +kernel
theorem dX1_rise_81 : decode cX1_rise 81 = .ok (.lmul, 1) := by decide +kernel
theorem dX1_rise_82 : decode cX1_rise 82 = .ok (.ldc2_w 115, 3) := by decide +kernel
theorem dX1_rise_85 : decode cX1_rise 85 = .ok (.ldiv, 1) := by decide +kernel
theorem dX1_rise_86 : decode cX1_rise 86 = .ok (.l2i, 1) := by decide +kernel
theorem dX1_rise_87 : decode cX1_rise 87 = .ok (.iastore, 1) := by decide +kernel
theorem dX1_rise_88 : decode cX1_rise 88 = .ok (.aload_n 0, 1) := by decide +kernel
theorem dX1_rise_89 : decode cX1_rise 89 = .ok (.getfield 45, 3) := by decide +kernel
theorem dX1_rise_92 : decode cX1_rise 92 = .ok (.iload_n 2, 1) := by decide +kernel
theorem dX1_rise_93 : decode cX1_rise 93 = .ok (.aload_n 0, 1) := by decide +kernel
theorem dX1_rise_94 : decode cX1_rise 94 = .ok (.getfield 45, 3) := by decide +kernel
theorem dX1_rise_97 : decode cX1_rise 97 = .ok (.iload_n 2, 1) := by decide +kernel
theorem dX1_rise_98 : decode cX1_rise 98 = .ok (.iaload, 1) := by decide +kernel
theorem dX1_rise_99 : decode cX1_rise 99 = .ok (.aload_n 0, 1) := by decide +kernel
theorem dX1_rise_100 : decode cX1_rise 100 = .ok (.getfield 39, 3) := by decide +kernel
theorem dX1_rise_103 : decode cX1_rise 103 = .ok (.iload_n 2, 1) := by decide +kernel
theorem dX1_rise_104 : decode cX1_rise 104 = .ok (.iaload, 1) := by decide +kernel
theorem dX1_rise_105 : decode cX1_rise 105 = .ok (.invokestatic 94, 3) := by decide +kernel
theorem dX1_rise_108 : decode cX1_rise 108 = .ok (.iastore, 1) := by decide +kernel
theorem dX1_rise_109 : decode cX1_rise 109 = .ok (.iinc 2 1, 3) := by decide +kernel
theorem dX1_rise_112 : decode cX1_rise 112 = .ok (.goto (-110), 3) := by decide +kernel
theorem dX1_rise_115 : decode cX1_rise 115 = .ok (.return_, 1) := by decide +kernel
theorem dX1_driftsBeyond_0 : decode cX1_driftsBeyond 0 = .ok (.iconst 0, 1) := by decide +kernel
theorem dX1_driftsBeyond_1 : decode cX1_driftsBeyond 1 = .ok (.istore_n 2, 1) := by decide +kernel
theorem dX1_driftsBeyond_2 : decode cX1_driftsBeyond 2 = .ok (.iload_n 2, 1) := by decide +kernel
theorem dX1_driftsBeyond_3 : decode cX1_driftsBeyond 3 = .ok (.aload_n 0, 1) := by decide +kernel
theorem dX1_driftsBeyond_4 : decode cX1_driftsBeyond 4 = .ok (.getfield 51, 3) := by decide +kernel
theorem dX1_driftsBeyond_7 : decode cX1_driftsBeyond 7 = .ok (.if_icmp .ge 21, 3) := by decide +kernel
theorem dX1_driftsBeyond_10 : decode cX1_driftsBeyond 10 = .ok (.aload_n 0, 1) := by decide +kernel
theorem dX1_driftsBeyond_11 : decode cX1_driftsBeyond 11 = .ok (.getfield 42, 3) := by decide +kernel
theorem dX1_driftsBeyond_14 : decode cX1_driftsBeyond 14 = .ok (.iload_n 2, 1) := by decide +kernel
theorem dX1_driftsBeyond_15 : decode cX1_driftsBeyond 15 = .ok (.iaload, 1) := by decide +kernel
theorem dX1_driftsBeyond_16 : decode cX1_driftsBeyond 16 = .ok (.iload_n 1, 1) := by decide +kernel
theorem dX1_driftsBeyond_17 : decode cX1_driftsBeyond 17 = .ok (.if_icmp .le 5, 3) := by decide +kernel
theorem dX1_driftsBeyond_20 : decode cX1_driftsBeyond 20 = .ok (.iconst 1, 1) := by decide +kernel
theorem dX1_driftsBeyond_21 : decode cX1_driftsBeyond 21 = .ok (.ireturn, 1) := by decide +kernel
theorem dX1_driftsBeyond_22 : decode cX1_driftsBeyond 22 = .ok (.iinc 2 1, 3) := by decide +kernel
theorem dX1_driftsBeyond_25 : decode cX1_driftsBeyond 25 = .ok (.goto (-23), 3) := by decide +kernel
theorem dX1_driftsBeyond_28 : decode cX1_driftsBeyond 28 = .ok (.iconst 0, 1) := by decide +kernel
theorem dX1_driftsBeyond_29 : decode cX1_driftsBeyond 29 = .ok (.ireturn, 1) := by decide +kernel
theorem dX1_greatestHeightNow_0 : decode cX1_greatestHeightNow 0 = .ok (.iconst 0, 1) := by decide +kernel
theorem dX1_greatestHeightNow_1 : decode cX1_greatestHeightNow 1 = .ok (.istore_n 1, 1) := by decide +kernel
theorem dX1_greatestHeightNow_2 : decode cX1_greatestHeightNow 2 = .ok (.iconst 0, 1) := by decide +kernel
theorem dX1_greatestHeightNow_3 : decode cX1_greatestHeightNow 3 = .ok (.istore_n 2, 1) := by decide +kernel
theorem dX1_greatestHeightNow_4 : decode cX1_greatestHeightNow 4 = .ok (.iload_n 2, 1) := by decide +kernel
theorem dX1_greatestHeightNow_5 : decode cX1_greatestHeightNow 5 = .ok (.aload_n 0, 1) := by decide +kernel
theorem dX1_greatestHeightNow_6 : decode cX1_greatestHeightNow 6 = .ok (.getfield 51, 3) := by decide +kernel
theorem dX1_greatestHeightNow_9 : decode cX1_greatestHeightNow 9 = .ok (.if_icmp .ge 20, 3) := by decide +kernel
theorem dX1_greatestHeightNow_12 : decode cX1_greatestHeightNow 12 = .ok (.iload_n 1, 1) := by decide +kernel
theorem dX1_greatestHeightNow_13 : decode cX1_greatestHeightNow 13 = .ok (.aload_n 0, 1) := by decide +kernel
theorem dX1_greatestHeightNow_14 : decode cX1_greatestHeightNow 14 = .ok (.getfield 39, 3) := by decide +kernel
theorem dX1_greatestHeightNow_17 : decode cX1_greatestHeightNow 17 = .ok (.iload_n 2, 1) := by decide +kernel
theorem dX1_greatestHeightNow_18 : decode cX1_greatestHeightNow 18 = .ok (.iaload, 1) := by decide +kernel
theorem dX1_greatestHeightNow_19 : decode cX1_greatestHeightNow 19 = .ok (.invokestatic 94, 3) := by decide +kernel
theorem dX1_greatestHeightNow_22 : decode cX1_greatestHeightNow 22 = .ok (.istore_n 1, 1) := by decide +kernel
theorem dX1_greatestHeightNow_23 : decode cX1_greatestHeightNow 23 = .ok (.iinc 2 1, 3) := by decide +kernel
theorem dX1_greatestHeightNow_26 : decode cX1_greatestHeightNow 26 = .ok (.goto (-22), 3) := by decide +kernel
theorem dX1_greatestHeightNow_29 : decode cX1_greatestHeightNow 29 = .ok (.iload_n 1, 1) := by decide +kernel
theorem dX1_greatestHeightNow_30 : decode cX1_greatestHeightNow 30 = .ok (.ireturn, 1) := by decide +kernel
theorem dX1_demandAt_0 : decode cX1_demandAt 0 = .ok (.aload_n 0, 1) := by decide +kernel
theorem dX1_demandAt_1 : decode cX1_demandAt 1 = .ok (.getfield 33, 3) := by decide +kernel
theorem dX1_demandAt_4 : decode cX1_demandAt 4 = .ok (.iload_n 1, 1) := by decide +kernel
theorem dX1_demandAt_5 : decode cX1_demandAt 5 = .ok (.iaload, 1) := by decide +kernel
theorem dX1_demandAt_6 : decode cX1_demandAt 6 = .ok (.aload_n 0, 1) := by decide +kernel
theorem dX1_demandAt_7 : decode cX1_demandAt 7 = .ok (.getfield 24, 3) := by decide +kernel
theorem dX1_demandAt_10 : decode cX1_demandAt 10 = .ok (.iload_n 1, 1) := by decide +kernel
theorem dX1_demandAt_11 : decode cX1_demandAt 11 = .ok (.iconst 0, 1) := by decide +kernel
theorem dX1_demandAt_12 : decode cX1_demandAt 12 = .ok (.invokevirtual 87, 3) := by decide +kernel
theorem dX1_demandAt_15 : decode cX1_demandAt 15 = .ok (.imul, 1) := by decide +kernel
theorem dX1_demandAt_16 : decode cX1_demandAt 16 = .ok (.ireturn, 1) := by decide +kernel
theorem dX1_commandAt_0 : decode cX1_commandAt 0 = .ok (.iload_n 1, 1) := by decide +kernel
theorem dX1_commandAt_1 : decode cX1_commandAt 1 = .ok (.ifCond .ge 7, 3) := by decide +kernel
theorem dX1_commandAt_4 : decode cX1_commandAt 4 = .ok (.iconst 0, 1) := by decide +kernel
theorem dX1_commandAt_5 : decode cX1_commandAt 5 = .ok (.goto 14, 3) := by decide +kernel
theorem dX1_commandAt_8 : decode cX1_commandAt 8 = .ok (.aload_n 0, 1) := by decide +kernel
theorem dX1_commandAt_9 : decode cX1_commandAt 9 = .ok (.getfield 48, 3) := by decide +kernel
theorem dX1_commandAt_12 : decode cX1_commandAt 12 = .ok (.iload_n 1, 1) := by decide +kernel
theorem dX1_commandAt_13 : decode cX1_commandAt 13 = .ok (.invokestatic 77, 3) := by decide +kernel
theorem dX1_commandAt_16 : decode cX1_commandAt 16 = .ok (.iload_n 2, 1) := by decide +kernel
theorem dX1_commandAt_17 : decode cX1_commandAt 17 = .ok (.iadd, 1) := by decide +kernel
theorem dX1_commandAt_18 : decode cX1_commandAt 18 = .ok (.iaload, 1) := by decide +kernel
theorem dX1_commandAt_19 : decode cX1_commandAt 19 = .ok (.ireturn, 1) := by decide +kernel
theorem dX1_rowOf_0 : decode cX1_rowOf 0 = .ok (.iload_n 0, 1) := by decide +kernel
theorem dX1_rowOf_1 : decode cX1_rowOf 1 = .ok (.bipush 51, 2) := by decide +kernel
theorem dX1_rowOf_3 : decode cX1_rowOf 3 = .ok (.invokestatic 117, 3) := by decide +kernel
theorem dX1_rowOf_6 : decode cX1_rowOf 6 = .ok (.bipush 12, 2) := by decide +kernel
theorem dX1_rowOf_8 : decode cX1_rowOf 8 = .ok (.imul, 1) := by decide +kernel
theorem dX1_rowOf_9 : decode cX1_rowOf 9 = .ok (.ireturn, 1) := by decide +kernel
theorem dX2_init_0 : decode cX2_init 0 = .ok (.aload_n 0, 1) := by decide +kernel
theorem dX2_init_1 : decode cX2_init 1 = .ok (.invokespecial 3, 3) := by decide +kernel
theorem dX2_init_4 : decode cX2_init 4 = .ok (.aload_n 0, 1) := by decide +kernel
theorem dX2_init_5 : decode cX2_init 5 = .ok (.new 9, 3) := by decide +kernel
theorem dX2_init_8 : decode cX2_init 8 = .ok (.dup, 1) := by decide +kernel
theorem dX2_init_9 : decode cX2_init 9 = .ok (.invokespecial 11, 3) := by decide +kernel
theorem dX2_init_12 : decode cX2_init 12 = .ok (.putfield 12, 3) := by decide +kernel
theorem dX2_init_15 : decode cX2_init 15 = .ok (.aload_n 0, 1) := by decide +kernel
theorem dX2_init_16 : decode cX2_init 16 = .ok (.bipush 80, 2) := by decide +kernel
theorem dX2_init_18 : decode cX2_init 18 = .ok (.newarray .char, 2) := by decide +kernel
theorem dX2_init_20 : decode cX2_init 20 = .ok (.putfield 18, 3) := by decide +kernel
theorem dX2_init_23 : decode cX2_init 23 = .ok (.aload_n 0, 1) := by decide +kernel
theorem dX2_init_24 : decode cX2_init 24 = .ok (.iconst 0, 1) := by decide +kernel
theorem dX2_init_25 : decode cX2_init 25 = .ok (.putfield 22, 3) := by decide +kernel
theorem dX2_init_28 : decode cX2_init 28 = .ok (.aload_n 0, 1) := by decide +kernel
theorem dX2_init_29 : decode cX2_init 29 = .ok (.iconst 0, 1) := by decide +kernel
theorem dX2_init_30 : decode cX2_init 30 = .ok (.putfield 26, 3) := by decide +kernel
theorem dX2_init_33 : decode cX2_init 33 = .ok (.aload_n 0, 1) := by decide +kernel
theorem dX2_init_34 : decode cX2_init 34 = .ok (.iconst 0, 1) := by decide +kernel
theorem dX2_init_35 : decode cX2_init 35 = .ok (.putfield 29, 3) := by decide +kernel
theorem dX2_init_38 : decode cX2_init 38 = .ok (.aload_n 0, 1) := by decide +kernel
theorem dX2_init_39 : decode cX2_init 39 = .ok (.iconst 0, 1) := by decide +kernel
theorem dX2_init_40 : decode cX2_init 40 = .ok (.putfield 32, 3) := by decide +kernel
theorem dX2_init_43 : decode cX2_init 43 = .ok (.aload_n 0, 1) := by decide +kernel
theorem dX2_init_44 : decode cX2_init 44 = .ok (.iconst (-1), 1) := by decide +kernel
theorem dX2_init_45 : decode cX2_init 45 = .ok (.putfield 35, 3) := by decide +kernel
theorem dX2_init_48 : decode cX2_init 48 = .ok (.return_, 1) := by decide +kernel
theorem dX2_append_0 : decode cX2_append 0 = .ok (.aload_n 0, 1) := by decide +kernel
theorem dX2_append_1 : decode cX2_append 1 = .ok (.getfield 22, 3) := by decide +kernel
theorem dX2_append_4 : decode cX2_append 4 = .ok (.bipush 80, 2) := by decide +kernel
theorem dX2_append_6 : decode cX2_append 6 = .ok (.if_icmp .lt 6, 3) := by decide +kernel
theorem dX2_append_9 : decode cX2_append 9 = .ok (.bipush (-4), 2) := by decide +kernel
theorem dX2_append_11 : decode cX2_append 11 = .ok (.ireturn, 1) := by decide +kernel
theorem dX2_append_12 : decode cX2_append 12 = .ok (.aload_n 0, 1) := by decide +kernel
theorem dX2_append_13 : decode cX2_append 13 = .ok (.getfield 18, 3) := by decide +kernel
theorem dX2_append_16 : decode cX2_append 16 = .ok (.aload_n 0, 1) := by decide +kernel
theorem dX2_append_17 : decode cX2_append 17 = .ok (.getfield 22, 3) := by decide +kernel
theorem dX2_append_20 : decode cX2_append 20 = .ok (.iload_n 1, 1) := by decide +kernel
theorem dX2_append_21 : decode cX2_append 21 = .ok (.castore, 1) := by decide +kernel
theorem dX2_append_22 : decode cX2_append 22 = .ok (.aload_n 0, 1) := by decide +kernel
theorem dX2_append_23 : decode cX2_append 23 = .ok (.dup, 1) := by decide +kernel
theorem dX2_append_24 : decode cX2_append 24 = .ok (.getfield 22, 3) := by decide +kernel
theorem dX2_append_27 : decode cX2_append 27 = .ok (.iconst 1, 1) := by decide +kernel
theorem dX2_append_28 : decode cX2_append 28 = .ok (.iadd, 1) := by decide +kernel
theorem dX2_append_29 : decode cX2_append 29 = .ok (.putfield 22, 3) := by decide +kernel
theorem dX2_append_32 : decode cX2_append 32 = .ok (.aload_n 0, 1) := by decide +kernel
theorem dX2_append_33 : decode cX2_append 33 = .ok (.getfield 22, 3) := by decide +kernel
theorem dX2_append_36 : decode cX2_append 36 = .ok (.ireturn, 1) := by decide +kernel
theorem dX2_findFault_0 : decode cX2_findFault 0 = .ok (.aload_n 0, 1) := by decide +kernel
theorem dX2_findFault_1 : decode cX2_findFault 1 = .ok (.getfield 12, 3) := by decide +kernel
theorem dX2_findFault_4 : decode cX2_findFault 4 = .ok (.iconst 0, 1) := by decide +kernel
theorem dX2_findFault_5 : decode cX2_findFault 5 = .ok (.putfield 38, 3) := by decide +kernel
theorem dX2_findFault_8 : decode cX2_findFault 8 = .ok (.aload_n 0, 1) := by decide +kernel
theorem dX2_findFault_9 : decode cX2_findFault 9 = .ok (.iconst 0, 1) := by decide +kernel
theorem dX2_findFault_10 : decode cX2_findFault 10 = .ok (.putfield 26, 3) := by decide +kernel
theorem dX2_findFault_13 : decode cX2_findFault 13 = .ok (.aload_n 0, 1) := by decide +kernel
theorem dX2_findFault_14 : decode cX2_findFault 14 = .ok (.iconst (-1), 1) := by decide +kernel
theorem dX2_findFault_15 : decode cX2_findFault 15 = .ok (.putfield 35, 3) := by decide +kernel
theorem dX2_findFault_18 : decode cX2_findFault 18 = .ok (.iconst 0, 1) := by decide +kernel
theorem dX2_findFault_19 : decode cX2_findFault 19 = .ok (.istore_n 1, 1) := by decide +kernel
theorem dX2_findFault_20 : decode cX2_findFault 20 = .ok (.iload_n 1, 1) := by decide +kernel
theorem dX2_findFault_21 : decode cX2_findFault 21 = .ok (.aload_n 0, 1) := by decide +kernel
theorem dX2_findFault_22 : decode cX2_findFault 22 = .ok (.getfield 22, 3) := by decide +kernel
theorem dX2_findFault_25 : decode cX2_findFault 25 = .ok (.if_icmp .ge 24, 3) := by decide +kernel
theorem dX2_findFault_28 : decode cX2_findFault 28 = .ok (.aload_n 0, 1) := by decide +kernel
theorem dX2_findFault_29 : decode cX2_findFault 29 = .ok (.aload_n 0, 1) := by decide +kernel
theorem dX2_findFault_30 : decode cX2_findFault 30 = .ok (.getfield 18, 3) := by decide +kernel
theorem dX2_findFault_33 : decode cX2_findFault 33 = .ok (.iload_n 1, 1) := by decide +kernel
theorem dX2_findFault_34 : decode cX2_findFault 34 = .ok (.caload, 1) := by decide +kernel
theorem dX2_findFault_35 : decode cX2_findFault 35 = .ok (.invokevirtual 41, 3) := by decide +kernel
theorem dX2_findFault_38 : decode cX2_findFault 38 = .ok (.ifCond .ne 5, 3) := by decide +kernel
theorem dX2_findFault_41 : decode cX2_findFault 41 = .ok (.iload_n 1, 1) := by decide +kernel
theorem dX2_findFault_42 : decode cX2_findFault 42 = .ok (.ireturn, 1) := by decide +kernel
theorem dX2_findFault_43 : decode cX2_findFault 43 = .ok (.iinc 1 1, 3) := by decide +kernel
theorem dX2_findFault_46 : decode cX2_findFault 46 = .ok (.goto (-26), 3) := by decide +kernel
theorem dX2_findFault_49 : decode cX2_findFault 49 = .ok (.aload_n 0, 1) := by decide +kernel
theorem dX2_findFault_50 : decode cX2_findFault 50 = .ok (.invokevirtual 45, 3) := by decide +kernel
theorem dX2_findFault_53 : decode cX2_findFault 53 = .ok (.ifCond .eq 8, 3) := by decide +kernel
theorem dX2_findFault_56 : decode cX2_findFault 56 = .ok (.bipush (-6), 2) := by decide +kernel
theorem dX2_findFault_58 : decode cX2_findFault 58 = .ok (.goto 7, 3) := by decide +kernel
theorem dX2_findFault_61 : decode cX2_findFault 61 = .ok (.aload_n 0, 1) := by decide +kernel
theorem dX2_findFault_62 : decode cX2_findFault 62 = .ok (.getfield 22, 3) := by decide +kernel
theorem dX2_findFault_65 : decode cX2_findFault 65 = .ok (.ireturn, 1) := by decide +kernel
theorem dX2_accepts_0 : decode cX2_accepts 0 = .ok (.aload_n 0, 1) := by decide +kernel
theorem dX2_accepts_1 : decode cX2_accepts 1 = .ok (.getfield 26, 3) := by decide +kernel
theorem dX2_accepts_4 : decode cX2_accepts 4 = .ok (.lookupswitch 69 #[(0, 28), (1, 50)], 28) := by decide +kernel
theorem dX2_accepts_32 : decode cX2_accepts 32 = .ok (.iload_n 1, 1) := by decide +kernel
theorem dX2_accepts_33 : decode cX2_accepts 33 = .ok (.bipush 58, 2) := by decide +kernel
theorem dX2_accepts_35 : decode cX2_accepts 35 = .ok (.if_icmp .ne 10, 3) := by decide +kernel
theorem dX2_accepts_38 : decode cX2_accepts 38 = .ok (.aload_n 0, 1) := by decide +kernel
theorem dX2_accepts_39 : decode cX2_accepts 39 = .ok (.invokevirtual 49, 3) := by decide +kernel
theorem dX2_accepts_42 : decode cX2_accepts 42 = .ok (.goto 11, 3) := by decide +kernel
theorem dX2_accepts_45 : decode cX2_accepts 45 = .ok (.aload_n 0, 1) := by decide +kernel
theorem dX2_accepts_46 : decode cX2_accepts 46 = .ok (.sipush 9999, 3) := by decide +kernel
theorem dX2_accepts_49 : decode cX2_accepts 49 = .ok (.iload_n 1, 1) := by decide +kernel
end
section
theorem dX2_accepts_50 : decode cX2_accepts 50 = .ok (.invokevirtual 52, 3) := by decide +kernel
theorem dX2_accepts_53 : decode cX2_accepts 53 = .ok (.ireturn, 1) := by decide +kernel
theorem dX2_accepts_54 : decode cX2_accepts 54 = .ok (.iload_n 1, 1) := by decide +kernel
theorem dX2_accepts_55 : decode cX2_accepts 55 = .ok (.bipush 61, 2) := by decide +kernel
theorem dX2_accepts_57 : decode cX2_accepts 57 = .ok (.if_icmp .ne 10, 3) := by decide +kernel
theorem dX2_accepts_60 : decode cX2_accepts 60 = .ok (.aload_n 0, 1) := by decide +kernel
theorem dX2_accepts_61 : decode cX2_accepts 61 = .ok (.invokevirtual 56, 3) := by decide +kernel
theorem dX2_accepts_64 : decode cX2_accepts 64 = .ok (.goto 8, 3) := by decide +kernel
theorem dX2_accepts_67 : decode cX2_accepts 67 = .ok (.aload_n 0, 1) := by decide +kernel
theorem dX2_accepts_68 : decode cX2_accepts 68 = .ok (.iload_n 1, 1) := by decide +kernel
theorem dX2_accepts_69 : decode cX2_accepts 69 = .ok (.invokevirtual 59, 3) := by decide +kernel
theorem dX2_accepts_72 : decode cX2_accepts 72 = .ok (.ireturn, 1) := by decide +kernel
theorem dX2_accepts_73 : decode cX2_accepts 73 = .ok (.iload_n 1, 1) := by decide +kernel
theorem dX2_accepts_74 : decode cX2_accepts 74 = .ok (.bipush 44, 2) := by decide +kernel
theorem dX2_accepts_76 : decode cX2_accepts 76 = .ok (.if_icmp .ne 10, 3) := by decide +kernel
theorem dX2_accepts_79 : decode cX2_accepts 79 = .ok (.aload_n 0, 1) := by decide +kernel
theorem dX2_accepts_80 : decode cX2_accepts 80 = .ok (.invokevirtual 45, 3) := by decide +kernel
theorem dX2_accepts_83 : decode cX2_accepts 83 = .ok (.goto 11, 3) := by decide +kernel
theorem dX2_accepts_86 : decode cX2_accepts 86 = .ok (.aload_n 0, 1) := by decide +kernel
theorem dX2_accepts_87 : decode cX2_accepts 87 = .ok (.sipush 1000, 3) := by decide +kernel
theorem dX2_accepts_90 : decode cX2_accepts 90 = .ok (.iload_n 1, 1) := by decide +kernel
theorem dX2_accepts_91 : decode cX2_accepts 91 = .ok (.invokevirtual 52, 3) := by decide +kernel
theorem dX2_accepts_94 : decode cX2_accepts 94 = .ok (.ireturn, 1) := by decide +kernel
theorem dX2_endsTime_0 : decode cX2_endsTime 0 = .ok (.aload_n 0, 1) := by decide +kernel
theorem dX2_endsTime_1 : decode cX2_endsTime 1 = .ok (.aload_n 0, 1) := by decide +kernel
theorem dX2_endsTime_2 : decode cX2_endsTime 2 = .ok (.getfield 35, 3) := by decide +kernel
theorem dX2_endsTime_5 : decode cX2_endsTime 5 = .ok (.putfield 29, 3) := by decide +kernel
theorem dX2_endsTime_8 : decode cX2_endsTime 8 = .ok (.aload_n 0, 1) := by decide +kernel
theorem dX2_endsTime_9 : decode cX2_endsTime 9 = .ok (.iconst 0, 1) := by decide +kernel
theorem dX2_endsTime_10 : decode cX2_endsTime 10 = .ok (.putfield 32, 3) := by decide +kernel
theorem dX2_endsTime_13 : decode cX2_endsTime 13 = .ok (.aload_n 0, 1) := by decide +kernel
theorem dX2_endsTime_14 : decode cX2_endsTime 14 = .ok (.iconst 1, 1) := by decide +kernel
theorem dX2_endsTime_15 : decode cX2_endsTime 15 = .ok (.putfield 26, 3) := by decide +kernel
theorem dX2_endsTime_18 : decode cX2_endsTime 18 = .ok (.aload_n 0, 1) := by decide +kernel
theorem dX2_endsTime_19 : decode cX2_endsTime 19 = .ok (.getfield 35, 3) := by decide +kernel
theorem dX2_endsTime_22 : decode cX2_endsTime 22 = .ok (.iconst (-1), 1) := by decide +kernel
theorem dX2_endsTime_23 : decode cX2_endsTime 23 = .ok (.if_icmp .eq 7, 3) := by decide +kernel
theorem dX2_endsTime_26 : decode cX2_endsTime 26 = .ok (.iconst 1, 1) := by decide +kernel
theorem dX2_endsTime_27 : decode cX2_endsTime 27 = .ok (.goto 4, 3) := by decide +kernel
theorem dX2_endsTime_30 : decode cX2_endsTime 30 = .ok (.iconst 0, 1) := by decide +kernel
theorem dX2_endsTime_31 : decode cX2_endsTime 31 = .ok (.ireturn, 1) := by decide +kernel
theorem dX2_endsSet_0 : decode cX2_endsSet 0 = .ok (.aload_n 0, 1) := by decide +kernel
theorem dX2_endsSet_1 : decode cX2_endsSet 1 = .ok (.iconst (-1), 1) := by decide +kernel
theorem dX2_endsSet_2 : decode cX2_endsSet 2 = .ok (.putfield 35, 3) := by decide +kernel
theorem dX2_endsSet_5 : decode cX2_endsSet 5 = .ok (.aload_n 0, 1) := by decide +kernel
theorem dX2_endsSet_6 : decode cX2_endsSet 6 = .ok (.iconst 2, 1) := by decide +kernel
theorem dX2_endsSet_7 : decode cX2_endsSet 7 = .ok (.putfield 26, 3) := by decide +kernel
theorem dX2_endsSet_10 : decode cX2_endsSet 10 = .ok (.aload_n 0, 1) := by decide +kernel
theorem dX2_endsSet_11 : decode cX2_endsSet 11 = .ok (.getfield 32, 3) := by decide +kernel
theorem dX2_endsSet_14 : decode cX2_endsSet 14 = .ok (.ifCond .eq 7, 3) := by decide +kernel
theorem dX2_endsSet_17 : decode cX2_endsSet 17 = .ok (.iconst 1, 1) := by decide +kernel
theorem dX2_endsSet_18 : decode cX2_endsSet 18 = .ok (.goto 4, 3) := by decide +kernel
theorem dX2_endsSet_21 : decode cX2_endsSet 21 = .ok (.iconst 0, 1) := by decide +kernel
theorem dX2_endsSet_22 : decode cX2_endsSet 22 = .ok (.ireturn, 1) := by decide +kernel
theorem dX2_endsCue_0 : decode cX2_endsCue 0 = .ok (.aload_n 0, 1) := by decide +kernel
theorem dX2_endsCue_1 : decode cX2_endsCue 1 = .ok (.getfield 26, 3) := by decide +kernel
theorem dX2_endsCue_4 : decode cX2_endsCue 4 = .ok (.iconst 2, 1) := by decide +kernel
theorem dX2_endsCue_5 : decode cX2_endsCue 5 = .ok (.if_icmp .ne 11, 3) := by decide +kernel
theorem dX2_endsCue_8 : decode cX2_endsCue 8 = .ok (.aload_n 0, 1) := by decide +kernel
theorem dX2_endsCue_9 : decode cX2_endsCue 9 = .ok (.getfield 35, 3) := by decide +kernel
theorem dX2_endsCue_12 : decode cX2_endsCue 12 = .ok (.iconst (-1), 1) := by decide +kernel
theorem dX2_endsCue_13 : decode cX2_endsCue 13 = .ok (.if_icmp .ne 5, 3) := by decide +kernel
theorem dX2_endsCue_16 : decode cX2_endsCue 16 = .ok (.iconst 0, 1) := by decide +kernel
theorem dX2_endsCue_17 : decode cX2_endsCue 17 = .ok (.ireturn, 1) := by decide +kernel
theorem dX2_endsCue_18 : decode cX2_endsCue 18 = .ok (.aload_n 0, 1) := by decide +kernel
theorem dX2_endsCue_19 : decode cX2_endsCue 19 = .ok (.getfield 12, 3) := by decide +kernel
theorem dX2_endsCue_22 : decode cX2_endsCue 22 = .ok (.aload_n 0, 1) := by decide +kernel
theorem dX2_endsCue_23 : decode cX2_endsCue 23 = .ok (.getfield 29, 3) := by decide +kernel
theorem dX2_endsCue_26 : decode cX2_endsCue 26 = .ok (.aload_n 0, 1) := by decide +kernel
theorem dX2_endsCue_27 : decode cX2_endsCue 27 = .ok (.getfield 32, 3) := by decide +kernel
theorem dX2_endsCue_30 : decode cX2_endsCue 30 = .ok (.aload_n 0, 1) := by decide +kernel
theorem dX2_endsCue_31 : decode cX2_endsCue 31 = .ok (.getfield 35, 3) := by decide +kernel
theorem dX2_endsCue_34 : decode cX2_endsCue 34 = .ok (.invokevirtual 62, 3) := by decide +kernel
theorem dX2_endsCue_37 : decode cX2_endsCue 37 = .ok (.pop, 1) := by decide +kernel
theorem dX2_endsCue_38 : decode cX2_endsCue 38 = .ok (.aload_n 0, 1) := by decide +kernel
theorem dX2_endsCue_39 : decode cX2_endsCue 39 = .ok (.iconst (-1), 1) := by decide +kernel
theorem dX2_endsCue_40 : decode cX2_endsCue 40 = .ok (.putfield 35, 3) := by decide +kernel
theorem dX2_endsCue_43 : decode cX2_endsCue 43 = .ok (.aload_n 0, 1) := by decide +kernel
theorem dX2_endsCue_44 : decode cX2_endsCue 44 = .ok (.iconst 0, 1) := by decide +kernel
theorem dX2_endsCue_45 : decode cX2_endsCue 45 = .ok (.putfield 26, 3) := by decide +kernel
theorem dX2_endsCue_48 : decode cX2_endsCue 48 = .ok (.iconst 1, 1) := by decide +kernel
theorem dX2_endsCue_49 : decode cX2_endsCue 49 = .ok (.ireturn, 1) := by decide +kernel
theorem dX2_isDigitUpTo_0 : decode cX2_isDigitUpTo 0 = .ok (.iload_n 2, 1) := by decide +kernel
theorem dX2_isDigitUpTo_1 : decode cX2_isDigitUpTo 1 = .ok (.bipush 48, 2) := by decide +kernel
theorem dX2_isDigitUpTo_3 : decode cX2_isDigitUpTo 3 = .ok (.if_icmp .lt 16, 3) := by decide +kernel
theorem dX2_isDigitUpTo_6 : decode cX2_isDigitUpTo 6 = .ok (.iload_n 2, 1) := by decide +kernel
theorem dX2_isDigitUpTo_7 : decode cX2_isDigitUpTo 7 = .ok (.bipush 57, 2) := by decide +kernel
theorem dX2_isDigitUpTo_9 : decode cX2_isDigitUpTo 9 = .ok (.if_icmp .gt 10, 3) := by decide +kernel
theorem dX2_isDigitUpTo_12 : decode cX2_isDigitUpTo 12 = .ok (.aload_n 0, 1) := by decide +kernel
theorem dX2_isDigitUpTo_13 : decode cX2_isDigitUpTo 13 = .ok (.getfield 35, 3) := by decide +kernel
theorem dX2_isDigitUpTo_16 : decode cX2_isDigitUpTo 16 = .ok (.ifCond .ne 5, 3) := by decide +kernel
theorem dX2_isDigitUpTo_19 : decode cX2_isDigitUpTo 19 = .ok (.iconst 0, 1) := by decide +kernel
theorem dX2_isDigitUpTo_20 : decode cX2_isDigitUpTo 20 = .ok (.ireturn, 1) := by decide +kernel
theorem dX2_isDigitUpTo_21 : decode cX2_isDigitUpTo 21 = .ok (.iload_n 2, 1) := by decide +kernel
theorem dX2_isDigitUpTo_22 : decode cX2_isDigitUpTo 22 = .ok (.bipush 48, 2) := by decide +kernel
theorem dX2_isDigitUpTo_24 : decode cX2_isDigitUpTo 24 = .ok (.isub, 1) := by decide +kernel
theorem dX2_isDigitUpTo_25 : decode cX2_isDigitUpTo 25 = .ok (.istore_n 3, 1) := by decide +kernel
theorem dX2_isDigitUpTo_26 : decode cX2_isDigitUpTo 26 = .ok (.aload_n 0, 1) := by decide +kernel
theorem dX2_isDigitUpTo_27 : decode cX2_isDigitUpTo 27 = .ok (.aload_n 0, 1) := by decide +kernel
theorem dX2_isDigitUpTo_28 : decode cX2_isDigitUpTo 28 = .ok (.getfield 35, 3) := by decide +kernel
theorem dX2_isDigitUpTo_31 : decode cX2_isDigitUpTo 31 = .ok (.iconst (-1), 1) := by decide +kernel
theorem dX2_isDigitUpTo_32 : decode cX2_isDigitUpTo 32 = .ok (.if_icmp .ne 7, 3) := by decide +kernel
theorem dX2_isDigitUpTo_35 : decode cX2_isDigitUpTo 35 = .ok (.iload_n 3, 1) := by decide +kernel
theorem dX2_isDigitUpTo_36 : decode cX2_isDigitUpTo 36 = .ok (.goto 12, 3) := by decide +kernel
theorem dX2_isDigitUpTo_39 : decode cX2_isDigitUpTo 39 = .ok (.bipush 10, 2) := by decide +kernel
theorem dX2_isDigitUpTo_41 : decode cX2_isDigitUpTo 41 = .ok (.aload_n 0, 1) := by decide +kernel
theorem dX2_isDigitUpTo_42 : decode cX2_isDigitUpTo 42 = .ok (.getfield 35, 3) := by decide +kernel
theorem dX2_isDigitUpTo_45 : decode cX2_isDigitUpTo 45 = .ok (.imul, 1) := by decide +kernel
theorem dX2_isDigitUpTo_46 : decode cX2_isDigitUpTo 46 = .ok (.iload_n 3, 1) := by decide +kernel
theorem dX2_isDigitUpTo_47 : decode cX2_isDigitUpTo 47 = .ok (.iadd, 1) := by decide +kernel
theorem dX2_isDigitUpTo_48 : decode cX2_isDigitUpTo 48 = .ok (.putfield 35, 3) := by decide +kernel
theorem dX2_isDigitUpTo_51 : decode cX2_isDigitUpTo 51 = .ok (.aload_n 0, 1) := by decide +kernel
theorem dX2_isDigitUpTo_52 : decode cX2_isDigitUpTo 52 = .ok (.getfield 35, 3) := by decide +kernel
theorem dX2_isDigitUpTo_55 : decode cX2_isDigitUpTo 55 = .ok (.iload_n 1, 1) := by decide +kernel
theorem dX2_isDigitUpTo_56 : decode cX2_isDigitUpTo 56 = .ok (.if_icmp .gt 7, 3) := by decide +kernel
theorem dX2_isDigitUpTo_59 : decode cX2_isDigitUpTo 59 = .ok (.iconst 1, 1) := by decide +kernel
theorem dX2_isDigitUpTo_60 : decode cX2_isDigitUpTo 60 = .ok (.goto 4, 3) := by decide +kernel
theorem dX2_isDigitUpTo_63 : decode cX2_isDigitUpTo 63 = .ok (.iconst 0, 1) := by decide +kernel
theorem dX2_isDigitUpTo_64 : decode cX2_isDigitUpTo 64 = .ok (.ireturn, 1) := by decide +kernel
theorem dX2_isLetter_0 : decode cX2_isLetter 0 = .ok (.iload_n 1, 1) := by decide +kernel
theorem dX2_isLetter_1 : decode cX2_isLetter 1 = .ok (.bipush 97, 2) := by decide +kernel
theorem dX2_isLetter_3 : decode cX2_isLetter 3 = .ok (.if_icmp .lt 9, 3) := by decide +kernel
theorem dX2_isLetter_6 : decode cX2_isLetter 6 = .ok (.iload_n 1, 1) := by decide +kernel
theorem dX2_isLetter_7 : decode cX2_isLetter 7 = .ok (.bipush 108, 2) := by decide +kernel
theorem dX2_isLetter_9 : decode cX2_isLetter 9 = .ok (.if_icmp .le 5, 3) := by decide +kernel
theorem dX2_isLetter_12 : decode cX2_isLetter 12 = .ok (.iconst 0, 1) := by decide +kernel
theorem dX2_isLetter_13 : decode cX2_isLetter 13 = .ok (.ireturn, 1) := by decide +kernel
theorem dX2_isLetter_14 : decode cX2_isLetter 14 = .ok (.iconst 1, 1) := by decide +kernel
theorem dX2_isLetter_15 : decode cX2_isLetter 15 = .ok (.iload_n 1, 1) := by decide +kernel
theorem dX2_isLetter_16 : decode cX2_isLetter 16 = .ok (.bipush 97, 2) := by decide +kernel
theorem dX2_isLetter_18 : decode cX2_isLetter 18 = .ok (.isub, 1) := by decide +kernel
theorem dX2_isLetter_19 : decode cX2_isLetter 19 = .ok (.ishl, 1) := by decide +kernel
theorem dX2_isLetter_20 : decode cX2_isLetter 20 = .ok (.istore_n 2, 1) := by decide +kernel
theorem dX2_isLetter_21 : decode cX2_isLetter 21 = .ok (.iload_n 2, 1) := by decide +kernel
theorem dX2_isLetter_22 : decode cX2_isLetter 22 = .ok (.aload_n 0, 1) := by decide +kernel
theorem dX2_isLetter_23 : decode cX2_isLetter 23 = .ok (.getfield 32, 3) := by decide +kernel
theorem dX2_isLetter_26 : decode cX2_isLetter 26 = .ok (.if_icmp .le 7, 3) := by decide +kernel
theorem dX2_isLetter_29 : decode cX2_isLetter 29 = .ok (.iconst 1, 1) := by decide +kernel
theorem dX2_isLetter_30 : decode cX2_isLetter 30 = .ok (.goto 4, 3) := by decide +kernel
theorem dX2_isLetter_33 : decode cX2_isLetter 33 = .ok (.iconst 0, 1) := by decide +kernel
theorem dX2_isLetter_34 : decode cX2_isLetter 34 = .ok (.istore_n 3, 1) := by decide +kernel
theorem dX2_isLetter_35 : decode cX2_isLetter 35 = .ok (.aload_n 0, 1) := by decide +kernel
theorem dX2_isLetter_36 : decode cX2_isLetter 36 = .ok (.dup, 1) := by decide +kernel
theorem dX2_isLetter_37 : decode cX2_isLetter 37 = .ok (.getfield 32, 3) := by decide +kernel
theorem dX2_isLetter_40 : decode cX2_isLetter 40 = .ok (.iload_n 2, 1) := by decide +kernel
theorem dX2_isLetter_41 : decode cX2_isLetter 41 = .ok (.ior, 1) := by decide +kernel
theorem dX2_isLetter_42 : decode cX2_isLetter 42 = .ok (.putfield 32, 3) := by decide +kernel
theorem dX2_isLetter_45 : decode cX2_isLetter 45 = .ok (.iload_n 3, 1) := by decide +kernel
theorem dX2_isLetter_46 : decode cX2_isLetter 46 = .ok (.ireturn, 1) := by decide +kernel
theorem dX3_init_0 : decode cX3_init 0 = .ok (.aload_n 0, 1) := by decide +kernel
theorem dX3_init_1 : decode cX3_init 1 = .ok (.invokespecial 3, 3) := by decide +kernel
theorem dX3_init_4 : decode cX3_init 4 = .ok (.aload_n 0, 1) := by decide +kernel
theorem dX3_init_5 : decode cX3_init 5 = .ok (.new 9, 3) := by decide +kernel
theorem dX3_init_8 : decode cX3_init 8 = .ok (.dup, 1) := by decide +kernel
theorem dX3_init_9 : decode cX3_init 9 = .ok (.iconst 3, 1) := by decide +kernel
theorem dX3_init_10 : decode cX3_init 10 = .ok (.getstatic 11, 3) := by decide +kernel
theorem dX3_init_13 : decode cX3_init 13 = .ok (.getstatic 15, 3) := by decide +kernel
theorem dX3_init_16 : decode cX3_init 16 = .ok (.getstatic 18, 3) := by decide +kernel
theorem dX3_init_19 : decode cX3_init 19 = .ok (.invokespecial 21, 3) := by decide +kernel
theorem dX3_init_22 : decode cX3_init 22 = .ok (.putfield 24, 3) := by decide +kernel
theorem dX3_init_25 : decode cX3_init 25 = .ok (.aload_n 0, 1) := by decide +kernel
theorem dX3_init_26 : decode cX3_init 26 = .ok (.iconst 3, 1) := by decide +kernel
theorem dX3_init_27 : decode cX3_init 27 = .ok (.newarray .int, 2) := by decide +kernel
theorem dX3_init_29 : decode cX3_init 29 = .ok (.putfield 30, 3) := by decide +kernel
theorem dX3_init_32 : decode cX3_init 32 = .ok (.aload_n 0, 1) := by decide +kernel
theorem dX3_init_33 : decode cX3_init 33 = .ok (.iconst 3, 1) := by decide +kernel
theorem dX3_init_34 : decode cX3_init 34 = .ok (.newarray .int, 2) := by decide +kernel
theorem dX3_init_36 : decode cX3_init 36 = .ok (.putfield 33, 3) := by decide +kernel
theorem dX3_init_39 : decode cX3_init 39 = .ok (.aload_n 0, 1) := by decide +kernel
theorem dX3_init_40 : decode cX3_init 40 = .ok (.iconst 3, 1) := by decide +kernel
theorem dX3_init_41 : decode cX3_init 41 = .ok (.newarray .int, 2) := by decide +kernel
theorem dX3_init_43 : decode cX3_init 43 = .ok (.putfield 36, 3) := by decide +kernel
theorem dX3_init_46 : decode cX3_init 46 = .ok (.return_, 1) := by decide +kernel
theorem dX3_goBack_0 : decode cX3_goBack 0 = .ok (.aload_n 0, 1) := by decide +kernel
theorem dX3_goBack_1 : decode cX3_goBack 1 = .ok (.getfield 30, 3) := by decide +kernel
theorem dX3_goBack_4 : decode cX3_goBack 4 = .ok (.invokestatic 39, 3) := by decide +kernel
theorem dX3_goBack_7 : decode cX3_goBack 7 = .ok (.aload_n 0, 1) := by decide +kernel
theorem dX3_goBack_8 : decode cX3_goBack 8 = .ok (.getfield 33, 3) := by decide +kernel
theorem dX3_goBack_11 : decode cX3_goBack 11 = .ok (.invokestatic 39, 3) := by decide +kernel
theorem dX3_goBack_14 : decode cX3_goBack 14 = .ok (.aload_n 0, 1) := by decide +kernel
theorem dX3_goBack_15 : decode cX3_goBack 15 = .ok (.getfield 36, 3) := by decide +kernel
theorem dX3_goBack_18 : decode cX3_goBack 18 = .ok (.invokestatic 39, 3) := by decide +kernel
theorem dX3_goBack_21 : decode cX3_goBack 21 = .ok (.return_, 1) := by decide +kernel
theorem dX3_copy_0 : decode cX3_copy 0 = .ok (.aload_n 0, 1) := by decide +kernel
theorem dX3_copy_1 : decode cX3_copy 1 = .ok (.getfield 24, 3) := by decide +kernel
theorem dX3_copy_4 : decode cX3_copy 4 = .ok (.aload_n 1, 1) := by decide +kernel
theorem dX3_copy_5 : decode cX3_copy 5 = .ok (.getfield 24, 3) := by decide +kernel
theorem dX3_copy_8 : decode cX3_copy 8 = .ok (.invokevirtual 43, 3) := by decide +kernel
theorem dX3_copy_11 : decode cX3_copy 11 = .ok (.aload_n 1, 1) := by decide +kernel
theorem dX3_copy_12 : decode cX3_copy 12 = .ok (.getfield 30, 3) := by decide +kernel
theorem dX3_copy_15 : decode cX3_copy 15 = .ok (.aload_n 0, 1) := by decide +kernel
theorem dX3_copy_16 : decode cX3_copy 16 = .ok (.getfield 30, 3) := by decide +kernel
theorem dX3_copy_19 : decode cX3_copy 19 = .ok (.invokestatic 47, 3) := by decide +kernel
theorem dX3_copy_22 : decode cX3_copy 22 = .ok (.aload_n 1, 1) := by decide +kernel
theorem dX3_copy_23 : decode cX3_copy 23 = .ok (.getfield 33, 3) := by decide +kernel
theorem dX3_copy_26 : decode cX3_copy 26 = .ok (.aload_n 0, 1) := by decide +kernel
theorem dX3_copy_27 : decode cX3_copy 27 = .ok (.getfield 33, 3) := by decide +kernel
theorem dX3_copy_30 : decode cX3_copy 30 = .ok (.invokestatic 47, 3) := by decide +kernel
theorem dX3_copy_33 : decode cX3_copy 33 = .ok (.aload_n 1, 1) := by decide +kernel
theorem dX3_copy_34 : decode cX3_copy 34 = .ok (.getfield 36, 3) := by decide +kernel
theorem dX3_copy_37 : decode cX3_copy 37 = .ok (.aload_n 0, 1) := by decide +kernel
theorem dX3_copy_38 : decode cX3_copy 38 = .ok (.getfield 36, 3) := by decide +kernel
theorem dX3_copy_41 : decode cX3_copy 41 = .ok (.invokestatic 47, 3) := by decide +kernel
theorem dX3_copy_44 : decode cX3_copy 44 = .ok (.return_, 1) := by decide +kernel
theorem dX3_supply_0 : decode cX3_supply 0 = .ok (.iconst 0, 1) := by decide +kernel
theorem dX3_supply_1 : decode cX3_supply 1 = .ok (.istore_n 2, 1) := by decide +kernel
theorem dX3_supply_2 : decode cX3_supply 2 = .ok (.iload_n 2, 1) := by decide +kernel
theorem dX3_supply_3 : decode cX3_supply 3 = .ok (.iconst 3, 1) := by decide +kernel
theorem dX3_supply_4 : decode cX3_supply 4 = .ok (.if_icmp .ge 89, 3) := by decide +kernel
theorem dX3_supply_7 : decode cX3_supply 7 = .ok (.aload_n 0, 1) := by decide +kernel
theorem dX3_supply_8 : decode cX3_supply 8 = .ok (.getfield 33, 3) := by decide +kernel
theorem dX3_supply_11 : decode cX3_supply 11 = .ok (.iload_n 2, 1) := by decide +kernel
theorem dX3_supply_12 : decode cX3_supply 12 = .ok (.aload_n 1, 1) := by decide +kernel
theorem dX3_supply_13 : decode cX3_supply 13 = .ok (.iload_n 2, 1) := by decide +kernel
theorem dX3_supply_14 : decode cX3_supply 14 = .ok (.invokevirtual 51, 3) := by decide +kernel
theorem dX3_supply_17 : decode cX3_supply 17 = .ok (.iastore, 1) := by decide +kernel
theorem dX3_supply_18 : decode cX3_supply 18 = .ok (.aload_n 0, 1) := by decide +kernel
theorem dX3_supply_19 : decode cX3_supply 19 = .ok (.getfield 33, 3) := by decide +kernel
theorem dX3_supply_22 : decode cX3_supply 22 = .ok (.iload_n 2, 1) := by decide +kernel
theorem dX3_supply_23 : decode cX3_supply 23 = .ok (.iaload, 1) := by decide +kernel
theorem dX3_supply_24 : decode cX3_supply 24 = .ok (.sipush 1000, 3) := by decide +kernel
theorem dX3_supply_27 : decode cX3_supply 27 = .ok (.aload_n 0, 1) := by decide +kernel
theorem dX3_supply_28 : decode cX3_supply 28 = .ok (.getfield 24, 3) := by decide +kernel
theorem dX3_supply_31 : decode cX3_supply 31 = .ok (.iload_n 2, 1) := by decide +kernel
theorem dX3_supply_32 : decode cX3_supply 32 = .ok (.iconst 0, 1) := by decide +kernel
theorem dX3_supply_33 : decode cX3_supply 33 = .ok (.invokevirtual 57, 3) := by decide +kernel
theorem dX3_supply_36 : decode cX3_supply 36 = .ok (.imul, 1) := by decide +kernel
theorem dX3_supply_37 : decode cX3_supply 37 = .ok (.invokestatic 61, 3) := by decide +kernel
theorem dX3_supply_40 : decode cX3_supply 40 = .ok (.istore_n 3, 1) := by decide +kernel
theorem dX3_supply_41 : decode cX3_supply 41 = .ok (.aload_n 0, 1) := by decide +kernel
theorem dX3_supply_42 : decode cX3_supply 42 = .ok (.getfield 30, 3) := by decide +kernel
theorem dX3_supply_45 : decode cX3_supply 45 = .ok (.iload_n 2, 1) := by decide +kernel
theorem dX3_supply_46 : decode cX3_supply 46 = .ok (.aload_n 0, 1) := by decide +kernel
theorem dX3_supply_47 : decode cX3_supply 47 = .ok (.getfield 30, 3) := by decide +kernel
theorem dX3_supply_50 : decode cX3_supply 50 = .ok (.iload_n 2, 1) := by decide +kernel
theorem dX3_supply_51 : decode cX3_supply 51 = .ok (.iaload, 1) := by decide +kernel
theorem dX3_supply_52 : decode cX3_supply 52 = .ok (.iload_n 3, 1) := by decide +kernel
theorem dX3_supply_53 : decode cX3_supply 53 = .ok (.sipush 1000, 3) := by decide +kernel
theorem dX3_supply_56 : decode cX3_supply 56 = .ok (.aload_n 0, 1) := by decide +kernel
theorem dX3_supply_57 : decode cX3_supply 57 = .ok (.getfield 24, 3) := by decide +kernel
theorem dX3_supply_60 : decode cX3_supply 60 = .ok (.iload_n 2, 1) := by decide +kernel
theorem dX3_supply_61 : decode cX3_supply 61 = .ok (.iconst 1, 1) := by decide +kernel
theorem dX3_supply_62 : decode cX3_supply 62 = .ok (.invokevirtual 57, 3) := by decide +kernel
theorem dX3_supply_65 : decode cX3_supply 65 = .ok (.imul, 1) := by decide +kernel
theorem dX3_supply_66 : decode cX3_supply 66 = .ok (.invokestatic 66, 3) := by decide +kernel
theorem dX3_supply_69 : decode cX3_supply 69 = .ok (.iastore, 1) := by decide +kernel
theorem dX3_supply_70 : decode cX3_supply 70 = .ok (.aload_n 1, 1) := by decide +kernel
theorem dX3_supply_71 : decode cX3_supply 71 = .ok (.iload_n 2, 1) := by decide +kernel
theorem dX3_supply_72 : decode cX3_supply 72 = .ok (.aload_n 0, 1) := by decide +kernel
theorem dX3_supply_73 : decode cX3_supply 73 = .ok (.getfield 33, 3) := by decide +kernel
theorem dX3_supply_76 : decode cX3_supply 76 = .ok (.iload_n 2, 1) := by decide +kernel
theorem dX3_supply_77 : decode cX3_supply 77 = .ok (.iaload, 1) := by decide +kernel
theorem dX3_supply_78 : decode cX3_supply 78 = .ok (.aload_n 0, 1) := by decide +kernel
theorem dX3_supply_79 : decode cX3_supply 79 = .ok (.getfield 30, 3) := by decide +kernel
theorem dX3_supply_82 : decode cX3_supply 82 = .ok (.iload_n 2, 1) := by decide +kernel
theorem dX3_supply_83 : decode cX3_supply 83 = .ok (.iaload, 1) := by decide +kernel
theorem dX3_supply_84 : decode cX3_supply 84 = .ok (.invokevirtual 70, 3) := by decide +kernel
theorem dX3_supply_87 : decode cX3_supply 87 = .ok (.iinc 2 1, 3) := by decide +kernel
theorem dX3_supply_90 : decode cX3_supply 90 = .ok (.goto (-88), 3) := by decide +kernel
theorem dX3_supply_93 : decode cX3_supply 93 = .ok (.return_, 1) := by decide +kernel
theorem dX3_countShort_0 : decode cX3_countShort 0 = .ok (.iconst 0, 1) := by decide +kernel
theorem dX3_countShort_1 : decode cX3_countShort 1 = .ok (.istore_n 1, 1) := by decide +kernel
theorem dX3_countShort_2 : decode cX3_countShort 2 = .ok (.iload_n 1, 1) := by decide +kernel
theorem dX3_countShort_3 : decode cX3_countShort 3 = .ok (.iconst 3, 1) := by decide +kernel
theorem dX3_countShort_4 : decode cX3_countShort 4 = .ok (.if_icmp .ge 27, 3) := by decide +kernel
theorem dX3_countShort_7 : decode cX3_countShort 7 = .ok (.aload_n 0, 1) := by decide +kernel
theorem dX3_countShort_8 : decode cX3_countShort 8 = .ok (.iload_n 1, 1) := by decide +kernel
theorem dX3_countShort_9 : decode cX3_countShort 9 = .ok (.invokevirtual 74, 3) := by decide +kernel
theorem dX3_countShort_12 : decode cX3_countShort 12 = .ok (.ifCond .eq 13, 3) := by decide +kernel
theorem dX3_countShort_15 : decode cX3_countShort 15 = .ok (.aload_n 0, 1) := by decide +kernel
theorem dX3_countShort_16 : decode cX3_countShort 16 = .ok (.getfield 36, 3) := by decide +kernel
theorem dX3_countShort_19 : decode cX3_countShort 19 = .ok (.iload_n 1, 1) := by decide +kernel
theorem dX3_countShort_20 : decode cX3_countShort 20 = .ok (.dup2, 1) := by decide +kernel
theorem dX3_countShort_21 : decode cX3_countShort 21 = .ok (.iaload, 1) := by decide +kernel
theorem dX3_countShort_22 : decode cX3_countShort 22 = .ok (.iconst 1, 1) := by decide +kernel
theorem dX3_countShort_23 : decode cX3_countShort 23 = .ok (.iadd, 1) := by decide +kernel
theorem dX3_countShort_24 : decode cX3_countShort 24 = .ok (.iastore, 1) := by decide +kernel
theorem dX3_countShort_25 : decode cX3_countShort 25 = .ok (.iinc 1 1, 3) := by decide +kernel
theorem dX3_countShort_28 : decode cX3_countShort 28 = .ok (.goto (-26), 3) := by decide +kernel
theorem dX3_countShort_31 : decode cX3_countShort 31 = .ok (.return_, 1) := by decide +kernel
theorem dX3_isShort_0 : decode cX3_isShort 0 = .ok (.aload_n 0, 1) := by decide +kernel
theorem dX3_isShort_1 : decode cX3_isShort 1 = .ok (.getfield 33, 3) := by decide +kernel
theorem dX3_isShort_4 : decode cX3_isShort 4 = .ok (.iload_n 1, 1) := by decide +kernel
theorem dX3_isShort_5 : decode cX3_isShort 5 = .ok (.iaload, 1) := by decide +kernel
theorem dX3_isShort_6 : decode cX3_isShort 6 = .ok (.aload_n 0, 1) := by decide +kernel
theorem dX3_isShort_7 : decode cX3_isShort 7 = .ok (.getfield 30, 3) := by decide +kernel
theorem dX3_isShort_10 : decode cX3_isShort 10 = .ok (.iload_n 1, 1) := by decide +kernel
theorem dX3_isShort_11 : decode cX3_isShort 11 = .ok (.iaload, 1) := by decide +kernel
theorem dX3_isShort_12 : decode cX3_isShort 12 = .ok (.if_icmp .le 7, 3) := by decide +kernel
theorem dX3_isShort_15 : decode cX3_isShort 15 = .ok (.iconst 1, 1) := by decide +kernel
theorem dX3_isShort_16 : decode cX3_isShort 16 = .ok (.goto 4, 3) := by decide +kernel
theorem dX3_isShort_19 : decode cX3_isShort 19 = .ok (.iconst 0, 1) := by decide +kernel
theorem dX3_isShort_20 : decode cX3_isShort 20 = .ok (.ireturn, 1) := by decide +kernel
theorem dX3_someShort_0 : decode cX3_someShort 0 = .ok (.iconst 0, 1) := by decide +kernel
theorem dX3_someShort_1 : decode cX3_someShort 1 = .ok (.istore_n 1, 1) := by decide +kernel
theorem dX3_someShort_2 : decode cX3_someShort 2 = .ok (.iload_n 1, 1) := by decide +kernel
theorem dX3_someShort_3 : decode cX3_someShort 3 = .ok (.iconst 3, 1) := by decide +kernel
theorem dX3_someShort_4 : decode cX3_someShort 4 = .ok (.if_icmp .ge 19, 3) := by decide +kernel
theorem dX3_someShort_7 : decode cX3_someShort 7 = .ok (.aload_n 0, 1) := by decide +kernel
theorem dX3_someShort_8 : decode cX3_someShort 8 = .ok (.iload_n 1, 1) := by decide +kernel
theorem dX3_someShort_9 : decode cX3_someShort 9 = .ok (.invokevirtual 74, 3) := by decide +kernel
theorem dX3_someShort_12 : decode cX3_someShort 12 = .ok (.ifCond .eq 5, 3) := by decide +kernel
theorem dX3_someShort_15 : decode cX3_someShort 15 = .ok (.iconst 1, 1) := by decide +kernel
theorem dX3_someShort_16 : decode cX3_someShort 16 = .ok (.ireturn, 1) := by decide +kernel
theorem dX3_someShort_17 : decode cX3_someShort 17 = .ok (.iinc 1 1, 3) := by decide +kernel
theorem dX3_someShort_20 : decode cX3_someShort 20 = .ok (.goto (-18), 3) := by decide +kernel
theorem dX3_someShort_23 : decode cX3_someShort 23 = .ok (.iconst 0, 1) := by decide +kernel
theorem dX3_someShort_24 : decode cX3_someShort 24 = .ok (.ireturn, 1) := by decide +kernel
theorem dX4_init_0 : decode cX4_init 0 = .ok (.aload_n 0, 1) := by decide +kernel
theorem dX4_init_1 : decode cX4_init 1 = .ok (.invokespecial 3, 3) := by decide +kernel
theorem dX4_init_4 : decode cX4_init 4 = .ok (.aload_n 0, 1) := by decide +kernel
theorem dX4_init_5 : decode cX4_init 5 = .ok (.iconst 0, 1) := by decide +kernel
theorem dX4_init_6 : decode cX4_init 6 = .ok (.iload_n 1, 1) := by decide +kernel
theorem dX4_init_7 : decode cX4_init 7 = .ok (.invokestatic 9, 3) := by decide +kernel
theorem dX4_init_10 : decode cX4_init 10 = .ok (.putfield 15, 3) := by decide +kernel
theorem dX4_init_13 : decode cX4_init 13 = .ok (.aload_n 0, 1) := by decide +kernel
theorem dX4_init_14 : decode cX4_init 14 = .ok (.aload_n 2, 1) := by decide +kernel
theorem dX4_init_15 : decode cX4_init 15 = .ok (.putfield 21, 3) := by decide +kernel
theorem dX4_init_18 : decode cX4_init 18 = .ok (.aload_n 0, 1) := by decide +kernel
theorem dX4_init_19 : decode cX4_init 19 = .ok (.aload_n 3, 1) := by decide +kernel
theorem dX4_init_20 : decode cX4_init 20 = .ok (.putfield 25, 3) := by decide +kernel
theorem dX4_init_23 : decode cX4_init 23 = .ok (.aload_n 0, 1) := by decide +kernel
theorem dX4_init_24 : decode cX4_init 24 = .ok (.aload 4, 2) := by decide +kernel
theorem dX4_init_26 : decode cX4_init 26 = .ok (.putfield 28, 3) := by decide +kernel
theorem dX4_init_29 : decode cX4_init 29 = .ok (.aload_n 0, 1) := by decide +kernel
theorem dX4_init_30 : decode cX4_init 30 = .ok (.aload_n 0, 1) := by decide +kernel
theorem dX4_init_31 : decode cX4_init 31 = .ok (.getfield 15, 3) := by decide +kernel
theorem dX4_init_34 : decode cX4_init 34 = .ok (.aload 4, 2) := by decide +kernel
theorem dX4_init_36 : decode cX4_init 36 = .ok (.arraylength, 1) := by decide +kernel
theorem dX4_init_37 : decode cX4_init 37 = .ok (.imul, 1) := by decide +kernel
theorem dX4_init_38 : decode cX4_init 38 = .ok (.newarray .int, 2) := by decide +kernel
theorem dX4_init_40 : decode cX4_init 40 = .ok (.putfield 31, 3) := by decide +kernel
theorem dX4_init_43 : decode cX4_init 43 = .ok (.aload_n 0, 1) := by decide +kernel
theorem dX4_init_44 : decode cX4_init 44 = .ok (.invokevirtual 34, 3) := by decide +kernel
theorem dX4_init_47 : decode cX4_init 47 = .ok (.return_, 1) := by decide +kernel
theorem dX4_reset_0 : decode cX4_reset 0 = .ok (.iconst 0, 1) := by decide +kernel
theorem dX4_reset_1 : decode cX4_reset 1 = .ok (.istore_n 1, 1) := by decide +kernel
theorem dX4_reset_2 : decode cX4_reset 2 = .ok (.iload_n 1, 1) := by decide +kernel
theorem dX4_reset_3 : decode cX4_reset 3 = .ok (.aload_n 0, 1) := by decide +kernel
theorem dX4_reset_4 : decode cX4_reset 4 = .ok (.getfield 15, 3) := by decide +kernel
theorem dX4_reset_7 : decode cX4_reset 7 = .ok (.if_icmp .ge 33, 3) := by decide +kernel
theorem dX4_reset_10 : decode cX4_reset 10 = .ok (.aload_n 0, 1) := by decide +kernel
theorem dX4_reset_11 : decode cX4_reset 11 = .ok (.getfield 28, 3) := by decide +kernel
theorem dX4_reset_14 : decode cX4_reset 14 = .ok (.iconst 0, 1) := by decide +kernel
theorem dX4_reset_15 : decode cX4_reset 15 = .ok (.aload_n 0, 1) := by decide +kernel
theorem dX4_reset_16 : decode cX4_reset 16 = .ok (.getfield 31, 3) := by decide +kernel
theorem dX4_reset_19 : decode cX4_reset 19 = .ok (.iload_n 1, 1) := by decide +kernel
theorem dX4_reset_20 : decode cX4_reset 20 = .ok (.aload_n 0, 1) := by decide +kernel
theorem dX4_reset_21 : decode cX4_reset 21 = .ok (.getfield 28, 3) := by decide +kernel
theorem dX4_reset_24 : decode cX4_reset 24 = .ok (.arraylength, 1) := by decide +kernel
theorem dX4_reset_25 : decode cX4_reset 25 = .ok (.imul, 1) := by decide +kernel
theorem dX4_reset_26 : decode cX4_reset 26 = .ok (.aload_n 0, 1) := by decide +kernel
theorem dX4_reset_27 : decode cX4_reset 27 = .ok (.getfield 28, 3) := by decide +kernel
theorem dX4_reset_30 : decode cX4_reset 30 = .ok (.arraylength, 1) := by decide +kernel
theorem dX4_reset_31 : decode cX4_reset 31 = .ok (.invokestatic 37, 3) := by decide +kernel
theorem dX4_reset_34 : decode cX4_reset 34 = .ok (.iinc 1 1, 3) := by decide +kernel
theorem dX4_reset_37 : decode cX4_reset 37 = .ok (.goto (-35), 3) := by decide +kernel
theorem dX4_reset_40 : decode cX4_reset 40 = .ok (.return_, 1) := by decide +kernel
theorem dX4_value_0 : decode cX4_value 0 = .ok (.iload_n 1, 1) := by decide +kernel
theorem dX4_value_1 : decode cX4_value 1 = .ok (.aload_n 0, 1) := by decide +kernel
theorem dX4_value_2 : decode cX4_value 2 = .ok (.getfield 28, 3) := by decide +kernel
theorem dX4_value_5 : decode cX4_value 5 = .ok (.arraylength, 1) := by decide +kernel
theorem dX4_value_6 : decode cX4_value 6 = .ok (.imul, 1) := by decide +kernel
theorem dX4_value_7 : decode cX4_value 7 = .ok (.iload_n 2, 1) := by decide +kernel
theorem dX4_value_8 : decode cX4_value 8 = .ok (.iadd, 1) := by decide +kernel
theorem dX4_value_9 : decode cX4_value 9 = .ok (.istore_n 3, 1) := by decide +kernel
theorem dX4_value_10 : decode cX4_value 10 = .ok (.iload_n 3, 1) := by decide +kernel
theorem dX4_value_11 : decode cX4_value 11 = .ok (.ifCond .lt 21, 3) := by decide +kernel
theorem dX4_value_14 : decode cX4_value 14 = .ok (.iload_n 3, 1) := by decide +kernel
theorem dX4_value_15 : decode cX4_value 15 = .ok (.aload_n 0, 1) := by decide +kernel
theorem dX4_value_16 : decode cX4_value 16 = .ok (.getfield 31, 3) := by decide +kernel
theorem dX4_value_19 : decode cX4_value 19 = .ok (.arraylength, 1) := by decide +kernel
theorem dX4_value_20 : decode cX4_value 20 = .ok (.if_icmp .ge 12, 3) := by decide +kernel
theorem dX4_value_23 : decode cX4_value 23 = .ok (.aload_n 0, 1) := by decide +kernel
theorem dX4_value_24 : decode cX4_value 24 = .ok (.getfield 31, 3) := by decide +kernel
theorem dX4_value_27 : decode cX4_value 27 = .ok (.iload_n 3, 1) := by decide +kernel
theorem dX4_value_28 : decode cX4_value 28 = .ok (.iaload, 1) := by decide +kernel
theorem dX4_value_29 : decode cX4_value 29 = .ok (.goto 4, 3) := by decide +kernel
theorem dX4_value_32 : decode cX4_value 32 = .ok (.iconst 0, 1) := by decide +kernel
theorem dX4_value_33 : decode cX4_value 33 = .ok (.ireturn, 1) := by decide +kernel
theorem dX4_change_0 : decode cX4_change 0 = .ok (.iload_n 1, 1) := by decide +kernel
theorem dX4_change_1 : decode cX4_change 1 = .ok (.iconst 0, 1) := by decide +kernel
theorem dX4_change_2 : decode cX4_change 2 = .ok (.aload_n 0, 1) := by decide +kernel
theorem dX4_change_3 : decode cX4_change 3 = .ok (.getfield 15, 3) := by decide +kernel
theorem dX4_change_6 : decode cX4_change 6 = .ok (.iconst 1, 1) := by decide +kernel
theorem dX4_change_7 : decode cX4_change 7 = .ok (.isub, 1) := by decide +kernel
theorem dX4_change_8 : decode cX4_change 8 = .ok (.invokestatic 43, 3) := by decide +kernel
theorem dX4_change_11 : decode cX4_change 11 = .ok (.ifCond .eq 37, 3) := by decide +kernel
theorem dX4_change_14 : decode cX4_change 14 = .ok (.iload_n 2, 1) := by decide +kernel
theorem dX4_change_15 : decode cX4_change 15 = .ok (.iconst 0, 1) := by decide +kernel
theorem dX4_change_16 : decode cX4_change 16 = .ok (.aload_n 0, 1) := by decide +kernel
theorem dX4_change_17 : decode cX4_change 17 = .ok (.getfield 28, 3) := by decide +kernel
theorem dX4_change_20 : decode cX4_change 20 = .ok (.arraylength, 1) := by decide +kernel
theorem dX4_change_21 : decode cX4_change 21 = .ok (.iconst 1, 1) := by decide +kernel
theorem dX4_change_22 : decode cX4_change 22 = .ok (.isub, 1) := by decide +kernel
theorem dX4_change_23 : decode cX4_change 23 = .ok (.invokestatic 43, 3) := by decide +kernel
theorem dX4_change_26 : decode cX4_change 26 = .ok (.ifCond .eq 22, 3) := by decide +kernel
theorem dX4_change_29 : decode cX4_change 29 = .ok (.iload_n 3, 1) := by decide +kernel
theorem dX4_change_30 : decode cX4_change 30 = .ok (.aload_n 0, 1) := by decide +kernel
theorem dX4_change_31 : decode cX4_change 31 = .ok (.getfield 21, 3) := by decide +kernel
theorem dX4_change_34 : decode cX4_change 34 = .ok (.iload_n 2, 1) := by decide +kernel
theorem dX4_change_35 : decode cX4_change 35 = .ok (.iaload, 1) := by decide +kernel
theorem dX4_change_36 : decode cX4_change 36 = .ok (.aload_n 0, 1) := by decide +kernel
theorem dX4_change_37 : decode cX4_change 37 = .ok (.getfield 25, 3) := by decide +kernel
theorem dX4_change_40 : decode cX4_change 40 = .ok (.iload_n 2, 1) := by decide +kernel
theorem dX4_change_41 : decode cX4_change 41 = .ok (.iaload, 1) := by decide +kernel
theorem dX4_change_42 : decode cX4_change 42 = .ok (.invokestatic 43, 3) := by decide +kernel
theorem dX4_change_45 : decode cX4_change 45 = .ok (.ifCond .ne 6, 3) := by decide +kernel
theorem dX4_change_48 : decode cX4_change 48 = .ok (.bipush (-2), 2) := by decide +kernel
theorem dX4_change_50 : decode cX4_change 50 = .ok (.ireturn, 1) := by decide +kernel
theorem dX4_change_51 : decode cX4_change 51 = .ok (.iload_n 1, 1) := by decide +kernel
theorem dX4_change_52 : decode cX4_change 52 = .ok (.aload_n 0, 1) := by decide +kernel
theorem dX4_change_53 : decode cX4_change 53 = .ok (.getfield 28, 3) := by decide +kernel
theorem dX4_change_56 : decode cX4_change 56 = .ok (.arraylength, 1) := by decide +kernel
theorem dX4_change_57 : decode cX4_change 57 = .ok (.imul, 1) := by decide +kernel
theorem dX4_change_58 : decode cX4_change 58 = .ok (.iload_n 2, 1) := by decide +kernel
theorem dX4_change_59 : decode cX4_change 59 = .ok (.iadd, 1) := by decide +kernel
theorem dX4_change_60 : decode cX4_change 60 = .ok (.istore 4, 2) := by decide +kernel
theorem dX4_change_62 : decode cX4_change 62 = .ok (.aload_n 0, 1) := by decide +kernel
theorem dX4_change_63 : decode cX4_change 63 = .ok (.getfield 31, 3) := by decide +kernel
theorem dX4_change_66 : decode cX4_change 66 = .ok (.iload 4, 2) := by decide +kernel
theorem dX4_change_68 : decode cX4_change 68 = .ok (.iaload, 1) := by decide +kernel
theorem dX4_change_69 : decode cX4_change 69 = .ok (.istore 5, 2) := by decide +kernel
theorem dX4_change_71 : decode cX4_change 71 = .ok (.aload_n 0, 1) := by decide +kernel
theorem dX4_change_72 : decode cX4_change 72 = .ok (.getfield 31, 3) := by decide +kernel
theorem dX4_change_75 : decode cX4_change 75 = .ok (.iload 4, 2) := by decide +kernel
theorem dX4_change_77 : decode cX4_change 77 = .ok (.iload_n 3, 1) := by decide +kernel
theorem dX4_change_78 : decode cX4_change 78 = .ok (.iastore, 1) := by decide +kernel
theorem dX4_change_79 : decode cX4_change 79 = .ok (.iload 5, 2) := by decide +kernel
theorem dX4_change_81 : decode cX4_change 81 = .ok (.ireturn, 1) := by decide +kernel
theorem dX4_copy_0 : decode cX4_copy 0 = .ok (.aload_n 1, 1) := by decide +kernel
theorem dX4_copy_1 : decode cX4_copy 1 = .ok (.getfield 31, 3) := by decide +kernel
theorem dX4_copy_4 : decode cX4_copy 4 = .ok (.aload_n 0, 1) := by decide +kernel
theorem dX4_copy_5 : decode cX4_copy 5 = .ok (.getfield 31, 3) := by decide +kernel
theorem dX4_copy_8 : decode cX4_copy 8 = .ok (.invokestatic 47, 3) := by decide +kernel
theorem dX4_copy_11 : decode cX4_copy 11 = .ok (.return_, 1) := by decide +kernel
theorem dX5_init_0 : decode cX5_init 0 = .ok (.aload_n 0, 1) := by decide +kernel
theorem dX5_init_1 : decode cX5_init 1 = .ok (.invokespecial 3, 3) := by decide +kernel
theorem dX5_init_4 : decode cX5_init 4 = .ok (.aload_n 0, 1) := by decide +kernel
theorem dX5_init_5 : decode cX5_init 5 = .ok (.new 9, 3) := by decide +kernel
theorem dX5_init_8 : decode cX5_init 8 = .ok (.dup, 1) := by decide +kernel
theorem dX5_init_9 : decode cX5_init 9 = .ok (.iconst 1, 1) := by decide +kernel
theorem dX5_init_10 : decode cX5_init 10 = .ok (.getstatic 11, 3) := by decide +kernel
theorem dX5_init_13 : decode cX5_init 13 = .ok (.getstatic 15, 3) := by decide +kernel
theorem dX5_init_16 : decode cX5_init 16 = .ok (.getstatic 18, 3) := by decide +kernel
theorem dX5_init_19 : decode cX5_init 19 = .ok (.invokespecial 21, 3) := by decide +kernel
theorem dX5_init_22 : decode cX5_init 22 = .ok (.putfield 24, 3) := by decide +kernel
theorem dX5_init_25 : decode cX5_init 25 = .ok (.aload_n 0, 1) := by decide +kernel
theorem dX5_init_26 : decode cX5_init 26 = .ok (.new 30, 3) := by decide +kernel
theorem dX5_init_29 : decode cX5_init 29 = .ok (.dup, 1) := by decide +kernel
theorem dX5_init_30 : decode cX5_init 30 = .ok (.invokespecial 32, 3) := by decide +kernel
theorem dX5_init_33 : decode cX5_init 33 = .ok (.putfield 33, 3) := by decide +kernel
theorem dX5_init_36 : decode cX5_init 36 = .ok (.aload_n 0, 1) := by decide +kernel
theorem dX5_init_37 : decode cX5_init 37 = .ok (.new 37, 3) := by decide +kernel
theorem dX5_init_40 : decode cX5_init 40 = .ok (.dup, 1) := by decide +kernel
theorem dX5_init_41 : decode cX5_init 41 = .ok (.invokespecial 39, 3) := by decide +kernel
theorem dX5_init_44 : decode cX5_init 44 = .ok (.putfield 40, 3) := by decide +kernel
theorem dX5_init_47 : decode cX5_init 47 = .ok (.aload_n 0, 1) := by decide +kernel
theorem dX5_init_48 : decode cX5_init 48 = .ok (.new 44, 3) := by decide +kernel
theorem dX5_init_51 : decode cX5_init 51 = .ok (.dup, 1) := by decide +kernel
theorem dX5_init_52 : decode cX5_init 52 = .ok (.invokespecial 46, 3) := by decide +kernel
theorem dX5_init_55 : decode cX5_init 55 = .ok (.putfield 47, 3) := by decide +kernel
theorem dX5_init_58 : decode cX5_init 58 = .ok (.aload_n 0, 1) := by decide +kernel
theorem dX5_init_59 : decode cX5_init 59 = .ok (.new 51, 3) := by decide +kernel
theorem dX5_init_62 : decode cX5_init 62 = .ok (.dup, 1) := by decide +kernel
theorem dX5_init_63 : decode cX5_init 63 = .ok (.invokespecial 53, 3) := by decide +kernel
theorem dX5_init_66 : decode cX5_init 66 = .ok (.putfield 54, 3) := by decide +kernel
theorem dX5_init_69 : decode cX5_init 69 = .ok (.aload_n 0, 1) := by decide +kernel
theorem dX5_init_70 : decode cX5_init 70 = .ok (.iconst 0, 1) := by decide +kernel
theorem dX5_init_71 : decode cX5_init 71 = .ok (.putfield 58, 3) := by decide +kernel
theorem dX5_init_74 : decode cX5_init 74 = .ok (.aload_n 0, 1) := by decide +kernel
theorem dX5_init_75 : decode cX5_init 75 = .ok (.iconst 0, 1) := by decide +kernel
theorem dX5_init_76 : decode cX5_init 76 = .ok (.putfield 62, 3) := by decide +kernel
theorem dX5_init_79 : decode cX5_init 79 = .ok (.return_, 1) := by decide +kernel
theorem dX5_begin_0 : decode cX5_begin 0 = .ok (.aload_n 0, 1) := by decide +kernel
theorem dX5_begin_1 : decode cX5_begin 1 = .ok (.getfield 24, 3) := by decide +kernel
theorem dX5_begin_4 : decode cX5_begin 4 = .ok (.invokevirtual 65, 3) := by decide +kernel
theorem dX5_begin_7 : decode cX5_begin 7 = .ok (.aload_n 0, 1) := by decide +kernel
theorem dX5_begin_8 : decode cX5_begin 8 = .ok (.getfield 33, 3) := by decide +kernel
theorem dX5_begin_11 : decode cX5_begin 11 = .ok (.iload_n 1, 1) := by decide +kernel
theorem dX5_begin_12 : decode cX5_begin 12 = .ok (.invokevirtual 68, 3) := by decide +kernel
theorem dX5_begin_15 : decode cX5_begin 15 = .ok (.aload_n 0, 1) := by decide +kernel
theorem dX5_begin_16 : decode cX5_begin 16 = .ok (.getfield 40, 3) := by decide +kernel
theorem dX5_begin_19 : decode cX5_begin 19 = .ok (.getfield 72, 3) := by decide +kernel
theorem dX5_begin_22 : decode cX5_begin 22 = .ok (.invokevirtual 65, 3) := by decide +kernel
theorem dX5_begin_25 : decode cX5_begin 25 = .ok (.aload_n 0, 1) := by decide +kernel
theorem dX5_begin_26 : decode cX5_begin 26 = .ok (.getfield 47, 3) := by decide +kernel
theorem dX5_begin_29 : decode cX5_begin 29 = .ok (.iconst 0, 1) := by decide +kernel
theorem dX5_begin_30 : decode cX5_begin 30 = .ok (.putfield 73, 3) := by decide +kernel
theorem dX5_begin_33 : decode cX5_begin 33 = .ok (.aload_n 0, 1) := by decide +kernel
theorem dX5_begin_34 : decode cX5_begin 34 = .ok (.getfield 54, 3) := by decide +kernel
theorem dX5_begin_37 : decode cX5_begin 37 = .ok (.iconst 0, 1) := by decide +kernel
theorem dX5_begin_38 : decode cX5_begin 38 = .ok (.putfield 76, 3) := by decide +kernel
theorem dX5_begin_41 : decode cX5_begin 41 = .ok (.aload_n 0, 1) := by decide +kernel
theorem dX5_begin_42 : decode cX5_begin 42 = .ok (.invokevirtual 79, 3) := by decide +kernel
theorem dX5_begin_45 : decode cX5_begin 45 = .ok (.return_, 1) := by decide +kernel
theorem dX5_goBack_0 : decode cX5_goBack 0 = .ok (.aload_n 0, 1) := by decide +kernel
theorem dX5_goBack_1 : decode cX5_goBack 1 = .ok (.getfield 33, 3) := by decide +kernel
theorem dX5_goBack_4 : decode cX5_goBack 4 = .ok (.invokevirtual 82, 3) := by decide +kernel
theorem dX5_goBack_7 : decode cX5_goBack 7 = .ok (.aload_n 0, 1) := by decide +kernel
theorem dX5_goBack_8 : decode cX5_goBack 8 = .ok (.getfield 40, 3) := by decide +kernel
theorem dX5_goBack_11 : decode cX5_goBack 11 = .ok (.invokevirtual 83, 3) := by decide +kernel
theorem dX5_goBack_14 : decode cX5_goBack 14 = .ok (.aload_n 0, 1) := by decide +kernel
theorem dX5_goBack_15 : decode cX5_goBack 15 = .ok (.getfield 47, 3) := by decide +kernel
theorem dX5_goBack_18 : decode cX5_goBack 18 = .ok (.invokevirtual 84, 3) := by decide +kernel
theorem dX5_goBack_21 : decode cX5_goBack 21 = .ok (.aload_n 0, 1) := by decide +kernel
theorem dX5_goBack_22 : decode cX5_goBack 22 = .ok (.iconst 0, 1) := by decide +kernel
theorem dX5_goBack_23 : decode cX5_goBack 23 = .ok (.putfield 58, 3) := by decide +kernel
theorem dX5_goBack_26 : decode cX5_goBack 26 = .ok (.aload_n 0, 1) := by decide +kernel
theorem dX5_goBack_27 : decode cX5_goBack 27 = .ok (.iconst 0, 1) := by decide +kernel
theorem dX5_goBack_28 : decode cX5_goBack 28 = .ok (.putfield 62, 3) := by decide +kernel
theorem dX5_goBack_31 : decode cX5_goBack 31 = .ok (.return_, 1) := by decide +kernel
theorem dX5_copy_0 : decode cX5_copy 0 = .ok (.aload_n 0, 1) := by decide +kernel
theorem dX5_copy_1 : decode cX5_copy 1 = .ok (.getfield 24, 3) := by decide +kernel
theorem dX5_copy_4 : decode cX5_copy 4 = .ok (.aload_n 1, 1) := by decide +kernel
theorem dX5_copy_5 : decode cX5_copy 5 = .ok (.getfield 24, 3) := by decide +kernel
theorem dX5_copy_8 : decode cX5_copy 8 = .ok (.invokevirtual 85, 3) := by decide +kernel
theorem dX5_copy_11 : decode cX5_copy 11 = .ok (.aload_n 0, 1) := by decide +kernel
theorem dX5_copy_12 : decode cX5_copy 12 = .ok (.getfield 33, 3) := by decide +kernel
theorem dX5_copy_15 : decode cX5_copy 15 = .ok (.aload_n 1, 1) := by decide +kernel
theorem dX5_copy_16 : decode cX5_copy 16 = .ok (.getfield 33, 3) := by decide +kernel
theorem dX5_copy_19 : decode cX5_copy 19 = .ok (.invokevirtual 89, 3) := by decide +kernel
theorem dX5_copy_22 : decode cX5_copy 22 = .ok (.aload_n 0, 1) := by decide +kernel
theorem dX5_copy_23 : decode cX5_copy 23 = .ok (.getfield 40, 3) := by decide +kernel
theorem dX5_copy_26 : decode cX5_copy 26 = .ok (.aload_n 1, 1) := by decide +kernel
theorem dX5_copy_27 : decode cX5_copy 27 = .ok (.getfield 40, 3) := by decide +kernel
theorem dX5_copy_30 : decode cX5_copy 30 = .ok (.invokevirtual 92, 3) := by decide +kernel
theorem dX5_copy_33 : decode cX5_copy 33 = .ok (.aload_n 0, 1) := by decide +kernel
theorem dX5_copy_34 : decode cX5_copy 34 = .ok (.getfield 47, 3) := by decide +kernel
theorem dX5_copy_37 : decode cX5_copy 37 = .ok (.aload_n 1, 1) := by decide +kernel
theorem dX5_copy_38 : decode cX5_copy 38 = .ok (.getfield 47, 3) := by decide +kernel
theorem dX5_copy_41 : decode cX5_copy 41 = .ok (.invokevirtual 95, 3) := by decide +kernel
theorem dX5_copy_44 : decode cX5_copy 44 = .ok (.aload_n 0, 1) := by decide +kernel
theorem dX5_copy_45 : decode cX5_copy 45 = .ok (.getfield 54, 3) := by decide +kernel
theorem dX5_copy_48 : decode cX5_copy 48 = .ok (.aload_n 1, 1) := by decide +kernel
theorem dX5_copy_49 : decode cX5_copy 49 = .ok (.getfield 54, 3) := by decide +kernel
theorem dX5_copy_52 : decode cX5_copy 52 = .ok (.invokevirtual 98, 3) := by decide +kernel
theorem dX5_copy_55 : decode cX5_copy 55 = .ok (.aload_n 0, 1) := by decide +kernel
theorem dX5_copy_56 : decode cX5_copy 56 = .ok (.aload_n 1, 1) := by decide +kernel
theorem dX5_copy_57 : decode cX5_copy 57 = .ok (.getfield 58, 3) := by decide +kernel
theorem dX5_copy_60 : decode cX5_copy 60 = .ok (.putfield 58, 3) := by decide +kernel
theorem dX5_copy_63 : decode cX5_copy 63 = .ok (.aload_n 0, 1) := by decide +kernel
theorem dX5_copy_64 : decode cX5_copy 64 = .ok (.aload_n 1, 1) := by decide +kernel
theorem dX5_copy_65 : decode cX5_copy 65 = .ok (.getfield 62, 3) := by decide +kernel
theorem dX5_copy_68 : decode cX5_copy 68 = .ok (.putfield 62, 3) := by decide +kernel
theorem dX5_copy_71 : decode cX5_copy 71 = .ok (.return_, 1) := by decide +kernel
theorem dX5_makeTick_0 : decode cX5_makeTick 0 = .ok (.aload_n 0, 1) := by decide +kernel
theorem dX5_makeTick_1 : decode cX5_makeTick 1 = .ok (.getfield 54, 3) := by decide +kernel
theorem dX5_makeTick_4 : decode cX5_makeTick 4 = .ok (.aload_n 0, 1) := by decide +kernel
theorem dX5_makeTick_5 : decode cX5_makeTick 5 = .ok (.getfield 58, 3) := by decide +kernel
theorem dX5_makeTick_8 : decode cX5_makeTick 8 = .ok (.aload_n 0, 1) := by decide +kernel
theorem dX5_makeTick_9 : decode cX5_makeTick 9 = .ok (.getfield 33, 3) := by decide +kernel
theorem dX5_makeTick_12 : decode cX5_makeTick 12 = .ok (.invokevirtual 101, 3) := by decide +kernel
theorem dX5_makeTick_15 : decode cX5_makeTick 15 = .ok (.aload_n 0, 1) := by decide +kernel
theorem dX5_makeTick_16 : decode cX5_makeTick 16 = .ok (.getfield 33, 3) := by decide +kernel
theorem dX5_makeTick_19 : decode cX5_makeTick 19 = .ok (.aload_n 0, 1) := by decide +kernel
theorem dX5_makeTick_20 : decode cX5_makeTick 20 = .ok (.getfield 58, 3) := by decide +kernel
theorem dX5_makeTick_23 : decode cX5_makeTick 23 = .ok (.invokevirtual 105, 3) := by decide +kernel
theorem dX5_makeTick_26 : decode cX5_makeTick 26 = .ok (.aload_n 0, 1) := by decide +kernel
theorem dX5_makeTick_27 : decode cX5_makeTick 27 = .ok (.getfield 47, 3) := by decide +kernel
theorem dX5_makeTick_30 : decode cX5_makeTick 30 = .ok (.aload_n 0, 1) := by decide +kernel
theorem dX5_makeTick_31 : decode cX5_makeTick 31 = .ok (.getfield 24, 3) := by decide +kernel
theorem dX5_makeTick_34 : decode cX5_makeTick 34 = .ok (.invokevirtual 108, 3) := by decide +kernel
theorem dX5_makeTick_37 : decode cX5_makeTick 37 = .ok (.aload_n 0, 1) := by decide +kernel
theorem dX5_makeTick_38 : decode cX5_makeTick 38 = .ok (.getfield 33, 3) := by decide +kernel
theorem dX5_makeTick_41 : decode cX5_makeTick 41 = .ok (.aload_n 0, 1) := by decide +kernel
theorem dX5_makeTick_42 : decode cX5_makeTick 42 = .ok (.getfield 58, 3) := by decide +kernel
theorem dX5_makeTick_45 : decode cX5_makeTick 45 = .ok (.aload_n 0, 1) := by decide +kernel
theorem dX5_makeTick_46 : decode cX5_makeTick 46 = .ok (.getfield 47, 3) := by decide +kernel
theorem dX5_makeTick_49 : decode cX5_makeTick 49 = .ok (.getfield 111, 3) := by decide +kernel
theorem dX5_makeTick_52 : decode cX5_makeTick 52 = .ok (.aload_n 0, 1) := by decide +kernel
theorem dX5_makeTick_53 : decode cX5_makeTick 53 = .ok (.getfield 24, 3) := by decide +kernel
theorem dX5_makeTick_56 : decode cX5_makeTick 56 = .ok (.iconst 0, 1) := by decide +kernel
theorem dX5_makeTick_57 : decode cX5_makeTick 57 = .ok (.iconst 3, 1) := by decide +kernel
theorem dX5_makeTick_58 : decode cX5_makeTick 58 = .ok (.invokevirtual 114, 3) := by decide +kernel
theorem dX5_makeTick_61 : decode cX5_makeTick 61 = .ok (.invokevirtual 118, 3) := by decide +kernel
theorem dX5_makeTick_64 : decode cX5_makeTick 64 = .ok (.aload_n 0, 1) := by decide +kernel
theorem dX5_makeTick_65 : decode cX5_makeTick 65 = .ok (.getfield 40, 3) := by decide +kernel
theorem dX5_makeTick_68 : decode cX5_makeTick 68 = .ok (.aload_n 0, 1) := by decide +kernel
theorem dX5_makeTick_69 : decode cX5_makeTick 69 = .ok (.getfield 33, 3) := by decide +kernel
theorem dX5_makeTick_72 : decode cX5_makeTick 72 = .ok (.invokevirtual 122, 3) := by decide +kernel
theorem dX5_makeTick_75 : decode cX5_makeTick 75 = .ok (.aload_n 0, 1) := by decide +kernel
theorem dX5_makeTick_76 : decode cX5_makeTick 76 = .ok (.getfield 33, 3) := by decide +kernel
theorem dX5_makeTick_79 : decode cX5_makeTick 79 = .ok (.aload_n 0, 1) := by decide +kernel
theorem dX5_makeTick_80 : decode cX5_makeTick 80 = .ok (.getfield 47, 3) := by decide +kernel
theorem dX5_makeTick_83 : decode cX5_makeTick 83 = .ok (.invokevirtual 125, 3) := by decide +kernel
theorem dX5_makeTick_86 : decode cX5_makeTick 86 = .ok (.invokevirtual 129, 3) := by decide +kernel
theorem dX5_makeTick_89 : decode cX5_makeTick 89 = .ok (.aload_n 0, 1) := by decide +kernel
theorem dX5_makeTick_90 : decode cX5_makeTick 90 = .ok (.getfield 40, 3) := by decide +kernel
theorem dX5_makeTick_93 : decode cX5_makeTick 93 = .ok (.invokevirtual 132, 3) := by decide +kernel
theorem dX5_makeTick_96 : decode cX5_makeTick 96 = .ok (.aload_n 0, 1) := by decide +kernel
theorem dX5_makeTick_97 : decode cX5_makeTick 97 = .ok (.getfield 33, 3) := by decide +kernel
theorem dX5_makeTick_100 : decode cX5_makeTick 100 = .ok (.aload_n 0, 1) := by decide +kernel
theorem dX5_makeTick_101 : decode cX5_makeTick 101 = .ok (.getfield 24, 3) := by decide +kernel
theorem dX5_makeTick_104 : decode cX5_makeTick 104 = .ok (.iconst 0, 1) := by decide +kernel
theorem dX5_makeTick_105 : decode cX5_makeTick 105 = .ok (.iconst 5, 1) := by decide +kernel
theorem dX5_makeTick_106 : decode cX5_makeTick 106 = .ok (.invokevirtual 114, 3) := by decide +kernel
theorem dX5_makeTick_109 : decode cX5_makeTick 109 = .ok (.invokevirtual 135, 3) := by decide +kernel
theorem dX5_makeTick_112 : decode cX5_makeTick 112 = .ok (.ifCond .eq 13, 3) := by decide +kernel
theorem dX5_makeTick_115 : decode cX5_makeTick 115 = .ok (.aload_n 0, 1) := by decide +kernel
theorem dX5_makeTick_116 : decode cX5_makeTick 116 = .ok (.dup, 1) := by decide +kernel
theorem dX5_makeTick_117 : decode cX5_makeTick 117 = .ok (.getfield 62, 3) := by decide +kernel
theorem dX5_makeTick_120 : decode cX5_makeTick 120 = .ok (.iconst 1, 1) := by decide +kernel
theorem dX5_makeTick_121 : decode cX5_makeTick 121 = .ok (.iadd, 1) := by decide +kernel
theorem dX5_makeTick_122 : decode cX5_makeTick 122 = .ok (.putfield 62, 3) := by decide +kernel
theorem dX5_makeTick_125 : decode cX5_makeTick 125 = .ok (.aload_n 0, 1) := by decide +kernel
theorem dX5_makeTick_126 : decode cX5_makeTick 126 = .ok (.dup, 1) := by decide +kernel
theorem dX5_makeTick_127 : decode cX5_makeTick 127 = .ok (.getfield 58, 3) := by decide +kernel
theorem dX5_makeTick_130 : decode cX5_makeTick 130 = .ok (.iconst 1, 1) := by decide +kernel
theorem dX5_makeTick_131 : decode cX5_makeTick 131 = .ok (.iadd, 1) := by decide +kernel
theorem dX5_makeTick_132 : decode cX5_makeTick 132 = .ok (.putfield 58, 3) := by decide +kernel
theorem dX5_makeTick_135 : decode cX5_makeTick 135 = .ok (.return_, 1) := by decide +kernel
theorem dX6_init_0 : decode cX6_init 0 = .ok (.aload_n 0, 1) := by decide +kernel
theorem dX6_init_1 : decode cX6_init 1 = .ok (.invokespecial 1, 3) := by decide +kernel
theorem dX6_init_4 : decode cX6_init 4 = .ok (.aload_n 0, 1) := by decide +kernel
theorem dX6_init_5 : decode cX6_init 5 = .ok (.new 7, 3) := by decide +kernel
theorem dX6_init_8 : decode cX6_init 8 = .ok (.dup, 1) := by decide +kernel
theorem dX6_init_9 : decode cX6_init 9 = .ok (.invokespecial 9, 3) := by decide +kernel
theorem dX6_init_12 : decode cX6_init 12 = .ok (.putfield 10, 3) := by decide +kernel
theorem dX6_init_15 : decode cX6_init 15 = .ok (.aload_n 0, 1) := by decide +kernel
theorem dX6_init_16 : decode cX6_init 16 = .ok (.iconst 0, 1) := by decide +kernel
theorem dX6_init_17 : decode cX6_init 17 = .ok (.putfield 16, 3) := by decide +kernel
theorem dX6_init_20 : decode cX6_init 20 = .ok (.return_, 1) := by decide +kernel
theorem dX7_init_0 : decode cX7_init 0 = .ok (.aload_n 0, 1) := by decide +kernel
theorem dX7_init_1 : decode cX7_init 1 = .ok (.invokespecial 3, 3) := by decide +kernel
theorem dX7_init_4 : decode cX7_init 4 = .ok (.aload_n 0, 1) := by decide +kernel
theorem dX7_init_5 : decode cX7_init 5 = .ok (.iconst 0, 1) := by decide +kernel
theorem dX7_init_6 : decode cX7_init 6 = .ok (.putfield 9, 3) := by decide +kernel
theorem dX7_init_9 : decode cX7_init 9 = .ok (.aload_n 0, 1) := by decide +kernel
theorem dX7_init_10 : decode cX7_init 10 = .ok (.iconst 0, 1) := by decide +kernel
theorem dX7_init_11 : decode cX7_init 11 = .ok (.putfield 15, 3) := by decide +kernel
theorem dX7_init_14 : decode cX7_init 14 = .ok (.aload_n 0, 1) := by decide +kernel
theorem dX7_init_15 : decode cX7_init 15 = .ok (.iconst 0, 1) := by decide +kernel
theorem dX7_init_16 : decode cX7_init 16 = .ok (.putfield 18, 3) := by decide +kernel
theorem dX7_init_19 : decode cX7_init 19 = .ok (.aload_n 0, 1) := by decide +kernel
theorem dX7_init_20 : decode cX7_init 20 = .ok (.iconst 0, 1) := by decide +kernel
theorem dX7_init_21 : decode cX7_init 21 = .ok (.putfield 21, 3) := by decide +kernel
theorem dX7_init_24 : decode cX7_init 24 = .ok (.return_, 1) := by decide +kernel
theorem dX7_measured_0 : decode cX7_measured 0 = .ok (.aload_n 0, 1) := by decide +kernel
theorem dX7_measured_1 : decode cX7_measured 1 = .ok (.getfield 15, 3) := by decide +kernel
theorem dX7_measured_4 : decode cX7_measured 4 = .ok (.sipush 1024, 3) := by decide +kernel
theorem dX7_measured_7 : decode cX7_measured 7 = .ok (.idiv, 1) := by decide +kernel
theorem dX7_measured_8 : decode cX7_measured 8 = .ok (.ireturn, 1) := by decide +kernel
theorem dX7_goBack_0 : decode cX7_goBack 0 = .ok (.aload_n 0, 1) := by decide +kernel
theorem dX7_goBack_1 : decode cX7_goBack 1 = .ok (.iconst 0, 1) := by decide +kernel
theorem dX7_goBack_2 : decode cX7_goBack 2 = .ok (.putfield 15, 3) := by decide +kernel
theorem dX7_goBack_5 : decode cX7_goBack 5 = .ok (.aload_n 0, 1) := by decide +kernel
theorem dX7_goBack_6 : decode cX7_goBack 6 = .ok (.iconst 0, 1) := by decide +kernel
theorem dX7_goBack_7 : decode cX7_goBack 7 = .ok (.putfield 18, 3) := by decide +kernel
theorem dX7_goBack_10 : decode cX7_goBack 10 = .ok (.aload_n 0, 1) := by decide +kernel
theorem dX7_goBack_11 : decode cX7_goBack 11 = .ok (.iconst 0, 1) := by decide +kernel
theorem dX7_goBack_12 : decode cX7_goBack 12 = .ok (.putfield 21, 3) := by decide +kernel
theorem dX7_goBack_15 : decode cX7_goBack 15 = .ok (.return_, 1) := by decide +kernel
theorem dX7_copy_0 : decode cX7_copy 0 = .ok (.aload_n 0, 1) := by decide +kernel
theorem dX7_copy_1 : decode cX7_copy 1 = .ok (.aload_n 1, 1) := by decide +kernel
theorem dX7_copy_2 : decode cX7_copy 2 = .ok (.getfield 9, 3) := by decide +kernel
theorem dX7_copy_5 : decode cX7_copy 5 = .ok (.putfield 9, 3) := by decide +kernel
theorem dX7_copy_8 : decode cX7_copy 8 = .ok (.aload_n 0, 1) := by decide +kernel
theorem dX7_copy_9 : decode cX7_copy 9 = .ok (.aload_n 1, 1) := by decide +kernel
theorem dX7_copy_10 : decode cX7_copy 10 = .ok (.getfield 15, 3) := by decide +kernel
theorem dX7_copy_13 : decode cX7_copy 13 = .ok (.putfield 15, 3) := by decide +kernel
theorem dX7_copy_16 : decode cX7_copy 16 = .ok (.aload_n 0, 1) := by decide +kernel
theorem dX7_copy_17 : decode cX7_copy 17 = .ok (.aload_n 1, 1) := by decide +kernel
theorem dX7_copy_18 : decode cX7_copy 18 = .ok (.getfield 18, 3) := by decide +kernel
theorem dX7_copy_21 : decode cX7_copy 21 = .ok (.putfield 18, 3) := by decide +kernel
theorem dX7_copy_24 : decode cX7_copy 24 = .ok (.aload_n 0, 1) := by decide +kernel
theorem dX7_copy_25 : decode cX7_copy 25 = .ok (.aload_n 1, 1) := by decide +kernel
theorem dX7_copy_26 : decode cX7_copy 26 = .ok (.getfield 21, 3) := by decide +kernel
theorem dX7_copy_29 : decode cX7_copy 29 = .ok (.putfield 21, 3) := by decide +kernel
theorem dX7_copy_32 : decode cX7_copy 32 = .ok (.return_, 1) := by decide +kernel
theorem dX7_blow_0 : decode cX7_blow 0 = .ok (.aload_n 0, 1) := by decide +kernel
theorem dX7_blow_1 : decode cX7_blow 1 = .ok (.dup, 1) := by decide +kernel
theorem dX7_blow_2 : decode cX7_blow 2 = .ok (.getfield 15, 3) := by decide +kernel
theorem dX7_blow_5 : decode cX7_blow 5 = .ok (.sipush 1024, 3) := by decide +kernel
theorem dX7_blow_8 : decode cX7_blow 8 = .ok (.aload_n 0, 1) := by decide +kernel
theorem dX7_blow_9 : decode cX7_blow 9 = .ok (.getfield 9, 3) := by decide +kernel
theorem dX7_blow_12 : decode cX7_blow 12 = .ok (.imul, 1) := by decide +kernel
theorem dX7_blow_13 : decode cX7_blow 13 = .ok (.aload_n 0, 1) := by decide +kernel
theorem dX7_blow_14 : decode cX7_blow 14 = .ok (.getfield 15, 3) := by decide +kernel
theorem dX7_blow_17 : decode cX7_blow 17 = .ok (.isub, 1) := by decide +kernel
theorem dX7_blow_18 : decode cX7_blow 18 = .ok (.i2l, 1) := by decide +kernel
theorem dX7_blow_19 : decode cX7_blow 19 = .ok (.aload_n 1, 1) := by decide +kernel
theorem dX7_blow_20 : decode cX7_blow 20 = .ok (.iconst 0, 1) := by decide +kernel
theorem dX7_blow_21 : decode cX7_blow 21 = .ok (.iconst 0, 1) := by decide +kernel
theorem dX7_blow_22 : decode cX7_blow 22 = .ok (.invokevirtual 24, 3) := by decide +kernel
theorem dX7_blow_25 : decode cX7_blow 25 = .ok (.i2l, 1) := by decide +kernel
theorem dX7_blow_26 : decode cX7_blow 26 = .ok (.invokestatic 30, 3) := by decide +kernel
theorem dX7_blow_29 : decode cX7_blow 29 = .ok (.l2i, 1) := by decide +kernel
theorem dX7_blow_30 : decode cX7_blow 30 = .ok (.iadd, 1) := by decide +kernel
theorem dX7_blow_31 : decode cX7_blow 31 = .ok (.putfield 15, 3) := by decide +kernel
theorem dX7_blow_34 : decode cX7_blow 34 = .ok (.aload_n 1, 1) := by decide +kernel
theorem dX7_blow_35 : decode cX7_blow 35 = .ok (.iconst 0, 1) := by decide +kernel
theorem dX7_blow_36 : decode cX7_blow 36 = .ok (.iconst 1, 1) := by decide +kernel
theorem dX7_blow_37 : decode cX7_blow 37 = .ok (.invokevirtual 24, 3) := by decide +kernel
theorem dX7_blow_40 : decode cX7_blow 40 = .ok (.istore_n 2, 1) := by decide +kernel
theorem dX7_blow_41 : decode cX7_blow 41 = .ok (.aload_n 1, 1) := by decide +kernel
theorem dX7_blow_42 : decode cX7_blow 42 = .ok (.iconst 0, 1) := by decide +kernel
theorem dX7_blow_43 : decode cX7_blow 43 = .ok (.iconst 2, 1) := by decide +kernel
theorem dX7_blow_44 : decode cX7_blow 44 = .ok (.invokevirtual 24, 3) := by decide +kernel
theorem dX7_blow_47 : decode cX7_blow 47 = .ok (.istore_n 3, 1) := by decide +kernel
theorem dX7_blow_48 : decode cX7_blow 48 = .ok (.aload_n 0, 1) := by decide +kernel
theorem dX7_blow_49 : decode cX7_blow 49 = .ok (.invokevirtual 34, 3) := by decide +kernel
theorem dX7_blow_52 : decode cX7_blow 52 = .ok (.iload_n 3, 1) := by decide +kernel
theorem dX7_blow_53 : decode cX7_blow 53 = .ok (.if_icmp .lt 11, 3) := by decide +kernel
theorem dX7_blow_56 : decode cX7_blow 56 = .ok (.aload_n 0, 1) := by decide +kernel
theorem dX7_blow_57 : decode cX7_blow 57 = .ok (.iconst 2, 1) := by decide +kernel
theorem dX7_blow_58 : decode cX7_blow 58 = .ok (.invokevirtual 38, 3) := by decide +kernel
theorem dX7_blow_61 : decode cX7_blow 61 = .ok (.goto 74, 3) := by decide +kernel
theorem dX7_blow_64 : decode cX7_blow 64 = .ok (.aload_n 0, 1) := by decide +kernel
theorem dX7_blow_65 : decode cX7_blow 65 = .ok (.invokevirtual 34, 3) := by decide +kernel
theorem dX7_blow_68 : decode cX7_blow 68 = .ok (.iload_n 2, 1) := by decide +kernel
theorem dX7_blow_69 : decode cX7_blow 69 = .ok (.if_icmp .lt 18, 3) := by decide +kernel
theorem dX7_blow_72 : decode cX7_blow 72 = .ok (.aload_n 0, 1) := by decide +kernel
theorem dX7_blow_73 : decode cX7_blow 73 = .ok (.getfield 18, 3) := by decide +kernel
theorem dX7_blow_76 : decode cX7_blow 76 = .ok (.ifCond .ne 11, 3) := by decide +kernel
theorem dX7_blow_79 : decode cX7_blow 79 = .ok (.aload_n 0, 1) := by decide +kernel
theorem dX7_blow_80 : decode cX7_blow 80 = .ok (.iconst 1, 1) := by decide +kernel
theorem dX7_blow_81 : decode cX7_blow 81 = .ok (.invokevirtual 38, 3) := by decide +kernel
theorem dX7_blow_84 : decode cX7_blow 84 = .ok (.goto 51, 3) := by decide +kernel
theorem dX7_blow_87 : decode cX7_blow 87 = .ok (.aload_n 0, 1) := by decide +kernel
theorem dX7_blow_88 : decode cX7_blow 88 = .ok (.getfield 18, 3) := by decide +kernel
theorem dX7_blow_91 : decode cX7_blow 91 = .ok (.ifCond .le 39, 3) := by decide +kernel
theorem dX7_blow_94 : decode cX7_blow 94 = .ok (.aload_n 0, 1) := by decide +kernel
theorem dX7_blow_95 : decode cX7_blow 95 = .ok (.invokevirtual 34, 3) := by decide +kernel
theorem dX7_blow_98 : decode cX7_blow 98 = .ok (.aload_n 0, 1) := by decide +kernel
theorem dX7_blow_99 : decode cX7_blow 99 = .ok (.getfield 18, 3) := by decide +kernel
theorem dX7_blow_102 : decode cX7_blow 102 = .ok (.iconst 2, 1) := by decide +kernel
end
section
theorem dX7_blow_103 : decode cX7_blow 103 = .ok (.if_icmp .ne 7, 3) := by decide +kernel
theorem dX7_blow_106 : decode cX7_blow 106 = .ok (.iload_n 3, 1) := by decide +kernel
theorem dX7_blow_107 : decode cX7_blow 107 = .ok (.goto 4, 3) := by decide +kernel
theorem dX7_blow_110 : decode cX7_blow 110 = .ok (.iload_n 2, 1) := by decide +kernel
theorem dX7_blow_111 : decode cX7_blow 111 = .ok (.bipush 10, 2) := by decide +kernel
theorem dX7_blow_113 : decode cX7_blow 113 = .ok (.isub, 1) := by decide +kernel
theorem dX7_blow_114 : decode cX7_blow 114 = .ok (.if_icmp .ge 16, 3) := by decide +kernel
theorem dX7_blow_117 : decode cX7_blow 117 = .ok (.aload_n 0, 1) := by decide +kernel
theorem dX7_blow_118 : decode cX7_blow 118 = .ok (.aload_n 1, 1) := by decide +kernel
theorem dX7_blow_119 : decode cX7_blow 119 = .ok (.iconst 0, 1) := by decide +kernel
theorem dX7_blow_120 : decode cX7_blow 120 = .ok (.iconst 4, 1) := by decide +kernel
theorem dX7_blow_121 : decode cX7_blow 121 = .ok (.invokevirtual 24, 3) := by decide +kernel
theorem dX7_blow_124 : decode cX7_blow 124 = .ok (.invokevirtual 42, 3) := by decide +kernel
theorem dX7_blow_127 : decode cX7_blow 127 = .ok (.goto 8, 3) := by decide +kernel
theorem dX7_blow_130 : decode cX7_blow 130 = .ok (.aload_n 0, 1) := by decide +kernel
theorem dX7_blow_131 : decode cX7_blow 131 = .ok (.iconst 0, 1) := by decide +kernel
theorem dX7_blow_132 : decode cX7_blow 132 = .ok (.putfield 21, 3) := by decide +kernel
theorem dX7_blow_135 : decode cX7_blow 135 = .ok (.return_, 1) := by decide +kernel
theorem dX7_enter_0 : decode cX7_enter 0 = .ok (.aload_n 0, 1) := by decide +kernel
theorem dX7_enter_1 : decode cX7_enter 1 = .ok (.iload_n 1, 1) := by decide +kernel
theorem dX7_enter_2 : decode cX7_enter 2 = .ok (.putfield 18, 3) := by decide +kernel
theorem dX7_enter_5 : decode cX7_enter 5 = .ok (.aload_n 0, 1) := by decide +kernel
theorem dX7_enter_6 : decode cX7_enter 6 = .ok (.iconst 0, 1) := by decide +kernel
theorem dX7_enter_7 : decode cX7_enter 7 = .ok (.putfield 21, 3) := by decide +kernel
theorem dX7_enter_10 : decode cX7_enter 10 = .ok (.return_, 1) := by decide +kernel
theorem dX7_calmDown_0 : decode cX7_calmDown 0 = .ok (.aload_n 0, 1) := by decide +kernel
theorem dX7_calmDown_1 : decode cX7_calmDown 1 = .ok (.dup, 1) := by decide +kernel
theorem dX7_calmDown_2 : decode cX7_calmDown 2 = .ok (.getfield 21, 3) := by decide +kernel
theorem dX7_calmDown_5 : decode cX7_calmDown 5 = .ok (.iconst 1, 1) := by decide +kernel
theorem dX7_calmDown_6 : decode cX7_calmDown 6 = .ok (.iadd, 1) := by decide +kernel
theorem dX7_calmDown_7 : decode cX7_calmDown 7 = .ok (.putfield 21, 3) := by decide +kernel
theorem dX7_calmDown_10 : decode cX7_calmDown 10 = .ok (.aload_n 0, 1) := by decide +kernel
theorem dX7_calmDown_11 : decode cX7_calmDown 11 = .ok (.getfield 21, 3) := by decide +kernel
theorem dX7_calmDown_14 : decode cX7_calmDown 14 = .ok (.iload_n 1, 1) := by decide +kernel
theorem dX7_calmDown_15 : decode cX7_calmDown 15 = .ok (.if_icmp .lt 13, 3) := by decide +kernel
theorem dX7_calmDown_18 : decode cX7_calmDown 18 = .ok (.aload_n 0, 1) := by decide +kernel
theorem dX7_calmDown_19 : decode cX7_calmDown 19 = .ok (.aload_n 0, 1) := by decide +kernel
theorem dX7_calmDown_20 : decode cX7_calmDown 20 = .ok (.getfield 18, 3) := by decide +kernel
theorem dX7_calmDown_23 : decode cX7_calmDown 23 = .ok (.iconst 1, 1) := by decide +kernel
theorem dX7_calmDown_24 : decode cX7_calmDown 24 = .ok (.isub, 1) := by decide +kernel
theorem dX7_calmDown_25 : decode cX7_calmDown 25 = .ok (.invokevirtual 38, 3) := by decide +kernel
theorem dX7_calmDown_28 : decode cX7_calmDown 28 = .ok (.return_, 1) := by decide +kernel
theorem dX8_init_0 : decode cX8_init 0 = .ok (.aload_n 0, 1) := by decide +kernel
theorem dX8_init_1 : decode cX8_init 1 = .ok (.invokespecial 1, 3) := by decide +kernel
theorem dX8_init_4 : decode cX8_init 4 = .ok (.aload_n 0, 1) := by decide +kernel
theorem dX8_init_5 : decode cX8_init 5 = .ok (.new 7, 3) := by decide +kernel
theorem dX8_init_8 : decode cX8_init 8 = .ok (.dup, 1) := by decide +kernel
theorem dX8_init_9 : decode cX8_init 9 = .ok (.invokespecial 9, 3) := by decide +kernel
theorem dX8_init_12 : decode cX8_init 12 = .ok (.putfield 10, 3) := by decide +kernel
theorem dX8_init_15 : decode cX8_init 15 = .ok (.aload_n 0, 1) := by decide +kernel
theorem dX8_init_16 : decode cX8_init 16 = .ok (.new 7, 3) := by decide +kernel
theorem dX8_init_19 : decode cX8_init 19 = .ok (.dup, 1) := by decide +kernel
theorem dX8_init_20 : decode cX8_init 20 = .ok (.invokespecial 9, 3) := by decide +kernel
theorem dX8_init_23 : decode cX8_init 23 = .ok (.putfield 16, 3) := by decide +kernel
theorem dX8_init_26 : decode cX8_init 26 = .ok (.aload_n 0, 1) := by decide +kernel
theorem dX8_init_27 : decode cX8_init 27 = .ok (.new 19, 3) := by decide +kernel
theorem dX8_init_30 : decode cX8_init 30 = .ok (.dup, 1) := by decide +kernel
theorem dX8_init_31 : decode cX8_init 31 = .ok (.invokespecial 21, 3) := by decide +kernel
theorem dX8_init_34 : decode cX8_init 34 = .ok (.putfield 22, 3) := by decide +kernel
theorem dX8_init_37 : decode cX8_init 37 = .ok (.aload_n 0, 1) := by decide +kernel
theorem dX8_init_38 : decode cX8_init 38 = .ok (.new 19, 3) := by decide +kernel
theorem dX8_init_41 : decode cX8_init 41 = .ok (.dup, 1) := by decide +kernel
theorem dX8_init_42 : decode cX8_init 42 = .ok (.invokespecial 21, 3) := by decide +kernel
theorem dX8_init_45 : decode cX8_init 45 = .ok (.putfield 26, 3) := by decide +kernel
theorem dX8_init_48 : decode cX8_init 48 = .ok (.aload_n 0, 1) := by decide +kernel
theorem dX8_init_49 : decode cX8_init 49 = .ok (.new 29, 3) := by decide +kernel
theorem dX8_init_52 : decode cX8_init 52 = .ok (.dup, 1) := by decide +kernel
theorem dX8_init_53 : decode cX8_init 53 = .ok (.invokespecial 31, 3) := by decide +kernel
theorem dX8_init_56 : decode cX8_init 56 = .ok (.putfield 32, 3) := by decide +kernel
theorem dX8_init_59 : decode cX8_init 59 = .ok (.return_, 1) := by decide +kernel
theorem dX8_setUp_0 : decode cX8_setUp 0 = .ok (.iload_n 1, 1) := by decide +kernel
theorem dX8_setUp_1 : decode cX8_setUp 1 = .ok (.iconst 1, 1) := by decide +kernel
theorem dX8_setUp_2 : decode cX8_setUp 2 = .ok (.bipush 12, 2) := by decide +kernel
theorem dX8_setUp_4 : decode cX8_setUp 4 = .ok (.invokestatic 36, 3) := by decide +kernel
theorem dX8_setUp_7 : decode cX8_setUp 7 = .ok (.ifCond .ne 6, 3) := by decide +kernel
theorem dX8_setUp_10 : decode cX8_setUp 10 = .ok (.bipush (-2), 2) := by decide +kernel
theorem dX8_setUp_12 : decode cX8_setUp 12 = .ok (.ireturn, 1) := by decide +kernel
theorem dX8_setUp_13 : decode cX8_setUp 13 = .ok (.aload_n 0, 1) := by decide +kernel
theorem dX8_setUp_14 : decode cX8_setUp 14 = .ok (.getfield 10, 3) := by decide +kernel
theorem dX8_setUp_17 : decode cX8_setUp 17 = .ok (.getfield 40, 3) := by decide +kernel
theorem dX8_setUp_20 : decode cX8_setUp 20 = .ok (.getfield 44, 3) := by decide +kernel
theorem dX8_setUp_23 : decode cX8_setUp 23 = .ok (.istore_n 2, 1) := by decide +kernel
theorem dX8_setUp_24 : decode cX8_setUp 24 = .ok (.aload_n 0, 1) := by decide +kernel
theorem dX8_setUp_25 : decode cX8_setUp 25 = .ok (.getfield 10, 3) := by decide +kernel
theorem dX8_setUp_28 : decode cX8_setUp 28 = .ok (.iload_n 1, 1) := by decide +kernel
theorem dX8_setUp_29 : decode cX8_setUp 29 = .ok (.invokevirtual 50, 3) := by decide +kernel
theorem dX8_setUp_32 : decode cX8_setUp 32 = .ok (.iload_n 2, 1) := by decide +kernel
theorem dX8_setUp_33 : decode cX8_setUp 33 = .ok (.ireturn, 1) := by decide +kernel
theorem dX8_nozzle_0 : decode cX8_nozzle 0 = .ok (.aload_n 0, 1) := by decide +kernel
theorem dX8_nozzle_1 : decode cX8_nozzle 1 = .ok (.getfield 10, 3) := by decide +kernel
theorem dX8_nozzle_4 : decode cX8_nozzle 4 = .ok (.getfield 40, 3) := by decide +kernel
theorem dX8_nozzle_7 : decode cX8_nozzle 7 = .ok (.iload_n 1, 1) := by decide +kernel
theorem dX8_nozzle_8 : decode cX8_nozzle 8 = .ok (.invokevirtual 54, 3) := by decide +kernel
theorem dX8_nozzle_11 : decode cX8_nozzle 11 = .ok (.ifCond .ne 5, 3) := by decide +kernel
theorem dX8_nozzle_14 : decode cX8_nozzle 14 = .ok (.iconst (-1), 1) := by decide +kernel
theorem dX8_nozzle_15 : decode cX8_nozzle 15 = .ok (.ireturn, 1) := by decide +kernel
theorem dX8_nozzle_16 : decode cX8_nozzle 16 = .ok (.aload_n 0, 1) := by decide +kernel
theorem dX8_nozzle_17 : decode cX8_nozzle 17 = .ok (.getfield 10, 3) := by decide +kernel
theorem dX8_nozzle_20 : decode cX8_nozzle 20 = .ok (.getfield 40, 3) := by decide +kernel
theorem dX8_nozzle_23 : decode cX8_nozzle 23 = .ok (.getfield 58, 3) := by decide +kernel
theorem dX8_nozzle_26 : decode cX8_nozzle 26 = .ok (.iload_n 1, 1) := by decide +kernel
theorem dX8_nozzle_27 : decode cX8_nozzle 27 = .ok (.iload_n 2, 1) := by decide +kernel
theorem dX8_nozzle_28 : decode cX8_nozzle 28 = .ok (.iload_n 3, 1) := by decide +kernel
theorem dX8_nozzle_29 : decode cX8_nozzle 29 = .ok (.invokevirtual 62, 3) := by decide +kernel
theorem dX8_nozzle_32 : decode cX8_nozzle 32 = .ok (.ireturn, 1) := by decide +kernel
theorem dX8_pump_0 : decode cX8_pump 0 = .ok (.iload_n 1, 1) := by decide +kernel
theorem dX8_pump_1 : decode cX8_pump 1 = .ok (.iconst 0, 1) := by decide +kernel
theorem dX8_pump_2 : decode cX8_pump 2 = .ok (.iconst 2, 1) := by decide +kernel
theorem dX8_pump_3 : decode cX8_pump 3 = .ok (.invokestatic 36, 3) := by decide +kernel
theorem dX8_pump_6 : decode cX8_pump 6 = .ok (.ifCond .ne 5, 3) := by decide +kernel
theorem dX8_pump_9 : decode cX8_pump 9 = .ok (.iconst (-1), 1) := by decide +kernel
theorem dX8_pump_10 : decode cX8_pump 10 = .ok (.ireturn, 1) := by decide +kernel
theorem dX8_pump_11 : decode cX8_pump 11 = .ok (.aload_n 0, 1) := by decide +kernel
theorem dX8_pump_12 : decode cX8_pump 12 = .ok (.getfield 10, 3) := by decide +kernel
theorem dX8_pump_15 : decode cX8_pump 15 = .ok (.getfield 68, 3) := by decide +kernel
theorem dX8_pump_18 : decode cX8_pump 18 = .ok (.getfield 72, 3) := by decide +kernel
theorem dX8_pump_21 : decode cX8_pump 21 = .ok (.iload_n 1, 1) := by decide +kernel
theorem dX8_pump_22 : decode cX8_pump 22 = .ok (.iload_n 2, 1) := by decide +kernel
theorem dX8_pump_23 : decode cX8_pump 23 = .ok (.iload_n 3, 1) := by decide +kernel
theorem dX8_pump_24 : decode cX8_pump 24 = .ok (.invokevirtual 62, 3) := by decide +kernel
theorem dX8_pump_27 : decode cX8_pump 27 = .ok (.ireturn, 1) := by decide +kernel
theorem dX8_set_0 : decode cX8_set 0 = .ok (.aload_n 0, 1) := by decide +kernel
theorem dX8_set_1 : decode cX8_set 1 = .ok (.getfield 10, 3) := by decide +kernel
theorem dX8_set_4 : decode cX8_set 4 = .ok (.getfield 75, 3) := by decide +kernel
theorem dX8_set_7 : decode cX8_set 7 = .ok (.iconst 0, 1) := by decide +kernel
theorem dX8_set_8 : decode cX8_set 8 = .ok (.iload_n 1, 1) := by decide +kernel
theorem dX8_set_9 : decode cX8_set 9 = .ok (.iload_n 2, 1) := by decide +kernel
theorem dX8_set_10 : decode cX8_set 10 = .ok (.invokevirtual 62, 3) := by decide +kernel
theorem dX8_set_13 : decode cX8_set 13 = .ok (.ireturn, 1) := by decide +kernel
theorem dX8_wind_0 : decode cX8_wind 0 = .ok (.iload_n 1, 1) := by decide +kernel
theorem dX8_wind_1 : decode cX8_wind 1 = .ok (.iconst 0, 1) := by decide +kernel
theorem dX8_wind_2 : decode cX8_wind 2 = .ok (.sipush 300, 3) := by decide +kernel
theorem dX8_wind_5 : decode cX8_wind 5 = .ok (.invokestatic 36, 3) := by decide +kernel
theorem dX8_wind_8 : decode cX8_wind 8 = .ok (.ifCond .ne 6, 3) := by decide +kernel
theorem dX8_wind_11 : decode cX8_wind 11 = .ok (.bipush (-2), 2) := by decide +kernel
theorem dX8_wind_13 : decode cX8_wind 13 = .ok (.ireturn, 1) := by decide +kernel
theorem dX8_wind_14 : decode cX8_wind 14 = .ok (.aload_n 0, 1) := by decide +kernel
theorem dX8_wind_15 : decode cX8_wind 15 = .ok (.getfield 10, 3) := by decide +kernel
theorem dX8_wind_18 : decode cX8_wind 18 = .ok (.getfield 76, 3) := by decide +kernel
theorem dX8_wind_21 : decode cX8_wind 21 = .ok (.getfield 80, 3) := by decide +kernel
theorem dX8_wind_24 : decode cX8_wind 24 = .ok (.istore_n 2, 1) := by decide +kernel
theorem dX8_wind_25 : decode cX8_wind 25 = .ok (.aload_n 0, 1) := by decide +kernel
theorem dX8_wind_26 : decode cX8_wind 26 = .ok (.getfield 10, 3) := by decide +kernel
theorem dX8_wind_29 : decode cX8_wind 29 = .ok (.getfield 76, 3) := by decide +kernel
theorem dX8_wind_32 : decode cX8_wind 32 = .ok (.iload_n 1, 1) := by decide +kernel
theorem dX8_wind_33 : decode cX8_wind 33 = .ok (.putfield 80, 3) := by decide +kernel
theorem dX8_wind_36 : decode cX8_wind 36 = .ok (.iload_n 2, 1) := by decide +kernel
theorem dX8_wind_37 : decode cX8_wind 37 = .ok (.ireturn, 1) := by decide +kernel
theorem dX8_cue_0 : decode cX8_cue 0 = .ok (.iload_n 1, 1) := by decide +kernel
theorem dX8_cue_1 : decode cX8_cue 1 = .ok (.iconst 0, 1) := by decide +kernel
theorem dX8_cue_2 : decode cX8_cue 2 = .ok (.ldc 85, 2) := by decide +kernel
theorem dX8_cue_4 : decode cX8_cue 4 = .ok (.invokestatic 36, 3) := by decide +kernel
theorem dX8_cue_7 : decode cX8_cue 7 = .ok (.ifCond .eq 25, 3) := by decide +kernel
theorem dX8_cue_10 : decode cX8_cue 10 = .ok (.iload_n 2, 1) := by decide +kernel
theorem dX8_cue_11 : decode cX8_cue 11 = .ok (.iconst 1, 1) := by decide +kernel
theorem dX8_cue_12 : decode cX8_cue 12 = .ok (.sipush 4095, 3) := by decide +kernel
theorem dX8_cue_15 : decode cX8_cue 15 = .ok (.invokestatic 36, 3) := by decide +kernel
theorem dX8_cue_18 : decode cX8_cue 18 = .ok (.ifCond .eq 14, 3) := by decide +kernel
theorem dX8_cue_21 : decode cX8_cue 21 = .ok (.iload_n 3, 1) := by decide +kernel
theorem dX8_cue_22 : decode cX8_cue 22 = .ok (.iconst 0, 1) := by decide +kernel
theorem dX8_cue_23 : decode cX8_cue 23 = .ok (.sipush 1000, 3) := by decide +kernel
theorem dX8_cue_26 : decode cX8_cue 26 = .ok (.invokestatic 36, 3) := by decide +kernel
theorem dX8_cue_29 : decode cX8_cue 29 = .ok (.ifCond .ne 6, 3) := by decide +kernel
theorem dX8_cue_32 : decode cX8_cue 32 = .ok (.bipush (-2), 2) := by decide +kernel
theorem dX8_cue_34 : decode cX8_cue 34 = .ok (.ireturn, 1) := by decide +kernel
theorem dX8_cue_35 : decode cX8_cue 35 = .ok (.aload_n 0, 1) := by decide +kernel
theorem dX8_cue_36 : decode cX8_cue 36 = .ok (.getfield 10, 3) := by decide +kernel
theorem dX8_cue_39 : decode cX8_cue 39 = .ok (.getfield 86, 3) := by decide +kernel
theorem dX8_cue_42 : decode cX8_cue 42 = .ok (.iload_n 1, 1) := by decide +kernel
theorem dX8_cue_43 : decode cX8_cue 43 = .ok (.iload_n 2, 1) := by decide +kernel
theorem dX8_cue_44 : decode cX8_cue 44 = .ok (.iload_n 3, 1) := by decide +kernel
theorem dX8_cue_45 : decode cX8_cue 45 = .ok (.invokevirtual 90, 3) := by decide +kernel
theorem dX8_cue_48 : decode cX8_cue 48 = .ok (.ireturn, 1) := by decide +kernel
theorem dX8_remove_0 : decode cX8_remove 0 = .ok (.aload_n 0, 1) := by decide +kernel
theorem dX8_remove_1 : decode cX8_remove 1 = .ok (.getfield 10, 3) := by decide +kernel
theorem dX8_remove_4 : decode cX8_remove 4 = .ok (.getfield 86, 3) := by decide +kernel
theorem dX8_remove_7 : decode cX8_remove 7 = .ok (.iload_n 1, 1) := by decide +kernel
theorem dX8_remove_8 : decode cX8_remove 8 = .ok (.invokevirtual 95, 3) := by decide +kernel
theorem dX8_remove_11 : decode cX8_remove 11 = .ok (.ifCond .ne 5, 3) := by decide +kernel
theorem dX8_remove_14 : decode cX8_remove 14 = .ok (.iconst (-1), 1) := by decide +kernel
theorem dX8_remove_15 : decode cX8_remove 15 = .ok (.ireturn, 1) := by decide +kernel
theorem dX8_remove_16 : decode cX8_remove 16 = .ok (.aload_n 0, 1) := by decide +kernel
theorem dX8_remove_17 : decode cX8_remove 17 = .ok (.getfield 10, 3) := by decide +kernel
theorem dX8_remove_20 : decode cX8_remove 20 = .ok (.getfield 86, 3) := by decide +kernel
theorem dX8_remove_23 : decode cX8_remove 23 = .ok (.iload_n 1, 1) := by decide +kernel
theorem dX8_remove_24 : decode cX8_remove 24 = .ok (.invokevirtual 96, 3) := by decide +kernel
theorem dX8_remove_27 : decode cX8_remove 27 = .ok (.aload_n 0, 1) := by decide +kernel
theorem dX8_remove_28 : decode cX8_remove 28 = .ok (.getfield 10, 3) := by decide +kernel
theorem dX8_remove_31 : decode cX8_remove 31 = .ok (.getfield 86, 3) := by decide +kernel
theorem dX8_remove_34 : decode cX8_remove 34 = .ok (.getfield 99, 3) := by decide +kernel
theorem dX8_remove_37 : decode cX8_remove 37 = .ok (.ireturn, 1) := by decide +kernel
theorem dX8_move_0 : decode cX8_move 0 = .ok (.aload_n 0, 1) := by decide +kernel
theorem dX8_move_1 : decode cX8_move 1 = .ok (.getfield 10, 3) := by decide +kernel
theorem dX8_move_4 : decode cX8_move 4 = .ok (.getfield 86, 3) := by decide +kernel
theorem dX8_move_7 : decode cX8_move 7 = .ok (.iload_n 1, 1) := by decide +kernel
theorem dX8_move_8 : decode cX8_move 8 = .ok (.invokevirtual 95, 3) := by decide +kernel
theorem dX8_move_11 : decode cX8_move 11 = .ok (.ifCond .ne 5, 3) := by decide +kernel
theorem dX8_move_14 : decode cX8_move 14 = .ok (.iconst (-1), 1) := by decide +kernel
theorem dX8_move_15 : decode cX8_move 15 = .ok (.ireturn, 1) := by decide +kernel
theorem dX8_move_16 : decode cX8_move 16 = .ok (.iload_n 2, 1) := by decide +kernel
theorem dX8_move_17 : decode cX8_move 17 = .ok (.ldc 100, 2) := by decide +kernel
theorem dX8_move_19 : decode cX8_move 19 = .ok (.ldc 85, 2) := by decide +kernel
theorem dX8_move_21 : decode cX8_move 21 = .ok (.invokestatic 36, 3) := by decide +kernel
theorem dX8_move_24 : decode cX8_move 24 = .ok (.ifCond .eq 26, 3) := by decide +kernel
theorem dX8_move_27 : decode cX8_move 27 = .ok (.aload_n 0, 1) := by decide +kernel
theorem dX8_move_28 : decode cX8_move 28 = .ok (.getfield 10, 3) := by decide +kernel
theorem dX8_move_31 : decode cX8_move 31 = .ok (.getfield 86, 3) := by decide +kernel
theorem dX8_move_34 : decode cX8_move 34 = .ok (.getfield 101, 3) := by decide +kernel
theorem dX8_move_37 : decode cX8_move 37 = .ok (.iload_n 1, 1) := by decide +kernel
theorem dX8_move_38 : decode cX8_move 38 = .ok (.iaload, 1) := by decide +kernel
theorem dX8_move_39 : decode cX8_move 39 = .ok (.iload_n 2, 1) := by decide +kernel
theorem dX8_move_40 : decode cX8_move 40 = .ok (.iadd, 1) := by decide +kernel
theorem dX8_move_41 : decode cX8_move 41 = .ok (.iconst 0, 1) := by decide +kernel
theorem dX8_move_42 : decode cX8_move 42 = .ok (.ldc 85, 2) := by decide +kernel
theorem dX8_move_44 : decode cX8_move 44 = .ok (.invokestatic 36, 3) := by decide +kernel
theorem dX8_move_47 : decode cX8_move 47 = .ok (.ifCond .ne 6, 3) := by decide +kernel
theorem dX8_move_50 : decode cX8_move 50 = .ok (.bipush (-2), 2) := by decide +kernel
theorem dX8_move_52 : decode cX8_move 52 = .ok (.ireturn, 1) := by decide +kernel
theorem dX8_move_53 : decode cX8_move 53 = .ok (.aload_n 0, 1) := by decide +kernel
theorem dX8_move_54 : decode cX8_move 54 = .ok (.getfield 10, 3) := by decide +kernel
theorem dX8_move_57 : decode cX8_move 57 = .ok (.getfield 86, 3) := by decide +kernel
theorem dX8_move_60 : decode cX8_move 60 = .ok (.iload_n 1, 1) := by decide +kernel
theorem dX8_move_61 : decode cX8_move 61 = .ok (.iload_n 2, 1) := by decide +kernel
theorem dX8_move_62 : decode cX8_move 62 = .ok (.invokevirtual 105, 3) := by decide +kernel
theorem dX8_move_65 : decode cX8_move 65 = .ok (.ireturn, 1) := by decide +kernel
theorem dX8_part_0 : decode cX8_part 0 = .ok (.aload_n 0, 1) := by decide +kernel
theorem dX8_part_1 : decode cX8_part 1 = .ok (.getfield 10, 3) := by decide +kernel
theorem dX8_part_4 : decode cX8_part 4 = .ok (.getfield 86, 3) := by decide +kernel
theorem dX8_part_7 : decode cX8_part 7 = .ok (.iload_n 1, 1) := by decide +kernel
theorem dX8_part_8 : decode cX8_part 8 = .ok (.invokevirtual 95, 3) := by decide +kernel
theorem dX8_part_11 : decode cX8_part 11 = .ok (.ifCond .ne 5, 3) := by decide +kernel
theorem dX8_part_14 : decode cX8_part 14 = .ok (.iconst (-1), 1) := by decide +kernel
theorem dX8_part_15 : decode cX8_part 15 = .ok (.ireturn, 1) := by decide +kernel
theorem dX8_part_16 : decode cX8_part 16 = .ok (.iload_n 2, 1) := by decide +kernel
theorem dX8_part_17 : decode cX8_part 17 = .ok (.tableswitch 66 0 2 #[27, 40, 53], 27) := by decide +kernel
theorem dX8_part_44 : decode cX8_part 44 = .ok (.aload_n 0, 1) := by decide +kernel
theorem dX8_part_45 : decode cX8_part 45 = .ok (.getfield 10, 3) := by decide +kernel
theorem dX8_part_48 : decode cX8_part 48 = .ok (.getfield 86, 3) := by decide +kernel
theorem dX8_part_51 : decode cX8_part 51 = .ok (.getfield 101, 3) := by decide +kernel
theorem dX8_part_54 : decode cX8_part 54 = .ok (.iload_n 1, 1) := by decide +kernel
theorem dX8_part_55 : decode cX8_part 55 = .ok (.iaload, 1) := by decide +kernel
theorem dX8_part_56 : decode cX8_part 56 = .ok (.ireturn, 1) := by decide +kernel
theorem dX8_part_57 : decode cX8_part 57 = .ok (.aload_n 0, 1) := by decide +kernel
theorem dX8_part_58 : decode cX8_part 58 = .ok (.getfield 10, 3) := by decide +kernel
theorem dX8_part_61 : decode cX8_part 61 = .ok (.getfield 86, 3) := by decide +kernel
theorem dX8_part_64 : decode cX8_part 64 = .ok (.getfield 109, 3) := by decide +kernel
theorem dX8_part_67 : decode cX8_part 67 = .ok (.iload_n 1, 1) := by decide +kernel
theorem dX8_part_68 : decode cX8_part 68 = .ok (.iaload, 1) := by decide +kernel
theorem dX8_part_69 : decode cX8_part 69 = .ok (.ireturn, 1) := by decide +kernel
theorem dX8_part_70 : decode cX8_part 70 = .ok (.aload_n 0, 1) := by decide +kernel
theorem dX8_part_71 : decode cX8_part 71 = .ok (.getfield 10, 3) := by decide +kernel
theorem dX8_part_74 : decode cX8_part 74 = .ok (.getfield 86, 3) := by decide +kernel
theorem dX8_part_77 : decode cX8_part 77 = .ok (.getfield 112, 3) := by decide +kernel
theorem dX8_part_80 : decode cX8_part 80 = .ok (.iload_n 1, 1) := by decide +kernel
theorem dX8_part_81 : decode cX8_part 81 = .ok (.iaload, 1) := by decide +kernel
theorem dX8_part_82 : decode cX8_part 82 = .ok (.ireturn, 1) := by decide +kernel
theorem dX8_part_83 : decode cX8_part 83 = .ok (.bipush (-2), 2) := by decide +kernel
theorem dX8_part_85 : decode cX8_part 85 = .ok (.ireturn, 1) := by decide +kernel
theorem dX8_command_0 : decode cX8_command 0 = .ok (.iload_n 1, 1) := by decide +kernel
theorem dX8_command_1 : decode cX8_command 1 = .ok (.iconst 1, 1) := by decide +kernel
theorem dX8_command_2 : decode cX8_command 2 = .ok (.sipush 4095, 3) := by decide +kernel
theorem dX8_command_5 : decode cX8_command 5 = .ok (.invokestatic 36, 3) := by decide +kernel
theorem dX8_command_8 : decode cX8_command 8 = .ok (.ifCond .eq 14, 3) := by decide +kernel
theorem dX8_command_11 : decode cX8_command 11 = .ok (.iload_n 2, 1) := by decide +kernel
theorem dX8_command_12 : decode cX8_command 12 = .ok (.iconst 0, 1) := by decide +kernel
theorem dX8_command_13 : decode cX8_command 13 = .ok (.sipush 1000, 3) := by decide +kernel
theorem dX8_command_16 : decode cX8_command 16 = .ok (.invokestatic 36, 3) := by decide +kernel
theorem dX8_command_19 : decode cX8_command 19 = .ok (.ifCond .ne 6, 3) := by decide +kernel
theorem dX8_command_22 : decode cX8_command 22 = .ok (.bipush (-2), 2) := by decide +kernel
theorem dX8_command_24 : decode cX8_command 24 = .ok (.ireturn, 1) := by decide +kernel
theorem dX8_command_25 : decode cX8_command 25 = .ok (.aload_n 0, 1) := by decide +kernel
theorem dX8_command_26 : decode cX8_command 26 = .ok (.getfield 10, 3) := by decide +kernel
theorem dX8_command_29 : decode cX8_command 29 = .ok (.getfield 40, 3) := by decide +kernel
theorem dX8_command_32 : decode cX8_command 32 = .ok (.iload_n 1, 1) := by decide +kernel
theorem dX8_command_33 : decode cX8_command 33 = .ok (.iload_n 2, 1) := by decide +kernel
theorem dX8_command_34 : decode cX8_command 34 = .ok (.invokevirtual 115, 3) := by decide +kernel
theorem dX8_command_37 : decode cX8_command 37 = .ok (.aload_n 0, 1) := by decide +kernel
theorem dX8_command_38 : decode cX8_command 38 = .ok (.getfield 10, 3) := by decide +kernel
theorem dX8_command_41 : decode cX8_command 41 = .ok (.getfield 119, 3) := by decide +kernel
theorem dX8_command_44 : decode cX8_command 44 = .ok (.ireturn, 1) := by decide +kernel
theorem dX8_tick_0 : decode cX8_tick 0 = .ok (.iload_n 1, 1) := by decide +kernel
theorem dX8_tick_1 : decode cX8_tick 1 = .ok (.iconst 1, 1) := by decide +kernel
theorem dX8_tick_2 : decode cX8_tick 2 = .ok (.sipush 2000, 3) := by decide +kernel
theorem dX8_tick_5 : decode cX8_tick 5 = .ok (.invokestatic 36, 3) := by decide +kernel
theorem dX8_tick_8 : decode cX8_tick 8 = .ok (.ifCond .ne 6, 3) := by decide +kernel
theorem dX8_tick_11 : decode cX8_tick 11 = .ok (.bipush (-2), 2) := by decide +kernel
theorem dX8_tick_13 : decode cX8_tick 13 = .ok (.ireturn, 1) := by decide +kernel
theorem dX8_tick_14 : decode cX8_tick 14 = .ok (.aload_n 0, 1) := by decide +kernel
theorem dX8_tick_15 : decode cX8_tick 15 = .ok (.getfield 10, 3) := by decide +kernel
theorem dX8_tick_18 : decode cX8_tick 18 = .ok (.getfield 119, 3) := by decide +kernel
theorem dX8_tick_21 : decode cX8_tick 21 = .ok (.iload_n 1, 1) := by decide +kernel
theorem dX8_tick_22 : decode cX8_tick 22 = .ok (.iadd, 1) := by decide +kernel
theorem dX8_tick_23 : decode cX8_tick 23 = .ok (.ldc 122, 2) := by decide +kernel
theorem dX8_tick_25 : decode cX8_tick 25 = .ok (.if_icmp .le 6, 3) := by decide +kernel
theorem dX8_tick_28 : decode cX8_tick 28 = .ok (.bipush (-5), 2) := by decide +kernel
theorem dX8_tick_30 : decode cX8_tick 30 = .ok (.ireturn, 1) := by decide +kernel
theorem dX8_tick_31 : decode cX8_tick 31 = .ok (.iconst 0, 1) := by decide +kernel
theorem dX8_tick_32 : decode cX8_tick 32 = .ok (.istore_n 2, 1) := by decide +kernel
theorem dX8_tick_33 : decode cX8_tick 33 = .ok (.iload_n 2, 1) := by decide +kernel
theorem dX8_tick_34 : decode cX8_tick 34 = .ok (.iload_n 1, 1) := by decide +kernel
theorem dX8_tick_35 : decode cX8_tick 35 = .ok (.if_icmp .ge 16, 3) := by decide +kernel
theorem dX8_tick_38 : decode cX8_tick 38 = .ok (.aload_n 0, 1) := by decide +kernel
theorem dX8_tick_39 : decode cX8_tick 39 = .ok (.getfield 10, 3) := by decide +kernel
theorem dX8_tick_42 : decode cX8_tick 42 = .ok (.invokevirtual 123, 3) := by decide +kernel
theorem dX8_tick_45 : decode cX8_tick 45 = .ok (.iinc 2 1, 3) := by decide +kernel
theorem dX8_tick_48 : decode cX8_tick 48 = .ok (.goto (-15), 3) := by decide +kernel
theorem dX8_tick_51 : decode cX8_tick 51 = .ok (.aload_n 0, 1) := by decide +kernel
theorem dX8_tick_52 : decode cX8_tick 52 = .ok (.getfield 10, 3) := by decide +kernel
theorem dX8_tick_55 : decode cX8_tick 55 = .ok (.getfield 119, 3) := by decide +kernel
theorem dX8_tick_58 : decode cX8_tick 58 = .ok (.ireturn, 1) := by decide +kernel
theorem dX8_rewind_0 : decode cX8_rewind 0 = .ok (.aload_n 0, 1) := by decide +kernel
theorem dX8_rewind_1 : decode cX8_rewind 1 = .ok (.getfield 10, 3) := by decide +kernel
theorem dX8_rewind_4 : decode cX8_rewind 4 = .ok (.getfield 119, 3) := by decide +kernel
theorem dX8_rewind_7 : decode cX8_rewind 7 = .ok (.istore_n 1, 1) := by decide +kernel
theorem dX8_rewind_8 : decode cX8_rewind 8 = .ok (.aload_n 0, 1) := by decide +kernel
theorem dX8_rewind_9 : decode cX8_rewind 9 = .ok (.getfield 10, 3) := by decide +kernel
theorem dX8_rewind_12 : decode cX8_rewind 12 = .ok (.invokevirtual 126, 3) := by decide +kernel
theorem dX8_rewind_15 : decode cX8_rewind 15 = .ok (.iload_n 1, 1) := by decide +kernel
theorem dX8_rewind_16 : decode cX8_rewind 16 = .ok (.ireturn, 1) := by decide +kernel
theorem dX8_spray_0 : decode cX8_spray 0 = .ok (.aload_n 0, 1) := by decide +kernel
theorem dX8_spray_1 : decode cX8_spray 1 = .ok (.getfield 10, 3) := by decide +kernel
theorem dX8_spray_4 : decode cX8_spray 4 = .ok (.getfield 40, 3) := by decide +kernel
theorem dX8_spray_7 : decode cX8_spray 7 = .ok (.iload_n 1, 1) := by decide +kernel
theorem dX8_spray_8 : decode cX8_spray 8 = .ok (.invokevirtual 54, 3) := by decide +kernel
theorem dX8_spray_11 : decode cX8_spray 11 = .ok (.ifCond .ne 5, 3) := by decide +kernel
theorem dX8_spray_14 : decode cX8_spray 14 = .ok (.iconst (-1), 1) := by decide +kernel
theorem dX8_spray_15 : decode cX8_spray 15 = .ok (.ireturn, 1) := by decide +kernel
theorem dX8_spray_16 : decode cX8_spray 16 = .ok (.iload_n 2, 1) := by decide +kernel
theorem dX8_spray_17 : decode cX8_spray 17 = .ok (.tableswitch 117 6 11 #[39, 52, 65, 78, 91, 104], 39) := by decide +kernel
theorem dX8_spray_56 : decode cX8_spray 56 = .ok (.aload_n 0, 1) := by decide +kernel
theorem dX8_spray_57 : decode cX8_spray 57 = .ok (.getfield 10, 3) := by decide +kernel
theorem dX8_spray_60 : decode cX8_spray 60 = .ok (.getfield 40, 3) := by decide +kernel
theorem dX8_spray_63 : decode cX8_spray 63 = .ok (.getfield 129, 3) := by decide +kernel
theorem dX8_spray_66 : decode cX8_spray 66 = .ok (.iload_n 1, 1) := by decide +kernel
theorem dX8_spray_67 : decode cX8_spray 67 = .ok (.iaload, 1) := by decide +kernel
theorem dX8_spray_68 : decode cX8_spray 68 = .ok (.ireturn, 1) := by decide +kernel
theorem dX8_spray_69 : decode cX8_spray 69 = .ok (.aload_n 0, 1) := by decide +kernel
theorem dX8_spray_70 : decode cX8_spray 70 = .ok (.getfield 10, 3) := by decide +kernel
theorem dX8_spray_73 : decode cX8_spray 73 = .ok (.getfield 40, 3) := by decide +kernel
theorem dX8_spray_76 : decode cX8_spray 76 = .ok (.getfield 132, 3) := by decide +kernel
theorem dX8_spray_79 : decode cX8_spray 79 = .ok (.iload_n 1, 1) := by decide +kernel
theorem dX8_spray_80 : decode cX8_spray 80 = .ok (.iaload, 1) := by decide +kernel
theorem dX8_spray_81 : decode cX8_spray 81 = .ok (.ireturn, 1) := by decide +kernel
theorem dX8_spray_82 : decode cX8_spray 82 = .ok (.aload_n 0, 1) := by decide +kernel
theorem dX8_spray_83 : decode cX8_spray 83 = .ok (.getfield 10, 3) := by decide +kernel
theorem dX8_spray_86 : decode cX8_spray 86 = .ok (.getfield 40, 3) := by decide +kernel
theorem dX8_spray_89 : decode cX8_spray 89 = .ok (.getfield 135, 3) := by decide +kernel
theorem dX8_spray_92 : decode cX8_spray 92 = .ok (.iload_n 1, 1) := by decide +kernel
theorem dX8_spray_93 : decode cX8_spray 93 = .ok (.iaload, 1) := by decide +kernel
theorem dX8_spray_94 : decode cX8_spray 94 = .ok (.ireturn, 1) := by decide +kernel
theorem dX8_spray_95 : decode cX8_spray 95 = .ok (.aload_n 0, 1) := by decide +kernel
theorem dX8_spray_96 : decode cX8_spray 96 = .ok (.getfield 10, 3) := by decide +kernel
theorem dX8_spray_99 : decode cX8_spray 99 = .ok (.getfield 40, 3) := by decide +kernel
theorem dX8_spray_102 : decode cX8_spray 102 = .ok (.getfield 138, 3) := by decide +kernel
theorem dX8_spray_105 : decode cX8_spray 105 = .ok (.iload_n 1, 1) := by decide +kernel
theorem dX8_spray_106 : decode cX8_spray 106 = .ok (.iaload, 1) := by decide +kernel
theorem dX8_spray_107 : decode cX8_spray 107 = .ok (.ireturn, 1) := by decide +kernel
theorem dX8_spray_108 : decode cX8_spray 108 = .ok (.aload_n 0, 1) := by decide +kernel
theorem dX8_spray_109 : decode cX8_spray 109 = .ok (.getfield 10, 3) := by decide +kernel
theorem dX8_spray_112 : decode cX8_spray 112 = .ok (.getfield 40, 3) := by decide +kernel
theorem dX8_spray_115 : decode cX8_spray 115 = .ok (.getfield 141, 3) := by decide +kernel
theorem dX8_spray_118 : decode cX8_spray 118 = .ok (.iload_n 1, 1) := by decide +kernel
theorem dX8_spray_119 : decode cX8_spray 119 = .ok (.iaload, 1) := by decide +kernel
theorem dX8_spray_120 : decode cX8_spray 120 = .ok (.ireturn, 1) := by decide +kernel
theorem dX8_spray_121 : decode cX8_spray 121 = .ok (.aload_n 0, 1) := by decide +kernel
theorem dX8_spray_122 : decode cX8_spray 122 = .ok (.getfield 10, 3) := by decide +kernel
theorem dX8_spray_125 : decode cX8_spray 125 = .ok (.getfield 40, 3) := by decide +kernel
theorem dX8_spray_128 : decode cX8_spray 128 = .ok (.getfield 144, 3) := by decide +kernel
theorem dX8_spray_131 : decode cX8_spray 131 = .ok (.iload_n 1, 1) := by decide +kernel
theorem dX8_spray_132 : decode cX8_spray 132 = .ok (.iaload, 1) := by decide +kernel
theorem dX8_spray_133 : decode cX8_spray 133 = .ok (.ireturn, 1) := by decide +kernel
theorem dX8_spray_134 : decode cX8_spray 134 = .ok (.iload_n 2, 1) := by decide +kernel
theorem dX8_spray_135 : decode cX8_spray 135 = .ok (.iconst 0, 1) := by decide +kernel
theorem dX8_spray_136 : decode cX8_spray 136 = .ok (.iconst 5, 1) := by decide +kernel
theorem dX8_spray_137 : decode cX8_spray 137 = .ok (.invokestatic 36, 3) := by decide +kernel
theorem dX8_spray_140 : decode cX8_spray 140 = .ok (.ifCond .eq 21, 3) := by decide +kernel
theorem dX8_spray_143 : decode cX8_spray 143 = .ok (.aload_n 0, 1) := by decide +kernel
theorem dX8_spray_144 : decode cX8_spray 144 = .ok (.getfield 10, 3) := by decide +kernel
theorem dX8_spray_147 : decode cX8_spray 147 = .ok (.getfield 40, 3) := by decide +kernel
theorem dX8_spray_150 : decode cX8_spray 150 = .ok (.getfield 58, 3) := by decide +kernel
theorem dX8_spray_153 : decode cX8_spray 153 = .ok (.iload_n 1, 1) := by decide +kernel
theorem dX8_spray_154 : decode cX8_spray 154 = .ok (.iload_n 2, 1) := by decide +kernel
theorem dX8_spray_155 : decode cX8_spray 155 = .ok (.invokevirtual 147, 3) := by decide +kernel
theorem dX8_spray_158 : decode cX8_spray 158 = .ok (.goto 5, 3) := by decide +kernel
theorem dX8_spray_161 : decode cX8_spray 161 = .ok (.bipush (-2), 2) := by decide +kernel
theorem dX8_spray_163 : decode cX8_spray 163 = .ok (.ireturn, 1) := by decide +kernel
theorem dX8_pressure_0 : decode cX8_pressure 0 = .ok (.iload_n 1, 1) := by decide +kernel
theorem dX8_pressure_1 : decode cX8_pressure 1 = .ok (.iconst 0, 1) := by decide +kernel
theorem dX8_pressure_2 : decode cX8_pressure 2 = .ok (.iconst 2, 1) := by decide +kernel
theorem dX8_pressure_3 : decode cX8_pressure 3 = .ok (.invokestatic 36, 3) := by decide +kernel
theorem dX8_pressure_6 : decode cX8_pressure 6 = .ok (.ifCond .ne 5, 3) := by decide +kernel
theorem dX8_pressure_9 : decode cX8_pressure 9 = .ok (.iconst (-1), 1) := by decide +kernel
theorem dX8_pressure_10 : decode cX8_pressure 10 = .ok (.ireturn, 1) := by decide +kernel
theorem dX8_pressure_11 : decode cX8_pressure 11 = .ok (.iload_n 2, 1) := by decide +kernel
theorem dX8_pressure_12 : decode cX8_pressure 12 = .ok (.tableswitch 67 2 4 #[28, 41, 54], 28) := by decide +kernel
theorem dX8_pressure_40 : decode cX8_pressure 40 = .ok (.aload_n 0, 1) := by decide +kernel
theorem dX8_pressure_41 : decode cX8_pressure 41 = .ok (.getfield 10, 3) := by decide +kernel
theorem dX8_pressure_44 : decode cX8_pressure 44 = .ok (.getfield 68, 3) := by decide +kernel
theorem dX8_pressure_47 : decode cX8_pressure 47 = .ok (.getfield 150, 3) := by decide +kernel
theorem dX8_pressure_50 : decode cX8_pressure 50 = .ok (.iload_n 1, 1) := by decide +kernel
theorem dX8_pressure_51 : decode cX8_pressure 51 = .ok (.iaload, 1) := by decide +kernel
theorem dX8_pressure_52 : decode cX8_pressure 52 = .ok (.ireturn, 1) := by decide +kernel
theorem dX8_pressure_53 : decode cX8_pressure 53 = .ok (.aload_n 0, 1) := by decide +kernel
theorem dX8_pressure_54 : decode cX8_pressure 54 = .ok (.getfield 10, 3) := by decide +kernel
theorem dX8_pressure_57 : decode cX8_pressure 57 = .ok (.getfield 68, 3) := by decide +kernel
theorem dX8_pressure_60 : decode cX8_pressure 60 = .ok (.getfield 151, 3) := by decide +kernel
theorem dX8_pressure_63 : decode cX8_pressure 63 = .ok (.iload_n 1, 1) := by decide +kernel
theorem dX8_pressure_64 : decode cX8_pressure 64 = .ok (.iaload, 1) := by decide +kernel
theorem dX8_pressure_65 : decode cX8_pressure 65 = .ok (.ireturn, 1) := by decide +kernel
theorem dX8_pressure_66 : decode cX8_pressure 66 = .ok (.aload_n 0, 1) := by decide +kernel
theorem dX8_pressure_67 : decode cX8_pressure 67 = .ok (.getfield 10, 3) := by decide +kernel
theorem dX8_pressure_70 : decode cX8_pressure 70 = .ok (.getfield 68, 3) := by decide +kernel
theorem dX8_pressure_73 : decode cX8_pressure 73 = .ok (.getfield 154, 3) := by decide +kernel
theorem dX8_pressure_76 : decode cX8_pressure 76 = .ok (.iload_n 1, 1) := by decide +kernel
theorem dX8_pressure_77 : decode cX8_pressure 77 = .ok (.iaload, 1) := by decide +kernel
theorem dX8_pressure_78 : decode cX8_pressure 78 = .ok (.ireturn, 1) := by decide +kernel
theorem dX8_pressure_79 : decode cX8_pressure 79 = .ok (.iload_n 2, 1) := by decide +kernel
theorem dX8_pressure_80 : decode cX8_pressure 80 = .ok (.iconst 0, 1) := by decide +kernel
theorem dX8_pressure_81 : decode cX8_pressure 81 = .ok (.iconst 1, 1) := by decide +kernel
theorem dX8_pressure_82 : decode cX8_pressure 82 = .ok (.invokestatic 36, 3) := by decide +kernel
theorem dX8_pressure_85 : decode cX8_pressure 85 = .ok (.ifCond .eq 21, 3) := by decide +kernel
theorem dX8_pressure_88 : decode cX8_pressure 88 = .ok (.aload_n 0, 1) := by decide +kernel
theorem dX8_pressure_89 : decode cX8_pressure 89 = .ok (.getfield 10, 3) := by decide +kernel
theorem dX8_pressure_92 : decode cX8_pressure 92 = .ok (.getfield 68, 3) := by decide +kernel
theorem dX8_pressure_95 : decode cX8_pressure 95 = .ok (.getfield 72, 3) := by decide +kernel
theorem dX8_pressure_98 : decode cX8_pressure 98 = .ok (.iload_n 1, 1) := by decide +kernel
theorem dX8_pressure_99 : decode cX8_pressure 99 = .ok (.iload_n 2, 1) := by decide +kernel
theorem dX8_pressure_100 : decode cX8_pressure 100 = .ok (.invokevirtual 147, 3) := by decide +kernel
theorem dX8_pressure_103 : decode cX8_pressure 103 = .ok (.goto 5, 3) := by decide +kernel
theorem dX8_pressure_106 : decode cX8_pressure 106 = .ok (.bipush (-2), 2) := by decide +kernel
theorem dX8_pressure_108 : decode cX8_pressure 108 = .ok (.ireturn, 1) := by decide +kernel
theorem dX8_load_0 : decode cX8_load 0 = .ok (.iload_n 1, 1) := by decide +kernel
theorem dX8_load_1 : decode cX8_load 1 = .ok (.iconst 0, 1) := by decide +kernel
theorem dX8_load_2 : decode cX8_load 2 = .ok (.iconst 2, 1) := by decide +kernel
theorem dX8_load_3 : decode cX8_load 3 = .ok (.invokestatic 36, 3) := by decide +kernel
theorem dX8_load_6 : decode cX8_load 6 = .ok (.ifCond .ne 6, 3) := by decide +kernel
theorem dX8_load_9 : decode cX8_load 9 = .ok (.ldc 157, 2) := by decide +kernel
theorem dX8_load_11 : decode cX8_load 11 = .ok (.freturn, 1) := by decide +kernel
theorem dX8_load_12 : decode cX8_load 12 = .ok (.aload_n 0, 1) := by decide +kernel
theorem dX8_load_13 : decode cX8_load 13 = .ok (.getfield 10, 3) := by decide +kernel
theorem dX8_load_16 : decode cX8_load 16 = .ok (.getfield 68, 3) := by decide +kernel
theorem dX8_load_19 : decode cX8_load 19 = .ok (.getfield 72, 3) := by decide +kernel
theorem dX8_load_22 : decode cX8_load 22 = .ok (.iload_n 1, 1) := by decide +kernel
theorem dX8_load_23 : decode cX8_load 23 = .ok (.iconst 0, 1) := by decide +kernel
theorem dX8_load_24 : decode cX8_load 24 = .ok (.invokevirtual 147, 3) := by decide +kernel
theorem dX8_load_27 : decode cX8_load 27 = .ok (.istore_n 2, 1) := by decide +kernel
theorem dX8_load_28 : decode cX8_load 28 = .ok (.iload_n 2, 1) := by decide +kernel
theorem dX8_load_29 : decode cX8_load 29 = .ok (.ifCond .ne 7, 3) := by decide +kernel
theorem dX8_load_32 : decode cX8_load 32 = .ok (.fconst 0, 1) := by decide +kernel
theorem dX8_load_33 : decode cX8_load 33 = .ok (.goto 23, 3) := by decide +kernel
theorem dX8_load_36 : decode cX8_load 36 = .ok (.aload_n 0, 1) := by decide +kernel
theorem dX8_load_37 : decode cX8_load 37 = .ok (.getfield 10, 3) := by decide +kernel
theorem dX8_load_40 : decode cX8_load 40 = .ok (.getfield 68, 3) := by decide +kernel
theorem dX8_load_43 : decode cX8_load 43 = .ok (.getfield 150, 3) := by decide +kernel
theorem dX8_load_46 : decode cX8_load 46 = .ok (.iload_n 1, 1) := by decide +kernel
theorem dX8_load_47 : decode cX8_load 47 = .ok (.iaload, 1) := by decide +kernel
theorem dX8_load_48 : decode cX8_load 48 = .ok (.i2f, 1) := by decide +kernel
theorem dX8_load_49 : decode cX8_load 49 = .ok (.sipush 1000, 3) := by decide +kernel
theorem dX8_load_52 : decode cX8_load 52 = .ok (.iload_n 2, 1) := by decide +kernel
theorem dX8_load_53 : decode cX8_load 53 = .ok (.imul, 1) := by decide +kernel
theorem dX8_load_54 : decode cX8_load 54 = .ok (.i2f, 1) := by decide +kernel
theorem dX8_load_55 : decode cX8_load 55 = .ok (.fdiv, 1) := by decide +kernel
theorem dX8_load_56 : decode cX8_load 56 = .ok (.freturn, 1) := by decide +kernel
theorem dX8_state_0 : decode cX8_state 0 = .ok (.iload_n 1, 1) := by decide +kernel
theorem dX8_state_1 : decode cX8_state 1 = .ok (.tableswitch 163 0 9 #[55, 63, 74, 85, 96, 107, 118, 129, 137, 155], 55) := by decide +kernel
theorem dX8_state_56 : decode cX8_state 56 = .ok (.aload_n 0, 1) := by decide +kernel
theorem dX8_state_57 : decode cX8_state 57 = .ok (.getfield 10, 3) := by decide +kernel
theorem dX8_state_60 : decode cX8_state 60 = .ok (.getfield 119, 3) := by decide +kernel
theorem dX8_state_63 : decode cX8_state 63 = .ok (.ireturn, 1) := by decide +kernel
theorem dX8_state_64 : decode cX8_state 64 = .ok (.aload_n 0, 1) := by decide +kernel
theorem dX8_state_65 : decode cX8_state 65 = .ok (.getfield 10, 3) := by decide +kernel
theorem dX8_state_68 : decode cX8_state 68 = .ok (.getfield 40, 3) := by decide +kernel
theorem dX8_state_71 : decode cX8_state 71 = .ok (.getfield 44, 3) := by decide +kernel
theorem dX8_state_74 : decode cX8_state 74 = .ok (.ireturn, 1) := by decide +kernel
theorem dX8_state_75 : decode cX8_state 75 = .ok (.aload_n 0, 1) := by decide +kernel
theorem dX8_state_76 : decode cX8_state 76 = .ok (.getfield 10, 3) := by decide +kernel
theorem dX8_state_79 : decode cX8_state 79 = .ok (.getfield 86, 3) := by decide +kernel
theorem dX8_state_82 : decode cX8_state 82 = .ok (.getfield 99, 3) := by decide +kernel
theorem dX8_state_85 : decode cX8_state 85 = .ok (.ireturn, 1) := by decide +kernel
theorem dX8_state_86 : decode cX8_state 86 = .ok (.aload_n 0, 1) := by decide +kernel
theorem dX8_state_87 : decode cX8_state 87 = .ok (.getfield 10, 3) := by decide +kernel
theorem dX8_state_90 : decode cX8_state 90 = .ok (.getfield 76, 3) := by decide +kernel
theorem dX8_state_93 : decode cX8_state 93 = .ok (.getfield 80, 3) := by decide +kernel
theorem dX8_state_96 : decode cX8_state 96 = .ok (.ireturn, 1) := by decide +kernel
theorem dX8_state_97 : decode cX8_state 97 = .ok (.aload_n 0, 1) := by decide +kernel
theorem dX8_state_98 : decode cX8_state 98 = .ok (.getfield 10, 3) := by decide +kernel
theorem dX8_state_101 : decode cX8_state 101 = .ok (.getfield 76, 3) := by decide +kernel
theorem dX8_state_104 : decode cX8_state 104 = .ok (.invokevirtual 162, 3) := by decide +kernel
theorem dX8_state_107 : decode cX8_state 107 = .ok (.ireturn, 1) := by decide +kernel
theorem dX8_state_108 : decode cX8_state 108 = .ok (.aload_n 0, 1) := by decide +kernel
theorem dX8_state_109 : decode cX8_state 109 = .ok (.getfield 10, 3) := by decide +kernel
theorem dX8_state_112 : decode cX8_state 112 = .ok (.getfield 76, 3) := by decide +kernel
theorem dX8_state_115 : decode cX8_state 115 = .ok (.getfield 165, 3) := by decide +kernel
theorem dX8_state_118 : decode cX8_state 118 = .ok (.ireturn, 1) := by decide +kernel
theorem dX8_state_119 : decode cX8_state 119 = .ok (.aload_n 0, 1) := by decide +kernel
theorem dX8_state_120 : decode cX8_state 120 = .ok (.getfield 10, 3) := by decide +kernel
theorem dX8_state_123 : decode cX8_state 123 = .ok (.getfield 76, 3) := by decide +kernel
theorem dX8_state_126 : decode cX8_state 126 = .ok (.getfield 168, 3) := by decide +kernel
theorem dX8_state_129 : decode cX8_state 129 = .ok (.ireturn, 1) := by decide +kernel
theorem dX8_state_130 : decode cX8_state 130 = .ok (.aload_n 0, 1) := by decide +kernel
theorem dX8_state_131 : decode cX8_state 131 = .ok (.getfield 10, 3) := by decide +kernel
theorem dX8_state_134 : decode cX8_state 134 = .ok (.getfield 171, 3) := by decide +kernel
theorem dX8_state_137 : decode cX8_state 137 = .ok (.ireturn, 1) := by decide +kernel
theorem dX8_state_138 : decode cX8_state 138 = .ok (.aload_n 0, 1) := by decide +kernel
theorem dX8_state_139 : decode cX8_state 139 = .ok (.getfield 10, 3) := by decide +kernel
theorem dX8_state_142 : decode cX8_state 142 = .ok (.getfield 86, 3) := by decide +kernel
theorem dX8_state_145 : decode cX8_state 145 = .ok (.aload_n 0, 1) := by decide +kernel
theorem dX8_state_146 : decode cX8_state 146 = .ok (.getfield 10, 3) := by decide +kernel
theorem dX8_state_149 : decode cX8_state 149 = .ok (.getfield 119, 3) := by decide +kernel
theorem dX8_state_152 : decode cX8_state 152 = .ok (.invokevirtual 174, 3) := by decide +kernel
theorem dX8_state_155 : decode cX8_state 155 = .ok (.ireturn, 1) := by decide +kernel
theorem dX8_state_156 : decode cX8_state 156 = .ok (.aload_n 0, 1) := by decide +kernel
theorem dX8_state_157 : decode cX8_state 157 = .ok (.getfield 32, 3) := by decide +kernel
theorem dX8_state_160 : decode cX8_state 160 = .ok (.getfield 178, 3) := by decide +kernel
theorem dX8_state_163 : decode cX8_state 163 = .ok (.ireturn, 1) := by decide +kernel
theorem dX8_state_164 : decode cX8_state 164 = .ok (.iload_n 1, 1) := by decide +kernel
theorem dX8_state_165 : decode cX8_state 165 = .ok (.bipush 10, 2) := by decide +kernel
theorem dX8_state_167 : decode cX8_state 167 = .ok (.bipush 15, 2) := by decide +kernel
theorem dX8_state_169 : decode cX8_state 169 = .ok (.invokestatic 36, 3) := by decide +kernel
theorem dX8_state_172 : decode cX8_state 172 = .ok (.ifCond .eq 21, 3) := by decide +kernel
theorem dX8_state_175 : decode cX8_state 175 = .ok (.aload_n 0, 1) := by decide +kernel
theorem dX8_state_176 : decode cX8_state 176 = .ok (.getfield 10, 3) := by decide +kernel
theorem dX8_state_179 : decode cX8_state 179 = .ok (.getfield 75, 3) := by decide +kernel
theorem dX8_state_182 : decode cX8_state 182 = .ok (.iconst 0, 1) := by decide +kernel
theorem dX8_state_183 : decode cX8_state 183 = .ok (.iload_n 1, 1) := by decide +kernel
theorem dX8_state_184 : decode cX8_state 184 = .ok (.bipush 10, 2) := by decide +kernel
theorem dX8_state_186 : decode cX8_state 186 = .ok (.isub, 1) := by decide +kernel
theorem dX8_state_187 : decode cX8_state 187 = .ok (.invokevirtual 147, 3) := by decide +kernel
theorem dX8_state_190 : decode cX8_state 190 = .ok (.goto 5, 3) := by decide +kernel
theorem dX8_state_193 : decode cX8_state 193 = .ok (.bipush (-2), 2) := by decide +kernel
theorem dX8_state_195 : decode cX8_state 195 = .ok (.ireturn, 1) := by decide +kernel
theorem dX8_ahead_0 : decode cX8_ahead 0 = .ok (.iload_n 1, 1) := by decide +kernel
theorem dX8_ahead_1 : decode cX8_ahead 1 = .ok (.iconst 1, 1) := by decide +kernel
theorem dX8_ahead_2 : decode cX8_ahead 2 = .ok (.sipush 1000, 3) := by decide +kernel
theorem dX8_ahead_5 : decode cX8_ahead 5 = .ok (.invokestatic 36, 3) := by decide +kernel
theorem dX8_ahead_8 : decode cX8_ahead 8 = .ok (.ifCond .eq 12, 3) := by decide +kernel
theorem dX8_ahead_11 : decode cX8_ahead 11 = .ok (.iload_n 3, 1) := by decide +kernel
theorem dX8_ahead_12 : decode cX8_ahead 12 = .ok (.iconst 0, 1) := by decide +kernel
theorem dX8_ahead_13 : decode cX8_ahead 13 = .ok (.iconst 4, 1) := by decide +kernel
theorem dX8_ahead_14 : decode cX8_ahead 14 = .ok (.invokestatic 36, 3) := by decide +kernel
theorem dX8_ahead_17 : decode cX8_ahead 17 = .ok (.ifCond .ne 6, 3) := by decide +kernel
theorem dX8_ahead_20 : decode cX8_ahead 20 = .ok (.bipush (-2), 2) := by decide +kernel
theorem dX8_ahead_22 : decode cX8_ahead 22 = .ok (.ireturn, 1) := by decide +kernel
theorem dX8_ahead_23 : decode cX8_ahead 23 = .ok (.iload_n 3, 1) := by decide +kernel
theorem dX8_ahead_24 : decode cX8_ahead 24 = .ok (.iconst 2, 1) := by decide +kernel
theorem dX8_ahead_25 : decode cX8_ahead 25 = .ok (.if_icmp .gt 14, 3) := by decide +kernel
theorem dX8_ahead_28 : decode cX8_ahead 28 = .ok (.iload_n 2, 1) := by decide +kernel
theorem dX8_ahead_29 : decode cX8_ahead 29 = .ok (.iconst 0, 1) := by decide +kernel
theorem dX8_ahead_30 : decode cX8_ahead 30 = .ok (.iconst 2, 1) := by decide +kernel
theorem dX8_ahead_31 : decode cX8_ahead 31 = .ok (.invokestatic 36, 3) := by decide +kernel
theorem dX8_ahead_34 : decode cX8_ahead 34 = .ok (.ifCond .ne 5, 3) := by decide +kernel
theorem dX8_ahead_37 : decode cX8_ahead 37 = .ok (.iconst (-1), 1) := by decide +kernel
theorem dX8_ahead_38 : decode cX8_ahead 38 = .ok (.ireturn, 1) := by decide +kernel
theorem dX8_ahead_39 : decode cX8_ahead 39 = .ok (.aload_n 0, 1) := by decide +kernel
theorem dX8_ahead_40 : decode cX8_ahead 40 = .ok (.getfield 16, 3) := by decide +kernel
theorem dX8_ahead_43 : decode cX8_ahead 43 = .ok (.aload_n 0, 1) := by decide +kernel
theorem dX8_ahead_44 : decode cX8_ahead 44 = .ok (.getfield 10, 3) := by decide +kernel
theorem dX8_ahead_47 : decode cX8_ahead 47 = .ok (.invokevirtual 181, 3) := by decide +kernel
theorem dX8_ahead_50 : decode cX8_ahead 50 = .ok (.iload_n 3, 1) := by decide +kernel
theorem dX8_ahead_51 : decode cX8_ahead 51 = .ok (.tableswitch 56 0 3 #[29, 36, 43, 50], 29) := by decide +kernel
theorem dX8_ahead_80 : decode cX8_ahead 80 = .ok (.aload_n 0, 1) := by decide +kernel
theorem dX8_ahead_81 : decode cX8_ahead 81 = .ok (.iload_n 1, 1) := by decide +kernel
theorem dX8_ahead_82 : decode cX8_ahead 82 = .ok (.iload_n 2, 1) := by decide +kernel
theorem dX8_ahead_83 : decode cX8_ahead 83 = .ok (.invokevirtual 185, 3) := by decide +kernel
theorem dX8_ahead_86 : decode cX8_ahead 86 = .ok (.ireturn, 1) := by decide +kernel
theorem dX8_ahead_87 : decode cX8_ahead 87 = .ok (.aload_n 0, 1) := by decide +kernel
theorem dX8_ahead_88 : decode cX8_ahead 88 = .ok (.iload_n 1, 1) := by decide +kernel
theorem dX8_ahead_89 : decode cX8_ahead 89 = .ok (.iload_n 2, 1) := by decide +kernel
theorem dX8_ahead_90 : decode cX8_ahead 90 = .ok (.invokevirtual 188, 3) := by decide +kernel
theorem dX8_ahead_93 : decode cX8_ahead 93 = .ok (.ireturn, 1) := by decide +kernel
theorem dX8_ahead_94 : decode cX8_ahead 94 = .ok (.aload_n 0, 1) := by decide +kernel
theorem dX8_ahead_95 : decode cX8_ahead 95 = .ok (.iload_n 1, 1) := by decide +kernel
theorem dX8_ahead_96 : decode cX8_ahead 96 = .ok (.iload_n 2, 1) := by decide +kernel
theorem dX8_ahead_97 : decode cX8_ahead 97 = .ok (.invokevirtual 190, 3) := by decide +kernel
theorem dX8_ahead_100 : decode cX8_ahead 100 = .ok (.ireturn, 1) := by decide +kernel
theorem dX8_ahead_101 : decode cX8_ahead 101 = .ok (.aload_n 0, 1) := by decide +kernel
theorem dX8_ahead_102 : decode cX8_ahead 102 = .ok (.iload_n 1, 1) := by decide +kernel
theorem dX8_ahead_103 : decode cX8_ahead 103 = .ok (.invokevirtual 193, 3) := by decide +kernel
theorem dX8_ahead_106 : decode cX8_ahead 106 = .ok (.ireturn, 1) := by decide +kernel
theorem dX8_ahead_107 : decode cX8_ahead 107 = .ok (.aload_n 0, 1) := by decide +kernel
theorem dX8_ahead_108 : decode cX8_ahead 108 = .ok (.iload_n 1, 1) := by decide +kernel
theorem dX8_ahead_109 : decode cX8_ahead 109 = .ok (.invokevirtual 195, 3) := by decide +kernel
theorem dX8_ahead_112 : decode cX8_ahead 112 = .ok (.ireturn, 1) := by decide +kernel
theorem dX8_delay_0 : decode cX8_delay 0 = .ok (.aload_n 0, 1) := by decide +kernel
theorem dX8_delay_1 : decode cX8_delay 1 = .ok (.getfield 10, 3) := by decide +kernel
theorem dX8_delay_4 : decode cX8_delay 4 = .ok (.getfield 86, 3) := by decide +kernel
theorem dX8_delay_7 : decode cX8_delay 7 = .ok (.iload_n 1, 1) := by decide +kernel
theorem dX8_delay_8 : decode cX8_delay 8 = .ok (.invokevirtual 95, 3) := by decide +kernel
theorem dX8_delay_11 : decode cX8_delay 11 = .ok (.ifCond .ne 5, 3) := by decide +kernel
theorem dX8_delay_14 : decode cX8_delay 14 = .ok (.iconst (-1), 1) := by decide +kernel
theorem dX8_delay_15 : decode cX8_delay 15 = .ok (.ireturn, 1) := by decide +kernel
theorem dX8_delay_16 : decode cX8_delay 16 = .ok (.iload_n 2, 1) := by decide +kernel
theorem dX8_delay_17 : decode cX8_delay 17 = .ok (.iconst 0, 1) := by decide +kernel
theorem dX8_delay_18 : decode cX8_delay 18 = .ok (.bipush 100, 2) := by decide +kernel
theorem dX8_delay_20 : decode cX8_delay 20 = .ok (.invokestatic 36, 3) := by decide +kernel
theorem dX8_delay_23 : decode cX8_delay 23 = .ok (.ifCond .eq 14, 3) := by decide +kernel
theorem dX8_delay_26 : decode cX8_delay 26 = .ok (.iload_n 3, 1) := by decide +kernel
theorem dX8_delay_27 : decode cX8_delay 27 = .ok (.iconst 1, 1) := by decide +kernel
theorem dX8_delay_28 : decode cX8_delay 28 = .ok (.sipush 300, 3) := by decide +kernel
theorem dX8_delay_31 : decode cX8_delay 31 = .ok (.invokestatic 36, 3) := by decide +kernel
theorem dX8_delay_34 : decode cX8_delay 34 = .ok (.ifCond .ne 6, 3) := by decide +kernel
theorem dX8_delay_37 : decode cX8_delay 37 = .ok (.bipush (-2), 2) := by decide +kernel
theorem dX8_delay_39 : decode cX8_delay 39 = .ok (.ireturn, 1) := by decide +kernel
theorem dX8_delay_40 : decode cX8_delay 40 = .ok (.iload_n 2, 1) := by decide +kernel
theorem dX8_delay_41 : decode cX8_delay 41 = .ok (.ldc 85, 2) := by decide +kernel
theorem dX8_delay_43 : decode cX8_delay 43 = .ok (.aload_n 0, 1) := by decide +kernel
theorem dX8_delay_44 : decode cX8_delay 44 = .ok (.getfield 10, 3) := by decide +kernel
theorem dX8_delay_47 : decode cX8_delay 47 = .ok (.getfield 86, 3) := by decide +kernel
theorem dX8_delay_50 : decode cX8_delay 50 = .ok (.getfield 101, 3) := by decide +kernel
theorem dX8_delay_53 : decode cX8_delay 53 = .ok (.iload_n 1, 1) := by decide +kernel
theorem dX8_delay_54 : decode cX8_delay 54 = .ok (.iaload, 1) := by decide +kernel
theorem dX8_delay_55 : decode cX8_delay 55 = .ok (.isub, 1) := by decide +kernel
theorem dX8_delay_56 : decode cX8_delay 56 = .ok (.invokestatic 198, 3) := by decide +kernel
theorem dX8_delay_59 : decode cX8_delay 59 = .ok (.istore 4, 2) := by decide +kernel
theorem dX8_delay_61 : decode cX8_delay 61 = .ok (.iconst 0, 1) := by decide +kernel
theorem dX8_delay_62 : decode cX8_delay 62 = .ok (.istore 5, 2) := by decide +kernel
theorem dX8_delay_64 : decode cX8_delay 64 = .ok (.iload 5, 2) := by decide +kernel
theorem dX8_delay_66 : decode cX8_delay 66 = .ok (.iload 4, 2) := by decide +kernel
theorem dX8_delay_68 : decode cX8_delay 68 = .ok (.if_icmp .gt 45, 3) := by decide +kernel
theorem dX8_delay_71 : decode cX8_delay 71 = .ok (.aload_n 0, 1) := by decide +kernel
theorem dX8_delay_72 : decode cX8_delay 72 = .ok (.getfield 16, 3) := by decide +kernel
theorem dX8_delay_75 : decode cX8_delay 75 = .ok (.aload_n 0, 1) := by decide +kernel
theorem dX8_delay_76 : decode cX8_delay 76 = .ok (.getfield 10, 3) := by decide +kernel
theorem dX8_delay_79 : decode cX8_delay 79 = .ok (.invokevirtual 181, 3) := by decide +kernel
theorem dX8_delay_82 : decode cX8_delay 82 = .ok (.aload_n 0, 1) := by decide +kernel
theorem dX8_delay_83 : decode cX8_delay 83 = .ok (.getfield 16, 3) := by decide +kernel
theorem dX8_delay_86 : decode cX8_delay 86 = .ok (.getfield 86, 3) := by decide +kernel
theorem dX8_delay_89 : decode cX8_delay 89 = .ok (.iload_n 1, 1) := by decide +kernel
theorem dX8_delay_90 : decode cX8_delay 90 = .ok (.iload 5, 2) := by decide +kernel
theorem dX8_delay_92 : decode cX8_delay 92 = .ok (.invokevirtual 105, 3) := by decide +kernel
theorem dX8_delay_95 : decode cX8_delay 95 = .ok (.pop, 1) := by decide +kernel
theorem dX8_delay_96 : decode cX8_delay 96 = .ok (.aload_n 0, 1) := by decide +kernel
theorem dX8_delay_97 : decode cX8_delay 97 = .ok (.iload_n 3, 1) := by decide +kernel
theorem dX8_delay_98 : decode cX8_delay 98 = .ok (.invokevirtual 203, 3) := by decide +kernel
theorem dX8_delay_101 : decode cX8_delay 101 = .ok (.ifCond .eq 6, 3) := by decide +kernel
theorem dX8_delay_104 : decode cX8_delay 104 = .ok (.iload 5, 2) := by decide +kernel
theorem dX8_delay_106 : decode cX8_delay 106 = .ok (.ireturn, 1) := by decide +kernel
theorem dX8_delay_107 : decode cX8_delay 107 = .ok (.iinc 5 1, 3) := by decide +kernel
theorem dX8_delay_110 : decode cX8_delay 110 = .ok (.goto (-46), 3) := by decide +kernel
theorem dX8_delay_113 : decode cX8_delay 113 = .ok (.bipush (-6), 2) := by decide +kernel
theorem dX8_delay_115 : decode cX8_delay 115 = .ok (.ireturn, 1) := by decide +kernel
theorem dX8_safeCut_0 : decode cX8_safeCut 0 = .ok (.iload_n 1, 1) := by decide +kernel
theorem dX8_safeCut_1 : decode cX8_safeCut 1 = .ok (.iconst 1, 1) := by decide +kernel
theorem dX8_safeCut_2 : decode cX8_safeCut 2 = .ok (.bipush 100, 2) := by decide +kernel
theorem dX8_safeCut_4 : decode cX8_safeCut 4 = .ok (.invokestatic 36, 3) := by decide +kernel
theorem dX8_safeCut_7 : decode cX8_safeCut 7 = .ok (.ifCond .ne 6, 3) := by decide +kernel
theorem dX8_safeCut_10 : decode cX8_safeCut 10 = .ok (.bipush (-2), 2) := by decide +kernel
theorem dX8_safeCut_12 : decode cX8_safeCut 12 = .ok (.ireturn, 1) := by decide +kernel
theorem dX8_safeCut_13 : decode cX8_safeCut 13 = .ok (.sipush 1000, 3) := by decide +kernel
theorem dX8_safeCut_16 : decode cX8_safeCut 16 = .ok (.istore_n 2, 1) := by decide +kernel
theorem dX8_safeCut_17 : decode cX8_safeCut 17 = .ok (.iload_n 2, 1) := by decide +kernel
theorem dX8_safeCut_18 : decode cX8_safeCut 18 = .ok (.ifCond .lt 59, 3) := by decide +kernel
theorem dX8_safeCut_21 : decode cX8_safeCut 21 = .ok (.aload_n 0, 1) := by decide +kernel
theorem dX8_safeCut_22 : decode cX8_safeCut 22 = .ok (.getfield 16, 3) := by decide +kernel
theorem dX8_safeCut_25 : decode cX8_safeCut 25 = .ok (.aload_n 0, 1) := by decide +kernel
theorem dX8_safeCut_26 : decode cX8_safeCut 26 = .ok (.getfield 10, 3) := by decide +kernel
theorem dX8_safeCut_29 : decode cX8_safeCut 29 = .ok (.invokevirtual 181, 3) := by decide +kernel
theorem dX8_safeCut_32 : decode cX8_safeCut 32 = .ok (.aload_n 0, 1) := by decide +kernel
theorem dX8_safeCut_33 : decode cX8_safeCut 33 = .ok (.getfield 16, 3) := by decide +kernel
theorem dX8_safeCut_36 : decode cX8_safeCut 36 = .ok (.getfield 75, 3) := by decide +kernel
theorem dX8_safeCut_39 : decode cX8_safeCut 39 = .ok (.iconst 0, 1) := by decide +kernel
theorem dX8_safeCut_40 : decode cX8_safeCut 40 = .ok (.iconst 3, 1) := by decide +kernel
theorem dX8_safeCut_41 : decode cX8_safeCut 41 = .ok (.iload_n 2, 1) := by decide +kernel
theorem dX8_safeCut_42 : decode cX8_safeCut 42 = .ok (.invokevirtual 62, 3) := by decide +kernel
theorem dX8_safeCut_45 : decode cX8_safeCut 45 = .ok (.pop, 1) := by decide +kernel
theorem dX8_safeCut_46 : decode cX8_safeCut 46 = .ok (.aload_n 0, 1) := by decide +kernel
theorem dX8_safeCut_47 : decode cX8_safeCut 47 = .ok (.iload_n 1, 1) := by decide +kernel
theorem dX8_safeCut_48 : decode cX8_safeCut 48 = .ok (.invokevirtual 206, 3) := by decide +kernel
theorem dX8_safeCut_51 : decode cX8_safeCut 51 = .ok (.ifCond .eq 5, 3) := by decide +kernel
theorem dX8_safeCut_54 : decode cX8_safeCut 54 = .ok (.iload_n 2, 1) := by decide +kernel
theorem dX8_safeCut_55 : decode cX8_safeCut 55 = .ok (.ireturn, 1) := by decide +kernel
theorem dX8_safeCut_56 : decode cX8_safeCut 56 = .ok (.iload_n 2, 1) := by decide +kernel
theorem dX8_safeCut_57 : decode cX8_safeCut 57 = .ok (.aload_n 0, 1) := by decide +kernel
theorem dX8_safeCut_58 : decode cX8_safeCut 58 = .ok (.getfield 16, 3) := by decide +kernel
theorem dX8_safeCut_61 : decode cX8_safeCut 61 = .ok (.getfield 40, 3) := by decide +kernel
theorem dX8_safeCut_64 : decode cX8_safeCut 64 = .ok (.getfield 209, 3) := by decide +kernel
theorem dX8_safeCut_67 : decode cX8_safeCut 67 = .ok (.invokestatic 198, 3) := by decide +kernel
theorem dX8_safeCut_70 : decode cX8_safeCut 70 = .ok (.istore_n 2, 1) := by decide +kernel
theorem dX8_safeCut_71 : decode cX8_safeCut 71 = .ok (.iinc 2 (-1), 3) := by decide +kernel
theorem dX8_safeCut_74 : decode cX8_safeCut 74 = .ok (.goto (-57), 3) := by decide +kernel
theorem dX8_safeCut_77 : decode cX8_safeCut 77 = .ok (.bipush (-6), 2) := by decide +kernel
theorem dX8_safeCut_79 : decode cX8_safeCut 79 = .ok (.ireturn, 1) := by decide +kernel
theorem dX8_say_0 : decode cX8_say 0 = .ok (.iload_n 1, 1) := by decide +kernel
theorem dX8_say_1 : decode cX8_say 1 = .ok (.bipush 33, 2) := by decide +kernel
theorem dX8_say_3 : decode cX8_say 3 = .ok (.bipush 126, 2) := by decide +kernel
theorem dX8_say_5 : decode cX8_say 5 = .ok (.invokestatic 36, 3) := by decide +kernel
theorem dX8_say_8 : decode cX8_say 8 = .ok (.ifCond .ne 6, 3) := by decide +kernel
theorem dX8_say_11 : decode cX8_say 11 = .ok (.bipush (-2), 2) := by decide +kernel
theorem dX8_say_13 : decode cX8_say 13 = .ok (.ireturn, 1) := by decide +kernel
theorem dX8_say_14 : decode cX8_say 14 = .ok (.aload_n 0, 1) := by decide +kernel
theorem dX8_say_15 : decode cX8_say 15 = .ok (.getfield 32, 3) := by decide +kernel
theorem dX8_say_18 : decode cX8_say 18 = .ok (.iload_n 1, 1) := by decide +kernel
theorem dX8_say_19 : decode cX8_say 19 = .ok (.i2c, 1) := by decide +kernel
theorem dX8_say_20 : decode cX8_say 20 = .ok (.invokevirtual 212, 3) := by decide +kernel
theorem dX8_say_23 : decode cX8_say 23 = .ok (.ireturn, 1) := by decide +kernel
theorem dX8_read_0 : decode cX8_read 0 = .ok (.aload_n 0, 1) := by decide +kernel
theorem dX8_read_1 : decode cX8_read 1 = .ok (.getfield 32, 3) := by decide +kernel
theorem dX8_read_4 : decode cX8_read 4 = .ok (.invokevirtual 216, 3) := by decide +kernel
theorem dX8_read_7 : decode cX8_read 7 = .ok (.bipush (-6), 2) := by decide +kernel
theorem dX8_read_9 : decode cX8_read 9 = .ok (.if_icmp .eq 6, 3) := by decide +kernel
theorem dX8_read_12 : decode cX8_read 12 = .ok (.bipush (-3), 2) := by decide +kernel
theorem dX8_read_14 : decode cX8_read 14 = .ok (.ireturn, 1) := by decide +kernel
theorem dX8_read_15 : decode cX8_read 15 = .ok (.iload_n 1, 1) := by decide +kernel
theorem dX8_read_16 : decode cX8_read 16 = .ok (.iconst 0, 1) := by decide +kernel
theorem dX8_read_17 : decode cX8_read 17 = .ok (.ldc 219, 2) := by decide +kernel
theorem dX8_read_19 : decode cX8_read 19 = .ok (.invokestatic 36, 3) := by decide +kernel
theorem dX8_read_22 : decode cX8_read 22 = .ok (.ifCond .ne 6, 3) := by decide +kernel
theorem dX8_read_25 : decode cX8_read 25 = .ok (.bipush (-2), 2) := by decide +kernel
theorem dX8_read_27 : decode cX8_read 27 = .ok (.ireturn, 1) := by decide +kernel
theorem dX8_read_28 : decode cX8_read 28 = .ok (.aload_n 0, 1) := by decide +kernel
theorem dX8_read_29 : decode cX8_read 29 = .ok (.getfield 32, 3) := by decide +kernel
theorem dX8_read_32 : decode cX8_read 32 = .ok (.getfield 220, 3) := by decide +kernel
theorem dX8_read_35 : decode cX8_read 35 = .ok (.getfield 99, 3) := by decide +kernel
theorem dX8_read_38 : decode cX8_read 38 = .ok (.istore_n 2, 1) := by decide +kernel
theorem dX8_read_39 : decode cX8_read 39 = .ok (.aload_n 0, 1) := by decide +kernel
theorem dX8_read_40 : decode cX8_read 40 = .ok (.getfield 10, 3) := by decide +kernel
theorem dX8_read_43 : decode cX8_read 43 = .ok (.getfield 86, 3) := by decide +kernel
theorem dX8_read_46 : decode cX8_read 46 = .ok (.getfield 99, 3) := by decide +kernel
theorem dX8_read_49 : decode cX8_read 49 = .ok (.iload_n 2, 1) := by decide +kernel
theorem dX8_read_50 : decode cX8_read 50 = .ok (.iadd, 1) := by decide +kernel
theorem dX8_read_51 : decode cX8_read 51 = .ok (.bipush 60, 2) := by decide +kernel
theorem dX8_read_53 : decode cX8_read 53 = .ok (.if_icmp .le 6, 3) := by decide +kernel
theorem dX8_read_56 : decode cX8_read 56 = .ok (.bipush (-4), 2) := by decide +kernel
theorem dX8_read_58 : decode cX8_read 58 = .ok (.ireturn, 1) := by decide +kernel
theorem dX8_read_59 : decode cX8_read 59 = .ok (.iconst 0, 1) := by decide +kernel
theorem dX8_read_60 : decode cX8_read 60 = .ok (.istore_n 3, 1) := by decide +kernel
theorem dX8_read_61 : decode cX8_read 61 = .ok (.iload_n 3, 1) := by decide +kernel
end
section
theorem dX8_read_62 : decode cX8_read 62 = .ok (.iload_n 2, 1) := by decide +kernel
theorem dX8_read_63 : decode cX8_read 63 = .ok (.if_icmp .ge 58, 3) := by decide +kernel
theorem dX8_read_66 : decode cX8_read 66 = .ok (.aload_n 0, 1) := by decide +kernel
theorem dX8_read_67 : decode cX8_read 67 = .ok (.getfield 10, 3) := by decide +kernel
theorem dX8_read_70 : decode cX8_read 70 = .ok (.getfield 86, 3) := by decide +kernel
theorem dX8_read_73 : decode cX8_read 73 = .ok (.aload_n 0, 1) := by decide +kernel
theorem dX8_read_74 : decode cX8_read 74 = .ok (.getfield 32, 3) := by decide +kernel
theorem dX8_read_77 : decode cX8_read 77 = .ok (.getfield 220, 3) := by decide +kernel
theorem dX8_read_80 : decode cX8_read 80 = .ok (.getfield 101, 3) := by decide +kernel
theorem dX8_read_83 : decode cX8_read 83 = .ok (.iload_n 3, 1) := by decide +kernel
theorem dX8_read_84 : decode cX8_read 84 = .ok (.iaload, 1) := by decide +kernel
theorem dX8_read_85 : decode cX8_read 85 = .ok (.iload_n 1, 1) := by decide +kernel
theorem dX8_read_86 : decode cX8_read 86 = .ok (.iadd, 1) := by decide +kernel
theorem dX8_read_87 : decode cX8_read 87 = .ok (.aload_n 0, 1) := by decide +kernel
theorem dX8_read_88 : decode cX8_read 88 = .ok (.getfield 32, 3) := by decide +kernel
theorem dX8_read_91 : decode cX8_read 91 = .ok (.getfield 220, 3) := by decide +kernel
theorem dX8_read_94 : decode cX8_read 94 = .ok (.getfield 109, 3) := by decide +kernel
theorem dX8_read_97 : decode cX8_read 97 = .ok (.iload_n 3, 1) := by decide +kernel
theorem dX8_read_98 : decode cX8_read 98 = .ok (.iaload, 1) := by decide +kernel
theorem dX8_read_99 : decode cX8_read 99 = .ok (.aload_n 0, 1) := by decide +kernel
theorem dX8_read_100 : decode cX8_read 100 = .ok (.getfield 32, 3) := by decide +kernel
theorem dX8_read_103 : decode cX8_read 103 = .ok (.getfield 220, 3) := by decide +kernel
theorem dX8_read_106 : decode cX8_read 106 = .ok (.getfield 112, 3) := by decide +kernel
theorem dX8_read_109 : decode cX8_read 109 = .ok (.iload_n 3, 1) := by decide +kernel
theorem dX8_read_110 : decode cX8_read 110 = .ok (.iaload, 1) := by decide +kernel
theorem dX8_read_111 : decode cX8_read 111 = .ok (.invokevirtual 90, 3) := by decide +kernel
theorem dX8_read_114 : decode cX8_read 114 = .ok (.pop, 1) := by decide +kernel
theorem dX8_read_115 : decode cX8_read 115 = .ok (.iinc 3 1, 3) := by decide +kernel
theorem dX8_read_118 : decode cX8_read 118 = .ok (.goto (-57), 3) := by decide +kernel
theorem dX8_read_121 : decode cX8_read 121 = .ok (.aload_n 0, 1) := by decide +kernel
theorem dX8_read_122 : decode cX8_read 122 = .ok (.getfield 32, 3) := by decide +kernel
theorem dX8_read_125 : decode cX8_read 125 = .ok (.iconst 0, 1) := by decide +kernel
theorem dX8_read_126 : decode cX8_read 126 = .ok (.putfield 178, 3) := by decide +kernel
theorem dX8_read_129 : decode cX8_read 129 = .ok (.iload_n 2, 1) := by decide +kernel
theorem dX8_read_130 : decode cX8_read 130 = .ok (.ireturn, 1) := by decide +kernel
theorem dX8_save_0 : decode cX8_save 0 = .ok (.aload_n 0, 1) := by decide +kernel
theorem dX8_save_1 : decode cX8_save 1 = .ok (.iload_n 1, 1) := by decide +kernel
theorem dX8_save_2 : decode cX8_save 2 = .ok (.invokevirtual 223, 3) := by decide +kernel
theorem dX8_save_5 : decode cX8_save 5 = .ok (.astore_n 2, 1) := by decide +kernel
theorem dX8_save_6 : decode cX8_save 6 = .ok (.aload_n 2, 1) := by decide +kernel
theorem dX8_save_7 : decode cX8_save 7 = .ok (.ifnonnull 6, 3) := by decide +kernel
theorem dX8_save_10 : decode cX8_save 10 = .ok (.bipush (-2), 2) := by decide +kernel
theorem dX8_save_12 : decode cX8_save 12 = .ok (.ireturn, 1) := by decide +kernel
theorem dX8_save_13 : decode cX8_save 13 = .ok (.aload_n 2, 1) := by decide +kernel
theorem dX8_save_14 : decode cX8_save 14 = .ok (.getfield 227, 3) := by decide +kernel
theorem dX8_save_17 : decode cX8_save 17 = .ok (.aload_n 0, 1) := by decide +kernel
theorem dX8_save_18 : decode cX8_save 18 = .ok (.getfield 10, 3) := by decide +kernel
theorem dX8_save_21 : decode cX8_save 21 = .ok (.invokevirtual 181, 3) := by decide +kernel
theorem dX8_save_24 : decode cX8_save 24 = .ok (.aload_n 2, 1) := by decide +kernel
theorem dX8_save_25 : decode cX8_save 25 = .ok (.iconst 1, 1) := by decide +kernel
theorem dX8_save_26 : decode cX8_save 26 = .ok (.putfield 230, 3) := by decide +kernel
theorem dX8_save_29 : decode cX8_save 29 = .ok (.aload_n 0, 1) := by decide +kernel
theorem dX8_save_30 : decode cX8_save 30 = .ok (.getfield 10, 3) := by decide +kernel
theorem dX8_save_33 : decode cX8_save 33 = .ok (.getfield 119, 3) := by decide +kernel
theorem dX8_save_36 : decode cX8_save 36 = .ok (.ireturn, 1) := by decide +kernel
theorem dX8_restore_0 : decode cX8_restore 0 = .ok (.aload_n 0, 1) := by decide +kernel
theorem dX8_restore_1 : decode cX8_restore 1 = .ok (.iload_n 1, 1) := by decide +kernel
theorem dX8_restore_2 : decode cX8_restore 2 = .ok (.invokevirtual 223, 3) := by decide +kernel
theorem dX8_restore_5 : decode cX8_restore 5 = .ok (.astore_n 2, 1) := by decide +kernel
theorem dX8_restore_6 : decode cX8_restore 6 = .ok (.aload_n 2, 1) := by decide +kernel
theorem dX8_restore_7 : decode cX8_restore 7 = .ok (.ifnonnull 6, 3) := by decide +kernel
theorem dX8_restore_10 : decode cX8_restore 10 = .ok (.bipush (-2), 2) := by decide +kernel
theorem dX8_restore_12 : decode cX8_restore 12 = .ok (.ireturn, 1) := by decide +kernel
theorem dX8_restore_13 : decode cX8_restore 13 = .ok (.aload_n 2, 1) := by decide +kernel
theorem dX8_restore_14 : decode cX8_restore 14 = .ok (.getfield 230, 3) := by decide +kernel
theorem dX8_restore_17 : decode cX8_restore 17 = .ok (.ifCond .ne 6, 3) := by decide +kernel
theorem dX8_restore_20 : decode cX8_restore 20 = .ok (.bipush (-5), 2) := by decide +kernel
theorem dX8_restore_22 : decode cX8_restore 22 = .ok (.ireturn, 1) := by decide +kernel
theorem dX8_restore_23 : decode cX8_restore 23 = .ok (.aload_n 0, 1) := by decide +kernel
theorem dX8_restore_24 : decode cX8_restore 24 = .ok (.getfield 10, 3) := by decide +kernel
theorem dX8_restore_27 : decode cX8_restore 27 = .ok (.aload_n 2, 1) := by decide +kernel
theorem dX8_restore_28 : decode cX8_restore 28 = .ok (.getfield 227, 3) := by decide +kernel
theorem dX8_restore_31 : decode cX8_restore 31 = .ok (.invokevirtual 181, 3) := by decide +kernel
theorem dX8_restore_34 : decode cX8_restore 34 = .ok (.aload_n 0, 1) := by decide +kernel
theorem dX8_restore_35 : decode cX8_restore 35 = .ok (.getfield 10, 3) := by decide +kernel
theorem dX8_restore_38 : decode cX8_restore 38 = .ok (.getfield 119, 3) := by decide +kernel
theorem dX8_restore_41 : decode cX8_restore 41 = .ok (.ireturn, 1) := by decide +kernel
theorem dX8_slotAt_0 : decode cX8_slotAt 0 = .ok (.iload_n 1, 1) := by decide +kernel
theorem dX8_slotAt_1 : decode cX8_slotAt 1 = .ok (.lookupswitch 37 #[(0, 27), (1, 32)], 27) := by decide +kernel
theorem dX8_slotAt_28 : decode cX8_slotAt 28 = .ok (.aload_n 0, 1) := by decide +kernel
theorem dX8_slotAt_29 : decode cX8_slotAt 29 = .ok (.getfield 22, 3) := by decide +kernel
theorem dX8_slotAt_32 : decode cX8_slotAt 32 = .ok (.areturn, 1) := by decide +kernel
theorem dX8_slotAt_33 : decode cX8_slotAt 33 = .ok (.aload_n 0, 1) := by decide +kernel
theorem dX8_slotAt_34 : decode cX8_slotAt 34 = .ok (.getfield 26, 3) := by decide +kernel
theorem dX8_slotAt_37 : decode cX8_slotAt 37 = .ok (.areturn, 1) := by decide +kernel
theorem dX8_slotAt_38 : decode cX8_slotAt 38 = .ok (.aconst_null, 1) := by decide +kernel
theorem dX8_slotAt_39 : decode cX8_slotAt 39 = .ok (.areturn, 1) := by decide +kernel
theorem dX8_greatestDemand_0 : decode cX8_greatestDemand 0 = .ok (.iconst 0, 1) := by decide +kernel
theorem dX8_greatestDemand_1 : decode cX8_greatestDemand 1 = .ok (.istore_n 3, 1) := by decide +kernel
theorem dX8_greatestDemand_2 : decode cX8_greatestDemand 2 = .ok (.iconst 0, 1) := by decide +kernel
theorem dX8_greatestDemand_3 : decode cX8_greatestDemand 3 = .ok (.istore 4, 2) := by decide +kernel
theorem dX8_greatestDemand_5 : decode cX8_greatestDemand 5 = .ok (.iload 4, 2) := by decide +kernel
theorem dX8_greatestDemand_7 : decode cX8_greatestDemand 7 = .ok (.iload_n 1, 1) := by decide +kernel
theorem dX8_greatestDemand_8 : decode cX8_greatestDemand 8 = .ok (.if_icmp .ge 33, 3) := by decide +kernel
theorem dX8_greatestDemand_11 : decode cX8_greatestDemand 11 = .ok (.aload_n 0, 1) := by decide +kernel
theorem dX8_greatestDemand_12 : decode cX8_greatestDemand 12 = .ok (.getfield 16, 3) := by decide +kernel
theorem dX8_greatestDemand_15 : decode cX8_greatestDemand 15 = .ok (.invokevirtual 123, 3) := by decide +kernel
theorem dX8_greatestDemand_18 : decode cX8_greatestDemand 18 = .ok (.iload_n 3, 1) := by decide +kernel
theorem dX8_greatestDemand_19 : decode cX8_greatestDemand 19 = .ok (.aload_n 0, 1) := by decide +kernel
theorem dX8_greatestDemand_20 : decode cX8_greatestDemand 20 = .ok (.getfield 16, 3) := by decide +kernel
theorem dX8_greatestDemand_23 : decode cX8_greatestDemand 23 = .ok (.getfield 68, 3) := by decide +kernel
theorem dX8_greatestDemand_26 : decode cX8_greatestDemand 26 = .ok (.getfield 151, 3) := by decide +kernel
theorem dX8_greatestDemand_29 : decode cX8_greatestDemand 29 = .ok (.iload_n 2, 1) := by decide +kernel
theorem dX8_greatestDemand_30 : decode cX8_greatestDemand 30 = .ok (.iaload, 1) := by decide +kernel
theorem dX8_greatestDemand_31 : decode cX8_greatestDemand 31 = .ok (.invokestatic 234, 3) := by decide +kernel
theorem dX8_greatestDemand_34 : decode cX8_greatestDemand 34 = .ok (.istore_n 3, 1) := by decide +kernel
theorem dX8_greatestDemand_35 : decode cX8_greatestDemand 35 = .ok (.iinc 4 1, 3) := by decide +kernel
theorem dX8_greatestDemand_38 : decode cX8_greatestDemand 38 = .ok (.goto (-33), 3) := by decide +kernel
theorem dX8_greatestDemand_41 : decode cX8_greatestDemand 41 = .ok (.iload_n 3, 1) := by decide +kernel
theorem dX8_greatestDemand_42 : decode cX8_greatestDemand 42 = .ok (.ireturn, 1) := by decide +kernel
theorem dX8_shortTicks_0 : decode cX8_shortTicks 0 = .ok (.aload_n 0, 1) := by decide +kernel
theorem dX8_shortTicks_1 : decode cX8_shortTicks 1 = .ok (.getfield 16, 3) := by decide +kernel
theorem dX8_shortTicks_4 : decode cX8_shortTicks 4 = .ok (.getfield 68, 3) := by decide +kernel
theorem dX8_shortTicks_7 : decode cX8_shortTicks 7 = .ok (.getfield 154, 3) := by decide +kernel
theorem dX8_shortTicks_10 : decode cX8_shortTicks 10 = .ok (.iload_n 2, 1) := by decide +kernel
theorem dX8_shortTicks_11 : decode cX8_shortTicks 11 = .ok (.iaload, 1) := by decide +kernel
theorem dX8_shortTicks_12 : decode cX8_shortTicks 12 = .ok (.istore_n 3, 1) := by decide +kernel
theorem dX8_shortTicks_13 : decode cX8_shortTicks 13 = .ok (.iconst 0, 1) := by decide +kernel
theorem dX8_shortTicks_14 : decode cX8_shortTicks 14 = .ok (.istore 4, 2) := by decide +kernel
theorem dX8_shortTicks_16 : decode cX8_shortTicks 16 = .ok (.iload 4, 2) := by decide +kernel
theorem dX8_shortTicks_18 : decode cX8_shortTicks 18 = .ok (.iload_n 1, 1) := by decide +kernel
theorem dX8_shortTicks_19 : decode cX8_shortTicks 19 = .ok (.if_icmp .ge 16, 3) := by decide +kernel
theorem dX8_shortTicks_22 : decode cX8_shortTicks 22 = .ok (.aload_n 0, 1) := by decide +kernel
theorem dX8_shortTicks_23 : decode cX8_shortTicks 23 = .ok (.getfield 16, 3) := by decide +kernel
theorem dX8_shortTicks_26 : decode cX8_shortTicks 26 = .ok (.invokevirtual 123, 3) := by decide +kernel
theorem dX8_shortTicks_29 : decode cX8_shortTicks 29 = .ok (.iinc 4 1, 3) := by decide +kernel
theorem dX8_shortTicks_32 : decode cX8_shortTicks 32 = .ok (.goto (-16), 3) := by decide +kernel
theorem dX8_shortTicks_35 : decode cX8_shortTicks 35 = .ok (.aload_n 0, 1) := by decide +kernel
theorem dX8_shortTicks_36 : decode cX8_shortTicks 36 = .ok (.getfield 16, 3) := by decide +kernel
theorem dX8_shortTicks_39 : decode cX8_shortTicks 39 = .ok (.getfield 68, 3) := by decide +kernel
theorem dX8_shortTicks_42 : decode cX8_shortTicks 42 = .ok (.getfield 154, 3) := by decide +kernel
theorem dX8_shortTicks_45 : decode cX8_shortTicks 45 = .ok (.iload_n 2, 1) := by decide +kernel
theorem dX8_shortTicks_46 : decode cX8_shortTicks 46 = .ok (.iaload, 1) := by decide +kernel
theorem dX8_shortTicks_47 : decode cX8_shortTicks 47 = .ok (.iload_n 3, 1) := by decide +kernel
theorem dX8_shortTicks_48 : decode cX8_shortTicks 48 = .ok (.isub, 1) := by decide +kernel
theorem dX8_shortTicks_49 : decode cX8_shortTicks 49 = .ok (.ireturn, 1) := by decide +kernel
theorem dX8_firstShort_0 : decode cX8_firstShort 0 = .ok (.iconst 0, 1) := by decide +kernel
theorem dX8_firstShort_1 : decode cX8_firstShort 1 = .ok (.istore_n 3, 1) := by decide +kernel
theorem dX8_firstShort_2 : decode cX8_firstShort 2 = .ok (.iload_n 3, 1) := by decide +kernel
theorem dX8_firstShort_3 : decode cX8_firstShort 3 = .ok (.iload_n 1, 1) := by decide +kernel
theorem dX8_firstShort_4 : decode cX8_firstShort 4 = .ok (.if_icmp .ge 32, 3) := by decide +kernel
theorem dX8_firstShort_7 : decode cX8_firstShort 7 = .ok (.aload_n 0, 1) := by decide +kernel
theorem dX8_firstShort_8 : decode cX8_firstShort 8 = .ok (.getfield 16, 3) := by decide +kernel
theorem dX8_firstShort_11 : decode cX8_firstShort 11 = .ok (.invokevirtual 123, 3) := by decide +kernel
theorem dX8_firstShort_14 : decode cX8_firstShort 14 = .ok (.aload_n 0, 1) := by decide +kernel
theorem dX8_firstShort_15 : decode cX8_firstShort 15 = .ok (.getfield 16, 3) := by decide +kernel
theorem dX8_firstShort_18 : decode cX8_firstShort 18 = .ok (.getfield 68, 3) := by decide +kernel
theorem dX8_firstShort_21 : decode cX8_firstShort 21 = .ok (.iload_n 2, 1) := by decide +kernel
theorem dX8_firstShort_22 : decode cX8_firstShort 22 = .ok (.invokevirtual 237, 3) := by decide +kernel
theorem dX8_firstShort_25 : decode cX8_firstShort 25 = .ok (.ifCond .eq 5, 3) := by decide +kernel
theorem dX8_firstShort_28 : decode cX8_firstShort 28 = .ok (.iload_n 3, 1) := by decide +kernel
theorem dX8_firstShort_29 : decode cX8_firstShort 29 = .ok (.ireturn, 1) := by decide +kernel
theorem dX8_firstShort_30 : decode cX8_firstShort 30 = .ok (.iinc 3 1, 3) := by decide +kernel
theorem dX8_firstShort_33 : decode cX8_firstShort 33 = .ok (.goto (-31), 3) := by decide +kernel
theorem dX8_firstShort_36 : decode cX8_firstShort 36 = .ok (.bipush (-6), 2) := by decide +kernel
theorem dX8_firstShort_38 : decode cX8_firstShort 38 = .ok (.ireturn, 1) := by decide +kernel
theorem dX8_wetTicks_0 : decode cX8_wetTicks 0 = .ok (.aload_n 0, 1) := by decide +kernel
theorem dX8_wetTicks_1 : decode cX8_wetTicks 1 = .ok (.getfield 16, 3) := by decide +kernel
theorem dX8_wetTicks_4 : decode cX8_wetTicks 4 = .ok (.getfield 171, 3) := by decide +kernel
theorem dX8_wetTicks_7 : decode cX8_wetTicks 7 = .ok (.istore_n 2, 1) := by decide +kernel
theorem dX8_wetTicks_8 : decode cX8_wetTicks 8 = .ok (.iconst 0, 1) := by decide +kernel
theorem dX8_wetTicks_9 : decode cX8_wetTicks 9 = .ok (.istore_n 3, 1) := by decide +kernel
theorem dX8_wetTicks_10 : decode cX8_wetTicks 10 = .ok (.iload_n 3, 1) := by decide +kernel
theorem dX8_wetTicks_11 : decode cX8_wetTicks 11 = .ok (.iload_n 1, 1) := by decide +kernel
theorem dX8_wetTicks_12 : decode cX8_wetTicks 12 = .ok (.if_icmp .ge 16, 3) := by decide +kernel
theorem dX8_wetTicks_15 : decode cX8_wetTicks 15 = .ok (.aload_n 0, 1) := by decide +kernel
theorem dX8_wetTicks_16 : decode cX8_wetTicks 16 = .ok (.getfield 16, 3) := by decide +kernel
theorem dX8_wetTicks_19 : decode cX8_wetTicks 19 = .ok (.invokevirtual 123, 3) := by decide +kernel
theorem dX8_wetTicks_22 : decode cX8_wetTicks 22 = .ok (.iinc 3 1, 3) := by decide +kernel
theorem dX8_wetTicks_25 : decode cX8_wetTicks 25 = .ok (.goto (-15), 3) := by decide +kernel
theorem dX8_wetTicks_28 : decode cX8_wetTicks 28 = .ok (.aload_n 0, 1) := by decide +kernel
theorem dX8_wetTicks_29 : decode cX8_wetTicks 29 = .ok (.getfield 16, 3) := by decide +kernel
theorem dX8_wetTicks_32 : decode cX8_wetTicks 32 = .ok (.getfield 171, 3) := by decide +kernel
theorem dX8_wetTicks_35 : decode cX8_wetTicks 35 = .ok (.iload_n 2, 1) := by decide +kernel
theorem dX8_wetTicks_36 : decode cX8_wetTicks 36 = .ok (.isub, 1) := by decide +kernel
theorem dX8_wetTicks_37 : decode cX8_wetTicks 37 = .ok (.ireturn, 1) := by decide +kernel
theorem dX8_greatestHeight_0 : decode cX8_greatestHeight 0 = .ok (.iconst 0, 1) := by decide +kernel
theorem dX8_greatestHeight_1 : decode cX8_greatestHeight 1 = .ok (.istore_n 2, 1) := by decide +kernel
theorem dX8_greatestHeight_2 : decode cX8_greatestHeight 2 = .ok (.iconst 0, 1) := by decide +kernel
theorem dX8_greatestHeight_3 : decode cX8_greatestHeight 3 = .ok (.istore_n 3, 1) := by decide +kernel
theorem dX8_greatestHeight_4 : decode cX8_greatestHeight 4 = .ok (.iload_n 3, 1) := by decide +kernel
theorem dX8_greatestHeight_5 : decode cX8_greatestHeight 5 = .ok (.iload_n 1, 1) := by decide +kernel
theorem dX8_greatestHeight_6 : decode cX8_greatestHeight 6 = .ok (.if_icmp .ge 31, 3) := by decide +kernel
theorem dX8_greatestHeight_9 : decode cX8_greatestHeight 9 = .ok (.aload_n 0, 1) := by decide +kernel
theorem dX8_greatestHeight_10 : decode cX8_greatestHeight 10 = .ok (.getfield 16, 3) := by decide +kernel
theorem dX8_greatestHeight_13 : decode cX8_greatestHeight 13 = .ok (.invokevirtual 123, 3) := by decide +kernel
theorem dX8_greatestHeight_16 : decode cX8_greatestHeight 16 = .ok (.iload_n 2, 1) := by decide +kernel
theorem dX8_greatestHeight_17 : decode cX8_greatestHeight 17 = .ok (.aload_n 0, 1) := by decide +kernel
theorem dX8_greatestHeight_18 : decode cX8_greatestHeight 18 = .ok (.getfield 16, 3) := by decide +kernel
theorem dX8_greatestHeight_21 : decode cX8_greatestHeight 21 = .ok (.getfield 40, 3) := by decide +kernel
theorem dX8_greatestHeight_24 : decode cX8_greatestHeight 24 = .ok (.invokevirtual 240, 3) := by decide +kernel
theorem dX8_greatestHeight_27 : decode cX8_greatestHeight 27 = .ok (.invokestatic 234, 3) := by decide +kernel
theorem dX8_greatestHeight_30 : decode cX8_greatestHeight 30 = .ok (.istore_n 2, 1) := by decide +kernel
theorem dX8_greatestHeight_31 : decode cX8_greatestHeight 31 = .ok (.iinc 3 1, 3) := by decide +kernel
theorem dX8_greatestHeight_34 : decode cX8_greatestHeight 34 = .ok (.goto (-30), 3) := by decide +kernel
theorem dX8_greatestHeight_37 : decode cX8_greatestHeight 37 = .ok (.iload_n 2, 1) := by decide +kernel
theorem dX8_greatestHeight_38 : decode cX8_greatestHeight 38 = .ok (.ireturn, 1) := by decide +kernel
theorem dX8_staysSupplied_0 : decode cX8_staysSupplied 0 = .ok (.iconst 0, 1) := by decide +kernel
theorem dX8_staysSupplied_1 : decode cX8_staysSupplied 1 = .ok (.istore_n 2, 1) := by decide +kernel
theorem dX8_staysSupplied_2 : decode cX8_staysSupplied 2 = .ok (.iload_n 2, 1) := by decide +kernel
theorem dX8_staysSupplied_3 : decode cX8_staysSupplied 3 = .ok (.iload_n 1, 1) := by decide +kernel
theorem dX8_staysSupplied_4 : decode cX8_staysSupplied 4 = .ok (.if_icmp .ge 31, 3) := by decide +kernel
theorem dX8_staysSupplied_7 : decode cX8_staysSupplied 7 = .ok (.aload_n 0, 1) := by decide +kernel
theorem dX8_staysSupplied_8 : decode cX8_staysSupplied 8 = .ok (.getfield 16, 3) := by decide +kernel
theorem dX8_staysSupplied_11 : decode cX8_staysSupplied 11 = .ok (.invokevirtual 123, 3) := by decide +kernel
theorem dX8_staysSupplied_14 : decode cX8_staysSupplied 14 = .ok (.aload_n 0, 1) := by decide +kernel
theorem dX8_staysSupplied_15 : decode cX8_staysSupplied 15 = .ok (.getfield 16, 3) := by decide +kernel
theorem dX8_staysSupplied_18 : decode cX8_staysSupplied 18 = .ok (.getfield 68, 3) := by decide +kernel
theorem dX8_staysSupplied_21 : decode cX8_staysSupplied 21 = .ok (.invokevirtual 243, 3) := by decide +kernel
theorem dX8_staysSupplied_24 : decode cX8_staysSupplied 24 = .ok (.ifCond .eq 5, 3) := by decide +kernel
theorem dX8_staysSupplied_27 : decode cX8_staysSupplied 27 = .ok (.iconst 0, 1) := by decide +kernel
theorem dX8_staysSupplied_28 : decode cX8_staysSupplied 28 = .ok (.ireturn, 1) := by decide +kernel
theorem dX8_staysSupplied_29 : decode cX8_staysSupplied 29 = .ok (.iinc 2 1, 3) := by decide +kernel
theorem dX8_staysSupplied_32 : decode cX8_staysSupplied 32 = .ok (.goto (-30), 3) := by decide +kernel
theorem dX8_staysSupplied_35 : decode cX8_staysSupplied 35 = .ok (.iconst 1, 1) := by decide +kernel
theorem dX8_staysSupplied_36 : decode cX8_staysSupplied 36 = .ok (.ireturn, 1) := by decide +kernel
theorem dX8_staysDry_0 : decode cX8_staysDry 0 = .ok (.aload_n 0, 1) := by decide +kernel
theorem dX8_staysDry_1 : decode cX8_staysDry 1 = .ok (.getfield 16, 3) := by decide +kernel
theorem dX8_staysDry_4 : decode cX8_staysDry 4 = .ok (.getfield 171, 3) := by decide +kernel
theorem dX8_staysDry_7 : decode cX8_staysDry 7 = .ok (.istore_n 2, 1) := by decide +kernel
theorem dX8_staysDry_8 : decode cX8_staysDry 8 = .ok (.aload_n 0, 1) := by decide +kernel
theorem dX8_staysDry_9 : decode cX8_staysDry 9 = .ok (.getfield 16, 3) := by decide +kernel
theorem dX8_staysDry_12 : decode cX8_staysDry 12 = .ok (.getfield 40, 3) := by decide +kernel
theorem dX8_staysDry_15 : decode cX8_staysDry 15 = .ok (.iconst 0, 1) := by decide +kernel
theorem dX8_staysDry_16 : decode cX8_staysDry 16 = .ok (.putfield 209, 3) := by decide +kernel
theorem dX8_staysDry_19 : decode cX8_staysDry 19 = .ok (.iconst 0, 1) := by decide +kernel
theorem dX8_staysDry_20 : decode cX8_staysDry 20 = .ok (.istore_n 3, 1) := by decide +kernel
theorem dX8_staysDry_21 : decode cX8_staysDry 21 = .ok (.iload_n 3, 1) := by decide +kernel
theorem dX8_staysDry_22 : decode cX8_staysDry 22 = .ok (.iload_n 1, 1) := by decide +kernel
theorem dX8_staysDry_23 : decode cX8_staysDry 23 = .ok (.if_icmp .ge 29, 3) := by decide +kernel
theorem dX8_staysDry_26 : decode cX8_staysDry 26 = .ok (.aload_n 0, 1) := by decide +kernel
theorem dX8_staysDry_27 : decode cX8_staysDry 27 = .ok (.getfield 16, 3) := by decide +kernel
theorem dX8_staysDry_30 : decode cX8_staysDry 30 = .ok (.invokevirtual 123, 3) := by decide +kernel
theorem dX8_staysDry_33 : decode cX8_staysDry 33 = .ok (.aload_n 0, 1) := by decide +kernel
theorem dX8_staysDry_34 : decode cX8_staysDry 34 = .ok (.getfield 16, 3) := by decide +kernel
theorem dX8_staysDry_37 : decode cX8_staysDry 37 = .ok (.getfield 171, 3) := by decide +kernel
theorem dX8_staysDry_40 : decode cX8_staysDry 40 = .ok (.iload_n 2, 1) := by decide +kernel
theorem dX8_staysDry_41 : decode cX8_staysDry 41 = .ok (.if_icmp .le 5, 3) := by decide +kernel
theorem dX8_staysDry_44 : decode cX8_staysDry 44 = .ok (.iconst 0, 1) := by decide +kernel
theorem dX8_staysDry_45 : decode cX8_staysDry 45 = .ok (.ireturn, 1) := by decide +kernel
theorem dX8_staysDry_46 : decode cX8_staysDry 46 = .ok (.iinc 3 1, 3) := by decide +kernel
theorem dX8_staysDry_49 : decode cX8_staysDry 49 = .ok (.goto (-28), 3) := by decide +kernel
theorem dX8_staysDry_52 : decode cX8_staysDry 52 = .ok (.iconst 1, 1) := by decide +kernel
theorem dX8_staysDry_53 : decode cX8_staysDry 53 = .ok (.ireturn, 1) := by decide +kernel
theorem dX8_within_0 : decode cX8_within 0 = .ok (.iload_n 0, 1) := by decide +kernel
theorem dX8_within_1 : decode cX8_within 1 = .ok (.iload_n 1, 1) := by decide +kernel
theorem dX8_within_2 : decode cX8_within 2 = .ok (.if_icmp .lt 12, 3) := by decide +kernel
theorem dX8_within_5 : decode cX8_within 5 = .ok (.iload_n 0, 1) := by decide +kernel
theorem dX8_within_6 : decode cX8_within 6 = .ok (.iload_n 2, 1) := by decide +kernel
theorem dX8_within_7 : decode cX8_within 7 = .ok (.if_icmp .gt 7, 3) := by decide +kernel
theorem dX8_within_10 : decode cX8_within 10 = .ok (.iconst 1, 1) := by decide +kernel
theorem dX8_within_11 : decode cX8_within 11 = .ok (.goto 4, 3) := by decide +kernel
theorem dX8_within_14 : decode cX8_within 14 = .ok (.iconst 0, 1) := by decide +kernel
theorem dX8_within_15 : decode cX8_within 15 = .ok (.ireturn, 1) := by decide +kernel
theorem dX8_quotient_0 : decode cX8_quotient 0 = .ok (.lload_n 2, 1) := by decide +kernel
theorem dX8_quotient_1 : decode cX8_quotient 1 = .ok (.lconst 1, 1) := by decide +kernel
theorem dX8_quotient_2 : decode cX8_quotient 2 = .ok (.lcmp, 1) := by decide +kernel
theorem dX8_quotient_3 : decode cX8_quotient 3 = .ok (.ifCond .ge 7, 3) := by decide +kernel
theorem dX8_quotient_6 : decode cX8_quotient 6 = .ok (.lconst 0, 1) := by decide +kernel
theorem dX8_quotient_7 : decode cX8_quotient 7 = .ok (.goto 8, 3) := by decide +kernel
theorem dX8_quotient_10 : decode cX8_quotient 10 = .ok (.lload_n 0, 1) := by decide +kernel
theorem dX8_quotient_11 : decode cX8_quotient 11 = .ok (.lload_n 2, 1) := by decide +kernel
theorem dX8_quotient_12 : decode cX8_quotient 12 = .ok (.invokestatic 247, 3) := by decide +kernel
theorem dX8_quotient_15 : decode cX8_quotient 15 = .ok (.lreturn, 1) := by decide +kernel
theorem dX8_toward_0 : decode cX8_toward 0 = .ok (.iload_n 0, 1) := by decide +kernel
theorem dX8_toward_1 : decode cX8_toward 1 = .ok (.iload_n 1, 1) := by decide +kernel
theorem dX8_toward_2 : decode cX8_toward 2 = .ok (.if_icmp .ge 13, 3) := by decide +kernel
theorem dX8_toward_5 : decode cX8_toward 5 = .ok (.iload_n 1, 1) := by decide +kernel
theorem dX8_toward_6 : decode cX8_toward 6 = .ok (.iload_n 0, 1) := by decide +kernel
theorem dX8_toward_7 : decode cX8_toward 7 = .ok (.iload_n 2, 1) := by decide +kernel
theorem dX8_toward_8 : decode cX8_toward 8 = .ok (.iadd, 1) := by decide +kernel
theorem dX8_toward_9 : decode cX8_toward 9 = .ok (.invokestatic 198, 3) := by decide +kernel
theorem dX8_toward_12 : decode cX8_toward 12 = .ok (.goto 10, 3) := by decide +kernel
theorem dX8_toward_15 : decode cX8_toward 15 = .ok (.iload_n 1, 1) := by decide +kernel
theorem dX8_toward_16 : decode cX8_toward 16 = .ok (.iload_n 0, 1) := by decide +kernel
theorem dX8_toward_17 : decode cX8_toward 17 = .ok (.iload_n 2, 1) := by decide +kernel
theorem dX8_toward_18 : decode cX8_toward 18 = .ok (.isub, 1) := by decide +kernel
theorem dX8_toward_19 : decode cX8_toward 19 = .ok (.invokestatic 234, 3) := by decide +kernel
theorem dX8_toward_22 : decode cX8_toward 22 = .ok (.ireturn, 1) := by decide +kernel
theorem dX8_copyRow_0 : decode cX8_copyRow 0 = .ok (.aload_n 0, 1) := by decide +kernel
theorem dX8_copyRow_1 : decode cX8_copyRow 1 = .ok (.iconst 0, 1) := by decide +kernel
theorem dX8_copyRow_2 : decode cX8_copyRow 2 = .ok (.aload_n 1, 1) := by decide +kernel
theorem dX8_copyRow_3 : decode cX8_copyRow 3 = .ok (.iconst 0, 1) := by decide +kernel
theorem dX8_copyRow_4 : decode cX8_copyRow 4 = .ok (.aload_n 0, 1) := by decide +kernel
theorem dX8_copyRow_5 : decode cX8_copyRow 5 = .ok (.arraylength, 1) := by decide +kernel
theorem dX8_copyRow_6 : decode cX8_copyRow 6 = .ok (.aload_n 1, 1) := by decide +kernel
theorem dX8_copyRow_7 : decode cX8_copyRow 7 = .ok (.arraylength, 1) := by decide +kernel
theorem dX8_copyRow_8 : decode cX8_copyRow 8 = .ok (.invokestatic 198, 3) := by decide +kernel
theorem dX8_copyRow_11 : decode cX8_copyRow 11 = .ok (.invokestatic 251, 3) := by decide +kernel
theorem dX8_copyRow_14 : decode cX8_copyRow 14 = .ok (.return_, 1) := by decide +kernel
theorem dX8_clear_0 : decode cX8_clear 0 = .ok (.iconst 0, 1) := by decide +kernel
theorem dX8_clear_1 : decode cX8_clear 1 = .ok (.istore_n 1, 1) := by decide +kernel
theorem dX8_clear_2 : decode cX8_clear 2 = .ok (.iload_n 1, 1) := by decide +kernel
theorem dX8_clear_3 : decode cX8_clear 3 = .ok (.aload_n 0, 1) := by decide +kernel
theorem dX8_clear_4 : decode cX8_clear 4 = .ok (.arraylength, 1) := by decide +kernel
theorem dX8_clear_5 : decode cX8_clear 5 = .ok (.if_icmp .ge 13, 3) := by decide +kernel
theorem dX8_clear_8 : decode cX8_clear 8 = .ok (.aload_n 0, 1) := by decide +kernel
theorem dX8_clear_9 : decode cX8_clear 9 = .ok (.iload_n 1, 1) := by decide +kernel
theorem dX8_clear_10 : decode cX8_clear 10 = .ok (.iconst 0, 1) := by decide +kernel
theorem dX8_clear_11 : decode cX8_clear 11 = .ok (.iastore, 1) := by decide +kernel
theorem dX8_clear_12 : decode cX8_clear 12 = .ok (.iinc 1 1, 3) := by decide +kernel
theorem dX8_clear_15 : decode cX8_clear 15 = .ok (.goto (-13), 3) := by decide +kernel
theorem dX8_clear_18 : decode cX8_clear 18 = .ok (.return_, 1) := by decide +kernel
theorem dJ9_floorDiv_f86c9_0 : decode cJ9_floorDiv_f86c9 0 = .ok (.lload_n 0, 1) := by decide +kernel
theorem dJ9_floorDiv_f86c9_1 : decode cJ9_floorDiv_f86c9 1 = .ok (.lload_n 2, 1) := by decide +kernel
theorem dJ9_floorDiv_f86c9_2 : decode cJ9_floorDiv_f86c9 2 = .ok (.ldiv, 1) := by decide +kernel
theorem dJ9_floorDiv_f86c9_3 : decode cJ9_floorDiv_f86c9 3 = .ok (.lstore 4, 2) := by decide +kernel
theorem dJ9_floorDiv_f86c9_5 : decode cJ9_floorDiv_f86c9 5 = .ok (.lload_n 0, 1) := by decide +kernel
theorem dJ9_floorDiv_f86c9_6 : decode cJ9_floorDiv_f86c9 6 = .ok (.lload_n 2, 1) := by decide +kernel
theorem dJ9_floorDiv_f86c9_7 : decode cJ9_floorDiv_f86c9 7 = .ok (.lxor, 1) := by decide +kernel
theorem dJ9_floorDiv_f86c9_8 : decode cJ9_floorDiv_f86c9 8 = .ok (.lconst 0, 1) := by decide +kernel
theorem dJ9_floorDiv_f86c9_9 : decode cJ9_floorDiv_f86c9 9 = .ok (.lcmp, 1) := by decide +kernel
theorem dJ9_floorDiv_f86c9_10 : decode cJ9_floorDiv_f86c9 10 = .ok (.ifCond .ge 17, 3) := by decide +kernel
theorem dJ9_floorDiv_f86c9_13 : decode cJ9_floorDiv_f86c9 13 = .ok (.lload 4, 2) := by decide +kernel
theorem dJ9_floorDiv_f86c9_15 : decode cJ9_floorDiv_f86c9 15 = .ok (.lload_n 2, 1) := by decide +kernel
theorem dJ9_floorDiv_f86c9_16 : decode cJ9_floorDiv_f86c9 16 = .ok (.lmul, 1) := by decide +kernel
theorem dJ9_floorDiv_f86c9_17 : decode cJ9_floorDiv_f86c9 17 = .ok (.lload_n 0, 1) := by decide +kernel
theorem dJ9_floorDiv_f86c9_18 : decode cJ9_floorDiv_f86c9 18 = .ok (.lcmp, 1) := by decide +kernel
theorem dJ9_floorDiv_f86c9_19 : decode cJ9_floorDiv_f86c9 19 = .ok (.ifCond .eq 8, 3) := by decide +kernel
theorem dJ9_floorDiv_f86c9_22 : decode cJ9_floorDiv_f86c9 22 = .ok (.lload 4, 2) := by decide +kernel
theorem dJ9_floorDiv_f86c9_24 : decode cJ9_floorDiv_f86c9 24 = .ok (.lconst 1, 1) := by decide +kernel
theorem dJ9_floorDiv_f86c9_25 : decode cJ9_floorDiv_f86c9 25 = .ok (.lsub, 1) := by decide +kernel
theorem dJ9_floorDiv_f86c9_26 : decode cJ9_floorDiv_f86c9 26 = .ok (.lreturn, 1) := by decide +kernel
theorem dJ9_floorDiv_f86c9_27 : decode cJ9_floorDiv_f86c9 27 = .ok (.lload 4, 2) := by decide +kernel
theorem dJ9_floorDiv_f86c9_29 : decode cJ9_floorDiv_f86c9 29 = .ok (.lreturn, 1) := by decide +kernel
theorem dJ9_floorMod_7cf53_0 : decode cJ9_floorMod_7cf53 0 = .ok (.iload_n 0, 1) := by decide +kernel
theorem dJ9_floorMod_7cf53_1 : decode cJ9_floorMod_7cf53 1 = .ok (.iload_n 1, 1) := by decide +kernel
theorem dJ9_floorMod_7cf53_2 : decode cJ9_floorMod_7cf53 2 = .ok (.irem, 1) := by decide +kernel
theorem dJ9_floorMod_7cf53_3 : decode cJ9_floorMod_7cf53 3 = .ok (.istore_n 2, 1) := by decide +kernel
theorem dJ9_floorMod_7cf53_4 : decode cJ9_floorMod_7cf53 4 = .ok (.iload_n 0, 1) := by decide +kernel
theorem dJ9_floorMod_7cf53_5 : decode cJ9_floorMod_7cf53 5 = .ok (.iload_n 1, 1) := by decide +kernel
theorem dJ9_floorMod_7cf53_6 : decode cJ9_floorMod_7cf53 6 = .ok (.ixor, 1) := by decide +kernel
theorem dJ9_floorMod_7cf53_7 : decode cJ9_floorMod_7cf53 7 = .ok (.ifCond .ge 11, 3) := by decide +kernel
theorem dJ9_floorMod_7cf53_10 : decode cJ9_floorMod_7cf53 10 = .ok (.iload_n 2, 1) := by decide +kernel
theorem dJ9_floorMod_7cf53_11 : decode cJ9_floorMod_7cf53 11 = .ok (.ifCond .eq 7, 3) := by decide +kernel
theorem dJ9_floorMod_7cf53_14 : decode cJ9_floorMod_7cf53 14 = .ok (.iload_n 2, 1) := by decide +kernel
theorem dJ9_floorMod_7cf53_15 : decode cJ9_floorMod_7cf53 15 = .ok (.iload_n 1, 1) := by decide +kernel
theorem dJ9_floorMod_7cf53_16 : decode cJ9_floorMod_7cf53 16 = .ok (.iadd, 1) := by decide +kernel
theorem dJ9_floorMod_7cf53_17 : decode cJ9_floorMod_7cf53 17 = .ok (.ireturn, 1) := by decide +kernel
theorem dJ9_floorMod_7cf53_18 : decode cJ9_floorMod_7cf53 18 = .ok (.iload_n 2, 1) := by decide +kernel
theorem dJ9_floorMod_7cf53_19 : decode cJ9_floorMod_7cf53 19 = .ok (.ireturn, 1) := by decide +kernel
theorem dJ9_max_7cf53_0 : decode cJ9_max_7cf53 0 = .ok (.iload_n 0, 1) := by decide +kernel
theorem dJ9_max_7cf53_1 : decode cJ9_max_7cf53 1 = .ok (.iload_n 1, 1) := by decide +kernel
theorem dJ9_max_7cf53_2 : decode cJ9_max_7cf53 2 = .ok (.if_icmp .lt 7, 3) := by decide +kernel
theorem dJ9_max_7cf53_5 : decode cJ9_max_7cf53 5 = .ok (.iload_n 0, 1) := by decide +kernel
theorem dJ9_max_7cf53_6 : decode cJ9_max_7cf53 6 = .ok (.goto 4, 3) := by decide +kernel
theorem dJ9_max_7cf53_9 : decode cJ9_max_7cf53 9 = .ok (.iload_n 1, 1) := by decide +kernel
theorem dJ9_max_7cf53_10 : decode cJ9_max_7cf53 10 = .ok (.ireturn, 1) := by decide +kernel
theorem dJ9_min_7cf53_0 : decode cJ9_min_7cf53 0 = .ok (.iload_n 0, 1) := by decide +kernel
theorem dJ9_min_7cf53_1 : decode cJ9_min_7cf53 1 = .ok (.iload_n 1, 1) := by decide +kernel
theorem dJ9_min_7cf53_2 : decode cJ9_min_7cf53 2 = .ok (.if_icmp .gt 7, 3) := by decide +kernel
theorem dJ9_min_7cf53_5 : decode cJ9_min_7cf53 5 = .ok (.iload_n 0, 1) := by decide +kernel
theorem dJ9_min_7cf53_6 : decode cJ9_min_7cf53 6 = .ok (.goto 4, 3) := by decide +kernel
theorem dJ9_min_7cf53_9 : decode cJ9_min_7cf53 9 = .ok (.iload_n 1, 1) := by decide +kernel
theorem dJ9_min_7cf53_10 : decode cJ9_min_7cf53 10 = .ok (.ireturn, 1) := by decide +kernel
theorem dL_cell_0 : decode cL_cell 0 = .ok (.iload_n 1, 1) := by decide +kernel
theorem dL_cell_1 : decode cL_cell 1 = .ok (.aload_n 0, 1) := by decide +kernel
theorem dL_cell_2 : decode cL_cell 2 = .ok (.arraylength, 1) := by decide +kernel
theorem dL_cell_3 : decode cL_cell 3 = .ok (.if_icmp .ge 9, 3) := by decide +kernel
theorem dL_cell_6 : decode cL_cell 6 = .ok (.aload_n 0, 1) := by decide +kernel
theorem dL_cell_7 : decode cL_cell 7 = .ok (.iload_n 1, 1) := by decide +kernel
theorem dL_cell_8 : decode cL_cell 8 = .ok (.iaload, 1) := by decide +kernel
theorem dL_cell_9 : decode cL_cell 9 = .ok (.goto 11, 3) := by decide +kernel
theorem dL_cell_12 : decode cL_cell 12 = .ok (.ldc 7, 2) := by decide +kernel
theorem dL_cell_14 : decode cL_cell 14 = .ok (.iload_n 1, 1) := by decide +kernel
theorem dL_cell_15 : decode cL_cell 15 = .ok (.sipush 1481, 3) := by decide +kernel
theorem dL_cell_18 : decode cL_cell 18 = .ok (.iadd, 1) := by decide +kernel
theorem dL_cell_19 : decode cL_cell 19 = .ok (.imul, 1) := by decide +kernel
theorem dL_cell_20 : decode cL_cell 20 = .ok (.ireturn, 1) := by decide +kernel
theorem dL_up_0 : decode cL_up 0 = .ok (.iload_n 0, 1) := by decide +kernel
theorem dL_up_1 : decode cL_up 1 = .ok (.ldc 8, 2) := by decide +kernel
theorem dL_up_3 : decode cL_up 3 = .ok (.iand, 1) := by decide +kernel
theorem dL_up_4 : decode cL_up 4 = .ok (.iload_n 1, 1) := by decide +kernel
theorem dL_up_5 : decode cL_up 5 = .ok (.irem, 1) := by decide +kernel
theorem dL_up_6 : decode cL_up 6 = .ok (.ireturn, 1) := by decide +kernel
theorem dL_law_0 : decode cL_law 0 = .ok (.new 9, 3) := by decide +kernel
theorem dL_law_3 : decode cL_law 3 = .ok (.dup, 1) := by decide +kernel
theorem dL_law_4 : decode cL_law 4 = .ok (.invokespecial 11, 3) := by decide +kernel
theorem dL_law_7 : decode cL_law 7 = .ok (.astore_n 1, 1) := by decide +kernel
theorem dL_law_8 : decode cL_law 8 = .ok (.iconst 0, 1) := by decide +kernel
theorem dL_law_9 : decode cL_law 9 = .ok (.istore_n 2, 1) := by decide +kernel
theorem dL_law_10 : decode cL_law 10 = .ok (.aload_n 1, 1) := by decide +kernel
theorem dL_law_11 : decode cL_law 11 = .ok (.aload_n 0, 1) := by decide +kernel
theorem dL_law_12 : decode cL_law 12 = .ok (.iload_n 2, 1) := by decide +kernel
theorem dL_law_13 : decode cL_law 13 = .ok (.iinc 2 1, 3) := by decide +kernel
theorem dL_law_16 : decode cL_law 16 = .ok (.invokestatic 12, 3) := by decide +kernel
theorem dL_law_19 : decode cL_law 19 = .ok (.invokestatic 18, 3) := by decide +kernel
theorem dL_law_22 : decode cL_law 22 = .ok (.ifCond .ne 5, 3) := by decide +kernel
theorem dL_law_25 : decode cL_law 25 = .ok (.iconst 0, 1) := by decide +kernel
theorem dL_law_26 : decode cL_law 26 = .ok (.ireturn, 1) := by decide +kernel
theorem dL_law_27 : decode cL_law 27 = .ok (.aload_n 0, 1) := by decide +kernel
theorem dL_law_28 : decode cL_law 28 = .ok (.iload_n 2, 1) := by decide +kernel
theorem dL_law_29 : decode cL_law 29 = .ok (.iinc 2 1, 3) := by decide +kernel
theorem dL_law_32 : decode cL_law 32 = .ok (.invokestatic 12, 3) := by decide +kernel
theorem dL_law_35 : decode cL_law 35 = .ok (.istore_n 3, 1) := by decide +kernel
theorem dL_law_36 : decode cL_law 36 = .ok (.iconst 1, 1) := by decide +kernel
theorem dL_law_37 : decode cL_law 37 = .ok (.iload_n 3, 1) := by decide +kernel
theorem dL_law_38 : decode cL_law 38 = .ok (.bipush 12, 2) := by decide +kernel
theorem dL_law_40 : decode cL_law 40 = .ok (.invokestatic 22, 3) := by decide +kernel
theorem dL_law_43 : decode cL_law 43 = .ok (.iadd, 1) := by decide +kernel
theorem dL_law_44 : decode cL_law 44 = .ok (.istore 4, 2) := by decide +kernel
theorem dL_law_46 : decode cL_law 46 = .ok (.aload_n 1, 1) := by decide +kernel
theorem dL_law_47 : decode cL_law 47 = .ok (.iload 4, 2) := by decide +kernel
theorem dL_law_49 : decode cL_law 49 = .ok (.invokevirtual 26, 3) := by decide +kernel
theorem dL_law_52 : decode cL_law 52 = .ok (.iconst 4, 1) := by decide +kernel
theorem dL_law_53 : decode cL_law 53 = .ok (.if_icmp .eq 5, 3) := by decide +kernel
theorem dL_law_56 : decode cL_law 56 = .ok (.iconst 0, 1) := by decide +kernel
theorem dL_law_57 : decode cL_law 57 = .ok (.ireturn, 1) := by decide +kernel
theorem dL_law_58 : decode cL_law 58 = .ok (.iconst 0, 1) := by decide +kernel
theorem dL_law_59 : decode cL_law 59 = .ok (.istore 5, 2) := by decide +kernel
theorem dL_law_61 : decode cL_law 61 = .ok (.iload 5, 2) := by decide +kernel
theorem dL_law_63 : decode cL_law 63 = .ok (.iload 4, 2) := by decide +kernel
theorem dL_law_65 : decode cL_law 65 = .ok (.if_icmp .ge 123, 3) := by decide +kernel
theorem dL_law_68 : decode cL_law 68 = .ok (.aload_n 0, 1) := by decide +kernel
theorem dL_law_69 : decode cL_law 69 = .ok (.iload_n 2, 1) := by decide +kernel
theorem dL_law_70 : decode cL_law 70 = .ok (.iinc 2 1, 3) := by decide +kernel
theorem dL_law_73 : decode cL_law 73 = .ok (.invokestatic 12, 3) := by decide +kernel
theorem dL_law_76 : decode cL_law 76 = .ok (.istore_n 3, 1) := by decide +kernel
theorem dL_law_77 : decode cL_law 77 = .ok (.aload_n 1, 1) := by decide +kernel
theorem dL_law_78 : decode cL_law 78 = .ok (.iload 5, 2) := by decide +kernel
theorem dL_law_80 : decode cL_law 80 = .ok (.iconst 0, 1) := by decide +kernel
theorem dL_law_81 : decode cL_law 81 = .ok (.iconst 1, 1) := by decide +kernel
theorem dL_law_82 : decode cL_law 82 = .ok (.iload_n 3, 1) := by decide +kernel
theorem dL_law_83 : decode cL_law 83 = .ok (.bipush 100, 2) := by decide +kernel
theorem dL_law_85 : decode cL_law 85 = .ok (.invokestatic 22, 3) := by decide +kernel
theorem dL_law_88 : decode cL_law 88 = .ok (.iadd, 1) := by decide +kernel
theorem dL_law_89 : decode cL_law 89 = .ok (.invokevirtual 30, 3) := by decide +kernel
theorem dL_law_92 : decode cL_law 92 = .ok (.pop, 1) := by decide +kernel
theorem dL_law_93 : decode cL_law 93 = .ok (.aload_n 1, 1) := by decide +kernel
theorem dL_law_94 : decode cL_law 94 = .ok (.iload 5, 2) := by decide +kernel
theorem dL_law_96 : decode cL_law 96 = .ok (.iconst 1, 1) := by decide +kernel
theorem dL_law_97 : decode cL_law 97 = .ok (.iconst 1, 1) := by decide +kernel
theorem dL_law_98 : decode cL_law 98 = .ok (.iload_n 3, 1) := by decide +kernel
theorem dL_law_99 : decode cL_law 99 = .ok (.bipush 7, 2) := by decide +kernel
theorem dL_law_101 : decode cL_law 101 = .ok (.ishr, 1) := by decide +kernel
theorem dL_law_102 : decode cL_law 102 = .ok (.sipush 5000, 3) := by decide +kernel
theorem dL_law_105 : decode cL_law 105 = .ok (.invokestatic 22, 3) := by decide +kernel
theorem dL_law_108 : decode cL_law 108 = .ok (.iadd, 1) := by decide +kernel
theorem dL_law_109 : decode cL_law 109 = .ok (.invokevirtual 30, 3) := by decide +kernel
theorem dL_law_112 : decode cL_law 112 = .ok (.pop, 1) := by decide +kernel
theorem dL_law_113 : decode cL_law 113 = .ok (.aload_n 1, 1) := by decide +kernel
theorem dL_law_114 : decode cL_law 114 = .ok (.iload 5, 2) := by decide +kernel
theorem dL_law_116 : decode cL_law 116 = .ok (.iconst 2, 1) := by decide +kernel
theorem dL_law_117 : decode cL_law 117 = .ok (.iload_n 3, 1) := by decide +kernel
theorem dL_law_118 : decode cL_law 118 = .ok (.bipush 11, 2) := by decide +kernel
theorem dL_law_120 : decode cL_law 120 = .ok (.ishr, 1) := by decide +kernel
theorem dL_law_121 : decode cL_law 121 = .ok (.bipush 20, 2) := by decide +kernel
theorem dL_law_123 : decode cL_law 123 = .ok (.invokestatic 22, 3) := by decide +kernel
theorem dL_law_126 : decode cL_law 126 = .ok (.invokevirtual 30, 3) := by decide +kernel
theorem dL_law_129 : decode cL_law 129 = .ok (.pop, 1) := by decide +kernel
theorem dL_law_130 : decode cL_law 130 = .ok (.aload_n 1, 1) := by decide +kernel
theorem dL_law_131 : decode cL_law 131 = .ok (.iload 5, 2) := by decide +kernel
theorem dL_law_133 : decode cL_law 133 = .ok (.iconst 3, 1) := by decide +kernel
theorem dL_law_134 : decode cL_law 134 = .ok (.iconst 1, 1) := by decide +kernel
theorem dL_law_135 : decode cL_law 135 = .ok (.iload_n 3, 1) := by decide +kernel
theorem dL_law_136 : decode cL_law 136 = .ok (.iconst 3, 1) := by decide +kernel
theorem dL_law_137 : decode cL_law 137 = .ok (.ishr, 1) := by decide +kernel
theorem dL_law_138 : decode cL_law 138 = .ok (.sipush 1000, 3) := by decide +kernel
theorem dL_law_141 : decode cL_law 141 = .ok (.invokestatic 22, 3) := by decide +kernel
theorem dL_law_144 : decode cL_law 144 = .ok (.iadd, 1) := by decide +kernel
theorem dL_law_145 : decode cL_law 145 = .ok (.invokevirtual 30, 3) := by decide +kernel
theorem dL_law_148 : decode cL_law 148 = .ok (.pop, 1) := by decide +kernel
theorem dL_law_149 : decode cL_law 149 = .ok (.aload_n 1, 1) := by decide +kernel
theorem dL_law_150 : decode cL_law 150 = .ok (.iload 5, 2) := by decide +kernel
theorem dL_law_152 : decode cL_law 152 = .ok (.iconst 4, 1) := by decide +kernel
theorem dL_law_153 : decode cL_law 153 = .ok (.iload_n 3, 1) := by decide +kernel
theorem dL_law_154 : decode cL_law 154 = .ok (.bipush 17, 2) := by decide +kernel
theorem dL_law_156 : decode cL_law 156 = .ok (.ishr, 1) := by decide +kernel
theorem dL_law_157 : decode cL_law 157 = .ok (.iconst 3, 1) := by decide +kernel
theorem dL_law_158 : decode cL_law 158 = .ok (.invokestatic 22, 3) := by decide +kernel
theorem dL_law_161 : decode cL_law 161 = .ok (.invokevirtual 30, 3) := by decide +kernel
theorem dL_law_164 : decode cL_law 164 = .ok (.pop, 1) := by decide +kernel
theorem dL_law_165 : decode cL_law 165 = .ok (.aload_n 1, 1) := by decide +kernel
theorem dL_law_166 : decode cL_law 166 = .ok (.iload 5, 2) := by decide +kernel
theorem dL_law_168 : decode cL_law 168 = .ok (.iconst 5, 1) := by decide +kernel
theorem dL_law_169 : decode cL_law 169 = .ok (.iload_n 3, 1) := by decide +kernel
theorem dL_law_170 : decode cL_law 170 = .ok (.bipush 19, 2) := by decide +kernel
theorem dL_law_172 : decode cL_law 172 = .ok (.ishr, 1) := by decide +kernel
theorem dL_law_173 : decode cL_law 173 = .ok (.bipush 101, 2) := by decide +kernel
theorem dL_law_175 : decode cL_law 175 = .ok (.invokestatic 22, 3) := by decide +kernel
theorem dL_law_178 : decode cL_law 178 = .ok (.invokevirtual 30, 3) := by decide +kernel
theorem dL_law_181 : decode cL_law 181 = .ok (.pop, 1) := by decide +kernel
theorem dL_law_182 : decode cL_law 182 = .ok (.iinc 5 1, 3) := by decide +kernel
theorem dL_law_185 : decode cL_law 185 = .ok (.goto (-124), 3) := by decide +kernel
theorem dL_law_188 : decode cL_law 188 = .ok (.iconst 0, 1) := by decide +kernel
theorem dL_law_189 : decode cL_law 189 = .ok (.istore 5, 2) := by decide +kernel
theorem dL_law_191 : decode cL_law 191 = .ok (.iload 5, 2) := by decide +kernel
theorem dL_law_193 : decode cL_law 193 = .ok (.iconst 3, 1) := by decide +kernel
theorem dL_law_194 : decode cL_law 194 = .ok (.if_icmp .ge 52, 3) := by decide +kernel
theorem dL_law_197 : decode cL_law 197 = .ok (.aload_n 0, 1) := by decide +kernel
theorem dL_law_198 : decode cL_law 198 = .ok (.iload_n 2, 1) := by decide +kernel
theorem dL_law_199 : decode cL_law 199 = .ok (.iinc 2 1, 3) := by decide +kernel
theorem dL_law_202 : decode cL_law 202 = .ok (.invokestatic 12, 3) := by decide +kernel
theorem dL_law_205 : decode cL_law 205 = .ok (.istore_n 3, 1) := by decide +kernel
theorem dL_law_206 : decode cL_law 206 = .ok (.aload_n 1, 1) := by decide +kernel
theorem dL_law_207 : decode cL_law 207 = .ok (.iload 5, 2) := by decide +kernel
theorem dL_law_209 : decode cL_law 209 = .ok (.iconst 0, 1) := by decide +kernel
theorem dL_law_210 : decode cL_law 210 = .ok (.iload_n 3, 1) := by decide +kernel
theorem dL_law_211 : decode cL_law 211 = .ok (.sipush 600, 3) := by decide +kernel
theorem dL_law_214 : decode cL_law 214 = .ok (.invokestatic 22, 3) := by decide +kernel
theorem dL_law_217 : decode cL_law 217 = .ok (.invokevirtual 34, 3) := by decide +kernel
theorem dL_law_220 : decode cL_law 220 = .ok (.pop, 1) := by decide +kernel
theorem dL_law_221 : decode cL_law 221 = .ok (.aload_n 1, 1) := by decide +kernel
theorem dL_law_222 : decode cL_law 222 = .ok (.iload 5, 2) := by decide +kernel
theorem dL_law_224 : decode cL_law 224 = .ok (.iconst 1, 1) := by decide +kernel
theorem dL_law_225 : decode cL_law 225 = .ok (.iconst 1, 1) := by decide +kernel
theorem dL_law_226 : decode cL_law 226 = .ok (.iload_n 3, 1) := by decide +kernel
theorem dL_law_227 : decode cL_law 227 = .ok (.bipush 9, 2) := by decide +kernel
theorem dL_law_229 : decode cL_law 229 = .ok (.ishr, 1) := by decide +kernel
theorem dL_law_230 : decode cL_law 230 = .ok (.bipush 100, 2) := by decide +kernel
theorem dL_law_232 : decode cL_law 232 = .ok (.invokestatic 22, 3) := by decide +kernel
theorem dL_law_235 : decode cL_law 235 = .ok (.iadd, 1) := by decide +kernel
theorem dL_law_236 : decode cL_law 236 = .ok (.invokevirtual 34, 3) := by decide +kernel
theorem dL_law_239 : decode cL_law 239 = .ok (.pop, 1) := by decide +kernel
theorem dL_law_240 : decode cL_law 240 = .ok (.iinc 5 1, 3) := by decide +kernel
theorem dL_law_243 : decode cL_law 243 = .ok (.goto (-52), 3) := by decide +kernel
theorem dL_law_246 : decode cL_law 246 = .ok (.aload_n 1, 1) := by decide +kernel
theorem dL_law_247 : decode cL_law 247 = .ok (.iconst 5, 1) := by decide +kernel
theorem dL_law_248 : decode cL_law 248 = .ok (.iload_n 3, 1) := by decide +kernel
theorem dL_law_249 : decode cL_law 249 = .ok (.bipush 16, 2) := by decide +kernel
theorem dL_law_251 : decode cL_law 251 = .ok (.ishr, 1) := by decide +kernel
theorem dL_law_252 : decode cL_law 252 = .ok (.sipush 500, 3) := by decide +kernel
theorem dL_law_255 : decode cL_law 255 = .ok (.invokestatic 22, 3) := by decide +kernel
theorem dL_law_258 : decode cL_law 258 = .ok (.invokevirtual 37, 3) := by decide +kernel
theorem dL_law_261 : decode cL_law 261 = .ok (.pop, 1) := by decide +kernel
theorem dL_law_262 : decode cL_law 262 = .ok (.iconst 0, 1) := by decide +kernel
theorem dL_law_263 : decode cL_law 263 = .ok (.istore 5, 2) := by decide +kernel
theorem dL_law_265 : decode cL_law 265 = .ok (.iload 5, 2) := by decide +kernel
theorem dL_law_267 : decode cL_law 267 = .ok (.bipush 18, 2) := by decide +kernel
theorem dL_law_269 : decode cL_law 269 = .ok (.if_icmp .ge 49, 3) := by decide +kernel
theorem dL_law_272 : decode cL_law 272 = .ok (.aload_n 1, 1) := by decide +kernel
theorem dL_law_273 : decode cL_law 273 = .ok (.aload_n 0, 1) := by decide +kernel
theorem dL_law_274 : decode cL_law 274 = .ok (.iload_n 2, 1) := by decide +kernel
theorem dL_law_275 : decode cL_law 275 = .ok (.iinc 2 1, 3) := by decide +kernel
theorem dL_law_278 : decode cL_law 278 = .ok (.invokestatic 12, 3) := by decide +kernel
theorem dL_law_281 : decode cL_law 281 = .ok (.aload_n 0, 1) := by decide +kernel
theorem dL_law_282 : decode cL_law 282 = .ok (.iload_n 2, 1) := by decide +kernel
theorem dL_law_283 : decode cL_law 283 = .ok (.iinc 2 1, 3) := by decide +kernel
theorem dL_law_286 : decode cL_law 286 = .ok (.invokestatic 12, 3) := by decide +kernel
theorem dL_law_289 : decode cL_law 289 = .ok (.aload_n 0, 1) := by decide +kernel
theorem dL_law_290 : decode cL_law 290 = .ok (.iload_n 2, 1) := by decide +kernel
theorem dL_law_291 : decode cL_law 291 = .ok (.iinc 2 1, 3) := by decide +kernel
theorem dL_law_294 : decode cL_law 294 = .ok (.invokestatic 12, 3) := by decide +kernel
theorem dL_law_297 : decode cL_law 297 = .ok (.invokestatic 40, 3) := by decide +kernel
theorem dL_law_300 : decode cL_law 300 = .ok (.ifCond .eq 10, 3) := by decide +kernel
theorem dL_law_303 : decode cL_law 303 = .ok (.aload_n 1, 1) := by decide +kernel
theorem dL_law_304 : decode cL_law 304 = .ok (.invokestatic 44, 3) := by decide +kernel
theorem dL_law_307 : decode cL_law 307 = .ok (.ifCond .ne 5, 3) := by decide +kernel
theorem dL_law_310 : decode cL_law 310 = .ok (.iconst 0, 1) := by decide +kernel
theorem dL_law_311 : decode cL_law 311 = .ok (.ireturn, 1) := by decide +kernel
theorem dL_law_312 : decode cL_law 312 = .ok (.iinc 5 1, 3) := by decide +kernel
theorem dL_law_315 : decode cL_law 315 = .ok (.goto (-50), 3) := by decide +kernel
theorem dL_law_318 : decode cL_law 318 = .ok (.aload_n 0, 1) := by decide +kernel
theorem dL_law_319 : decode cL_law 319 = .ok (.iload_n 2, 1) := by decide +kernel
theorem dL_law_320 : decode cL_law 320 = .ok (.iinc 2 1, 3) := by decide +kernel
theorem dL_law_323 : decode cL_law 323 = .ok (.invokestatic 12, 3) := by decide +kernel
theorem dL_law_326 : decode cL_law 326 = .ok (.istore_n 3, 1) := by decide +kernel
theorem dL_law_327 : decode cL_law 327 = .ok (.aload_n 1, 1) := by decide +kernel
theorem dL_law_328 : decode cL_law 328 = .ok (.iload_n 3, 1) := by decide +kernel
theorem dL_law_329 : decode cL_law 329 = .ok (.invokestatic 48, 3) := by decide +kernel
theorem dL_law_332 : decode cL_law 332 = .ok (.ifCond .eq 52, 3) := by decide +kernel
theorem dL_law_335 : decode cL_law 335 = .ok (.aload_n 1, 1) := by decide +kernel
theorem dL_law_336 : decode cL_law 336 = .ok (.aload_n 0, 1) := by decide +kernel
theorem dL_law_337 : decode cL_law 337 = .ok (.iload_n 2, 1) := by decide +kernel
theorem dL_law_338 : decode cL_law 338 = .ok (.iinc 2 1, 3) := by decide +kernel
theorem dL_law_341 : decode cL_law 341 = .ok (.invokestatic 12, 3) := by decide +kernel
theorem dL_law_344 : decode cL_law 344 = .ok (.invokestatic 51, 3) := by decide +kernel
theorem dL_law_347 : decode cL_law 347 = .ok (.ifCond .eq 37, 3) := by decide +kernel
theorem dL_law_350 : decode cL_law 350 = .ok (.aload_n 1, 1) := by decide +kernel
theorem dL_law_351 : decode cL_law 351 = .ok (.aload_n 0, 1) := by decide +kernel
theorem dL_law_352 : decode cL_law 352 = .ok (.iload_n 2, 1) := by decide +kernel
theorem dL_law_353 : decode cL_law 353 = .ok (.iinc 2 1, 3) := by decide +kernel
theorem dL_law_356 : decode cL_law 356 = .ok (.invokestatic 12, 3) := by decide +kernel
theorem dL_law_359 : decode cL_law 359 = .ok (.invokestatic 54, 3) := by decide +kernel
theorem dL_law_362 : decode cL_law 362 = .ok (.ifCond .eq 22, 3) := by decide +kernel
theorem dL_law_365 : decode cL_law 365 = .ok (.aload_n 1, 1) := by decide +kernel
theorem dL_law_366 : decode cL_law 366 = .ok (.aload_n 0, 1) := by decide +kernel
theorem dL_law_367 : decode cL_law 367 = .ok (.iload_n 2, 1) := by decide +kernel
theorem dL_law_368 : decode cL_law 368 = .ok (.iinc 2 1, 3) := by decide +kernel
theorem dL_law_371 : decode cL_law 371 = .ok (.invokestatic 12, 3) := by decide +kernel
theorem dL_law_374 : decode cL_law 374 = .ok (.invokestatic 57, 3) := by decide +kernel
theorem dL_law_377 : decode cL_law 377 = .ok (.ifCond .eq 7, 3) := by decide +kernel
theorem dL_law_380 : decode cL_law 380 = .ok (.iconst 1, 1) := by decide +kernel
theorem dL_law_381 : decode cL_law 381 = .ok (.goto 4, 3) := by decide +kernel
theorem dL_law_384 : decode cL_law 384 = .ok (.iconst 0, 1) := by decide +kernel
theorem dL_law_385 : decode cL_law 385 = .ok (.ireturn, 1) := by decide +kernel
theorem dL_act_0 : decode cL_act 0 = .ok (.iload_n 1, 1) := by decide +kernel
theorem dL_act_1 : decode cL_act 1 = .ok (.bipush 9, 2) := by decide +kernel
theorem dL_act_3 : decode cL_act 3 = .ok (.invokestatic 22, 3) := by decide +kernel
theorem dL_act_6 : decode cL_act 6 = .ok (.tableswitch 278 0 7 #[46, 46, 46, 46, 59, 59, 158, 243], 46) := by decide +kernel
theorem dL_act_52 : decode cL_act 52 = .ok (.aload_n 0, 1) := by decide +kernel
theorem dL_act_53 : decode cL_act 53 = .ok (.iconst 1, 1) := by decide +kernel
theorem dL_act_54 : decode cL_act 54 = .ok (.iload_n 2, 1) := by decide +kernel
theorem dL_act_55 : decode cL_act 55 = .ok (.bipush 7, 2) := by decide +kernel
theorem dL_act_57 : decode cL_act 57 = .ok (.invokestatic 22, 3) := by decide +kernel
theorem dL_act_60 : decode cL_act 60 = .ok (.iadd, 1) := by decide +kernel
theorem dL_act_61 : decode cL_act 61 = .ok (.invokestatic 60, 3) := by decide +kernel
theorem dL_act_64 : decode cL_act 64 = .ok (.ireturn, 1) := by decide +kernel
theorem dL_act_65 : decode cL_act 65 = .ok (.aload_n 0, 1) := by decide +kernel
theorem dL_act_66 : decode cL_act 66 = .ok (.iconst 0, 1) := by decide +kernel
theorem dL_act_67 : decode cL_act 67 = .ok (.invokevirtual 63, 3) := by decide +kernel
theorem dL_act_70 : decode cL_act 70 = .ok (.iload_n 2, 1) := by decide +kernel
theorem dL_act_71 : decode cL_act 71 = .ok (.bipush 25, 2) := by decide +kernel
theorem dL_act_73 : decode cL_act 73 = .ok (.invokestatic 22, 3) := by decide +kernel
theorem dL_act_76 : decode cL_act 76 = .ok (.iadd, 1) := by decide +kernel
theorem dL_act_77 : decode cL_act 77 = .ok (.istore 4, 2) := by decide +kernel
theorem dL_act_79 : decode cL_act 79 = .ok (.aload_n 0, 1) := by decide +kernel
theorem dL_act_80 : decode cL_act 80 = .ok (.iconst 2, 1) := by decide +kernel
theorem dL_act_81 : decode cL_act 81 = .ok (.invokevirtual 63, 3) := by decide +kernel
theorem dL_act_84 : decode cL_act 84 = .ok (.istore 5, 2) := by decide +kernel
theorem dL_act_86 : decode cL_act 86 = .ok (.aload_n 0, 1) := by decide +kernel
theorem dL_act_87 : decode cL_act 87 = .ok (.iload 4, 2) := by decide +kernel
theorem dL_act_89 : decode cL_act 89 = .ok (.iconst 1, 1) := by decide +kernel
theorem dL_act_90 : decode cL_act 90 = .ok (.iload_n 2, 1) := by decide +kernel
theorem dL_act_91 : decode cL_act 91 = .ok (.iconst 5, 1) := by decide +kernel
theorem dL_act_92 : decode cL_act 92 = .ok (.ishr, 1) := by decide +kernel
theorem dL_act_93 : decode cL_act 93 = .ok (.sipush 4095, 3) := by decide +kernel
theorem dL_act_96 : decode cL_act 96 = .ok (.invokestatic 22, 3) := by decide +kernel
theorem dL_act_99 : decode cL_act 99 = .ok (.iadd, 1) := by decide +kernel
theorem dL_act_100 : decode cL_act 100 = .ok (.iload_n 3, 1) := by decide +kernel
theorem dL_act_101 : decode cL_act 101 = .ok (.sipush 1001, 3) := by decide +kernel
theorem dL_act_104 : decode cL_act 104 = .ok (.invokestatic 22, 3) := by decide +kernel
theorem dL_act_107 : decode cL_act 107 = .ok (.invokevirtual 66, 3) := by decide +kernel
theorem dL_act_110 : decode cL_act 110 = .ok (.istore 6, 2) := by decide +kernel
theorem dL_act_112 : decode cL_act 112 = .ok (.iload 6, 2) := by decide +kernel
theorem dL_act_114 : decode cL_act 114 = .ok (.ifCond .lt 48, 3) := by decide +kernel
theorem dL_act_117 : decode cL_act 117 = .ok (.aload_n 0, 1) := by decide +kernel
theorem dL_act_118 : decode cL_act 118 = .ok (.iconst 2, 1) := by decide +kernel
theorem dL_act_119 : decode cL_act 119 = .ok (.invokevirtual 63, 3) := by decide +kernel
theorem dL_act_122 : decode cL_act 122 = .ok (.iload 5, 2) := by decide +kernel
theorem dL_act_124 : decode cL_act 124 = .ok (.iconst 1, 1) := by decide +kernel
theorem dL_act_125 : decode cL_act 125 = .ok (.iadd, 1) := by decide +kernel
theorem dL_act_126 : decode cL_act 126 = .ok (.if_icmp .ne 36, 3) := by decide +kernel
theorem dL_act_129 : decode cL_act 129 = .ok (.aload_n 0, 1) := by decide +kernel
theorem dL_act_130 : decode cL_act 130 = .ok (.iload 6, 2) := by decide +kernel
theorem dL_act_132 : decode cL_act 132 = .ok (.iconst 0, 1) := by decide +kernel
theorem dL_act_133 : decode cL_act 133 = .ok (.invokevirtual 69, 3) := by decide +kernel
theorem dL_act_136 : decode cL_act 136 = .ok (.iload 4, 2) := by decide +kernel
theorem dL_act_138 : decode cL_act 138 = .ok (.if_icmp .ne 24, 3) := by decide +kernel
theorem dL_act_141 : decode cL_act 141 = .ok (.aload_n 0, 1) := by decide +kernel
theorem dL_act_142 : decode cL_act 142 = .ok (.iload 6, 2) := by decide +kernel
theorem dL_act_144 : decode cL_act 144 = .ok (.iconst 2, 1) := by decide +kernel
theorem dL_act_145 : decode cL_act 145 = .ok (.invokevirtual 69, 3) := by decide +kernel
theorem dL_act_148 : decode cL_act 148 = .ok (.iload_n 3, 1) := by decide +kernel
theorem dL_act_149 : decode cL_act 149 = .ok (.sipush 1001, 3) := by decide +kernel
theorem dL_act_152 : decode cL_act 152 = .ok (.invokestatic 22, 3) := by decide +kernel
theorem dL_act_155 : decode cL_act 155 = .ok (.if_icmp .ne 7, 3) := by decide +kernel
theorem dL_act_158 : decode cL_act 158 = .ok (.iconst 1, 1) := by decide +kernel
theorem dL_act_159 : decode cL_act 159 = .ok (.goto 4, 3) := by decide +kernel
theorem dL_act_162 : decode cL_act 162 = .ok (.iconst 0, 1) := by decide +kernel
theorem dL_act_163 : decode cL_act 163 = .ok (.ireturn, 1) := by decide +kernel
theorem dL_act_164 : decode cL_act 164 = .ok (.iload_n 3, 1) := by decide +kernel
theorem dL_act_165 : decode cL_act 165 = .ok (.sipush 1001, 3) := by decide +kernel
theorem dL_act_168 : decode cL_act 168 = .ok (.invokestatic 22, 3) := by decide +kernel
theorem dL_act_171 : decode cL_act 171 = .ok (.istore 4, 2) := by decide +kernel
theorem dL_act_173 : decode cL_act 173 = .ok (.iconst 1, 1) := by decide +kernel
theorem dL_act_174 : decode cL_act 174 = .ok (.iload_n 2, 1) := by decide +kernel
theorem dL_act_175 : decode cL_act 175 = .ok (.sipush 4095, 3) := by decide +kernel
theorem dL_act_178 : decode cL_act 178 = .ok (.invokestatic 22, 3) := by decide +kernel
theorem dL_act_181 : decode cL_act 181 = .ok (.iadd, 1) := by decide +kernel
theorem dL_act_182 : decode cL_act 182 = .ok (.istore 5, 2) := by decide +kernel
theorem dL_act_184 : decode cL_act 184 = .ok (.aload_n 0, 1) := by decide +kernel
theorem dL_act_185 : decode cL_act 185 = .ok (.iload 5, 2) := by decide +kernel
theorem dL_act_187 : decode cL_act 187 = .ok (.iload 4, 2) := by decide +kernel
theorem dL_act_189 : decode cL_act 189 = .ok (.invokevirtual 72, 3) := by decide +kernel
theorem dL_act_192 : decode cL_act 192 = .ok (.aload_n 0, 1) := by decide +kernel
theorem dL_act_193 : decode cL_act 193 = .ok (.iconst 0, 1) := by decide +kernel
theorem dL_act_194 : decode cL_act 194 = .ok (.invokevirtual 63, 3) := by decide +kernel
theorem dL_act_197 : decode cL_act 197 = .ok (.if_icmp .eq 5, 3) := by decide +kernel
theorem dL_act_200 : decode cL_act 200 = .ok (.iconst 0, 1) := by decide +kernel
theorem dL_act_201 : decode cL_act 201 = .ok (.ireturn, 1) := by decide +kernel
theorem dL_act_202 : decode cL_act 202 = .ok (.iconst 0, 1) := by decide +kernel
theorem dL_act_203 : decode cL_act 203 = .ok (.istore 6, 2) := by decide +kernel
theorem dL_act_205 : decode cL_act 205 = .ok (.iload 6, 2) := by decide +kernel
theorem dL_act_207 : decode cL_act 207 = .ok (.aload_n 0, 1) := by decide +kernel
theorem dL_act_208 : decode cL_act 208 = .ok (.iconst 1, 1) := by decide +kernel
theorem dL_act_209 : decode cL_act 209 = .ok (.invokevirtual 63, 3) := by decide +kernel
theorem dL_act_212 : decode cL_act 212 = .ok (.if_icmp .ge 35, 3) := by decide +kernel
theorem dL_act_215 : decode cL_act 215 = .ok (.iload 5, 2) := by decide +kernel
theorem dL_act_217 : decode cL_act 217 = .ok (.iload 6, 2) := by decide +kernel
theorem dL_act_219 : decode cL_act 219 = .ok (.ishr, 1) := by decide +kernel
theorem dL_act_220 : decode cL_act 220 = .ok (.iconst 1, 1) := by decide +kernel
theorem dL_act_221 : decode cL_act 221 = .ok (.iand, 1) := by decide +kernel
theorem dL_act_222 : decode cL_act 222 = .ok (.iconst 1, 1) := by decide +kernel
theorem dL_act_223 : decode cL_act 223 = .ok (.if_icmp .ne 18, 3) := by decide +kernel
theorem dL_act_226 : decode cL_act 226 = .ok (.aload_n 0, 1) := by decide +kernel
theorem dL_act_227 : decode cL_act 227 = .ok (.iload 6, 2) := by decide +kernel
theorem dL_act_229 : decode cL_act 229 = .ok (.bipush 6, 2) := by decide +kernel
theorem dL_act_231 : decode cL_act 231 = .ok (.invokevirtual 75, 3) := by decide +kernel
theorem dL_act_234 : decode cL_act 234 = .ok (.iload 4, 2) := by decide +kernel
theorem dL_act_236 : decode cL_act 236 = .ok (.if_icmp .eq 5, 3) := by decide +kernel
theorem dL_act_239 : decode cL_act 239 = .ok (.iconst 0, 1) := by decide +kernel
theorem dL_act_240 : decode cL_act 240 = .ok (.ireturn, 1) := by decide +kernel
theorem dL_act_241 : decode cL_act 241 = .ok (.iinc 6 1, 3) := by decide +kernel
theorem dL_act_244 : decode cL_act 244 = .ok (.goto (-39), 3) := by decide +kernel
theorem dL_act_247 : decode cL_act 247 = .ok (.iconst 1, 1) := by decide +kernel
theorem dL_act_248 : decode cL_act 248 = .ok (.ireturn, 1) := by decide +kernel
theorem dL_act_249 : decode cL_act 249 = .ok (.aload_n 0, 1) := by decide +kernel
theorem dL_act_250 : decode cL_act 250 = .ok (.iload_n 3, 1) := by decide +kernel
theorem dL_act_251 : decode cL_act 251 = .ok (.sipush 301, 3) := by decide +kernel
theorem dL_act_254 : decode cL_act 254 = .ok (.invokestatic 22, 3) := by decide +kernel
theorem dL_act_257 : decode cL_act 257 = .ok (.invokevirtual 78, 3) := by decide +kernel
theorem dL_act_260 : decode cL_act 260 = .ok (.ifCond .lt 22, 3) := by decide +kernel
theorem dL_act_263 : decode cL_act 263 = .ok (.aload_n 0, 1) := by decide +kernel
theorem dL_act_264 : decode cL_act 264 = .ok (.iconst 3, 1) := by decide +kernel
theorem dL_act_265 : decode cL_act 265 = .ok (.invokevirtual 63, 3) := by decide +kernel
theorem dL_act_268 : decode cL_act 268 = .ok (.iload_n 3, 1) := by decide +kernel
theorem dL_act_269 : decode cL_act 269 = .ok (.sipush 301, 3) := by decide +kernel
theorem dL_act_272 : decode cL_act 272 = .ok (.invokestatic 22, 3) := by decide +kernel
theorem dL_act_275 : decode cL_act 275 = .ok (.if_icmp .ne 7, 3) := by decide +kernel
theorem dL_act_278 : decode cL_act 278 = .ok (.iconst 1, 1) := by decide +kernel
theorem dL_act_279 : decode cL_act 279 = .ok (.goto 4, 3) := by decide +kernel
theorem dL_act_282 : decode cL_act 282 = .ok (.iconst 0, 1) := by decide +kernel
theorem dL_act_283 : decode cL_act 283 = .ok (.ireturn, 1) := by decide +kernel
theorem dL_act_284 : decode cL_act 284 = .ok (.aload_n 0, 1) := by decide +kernel
theorem dL_act_285 : decode cL_act 285 = .ok (.iconst 2, 1) := by decide +kernel
theorem dL_act_286 : decode cL_act 286 = .ok (.invokevirtual 63, 3) := by decide +kernel
theorem dL_act_289 : decode cL_act 289 = .ok (.istore 4, 2) := by decide +kernel
theorem dL_act_291 : decode cL_act 291 = .ok (.iload 4, 2) := by decide +kernel
theorem dL_act_293 : decode cL_act 293 = .ok (.ifCond .ne 19, 3) := by decide +kernel
theorem dL_act_296 : decode cL_act 296 = .ok (.aload_n 0, 1) := by decide +kernel
theorem dL_act_297 : decode cL_act 297 = .ok (.iconst 0, 1) := by decide +kernel
theorem dL_act_298 : decode cL_act 298 = .ok (.iconst 1, 1) := by decide +kernel
theorem dL_act_299 : decode cL_act 299 = .ok (.invokevirtual 81, 3) := by decide +kernel
theorem dL_act_302 : decode cL_act 302 = .ok (.iconst (-1), 1) := by decide +kernel
theorem dL_act_303 : decode cL_act 303 = .ok (.if_icmp .ne 7, 3) := by decide +kernel
theorem dL_act_306 : decode cL_act 306 = .ok (.iconst 1, 1) := by decide +kernel
end
section
theorem dL_act_307 : decode cL_act 307 = .ok (.goto 4, 3) := by decide +kernel
theorem dL_act_310 : decode cL_act 310 = .ok (.iconst 0, 1) := by decide +kernel
theorem dL_act_311 : decode cL_act 311 = .ok (.ireturn, 1) := by decide +kernel
theorem dL_act_312 : decode cL_act 312 = .ok (.iload_n 2, 1) := by decide +kernel
theorem dL_act_313 : decode cL_act 313 = .ok (.iload 4, 2) := by decide +kernel
theorem dL_act_315 : decode cL_act 315 = .ok (.invokestatic 22, 3) := by decide +kernel
theorem dL_act_318 : decode cL_act 318 = .ok (.istore 5, 2) := by decide +kernel
theorem dL_act_320 : decode cL_act 320 = .ok (.aload_n 0, 1) := by decide +kernel
theorem dL_act_321 : decode cL_act 321 = .ok (.iload 5, 2) := by decide +kernel
theorem dL_act_323 : decode cL_act 323 = .ok (.iconst 0, 1) := by decide +kernel
theorem dL_act_324 : decode cL_act 324 = .ok (.invokevirtual 69, 3) := by decide +kernel
theorem dL_act_327 : decode cL_act 327 = .ok (.istore 6, 2) := by decide +kernel
theorem dL_act_329 : decode cL_act 329 = .ok (.aload_n 0, 1) := by decide +kernel
theorem dL_act_330 : decode cL_act 330 = .ok (.iload 5, 2) := by decide +kernel
theorem dL_act_332 : decode cL_act 332 = .ok (.iconst 1, 1) := by decide +kernel
theorem dL_act_333 : decode cL_act 333 = .ok (.invokevirtual 69, 3) := by decide +kernel
theorem dL_act_336 : decode cL_act 336 = .ok (.istore 7, 2) := by decide +kernel
theorem dL_act_338 : decode cL_act 338 = .ok (.iload_n 3, 1) := by decide +kernel
theorem dL_act_339 : decode cL_act 339 = .ok (.bipush 41, 2) := by decide +kernel
theorem dL_act_341 : decode cL_act 341 = .ok (.invokestatic 22, 3) := by decide +kernel
theorem dL_act_344 : decode cL_act 344 = .ok (.bipush 20, 2) := by decide +kernel
theorem dL_act_346 : decode cL_act 346 = .ok (.isub, 1) := by decide +kernel
theorem dL_act_347 : decode cL_act 347 = .ok (.istore 8, 2) := by decide +kernel
theorem dL_act_349 : decode cL_act 349 = .ok (.aload_n 0, 1) := by decide +kernel
theorem dL_act_350 : decode cL_act 350 = .ok (.iload 5, 2) := by decide +kernel
theorem dL_act_352 : decode cL_act 352 = .ok (.iload 8, 2) := by decide +kernel
theorem dL_act_354 : decode cL_act 354 = .ok (.invokevirtual 81, 3) := by decide +kernel
theorem dL_act_357 : decode cL_act 357 = .ok (.istore 9, 2) := by decide +kernel
theorem dL_act_359 : decode cL_act 359 = .ok (.iload 6, 2) := by decide +kernel
theorem dL_act_361 : decode cL_act 361 = .ok (.iload 8, 2) := by decide +kernel
theorem dL_act_363 : decode cL_act 363 = .ok (.iadd, 1) := by decide +kernel
theorem dL_act_364 : decode cL_act 364 = .ok (.ifCond .ge 30, 3) := by decide +kernel
theorem dL_act_367 : decode cL_act 367 = .ok (.iload 9, 2) := by decide +kernel
theorem dL_act_369 : decode cL_act 369 = .ok (.bipush (-2), 2) := by decide +kernel
theorem dL_act_371 : decode cL_act 371 = .ok (.if_icmp .ne 19, 3) := by decide +kernel
theorem dL_act_374 : decode cL_act 374 = .ok (.aload_n 0, 1) := by decide +kernel
theorem dL_act_375 : decode cL_act 375 = .ok (.iload 5, 2) := by decide +kernel
theorem dL_act_377 : decode cL_act 377 = .ok (.iconst 0, 1) := by decide +kernel
theorem dL_act_378 : decode cL_act 378 = .ok (.invokevirtual 69, 3) := by decide +kernel
theorem dL_act_381 : decode cL_act 381 = .ok (.iload 6, 2) := by decide +kernel
theorem dL_act_383 : decode cL_act 383 = .ok (.if_icmp .ne 7, 3) := by decide +kernel
theorem dL_act_386 : decode cL_act 386 = .ok (.iconst 1, 1) := by decide +kernel
theorem dL_act_387 : decode cL_act 387 = .ok (.goto 75, 3) := by decide +kernel
theorem dL_act_390 : decode cL_act 390 = .ok (.iconst 0, 1) := by decide +kernel
theorem dL_act_391 : decode cL_act 391 = .ok (.goto 71, 3) := by decide +kernel
theorem dL_act_394 : decode cL_act 394 = .ok (.aload_n 0, 1) := by decide +kernel
theorem dL_act_395 : decode cL_act 395 = .ok (.iload 9, 2) := by decide +kernel
theorem dL_act_397 : decode cL_act 397 = .ok (.iconst 0, 1) := by decide +kernel
theorem dL_act_398 : decode cL_act 398 = .ok (.invokevirtual 69, 3) := by decide +kernel
theorem dL_act_401 : decode cL_act 401 = .ok (.iload 6, 2) := by decide +kernel
theorem dL_act_403 : decode cL_act 403 = .ok (.iload 8, 2) := by decide +kernel
theorem dL_act_405 : decode cL_act 405 = .ok (.iadd, 1) := by decide +kernel
theorem dL_act_406 : decode cL_act 406 = .ok (.if_icmp .ne 55, 3) := by decide +kernel
theorem dL_act_409 : decode cL_act 409 = .ok (.aload_n 0, 1) := by decide +kernel
theorem dL_act_410 : decode cL_act 410 = .ok (.iload 9, 2) := by decide +kernel
theorem dL_act_412 : decode cL_act 412 = .ok (.iconst 1, 1) := by decide +kernel
theorem dL_act_413 : decode cL_act 413 = .ok (.invokevirtual 69, 3) := by decide +kernel
theorem dL_act_416 : decode cL_act 416 = .ok (.iload 7, 2) := by decide +kernel
theorem dL_act_418 : decode cL_act 418 = .ok (.if_icmp .ne 43, 3) := by decide +kernel
theorem dL_act_421 : decode cL_act 421 = .ok (.iload 9, 2) := by decide +kernel
theorem dL_act_423 : decode cL_act 423 = .ok (.iload 4, 2) := by decide +kernel
theorem dL_act_425 : decode cL_act 425 = .ok (.iconst 1, 1) := by decide +kernel
theorem dL_act_426 : decode cL_act 426 = .ok (.isub, 1) := by decide +kernel
theorem dL_act_427 : decode cL_act 427 = .ok (.if_icmp .eq 20, 3) := by decide +kernel
theorem dL_act_430 : decode cL_act 430 = .ok (.aload_n 0, 1) := by decide +kernel
theorem dL_act_431 : decode cL_act 431 = .ok (.iload 9, 2) := by decide +kernel
theorem dL_act_433 : decode cL_act 433 = .ok (.iconst 1, 1) := by decide +kernel
theorem dL_act_434 : decode cL_act 434 = .ok (.iadd, 1) := by decide +kernel
theorem dL_act_435 : decode cL_act 435 = .ok (.iconst 0, 1) := by decide +kernel
theorem dL_act_436 : decode cL_act 436 = .ok (.invokevirtual 69, 3) := by decide +kernel
theorem dL_act_439 : decode cL_act 439 = .ok (.iload 6, 2) := by decide +kernel
theorem dL_act_441 : decode cL_act 441 = .ok (.iload 8, 2) := by decide +kernel
theorem dL_act_443 : decode cL_act 443 = .ok (.iadd, 1) := by decide +kernel
theorem dL_act_444 : decode cL_act 444 = .ok (.if_icmp .le 17, 3) := by decide +kernel
theorem dL_act_447 : decode cL_act 447 = .ok (.aload_n 0, 1) := by decide +kernel
theorem dL_act_448 : decode cL_act 448 = .ok (.iconst 2, 1) := by decide +kernel
theorem dL_act_449 : decode cL_act 449 = .ok (.invokevirtual 63, 3) := by decide +kernel
theorem dL_act_452 : decode cL_act 452 = .ok (.iload 4, 2) := by decide +kernel
theorem dL_act_454 : decode cL_act 454 = .ok (.if_icmp .ne 7, 3) := by decide +kernel
theorem dL_act_457 : decode cL_act 457 = .ok (.iconst 1, 1) := by decide +kernel
theorem dL_act_458 : decode cL_act 458 = .ok (.goto 4, 3) := by decide +kernel
theorem dL_act_461 : decode cL_act 461 = .ok (.iconst 0, 1) := by decide +kernel
theorem dL_act_462 : decode cL_act 462 = .ok (.ireturn, 1) := by decide +kernel
theorem dL_ordered_0 : decode cL_ordered 0 = .ok (.aload_n 0, 1) := by decide +kernel
theorem dL_ordered_1 : decode cL_ordered 1 = .ok (.iconst 0, 1) := by decide +kernel
theorem dL_ordered_2 : decode cL_ordered 2 = .ok (.invokevirtual 63, 3) := by decide +kernel
theorem dL_ordered_5 : decode cL_ordered 5 = .ok (.istore_n 1, 1) := by decide +kernel
theorem dL_ordered_6 : decode cL_ordered 6 = .ok (.bipush (-6), 2) := by decide +kernel
theorem dL_ordered_8 : decode cL_ordered 8 = .ok (.istore_n 2, 1) := by decide +kernel
theorem dL_ordered_9 : decode cL_ordered 9 = .ok (.aload_n 0, 1) := by decide +kernel
theorem dL_ordered_10 : decode cL_ordered 10 = .ok (.iconst 2, 1) := by decide +kernel
theorem dL_ordered_11 : decode cL_ordered 11 = .ok (.invokevirtual 63, 3) := by decide +kernel
theorem dL_ordered_14 : decode cL_ordered 14 = .ok (.iconst 1, 1) := by decide +kernel
theorem dL_ordered_15 : decode cL_ordered 15 = .ok (.isub, 1) := by decide +kernel
theorem dL_ordered_16 : decode cL_ordered 16 = .ok (.istore_n 3, 1) := by decide +kernel
theorem dL_ordered_17 : decode cL_ordered 17 = .ok (.iload_n 3, 1) := by decide +kernel
theorem dL_ordered_18 : decode cL_ordered 18 = .ok (.ifCond .lt 48, 3) := by decide +kernel
theorem dL_ordered_21 : decode cL_ordered 21 = .ok (.iload_n 3, 1) := by decide +kernel
theorem dL_ordered_22 : decode cL_ordered 22 = .ok (.ifCond .le 22, 3) := by decide +kernel
theorem dL_ordered_25 : decode cL_ordered 25 = .ok (.aload_n 0, 1) := by decide +kernel
theorem dL_ordered_26 : decode cL_ordered 26 = .ok (.iload_n 3, 1) := by decide +kernel
theorem dL_ordered_27 : decode cL_ordered 27 = .ok (.iconst 0, 1) := by decide +kernel
theorem dL_ordered_28 : decode cL_ordered 28 = .ok (.invokevirtual 69, 3) := by decide +kernel
theorem dL_ordered_31 : decode cL_ordered 31 = .ok (.aload_n 0, 1) := by decide +kernel
theorem dL_ordered_32 : decode cL_ordered 32 = .ok (.iload_n 3, 1) := by decide +kernel
theorem dL_ordered_33 : decode cL_ordered 33 = .ok (.iconst 1, 1) := by decide +kernel
theorem dL_ordered_34 : decode cL_ordered 34 = .ok (.isub, 1) := by decide +kernel
theorem dL_ordered_35 : decode cL_ordered 35 = .ok (.iconst 0, 1) := by decide +kernel
theorem dL_ordered_36 : decode cL_ordered 36 = .ok (.invokevirtual 69, 3) := by decide +kernel
theorem dL_ordered_39 : decode cL_ordered 39 = .ok (.if_icmp .ge 5, 3) := by decide +kernel
theorem dL_ordered_42 : decode cL_ordered 42 = .ok (.iconst 0, 1) := by decide +kernel
theorem dL_ordered_43 : decode cL_ordered 43 = .ok (.ireturn, 1) := by decide +kernel
theorem dL_ordered_44 : decode cL_ordered 44 = .ok (.aload_n 0, 1) := by decide +kernel
theorem dL_ordered_45 : decode cL_ordered 45 = .ok (.iload_n 3, 1) := by decide +kernel
theorem dL_ordered_46 : decode cL_ordered 46 = .ok (.iconst 0, 1) := by decide +kernel
theorem dL_ordered_47 : decode cL_ordered 47 = .ok (.invokevirtual 69, 3) := by decide +kernel
theorem dL_ordered_50 : decode cL_ordered 50 = .ok (.iload_n 1, 1) := by decide +kernel
theorem dL_ordered_51 : decode cL_ordered 51 = .ok (.if_icmp .lt 7, 3) := by decide +kernel
theorem dL_ordered_54 : decode cL_ordered 54 = .ok (.iload_n 3, 1) := by decide +kernel
theorem dL_ordered_55 : decode cL_ordered 55 = .ok (.goto 4, 3) := by decide +kernel
theorem dL_ordered_58 : decode cL_ordered 58 = .ok (.iload_n 2, 1) := by decide +kernel
theorem dL_ordered_59 : decode cL_ordered 59 = .ok (.istore_n 2, 1) := by decide +kernel
theorem dL_ordered_60 : decode cL_ordered 60 = .ok (.iinc 3 (-1), 3) := by decide +kernel
theorem dL_ordered_63 : decode cL_ordered 63 = .ok (.goto (-46), 3) := by decide +kernel
theorem dL_ordered_66 : decode cL_ordered 66 = .ok (.aload_n 0, 1) := by decide +kernel
theorem dL_ordered_67 : decode cL_ordered 67 = .ok (.bipush 8, 2) := by decide +kernel
theorem dL_ordered_69 : decode cL_ordered 69 = .ok (.invokevirtual 63, 3) := by decide +kernel
theorem dL_ordered_72 : decode cL_ordered 72 = .ok (.iload_n 2, 1) := by decide +kernel
theorem dL_ordered_73 : decode cL_ordered 73 = .ok (.if_icmp .ne 7, 3) := by decide +kernel
theorem dL_ordered_76 : decode cL_ordered 76 = .ok (.iconst 1, 1) := by decide +kernel
theorem dL_ordered_77 : decode cL_ordered 77 = .ok (.goto 4, 3) := by decide +kernel
theorem dL_ordered_80 : decode cL_ordered 80 = .ok (.iconst 0, 1) := by decide +kernel
theorem dL_ordered_81 : decode cL_ordered 81 = .ok (.ireturn, 1) := by decide +kernel
theorem dL_ticks_0 : decode cL_ticks 0 = .ok (.aload_n 0, 1) := by decide +kernel
theorem dL_ticks_1 : decode cL_ticks 1 = .ok (.iconst 1, 1) := by decide +kernel
theorem dL_ticks_2 : decode cL_ticks 2 = .ok (.invokevirtual 63, 3) := by decide +kernel
theorem dL_ticks_5 : decode cL_ticks 5 = .ok (.istore_n 2, 1) := by decide +kernel
theorem dL_ticks_6 : decode cL_ticks 6 = .ok (.bipush 12, 2) := by decide +kernel
theorem dL_ticks_8 : decode cL_ticks 8 = .ok (.newarray .int, 2) := by decide +kernel
theorem dL_ticks_10 : decode cL_ticks 10 = .ok (.astore_n 3, 1) := by decide +kernel
theorem dL_ticks_11 : decode cL_ticks 11 = .ok (.iconst 3, 1) := by decide +kernel
theorem dL_ticks_12 : decode cL_ticks 12 = .ok (.newarray .int, 2) := by decide +kernel
theorem dL_ticks_14 : decode cL_ticks 14 = .ok (.astore 4, 2) := by decide +kernel
theorem dL_ticks_16 : decode cL_ticks 16 = .ok (.iconst 3, 1) := by decide +kernel
theorem dL_ticks_17 : decode cL_ticks 17 = .ok (.newarray .int, 2) := by decide +kernel
theorem dL_ticks_19 : decode cL_ticks 19 = .ok (.astore 5, 2) := by decide +kernel
theorem dL_ticks_21 : decode cL_ticks 21 = .ok (.iconst 0, 1) := by decide +kernel
theorem dL_ticks_22 : decode cL_ticks 22 = .ok (.istore 6, 2) := by decide +kernel
theorem dL_ticks_24 : decode cL_ticks 24 = .ok (.iload 6, 2) := by decide +kernel
theorem dL_ticks_26 : decode cL_ticks 26 = .ok (.iload_n 1, 1) := by decide +kernel
theorem dL_ticks_27 : decode cL_ticks 27 = .ok (.if_icmp .ge 722, 3) := by decide +kernel
theorem dL_ticks_30 : decode cL_ticks 30 = .ok (.aload_n 0, 1) := by decide +kernel
theorem dL_ticks_31 : decode cL_ticks 31 = .ok (.iconst 0, 1) := by decide +kernel
theorem dL_ticks_32 : decode cL_ticks 32 = .ok (.invokevirtual 63, 3) := by decide +kernel
theorem dL_ticks_35 : decode cL_ticks 35 = .ok (.istore 7, 2) := by decide +kernel
theorem dL_ticks_37 : decode cL_ticks 37 = .ok (.aload_n 0, 1) := by decide +kernel
theorem dL_ticks_38 : decode cL_ticks 38 = .ok (.bipush 7, 2) := by decide +kernel
theorem dL_ticks_40 : decode cL_ticks 40 = .ok (.invokevirtual 63, 3) := by decide +kernel
theorem dL_ticks_43 : decode cL_ticks 43 = .ok (.istore 8, 2) := by decide +kernel
theorem dL_ticks_45 : decode cL_ticks 45 = .ok (.aload_n 0, 1) := by decide +kernel
theorem dL_ticks_46 : decode cL_ticks 46 = .ok (.iconst 5, 1) := by decide +kernel
theorem dL_ticks_47 : decode cL_ticks 47 = .ok (.invokevirtual 63, 3) := by decide +kernel
theorem dL_ticks_50 : decode cL_ticks 50 = .ok (.istore 9, 2) := by decide +kernel
theorem dL_ticks_52 : decode cL_ticks 52 = .ok (.aload_n 0, 1) := by decide +kernel
theorem dL_ticks_53 : decode cL_ticks 53 = .ok (.iconst 4, 1) := by decide +kernel
theorem dL_ticks_54 : decode cL_ticks 54 = .ok (.invokevirtual 63, 3) := by decide +kernel
theorem dL_ticks_57 : decode cL_ticks 57 = .ok (.istore 10, 2) := by decide +kernel
theorem dL_ticks_59 : decode cL_ticks 59 = .ok (.iconst 0, 1) := by decide +kernel
theorem dL_ticks_60 : decode cL_ticks 60 = .ok (.istore 11, 2) := by decide +kernel
theorem dL_ticks_62 : decode cL_ticks 62 = .ok (.iload 11, 2) := by decide +kernel
theorem dL_ticks_64 : decode cL_ticks 64 = .ok (.iload_n 2, 1) := by decide +kernel
theorem dL_ticks_65 : decode cL_ticks 65 = .ok (.if_icmp .ge 21, 3) := by decide +kernel
theorem dL_ticks_68 : decode cL_ticks 68 = .ok (.aload_n 3, 1) := by decide +kernel
theorem dL_ticks_69 : decode cL_ticks 69 = .ok (.iload 11, 2) := by decide +kernel
theorem dL_ticks_71 : decode cL_ticks 71 = .ok (.aload_n 0, 1) := by decide +kernel
theorem dL_ticks_72 : decode cL_ticks 72 = .ok (.iload 11, 2) := by decide +kernel
theorem dL_ticks_74 : decode cL_ticks 74 = .ok (.bipush 7, 2) := by decide +kernel
theorem dL_ticks_76 : decode cL_ticks 76 = .ok (.invokevirtual 75, 3) := by decide +kernel
theorem dL_ticks_79 : decode cL_ticks 79 = .ok (.iastore, 1) := by decide +kernel
theorem dL_ticks_80 : decode cL_ticks 80 = .ok (.iinc 11 1, 3) := by decide +kernel
theorem dL_ticks_83 : decode cL_ticks 83 = .ok (.goto (-21), 3) := by decide +kernel
theorem dL_ticks_86 : decode cL_ticks 86 = .ok (.iconst 0, 1) := by decide +kernel
theorem dL_ticks_87 : decode cL_ticks 87 = .ok (.istore 11, 2) := by decide +kernel
theorem dL_ticks_89 : decode cL_ticks 89 = .ok (.iload 11, 2) := by decide +kernel
theorem dL_ticks_91 : decode cL_ticks 91 = .ok (.iconst 3, 1) := by decide +kernel
theorem dL_ticks_92 : decode cL_ticks 92 = .ok (.if_icmp .ge 33, 3) := by decide +kernel
theorem dL_ticks_95 : decode cL_ticks 95 = .ok (.aload 4, 2) := by decide +kernel
theorem dL_ticks_97 : decode cL_ticks 97 = .ok (.iload 11, 2) := by decide +kernel
theorem dL_ticks_99 : decode cL_ticks 99 = .ok (.aload_n 0, 1) := by decide +kernel
theorem dL_ticks_100 : decode cL_ticks 100 = .ok (.iload 11, 2) := by decide +kernel
theorem dL_ticks_102 : decode cL_ticks 102 = .ok (.iconst 2, 1) := by decide +kernel
theorem dL_ticks_103 : decode cL_ticks 103 = .ok (.invokevirtual 84, 3) := by decide +kernel
theorem dL_ticks_106 : decode cL_ticks 106 = .ok (.iastore, 1) := by decide +kernel
theorem dL_ticks_107 : decode cL_ticks 107 = .ok (.aload 5, 2) := by decide +kernel
theorem dL_ticks_109 : decode cL_ticks 109 = .ok (.iload 11, 2) := by decide +kernel
theorem dL_ticks_111 : decode cL_ticks 111 = .ok (.aload_n 0, 1) := by decide +kernel
theorem dL_ticks_112 : decode cL_ticks 112 = .ok (.iload 11, 2) := by decide +kernel
theorem dL_ticks_114 : decode cL_ticks 114 = .ok (.iconst 4, 1) := by decide +kernel
theorem dL_ticks_115 : decode cL_ticks 115 = .ok (.invokevirtual 84, 3) := by decide +kernel
theorem dL_ticks_118 : decode cL_ticks 118 = .ok (.iastore, 1) := by decide +kernel
theorem dL_ticks_119 : decode cL_ticks 119 = .ok (.iinc 11 1, 3) := by decide +kernel
theorem dL_ticks_122 : decode cL_ticks 122 = .ok (.goto (-33), 3) := by decide +kernel
theorem dL_ticks_125 : decode cL_ticks 125 = .ok (.aload_n 0, 1) := by decide +kernel
theorem dL_ticks_126 : decode cL_ticks 126 = .ok (.iconst 1, 1) := by decide +kernel
theorem dL_ticks_127 : decode cL_ticks 127 = .ok (.invokevirtual 87, 3) := by decide +kernel
theorem dL_ticks_130 : decode cL_ticks 130 = .ok (.iload 7, 2) := by decide +kernel
theorem dL_ticks_132 : decode cL_ticks 132 = .ok (.iconst 1, 1) := by decide +kernel
theorem dL_ticks_133 : decode cL_ticks 133 = .ok (.iadd, 1) := by decide +kernel
theorem dL_ticks_134 : decode cL_ticks 134 = .ok (.if_icmp .ne 14, 3) := by decide +kernel
theorem dL_ticks_137 : decode cL_ticks 137 = .ok (.aload_n 0, 1) := by decide +kernel
theorem dL_ticks_138 : decode cL_ticks 138 = .ok (.iload 9, 2) := by decide +kernel
theorem dL_ticks_140 : decode cL_ticks 140 = .ok (.iload 10, 2) := by decide +kernel
theorem dL_ticks_142 : decode cL_ticks 142 = .ok (.invokestatic 90, 3) := by decide +kernel
theorem dL_ticks_145 : decode cL_ticks 145 = .ok (.ifCond .ne 5, 3) := by decide +kernel
theorem dL_ticks_148 : decode cL_ticks 148 = .ok (.iconst 0, 1) := by decide +kernel
theorem dL_ticks_149 : decode cL_ticks 149 = .ok (.ireturn, 1) := by decide +kernel
theorem dL_ticks_150 : decode cL_ticks 150 = .ok (.iconst 3, 1) := by decide +kernel
theorem dL_ticks_151 : decode cL_ticks 151 = .ok (.newarray .long, 2) := by decide +kernel
theorem dL_ticks_153 : decode cL_ticks 153 = .ok (.astore 11, 2) := by decide +kernel
theorem dL_ticks_155 : decode cL_ticks 155 = .ok (.iconst 3, 1) := by decide +kernel
theorem dL_ticks_156 : decode cL_ticks 156 = .ok (.newarray .long, 2) := by decide +kernel
theorem dL_ticks_158 : decode cL_ticks 158 = .ok (.astore 12, 2) := by decide +kernel
theorem dL_ticks_160 : decode cL_ticks 160 = .ok (.iconst 0, 1) := by decide +kernel
theorem dL_ticks_161 : decode cL_ticks 161 = .ok (.istore 13, 2) := by decide +kernel
theorem dL_ticks_163 : decode cL_ticks 163 = .ok (.iconst 0, 1) := by decide +kernel
theorem dL_ticks_164 : decode cL_ticks 164 = .ok (.istore 14, 2) := by decide +kernel
theorem dL_ticks_166 : decode cL_ticks 166 = .ok (.iload 14, 2) := by decide +kernel
theorem dL_ticks_168 : decode cL_ticks 168 = .ok (.iload_n 2, 1) := by decide +kernel
theorem dL_ticks_169 : decode cL_ticks 169 = .ok (.if_icmp .ge 318, 3) := by decide +kernel
theorem dL_ticks_172 : decode cL_ticks 172 = .ok (.aload_n 0, 1) := by decide +kernel
theorem dL_ticks_173 : decode cL_ticks 173 = .ok (.iload 14, 2) := by decide +kernel
theorem dL_ticks_175 : decode cL_ticks 175 = .ok (.bipush 7, 2) := by decide +kernel
theorem dL_ticks_177 : decode cL_ticks 177 = .ok (.invokevirtual 75, 3) := by decide +kernel
theorem dL_ticks_180 : decode cL_ticks 180 = .ok (.istore 15, 2) := by decide +kernel
theorem dL_ticks_182 : decode cL_ticks 182 = .ok (.aload_n 0, 1) := by decide +kernel
theorem dL_ticks_183 : decode cL_ticks 183 = .ok (.iload 14, 2) := by decide +kernel
theorem dL_ticks_185 : decode cL_ticks 185 = .ok (.iconst 0, 1) := by decide +kernel
theorem dL_ticks_186 : decode cL_ticks 186 = .ok (.invokevirtual 75, 3) := by decide +kernel
theorem dL_ticks_189 : decode cL_ticks 189 = .ok (.istore 16, 2) := by decide +kernel
theorem dL_ticks_191 : decode cL_ticks 191 = .ok (.aload_n 0, 1) := by decide +kernel
theorem dL_ticks_192 : decode cL_ticks 192 = .ok (.iload 14, 2) := by decide +kernel
theorem dL_ticks_194 : decode cL_ticks 194 = .ok (.iconst 3, 1) := by decide +kernel
theorem dL_ticks_195 : decode cL_ticks 195 = .ok (.invokevirtual 75, 3) := by decide +kernel
theorem dL_ticks_198 : decode cL_ticks 198 = .ok (.istore 17, 2) := by decide +kernel
theorem dL_ticks_200 : decode cL_ticks 200 = .ok (.aload_n 0, 1) := by decide +kernel
theorem dL_ticks_201 : decode cL_ticks 201 = .ok (.iload 14, 2) := by decide +kernel
theorem dL_ticks_203 : decode cL_ticks 203 = .ok (.bipush 8, 2) := by decide +kernel
theorem dL_ticks_205 : decode cL_ticks 205 = .ok (.invokevirtual 75, 3) := by decide +kernel
theorem dL_ticks_208 : decode cL_ticks 208 = .ok (.istore 18, 2) := by decide +kernel
theorem dL_ticks_210 : decode cL_ticks 210 = .ok (.iload 15, 2) := by decide +kernel
theorem dL_ticks_212 : decode cL_ticks 212 = .ok (.aload_n 3, 1) := by decide +kernel
theorem dL_ticks_213 : decode cL_ticks 213 = .ok (.iload 14, 2) := by decide +kernel
theorem dL_ticks_215 : decode cL_ticks 215 = .ok (.iaload, 1) := by decide +kernel
theorem dL_ticks_216 : decode cL_ticks 216 = .ok (.iload 17, 2) := by decide +kernel
theorem dL_ticks_218 : decode cL_ticks 218 = .ok (.isub, 1) := by decide +kernel
theorem dL_ticks_219 : decode cL_ticks 219 = .ok (.if_icmp .lt 43, 3) := by decide +kernel
theorem dL_ticks_222 : decode cL_ticks 222 = .ok (.iload 15, 2) := by decide +kernel
theorem dL_ticks_224 : decode cL_ticks 224 = .ok (.aload_n 3, 1) := by decide +kernel
theorem dL_ticks_225 : decode cL_ticks 225 = .ok (.iload 14, 2) := by decide +kernel
theorem dL_ticks_227 : decode cL_ticks 227 = .ok (.iaload, 1) := by decide +kernel
theorem dL_ticks_228 : decode cL_ticks 228 = .ok (.iload 17, 2) := by decide +kernel
theorem dL_ticks_230 : decode cL_ticks 230 = .ok (.iadd, 1) := by decide +kernel
theorem dL_ticks_231 : decode cL_ticks 231 = .ok (.if_icmp .gt 31, 3) := by decide +kernel
theorem dL_ticks_234 : decode cL_ticks 234 = .ok (.iload 15, 2) := by decide +kernel
theorem dL_ticks_236 : decode cL_ticks 236 = .ok (.ifCond .lt 26, 3) := by decide +kernel
theorem dL_ticks_239 : decode cL_ticks 239 = .ok (.iload 15, 2) := by decide +kernel
theorem dL_ticks_241 : decode cL_ticks 241 = .ok (.sipush 1000, 3) := by decide +kernel
theorem dL_ticks_244 : decode cL_ticks 244 = .ok (.if_icmp .gt 18, 3) := by decide +kernel
theorem dL_ticks_247 : decode cL_ticks 247 = .ok (.iload 18, 2) := by decide +kernel
theorem dL_ticks_249 : decode cL_ticks 249 = .ok (.iload 15, 2) := by decide +kernel
theorem dL_ticks_251 : decode cL_ticks 251 = .ok (.iload 16, 2) := by decide +kernel
theorem dL_ticks_253 : decode cL_ticks 253 = .ok (.imul, 1) := by decide +kernel
theorem dL_ticks_254 : decode cL_ticks 254 = .ok (.if_icmp .gt 8, 3) := by decide +kernel
theorem dL_ticks_257 : decode cL_ticks 257 = .ok (.iload 18, 2) := by decide +kernel
theorem dL_ticks_259 : decode cL_ticks 259 = .ok (.ifCond .ge 5, 3) := by decide +kernel
theorem dL_ticks_262 : decode cL_ticks 262 = .ok (.iconst 0, 1) := by decide +kernel
theorem dL_ticks_263 : decode cL_ticks 263 = .ok (.ireturn, 1) := by decide +kernel
theorem dL_ticks_264 : decode cL_ticks 264 = .ok (.aload_n 0, 1) := by decide +kernel
theorem dL_ticks_265 : decode cL_ticks 265 = .ok (.iconst 5, 1) := by decide +kernel
theorem dL_ticks_266 : decode cL_ticks 266 = .ok (.invokevirtual 63, 3) := by decide +kernel
theorem dL_ticks_269 : decode cL_ticks 269 = .ok (.iconst 2, 1) := by decide +kernel
theorem dL_ticks_270 : decode cL_ticks 270 = .ok (.if_icmp .ne 20, 3) := by decide +kernel
theorem dL_ticks_273 : decode cL_ticks 273 = .ok (.iload 15, 2) := by decide +kernel
theorem dL_ticks_275 : decode cL_ticks 275 = .ok (.ifCond .le 15, 3) := by decide +kernel
theorem dL_ticks_278 : decode cL_ticks 278 = .ok (.iload 15, 2) := by decide +kernel
theorem dL_ticks_280 : decode cL_ticks 280 = .ok (.aload_n 3, 1) := by decide +kernel
theorem dL_ticks_281 : decode cL_ticks 281 = .ok (.iload 14, 2) := by decide +kernel
theorem dL_ticks_283 : decode cL_ticks 283 = .ok (.iaload, 1) := by decide +kernel
theorem dL_ticks_284 : decode cL_ticks 284 = .ok (.iload 17, 2) := by decide +kernel
theorem dL_ticks_286 : decode cL_ticks 286 = .ok (.isub, 1) := by decide +kernel
theorem dL_ticks_287 : decode cL_ticks 287 = .ok (.if_icmp .ne 35, 3) := by decide +kernel
theorem dL_ticks_290 : decode cL_ticks 290 = .ok (.aload_n 0, 1) := by decide +kernel
theorem dL_ticks_291 : decode cL_ticks 291 = .ok (.iconst 5, 1) := by decide +kernel
theorem dL_ticks_292 : decode cL_ticks 292 = .ok (.invokevirtual 63, 3) := by decide +kernel
theorem dL_ticks_295 : decode cL_ticks 295 = .ok (.iconst 1, 1) := by decide +kernel
theorem dL_ticks_296 : decode cL_ticks 296 = .ok (.if_icmp .ne 28, 3) := by decide +kernel
theorem dL_ticks_299 : decode cL_ticks 299 = .ok (.iload 15, 2) := by decide +kernel
theorem dL_ticks_301 : decode cL_ticks 301 = .ok (.aload_n 0, 1) := by decide +kernel
theorem dL_ticks_302 : decode cL_ticks 302 = .ok (.bipush 13, 2) := by decide +kernel
theorem dL_ticks_304 : decode cL_ticks 304 = .ok (.invokevirtual 63, 3) := by decide +kernel
theorem dL_ticks_307 : decode cL_ticks 307 = .ok (.if_icmp .le 17, 3) := by decide +kernel
theorem dL_ticks_310 : decode cL_ticks 310 = .ok (.iload 15, 2) := by decide +kernel
theorem dL_ticks_312 : decode cL_ticks 312 = .ok (.aload_n 3, 1) := by decide +kernel
theorem dL_ticks_313 : decode cL_ticks 313 = .ok (.iload 14, 2) := by decide +kernel
theorem dL_ticks_315 : decode cL_ticks 315 = .ok (.iaload, 1) := by decide +kernel
theorem dL_ticks_316 : decode cL_ticks 316 = .ok (.iload 17, 2) := by decide +kernel
theorem dL_ticks_318 : decode cL_ticks 318 = .ok (.isub, 1) := by decide +kernel
theorem dL_ticks_319 : decode cL_ticks 319 = .ok (.if_icmp .eq 5, 3) := by decide +kernel
theorem dL_ticks_322 : decode cL_ticks 322 = .ok (.iconst 0, 1) := by decide +kernel
theorem dL_ticks_323 : decode cL_ticks 323 = .ok (.ireturn, 1) := by decide +kernel
theorem dL_ticks_324 : decode cL_ticks 324 = .ok (.iload 18, 2) := by decide +kernel
theorem dL_ticks_326 : decode cL_ticks 326 = .ok (.iload 16, 2) := by decide +kernel
theorem dL_ticks_328 : decode cL_ticks 328 = .ok (.idiv, 1) := by decide +kernel
theorem dL_ticks_329 : decode cL_ticks 329 = .ok (.i2l, 1) := by decide +kernel
theorem dL_ticks_330 : decode cL_ticks 330 = .ok (.lstore 19, 2) := by decide +kernel
theorem dL_ticks_332 : decode cL_ticks 332 = .ok (.aload_n 0, 1) := by decide +kernel
theorem dL_ticks_333 : decode cL_ticks 333 = .ok (.iload 14, 2) := by decide +kernel
theorem dL_ticks_335 : decode cL_ticks 335 = .ok (.bipush 9, 2) := by decide +kernel
theorem dL_ticks_337 : decode cL_ticks 337 = .ok (.invokevirtual 75, 3) := by decide +kernel
theorem dL_ticks_340 : decode cL_ticks 340 = .ok (.lload 19, 2) := by decide +kernel
theorem dL_ticks_342 : decode cL_ticks 342 = .ok (.lload 19, 2) := by decide +kernel
theorem dL_ticks_344 : decode cL_ticks 344 = .ok (.lmul, 1) := by decide +kernel
theorem dL_ticks_345 : decode cL_ticks 345 = .ok (.aload_n 0, 1) := by decide +kernel
theorem dL_ticks_346 : decode cL_ticks 346 = .ok (.iload 14, 2) := by decide +kernel
theorem dL_ticks_348 : decode cL_ticks 348 = .ok (.iconst 1, 1) := by decide +kernel
theorem dL_ticks_349 : decode cL_ticks 349 = .ok (.invokevirtual 75, 3) := by decide +kernel
theorem dL_ticks_352 : decode cL_ticks 352 = .ok (.i2l, 1) := by decide +kernel
theorem dL_ticks_353 : decode cL_ticks 353 = .ok (.lmul, 1) := by decide +kernel
theorem dL_ticks_354 : decode cL_ticks 354 = .ok (.ldc2_w 93, 3) := by decide +kernel
theorem dL_ticks_357 : decode cL_ticks 357 = .ok (.ldiv, 1) := by decide +kernel
theorem dL_ticks_358 : decode cL_ticks 358 = .ok (.l2i, 1) := by decide +kernel
theorem dL_ticks_359 : decode cL_ticks 359 = .ok (.if_icmp .ne 58, 3) := by decide +kernel
theorem dL_ticks_362 : decode cL_ticks 362 = .ok (.aload_n 0, 1) := by decide +kernel
theorem dL_ticks_363 : decode cL_ticks 363 = .ok (.iload 14, 2) := by decide +kernel
theorem dL_ticks_365 : decode cL_ticks 365 = .ok (.bipush 10, 2) := by decide +kernel
theorem dL_ticks_367 : decode cL_ticks 367 = .ok (.invokevirtual 75, 3) := by decide +kernel
theorem dL_ticks_370 : decode cL_ticks 370 = .ok (.aload_n 0, 1) := by decide +kernel
theorem dL_ticks_371 : decode cL_ticks 371 = .ok (.iload 14, 2) := by decide +kernel
theorem dL_ticks_373 : decode cL_ticks 373 = .ok (.bipush 9, 2) := by decide +kernel
theorem dL_ticks_375 : decode cL_ticks 375 = .ok (.invokevirtual 75, 3) := by decide +kernel
theorem dL_ticks_378 : decode cL_ticks 378 = .ok (.aload_n 0, 1) := by decide +kernel
theorem dL_ticks_379 : decode cL_ticks 379 = .ok (.iconst 4, 1) := by decide +kernel
theorem dL_ticks_380 : decode cL_ticks 380 = .ok (.invokevirtual 63, 3) := by decide +kernel
theorem dL_ticks_383 : decode cL_ticks 383 = .ok (.imul, 1) := by decide +kernel
theorem dL_ticks_384 : decode cL_ticks 384 = .ok (.aload_n 0, 1) := by decide +kernel
theorem dL_ticks_385 : decode cL_ticks 385 = .ok (.iload 14, 2) := by decide +kernel
theorem dL_ticks_387 : decode cL_ticks 387 = .ok (.iconst 5, 1) := by decide +kernel
theorem dL_ticks_388 : decode cL_ticks 388 = .ok (.invokevirtual 75, 3) := by decide +kernel
theorem dL_ticks_391 : decode cL_ticks 391 = .ok (.imul, 1) := by decide +kernel
theorem dL_ticks_392 : decode cL_ticks 392 = .ok (.ldc 95, 2) := by decide +kernel
theorem dL_ticks_394 : decode cL_ticks 394 = .ok (.idiv, 1) := by decide +kernel
theorem dL_ticks_395 : decode cL_ticks 395 = .ok (.if_icmp .ne 22, 3) := by decide +kernel
theorem dL_ticks_398 : decode cL_ticks 398 = .ok (.aload_n 0, 1) := by decide +kernel
theorem dL_ticks_399 : decode cL_ticks 399 = .ok (.iload 14, 2) := by decide +kernel
theorem dL_ticks_401 : decode cL_ticks 401 = .ok (.bipush 11, 2) := by decide +kernel
theorem dL_ticks_403 : decode cL_ticks 403 = .ok (.invokevirtual 75, 3) := by decide +kernel
theorem dL_ticks_406 : decode cL_ticks 406 = .ok (.aload_n 0, 1) := by decide +kernel
theorem dL_ticks_407 : decode cL_ticks 407 = .ok (.iload 14, 2) := by decide +kernel
theorem dL_ticks_409 : decode cL_ticks 409 = .ok (.bipush 9, 2) := by decide +kernel
theorem dL_ticks_411 : decode cL_ticks 411 = .ok (.invokevirtual 75, 3) := by decide +kernel
theorem dL_ticks_414 : decode cL_ticks 414 = .ok (.if_icmp .ge 5, 3) := by decide +kernel
theorem dL_ticks_417 : decode cL_ticks 417 = .ok (.iconst 0, 1) := by decide +kernel
theorem dL_ticks_418 : decode cL_ticks 418 = .ok (.ireturn, 1) := by decide +kernel
theorem dL_ticks_419 : decode cL_ticks 419 = .ok (.aload 11, 2) := by decide +kernel
theorem dL_ticks_421 : decode cL_ticks 421 = .ok (.aload_n 0, 1) := by decide +kernel
theorem dL_ticks_422 : decode cL_ticks 422 = .ok (.iload 14, 2) := by decide +kernel
theorem dL_ticks_424 : decode cL_ticks 424 = .ok (.iconst 4, 1) := by decide +kernel
theorem dL_ticks_425 : decode cL_ticks 425 = .ok (.invokevirtual 75, 3) := by decide +kernel
theorem dL_ticks_428 : decode cL_ticks 428 = .ok (.dup2, 1) := by decide +kernel
theorem dL_ticks_429 : decode cL_ticks 429 = .ok (.laload, 1) := by decide +kernel
theorem dL_ticks_430 : decode cL_ticks 430 = .ok (.iload 15, 2) := by decide +kernel
theorem dL_ticks_432 : decode cL_ticks 432 = .ok (.iload 16, 2) := by decide +kernel
theorem dL_ticks_434 : decode cL_ticks 434 = .ok (.imul, 1) := by decide +kernel
theorem dL_ticks_435 : decode cL_ticks 435 = .ok (.i2l, 1) := by decide +kernel
theorem dL_ticks_436 : decode cL_ticks 436 = .ok (.ladd, 1) := by decide +kernel
theorem dL_ticks_437 : decode cL_ticks 437 = .ok (.lastore, 1) := by decide +kernel
theorem dL_ticks_438 : decode cL_ticks 438 = .ok (.aload 12, 2) := by decide +kernel
theorem dL_ticks_440 : decode cL_ticks 440 = .ok (.aload_n 0, 1) := by decide +kernel
theorem dL_ticks_441 : decode cL_ticks 441 = .ok (.iload 14, 2) := by decide +kernel
theorem dL_ticks_443 : decode cL_ticks 443 = .ok (.iconst 4, 1) := by decide +kernel
theorem dL_ticks_444 : decode cL_ticks 444 = .ok (.invokevirtual 75, 3) := by decide +kernel
theorem dL_ticks_447 : decode cL_ticks 447 = .ok (.dup2, 1) := by decide +kernel
theorem dL_ticks_448 : decode cL_ticks 448 = .ok (.laload, 1) := by decide +kernel
theorem dL_ticks_449 : decode cL_ticks 449 = .ok (.iload 18, 2) := by decide +kernel
theorem dL_ticks_451 : decode cL_ticks 451 = .ok (.i2l, 1) := by decide +kernel
theorem dL_ticks_452 : decode cL_ticks 452 = .ok (.ladd, 1) := by decide +kernel
theorem dL_ticks_453 : decode cL_ticks 453 = .ok (.lastore, 1) := by decide +kernel
theorem dL_ticks_454 : decode cL_ticks 454 = .ok (.iload 13, 2) := by decide +kernel
theorem dL_ticks_456 : decode cL_ticks 456 = .ok (.aload_n 0, 1) := by decide +kernel
theorem dL_ticks_457 : decode cL_ticks 457 = .ok (.iload 14, 2) := by decide +kernel
theorem dL_ticks_459 : decode cL_ticks 459 = .ok (.bipush 10, 2) := by decide +kernel
theorem dL_ticks_461 : decode cL_ticks 461 = .ok (.invokevirtual 75, 3) := by decide +kernel
theorem dL_ticks_464 : decode cL_ticks 464 = .ok (.aload_n 0, 1) := by decide +kernel
theorem dL_ticks_465 : decode cL_ticks 465 = .ok (.bipush 15, 2) := by decide +kernel
theorem dL_ticks_467 : decode cL_ticks 467 = .ok (.invokevirtual 63, 3) := by decide +kernel
theorem dL_ticks_470 : decode cL_ticks 470 = .ok (.if_icmp .le 7, 3) := by decide +kernel
theorem dL_ticks_473 : decode cL_ticks 473 = .ok (.iconst 1, 1) := by decide +kernel
theorem dL_ticks_474 : decode cL_ticks 474 = .ok (.goto 4, 3) := by decide +kernel
theorem dL_ticks_477 : decode cL_ticks 477 = .ok (.iconst 0, 1) := by decide +kernel
theorem dL_ticks_478 : decode cL_ticks 478 = .ok (.ior, 1) := by decide +kernel
theorem dL_ticks_479 : decode cL_ticks 479 = .ok (.istore 13, 2) := by decide +kernel
theorem dL_ticks_481 : decode cL_ticks 481 = .ok (.iinc 14 1, 3) := by decide +kernel
theorem dL_ticks_484 : decode cL_ticks 484 = .ok (.goto (-318), 3) := by decide +kernel
theorem dL_ticks_487 : decode cL_ticks 487 = .ok (.iconst 0, 1) := by decide +kernel
theorem dL_ticks_488 : decode cL_ticks 488 = .ok (.istore 14, 2) := by decide +kernel
theorem dL_ticks_490 : decode cL_ticks 490 = .ok (.iload 14, 2) := by decide +kernel
theorem dL_ticks_492 : decode cL_ticks 492 = .ok (.iconst 3, 1) := by decide +kernel
theorem dL_ticks_493 : decode cL_ticks 493 = .ok (.if_icmp .ge 226, 3) := by decide +kernel
theorem dL_ticks_496 : decode cL_ticks 496 = .ok (.aload_n 0, 1) := by decide +kernel
theorem dL_ticks_497 : decode cL_ticks 497 = .ok (.iload 14, 2) := by decide +kernel
theorem dL_ticks_499 : decode cL_ticks 499 = .ok (.iconst 2, 1) := by decide +kernel
theorem dL_ticks_500 : decode cL_ticks 500 = .ok (.invokevirtual 84, 3) := by decide +kernel
theorem dL_ticks_503 : decode cL_ticks 503 = .ok (.istore 15, 2) := by decide +kernel
theorem dL_ticks_505 : decode cL_ticks 505 = .ok (.sipush 1000, 3) := by decide +kernel
theorem dL_ticks_508 : decode cL_ticks 508 = .ok (.aload_n 0, 1) := by decide +kernel
theorem dL_ticks_509 : decode cL_ticks 509 = .ok (.iload 14, 2) := by decide +kernel
theorem dL_ticks_511 : decode cL_ticks 511 = .ok (.iconst 1, 1) := by decide +kernel
theorem dL_ticks_512 : decode cL_ticks 512 = .ok (.invokevirtual 84, 3) := by decide +kernel
theorem dL_ticks_515 : decode cL_ticks 515 = .ok (.imul, 1) := by decide +kernel
theorem dL_ticks_516 : decode cL_ticks 516 = .ok (.istore 16, 2) := by decide +kernel
theorem dL_ticks_518 : decode cL_ticks 518 = .ok (.aload_n 0, 1) := by decide +kernel
theorem dL_ticks_519 : decode cL_ticks 519 = .ok (.iload 14, 2) := by decide +kernel
theorem dL_ticks_521 : decode cL_ticks 521 = .ok (.iconst 3, 1) := by decide +kernel
theorem dL_ticks_522 : decode cL_ticks 522 = .ok (.invokevirtual 84, 3) := by decide +kernel
theorem dL_ticks_525 : decode cL_ticks 525 = .ok (.i2l, 1) := by decide +kernel
theorem dL_ticks_526 : decode cL_ticks 526 = .ok (.aload 11, 2) := by decide +kernel
theorem dL_ticks_528 : decode cL_ticks 528 = .ok (.iload 14, 2) := by decide +kernel
theorem dL_ticks_530 : decode cL_ticks 530 = .ok (.laload, 1) := by decide +kernel
theorem dL_ticks_531 : decode cL_ticks 531 = .ok (.lcmp, 1) := by decide +kernel
theorem dL_ticks_532 : decode cL_ticks 532 = .ok (.ifCond .ne 84, 3) := by decide +kernel
theorem dL_ticks_535 : decode cL_ticks 535 = .ok (.aload 12, 2) := by decide +kernel
theorem dL_ticks_537 : decode cL_ticks 537 = .ok (.iload 14, 2) := by decide +kernel
theorem dL_ticks_539 : decode cL_ticks 539 = .ok (.laload, 1) := by decide +kernel
theorem dL_ticks_540 : decode cL_ticks 540 = .ok (.iload 15, 2) := by decide +kernel
theorem dL_ticks_542 : decode cL_ticks 542 = .ok (.i2l, 1) := by decide +kernel
theorem dL_ticks_543 : decode cL_ticks 543 = .ok (.lcmp, 1) := by decide +kernel
theorem dL_ticks_544 : decode cL_ticks 544 = .ok (.ifCond .le 13, 3) := by decide +kernel
theorem dL_ticks_547 : decode cL_ticks 547 = .ok (.aload 12, 2) := by decide +kernel
theorem dL_ticks_549 : decode cL_ticks 549 = .ok (.iload 14, 2) := by decide +kernel
theorem dL_ticks_551 : decode cL_ticks 551 = .ok (.laload, 1) := by decide +kernel
theorem dL_ticks_552 : decode cL_ticks 552 = .ok (.lconst 0, 1) := by decide +kernel
theorem dL_ticks_553 : decode cL_ticks 553 = .ok (.lcmp, 1) := by decide +kernel
theorem dL_ticks_554 : decode cL_ticks 554 = .ok (.ifCond .ne 62, 3) := by decide +kernel
theorem dL_ticks_557 : decode cL_ticks 557 = .ok (.iload 15, 2) := by decide +kernel
theorem dL_ticks_559 : decode cL_ticks 559 = .ok (.aload 4, 2) := by decide +kernel
theorem dL_ticks_561 : decode cL_ticks 561 = .ok (.iload 14, 2) := by decide +kernel
theorem dL_ticks_563 : decode cL_ticks 563 = .ok (.iaload, 1) := by decide +kernel
theorem dL_ticks_564 : decode cL_ticks 564 = .ok (.iload 16, 2) := by decide +kernel
theorem dL_ticks_566 : decode cL_ticks 566 = .ok (.iadd, 1) := by decide +kernel
theorem dL_ticks_567 : decode cL_ticks 567 = .ok (.if_icmp .gt 49, 3) := by decide +kernel
theorem dL_ticks_570 : decode cL_ticks 570 = .ok (.iload 15, 2) := by decide +kernel
theorem dL_ticks_572 : decode cL_ticks 572 = .ok (.aload 4, 2) := by decide +kernel
theorem dL_ticks_574 : decode cL_ticks 574 = .ok (.iload 14, 2) := by decide +kernel
theorem dL_ticks_576 : decode cL_ticks 576 = .ok (.iaload, 1) := by decide +kernel
theorem dL_ticks_577 : decode cL_ticks 577 = .ok (.iload 16, 2) := by decide +kernel
theorem dL_ticks_579 : decode cL_ticks 579 = .ok (.isub, 1) := by decide +kernel
theorem dL_ticks_580 : decode cL_ticks 580 = .ok (.if_icmp .lt 36, 3) := by decide +kernel
theorem dL_ticks_583 : decode cL_ticks 583 = .ok (.aload_n 0, 1) := by decide +kernel
theorem dL_ticks_584 : decode cL_ticks 584 = .ok (.iload 14, 2) := by decide +kernel
theorem dL_ticks_586 : decode cL_ticks 586 = .ok (.iconst 4, 1) := by decide +kernel
theorem dL_ticks_587 : decode cL_ticks 587 = .ok (.invokevirtual 84, 3) := by decide +kernel
theorem dL_ticks_590 : decode cL_ticks 590 = .ok (.aload 5, 2) := by decide +kernel
theorem dL_ticks_592 : decode cL_ticks 592 = .ok (.iload 14, 2) := by decide +kernel
theorem dL_ticks_594 : decode cL_ticks 594 = .ok (.iaload, 1) := by decide +kernel
theorem dL_ticks_595 : decode cL_ticks 595 = .ok (.aload 11, 2) := by decide +kernel
theorem dL_ticks_597 : decode cL_ticks 597 = .ok (.iload 14, 2) := by decide +kernel
theorem dL_ticks_599 : decode cL_ticks 599 = .ok (.laload, 1) := by decide +kernel
theorem dL_ticks_600 : decode cL_ticks 600 = .ok (.iload 15, 2) := by decide +kernel
theorem dL_ticks_602 : decode cL_ticks 602 = .ok (.i2l, 1) := by decide +kernel
theorem dL_ticks_603 : decode cL_ticks 603 = .ok (.lcmp, 1) := by decide +kernel
theorem dL_ticks_604 : decode cL_ticks 604 = .ok (.ifCond .le 7, 3) := by decide +kernel
theorem dL_ticks_607 : decode cL_ticks 607 = .ok (.iconst 1, 1) := by decide +kernel
theorem dL_ticks_608 : decode cL_ticks 608 = .ok (.goto 4, 3) := by decide +kernel
theorem dL_ticks_611 : decode cL_ticks 611 = .ok (.iconst 0, 1) := by decide +kernel
theorem dL_ticks_612 : decode cL_ticks 612 = .ok (.iadd, 1) := by decide +kernel
theorem dL_ticks_613 : decode cL_ticks 613 = .ok (.if_icmp .eq 5, 3) := by decide +kernel
theorem dL_ticks_616 : decode cL_ticks 616 = .ok (.iconst 0, 1) := by decide +kernel
theorem dL_ticks_617 : decode cL_ticks 617 = .ok (.ireturn, 1) := by decide +kernel
theorem dL_ticks_618 : decode cL_ticks 618 = .ok (.aload 11, 2) := by decide +kernel
theorem dL_ticks_620 : decode cL_ticks 620 = .ok (.iload 14, 2) := by decide +kernel
theorem dL_ticks_622 : decode cL_ticks 622 = .ok (.laload, 1) := by decide +kernel
theorem dL_ticks_623 : decode cL_ticks 623 = .ok (.iload 15, 2) := by decide +kernel
theorem dL_ticks_625 : decode cL_ticks 625 = .ok (.i2l, 1) := by decide +kernel
theorem dL_ticks_626 : decode cL_ticks 626 = .ok (.lcmp, 1) := by decide +kernel
theorem dL_ticks_627 : decode cL_ticks 627 = .ok (.ifCond .gt 17, 3) := by decide +kernel
theorem dL_ticks_630 : decode cL_ticks 630 = .ok (.aload 12, 2) := by decide +kernel
theorem dL_ticks_632 : decode cL_ticks 632 = .ok (.iload 14, 2) := by decide +kernel
theorem dL_ticks_634 : decode cL_ticks 634 = .ok (.laload, 1) := by decide +kernel
theorem dL_ticks_635 : decode cL_ticks 635 = .ok (.aload 11, 2) := by decide +kernel
theorem dL_ticks_637 : decode cL_ticks 637 = .ok (.iload 14, 2) := by decide +kernel
theorem dL_ticks_639 : decode cL_ticks 639 = .ok (.laload, 1) := by decide +kernel
theorem dL_ticks_640 : decode cL_ticks 640 = .ok (.lcmp, 1) := by decide +kernel
theorem dL_ticks_641 : decode cL_ticks 641 = .ok (.ifCond .ne 30, 3) := by decide +kernel
theorem dL_ticks_644 : decode cL_ticks 644 = .ok (.aload 11, 2) := by decide +kernel
theorem dL_ticks_646 : decode cL_ticks 646 = .ok (.iload 14, 2) := by decide +kernel
theorem dL_ticks_648 : decode cL_ticks 648 = .ok (.laload, 1) := by decide +kernel
theorem dL_ticks_649 : decode cL_ticks 649 = .ok (.iload 15, 2) := by decide +kernel
theorem dL_ticks_651 : decode cL_ticks 651 = .ok (.i2l, 1) := by decide +kernel
theorem dL_ticks_652 : decode cL_ticks 652 = .ok (.lcmp, 1) := by decide +kernel
theorem dL_ticks_653 : decode cL_ticks 653 = .ok (.ifCond .le 20, 3) := by decide +kernel
theorem dL_ticks_656 : decode cL_ticks 656 = .ok (.iload 15, 2) := by decide +kernel
theorem dL_ticks_658 : decode cL_ticks 658 = .ok (.i2l, 1) := by decide +kernel
theorem dL_ticks_659 : decode cL_ticks 659 = .ok (.aload 12, 2) := by decide +kernel
theorem dL_ticks_661 : decode cL_ticks 661 = .ok (.iload 14, 2) := by decide +kernel
theorem dL_ticks_663 : decode cL_ticks 663 = .ok (.laload, 1) := by decide +kernel
theorem dL_ticks_664 : decode cL_ticks 664 = .ok (.lsub, 1) := by decide +kernel
theorem dL_ticks_665 : decode cL_ticks 665 = .ok (.iload_n 2, 1) := by decide +kernel
theorem dL_ticks_666 : decode cL_ticks 666 = .ok (.i2l, 1) := by decide +kernel
theorem dL_ticks_667 : decode cL_ticks 667 = .ok (.lcmp, 1) := by decide +kernel
theorem dL_ticks_668 : decode cL_ticks 668 = .ok (.ifCond .le 5, 3) := by decide +kernel
theorem dL_ticks_671 : decode cL_ticks 671 = .ok (.iconst 0, 1) := by decide +kernel
theorem dL_ticks_672 : decode cL_ticks 672 = .ok (.ireturn, 1) := by decide +kernel
theorem dL_ticks_673 : decode cL_ticks 673 = .ok (.iload 15, 2) := by decide +kernel
theorem dL_ticks_675 : decode cL_ticks 675 = .ok (.aload 4, 2) := by decide +kernel
theorem dL_ticks_677 : decode cL_ticks 677 = .ok (.iload 14, 2) := by decide +kernel
theorem dL_ticks_679 : decode cL_ticks 679 = .ok (.iaload, 1) := by decide +kernel
theorem dL_ticks_680 : decode cL_ticks 680 = .ok (.if_icmp .le 33, 3) := by decide +kernel
theorem dL_ticks_683 : decode cL_ticks 683 = .ok (.iload 15, 2) := by decide +kernel
theorem dL_ticks_685 : decode cL_ticks 685 = .ok (.i2l, 1) := by decide +kernel
theorem dL_ticks_686 : decode cL_ticks 686 = .ok (.aload 11, 2) := by decide +kernel
theorem dL_ticks_688 : decode cL_ticks 688 = .ok (.iload 14, 2) := by decide +kernel
theorem dL_ticks_690 : decode cL_ticks 690 = .ok (.laload, 1) := by decide +kernel
theorem dL_ticks_691 : decode cL_ticks 691 = .ok (.lcmp, 1) := by decide +kernel
theorem dL_ticks_692 : decode cL_ticks 692 = .ok (.ifCond .gt 19, 3) := by decide +kernel
theorem dL_ticks_695 : decode cL_ticks 695 = .ok (.iload 15, 2) := by decide +kernel
theorem dL_ticks_697 : decode cL_ticks 697 = .ok (.sipush 1000, 3) := by decide +kernel
theorem dL_ticks_700 : decode cL_ticks 700 = .ok (.aload_n 0, 1) := by decide +kernel
theorem dL_ticks_701 : decode cL_ticks 701 = .ok (.iload 14, 2) := by decide +kernel
theorem dL_ticks_703 : decode cL_ticks 703 = .ok (.iconst 0, 1) := by decide +kernel
theorem dL_ticks_704 : decode cL_ticks 704 = .ok (.invokevirtual 84, 3) := by decide +kernel
theorem dL_ticks_707 : decode cL_ticks 707 = .ok (.imul, 1) := by decide +kernel
theorem dL_ticks_708 : decode cL_ticks 708 = .ok (.if_icmp .le 5, 3) := by decide +kernel
theorem dL_ticks_711 : decode cL_ticks 711 = .ok (.iconst 0, 1) := by decide +kernel
theorem dL_ticks_712 : decode cL_ticks 712 = .ok (.ireturn, 1) := by decide +kernel
theorem dL_ticks_713 : decode cL_ticks 713 = .ok (.iinc 14 1, 3) := by decide +kernel
theorem dL_ticks_716 : decode cL_ticks 716 = .ok (.goto (-226), 3) := by decide +kernel
theorem dL_ticks_719 : decode cL_ticks 719 = .ok (.aload_n 0, 1) := by decide +kernel
theorem dL_ticks_720 : decode cL_ticks 720 = .ok (.bipush 7, 2) := by decide +kernel
theorem dL_ticks_722 : decode cL_ticks 722 = .ok (.invokevirtual 63, 3) := by decide +kernel
theorem dL_ticks_725 : decode cL_ticks 725 = .ok (.iload 8, 2) := by decide +kernel
theorem dL_ticks_727 : decode cL_ticks 727 = .ok (.iload 13, 2) := by decide +kernel
theorem dL_ticks_729 : decode cL_ticks 729 = .ok (.ifCond .eq 7, 3) := by decide +kernel
theorem dL_ticks_732 : decode cL_ticks 732 = .ok (.iconst 1, 1) := by decide +kernel
theorem dL_ticks_733 : decode cL_ticks 733 = .ok (.goto 4, 3) := by decide +kernel
theorem dL_ticks_736 : decode cL_ticks 736 = .ok (.iconst 0, 1) := by decide +kernel
theorem dL_ticks_737 : decode cL_ticks 737 = .ok (.iadd, 1) := by decide +kernel
theorem dL_ticks_738 : decode cL_ticks 738 = .ok (.if_icmp .eq 5, 3) := by decide +kernel
theorem dL_ticks_741 : decode cL_ticks 741 = .ok (.iconst 0, 1) := by decide +kernel
theorem dL_ticks_742 : decode cL_ticks 742 = .ok (.ireturn, 1) := by decide +kernel
theorem dL_ticks_743 : decode cL_ticks 743 = .ok (.iinc 6 1, 3) := by decide +kernel
theorem dL_ticks_746 : decode cL_ticks 746 = .ok (.goto (-722), 3) := by decide +kernel
theorem dL_ticks_749 : decode cL_ticks 749 = .ok (.iconst 1, 1) := by decide +kernel
theorem dL_ticks_750 : decode cL_ticks 750 = .ok (.ireturn, 1) := by decide +kernel
theorem dL_wind_0 : decode cL_wind 0 = .ok (.aload_n 0, 1) := by decide +kernel
theorem dL_wind_1 : decode cL_wind 1 = .ok (.iconst 4, 1) := by decide +kernel
theorem dL_wind_2 : decode cL_wind 2 = .ok (.invokevirtual 63, 3) := by decide +kernel
theorem dL_wind_5 : decode cL_wind 5 = .ok (.istore_n 3, 1) := by decide +kernel
theorem dL_wind_6 : decode cL_wind 6 = .ok (.aload_n 0, 1) := by decide +kernel
theorem dL_wind_7 : decode cL_wind 7 = .ok (.iconst 3, 1) := by decide +kernel
theorem dL_wind_8 : decode cL_wind 8 = .ok (.invokevirtual 63, 3) := by decide +kernel
theorem dL_wind_11 : decode cL_wind 11 = .ok (.istore 4, 2) := by decide +kernel
theorem dL_wind_13 : decode cL_wind 13 = .ok (.aload_n 0, 1) := by decide +kernel
theorem dL_wind_14 : decode cL_wind 14 = .ok (.iconst 5, 1) := by decide +kernel
theorem dL_wind_15 : decode cL_wind 15 = .ok (.invokevirtual 63, 3) := by decide +kernel
theorem dL_wind_18 : decode cL_wind 18 = .ok (.istore 5, 2) := by decide +kernel
theorem dL_wind_20 : decode cL_wind 20 = .ok (.iload_n 3, 1) := by decide +kernel
theorem dL_wind_21 : decode cL_wind 21 = .ok (.ifCond .lt 56, 3) := by decide +kernel
theorem dL_wind_24 : decode cL_wind 24 = .ok (.iload_n 3, 1) := by decide +kernel
theorem dL_wind_25 : decode cL_wind 25 = .ok (.sipush 300, 3) := by decide +kernel
theorem dL_wind_28 : decode cL_wind 28 = .ok (.if_icmp .gt 49, 3) := by decide +kernel
theorem dL_wind_31 : decode cL_wind 31 = .ok (.iload 4, 2) := by decide +kernel
theorem dL_wind_33 : decode cL_wind 33 = .ok (.iload_n 2, 1) := by decide +kernel
theorem dL_wind_34 : decode cL_wind 34 = .ok (.if_icmp .lt 8, 3) := by decide +kernel
theorem dL_wind_37 : decode cL_wind 37 = .ok (.iload_n 3, 1) := by decide +kernel
theorem dL_wind_38 : decode cL_wind 38 = .ok (.iload_n 2, 1) := by decide +kernel
theorem dL_wind_39 : decode cL_wind 39 = .ok (.if_icmp .lt 38, 3) := by decide +kernel
theorem dL_wind_42 : decode cL_wind 42 = .ok (.iload 4, 2) := by decide +kernel
theorem dL_wind_44 : decode cL_wind 44 = .ok (.iload_n 2, 1) := by decide +kernel
theorem dL_wind_45 : decode cL_wind 45 = .ok (.if_icmp .gt 8, 3) := by decide +kernel
theorem dL_wind_48 : decode cL_wind 48 = .ok (.iload_n 3, 1) := by decide +kernel
theorem dL_wind_49 : decode cL_wind 49 = .ok (.iload_n 2, 1) := by decide +kernel
theorem dL_wind_50 : decode cL_wind 50 = .ok (.if_icmp .gt 27, 3) := by decide +kernel
theorem dL_wind_53 : decode cL_wind 53 = .ok (.iload_n 3, 1) := by decide +kernel
theorem dL_wind_54 : decode cL_wind 54 = .ok (.iload 4, 2) := by decide +kernel
theorem dL_wind_56 : decode cL_wind 56 = .ok (.if_icmp .le 8, 3) := by decide +kernel
theorem dL_wind_59 : decode cL_wind 59 = .ok (.iload_n 3, 1) := by decide +kernel
theorem dL_wind_60 : decode cL_wind 60 = .ok (.iload_n 2, 1) := by decide +kernel
theorem dL_wind_61 : decode cL_wind 61 = .ok (.if_icmp .gt 16, 3) := by decide +kernel
theorem dL_wind_64 : decode cL_wind 64 = .ok (.iload_n 3, 1) := by decide +kernel
theorem dL_wind_65 : decode cL_wind 65 = .ok (.iload 4, 2) := by decide +kernel
theorem dL_wind_67 : decode cL_wind 67 = .ok (.iconst 1, 1) := by decide +kernel
theorem dL_wind_68 : decode cL_wind 68 = .ok (.isub, 1) := by decide +kernel
theorem dL_wind_69 : decode cL_wind 69 = .ok (.if_icmp .ge 10, 3) := by decide +kernel
theorem dL_wind_72 : decode cL_wind 72 = .ok (.iload_n 3, 1) := by decide +kernel
theorem dL_wind_73 : decode cL_wind 73 = .ok (.iload_n 2, 1) := by decide +kernel
theorem dL_wind_74 : decode cL_wind 74 = .ok (.if_icmp .ge 5, 3) := by decide +kernel
theorem dL_wind_77 : decode cL_wind 77 = .ok (.iconst 0, 1) := by decide +kernel
theorem dL_wind_78 : decode cL_wind 78 = .ok (.ireturn, 1) := by decide +kernel
theorem dL_wind_79 : decode cL_wind 79 = .ok (.iload_n 3, 1) := by decide +kernel
theorem dL_wind_80 : decode cL_wind 80 = .ok (.aload_n 0, 1) := by decide +kernel
theorem dL_wind_81 : decode cL_wind 81 = .ok (.bipush 12, 2) := by decide +kernel
theorem dL_wind_83 : decode cL_wind 83 = .ok (.invokevirtual 63, 3) := by decide +kernel
theorem dL_wind_86 : decode cL_wind 86 = .ok (.if_icmp .lt 24, 3) := by decide +kernel
theorem dL_wind_89 : decode cL_wind 89 = .ok (.iload 5, 2) := by decide +kernel
theorem dL_wind_91 : decode cL_wind 91 = .ok (.iconst 2, 1) := by decide +kernel
theorem dL_wind_92 : decode cL_wind 92 = .ok (.if_icmp .ne 16, 3) := by decide +kernel
theorem dL_wind_95 : decode cL_wind 95 = .ok (.aload_n 0, 1) := by decide +kernel
theorem dL_wind_96 : decode cL_wind 96 = .ok (.bipush 6, 2) := by decide +kernel
theorem dL_wind_98 : decode cL_wind 98 = .ok (.invokevirtual 63, 3) := by decide +kernel
theorem dL_wind_101 : decode cL_wind 101 = .ok (.ifCond .ne 7, 3) := by decide +kernel
theorem dL_wind_104 : decode cL_wind 104 = .ok (.iconst 1, 1) := by decide +kernel
theorem dL_wind_105 : decode cL_wind 105 = .ok (.goto 4, 3) := by decide +kernel
theorem dL_wind_108 : decode cL_wind 108 = .ok (.iconst 0, 1) := by decide +kernel
theorem dL_wind_109 : decode cL_wind 109 = .ok (.ireturn, 1) := by decide +kernel
theorem dL_wind_110 : decode cL_wind 110 = .ok (.iload 5, 2) := by decide +kernel
theorem dL_wind_112 : decode cL_wind 112 = .ok (.iload_n 1, 1) := by decide +kernel
theorem dL_wind_113 : decode cL_wind 113 = .ok (.if_icmp .le 29, 3) := by decide +kernel
theorem dL_wind_116 : decode cL_wind 116 = .ok (.iload_n 1, 1) := by decide +kernel
theorem dL_wind_117 : decode cL_wind 117 = .ok (.ifCond .ne 23, 3) := by decide +kernel
theorem dL_wind_120 : decode cL_wind 120 = .ok (.iload 5, 2) := by decide +kernel
theorem dL_wind_122 : decode cL_wind 122 = .ok (.iconst 1, 1) := by decide +kernel
theorem dL_wind_123 : decode cL_wind 123 = .ok (.if_icmp .ne 17, 3) := by decide +kernel
theorem dL_wind_126 : decode cL_wind 126 = .ok (.iload_n 3, 1) := by decide +kernel
theorem dL_wind_127 : decode cL_wind 127 = .ok (.aload_n 0, 1) := by decide +kernel
theorem dL_wind_128 : decode cL_wind 128 = .ok (.bipush 11, 2) := by decide +kernel
theorem dL_wind_130 : decode cL_wind 130 = .ok (.invokevirtual 63, 3) := by decide +kernel
theorem dL_wind_133 : decode cL_wind 133 = .ok (.if_icmp .lt 7, 3) := by decide +kernel
theorem dL_wind_136 : decode cL_wind 136 = .ok (.iconst 1, 1) := by decide +kernel
theorem dL_wind_137 : decode cL_wind 137 = .ok (.goto 4, 3) := by decide +kernel
theorem dL_wind_140 : decode cL_wind 140 = .ok (.iconst 0, 1) := by decide +kernel
theorem dL_wind_141 : decode cL_wind 141 = .ok (.ireturn, 1) := by decide +kernel
theorem dL_wind_142 : decode cL_wind 142 = .ok (.iload 5, 2) := by decide +kernel
theorem dL_wind_144 : decode cL_wind 144 = .ok (.iload_n 1, 1) := by decide +kernel
theorem dL_wind_145 : decode cL_wind 145 = .ok (.iconst 1, 1) := by decide +kernel
theorem dL_wind_146 : decode cL_wind 146 = .ok (.isub, 1) := by decide +kernel
theorem dL_wind_147 : decode cL_wind 147 = .ok (.if_icmp .lt 68, 3) := by decide +kernel
theorem dL_wind_150 : decode cL_wind 150 = .ok (.aload_n 0, 1) := by decide +kernel
theorem dL_wind_151 : decode cL_wind 151 = .ok (.bipush 6, 2) := by decide +kernel
theorem dL_wind_153 : decode cL_wind 153 = .ok (.invokevirtual 63, 3) := by decide +kernel
theorem dL_wind_156 : decode cL_wind 156 = .ok (.aload_n 0, 1) := by decide +kernel
theorem dL_wind_157 : decode cL_wind 157 = .ok (.bipush 14, 2) := by decide +kernel
theorem dL_wind_159 : decode cL_wind 159 = .ok (.invokevirtual 63, 3) := by decide +kernel
theorem dL_wind_162 : decode cL_wind 162 = .ok (.ifCond .ne 7, 3) := by decide +kernel
theorem dL_wind_165 : decode cL_wind 165 = .ok (.iconst 1, 1) := by decide +kernel
theorem dL_wind_166 : decode cL_wind 166 = .ok (.goto 9, 3) := by decide +kernel
theorem dL_wind_169 : decode cL_wind 169 = .ok (.aload_n 0, 1) := by decide +kernel
theorem dL_wind_170 : decode cL_wind 170 = .ok (.bipush 14, 2) := by decide +kernel
theorem dL_wind_172 : decode cL_wind 172 = .ok (.invokevirtual 63, 3) := by decide +kernel
theorem dL_wind_175 : decode cL_wind 175 = .ok (.if_icmp .ge 40, 3) := by decide +kernel
theorem dL_wind_178 : decode cL_wind 178 = .ok (.iload 5, 2) := by decide +kernel
theorem dL_wind_180 : decode cL_wind 180 = .ok (.ifCond .gt 17, 3) := by decide +kernel
theorem dL_wind_183 : decode cL_wind 183 = .ok (.iload_n 1, 1) := by decide +kernel
theorem dL_wind_184 : decode cL_wind 184 = .ok (.ifCond .gt 13, 3) := by decide +kernel
theorem dL_wind_187 : decode cL_wind 187 = .ok (.iload_n 3, 1) := by decide +kernel
theorem dL_wind_188 : decode cL_wind 188 = .ok (.aload_n 0, 1) := by decide +kernel
theorem dL_wind_189 : decode cL_wind 189 = .ok (.bipush 11, 2) := by decide +kernel
theorem dL_wind_191 : decode cL_wind 191 = .ok (.invokevirtual 63, 3) := by decide +kernel
theorem dL_wind_194 : decode cL_wind 194 = .ok (.if_icmp .ge 21, 3) := by decide +kernel
theorem dL_wind_197 : decode cL_wind 197 = .ok (.aload_n 0, 1) := by decide +kernel
theorem dL_wind_198 : decode cL_wind 198 = .ok (.bipush 6, 2) := by decide +kernel
theorem dL_wind_200 : decode cL_wind 200 = .ok (.invokevirtual 63, 3) := by decide +kernel
theorem dL_wind_203 : decode cL_wind 203 = .ok (.ifCond .eq 8, 3) := by decide +kernel
theorem dL_wind_206 : decode cL_wind 206 = .ok (.iload 5, 2) := by decide +kernel
theorem dL_wind_208 : decode cL_wind 208 = .ok (.ifCond .le 7, 3) := by decide +kernel
theorem dL_wind_211 : decode cL_wind 211 = .ok (.iconst 1, 1) := by decide +kernel
theorem dL_wind_212 : decode cL_wind 212 = .ok (.goto 4, 3) := by decide +kernel
theorem dL_wind_215 : decode cL_wind 215 = .ok (.iconst 0, 1) := by decide +kernel
theorem dL_wind_216 : decode cL_wind 216 = .ok (.ireturn, 1) := by decide +kernel
theorem dL_comesTrue_0 : decode cL_comesTrue 0 = .ok (.iconst 1, 1) := by decide +kernel
theorem dL_comesTrue_1 : decode cL_comesTrue 1 = .ok (.iload_n 1, 1) := by decide +kernel
theorem dL_comesTrue_2 : decode cL_comesTrue 2 = .ok (.bipush 40, 2) := by decide +kernel
theorem dL_comesTrue_4 : decode cL_comesTrue 4 = .ok (.invokestatic 22, 3) := by decide +kernel
theorem dL_comesTrue_7 : decode cL_comesTrue 7 = .ok (.iadd, 1) := by decide +kernel
theorem dL_comesTrue_8 : decode cL_comesTrue 8 = .ok (.istore_n 2, 1) := by decide +kernel
theorem dL_comesTrue_9 : decode cL_comesTrue 9 = .ok (.iload_n 1, 1) := by decide +kernel
theorem dL_comesTrue_10 : decode cL_comesTrue 10 = .ok (.bipush 6, 2) := by decide +kernel
theorem dL_comesTrue_12 : decode cL_comesTrue 12 = .ok (.ishr, 1) := by decide +kernel
theorem dL_comesTrue_13 : decode cL_comesTrue 13 = .ok (.iconst 3, 1) := by decide +kernel
theorem dL_comesTrue_14 : decode cL_comesTrue 14 = .ok (.invokestatic 22, 3) := by decide +kernel
theorem dL_comesTrue_17 : decode cL_comesTrue 17 = .ok (.istore_n 3, 1) := by decide +kernel
theorem dL_comesTrue_18 : decode cL_comesTrue 18 = .ok (.aload_n 0, 1) := by decide +kernel
theorem dL_comesTrue_19 : decode cL_comesTrue 19 = .ok (.iload_n 2, 1) := by decide +kernel
theorem dL_comesTrue_20 : decode cL_comesTrue 20 = .ok (.iload_n 3, 1) := by decide +kernel
theorem dL_comesTrue_21 : decode cL_comesTrue 21 = .ok (.iconst 0, 1) := by decide +kernel
theorem dL_comesTrue_22 : decode cL_comesTrue 22 = .ok (.invokevirtual 96, 3) := by decide +kernel
theorem dL_comesTrue_25 : decode cL_comesTrue 25 = .ok (.istore 4, 2) := by decide +kernel
theorem dL_comesTrue_27 : decode cL_comesTrue 27 = .ok (.aload_n 0, 1) := by decide +kernel
theorem dL_comesTrue_28 : decode cL_comesTrue 28 = .ok (.iload_n 2, 1) := by decide +kernel
theorem dL_comesTrue_29 : decode cL_comesTrue 29 = .ok (.iload_n 3, 1) := by decide +kernel
theorem dL_comesTrue_30 : decode cL_comesTrue 30 = .ok (.iconst 1, 1) := by decide +kernel
theorem dL_comesTrue_31 : decode cL_comesTrue 31 = .ok (.invokevirtual 96, 3) := by decide +kernel
theorem dL_comesTrue_34 : decode cL_comesTrue 34 = .ok (.istore 5, 2) := by decide +kernel
theorem dL_comesTrue_36 : decode cL_comesTrue 36 = .ok (.aload_n 0, 1) := by decide +kernel
theorem dL_comesTrue_37 : decode cL_comesTrue 37 = .ok (.iload_n 2, 1) := by decide +kernel
theorem dL_comesTrue_38 : decode cL_comesTrue 38 = .ok (.iload_n 3, 1) := by decide +kernel
theorem dL_comesTrue_39 : decode cL_comesTrue 39 = .ok (.iconst 2, 1) := by decide +kernel
theorem dL_comesTrue_40 : decode cL_comesTrue 40 = .ok (.invokevirtual 96, 3) := by decide +kernel
theorem dL_comesTrue_43 : decode cL_comesTrue 43 = .ok (.istore 6, 2) := by decide +kernel
theorem dL_comesTrue_45 : decode cL_comesTrue 45 = .ok (.aload_n 0, 1) := by decide +kernel
theorem dL_comesTrue_46 : decode cL_comesTrue 46 = .ok (.iload_n 2, 1) := by decide +kernel
theorem dL_comesTrue_47 : decode cL_comesTrue 47 = .ok (.iload_n 3, 1) := by decide +kernel
theorem dL_comesTrue_48 : decode cL_comesTrue 48 = .ok (.iconst 3, 1) := by decide +kernel
theorem dL_comesTrue_49 : decode cL_comesTrue 49 = .ok (.invokevirtual 96, 3) := by decide +kernel
theorem dL_comesTrue_52 : decode cL_comesTrue 52 = .ok (.istore 7, 2) := by decide +kernel
theorem dL_comesTrue_54 : decode cL_comesTrue 54 = .ok (.aload_n 0, 1) := by decide +kernel
theorem dL_comesTrue_55 : decode cL_comesTrue 55 = .ok (.iload_n 2, 1) := by decide +kernel
theorem dL_comesTrue_56 : decode cL_comesTrue 56 = .ok (.iload_n 3, 1) := by decide +kernel
theorem dL_comesTrue_57 : decode cL_comesTrue 57 = .ok (.iconst 4, 1) := by decide +kernel
theorem dL_comesTrue_58 : decode cL_comesTrue 58 = .ok (.invokevirtual 96, 3) := by decide +kernel
theorem dL_comesTrue_61 : decode cL_comesTrue 61 = .ok (.istore 8, 2) := by decide +kernel
theorem dL_comesTrue_63 : decode cL_comesTrue 63 = .ok (.aload_n 0, 1) := by decide +kernel
theorem dL_comesTrue_64 : decode cL_comesTrue 64 = .ok (.iconst 0, 1) := by decide +kernel
theorem dL_comesTrue_65 : decode cL_comesTrue 65 = .ok (.invokevirtual 99, 3) := by decide +kernel
theorem dL_comesTrue_68 : decode cL_comesTrue 68 = .ok (.istore 9, 2) := by decide +kernel
theorem dL_comesTrue_70 : decode cL_comesTrue 70 = .ok (.aload_n 0, 1) := by decide +kernel
theorem dL_comesTrue_71 : decode cL_comesTrue 71 = .ok (.iload_n 3, 1) := by decide +kernel
theorem dL_comesTrue_72 : decode cL_comesTrue 72 = .ok (.iconst 4, 1) := by decide +kernel
theorem dL_comesTrue_73 : decode cL_comesTrue 73 = .ok (.invokevirtual 84, 3) := by decide +kernel
theorem dL_comesTrue_76 : decode cL_comesTrue 76 = .ok (.istore 10, 2) := by decide +kernel
theorem dL_comesTrue_78 : decode cL_comesTrue 78 = .ok (.aload_n 0, 1) := by decide +kernel
theorem dL_comesTrue_79 : decode cL_comesTrue 79 = .ok (.bipush 7, 2) := by decide +kernel
theorem dL_comesTrue_81 : decode cL_comesTrue 81 = .ok (.invokevirtual 63, 3) := by decide +kernel
theorem dL_comesTrue_84 : decode cL_comesTrue 84 = .ok (.istore 11, 2) := by decide +kernel
theorem dL_comesTrue_86 : decode cL_comesTrue 86 = .ok (.iconst 0, 1) := by decide +kernel
theorem dL_comesTrue_87 : decode cL_comesTrue 87 = .ok (.istore 12, 2) := by decide +kernel
theorem dL_comesTrue_89 : decode cL_comesTrue 89 = .ok (.iconst 0, 1) := by decide +kernel
theorem dL_comesTrue_90 : decode cL_comesTrue 90 = .ok (.istore 13, 2) := by decide +kernel
end
section
theorem dL_comesTrue_92 : decode cL_comesTrue 92 = .ok (.bipush (-6), 2) := by decide +kernel
theorem dL_comesTrue_94 : decode cL_comesTrue 94 = .ok (.istore 14, 2) := by decide +kernel
theorem dL_comesTrue_96 : decode cL_comesTrue 96 = .ok (.iconst 0, 1) := by decide +kernel
theorem dL_comesTrue_97 : decode cL_comesTrue 97 = .ok (.istore 15, 2) := by decide +kernel
theorem dL_comesTrue_99 : decode cL_comesTrue 99 = .ok (.iload 15, 2) := by decide +kernel
theorem dL_comesTrue_101 : decode cL_comesTrue 101 = .ok (.iload_n 2, 1) := by decide +kernel
theorem dL_comesTrue_102 : decode cL_comesTrue 102 = .ok (.if_icmp .ge 119, 3) := by decide +kernel
theorem dL_comesTrue_105 : decode cL_comesTrue 105 = .ok (.aload_n 0, 1) := by decide +kernel
theorem dL_comesTrue_106 : decode cL_comesTrue 106 = .ok (.iload_n 3, 1) := by decide +kernel
theorem dL_comesTrue_107 : decode cL_comesTrue 107 = .ok (.iconst 4, 1) := by decide +kernel
theorem dL_comesTrue_108 : decode cL_comesTrue 108 = .ok (.invokevirtual 84, 3) := by decide +kernel
theorem dL_comesTrue_111 : decode cL_comesTrue 111 = .ok (.istore 16, 2) := by decide +kernel
theorem dL_comesTrue_113 : decode cL_comesTrue 113 = .ok (.aload_n 0, 1) := by decide +kernel
theorem dL_comesTrue_114 : decode cL_comesTrue 114 = .ok (.iconst 1, 1) := by decide +kernel
theorem dL_comesTrue_115 : decode cL_comesTrue 115 = .ok (.invokevirtual 87, 3) := by decide +kernel
theorem dL_comesTrue_118 : decode cL_comesTrue 118 = .ok (.pop, 1) := by decide +kernel
theorem dL_comesTrue_119 : decode cL_comesTrue 119 = .ok (.iload 14, 2) := by decide +kernel
theorem dL_comesTrue_121 : decode cL_comesTrue 121 = .ok (.ifCond .ge 19, 3) := by decide +kernel
theorem dL_comesTrue_124 : decode cL_comesTrue 124 = .ok (.aload_n 0, 1) := by decide +kernel
theorem dL_comesTrue_125 : decode cL_comesTrue 125 = .ok (.iload_n 3, 1) := by decide +kernel
theorem dL_comesTrue_126 : decode cL_comesTrue 126 = .ok (.iconst 4, 1) := by decide +kernel
theorem dL_comesTrue_127 : decode cL_comesTrue 127 = .ok (.invokevirtual 84, 3) := by decide +kernel
theorem dL_comesTrue_130 : decode cL_comesTrue 130 = .ok (.iload 16, 2) := by decide +kernel
theorem dL_comesTrue_132 : decode cL_comesTrue 132 = .ok (.if_icmp .le 8, 3) := by decide +kernel
theorem dL_comesTrue_135 : decode cL_comesTrue 135 = .ok (.iload 15, 2) := by decide +kernel
theorem dL_comesTrue_137 : decode cL_comesTrue 137 = .ok (.goto 5, 3) := by decide +kernel
theorem dL_comesTrue_140 : decode cL_comesTrue 140 = .ok (.iload 14, 2) := by decide +kernel
theorem dL_comesTrue_142 : decode cL_comesTrue 142 = .ok (.istore 14, 2) := by decide +kernel
theorem dL_comesTrue_144 : decode cL_comesTrue 144 = .ok (.aload_n 0, 1) := by decide +kernel
theorem dL_comesTrue_145 : decode cL_comesTrue 145 = .ok (.iload_n 3, 1) := by decide +kernel
theorem dL_comesTrue_146 : decode cL_comesTrue 146 = .ok (.iconst 3, 1) := by decide +kernel
theorem dL_comesTrue_147 : decode cL_comesTrue 147 = .ok (.invokevirtual 84, 3) := by decide +kernel
theorem dL_comesTrue_150 : decode cL_comesTrue 150 = .ok (.iload 13, 2) := by decide +kernel
theorem dL_comesTrue_152 : decode cL_comesTrue 152 = .ok (.if_icmp .le 12, 3) := by decide +kernel
theorem dL_comesTrue_155 : decode cL_comesTrue 155 = .ok (.aload_n 0, 1) := by decide +kernel
theorem dL_comesTrue_156 : decode cL_comesTrue 156 = .ok (.iload_n 3, 1) := by decide +kernel
theorem dL_comesTrue_157 : decode cL_comesTrue 157 = .ok (.iconst 3, 1) := by decide +kernel
theorem dL_comesTrue_158 : decode cL_comesTrue 158 = .ok (.invokevirtual 84, 3) := by decide +kernel
theorem dL_comesTrue_161 : decode cL_comesTrue 161 = .ok (.goto 5, 3) := by decide +kernel
theorem dL_comesTrue_164 : decode cL_comesTrue 164 = .ok (.iload 13, 2) := by decide +kernel
theorem dL_comesTrue_166 : decode cL_comesTrue 166 = .ok (.istore 13, 2) := by decide +kernel
theorem dL_comesTrue_168 : decode cL_comesTrue 168 = .ok (.iconst 0, 1) := by decide +kernel
theorem dL_comesTrue_169 : decode cL_comesTrue 169 = .ok (.istore 17, 2) := by decide +kernel
theorem dL_comesTrue_171 : decode cL_comesTrue 171 = .ok (.iload 17, 2) := by decide +kernel
theorem dL_comesTrue_173 : decode cL_comesTrue 173 = .ok (.aload_n 0, 1) := by decide +kernel
theorem dL_comesTrue_174 : decode cL_comesTrue 174 = .ok (.iconst 1, 1) := by decide +kernel
theorem dL_comesTrue_175 : decode cL_comesTrue 175 = .ok (.invokevirtual 63, 3) := by decide +kernel
theorem dL_comesTrue_178 : decode cL_comesTrue 178 = .ok (.if_icmp .ge 37, 3) := by decide +kernel
theorem dL_comesTrue_181 : decode cL_comesTrue 181 = .ok (.aload_n 0, 1) := by decide +kernel
theorem dL_comesTrue_182 : decode cL_comesTrue 182 = .ok (.iload 17, 2) := by decide +kernel
theorem dL_comesTrue_184 : decode cL_comesTrue 184 = .ok (.bipush 9, 2) := by decide +kernel
theorem dL_comesTrue_186 : decode cL_comesTrue 186 = .ok (.invokevirtual 75, 3) := by decide +kernel
theorem dL_comesTrue_189 : decode cL_comesTrue 189 = .ok (.iload 12, 2) := by decide +kernel
theorem dL_comesTrue_191 : decode cL_comesTrue 191 = .ok (.if_icmp .le 14, 3) := by decide +kernel
theorem dL_comesTrue_194 : decode cL_comesTrue 194 = .ok (.aload_n 0, 1) := by decide +kernel
theorem dL_comesTrue_195 : decode cL_comesTrue 195 = .ok (.iload 17, 2) := by decide +kernel
theorem dL_comesTrue_197 : decode cL_comesTrue 197 = .ok (.bipush 9, 2) := by decide +kernel
theorem dL_comesTrue_199 : decode cL_comesTrue 199 = .ok (.invokevirtual 75, 3) := by decide +kernel
theorem dL_comesTrue_202 : decode cL_comesTrue 202 = .ok (.goto 5, 3) := by decide +kernel
theorem dL_comesTrue_205 : decode cL_comesTrue 205 = .ok (.iload 12, 2) := by decide +kernel
theorem dL_comesTrue_207 : decode cL_comesTrue 207 = .ok (.istore 12, 2) := by decide +kernel
theorem dL_comesTrue_209 : decode cL_comesTrue 209 = .ok (.iinc 17 1, 3) := by decide +kernel
theorem dL_comesTrue_212 : decode cL_comesTrue 212 = .ok (.goto (-41), 3) := by decide +kernel
theorem dL_comesTrue_215 : decode cL_comesTrue 215 = .ok (.iinc 15 1, 3) := by decide +kernel
theorem dL_comesTrue_218 : decode cL_comesTrue 218 = .ok (.goto (-119), 3) := by decide +kernel
theorem dL_comesTrue_221 : decode cL_comesTrue 221 = .ok (.aload_n 0, 1) := by decide +kernel
theorem dL_comesTrue_222 : decode cL_comesTrue 222 = .ok (.iload_n 3, 1) := by decide +kernel
theorem dL_comesTrue_223 : decode cL_comesTrue 223 = .ok (.iconst 4, 1) := by decide +kernel
theorem dL_comesTrue_224 : decode cL_comesTrue 224 = .ok (.invokevirtual 84, 3) := by decide +kernel
theorem dL_comesTrue_227 : decode cL_comesTrue 227 = .ok (.iload 10, 2) := by decide +kernel
theorem dL_comesTrue_229 : decode cL_comesTrue 229 = .ok (.isub, 1) := by decide +kernel
theorem dL_comesTrue_230 : decode cL_comesTrue 230 = .ok (.iload 5, 2) := by decide +kernel
theorem dL_comesTrue_232 : decode cL_comesTrue 232 = .ok (.if_icmp .ne 76, 3) := by decide +kernel
theorem dL_comesTrue_235 : decode cL_comesTrue 235 = .ok (.aload_n 0, 1) := by decide +kernel
theorem dL_comesTrue_236 : decode cL_comesTrue 236 = .ok (.bipush 7, 2) := by decide +kernel
theorem dL_comesTrue_238 : decode cL_comesTrue 238 = .ok (.invokevirtual 63, 3) := by decide +kernel
theorem dL_comesTrue_241 : decode cL_comesTrue 241 = .ok (.iload 11, 2) := by decide +kernel
theorem dL_comesTrue_243 : decode cL_comesTrue 243 = .ok (.isub, 1) := by decide +kernel
theorem dL_comesTrue_244 : decode cL_comesTrue 244 = .ok (.iload 7, 2) := by decide +kernel
theorem dL_comesTrue_246 : decode cL_comesTrue 246 = .ok (.if_icmp .ne 62, 3) := by decide +kernel
theorem dL_comesTrue_249 : decode cL_comesTrue 249 = .ok (.iload 14, 2) := by decide +kernel
theorem dL_comesTrue_251 : decode cL_comesTrue 251 = .ok (.iload 6, 2) := by decide +kernel
theorem dL_comesTrue_253 : decode cL_comesTrue 253 = .ok (.if_icmp .ne 55, 3) := by decide +kernel
theorem dL_comesTrue_256 : decode cL_comesTrue 256 = .ok (.iload 13, 2) := by decide +kernel
theorem dL_comesTrue_258 : decode cL_comesTrue 258 = .ok (.iload 4, 2) := by decide +kernel
theorem dL_comesTrue_260 : decode cL_comesTrue 260 = .ok (.if_icmp .ne 48, 3) := by decide +kernel
theorem dL_comesTrue_263 : decode cL_comesTrue 263 = .ok (.iload 12, 2) := by decide +kernel
theorem dL_comesTrue_265 : decode cL_comesTrue 265 = .ok (.iload 8, 2) := by decide +kernel
theorem dL_comesTrue_267 : decode cL_comesTrue 267 = .ok (.if_icmp .ne 41, 3) := by decide +kernel
theorem dL_comesTrue_270 : decode cL_comesTrue 270 = .ok (.aload_n 0, 1) := by decide +kernel
theorem dL_comesTrue_271 : decode cL_comesTrue 271 = .ok (.iconst 0, 1) := by decide +kernel
theorem dL_comesTrue_272 : decode cL_comesTrue 272 = .ok (.invokevirtual 63, 3) := by decide +kernel
theorem dL_comesTrue_275 : decode cL_comesTrue 275 = .ok (.iload 9, 2) := by decide +kernel
theorem dL_comesTrue_277 : decode cL_comesTrue 277 = .ok (.iload_n 2, 1) := by decide +kernel
theorem dL_comesTrue_278 : decode cL_comesTrue 278 = .ok (.iadd, 1) := by decide +kernel
theorem dL_comesTrue_279 : decode cL_comesTrue 279 = .ok (.if_icmp .ne 29, 3) := by decide +kernel
theorem dL_comesTrue_282 : decode cL_comesTrue 282 = .ok (.aload_n 0, 1) := by decide +kernel
theorem dL_comesTrue_283 : decode cL_comesTrue 283 = .ok (.iconst 0, 1) := by decide +kernel
theorem dL_comesTrue_284 : decode cL_comesTrue 284 = .ok (.invokevirtual 102, 3) := by decide +kernel
theorem dL_comesTrue_287 : decode cL_comesTrue 287 = .ok (.iload 9, 2) := by decide +kernel
theorem dL_comesTrue_289 : decode cL_comesTrue 289 = .ok (.if_icmp .ne 19, 3) := by decide +kernel
theorem dL_comesTrue_292 : decode cL_comesTrue 292 = .ok (.aload_n 0, 1) := by decide +kernel
theorem dL_comesTrue_293 : decode cL_comesTrue 293 = .ok (.iload_n 2, 1) := by decide +kernel
theorem dL_comesTrue_294 : decode cL_comesTrue 294 = .ok (.iload_n 3, 1) := by decide +kernel
theorem dL_comesTrue_295 : decode cL_comesTrue 295 = .ok (.iconst 0, 1) := by decide +kernel
theorem dL_comesTrue_296 : decode cL_comesTrue 296 = .ok (.invokevirtual 96, 3) := by decide +kernel
theorem dL_comesTrue_299 : decode cL_comesTrue 299 = .ok (.iload 4, 2) := by decide +kernel
theorem dL_comesTrue_301 : decode cL_comesTrue 301 = .ok (.if_icmp .ne 7, 3) := by decide +kernel
theorem dL_comesTrue_304 : decode cL_comesTrue 304 = .ok (.iconst 1, 1) := by decide +kernel
theorem dL_comesTrue_305 : decode cL_comesTrue 305 = .ok (.goto 4, 3) := by decide +kernel
theorem dL_comesTrue_308 : decode cL_comesTrue 308 = .ok (.iconst 0, 1) := by decide +kernel
theorem dL_comesTrue_309 : decode cL_comesTrue 309 = .ok (.ireturn, 1) := by decide +kernel
theorem dL_delayed_0 : decode cL_delayed 0 = .ok (.aload_n 0, 1) := by decide +kernel
theorem dL_delayed_1 : decode cL_delayed 1 = .ok (.iconst 2, 1) := by decide +kernel
theorem dL_delayed_2 : decode cL_delayed 2 = .ok (.invokevirtual 63, 3) := by decide +kernel
theorem dL_delayed_5 : decode cL_delayed 5 = .ok (.ifCond .ne 20, 3) := by decide +kernel
theorem dL_delayed_8 : decode cL_delayed 8 = .ok (.aload_n 0, 1) := by decide +kernel
theorem dL_delayed_9 : decode cL_delayed 9 = .ok (.iconst 0, 1) := by decide +kernel
theorem dL_delayed_10 : decode cL_delayed 10 = .ok (.iconst 1, 1) := by decide +kernel
theorem dL_delayed_11 : decode cL_delayed 11 = .ok (.iconst 1, 1) := by decide +kernel
theorem dL_delayed_12 : decode cL_delayed 12 = .ok (.invokevirtual 105, 3) := by decide +kernel
theorem dL_delayed_15 : decode cL_delayed 15 = .ok (.iconst (-1), 1) := by decide +kernel
theorem dL_delayed_16 : decode cL_delayed 16 = .ok (.if_icmp .ne 7, 3) := by decide +kernel
theorem dL_delayed_19 : decode cL_delayed 19 = .ok (.iconst 1, 1) := by decide +kernel
theorem dL_delayed_20 : decode cL_delayed 20 = .ok (.goto 4, 3) := by decide +kernel
theorem dL_delayed_23 : decode cL_delayed 23 = .ok (.iconst 0, 1) := by decide +kernel
theorem dL_delayed_24 : decode cL_delayed 24 = .ok (.ireturn, 1) := by decide +kernel
theorem dL_delayed_25 : decode cL_delayed 25 = .ok (.iload_n 1, 1) := by decide +kernel
theorem dL_delayed_26 : decode cL_delayed 26 = .ok (.aload_n 0, 1) := by decide +kernel
theorem dL_delayed_27 : decode cL_delayed 27 = .ok (.iconst 2, 1) := by decide +kernel
theorem dL_delayed_28 : decode cL_delayed 28 = .ok (.invokevirtual 63, 3) := by decide +kernel
theorem dL_delayed_31 : decode cL_delayed 31 = .ok (.invokestatic 22, 3) := by decide +kernel
theorem dL_delayed_34 : decode cL_delayed 34 = .ok (.istore_n 2, 1) := by decide +kernel
theorem dL_delayed_35 : decode cL_delayed 35 = .ok (.iconst 1, 1) := by decide +kernel
theorem dL_delayed_36 : decode cL_delayed 36 = .ok (.iload_n 1, 1) := by decide +kernel
theorem dL_delayed_37 : decode cL_delayed 37 = .ok (.iconst 5, 1) := by decide +kernel
theorem dL_delayed_38 : decode cL_delayed 38 = .ok (.ishr, 1) := by decide +kernel
theorem dL_delayed_39 : decode cL_delayed 39 = .ok (.bipush 30, 2) := by decide +kernel
theorem dL_delayed_41 : decode cL_delayed 41 = .ok (.invokestatic 22, 3) := by decide +kernel
theorem dL_delayed_44 : decode cL_delayed 44 = .ok (.iadd, 1) := by decide +kernel
theorem dL_delayed_45 : decode cL_delayed 45 = .ok (.istore_n 3, 1) := by decide +kernel
theorem dL_delayed_46 : decode cL_delayed 46 = .ok (.aload_n 0, 1) := by decide +kernel
theorem dL_delayed_47 : decode cL_delayed 47 = .ok (.iload_n 2, 1) := by decide +kernel
theorem dL_delayed_48 : decode cL_delayed 48 = .ok (.bipush 12, 2) := by decide +kernel
theorem dL_delayed_50 : decode cL_delayed 50 = .ok (.iload_n 3, 1) := by decide +kernel
theorem dL_delayed_51 : decode cL_delayed 51 = .ok (.invokevirtual 105, 3) := by decide +kernel
theorem dL_delayed_54 : decode cL_delayed 54 = .ok (.istore 4, 2) := by decide +kernel
theorem dL_delayed_56 : decode cL_delayed 56 = .ok (.iload 4, 2) := by decide +kernel
theorem dL_delayed_58 : decode cL_delayed 58 = .ok (.ifCond .ge 8, 3) := by decide +kernel
theorem dL_delayed_61 : decode cL_delayed 61 = .ok (.bipush 13, 2) := by decide +kernel
theorem dL_delayed_63 : decode cL_delayed 63 = .ok (.goto 5, 3) := by decide +kernel
theorem dL_delayed_66 : decode cL_delayed 66 = .ok (.iload 4, 2) := by decide +kernel
theorem dL_delayed_68 : decode cL_delayed 68 = .ok (.istore 5, 2) := by decide +kernel
theorem dL_delayed_70 : decode cL_delayed 70 = .ok (.iload 4, 2) := by decide +kernel
theorem dL_delayed_72 : decode cL_delayed 72 = .ok (.bipush (-6), 2) := by decide +kernel
theorem dL_delayed_74 : decode cL_delayed 74 = .ok (.if_icmp .lt 22, 3) := by decide +kernel
theorem dL_delayed_77 : decode cL_delayed 77 = .ok (.iload 4, 2) := by decide +kernel
theorem dL_delayed_79 : decode cL_delayed 79 = .ok (.bipush 12, 2) := by decide +kernel
theorem dL_delayed_81 : decode cL_delayed 81 = .ok (.if_icmp .gt 15, 3) := by decide +kernel
theorem dL_delayed_84 : decode cL_delayed 84 = .ok (.iload 4, 2) := by decide +kernel
theorem dL_delayed_86 : decode cL_delayed 86 = .ok (.ifCond .ge 12, 3) := by decide +kernel
theorem dL_delayed_89 : decode cL_delayed 89 = .ok (.iload 4, 2) := by decide +kernel
theorem dL_delayed_91 : decode cL_delayed 91 = .ok (.bipush (-6), 2) := by decide +kernel
theorem dL_delayed_93 : decode cL_delayed 93 = .ok (.if_icmp .eq 5, 3) := by decide +kernel
theorem dL_delayed_96 : decode cL_delayed 96 = .ok (.iconst 0, 1) := by decide +kernel
theorem dL_delayed_97 : decode cL_delayed 97 = .ok (.ireturn, 1) := by decide +kernel
theorem dL_delayed_98 : decode cL_delayed 98 = .ok (.iconst 0, 1) := by decide +kernel
theorem dL_delayed_99 : decode cL_delayed 99 = .ok (.istore 6, 2) := by decide +kernel
theorem dL_delayed_101 : decode cL_delayed 101 = .ok (.iload 6, 2) := by decide +kernel
theorem dL_delayed_103 : decode cL_delayed 103 = .ok (.iload 5, 2) := by decide +kernel
theorem dL_delayed_105 : decode cL_delayed 105 = .ok (.if_icmp .gt 105, 3) := by decide +kernel
theorem dL_delayed_108 : decode cL_delayed 108 = .ok (.iload 6, 2) := by decide +kernel
theorem dL_delayed_110 : decode cL_delayed 110 = .ok (.bipush 13, 2) := by decide +kernel
theorem dL_delayed_112 : decode cL_delayed 112 = .ok (.if_icmp .ge 98, 3) := by decide +kernel
theorem dL_delayed_115 : decode cL_delayed 115 = .ok (.aload_n 0, 1) := by decide +kernel
theorem dL_delayed_116 : decode cL_delayed 116 = .ok (.iconst 1, 1) := by decide +kernel
theorem dL_delayed_117 : decode cL_delayed 117 = .ok (.invokevirtual 99, 3) := by decide +kernel
theorem dL_delayed_120 : decode cL_delayed 120 = .ok (.istore 7, 2) := by decide +kernel
theorem dL_delayed_122 : decode cL_delayed 122 = .ok (.aload_n 0, 1) := by decide +kernel
theorem dL_delayed_123 : decode cL_delayed 123 = .ok (.iload_n 2, 1) := by decide +kernel
theorem dL_delayed_124 : decode cL_delayed 124 = .ok (.iload 6, 2) := by decide +kernel
theorem dL_delayed_126 : decode cL_delayed 126 = .ok (.invokevirtual 81, 3) := by decide +kernel
theorem dL_delayed_129 : decode cL_delayed 129 = .ok (.istore 8, 2) := by decide +kernel
theorem dL_delayed_131 : decode cL_delayed 131 = .ok (.iconst 0, 1) := by decide +kernel
theorem dL_delayed_132 : decode cL_delayed 132 = .ok (.istore 9, 2) := by decide +kernel
theorem dL_delayed_134 : decode cL_delayed 134 = .ok (.iconst 0, 1) := by decide +kernel
theorem dL_delayed_135 : decode cL_delayed 135 = .ok (.istore 10, 2) := by decide +kernel
theorem dL_delayed_137 : decode cL_delayed 137 = .ok (.iload 10, 2) := by decide +kernel
theorem dL_delayed_139 : decode cL_delayed 139 = .ok (.iconst 3, 1) := by decide +kernel
theorem dL_delayed_140 : decode cL_delayed 140 = .ok (.if_icmp .ge 22, 3) := by decide +kernel
theorem dL_delayed_143 : decode cL_delayed 143 = .ok (.iload 9, 2) := by decide +kernel
theorem dL_delayed_145 : decode cL_delayed 145 = .ok (.aload_n 0, 1) := by decide +kernel
theorem dL_delayed_146 : decode cL_delayed 146 = .ok (.iload_n 3, 1) := by decide +kernel
theorem dL_delayed_147 : decode cL_delayed 147 = .ok (.iload 10, 2) := by decide +kernel
theorem dL_delayed_149 : decode cL_delayed 149 = .ok (.iconst 1, 1) := by decide +kernel
theorem dL_delayed_150 : decode cL_delayed 150 = .ok (.invokevirtual 96, 3) := by decide +kernel
theorem dL_delayed_153 : decode cL_delayed 153 = .ok (.iadd, 1) := by decide +kernel
theorem dL_delayed_154 : decode cL_delayed 154 = .ok (.istore 9, 2) := by decide +kernel
theorem dL_delayed_156 : decode cL_delayed 156 = .ok (.iinc 10 1, 3) := by decide +kernel
theorem dL_delayed_159 : decode cL_delayed 159 = .ok (.goto (-22), 3) := by decide +kernel
theorem dL_delayed_162 : decode cL_delayed 162 = .ok (.iload 8, 2) := by decide +kernel
theorem dL_delayed_164 : decode cL_delayed 164 = .ok (.ifCond .lt 38, 3) := by decide +kernel
theorem dL_delayed_167 : decode cL_delayed 167 = .ok (.iload 9, 2) := by decide +kernel
theorem dL_delayed_169 : decode cL_delayed 169 = .ok (.ifCond .ne 7, 3) := by decide +kernel
theorem dL_delayed_172 : decode cL_delayed 172 = .ok (.iconst 1, 1) := by decide +kernel
theorem dL_delayed_173 : decode cL_delayed 173 = .ok (.goto 4, 3) := by decide +kernel
theorem dL_delayed_176 : decode cL_delayed 176 = .ok (.iconst 0, 1) := by decide +kernel
theorem dL_delayed_177 : decode cL_delayed 177 = .ok (.iload 6, 2) := by decide +kernel
theorem dL_delayed_179 : decode cL_delayed 179 = .ok (.iload 4, 2) := by decide +kernel
theorem dL_delayed_181 : decode cL_delayed 181 = .ok (.if_icmp .ne 7, 3) := by decide +kernel
theorem dL_delayed_184 : decode cL_delayed 184 = .ok (.iconst 1, 1) := by decide +kernel
theorem dL_delayed_185 : decode cL_delayed 185 = .ok (.goto 4, 3) := by decide +kernel
theorem dL_delayed_188 : decode cL_delayed 188 = .ok (.iconst 0, 1) := by decide +kernel
theorem dL_delayed_189 : decode cL_delayed 189 = .ok (.if_icmp .ne 13, 3) := by decide +kernel
theorem dL_delayed_192 : decode cL_delayed 192 = .ok (.aload_n 0, 1) := by decide +kernel
theorem dL_delayed_193 : decode cL_delayed 193 = .ok (.iconst 1, 1) := by decide +kernel
theorem dL_delayed_194 : decode cL_delayed 194 = .ok (.invokevirtual 102, 3) := by decide +kernel
theorem dL_delayed_197 : decode cL_delayed 197 = .ok (.iload 7, 2) := by decide +kernel
theorem dL_delayed_199 : decode cL_delayed 199 = .ok (.if_icmp .eq 5, 3) := by decide +kernel
theorem dL_delayed_202 : decode cL_delayed 202 = .ok (.iconst 0, 1) := by decide +kernel
theorem dL_delayed_203 : decode cL_delayed 203 = .ok (.ireturn, 1) := by decide +kernel
theorem dL_delayed_204 : decode cL_delayed 204 = .ok (.iinc 6 1, 3) := by decide +kernel
theorem dL_delayed_207 : decode cL_delayed 207 = .ok (.goto (-106), 3) := by decide +kernel
theorem dL_delayed_210 : decode cL_delayed 210 = .ok (.iconst 1, 1) := by decide +kernel
theorem dL_delayed_211 : decode cL_delayed 211 = .ok (.ireturn, 1) := by decide +kernel
theorem dL_cutBack_0 : decode cL_cutBack 0 = .ok (.iconst 1, 1) := by decide +kernel
theorem dL_cutBack_1 : decode cL_cutBack 1 = .ok (.iload_n 1, 1) := by decide +kernel
theorem dL_cutBack_2 : decode cL_cutBack 2 = .ok (.bipush 12, 2) := by decide +kernel
theorem dL_cutBack_4 : decode cL_cutBack 4 = .ok (.invokestatic 22, 3) := by decide +kernel
theorem dL_cutBack_7 : decode cL_cutBack 7 = .ok (.iadd, 1) := by decide +kernel
theorem dL_cutBack_8 : decode cL_cutBack 8 = .ok (.istore_n 2, 1) := by decide +kernel
theorem dL_cutBack_9 : decode cL_cutBack 9 = .ok (.aload_n 0, 1) := by decide +kernel
theorem dL_cutBack_10 : decode cL_cutBack 10 = .ok (.iload_n 2, 1) := by decide +kernel
theorem dL_cutBack_11 : decode cL_cutBack 11 = .ok (.invokevirtual 108, 3) := by decide +kernel
theorem dL_cutBack_14 : decode cL_cutBack 14 = .ok (.istore_n 3, 1) := by decide +kernel
theorem dL_cutBack_15 : decode cL_cutBack 15 = .ok (.aload_n 0, 1) := by decide +kernel
theorem dL_cutBack_16 : decode cL_cutBack 16 = .ok (.bipush 13, 2) := by decide +kernel
theorem dL_cutBack_18 : decode cL_cutBack 18 = .ok (.invokevirtual 63, 3) := by decide +kernel
theorem dL_cutBack_21 : decode cL_cutBack 21 = .ok (.istore 4, 2) := by decide +kernel
theorem dL_cutBack_23 : decode cL_cutBack 23 = .ok (.iload_n 3, 1) := by decide +kernel
theorem dL_cutBack_24 : decode cL_cutBack 24 = .ok (.bipush (-6), 2) := by decide +kernel
theorem dL_cutBack_26 : decode cL_cutBack 26 = .ok (.if_icmp .lt 24, 3) := by decide +kernel
theorem dL_cutBack_29 : decode cL_cutBack 29 = .ok (.iload_n 3, 1) := by decide +kernel
theorem dL_cutBack_30 : decode cL_cutBack 30 = .ok (.sipush 1000, 3) := by decide +kernel
theorem dL_cutBack_33 : decode cL_cutBack 33 = .ok (.if_icmp .gt 17, 3) := by decide +kernel
theorem dL_cutBack_36 : decode cL_cutBack 36 = .ok (.iload_n 3, 1) := by decide +kernel
theorem dL_cutBack_37 : decode cL_cutBack 37 = .ok (.ifCond .ge 9, 3) := by decide +kernel
theorem dL_cutBack_40 : decode cL_cutBack 40 = .ok (.iload_n 3, 1) := by decide +kernel
theorem dL_cutBack_41 : decode cL_cutBack 41 = .ok (.bipush (-6), 2) := by decide +kernel
theorem dL_cutBack_43 : decode cL_cutBack 43 = .ok (.if_icmp .ne 7, 3) := by decide +kernel
theorem dL_cutBack_46 : decode cL_cutBack 46 = .ok (.iconst 1, 1) := by decide +kernel
theorem dL_cutBack_47 : decode cL_cutBack 47 = .ok (.goto 4, 3) := by decide +kernel
theorem dL_cutBack_50 : decode cL_cutBack 50 = .ok (.iconst 0, 1) := by decide +kernel
theorem dL_cutBack_51 : decode cL_cutBack 51 = .ok (.istore 5, 2) := by decide +kernel
theorem dL_cutBack_53 : decode cL_cutBack 53 = .ok (.iload_n 3, 1) := by decide +kernel
theorem dL_cutBack_54 : decode cL_cutBack 54 = .ok (.ifCond .lt 32, 3) := by decide +kernel
theorem dL_cutBack_57 : decode cL_cutBack 57 = .ok (.aload_n 0, 1) := by decide +kernel
theorem dL_cutBack_58 : decode cL_cutBack 58 = .ok (.iconst 3, 1) := by decide +kernel
theorem dL_cutBack_59 : decode cL_cutBack 59 = .ok (.iload_n 3, 1) := by decide +kernel
theorem dL_cutBack_60 : decode cL_cutBack 60 = .ok (.invokevirtual 37, 3) := by decide +kernel
theorem dL_cutBack_63 : decode cL_cutBack 63 = .ok (.pop, 1) := by decide +kernel
theorem dL_cutBack_64 : decode cL_cutBack 64 = .ok (.iload 5, 2) := by decide +kernel
theorem dL_cutBack_66 : decode cL_cutBack 66 = .ok (.ifCond .eq 17, 3) := by decide +kernel
theorem dL_cutBack_69 : decode cL_cutBack 69 = .ok (.aload_n 0, 1) := by decide +kernel
theorem dL_cutBack_70 : decode cL_cutBack 70 = .ok (.iload_n 2, 1) := by decide +kernel
theorem dL_cutBack_71 : decode cL_cutBack 71 = .ok (.iconst 0, 1) := by decide +kernel
theorem dL_cutBack_72 : decode cL_cutBack 72 = .ok (.iconst 3, 1) := by decide +kernel
theorem dL_cutBack_73 : decode cL_cutBack 73 = .ok (.invokevirtual 96, 3) := by decide +kernel
theorem dL_cutBack_76 : decode cL_cutBack 76 = .ok (.ifCond .ne 7, 3) := by decide +kernel
theorem dL_cutBack_79 : decode cL_cutBack 79 = .ok (.iconst 1, 1) := by decide +kernel
theorem dL_cutBack_80 : decode cL_cutBack 80 = .ok (.goto 4, 3) := by decide +kernel
theorem dL_cutBack_83 : decode cL_cutBack 83 = .ok (.iconst 0, 1) := by decide +kernel
theorem dL_cutBack_84 : decode cL_cutBack 84 = .ok (.istore 5, 2) := by decide +kernel
theorem dL_cutBack_86 : decode cL_cutBack 86 = .ok (.iload_n 3, 1) := by decide +kernel
theorem dL_cutBack_87 : decode cL_cutBack 87 = .ok (.sipush 1000, 3) := by decide +kernel
theorem dL_cutBack_90 : decode cL_cutBack 90 = .ok (.if_icmp .ge 62, 3) := by decide +kernel
theorem dL_cutBack_93 : decode cL_cutBack 93 = .ok (.aload_n 0, 1) := by decide +kernel
theorem dL_cutBack_94 : decode cL_cutBack 94 = .ok (.iconst 3, 1) := by decide +kernel
theorem dL_cutBack_95 : decode cL_cutBack 95 = .ok (.iload_n 3, 1) := by decide +kernel
theorem dL_cutBack_96 : decode cL_cutBack 96 = .ok (.ifCond .ge 15, 3) := by decide +kernel
theorem dL_cutBack_99 : decode cL_cutBack 99 = .ok (.iload_n 1, 1) := by decide +kernel
theorem dL_cutBack_100 : decode cL_cutBack 100 = .ok (.iconst 5, 1) := by decide +kernel
theorem dL_cutBack_101 : decode cL_cutBack 101 = .ok (.ishr, 1) := by decide +kernel
theorem dL_cutBack_102 : decode cL_cutBack 102 = .ok (.sipush 1001, 3) := by decide +kernel
theorem dL_cutBack_105 : decode cL_cutBack 105 = .ok (.invokestatic 22, 3) := by decide +kernel
theorem dL_cutBack_108 : decode cL_cutBack 108 = .ok (.goto 18, 3) := by decide +kernel
theorem dL_cutBack_111 : decode cL_cutBack 111 = .ok (.iload_n 3, 1) := by decide +kernel
theorem dL_cutBack_112 : decode cL_cutBack 112 = .ok (.iconst 1, 1) := by decide +kernel
theorem dL_cutBack_113 : decode cL_cutBack 113 = .ok (.iadd, 1) := by decide +kernel
theorem dL_cutBack_114 : decode cL_cutBack 114 = .ok (.iload_n 1, 1) := by decide +kernel
theorem dL_cutBack_115 : decode cL_cutBack 115 = .ok (.iconst 5, 1) := by decide +kernel
theorem dL_cutBack_116 : decode cL_cutBack 116 = .ok (.ishr, 1) := by decide +kernel
theorem dL_cutBack_117 : decode cL_cutBack 117 = .ok (.sipush 1000, 3) := by decide +kernel
theorem dL_cutBack_120 : decode cL_cutBack 120 = .ok (.iload_n 3, 1) := by decide +kernel
theorem dL_cutBack_121 : decode cL_cutBack 121 = .ok (.isub, 1) := by decide +kernel
theorem dL_cutBack_122 : decode cL_cutBack 122 = .ok (.invokestatic 22, 3) := by decide +kernel
theorem dL_cutBack_125 : decode cL_cutBack 125 = .ok (.iadd, 1) := by decide +kernel
theorem dL_cutBack_126 : decode cL_cutBack 126 = .ok (.invokevirtual 37, 3) := by decide +kernel
theorem dL_cutBack_129 : decode cL_cutBack 129 = .ok (.pop, 1) := by decide +kernel
theorem dL_cutBack_130 : decode cL_cutBack 130 = .ok (.iload 5, 2) := by decide +kernel
theorem dL_cutBack_132 : decode cL_cutBack 132 = .ok (.ifCond .eq 17, 3) := by decide +kernel
theorem dL_cutBack_135 : decode cL_cutBack 135 = .ok (.aload_n 0, 1) := by decide +kernel
theorem dL_cutBack_136 : decode cL_cutBack 136 = .ok (.iload_n 2, 1) := by decide +kernel
theorem dL_cutBack_137 : decode cL_cutBack 137 = .ok (.iconst 0, 1) := by decide +kernel
theorem dL_cutBack_138 : decode cL_cutBack 138 = .ok (.iconst 3, 1) := by decide +kernel
theorem dL_cutBack_139 : decode cL_cutBack 139 = .ok (.invokevirtual 96, 3) := by decide +kernel
theorem dL_cutBack_142 : decode cL_cutBack 142 = .ok (.ifCond .le 7, 3) := by decide +kernel
theorem dL_cutBack_145 : decode cL_cutBack 145 = .ok (.iconst 1, 1) := by decide +kernel
theorem dL_cutBack_146 : decode cL_cutBack 146 = .ok (.goto 4, 3) := by decide +kernel
theorem dL_cutBack_149 : decode cL_cutBack 149 = .ok (.iconst 0, 1) := by decide +kernel
theorem dL_cutBack_150 : decode cL_cutBack 150 = .ok (.istore 5, 2) := by decide +kernel
theorem dL_cutBack_152 : decode cL_cutBack 152 = .ok (.iload 5, 2) := by decide +kernel
theorem dL_cutBack_154 : decode cL_cutBack 154 = .ok (.ifCond .eq 17, 3) := by decide +kernel
theorem dL_cutBack_157 : decode cL_cutBack 157 = .ok (.aload_n 0, 1) := by decide +kernel
theorem dL_cutBack_158 : decode cL_cutBack 158 = .ok (.iconst 3, 1) := by decide +kernel
theorem dL_cutBack_159 : decode cL_cutBack 159 = .ok (.iload 4, 2) := by decide +kernel
theorem dL_cutBack_161 : decode cL_cutBack 161 = .ok (.invokevirtual 37, 3) := by decide +kernel
theorem dL_cutBack_164 : decode cL_cutBack 164 = .ok (.ifCond .lt 7, 3) := by decide +kernel
theorem dL_cutBack_167 : decode cL_cutBack 167 = .ok (.iconst 1, 1) := by decide +kernel
theorem dL_cutBack_168 : decode cL_cutBack 168 = .ok (.goto 4, 3) := by decide +kernel
theorem dL_cutBack_171 : decode cL_cutBack 171 = .ok (.iconst 0, 1) := by decide +kernel
theorem dL_cutBack_172 : decode cL_cutBack 172 = .ok (.ireturn, 1) := by decide +kernel
theorem dL_kept_0 : decode cL_kept 0 = .ok (.aload_n 0, 1) := by decide +kernel
theorem dL_kept_1 : decode cL_kept 1 = .ok (.iconst 0, 1) := by decide +kernel
theorem dL_kept_2 : decode cL_kept 2 = .ok (.invokevirtual 99, 3) := by decide +kernel
theorem dL_kept_5 : decode cL_kept 5 = .ok (.istore_n 2, 1) := by decide +kernel
theorem dL_kept_6 : decode cL_kept 6 = .ok (.aload_n 0, 1) := by decide +kernel
theorem dL_kept_7 : decode cL_kept 7 = .ok (.iconst 2, 1) := by decide +kernel
theorem dL_kept_8 : decode cL_kept 8 = .ok (.invokevirtual 63, 3) := by decide +kernel
theorem dL_kept_11 : decode cL_kept 11 = .ok (.istore_n 3, 1) := by decide +kernel
theorem dL_kept_12 : decode cL_kept 12 = .ok (.aload_n 0, 1) := by decide +kernel
theorem dL_kept_13 : decode cL_kept 13 = .ok (.iconst 3, 1) := by decide +kernel
theorem dL_kept_14 : decode cL_kept 14 = .ok (.invokevirtual 63, 3) := by decide +kernel
theorem dL_kept_17 : decode cL_kept 17 = .ok (.istore 4, 2) := by decide +kernel
theorem dL_kept_19 : decode cL_kept 19 = .ok (.aload_n 0, 1) := by decide +kernel
theorem dL_kept_20 : decode cL_kept 20 = .ok (.iconst 1, 1) := by decide +kernel
theorem dL_kept_21 : decode cL_kept 21 = .ok (.iconst 2, 1) := by decide +kernel
theorem dL_kept_22 : decode cL_kept 22 = .ok (.invokevirtual 84, 3) := by decide +kernel
theorem dL_kept_25 : decode cL_kept 25 = .ok (.istore 5, 2) := by decide +kernel
theorem dL_kept_27 : decode cL_kept 27 = .ok (.aload_n 0, 1) := by decide +kernel
theorem dL_kept_28 : decode cL_kept 28 = .ok (.iconst 0, 1) := by decide +kernel
theorem dL_kept_29 : decode cL_kept 29 = .ok (.bipush 7, 2) := by decide +kernel
theorem dL_kept_31 : decode cL_kept 31 = .ok (.invokevirtual 75, 3) := by decide +kernel
theorem dL_kept_34 : decode cL_kept 34 = .ok (.istore 6, 2) := by decide +kernel
theorem dL_kept_36 : decode cL_kept 36 = .ok (.aload_n 0, 1) := by decide +kernel
theorem dL_kept_37 : decode cL_kept 37 = .ok (.invokevirtual 111, 3) := by decide +kernel
theorem dL_kept_40 : decode cL_kept 40 = .ok (.iload_n 2, 1) := by decide +kernel
theorem dL_kept_41 : decode cL_kept 41 = .ok (.if_icmp .ne 55, 3) := by decide +kernel
theorem dL_kept_44 : decode cL_kept 44 = .ok (.aload_n 0, 1) := by decide +kernel
theorem dL_kept_45 : decode cL_kept 45 = .ok (.iconst 0, 1) := by decide +kernel
theorem dL_kept_46 : decode cL_kept 46 = .ok (.invokevirtual 63, 3) := by decide +kernel
theorem dL_kept_49 : decode cL_kept 49 = .ok (.ifCond .ne 47, 3) := by decide +kernel
theorem dL_kept_52 : decode cL_kept 52 = .ok (.aload_n 0, 1) := by decide +kernel
theorem dL_kept_53 : decode cL_kept 53 = .ok (.iconst 2, 1) := by decide +kernel
theorem dL_kept_54 : decode cL_kept 54 = .ok (.invokevirtual 63, 3) := by decide +kernel
theorem dL_kept_57 : decode cL_kept 57 = .ok (.iload_n 3, 1) := by decide +kernel
theorem dL_kept_58 : decode cL_kept 58 = .ok (.if_icmp .ne 38, 3) := by decide +kernel
theorem dL_kept_61 : decode cL_kept 61 = .ok (.aload_n 0, 1) := by decide +kernel
theorem dL_kept_62 : decode cL_kept 62 = .ok (.iconst 3, 1) := by decide +kernel
theorem dL_kept_63 : decode cL_kept 63 = .ok (.invokevirtual 63, 3) := by decide +kernel
theorem dL_kept_66 : decode cL_kept 66 = .ok (.iload 4, 2) := by decide +kernel
theorem dL_kept_68 : decode cL_kept 68 = .ok (.if_icmp .ne 28, 3) := by decide +kernel
theorem dL_kept_71 : decode cL_kept 71 = .ok (.aload_n 0, 1) := by decide +kernel
theorem dL_kept_72 : decode cL_kept 72 = .ok (.iconst 4, 1) := by decide +kernel
theorem dL_kept_73 : decode cL_kept 73 = .ok (.invokevirtual 63, 3) := by decide +kernel
theorem dL_kept_76 : decode cL_kept 76 = .ok (.ifCond .ne 20, 3) := by decide +kernel
theorem dL_kept_79 : decode cL_kept 79 = .ok (.aload_n 0, 1) := by decide +kernel
theorem dL_kept_80 : decode cL_kept 80 = .ok (.iconst 5, 1) := by decide +kernel
theorem dL_kept_81 : decode cL_kept 81 = .ok (.invokevirtual 63, 3) := by decide +kernel
theorem dL_kept_84 : decode cL_kept 84 = .ok (.ifCond .ne 12, 3) := by decide +kernel
theorem dL_kept_87 : decode cL_kept 87 = .ok (.aload_n 0, 1) := by decide +kernel
theorem dL_kept_88 : decode cL_kept 88 = .ok (.bipush 7, 2) := by decide +kernel
theorem dL_kept_90 : decode cL_kept 90 = .ok (.invokevirtual 63, 3) := by decide +kernel
theorem dL_kept_93 : decode cL_kept 93 = .ok (.ifCond .eq 5, 3) := by decide +kernel
theorem dL_kept_96 : decode cL_kept 96 = .ok (.iconst 0, 1) := by decide +kernel
theorem dL_kept_97 : decode cL_kept 97 = .ok (.ireturn, 1) := by decide +kernel
theorem dL_kept_98 : decode cL_kept 98 = .ok (.iconst 0, 1) := by decide +kernel
theorem dL_kept_99 : decode cL_kept 99 = .ok (.istore 7, 2) := by decide +kernel
theorem dL_kept_101 : decode cL_kept 101 = .ok (.iload 7, 2) := by decide +kernel
theorem dL_kept_103 : decode cL_kept 103 = .ok (.aload_n 0, 1) := by decide +kernel
theorem dL_kept_104 : decode cL_kept 104 = .ok (.iconst 1, 1) := by decide +kernel
theorem dL_kept_105 : decode cL_kept 105 = .ok (.invokevirtual 63, 3) := by decide +kernel
theorem dL_kept_108 : decode cL_kept 108 = .ok (.if_icmp .ge 39, 3) := by decide +kernel
theorem dL_kept_111 : decode cL_kept 111 = .ok (.bipush 6, 2) := by decide +kernel
theorem dL_kept_113 : decode cL_kept 113 = .ok (.istore 8, 2) := by decide +kernel
theorem dL_kept_115 : decode cL_kept 115 = .ok (.iload 8, 2) := by decide +kernel
theorem dL_kept_117 : decode cL_kept 117 = .ok (.bipush 12, 2) := by decide +kernel
theorem dL_kept_119 : decode cL_kept 119 = .ok (.if_icmp .ge 22, 3) := by decide +kernel
theorem dL_kept_122 : decode cL_kept 122 = .ok (.aload_n 0, 1) := by decide +kernel
theorem dL_kept_123 : decode cL_kept 123 = .ok (.iload 7, 2) := by decide +kernel
theorem dL_kept_125 : decode cL_kept 125 = .ok (.iload 8, 2) := by decide +kernel
theorem dL_kept_127 : decode cL_kept 127 = .ok (.invokevirtual 75, 3) := by decide +kernel
theorem dL_kept_130 : decode cL_kept 130 = .ok (.ifCond .eq 5, 3) := by decide +kernel
theorem dL_kept_133 : decode cL_kept 133 = .ok (.iconst 0, 1) := by decide +kernel
theorem dL_kept_134 : decode cL_kept 134 = .ok (.ireturn, 1) := by decide +kernel
theorem dL_kept_135 : decode cL_kept 135 = .ok (.iinc 8 1, 3) := by decide +kernel
theorem dL_kept_138 : decode cL_kept 138 = .ok (.goto (-23), 3) := by decide +kernel
theorem dL_kept_141 : decode cL_kept 141 = .ok (.iinc 7 1, 3) := by decide +kernel
theorem dL_kept_144 : decode cL_kept 144 = .ok (.goto (-43), 3) := by decide +kernel
theorem dL_kept_147 : decode cL_kept 147 = .ok (.iconst 0, 1) := by decide +kernel
theorem dL_kept_148 : decode cL_kept 148 = .ok (.istore 7, 2) := by decide +kernel
theorem dL_kept_150 : decode cL_kept 150 = .ok (.iload 7, 2) := by decide +kernel
theorem dL_kept_152 : decode cL_kept 152 = .ok (.iconst 3, 1) := by decide +kernel
theorem dL_kept_153 : decode cL_kept 153 = .ok (.if_icmp .ge 37, 3) := by decide +kernel
theorem dL_kept_156 : decode cL_kept 156 = .ok (.iconst 2, 1) := by decide +kernel
theorem dL_kept_157 : decode cL_kept 157 = .ok (.istore 8, 2) := by decide +kernel
theorem dL_kept_159 : decode cL_kept 159 = .ok (.iload 8, 2) := by decide +kernel
theorem dL_kept_161 : decode cL_kept 161 = .ok (.iconst 5, 1) := by decide +kernel
theorem dL_kept_162 : decode cL_kept 162 = .ok (.if_icmp .ge 22, 3) := by decide +kernel
theorem dL_kept_165 : decode cL_kept 165 = .ok (.aload_n 0, 1) := by decide +kernel
theorem dL_kept_166 : decode cL_kept 166 = .ok (.iload 7, 2) := by decide +kernel
theorem dL_kept_168 : decode cL_kept 168 = .ok (.iload 8, 2) := by decide +kernel
theorem dL_kept_170 : decode cL_kept 170 = .ok (.invokevirtual 84, 3) := by decide +kernel
theorem dL_kept_173 : decode cL_kept 173 = .ok (.ifCond .eq 5, 3) := by decide +kernel
theorem dL_kept_176 : decode cL_kept 176 = .ok (.iconst 0, 1) := by decide +kernel
theorem dL_kept_177 : decode cL_kept 177 = .ok (.ireturn, 1) := by decide +kernel
theorem dL_kept_178 : decode cL_kept 178 = .ok (.iinc 8 1, 3) := by decide +kernel
theorem dL_kept_181 : decode cL_kept 181 = .ok (.goto (-22), 3) := by decide +kernel
theorem dL_kept_184 : decode cL_kept 184 = .ok (.iinc 7 1, 3) := by decide +kernel
theorem dL_kept_187 : decode cL_kept 187 = .ok (.goto (-37), 3) := by decide +kernel
theorem dL_kept_190 : decode cL_kept 190 = .ok (.iconst 1, 1) := by decide +kernel
theorem dL_kept_191 : decode cL_kept 191 = .ok (.iload_n 1, 1) := by decide +kernel
theorem dL_kept_192 : decode cL_kept 192 = .ok (.bipush 60, 2) := by decide +kernel
theorem dL_kept_194 : decode cL_kept 194 = .ok (.invokestatic 22, 3) := by decide +kernel
theorem dL_kept_197 : decode cL_kept 197 = .ok (.iadd, 1) := by decide +kernel
theorem dL_kept_198 : decode cL_kept 198 = .ok (.istore 7, 2) := by decide +kernel
theorem dL_kept_200 : decode cL_kept 200 = .ok (.aload_n 0, 1) := by decide +kernel
theorem dL_kept_201 : decode cL_kept 201 = .ok (.iload 7, 2) := by decide +kernel
theorem dL_kept_203 : decode cL_kept 203 = .ok (.iconst 1, 1) := by decide +kernel
theorem dL_kept_204 : decode cL_kept 204 = .ok (.iconst 0, 1) := by decide +kernel
theorem dL_kept_205 : decode cL_kept 205 = .ok (.invokevirtual 96, 3) := by decide +kernel
theorem dL_kept_208 : decode cL_kept 208 = .ok (.istore 8, 2) := by decide +kernel
theorem dL_kept_210 : decode cL_kept 210 = .ok (.aload_n 0, 1) := by decide +kernel
theorem dL_kept_211 : decode cL_kept 211 = .ok (.iload 7, 2) := by decide +kernel
theorem dL_kept_213 : decode cL_kept 213 = .ok (.invokevirtual 87, 3) := by decide +kernel
theorem dL_kept_216 : decode cL_kept 216 = .ok (.iload 7, 2) := by decide +kernel
theorem dL_kept_218 : decode cL_kept 218 = .ok (.if_icmp .ne 25, 3) := by decide +kernel
theorem dL_kept_221 : decode cL_kept 221 = .ok (.aload_n 0, 1) := by decide +kernel
theorem dL_kept_222 : decode cL_kept 222 = .ok (.invokevirtual 111, 3) := by decide +kernel
theorem dL_kept_225 : decode cL_kept 225 = .ok (.iload 7, 2) := by decide +kernel
theorem dL_kept_227 : decode cL_kept 227 = .ok (.if_icmp .ne 16, 3) := by decide +kernel
theorem dL_kept_230 : decode cL_kept 230 = .ok (.aload_n 0, 1) := by decide +kernel
theorem dL_kept_231 : decode cL_kept 231 = .ok (.iload 7, 2) := by decide +kernel
theorem dL_kept_233 : decode cL_kept 233 = .ok (.iconst 1, 1) := by decide +kernel
theorem dL_kept_234 : decode cL_kept 234 = .ok (.iconst 0, 1) := by decide +kernel
theorem dL_kept_235 : decode cL_kept 235 = .ok (.invokevirtual 96, 3) := by decide +kernel
theorem dL_kept_238 : decode cL_kept 238 = .ok (.iload 8, 2) := by decide +kernel
theorem dL_kept_240 : decode cL_kept 240 = .ok (.if_icmp .eq 5, 3) := by decide +kernel
theorem dL_kept_243 : decode cL_kept 243 = .ok (.iconst 0, 1) := by decide +kernel
theorem dL_kept_244 : decode cL_kept 244 = .ok (.ireturn, 1) := by decide +kernel
theorem dL_kept_245 : decode cL_kept 245 = .ok (.aload_n 0, 1) := by decide +kernel
theorem dL_kept_246 : decode cL_kept 246 = .ok (.iconst 1, 1) := by decide +kernel
theorem dL_kept_247 : decode cL_kept 247 = .ok (.iload_n 1, 1) := by decide +kernel
theorem dL_kept_248 : decode cL_kept 248 = .ok (.bipush 6, 2) := by decide +kernel
theorem dL_kept_250 : decode cL_kept 250 = .ok (.ishr, 1) := by decide +kernel
theorem dL_kept_251 : decode cL_kept 251 = .ok (.bipush 12, 2) := by decide +kernel
theorem dL_kept_253 : decode cL_kept 253 = .ok (.invokestatic 22, 3) := by decide +kernel
theorem dL_kept_256 : decode cL_kept 256 = .ok (.iadd, 1) := by decide +kernel
theorem dL_kept_257 : decode cL_kept 257 = .ok (.invokevirtual 26, 3) := by decide +kernel
theorem dL_kept_260 : decode cL_kept 260 = .ok (.pop, 1) := by decide +kernel
theorem dL_kept_261 : decode cL_kept 261 = .ok (.aload_n 0, 1) := by decide +kernel
theorem dL_kept_262 : decode cL_kept 262 = .ok (.iconst 2, 1) := by decide +kernel
theorem dL_kept_263 : decode cL_kept 263 = .ok (.invokevirtual 63, 3) := by decide +kernel
theorem dL_kept_266 : decode cL_kept 266 = .ok (.ifCond .ne 77, 3) := by decide +kernel
theorem dL_kept_269 : decode cL_kept 269 = .ok (.aload_n 0, 1) := by decide +kernel
theorem dL_kept_270 : decode cL_kept 270 = .ok (.iconst 3, 1) := by decide +kernel
theorem dL_kept_271 : decode cL_kept 271 = .ok (.invokevirtual 63, 3) := by decide +kernel
theorem dL_kept_274 : decode cL_kept 274 = .ok (.ifCond .ne 69, 3) := by decide +kernel
theorem dL_kept_277 : decode cL_kept 277 = .ok (.aload_n 0, 1) := by decide +kernel
theorem dL_kept_278 : decode cL_kept 278 = .ok (.iconst 0, 1) := by decide +kernel
theorem dL_kept_279 : decode cL_kept 279 = .ok (.iconst 0, 1) := by decide +kernel
theorem dL_kept_280 : decode cL_kept 280 = .ok (.invokevirtual 84, 3) := by decide +kernel
theorem dL_kept_283 : decode cL_kept 283 = .ok (.bipush 100, 2) := by decide +kernel
theorem dL_kept_285 : decode cL_kept 285 = .ok (.if_icmp .ne 58, 3) := by decide +kernel
theorem dL_kept_288 : decode cL_kept 288 = .ok (.aload_n 0, 1) := by decide +kernel
theorem dL_kept_289 : decode cL_kept 289 = .ok (.iconst 0, 1) := by decide +kernel
theorem dL_kept_290 : decode cL_kept 290 = .ok (.invokevirtual 102, 3) := by decide +kernel
theorem dL_kept_293 : decode cL_kept 293 = .ok (.iload_n 2, 1) := by decide +kernel
theorem dL_kept_294 : decode cL_kept 294 = .ok (.if_icmp .ne 49, 3) := by decide +kernel
theorem dL_kept_297 : decode cL_kept 297 = .ok (.aload_n 0, 1) := by decide +kernel
theorem dL_kept_298 : decode cL_kept 298 = .ok (.iconst 2, 1) := by decide +kernel
theorem dL_kept_299 : decode cL_kept 299 = .ok (.invokevirtual 63, 3) := by decide +kernel
theorem dL_kept_302 : decode cL_kept 302 = .ok (.iload_n 3, 1) := by decide +kernel
theorem dL_kept_303 : decode cL_kept 303 = .ok (.if_icmp .ne 40, 3) := by decide +kernel
theorem dL_kept_306 : decode cL_kept 306 = .ok (.aload_n 0, 1) := by decide +kernel
theorem dL_kept_307 : decode cL_kept 307 = .ok (.iconst 1, 1) := by decide +kernel
theorem dL_kept_308 : decode cL_kept 308 = .ok (.iconst 2, 1) := by decide +kernel
theorem dL_kept_309 : decode cL_kept 309 = .ok (.invokevirtual 84, 3) := by decide +kernel
theorem dL_kept_312 : decode cL_kept 312 = .ok (.iload 5, 2) := by decide +kernel
theorem dL_kept_314 : decode cL_kept 314 = .ok (.if_icmp .ne 29, 3) := by decide +kernel
theorem dL_kept_317 : decode cL_kept 317 = .ok (.aload_n 0, 1) := by decide +kernel
theorem dL_kept_318 : decode cL_kept 318 = .ok (.iconst 0, 1) := by decide +kernel
theorem dL_kept_319 : decode cL_kept 319 = .ok (.bipush 7, 2) := by decide +kernel
theorem dL_kept_321 : decode cL_kept 321 = .ok (.invokevirtual 75, 3) := by decide +kernel
theorem dL_kept_324 : decode cL_kept 324 = .ok (.iload 6, 2) := by decide +kernel
theorem dL_kept_326 : decode cL_kept 326 = .ok (.if_icmp .ne 17, 3) := by decide +kernel
theorem dL_kept_329 : decode cL_kept 329 = .ok (.aload_n 0, 1) := by decide +kernel
theorem dL_kept_330 : decode cL_kept 330 = .ok (.iconst 3, 1) := by decide +kernel
theorem dL_kept_331 : decode cL_kept 331 = .ok (.invokevirtual 63, 3) := by decide +kernel
theorem dL_kept_334 : decode cL_kept 334 = .ok (.iload 4, 2) := by decide +kernel
theorem dL_kept_336 : decode cL_kept 336 = .ok (.if_icmp .ne 7, 3) := by decide +kernel
theorem dL_kept_339 : decode cL_kept 339 = .ok (.iconst 1, 1) := by decide +kernel
theorem dL_kept_340 : decode cL_kept 340 = .ok (.goto 4, 3) := by decide +kernel
theorem dL_kept_343 : decode cL_kept 343 = .ok (.iconst 0, 1) := by decide +kernel
theorem dL_kept_344 : decode cL_kept 344 = .ok (.ireturn, 1) := by decide +kernel
theorem dL_refused_0 : decode cL_refused 0 = .ok (.iload_n 1, 1) := by decide +kernel
theorem dL_refused_1 : decode cL_refused 1 = .ok (.ifCond .ge 15, 3) := by decide +kernel
theorem dL_refused_4 : decode cL_refused 4 = .ok (.bipush (-11), 2) := by decide +kernel
theorem dL_refused_6 : decode cL_refused 6 = .ok (.iload_n 1, 1) := by decide +kernel
theorem dL_refused_7 : decode cL_refused 7 = .ok (.ldc 115, 2) := by decide +kernel
theorem dL_refused_9 : decode cL_refused 9 = .ok (.invokestatic 22, 3) := by decide +kernel
theorem dL_refused_12 : decode cL_refused 12 = .ok (.isub, 1) := by decide +kernel
theorem dL_refused_13 : decode cL_refused 13 = .ok (.goto 10, 3) := by decide +kernel
theorem dL_refused_16 : decode cL_refused 16 = .ok (.iload_n 1, 1) := by decide +kernel
theorem dL_refused_17 : decode cL_refused 17 = .ok (.ldc 115, 2) := by decide +kernel
theorem dL_refused_19 : decode cL_refused 19 = .ok (.irem, 1) := by decide +kernel
theorem dL_refused_20 : decode cL_refused 20 = .ok (.ldc 116, 2) := by decide +kernel
theorem dL_refused_22 : decode cL_refused 22 = .ok (.iadd, 1) := by decide +kernel
theorem dL_refused_23 : decode cL_refused 23 = .ok (.istore_n 2, 1) := by decide +kernel
theorem dL_refused_24 : decode cL_refused 24 = .ok (.aload_n 0, 1) := by decide +kernel
theorem dL_refused_25 : decode cL_refused 25 = .ok (.iload_n 2, 1) := by decide +kernel
theorem dL_refused_26 : decode cL_refused 26 = .ok (.invokevirtual 26, 3) := by decide +kernel
theorem dL_refused_29 : decode cL_refused 29 = .ok (.bipush (-2), 2) := by decide +kernel
theorem dL_refused_31 : decode cL_refused 31 = .ok (.if_icmp .ne 360, 3) := by decide +kernel
theorem dL_refused_34 : decode cL_refused 34 = .ok (.aload_n 0, 1) := by decide +kernel
theorem dL_refused_35 : decode cL_refused 35 = .ok (.iload_n 2, 1) := by decide +kernel
theorem dL_refused_36 : decode cL_refused 36 = .ok (.iconst 0, 1) := by decide +kernel
theorem dL_refused_37 : decode cL_refused 37 = .ok (.iconst 1, 1) := by decide +kernel
theorem dL_refused_38 : decode cL_refused 38 = .ok (.invokevirtual 30, 3) := by decide +kernel
theorem dL_refused_41 : decode cL_refused 41 = .ok (.iconst (-1), 1) := by decide +kernel
theorem dL_refused_42 : decode cL_refused 42 = .ok (.if_icmp .ne 349, 3) := by decide +kernel
theorem dL_refused_45 : decode cL_refused 45 = .ok (.aload_n 0, 1) := by decide +kernel
theorem dL_refused_46 : decode cL_refused 46 = .ok (.iconst 0, 1) := by decide +kernel
theorem dL_refused_47 : decode cL_refused 47 = .ok (.iload_n 2, 1) := by decide +kernel
theorem dL_refused_48 : decode cL_refused 48 = .ok (.iconst 1, 1) := by decide +kernel
theorem dL_refused_49 : decode cL_refused 49 = .ok (.invokevirtual 30, 3) := by decide +kernel
theorem dL_refused_52 : decode cL_refused 52 = .ok (.bipush (-2), 2) := by decide +kernel
theorem dL_refused_54 : decode cL_refused 54 = .ok (.if_icmp .ne 337, 3) := by decide +kernel
theorem dL_refused_57 : decode cL_refused 57 = .ok (.aload_n 0, 1) := by decide +kernel
theorem dL_refused_58 : decode cL_refused 58 = .ok (.iconst 0, 1) := by decide +kernel
theorem dL_refused_59 : decode cL_refused 59 = .ok (.iconst 0, 1) := by decide +kernel
theorem dL_refused_60 : decode cL_refused 60 = .ok (.iload_n 2, 1) := by decide +kernel
theorem dL_refused_61 : decode cL_refused 61 = .ok (.invokevirtual 30, 3) := by decide +kernel
theorem dL_refused_64 : decode cL_refused 64 = .ok (.bipush (-2), 2) := by decide +kernel
theorem dL_refused_66 : decode cL_refused 66 = .ok (.if_icmp .ne 325, 3) := by decide +kernel
theorem dL_refused_69 : decode cL_refused 69 = .ok (.aload_n 0, 1) := by decide +kernel
theorem dL_refused_70 : decode cL_refused 70 = .ok (.iload_n 2, 1) := by decide +kernel
theorem dL_refused_71 : decode cL_refused 71 = .ok (.iconst 0, 1) := by decide +kernel
theorem dL_refused_72 : decode cL_refused 72 = .ok (.iconst 1, 1) := by decide +kernel
theorem dL_refused_73 : decode cL_refused 73 = .ok (.invokevirtual 34, 3) := by decide +kernel
theorem dL_refused_76 : decode cL_refused 76 = .ok (.iconst (-1), 1) := by decide +kernel
theorem dL_refused_77 : decode cL_refused 77 = .ok (.if_icmp .ne 314, 3) := by decide +kernel
theorem dL_refused_80 : decode cL_refused 80 = .ok (.aload_n 0, 1) := by decide +kernel
theorem dL_refused_81 : decode cL_refused 81 = .ok (.iconst 0, 1) := by decide +kernel
theorem dL_refused_82 : decode cL_refused 82 = .ok (.iload_n 2, 1) := by decide +kernel
theorem dL_refused_83 : decode cL_refused 83 = .ok (.iconst 1, 1) := by decide +kernel
theorem dL_refused_84 : decode cL_refused 84 = .ok (.invokevirtual 34, 3) := by decide +kernel
theorem dL_refused_87 : decode cL_refused 87 = .ok (.bipush (-2), 2) := by decide +kernel
theorem dL_refused_89 : decode cL_refused 89 = .ok (.if_icmp .ne 302, 3) := by decide +kernel
theorem dL_refused_92 : decode cL_refused 92 = .ok (.aload_n 0, 1) := by decide +kernel
theorem dL_refused_93 : decode cL_refused 93 = .ok (.iconst 0, 1) := by decide +kernel
theorem dL_refused_94 : decode cL_refused 94 = .ok (.iconst 0, 1) := by decide +kernel
theorem dL_refused_95 : decode cL_refused 95 = .ok (.iload_n 2, 1) := by decide +kernel
theorem dL_refused_96 : decode cL_refused 96 = .ok (.invokevirtual 34, 3) := by decide +kernel
theorem dL_refused_99 : decode cL_refused 99 = .ok (.bipush (-2), 2) := by decide +kernel
theorem dL_refused_101 : decode cL_refused 101 = .ok (.if_icmp .ne 290, 3) := by decide +kernel
theorem dL_refused_104 : decode cL_refused 104 = .ok (.aload_n 0, 1) := by decide +kernel
theorem dL_refused_105 : decode cL_refused 105 = .ok (.iload_n 2, 1) := by decide +kernel
theorem dL_refused_106 : decode cL_refused 106 = .ok (.iconst 1, 1) := by decide +kernel
theorem dL_refused_107 : decode cL_refused 107 = .ok (.invokevirtual 37, 3) := by decide +kernel
theorem dL_refused_110 : decode cL_refused 110 = .ok (.bipush (-2), 2) := by decide +kernel
theorem dL_refused_112 : decode cL_refused 112 = .ok (.if_icmp .ne 279, 3) := by decide +kernel
theorem dL_refused_115 : decode cL_refused 115 = .ok (.aload_n 0, 1) := by decide +kernel
theorem dL_refused_116 : decode cL_refused 116 = .ok (.iconst 0, 1) := by decide +kernel
theorem dL_refused_117 : decode cL_refused 117 = .ok (.iload_n 2, 1) := by decide +kernel
theorem dL_refused_118 : decode cL_refused 118 = .ok (.invokevirtual 37, 3) := by decide +kernel
theorem dL_refused_121 : decode cL_refused 121 = .ok (.bipush (-2), 2) := by decide +kernel
theorem dL_refused_123 : decode cL_refused 123 = .ok (.if_icmp .ne 268, 3) := by decide +kernel
theorem dL_refused_126 : decode cL_refused 126 = .ok (.aload_n 0, 1) := by decide +kernel
theorem dL_refused_127 : decode cL_refused 127 = .ok (.iload_n 2, 1) := by decide +kernel
theorem dL_refused_128 : decode cL_refused 128 = .ok (.invokevirtual 78, 3) := by decide +kernel
theorem dL_refused_131 : decode cL_refused 131 = .ok (.bipush (-2), 2) := by decide +kernel
theorem dL_refused_133 : decode cL_refused 133 = .ok (.if_icmp .ne 258, 3) := by decide +kernel
theorem dL_refused_136 : decode cL_refused 136 = .ok (.aload_n 0, 1) := by decide +kernel
theorem dL_refused_137 : decode cL_refused 137 = .ok (.iload_n 2, 1) := by decide +kernel
theorem dL_refused_138 : decode cL_refused 138 = .ok (.iconst 1, 1) := by decide +kernel
theorem dL_refused_139 : decode cL_refused 139 = .ok (.iconst 1, 1) := by decide +kernel
theorem dL_refused_140 : decode cL_refused 140 = .ok (.invokevirtual 66, 3) := by decide +kernel
theorem dL_refused_143 : decode cL_refused 143 = .ok (.bipush (-2), 2) := by decide +kernel
theorem dL_refused_145 : decode cL_refused 145 = .ok (.if_icmp .ne 246, 3) := by decide +kernel
theorem dL_refused_148 : decode cL_refused 148 = .ok (.aload_n 0, 1) := by decide +kernel
theorem dL_refused_149 : decode cL_refused 149 = .ok (.iconst 0, 1) := by decide +kernel
theorem dL_refused_150 : decode cL_refused 150 = .ok (.iload_n 2, 1) := by decide +kernel
theorem dL_refused_151 : decode cL_refused 151 = .ok (.iconst 1, 1) := by decide +kernel
theorem dL_refused_152 : decode cL_refused 152 = .ok (.invokevirtual 66, 3) := by decide +kernel
theorem dL_refused_155 : decode cL_refused 155 = .ok (.bipush (-2), 2) := by decide +kernel
theorem dL_refused_157 : decode cL_refused 157 = .ok (.if_icmp .ne 234, 3) := by decide +kernel
theorem dL_refused_160 : decode cL_refused 160 = .ok (.aload_n 0, 1) := by decide +kernel
theorem dL_refused_161 : decode cL_refused 161 = .ok (.iconst 0, 1) := by decide +kernel
theorem dL_refused_162 : decode cL_refused 162 = .ok (.iconst 1, 1) := by decide +kernel
theorem dL_refused_163 : decode cL_refused 163 = .ok (.iload_n 2, 1) := by decide +kernel
theorem dL_refused_164 : decode cL_refused 164 = .ok (.invokevirtual 66, 3) := by decide +kernel
theorem dL_refused_167 : decode cL_refused 167 = .ok (.bipush (-2), 2) := by decide +kernel
theorem dL_refused_169 : decode cL_refused 169 = .ok (.if_icmp .ne 222, 3) := by decide +kernel
theorem dL_refused_172 : decode cL_refused 172 = .ok (.aload_n 0, 1) := by decide +kernel
theorem dL_refused_173 : decode cL_refused 173 = .ok (.iload_n 2, 1) := by decide +kernel
theorem dL_refused_174 : decode cL_refused 174 = .ok (.invokevirtual 117, 3) := by decide +kernel
theorem dL_refused_177 : decode cL_refused 177 = .ok (.iconst (-1), 1) := by decide +kernel
theorem dL_refused_178 : decode cL_refused 178 = .ok (.if_icmp .ne 213, 3) := by decide +kernel
theorem dL_refused_181 : decode cL_refused 181 = .ok (.aload_n 0, 1) := by decide +kernel
theorem dL_refused_182 : decode cL_refused 182 = .ok (.iload_n 2, 1) := by decide +kernel
theorem dL_refused_183 : decode cL_refused 183 = .ok (.iconst 0, 1) := by decide +kernel
theorem dL_refused_184 : decode cL_refused 184 = .ok (.invokevirtual 81, 3) := by decide +kernel
theorem dL_refused_187 : decode cL_refused 187 = .ok (.iconst (-1), 1) := by decide +kernel
theorem dL_refused_188 : decode cL_refused 188 = .ok (.if_icmp .ne 203, 3) := by decide +kernel
theorem dL_refused_191 : decode cL_refused 191 = .ok (.aload_n 0, 1) := by decide +kernel
theorem dL_refused_192 : decode cL_refused 192 = .ok (.iload_n 2, 1) := by decide +kernel
theorem dL_refused_193 : decode cL_refused 193 = .ok (.iconst 0, 1) := by decide +kernel
theorem dL_refused_194 : decode cL_refused 194 = .ok (.invokevirtual 69, 3) := by decide +kernel
theorem dL_refused_197 : decode cL_refused 197 = .ok (.iconst (-1), 1) := by decide +kernel
theorem dL_refused_198 : decode cL_refused 198 = .ok (.if_icmp .ne 193, 3) := by decide +kernel
theorem dL_refused_201 : decode cL_refused 201 = .ok (.aload_n 0, 1) := by decide +kernel
theorem dL_refused_202 : decode cL_refused 202 = .ok (.iload_n 2, 1) := by decide +kernel
theorem dL_refused_203 : decode cL_refused 203 = .ok (.iconst 0, 1) := by decide +kernel
theorem dL_refused_204 : decode cL_refused 204 = .ok (.invokevirtual 72, 3) := by decide +kernel
theorem dL_refused_207 : decode cL_refused 207 = .ok (.bipush (-2), 2) := by decide +kernel
theorem dL_refused_209 : decode cL_refused 209 = .ok (.if_icmp .ne 182, 3) := by decide +kernel
theorem dL_refused_212 : decode cL_refused 212 = .ok (.aload_n 0, 1) := by decide +kernel
theorem dL_refused_213 : decode cL_refused 213 = .ok (.iload_n 2, 1) := by decide +kernel
theorem dL_refused_214 : decode cL_refused 214 = .ok (.invokevirtual 87, 3) := by decide +kernel
theorem dL_refused_217 : decode cL_refused 217 = .ok (.bipush (-2), 2) := by decide +kernel
theorem dL_refused_219 : decode cL_refused 219 = .ok (.if_icmp .ne 172, 3) := by decide +kernel
theorem dL_refused_222 : decode cL_refused 222 = .ok (.aload_n 0, 1) := by decide +kernel
theorem dL_refused_223 : decode cL_refused 223 = .ok (.iload_n 2, 1) := by decide +kernel
theorem dL_refused_224 : decode cL_refused 224 = .ok (.iconst 0, 1) := by decide +kernel
theorem dL_refused_225 : decode cL_refused 225 = .ok (.invokevirtual 75, 3) := by decide +kernel
theorem dL_refused_228 : decode cL_refused 228 = .ok (.iconst (-1), 1) := by decide +kernel
theorem dL_refused_229 : decode cL_refused 229 = .ok (.if_icmp .ne 162, 3) := by decide +kernel
theorem dL_refused_232 : decode cL_refused 232 = .ok (.aload_n 0, 1) := by decide +kernel
theorem dL_refused_233 : decode cL_refused 233 = .ok (.iconst 0, 1) := by decide +kernel
theorem dL_refused_234 : decode cL_refused 234 = .ok (.iload_n 2, 1) := by decide +kernel
theorem dL_refused_235 : decode cL_refused 235 = .ok (.invokevirtual 75, 3) := by decide +kernel
theorem dL_refused_238 : decode cL_refused 238 = .ok (.bipush (-2), 2) := by decide +kernel
theorem dL_refused_240 : decode cL_refused 240 = .ok (.if_icmp .ne 151, 3) := by decide +kernel
theorem dL_refused_243 : decode cL_refused 243 = .ok (.aload_n 0, 1) := by decide +kernel
theorem dL_refused_244 : decode cL_refused 244 = .ok (.iload_n 2, 1) := by decide +kernel
theorem dL_refused_245 : decode cL_refused 245 = .ok (.iconst 0, 1) := by decide +kernel
theorem dL_refused_246 : decode cL_refused 246 = .ok (.invokevirtual 84, 3) := by decide +kernel
theorem dL_refused_249 : decode cL_refused 249 = .ok (.iconst (-1), 1) := by decide +kernel
theorem dL_refused_250 : decode cL_refused 250 = .ok (.if_icmp .ne 141, 3) := by decide +kernel
theorem dL_refused_253 : decode cL_refused 253 = .ok (.aload_n 0, 1) := by decide +kernel
theorem dL_refused_254 : decode cL_refused 254 = .ok (.iconst 0, 1) := by decide +kernel
theorem dL_refused_255 : decode cL_refused 255 = .ok (.iload_n 2, 1) := by decide +kernel
theorem dL_refused_256 : decode cL_refused 256 = .ok (.invokevirtual 84, 3) := by decide +kernel
theorem dL_refused_259 : decode cL_refused 259 = .ok (.bipush (-2), 2) := by decide +kernel
theorem dL_refused_261 : decode cL_refused 261 = .ok (.if_icmp .ne 130, 3) := by decide +kernel
theorem dL_refused_264 : decode cL_refused 264 = .ok (.aload_n 0, 1) := by decide +kernel
theorem dL_refused_265 : decode cL_refused 265 = .ok (.iload_n 2, 1) := by decide +kernel
theorem dL_refused_266 : decode cL_refused 266 = .ok (.invokevirtual 120, 3) := by decide +kernel
theorem dL_refused_269 : decode cL_refused 269 = .ok (.ldc 124, 2) := by decide +kernel
theorem dL_refused_271 : decode cL_refused 271 = .ok (.fcmp .l, 1) := by decide +kernel
theorem dL_refused_272 : decode cL_refused 272 = .ok (.ifCond .ne 119, 3) := by decide +kernel
theorem dL_refused_275 : decode cL_refused 275 = .ok (.aload_n 0, 1) := by decide +kernel
theorem dL_refused_276 : decode cL_refused 276 = .ok (.iload_n 2, 1) := by decide +kernel
theorem dL_refused_277 : decode cL_refused 277 = .ok (.invokevirtual 63, 3) := by decide +kernel
theorem dL_refused_280 : decode cL_refused 280 = .ok (.bipush (-2), 2) := by decide +kernel
theorem dL_refused_282 : decode cL_refused 282 = .ok (.if_icmp .ne 109, 3) := by decide +kernel
theorem dL_refused_285 : decode cL_refused 285 = .ok (.aload_n 0, 1) := by decide +kernel
theorem dL_refused_286 : decode cL_refused 286 = .ok (.iload_n 2, 1) := by decide +kernel
theorem dL_refused_287 : decode cL_refused 287 = .ok (.iconst 0, 1) := by decide +kernel
theorem dL_refused_288 : decode cL_refused 288 = .ok (.iconst 0, 1) := by decide +kernel
theorem dL_refused_289 : decode cL_refused 289 = .ok (.invokevirtual 96, 3) := by decide +kernel
theorem dL_refused_292 : decode cL_refused 292 = .ok (.bipush (-2), 2) := by decide +kernel
theorem dL_refused_294 : decode cL_refused 294 = .ok (.if_icmp .ne 97, 3) := by decide +kernel
theorem dL_refused_297 : decode cL_refused 297 = .ok (.aload_n 0, 1) := by decide +kernel
theorem dL_refused_298 : decode cL_refused 298 = .ok (.iconst 1, 1) := by decide +kernel
theorem dL_refused_299 : decode cL_refused 299 = .ok (.iload_n 2, 1) := by decide +kernel
theorem dL_refused_300 : decode cL_refused 300 = .ok (.iconst 0, 1) := by decide +kernel
theorem dL_refused_301 : decode cL_refused 301 = .ok (.invokevirtual 96, 3) := by decide +kernel
theorem dL_refused_304 : decode cL_refused 304 = .ok (.iconst (-1), 1) := by decide +kernel
theorem dL_refused_305 : decode cL_refused 305 = .ok (.if_icmp .ne 86, 3) := by decide +kernel
theorem dL_refused_308 : decode cL_refused 308 = .ok (.aload_n 0, 1) := by decide +kernel
theorem dL_refused_309 : decode cL_refused 309 = .ok (.iconst 1, 1) := by decide +kernel
theorem dL_refused_310 : decode cL_refused 310 = .ok (.iload_n 2, 1) := by decide +kernel
theorem dL_refused_311 : decode cL_refused 311 = .ok (.iconst 3, 1) := by decide +kernel
theorem dL_refused_312 : decode cL_refused 312 = .ok (.invokevirtual 96, 3) := by decide +kernel
theorem dL_refused_315 : decode cL_refused 315 = .ok (.ifCond .ne 76, 3) := by decide +kernel
theorem dL_refused_318 : decode cL_refused 318 = .ok (.aload_n 0, 1) := by decide +kernel
theorem dL_refused_319 : decode cL_refused 319 = .ok (.iload_n 2, 1) := by decide +kernel
theorem dL_refused_320 : decode cL_refused 320 = .ok (.iconst 0, 1) := by decide +kernel
theorem dL_refused_321 : decode cL_refused 321 = .ok (.iconst 1, 1) := by decide +kernel
theorem dL_refused_322 : decode cL_refused 322 = .ok (.invokevirtual 105, 3) := by decide +kernel
theorem dL_refused_325 : decode cL_refused 325 = .ok (.iconst (-1), 1) := by decide +kernel
theorem dL_refused_326 : decode cL_refused 326 = .ok (.if_icmp .ne 65, 3) := by decide +kernel
theorem dL_refused_329 : decode cL_refused 329 = .ok (.aload_n 0, 1) := by decide +kernel
theorem dL_refused_330 : decode cL_refused 330 = .ok (.iload_n 2, 1) := by decide +kernel
theorem dL_refused_331 : decode cL_refused 331 = .ok (.invokevirtual 108, 3) := by decide +kernel
theorem dL_refused_334 : decode cL_refused 334 = .ok (.bipush (-2), 2) := by decide +kernel
theorem dL_refused_336 : decode cL_refused 336 = .ok (.if_icmp .ne 55, 3) := by decide +kernel
theorem dL_refused_339 : decode cL_refused 339 = .ok (.aload_n 0, 1) := by decide +kernel
theorem dL_refused_340 : decode cL_refused 340 = .ok (.iload_n 2, 1) := by decide +kernel
theorem dL_refused_341 : decode cL_refused 341 = .ok (.invokevirtual 125, 3) := by decide +kernel
theorem dL_refused_344 : decode cL_refused 344 = .ok (.bipush (-2), 2) := by decide +kernel
theorem dL_refused_346 : decode cL_refused 346 = .ok (.if_icmp .ne 45, 3) := by decide +kernel
theorem dL_refused_349 : decode cL_refused 349 = .ok (.aload_n 0, 1) := by decide +kernel
theorem dL_refused_350 : decode cL_refused 350 = .ok (.iload_n 2, 1) := by decide +kernel
theorem dL_refused_351 : decode cL_refused 351 = .ok (.invokevirtual 128, 3) := by decide +kernel
theorem dL_refused_354 : decode cL_refused 354 = .ok (.bipush (-3), 2) := by decide +kernel
theorem dL_refused_356 : decode cL_refused 356 = .ok (.if_icmp .ne 35, 3) := by decide +kernel
theorem dL_refused_359 : decode cL_refused 359 = .ok (.aload_n 0, 1) := by decide +kernel
theorem dL_refused_360 : decode cL_refused 360 = .ok (.iload_n 2, 1) := by decide +kernel
theorem dL_refused_361 : decode cL_refused 361 = .ok (.invokevirtual 99, 3) := by decide +kernel
theorem dL_refused_364 : decode cL_refused 364 = .ok (.bipush (-2), 2) := by decide +kernel
theorem dL_refused_366 : decode cL_refused 366 = .ok (.if_icmp .ne 25, 3) := by decide +kernel
theorem dL_refused_369 : decode cL_refused 369 = .ok (.aload_n 0, 1) := by decide +kernel
theorem dL_refused_370 : decode cL_refused 370 = .ok (.iload_n 2, 1) := by decide +kernel
theorem dL_refused_371 : decode cL_refused 371 = .ok (.invokevirtual 102, 3) := by decide +kernel
theorem dL_refused_374 : decode cL_refused 374 = .ok (.bipush (-2), 2) := by decide +kernel
theorem dL_refused_376 : decode cL_refused 376 = .ok (.if_icmp .ne 15, 3) := by decide +kernel
theorem dL_refused_379 : decode cL_refused 379 = .ok (.aload_n 0, 1) := by decide +kernel
theorem dL_refused_380 : decode cL_refused 380 = .ok (.iconst 0, 1) := by decide +kernel
theorem dL_refused_381 : decode cL_refused 381 = .ok (.invokevirtual 63, 3) := by decide +kernel
theorem dL_refused_384 : decode cL_refused 384 = .ok (.ifCond .ne 7, 3) := by decide +kernel
theorem dL_refused_387 : decode cL_refused 387 = .ok (.iconst 1, 1) := by decide +kernel
theorem dL_refused_388 : decode cL_refused 388 = .ok (.goto 4, 3) := by decide +kernel
theorem dL_refused_391 : decode cL_refused 391 = .ok (.iconst 0, 1) := by decide +kernel
theorem dL_refused_392 : decode cL_refused 392 = .ok (.ireturn, 1) := by decide +kernel
end
section
/-! ONE MEMORY: the cells of the class and of the reference by number; what each holds; the judgement J over it, a row an instruction (my own layer over the kit's rows) -/
/-- the words that every method of ours is given: those that a caller can hand on; and the nest mates' links -/
def lw_g : List Cond := lw_tbl.filter goodWord
def nestWord : Cond → Bool
  | .fieldLinkNest .. => true
  | .methodLinkNest .. => true
  | _ => false
def lw_n : List Cond := lw_tbl.filter nestWord
theorem in_g {c : Cond} (i : Nat) (h : lw_tbl[i]? = some c) (hg : goodWord c = true) : c ∈ lw_g := List.mem_filter.mpr ⟨List.mem_of_getElem? h, hg⟩
theorem in_n {c : Cond} (i : Nat) (h : lw_tbl[i]? = some c) (hg : nestWord c = true) : c ∈ lw_n := List.mem_filter.mpr ⟨List.mem_of_getElem? h, hg⟩
def Nw (U : State) : Prop := ∀ w ∈ lw_n, va_Nw w U
theorem Nw.warm {s U : State} (h : Nw s) (hW : s.WarmedH U.vm) : Nw U := fun w hw => by
  have h1 := h w hw
  have h2 := (List.mem_filter.mp hw).2
  cases w <;> first | exact va_Nw.warmF hW h1 | exact va_Nw.warmM hW h1 | (simp [nestWord] at h2)
theorem Nw.same {u U : State} (h : u.vm = U.vm) (hN : Nw u) : Nw U := fun w hw => by
  have h2 := (List.mem_filter.mp hw).2
  refine va_Nw.same ?_ h (hN w hw)
  cases w <;> first | rfl | (simp [nestWord] at h2)
abbrev Mem : Type := Nat → Nat → Int32
def gput (σ : Mem) (k : Nat) (f : Nat → Int32) : Mem := fun a => if a = k then f else σ a
theorem gput_s (σ : Mem) (k : Nat) (f : Nat → Int32) : gput σ k f k = f := by simp [gput]
theorem gput_n {σ : Mem} {k a : Nat} {f : Nat → Int32} (h : a ≠ k) : gput σ k f a = σ a := by simp [gput, h]
def clsL : List Nat := [8, 5, 4, 100, 1, 4, 100, 100, 100, 100, 100, 100, 100, 100, 3, 4, 100, 100, 100, 100, 7, 0, 100, 100, 100, 5, 4, 100, 1, 4, 100, 100, 100, 100, 100, 100, 100, 100, 3, 4, 100, 100, 100, 100, 7, 0, 100, 100, 100, 6, 5, 4, 100, 1, 4, 100, 100, 100, 100, 100, 100, 100, 100, 3, 4, 100, 100, 100, 100, 7, 0, 100, 100, 100, 6, 5, 4, 100, 1, 4, 100, 100, 100, 100, 100, 100, 100, 100, 3, 4, 100, 100, 100, 100, 7, 0, 100, 100, 100, 2, 0, 100, 100, 100, 102, 100, 100, 100, 104, 104, 100, 100, 103, 103, 103, 103, 103, 103, 103, 103, 103]
def alenL : List Nat := [0, 0, 0, 6, 0, 0, 72, 12, 12, 12, 12, 12, 12, 612, 0, 0, 6, 3, 3, 3, 0, 0, 60, 60, 60, 0, 0, 6, 0, 0, 72, 12, 12, 12, 12, 12, 12, 612, 0, 0, 6, 3, 3, 3, 0, 0, 60, 60, 60, 0, 0, 0, 6, 0, 0, 72, 12, 12, 12, 12, 12, 12, 612, 0, 0, 6, 3, 3, 3, 0, 0, 60, 60, 60, 0, 0, 0, 6, 0, 0, 72, 12, 12, 12, 12, 12, 12, 612, 0, 0, 6, 3, 3, 3, 0, 0, 60, 60, 60, 0, 0, 60, 60, 60, 80, 12, 3, 3, 3, 3, 1, 1, 6, 6, 6, 2, 2, 2, 6, 6, 6]
def ptrL : List (List Nat) := [[1, 25, 49, 74, 99], [2, 4, 14, 20, 21], [118, 119, 120, 0, 3], [], [5, 7, 8, 9, 10, 11, 12, 13], [112, 113, 114, 0, 6], [], [], [], [], [], [], [], [], [15, 17, 18, 19], [115, 116, 117, 0, 16], [], [], [], [], [], [22, 23, 24], [], [], [], [26, 28, 38, 44, 45], [118, 119, 120, 0, 27], [], [29, 31, 32, 33, 34, 35, 36, 37], [112, 113, 114, 0, 30], [], [], [], [], [], [], [], [], [39, 41, 42, 43], [115, 116, 117, 0, 40], [], [], [], [], [], [46, 47, 48], [], [], [], [50], [51, 53, 63, 69, 70], [118, 119, 120, 0, 52], [], [54, 56, 57, 58, 59, 60, 61, 62], [112, 113, 114, 0, 55], [], [], [], [], [], [], [], [], [64, 66, 67, 68], [115, 116, 117, 0, 65], [], [], [], [], [], [71, 72, 73], [], [], [], [75], [76, 78, 88, 94, 95], [118, 119, 120, 0, 77], [], [79, 81, 82, 83, 84, 85, 86, 87], [112, 113, 114, 0, 80], [], [], [], [], [], [], [], [], [89, 91, 92, 93], [115, 116, 117, 0, 90], [], [], [], [], [], [96, 97, 98], [], [], [], [100, 104], [101, 102, 103], [], [], [], [], [], [], [], [], [], [], [], [], [], [], [], [], [], [], [], []]
def clsOf (k : Nat) : Nat := clsL.getD k 999
def alen (k : Nat) : Nat := alenL.getD k 0
def ptr (k j : Nat) : Nat := (ptrL.getD k []).getD j 0
def fpat (c : Nat) : List Bool := match c with
  | 0 => [true, true, true, false]
  | 1 => [true, true, true, true, true, true, true, true, false, false]
  | 2 => [true, true, false, false, false, false, false]
  | 3 => [true, true, true, true]
  | 4 => [true, true, true, false, true]
  | 5 => [true, true, true, true, true, false, false]
  | 6 => [true, false]
  | 7 => [false, false, false, false]
  | _ => [true, true, true, true, true]
def fl (pa : Nat → Nat) (f : Nat → Int32) : List Bool → Nat → List Value
  | [], _ => []
  | true :: l, i => .ref (pa i) :: fl pa f l (i + 1)
  | false :: l, i => .int (f i) :: fl pa f l (i + 1)
theorem fl_len (pa : Nat → Nat) (f : Nat → Int32) : ∀ (l : List Bool) (i : Nat), (fl pa f l i).length = l.length
  | [], _ => rfl
  | true :: l, i => by simp [fl, fl_len pa f l (i + 1)]
  | false :: l, i => by simp [fl, fl_len pa f l (i + 1)]
theorem fl_ref (pa : Nat → Nat) (f : Nat → Int32) : ∀ (l : List Bool) (i j : Nat), l[j]? = some true → (fl pa f l i)[j]? = some (.ref (pa (i + j)))
  | [], _, _, h => by simp at h
  | true :: l, i, 0, _ => by simp [fl]
  | false :: l, i, 0, h => by simp at h
  | true :: l, i, j + 1, h => by
    have := fl_ref pa f l (i + 1) j (by simpa using h)
    simp only [fl, List.getElem?_cons_succ, this]
    congr 3; omega
  | false :: l, i, j + 1, h => by
    have := fl_ref pa f l (i + 1) j (by simpa using h)
    simp only [fl, List.getElem?_cons_succ, this]
    congr 3; omega
theorem fl_int (pa : Nat → Nat) (f : Nat → Int32) : ∀ (l : List Bool) (i j : Nat), l[j]? = some false → (fl pa f l i)[j]? = some (.int (f (i + j)))
  | [], _, _, h => by simp at h
  | false :: l, i, 0, _ => by simp [fl]
  | true :: l, i, 0, h => by simp at h
  | true :: l, i, j + 1, h => by
    have := fl_int pa f l (i + 1) j (by simpa using h)
    simp only [fl, List.getElem?_cons_succ, this]
    congr 3; omega
  | false :: l, i, j + 1, h => by
    have := fl_int pa f l (i + 1) j (by simpa using h)
    simp only [fl, List.getElem?_cons_succ, this]
    congr 3; omega
theorem fl_new (pa : Nat → Nat) {f g : Nat → Int32} : ∀ (l : List Bool) (i : Nat), (∀ j, i ≤ j → f j = g j) → fl pa f l i = fl pa g l i
  | [], _, _ => rfl
  | true :: l, i, h => by simp [fl, fl_new pa l (i + 1) (fun j hj => h j (by omega))]
  | false :: l, i, h => by simp [fl, fl_new pa l (i + 1) (fun j hj => h j (by omega)), h i (Nat.le_refl i)]
theorem fl_set (pa : Nat → Nat) (f : Nat → Int32) (v : Int32) : ∀ (l : List Bool) (i j : Nat), l[j]? = some false → (fl pa f l i).set j (.int v) = fl pa (upd f (i + j) v) l i
  | [], _, _, h => by simp at h
  | true :: l, i, 0, h => by simp at h
  | false :: l, i, 0, _ => by
    have : fl pa f l (i + 1) = fl pa (upd f (i + 0) v) l (i + 1) := fl_new pa l (i + 1) (fun j hj => by simp [upd]; intro h; omega)
    simp [fl, this, upd]
  | true :: l, i, j + 1, h => by
    have := fl_set pa f v l (i + 1) j (by simpa using h)
    simp only [fl, List.set_cons_succ, this]
    congr 3; omega
  | false :: l, i, j + 1, h => by
    have := fl_set pa f v l (i + 1) j (by simpa using h)
    simp only [fl, List.set_cons_succ, this]
    have e : i + 1 + j = i + (j + 1) := by omega
    rw [e]
    congr 2
    simp [upd]
def ce (cI : Nat → ClassId) (ad : Nat → Nat) (σ : Mem) (k : Nat) : va_E :=
  if clsOf k < 100 then .inr (clsOf k, fl (fun j => ad (ptr k j)) (σ k) (fpat (clsOf k)) 0) else if clsOf k = 104 then .inl (cI 104, alen k, .inr (.inl (fun i => (σ k i).toInt64))) else .inl (cI (clsOf k), alen k, .inl (σ k))
def wl (cI : Nat → ClassId) (ad : Nat → Nat) (σ : Mem) (ks : List Nat) : va_W := ks.map (fun k => (ad k, ce cI ad σ k))
theorem wl_get (cI : Nat → ClassId) (ad : Nat → Nat) (σ : Mem) {ks : List Nat} {k : Nat} (h : k ∈ ks) : ∃ q : Nat, ks[q]? = some k ∧ (wl cI ad σ ks)[q]? = some (ad k, ce cI ad σ k) := by
  obtain ⟨q, hq⟩ := List.getElem?_of_mem h
  exact ⟨q, hq, by simp [wl, hq]⟩
theorem ce_same {cI : Nat → ClassId} {ad : Nat → Nat} {σ σ' : Mem} {k : Nat} (h : σ' k = σ k) : ce cI ad σ' k = ce cI ad σ k := by simp [ce, h]
/-- one cell written: the whole list anew -/
theorem wl_set {cI : Nat → ClassId} {ad : Nat → Nat} {σ : Mem} {ks : List Nat} {A : Nat → Prop} (hD : va_D A (wl cI ad σ ks)) {k q : Nat} (hq : ks[q]? = some k) (f : Nat → Int32) : (wl cI ad σ ks).set q (ad k, ce cI ad (gput σ k f) k) = wl cI ad (gput σ k f) ks := by
  apply List.ext_getElem?
  intro i
  rw [List.getElem?_set]
  by_cases hi : q = i
  · subst hi
    have hl : q < ks.length := (List.getElem?_eq_some_iff.mp hq).1
    have hl' : q < (wl cI ad σ ks).length := by simpa [wl] using hl
    rw [if_pos rfl, if_pos hl']
    simp [wl, hq]
  · rw [if_neg hi]
    simp only [wl, List.getElem?_map]
    cases hk : ks[i]? with
    | none => rfl
    | some j =>
      simp only [Option.map_some]
      have hj : j ≠ k := by
        intro e
        subst e
        exact hi (hD.1 q i (ad j, ce cI ad σ j) (ad j, ce cI ad σ j) (by simp [wl, hq]) (by simp [wl, hk]) rfl)
      rw [ce_same (gput_n hj)]
def tysI (cI : Nat → ClassId) : List (ClassId × FieldType) := [(cI 100, .int), (cI 102, .char), (cI 104, .long)]
/-- every pointer of a cell that is there is there -/
def Cl (ks : List Nat) : Prop := ∀ k, k ∈ ks → ∀ j, (fpat (clsOf k))[j]? = some true → clsOf k < 100 → ptr k j ∈ ks ∨ clsOf (ptr k j) = 103
def Ok (ks : List Nat) (k c : Nat) : Prop := k ∈ ks ∧ clsOf k = c
/-- the static rows -/
def Ws (ad : Nat → Nat) (A0 : Nat → Prop) (σ : Mem) (U : State) : Prop := ∀ k, clsOf k = 103 → va_T .int (ad k) (alen k) (fun j => .int (σ k j)) A0 U U.heap
def Wx (D : va_G) (cI : Nat → ClassId) (ad : Nat → Nat) (A0 : Nat → Prop) (ks : List Nat) (σ : Mem) (U : State) : Prop :=
  va_K D vwCl (tysI cI) U ∧ va_P D vwCl (wl cI ad σ ks) U.heap ∧ va_D A0 (wl cI ad σ ks) ∧ Ws ad A0 σ U
abbrev Ctx : Type := Program × Launch × Env × Room × State × MethodId × Array Value × List Frame × Method × Code × va_G × (Nat → ClassId) × (Nat → Nat) × (Nat → Prop) × List Nat × Nat × Nat × Nat × (State → Prop)
def Xad (X : Ctx) : Nat → Nat := match X with | (_, _, _, _, _, _, _, _, _, _, _, _, ad, _) => ad
def Xks (X : Ctx) : List Nat := match X with | (_, _, _, _, _, _, _, _, _, _, _, _, _, _, ks, _) => ks
def Xl (X : Ctx) : Launch := match X with | (_, l, _) => l
def J (X : Ctx) (pc : Nat) (loc : List (Nat × Value)) (stk : List Value) (σ : Mem) : Prop := match X with
  | (p, l, e, R, s, m, args, below, meth, c, D, cI, ad, A0, ks, nL, mc, ms, Q) => ∀ (H : Heap) (locs : List Loc) (ls : Array Slot), va_P D vwCl (wl cI ad σ ks) H → va_D A0 (wl cI ad σ ks) → Ws ad A0 σ s → va_S A0 s.heap H locs → lv_has ls nL loc → W p l e R s m args below meth c H locs mc ms Q (F0 m pc ls stk)
def Cx (X : Ctx) (own : String) (cc : ByteArray) (n0 : Nat) (ret : Option FieldType) (fr lo : Nat) : Prop := match X with
  | (p, _, _, R, s, m, args, _, meth, c, D, cI, _, _, ks, nL, mc, ms, _) => p.tables.exec = Jvm.exec ∧ c.code = cc ∧ c.maxLocals = nL ∧ n0 = nL ∧ meth.sig.returnType = ret ∧ s.vm.findClass own = some m.cls ∧ (∀ w ∈ lw_g, w.before args s = true) ∧ meth.locks = false ∧ va_K D vwCl (tysI cI) s ∧ Cl ks ∧ fr ≤ R.frames ∧ lo ≤ R.locals ∧ mc ≤ R.cells ∧ ms ≤ R.slots ∧ Nw s
def QcOf (D : va_G) (cI : Nat → ClassId) (ad : Nat → Nat) (A0 : Nat → Prop) (ks : List Nat) (o : Option Value) (σ' : Mem) : Array Value → State → Outcome → State → Prop := fun _ st oc t => oc = .returned o ∧ Wx D cI ad A0 ks σ' t ∧ va_F A0 st t
def Rt (X : Ctx) (o : Option Value) (σ' : Mem) : Prop := match X with
  | (_, _, _, _, s, _, args, below, _, _, D, cI, ad, A0, ks, _, mc, ms, Q) => Q = MQ below (QcOf D cI ad A0 ks o σ') args s mc ms A0
/-- A CONTRACT over the memory: from σ to σ', with the answer o -/
def Ct (l : Launch) (y : MethodName) (cc : ByteArray) (nL : Nat) (ret : Option FieldType) (fr lo : Nat) (ok : List Nat → Prop) (as : (Nat → Nat) → List Value) (σ : Mem) (o : (Nat → Nat) → Option Value) (σ' : Mem) : Prop :=
  ∀ (D : va_G) (cI : Nat → ClassId) (ad : Nat → Nat) (A0 : Nat → Prop) (ks : List Nat), Cl ks → ok ks → Met l y (Cond.code y cc nL ret :: lw_g) ({ frames := fr, cells := 0, slots := 0, locals := lo }) (va_Pc (as ad) (fun U => Wx D cI ad A0 ks σ U ∧ Nw U)) (QcOf D cI ad A0 ks (o ad) σ') 0 0 A0
theorem Wx.moved {D : va_G} {cI : Nat → ClassId} {ad : Nat → Nat} {A0 : Nat → Prop} {ks : List Nat} {σ : Mem} {u U : State} (hvm : u.vm.Alike U.vm) (hh : U.heap = u.heap) (h : Wx D cI ad A0 ks σ u) : Wx D cI ad A0 ks σ U := by
  obtain ⟨h1, h2, h3, h4⟩ := h
  refine ⟨va_K.moved hvm h1, by rw [hh]; exact h2, h3, fun k hk => ?_⟩
  rw [hh]
  exact va_T.moved hvm (h4 k hk)
theorem Ws.out {ad : Nat → Nat} {A0 : Nat → Prop} {σ : Mem} {s t : State} {H : Heap} {locs : List Loc} (hT : Ws ad A0 σ s) (hS : va_S A0 s.heap H locs) (ht : t.heap = H) (hvm : s.vm.Alike t.vm) : Ws ad A0 σ t := fun k hk => by
  rw [ht]
  exact va_T.moved hvm (va_T.kept (hT k hk) (fun a h1 h2 => hS.2.1 a h1 h2))
theorem Ws.put {ad : Nat → Nat} {A0 : Nat → Prop} {σ : Mem} {U : State} (hT : Ws ad A0 σ U) {k : Nat} (hk : ¬ clsOf k = 103) (f : Nat → Int32) : Ws ad A0 (gput σ k f) U := fun j hj => by
  have : j ≠ k := fun e => hk (by rw [← e]; exact hj)
  rw [gput_n this]
  exact hT j hj
theorem Ws.back {ad : Nat → Nat} {A0 : Nat → Prop} {σ σ' : Mem} {s t : State} (hT : Ws ad A0 σ s) (h1 : Ws ad A0 σ' t) (hq : ∀ q : Nat, q < s.heap.size → ¬ A0 q → t.heap[q]? = s.heap[q]?) : Ws ad A0 σ' s := fun k hk => by
  obtain ⟨cell, a1, a2, a3, a4, a5, a6, a7⟩ := hT k hk
  obtain ⟨cell', b1, b2, b3, b4, b5, b6, b7⟩ := h1 k hk
  have e : cell' = cell := by
    rw [hq _ (Array.getElem?_eq_some_iff.mp a1).1 a7, a1] at b1
    exact (Option.some.inj b1).symm
  subst e
  exact ⟨cell', a1, a2, a3, a4, a5, b6, a7⟩
theorem tblIn {y : MethodName} {cc : ByteArray} {nL : Nat} {ret : Option FieldType} (h : Cond.code y cc nL ret ∈ lw_g) : GoodIn lw_g (Cond.code y cc nL ret :: lw_g) := fun w hw => by
  have hm : w ∈ lw_g := by
    rcases List.mem_cons.mp hw with e | e
    · rw [e]; exact h
    · exact e
  exact ⟨hm, good_of_word (List.mem_filter.mp hm).2⟩
theorem lv_loc {ls : Array Slot} {n : Nat} {l l' : List (Nat × Value)} (h : lv_has ls n l) (e : l = l') : lv_has ls n l' := e ▸ h
theorem Met.ofWF {l : Launch} {y : MethodName} {ws ws' : List Cond} {rm : Room} {Pc : Array Value → State → Prop} {Qc : Array Value → State → Outcome → State → Prop} {mc ms : Nat} {free : Addr → Prop} {cc : ByteArray} {maxL : Nat} {ret : Option FieldType}
    (hy : plainFor y = true) (hw : ws = Cond.code y cc maxL ret :: ws')
    (body : ∀ p e s m args below meth c s₁, BodyLoose p l y (headSpec ws rm) cc maxL ret e s m args below meth c s₁ → c.maxLocals = maxL → Pc args s →
      W p l e (headSpec ws rm).room s m args below meth c s.heap [] 0 0 (MQ below Qc args s mc ms free) (entryFrame m args maxL)) : Met l y ws rm Pc Qc mc ms free := by
  refine MetFree.of_bodySF (code := cc) (maxLocals := maxL) (ret := ret) hy ?_ ?_
  · intro args s m h hn
    obtain ⟨meth, c, h1, h2, h3, h4, h5, h6, -, -⟩ := Cond.code_spec hn (atoms_spec (ws := ws) h _ (by rw [hw]; exact List.mem_cons_self))
    exact ⟨meth, c, h1, h2, h3, h4, h5, h6⟩
  · intro p e s m args below meth c s₁ B hml hP _
    have hh0 : s₁.heap = s.heap := by rw [B.state]; rfl
    obtain ⟨t, a1, o, b1, b2, b3⟩ := body p e s m args below meth c s₁ B hml hP s₁ hh0 (Stand.of_body B)
    exact ⟨t, o, a1, b1, b2, ⟨b3.1, b3.2⟩⟩
/-- a method's contract out of J from its entry -/
theorem Ct.of {l : Launch} {y : MethodName} {cc : ByteArray} {nL : Nat} {ret : Option FieldType} {fr lo : Nat} {ok : List Nat → Prop} {as : (Nat → Nat) → List Value} {σ : Mem} {o : (Nat → Nat) → Option Value} {σ' : Mem} (hy : plainFor y = true) (hlen : ∀ ad, (lg_sl (as ad)).length ≤ nL)
    (body : ∀ X : Ctx, Cx X y.cls cc nL ret fr lo → Xl X = l → ok (Xks X) → Cl (Xks X) → Rt X (o (Xad X)) σ' → J X 0 (lv_args 0 (as (Xad X))) [] σ) : Ct l y cc nL ret fr lo ok as σ o σ' := by
  intro D cI ad A0 ks hcl hok
  refine Met.ofWF (cc := cc) (maxL := nL) (ret := ret) hy rfl ?_
  intro p e s m args below meth c s₁ B hml hv
  obtain ⟨rfl, ⟨hK, hP, hD, hT⟩, hnw⟩ := hv
  have hts := atoms_spec (ws := Cond.code y cc nL ret :: lw_g) B.pre
  have K := body (p, l, e, (headSpec (Cond.code y cc nL ret :: lw_g) ({ frames := fr, cells := 0, slots := 0, locals := lo })).room, s, m, (as ad).toArray, below, meth, c, D, cI, ad, A0, ks, nL, 0, 0, MQ below (QcOf D cI ad A0 ks (o ad) σ') (as ad).toArray s 0 0 A0)
    ⟨B.exec, B.bytes, hml, rfl, B.returns, findClass_of_methodNamed B.named, fun w hw => hts w (List.mem_cons_of_mem _ hw), B.notSynchronized, hK, hcl, Nat.le_refl _, Nat.le_refl _, Nat.le_refl _, Nat.le_refl _, hnw⟩ rfl hok hcl rfl
  have hl := lv_entry (as ad) (n := nL) (hlen ad)
  rw [lg_entry_eq]
  exact K s.heap [] _ hP hD hT va_S.rf hl
section JR
variable {X : Ctx} {own : String} {cc : ByteArray} {n0 : Nat} {ret : Option FieldType} {fr lo pc : Nat} {loc : List (Nat × Value)} {stk rest : List Value} {σ : Mem}
/-- fewer locals -/
theorem J.sub {loc' : List (Nat × Value)} (ks : List Nat) (h : lv_pick loc ks = loc') (K : J X pc loc' stk σ) : J X pc loc stk σ := by
  obtain ⟨p, l, e, R, s, m, args, below, meth, c, D, cI, ad, A0, ks, nL, mc, ms, Q⟩ := X
  intro H locs ls hP hD hT hS hl
  exact K H locs ls hP hD hT hS (lv_sub hl _ h)
theorem J.iconst (C : Cx X own cc n0 ret fr lo) {n : Int} {v : Int32} (hdg : decode cc pc = .ok (.iconst n, 1)) (hv : Int32.ofInt n = v) (K : J X (pc + 1) loc (.int v :: rest) σ) : J X pc loc (rest) σ := by
  obtain ⟨p, l, e, R, s, m, args, below, meth, c, D, cI, ad, A0, ks, nL, mc, ms, Q⟩ := X
  obtain ⟨hx, hb, hml, hn0, hr, hown, hts, hlocks, hK, hcl, hfr, hlo, hmc, hms, hnw⟩ := C
  intro H locs ls hP hD hT hS hl
  exact lv_iconst hx hb hdg hv (K H locs ls hP hD hT hS hl)
theorem J.bipush (C : Cx X own cc n0 ret fr lo) {n : Int} {v : Int32} (hdg : decode cc pc = .ok (.bipush n, 2)) (hv : (Int8.ofInt n).toInt32 = v) (K : J X (pc + 2) loc (.int v :: rest) σ) : J X pc loc (rest) σ := by
  obtain ⟨p, l, e, R, s, m, args, below, meth, c, D, cI, ad, A0, ks, nL, mc, ms, Q⟩ := X
  obtain ⟨hx, hb, hml, hn0, hr, hown, hts, hlocks, hK, hcl, hfr, hlo, hmc, hms, hnw⟩ := C
  intro H locs ls hP hD hT hS hl
  exact lv_bipush hx hb hdg hv (K H locs ls hP hD hT hS hl)
theorem J.sipush (C : Cx X own cc n0 ret fr lo) {n : Int} {v : Int32} (hdg : decode cc pc = .ok (.sipush n, 3)) (hv : (Int16.ofInt n).toInt32 = v) (K : J X (pc + 3) loc (.int v :: rest) σ) : J X pc loc (rest) σ := by
  obtain ⟨p, l, e, R, s, m, args, below, meth, c, D, cI, ad, A0, ks, nL, mc, ms, Q⟩ := X
  obtain ⟨hx, hb, hml, hn0, hr, hown, hts, hlocks, hK, hcl, hfr, hlo, hmc, hms, hnw⟩ := C
  intro H locs ls hP hD hT hS hl
  exact lv_sipush hx hb hdg hv (K H locs ls hP hD hT hS hl)
theorem J.lconst (C : Cx X own cc n0 ret fr lo) {n : Fin 2} {v : Int64} (hdg : decode cc pc = .ok (.lconst n, 1)) (hv : Int64.ofNat (n : Nat) = v) (K : J X (pc + 1) loc (.long v :: rest) σ) : J X pc loc (rest) σ := by
  obtain ⟨p, l, e, R, s, m, args, below, meth, c, D, cI, ad, A0, ks, nL, mc, ms, Q⟩ := X
  obtain ⟨hx, hb, hml, hn0, hr, hown, hts, hlocks, hK, hcl, hfr, hlo, hmc, hms, hnw⟩ := C
  intro H locs ls hP hD hT hS hl
  exact lv_lconst hx hb hdg hv (K H locs ls hP hD hT hS hl)
theorem J.ldc (C : Cx X own cc n0 ret fr lo) {i : Nat} {v : Int32} (hdg : decode cc pc = .ok (.ldc i, 2)) (hw : Cond.constant own i v ∈ lw_g) (K : J X (pc + 2) loc (.int v :: rest) σ) : J X pc loc rest σ := by
  obtain ⟨p, l, e, R, s, m, args, below, meth, c, D, cI, ad, A0, ks, nL, mc, ms, Q⟩ := X
  obtain ⟨hx, hb, hml, hn0, hr, hown, hts, hlocks, hK, hcl, hfr, hlo, hmc, hms, hnw⟩ := C
  intro H locs ls hP hD hT hS hl
  exact lv_ldc hx hb hown (hts _ hw) hdg (K H locs ls hP hD hT hS hl)
theorem J.ldc2 (C : Cx X own cc n0 ret fr lo) {i : Nat} {v : Int64} (hdg : decode cc pc = .ok (.ldc2_w i, 3)) (hw : Cond.constantLong own i v ∈ lw_g) (K : J X (pc + 3) loc (.long v :: rest) σ) : J X pc loc rest σ := by
  obtain ⟨p, l, e, R, s, m, args, below, meth, c, D, cI, ad, A0, ks, nL, mc, ms, Q⟩ := X
  obtain ⟨hx, hb, hml, hn0, hr, hown, hts, hlocks, hK, hcl, hfr, hlo, hmc, hms, hnw⟩ := C
  intro H locs ls hP hD hT hS hl
  exact lv_ldc2 hx hb hown (hts _ hw) hdg (K H locs ls hP hD hT hS hl)
theorem J.iload_n (C : Cx X own cc n0 ret fr lo) {k : Fin 4} {i : Nat} {x : Int32} (hdg : decode cc pc = .ok (.iload_n k, 1)) (hi : (k : Nat) = i) (q : Nat) (hq : loc[q]? = some (i, .int x)) (K : J X (pc + 1) loc (.int x :: rest) σ) : J X pc loc rest σ := by
  obtain ⟨p, l, e, R, s, m, args, below, meth, c, D, cI, ad, A0, ks, nL, mc, ms, Q⟩ := X
  obtain ⟨hx, hb, hml, hn0, hr, hown, hts, hlocks, hK, hcl, hfr, hlo, hmc, hms, hnw⟩ := C
  intro H locs ls hP hD hT hS hl
  exact lv_iload_n hx hb hdg hi (lv_at hl q hq) (K H locs ls hP hD hT hS hl)
theorem J.iload (C : Cx X own cc n0 ret fr lo) {i : Nat} {x : Int32} (hdg : decode cc pc = .ok (.iload i, 2)) (q : Nat) (hq : loc[q]? = some (i, .int x)) (K : J X (pc + 2) loc (.int x :: rest) σ) : J X pc loc rest σ := by
  obtain ⟨p, l, e, R, s, m, args, below, meth, c, D, cI, ad, A0, ks, nL, mc, ms, Q⟩ := X
  obtain ⟨hx, hb, hml, hn0, hr, hown, hts, hlocks, hK, hcl, hfr, hlo, hmc, hms, hnw⟩ := C
  intro H locs ls hP hD hT hS hl
  exact lv_iload hx hb hdg (lv_at hl q hq) (K H locs ls hP hD hT hS hl)
theorem J.lload_n (C : Cx X own cc n0 ret fr lo) {k : Fin 4} {i : Nat} {x : Int64} (hdg : decode cc pc = .ok (.lload_n k, 1)) (hi : (k : Nat) = i) (q : Nat) (hq : loc[q]? = some (i, .long x)) (K : J X (pc + 1) loc (.long x :: rest) σ) : J X pc loc rest σ := by
  obtain ⟨p, l, e, R, s, m, args, below, meth, c, D, cI, ad, A0, ks, nL, mc, ms, Q⟩ := X
  obtain ⟨hx, hb, hml, hn0, hr, hown, hts, hlocks, hK, hcl, hfr, hlo, hmc, hms, hnw⟩ := C
  intro H locs ls hP hD hT hS hl
  exact lv_lload_n hx hb hdg hi (lv_at hl q hq) (K H locs ls hP hD hT hS hl)
theorem J.lload (C : Cx X own cc n0 ret fr lo) {i : Nat} {x : Int64} (hdg : decode cc pc = .ok (.lload i, 2)) (q : Nat) (hq : loc[q]? = some (i, .long x)) (K : J X (pc + 2) loc (.long x :: rest) σ) : J X pc loc rest σ := by
  obtain ⟨p, l, e, R, s, m, args, below, meth, c, D, cI, ad, A0, ks, nL, mc, ms, Q⟩ := X
  obtain ⟨hx, hb, hml, hn0, hr, hown, hts, hlocks, hK, hcl, hfr, hlo, hmc, hms, hnw⟩ := C
  intro H locs ls hP hD hT hS hl
  exact lv_lload hx hb hdg (lv_at hl q hq) (K H locs ls hP hD hT hS hl)
theorem J.aload_n (C : Cx X own cc n0 ret fr lo) {k : Fin 4} {i : Nat} {x : Nat} (hdg : decode cc pc = .ok (.aload_n k, 1)) (hi : (k : Nat) = i) (q : Nat) (hq : loc[q]? = some (i, .ref x)) (K : J X (pc + 1) loc (.ref x :: rest) σ) : J X pc loc rest σ := by
  obtain ⟨p, l, e, R, s, m, args, below, meth, c, D, cI, ad, A0, ks, nL, mc, ms, Q⟩ := X
  obtain ⟨hx, hb, hml, hn0, hr, hown, hts, hlocks, hK, hcl, hfr, hlo, hmc, hms, hnw⟩ := C
  intro H locs ls hP hD hT hS hl
  exact lv_aload_n hx hb hdg hi (lv_at hl q hq) (K H locs ls hP hD hT hS hl)
theorem J.aload (C : Cx X own cc n0 ret fr lo) {i : Nat} {x : Nat} (hdg : decode cc pc = .ok (.aload i, 2)) (q : Nat) (hq : loc[q]? = some (i, .ref x)) (K : J X (pc + 2) loc (.ref x :: rest) σ) : J X pc loc rest σ := by
  obtain ⟨p, l, e, R, s, m, args, below, meth, c, D, cI, ad, A0, ks, nL, mc, ms, Q⟩ := X
  obtain ⟨hx, hb, hml, hn0, hr, hown, hts, hlocks, hK, hcl, hfr, hlo, hmc, hms, hnw⟩ := C
  intro H locs ls hP hD hT hS hl
  exact lv_aload hx hb hdg (lv_at hl q hq) (K H locs ls hP hD hT hS hl)
theorem J.dload (C : Cx X own cc n0 ret fr lo) {i : Nat} {x : UInt64} (hdg : decode cc pc = .ok (.dload i, 2)) (q : Nat) (hq : loc[q]? = some (i, .double x)) (K : J X (pc + 2) loc (.double x :: rest) σ) : J X pc loc rest σ := by
  obtain ⟨p, l, e, R, s, m, args, below, meth, c, D, cI, ad, A0, ks, nL, mc, ms, Q⟩ := X
  obtain ⟨hx, hb, hml, hn0, hr, hown, hts, hlocks, hK, hcl, hfr, hlo, hmc, hms, hnw⟩ := C
  intro H locs ls hP hD hT hS hl
  exact lv_dload hx hb hdg (lv_at hl q hq) (K H locs ls hP hD hT hS hl)
theorem J.istore_n (C : Cx X own cc n0 ret fr lo) {k : Fin 4} {i : Nat} {x : Int32} {loc' : List (Nat × Value)} (hdg : decode cc pc = .ok (.istore_n k, 1)) (hi : (k : Nat) = i) (hn : i < n0) (hl' : (i, Value.int x) :: loc.filter (fun q => !(q.1 == i) && !(q.1 + 1 == i && q.2.category == 2)) = loc') (K : J X (pc + 1) loc' rest σ) : J X pc loc (.int x :: rest) σ := by
  obtain ⟨p, l, e, R, s, m, args, below, meth, c, D, cI, ad, A0, ks, nL, mc, ms, Q⟩ := X
  obtain ⟨hx, hb, hml, hn0, hr, hown, hts, hlocks, hK, hcl, hfr, hlo, hmc, hms, hnw⟩ := C
  subst hn0
  intro H locs ls hP hD hT hS hl
  exact lv_istore_n hx hb hdg hi hl hn hl' (fun ls hl => K H locs ls hP hD hT hS hl)
theorem J.istore (C : Cx X own cc n0 ret fr lo) {i : Nat} {x : Int32} {loc' : List (Nat × Value)} (hdg : decode cc pc = .ok (.istore i, 2)) (hn : i < n0) (hl' : (i, Value.int x) :: loc.filter (fun q => !(q.1 == i) && !(q.1 + 1 == i && q.2.category == 2)) = loc') (K : J X (pc + 2) loc' rest σ) : J X pc loc (.int x :: rest) σ := by
  obtain ⟨p, l, e, R, s, m, args, below, meth, c, D, cI, ad, A0, ks, nL, mc, ms, Q⟩ := X
  obtain ⟨hx, hb, hml, hn0, hr, hown, hts, hlocks, hK, hcl, hfr, hlo, hmc, hms, hnw⟩ := C
  subst hn0
  intro H locs ls hP hD hT hS hl
  exact lv_istore hx hb hdg hl hn hl' (fun ls hl => K H locs ls hP hD hT hS hl)
theorem J.lstore_n (C : Cx X own cc n0 ret fr lo) {k : Fin 4} {i : Nat} {x : Int64} {loc' : List (Nat × Value)} (hdg : decode cc pc = .ok (.lstore_n k, 1)) (hi : (k : Nat) = i) (hn : i + 1 < n0) (hl' : (i, Value.long x) :: loc.filter (fun q => !(q.1 == i) && (!(q.1 == i + 1) && !(q.1 + 1 == i && q.2.category == 2))) = loc') (K : J X (pc + 1) loc' rest σ) : J X pc loc (.long x :: rest) σ := by
  obtain ⟨p, l, e, R, s, m, args, below, meth, c, D, cI, ad, A0, ks, nL, mc, ms, Q⟩ := X
  obtain ⟨hx, hb, hml, hn0, hr, hown, hts, hlocks, hK, hcl, hfr, hlo, hmc, hms, hnw⟩ := C
  subst hn0
  intro H locs ls hP hD hT hS hl
  exact lv_lstore_n hx hb hdg hi hl hn hl' (fun ls hl => K H locs ls hP hD hT hS hl)
theorem J.lstore (C : Cx X own cc n0 ret fr lo) {i : Nat} {x : Int64} {loc' : List (Nat × Value)} (hdg : decode cc pc = .ok (.lstore i, 2)) (hn : i + 1 < n0) (hl' : (i, Value.long x) :: loc.filter (fun q => !(q.1 == i) && (!(q.1 == i + 1) && !(q.1 + 1 == i && q.2.category == 2))) = loc') (K : J X (pc + 2) loc' rest σ) : J X pc loc (.long x :: rest) σ := by
  obtain ⟨p, l, e, R, s, m, args, below, meth, c, D, cI, ad, A0, ks, nL, mc, ms, Q⟩ := X
  obtain ⟨hx, hb, hml, hn0, hr, hown, hts, hlocks, hK, hcl, hfr, hlo, hmc, hms, hnw⟩ := C
  subst hn0
  intro H locs ls hP hD hT hS hl
  exact lv_lstore hx hb hdg hl hn hl' (fun ls hl => K H locs ls hP hD hT hS hl)
theorem J.astore_n (C : Cx X own cc n0 ret fr lo) {k : Fin 4} {i : Nat} {x : Nat} {loc' : List (Nat × Value)} (hdg : decode cc pc = .ok (.astore_n k, 1)) (hi : (k : Nat) = i) (hn : i < n0) (hl' : (i, Value.ref x) :: loc.filter (fun q => !(q.1 == i) && !(q.1 + 1 == i && q.2.category == 2)) = loc') (K : J X (pc + 1) loc' rest σ) : J X pc loc (.ref x :: rest) σ := by
  obtain ⟨p, l, e, R, s, m, args, below, meth, c, D, cI, ad, A0, ks, nL, mc, ms, Q⟩ := X
  obtain ⟨hx, hb, hml, hn0, hr, hown, hts, hlocks, hK, hcl, hfr, hlo, hmc, hms, hnw⟩ := C
  subst hn0
  intro H locs ls hP hD hT hS hl
  exact lv_astore_n hx hb hdg hi hl hn hl' (fun ls hl => K H locs ls hP hD hT hS hl)
theorem J.astore (C : Cx X own cc n0 ret fr lo) {i : Nat} {x : Nat} {loc' : List (Nat × Value)} (hdg : decode cc pc = .ok (.astore i, 2)) (hn : i < n0) (hl' : (i, Value.ref x) :: loc.filter (fun q => !(q.1 == i) && !(q.1 + 1 == i && q.2.category == 2)) = loc') (K : J X (pc + 2) loc' rest σ) : J X pc loc (.ref x :: rest) σ := by
  obtain ⟨p, l, e, R, s, m, args, below, meth, c, D, cI, ad, A0, ks, nL, mc, ms, Q⟩ := X
  obtain ⟨hx, hb, hml, hn0, hr, hown, hts, hlocks, hK, hcl, hfr, hlo, hmc, hms, hnw⟩ := C
  subst hn0
  intro H locs ls hP hD hT hS hl
  exact lv_astore hx hb hdg hl hn hl' (fun ls hl => K H locs ls hP hD hT hS hl)
theorem J.iinc (C : Cx X own cc n0 ret fr lo) {i k : Nat} {n : Int} {x v : Int32} {loc' : List (Nat × Value)} (hdg : decode cc pc = .ok (.iinc i n, 3)) (hk : loc[k]? = some (i, .int x)) (hv : x + Int32.ofInt n = v) (hn : i < n0) (hl' : (i, Value.int v) :: loc.filter (fun q => !(q.1 == i) && !(q.1 + 1 == i && q.2.category == 2)) = loc') (K : J X (pc + 3) loc' rest σ) : J X pc loc rest σ := by
  obtain ⟨p, l, e, R, s, m, args, below, meth, c, D, cI, ad, A0, ks, nL, mc, ms, Q⟩ := X
  obtain ⟨hx, hb, hml, hn0, hr, hown, hts, hlocks, hK, hcl, hfr, hlo, hmc, hms, hnw⟩ := C
  subst hn0
  intro H locs ls hP hD hT hS hl
  exact lv_iinc hx hb hdg hl hk hv hn hl' (fun ls hl => K H locs ls hP hD hT hS hl)
theorem J.iadd (C : Cx X own cc n0 ret fr lo) {x y : Int32} (hdg : decode cc pc = .ok (.iadd, 1)) (K : J X (pc + 1) loc (.int (x + y) :: rest) σ) : J X pc loc (.int y :: .int x :: rest) σ := by
  obtain ⟨p, l, e, R, s, m, args, below, meth, c, D, cI, ad, A0, ks, nL, mc, ms, Q⟩ := X
  obtain ⟨hx, hb, hml, hn0, hr, hown, hts, hlocks, hK, hcl, hfr, hlo, hmc, hms, hnw⟩ := C
  intro H locs ls hP hD hT hS hl
  exact lv_iadd hx hb hdg (K H locs ls hP hD hT hS hl)
theorem J.isub (C : Cx X own cc n0 ret fr lo) {x y : Int32} (hdg : decode cc pc = .ok (.isub, 1)) (K : J X (pc + 1) loc (.int (x - y) :: rest) σ) : J X pc loc (.int y :: .int x :: rest) σ := by
  obtain ⟨p, l, e, R, s, m, args, below, meth, c, D, cI, ad, A0, ks, nL, mc, ms, Q⟩ := X
  obtain ⟨hx, hb, hml, hn0, hr, hown, hts, hlocks, hK, hcl, hfr, hlo, hmc, hms, hnw⟩ := C
  intro H locs ls hP hD hT hS hl
  exact lv_isub hx hb hdg (K H locs ls hP hD hT hS hl)
theorem J.imul (C : Cx X own cc n0 ret fr lo) {x y : Int32} (hdg : decode cc pc = .ok (.imul, 1)) (K : J X (pc + 1) loc (.int (x * y) :: rest) σ) : J X pc loc (.int y :: .int x :: rest) σ := by
  obtain ⟨p, l, e, R, s, m, args, below, meth, c, D, cI, ad, A0, ks, nL, mc, ms, Q⟩ := X
  obtain ⟨hx, hb, hml, hn0, hr, hown, hts, hlocks, hK, hcl, hfr, hlo, hmc, hms, hnw⟩ := C
  intro H locs ls hP hD hT hS hl
  exact lv_imul hx hb hdg (K H locs ls hP hD hT hS hl)
theorem J.iand (C : Cx X own cc n0 ret fr lo) {x y : Int32} (hdg : decode cc pc = .ok (.iand, 1)) (K : J X (pc + 1) loc (.int (x &&& y) :: rest) σ) : J X pc loc (.int y :: .int x :: rest) σ := by
  obtain ⟨p, l, e, R, s, m, args, below, meth, c, D, cI, ad, A0, ks, nL, mc, ms, Q⟩ := X
  obtain ⟨hx, hb, hml, hn0, hr, hown, hts, hlocks, hK, hcl, hfr, hlo, hmc, hms, hnw⟩ := C
  intro H locs ls hP hD hT hS hl
  exact lv_iand hx hb hdg (K H locs ls hP hD hT hS hl)
theorem J.ior (C : Cx X own cc n0 ret fr lo) {x y : Int32} (hdg : decode cc pc = .ok (.ior, 1)) (K : J X (pc + 1) loc (.int (x ||| y) :: rest) σ) : J X pc loc (.int y :: .int x :: rest) σ := by
  obtain ⟨p, l, e, R, s, m, args, below, meth, c, D, cI, ad, A0, ks, nL, mc, ms, Q⟩ := X
  obtain ⟨hx, hb, hml, hn0, hr, hown, hts, hlocks, hK, hcl, hfr, hlo, hmc, hms, hnw⟩ := C
  intro H locs ls hP hD hT hS hl
  exact lv_ior hx hb hdg (K H locs ls hP hD hT hS hl)
theorem J.ixor (C : Cx X own cc n0 ret fr lo) {x y : Int32} (hdg : decode cc pc = .ok (.ixor, 1)) (K : J X (pc + 1) loc (.int (x ^^^ y) :: rest) σ) : J X pc loc (.int y :: .int x :: rest) σ := by
  obtain ⟨p, l, e, R, s, m, args, below, meth, c, D, cI, ad, A0, ks, nL, mc, ms, Q⟩ := X
  obtain ⟨hx, hb, hml, hn0, hr, hown, hts, hlocks, hK, hcl, hfr, hlo, hmc, hms, hnw⟩ := C
  intro H locs ls hP hD hT hS hl
  exact lv_ixor hx hb hdg (K H locs ls hP hD hT hS hl)
theorem J.ishl (C : Cx X own cc n0 ret fr lo) {x y : Int32} (hdg : decode cc pc = .ok (.ishl, 1)) (K : J X (pc + 1) loc (.int (x <<< (y &&& 31)) :: rest) σ) : J X pc loc (.int y :: .int x :: rest) σ := by
  obtain ⟨p, l, e, R, s, m, args, below, meth, c, D, cI, ad, A0, ks, nL, mc, ms, Q⟩ := X
  obtain ⟨hx, hb, hml, hn0, hr, hown, hts, hlocks, hK, hcl, hfr, hlo, hmc, hms, hnw⟩ := C
  intro H locs ls hP hD hT hS hl
  exact lv_ishl hx hb hdg (K H locs ls hP hD hT hS hl)
theorem J.ishr (C : Cx X own cc n0 ret fr lo) {x y : Int32} (hdg : decode cc pc = .ok (.ishr, 1)) (K : J X (pc + 1) loc (.int (x >>> (y &&& 31)) :: rest) σ) : J X pc loc (.int y :: .int x :: rest) σ := by
  obtain ⟨p, l, e, R, s, m, args, below, meth, c, D, cI, ad, A0, ks, nL, mc, ms, Q⟩ := X
  obtain ⟨hx, hb, hml, hn0, hr, hown, hts, hlocks, hK, hcl, hfr, hlo, hmc, hms, hnw⟩ := C
  intro H locs ls hP hD hT hS hl
  exact lv_ishr hx hb hdg (K H locs ls hP hD hT hS hl)
theorem J.ladd (C : Cx X own cc n0 ret fr lo) {x y : Int64} (hdg : decode cc pc = .ok (.ladd, 1)) (K : J X (pc + 1) loc (.long (x + y) :: rest) σ) : J X pc loc (.long y :: .long x :: rest) σ := by
  obtain ⟨p, l, e, R, s, m, args, below, meth, c, D, cI, ad, A0, ks, nL, mc, ms, Q⟩ := X
  obtain ⟨hx, hb, hml, hn0, hr, hown, hts, hlocks, hK, hcl, hfr, hlo, hmc, hms, hnw⟩ := C
  intro H locs ls hP hD hT hS hl
  exact lv_ladd hx hb hdg (K H locs ls hP hD hT hS hl)
theorem J.lsub (C : Cx X own cc n0 ret fr lo) {x y : Int64} (hdg : decode cc pc = .ok (.lsub, 1)) (K : J X (pc + 1) loc (.long (x - y) :: rest) σ) : J X pc loc (.long y :: .long x :: rest) σ := by
  obtain ⟨p, l, e, R, s, m, args, below, meth, c, D, cI, ad, A0, ks, nL, mc, ms, Q⟩ := X
  obtain ⟨hx, hb, hml, hn0, hr, hown, hts, hlocks, hK, hcl, hfr, hlo, hmc, hms, hnw⟩ := C
  intro H locs ls hP hD hT hS hl
  exact lv_lsub hx hb hdg (K H locs ls hP hD hT hS hl)
theorem J.lmul (C : Cx X own cc n0 ret fr lo) {x y : Int64} (hdg : decode cc pc = .ok (.lmul, 1)) (K : J X (pc + 1) loc (.long (x * y) :: rest) σ) : J X pc loc (.long y :: .long x :: rest) σ := by
  obtain ⟨p, l, e, R, s, m, args, below, meth, c, D, cI, ad, A0, ks, nL, mc, ms, Q⟩ := X
  obtain ⟨hx, hb, hml, hn0, hr, hown, hts, hlocks, hK, hcl, hfr, hlo, hmc, hms, hnw⟩ := C
  intro H locs ls hP hD hT hS hl
  exact lv_lmul hx hb hdg (K H locs ls hP hD hT hS hl)
theorem J.lxor (C : Cx X own cc n0 ret fr lo) {x y : Int64} (hdg : decode cc pc = .ok (.lxor, 1)) (K : J X (pc + 1) loc (.long (x ^^^ y) :: rest) σ) : J X pc loc (.long y :: .long x :: rest) σ := by
  obtain ⟨p, l, e, R, s, m, args, below, meth, c, D, cI, ad, A0, ks, nL, mc, ms, Q⟩ := X
  obtain ⟨hx, hb, hml, hn0, hr, hown, hts, hlocks, hK, hcl, hfr, hlo, hmc, hms, hnw⟩ := C
  intro H locs ls hP hD hT hS hl
  exact lv_lxor hx hb hdg (K H locs ls hP hD hT hS hl)
theorem J.idiv (C : Cx X own cc n0 ret fr lo) {x y : Int32} (hdg : decode cc pc = .ok (.idiv, 1)) (hne : ¬ y = 0) (K : J X (pc + 1) loc (.int (x / y) :: rest) σ) : J X pc loc (.int y :: .int x :: rest) σ := by
  obtain ⟨p, l, e, R, s, m, args, below, meth, c, D, cI, ad, A0, ks, nL, mc, ms, Q⟩ := X
  obtain ⟨hx, hb, hml, hn0, hr, hown, hts, hlocks, hK, hcl, hfr, hlo, hmc, hms, hnw⟩ := C
  intro H locs ls hP hD hT hS hl
  exact lv_idiv hx hb hdg hne (K H locs ls hP hD hT hS hl)
theorem J.irem (C : Cx X own cc n0 ret fr lo) {x y : Int32} (hdg : decode cc pc = .ok (.irem, 1)) (hne : ¬ y = 0) (K : J X (pc + 1) loc (.int (x - x / y * y) :: rest) σ) : J X pc loc (.int y :: .int x :: rest) σ := by
  obtain ⟨p, l, e, R, s, m, args, below, meth, c, D, cI, ad, A0, ks, nL, mc, ms, Q⟩ := X
  obtain ⟨hx, hb, hml, hn0, hr, hown, hts, hlocks, hK, hcl, hfr, hlo, hmc, hms, hnw⟩ := C
  intro H locs ls hP hD hT hS hl
  exact lv_irem hx hb hdg hne (K H locs ls hP hD hT hS hl)
theorem J.ldiv (C : Cx X own cc n0 ret fr lo) {x y : Int64} (hdg : decode cc pc = .ok (.ldiv, 1)) (hne : ¬ y = 0) (K : J X (pc + 1) loc (.long (x / y) :: rest) σ) : J X pc loc (.long y :: .long x :: rest) σ := by
  obtain ⟨p, l, e, R, s, m, args, below, meth, c, D, cI, ad, A0, ks, nL, mc, ms, Q⟩ := X
  obtain ⟨hx, hb, hml, hn0, hr, hown, hts, hlocks, hK, hcl, hfr, hlo, hmc, hms, hnw⟩ := C
  intro H locs ls hP hD hT hS hl
  exact lv_ldiv hx hb hdg hne (K H locs ls hP hD hT hS hl)
theorem J.ineg (C : Cx X own cc n0 ret fr lo) {x : Int32} (hdg : decode cc pc = .ok (.ineg, 1)) (K : J X (pc + 1) loc (.int (-x) :: rest) σ) : J X pc loc (.int x :: rest) σ := by
  obtain ⟨p, l, e, R, s, m, args, below, meth, c, D, cI, ad, A0, ks, nL, mc, ms, Q⟩ := X
  obtain ⟨hx, hb, hml, hn0, hr, hown, hts, hlocks, hK, hcl, hfr, hlo, hmc, hms, hnw⟩ := C
  intro H locs ls hP hD hT hS hl
  exact lv_ineg hx hb hdg (K H locs ls hP hD hT hS hl)
theorem J.i2l (C : Cx X own cc n0 ret fr lo) {x : Int32} (hdg : decode cc pc = .ok (.i2l, 1)) (K : J X (pc + 1) loc (.long x.toInt64 :: rest) σ) : J X pc loc (.int x :: rest) σ := by
  obtain ⟨p, l, e, R, s, m, args, below, meth, c, D, cI, ad, A0, ks, nL, mc, ms, Q⟩ := X
  obtain ⟨hx, hb, hml, hn0, hr, hown, hts, hlocks, hK, hcl, hfr, hlo, hmc, hms, hnw⟩ := C
  intro H locs ls hP hD hT hS hl
  exact lv_i2l hx hb hdg rfl (K H locs ls hP hD hT hS hl)
theorem J.l2i (C : Cx X own cc n0 ret fr lo) {x : Int64} (hdg : decode cc pc = .ok (.l2i, 1)) (K : J X (pc + 1) loc (.int x.toInt32 :: rest) σ) : J X pc loc (.long x :: rest) σ := by
  obtain ⟨p, l, e, R, s, m, args, below, meth, c, D, cI, ad, A0, ks, nL, mc, ms, Q⟩ := X
  obtain ⟨hx, hb, hml, hn0, hr, hown, hts, hlocks, hK, hcl, hfr, hlo, hmc, hms, hnw⟩ := C
  intro H locs ls hP hD hT hS hl
  exact lv_l2i hx hb hdg rfl (K H locs ls hP hD hT hS hl)
theorem J.i2c (C : Cx X own cc n0 ret fr lo) {x : Int32} (hdg : decode cc pc = .ok (.i2c, 1)) (K : J X (pc + 1) loc (.int (x.toUInt32 % 65536).toInt32 :: rest) σ) : J X pc loc (.int x :: rest) σ := by
  obtain ⟨p, l, e, R, s, m, args, below, meth, c, D, cI, ad, A0, ks, nL, mc, ms, Q⟩ := X
  obtain ⟨hx, hb, hml, hn0, hr, hown, hts, hlocks, hK, hcl, hfr, hlo, hmc, hms, hnw⟩ := C
  intro H locs ls hP hD hT hS hl
  exact lv_i2c hx hb hdg rfl (K H locs ls hP hD hT hS hl)
theorem J.lcmp (C : Cx X own cc n0 ret fr lo) {x y : Int64} (hdg : decode cc pc = .ok (.lcmp, 1)) (K : J X (pc + 1) loc (.int (lg_cmp x y) :: rest) σ) : J X pc loc (.long y :: .long x :: rest) σ := by
  obtain ⟨p, l, e, R, s, m, args, below, meth, c, D, cI, ad, A0, ks, nL, mc, ms, Q⟩ := X
  obtain ⟨hx, hb, hml, hn0, hr, hown, hts, hlocks, hK, hcl, hfr, hlo, hmc, hms, hnw⟩ := C
  intro H locs ls hP hD hT hS hl
  exact W.lcmp hx hb hdg (K H locs ls hP hD hT hS hl)
theorem J.dup (C : Cx X own cc n0 ret fr lo) {v : Value} (hdg : decode cc pc = .ok (.dup, 1)) (hv : v.category = 1) (K : J X (pc + 1) loc (v :: v :: rest) σ) : J X pc loc (v :: rest) σ := by
  obtain ⟨p, l, e, R, s, m, args, below, meth, c, D, cI, ad, A0, ks, nL, mc, ms, Q⟩ := X
  obtain ⟨hx, hb, hml, hn0, hr, hown, hts, hlocks, hK, hcl, hfr, hlo, hmc, hms, hnw⟩ := C
  intro H locs ls hP hD hT hS hl
  exact lv_dup hx hb hdg hv (K H locs ls hP hD hT hS hl)
theorem J.pop (C : Cx X own cc n0 ret fr lo) {v : Value} (hdg : decode cc pc = .ok (.pop, 1)) (hv : v.category = 1) (K : J X (pc + 1) loc (rest) σ) : J X pc loc (v :: rest) σ := by
  obtain ⟨p, l, e, R, s, m, args, below, meth, c, D, cI, ad, A0, ks, nL, mc, ms, Q⟩ := X
  obtain ⟨hx, hb, hml, hn0, hr, hown, hts, hlocks, hK, hcl, hfr, hlo, hmc, hms, hnw⟩ := C
  intro H locs ls hP hD hT hS hl
  exact lv_pop hx hb hdg hv (K H locs ls hP hD hT hS hl)
theorem J.dup2 (C : Cx X own cc n0 ret fr lo) {va vb : Value} (hdg : decode cc pc = .ok (.dup2, 1)) (hva : va.category = 1) (hvb : vb.category = 1) (K : J X (pc + 1) loc (va :: vb :: va :: vb :: rest) σ) : J X pc loc (va :: vb :: rest) σ := by
  obtain ⟨p, l, e, R, s, m, args, below, meth, c, D, cI, ad, A0, ks, nL, mc, ms, Q⟩ := X
  obtain ⟨hx, hb, hml, hn0, hr, hown, hts, hlocks, hK, hcl, hfr, hlo, hmc, hms, hnw⟩ := C
  intro H locs ls hP hD hT hS hl
  exact lv_dup2_11 hx hb hdg hva hvb (K H locs ls hP hD hT hS hl)
theorem J.if_eq (C : Cx X own cc n0 ret fr lo) {τ : Type} {A B t : τ} {x : Int32} {off : Int} {tgt : Nat} (hdg : decode cc pc = .ok (.ifCond .eq off, 3)) (ht : (pc : Int) + off = (tgt : Int)) (hf : (if x = 0 then A else B) = t) (kt : A = t → J X tgt loc rest σ) (kf : B = t → J X (pc + 3) loc rest σ) : J X pc loc (.int x :: rest) σ := by
  obtain ⟨p, l, e, R, s, m, args, below, meth, c, D, cI, ad, A0, ks, nL, mc, ms, Q⟩ := X
  obtain ⟨hx, hb, hml, hn0, hr, hown, hts, hlocks, hK, hcl, hfr, hlo, hmc, hms, hnw⟩ := C
  intro H locs ls hP hD hT hS hl
  exact lv_if_eq hx hb hdg ht (fun h => kt (by rw [← hf, if_pos h]) H locs ls hP hD hT hS hl) (fun h => kf (by rw [← hf, if_neg h]) H locs ls hP hD hT hS hl)
theorem J.icmp_eq (C : Cx X own cc n0 ret fr lo) {τ : Type} {A B t : τ} {x y : Int32} {off : Int} {tgt : Nat} (hdg : decode cc pc = .ok (.if_icmp .eq off, 3)) (ht : (pc : Int) + off = (tgt : Int)) (hf : (if x = y then A else B) = t) (kt : A = t → J X tgt loc rest σ) (kf : B = t → J X (pc + 3) loc rest σ) : J X pc loc (.int y :: .int x :: rest) σ := by
  obtain ⟨p, l, e, R, s, m, args, below, meth, c, D, cI, ad, A0, ks, nL, mc, ms, Q⟩ := X
  obtain ⟨hx, hb, hml, hn0, hr, hown, hts, hlocks, hK, hcl, hfr, hlo, hmc, hms, hnw⟩ := C
  intro H locs ls hP hD hT hS hl
  exact lv_icmp_eq hx hb hdg ht (fun h => kt (by rw [← hf, if_pos h]) H locs ls hP hD hT hS hl) (fun h => kf (by rw [← hf, if_neg h]) H locs ls hP hD hT hS hl)
theorem J.if_ne (C : Cx X own cc n0 ret fr lo) {τ : Type} {A B t : τ} {x : Int32} {off : Int} {tgt : Nat} (hdg : decode cc pc = .ok (.ifCond .ne off, 3)) (ht : (pc : Int) + off = (tgt : Int)) (hf : (if x = 0 then A else B) = t) (kt : B = t → J X tgt loc rest σ) (kf : A = t → J X (pc + 3) loc rest σ) : J X pc loc (.int x :: rest) σ := by
  obtain ⟨p, l, e, R, s, m, args, below, meth, c, D, cI, ad, A0, ks, nL, mc, ms, Q⟩ := X
  obtain ⟨hx, hb, hml, hn0, hr, hown, hts, hlocks, hK, hcl, hfr, hlo, hmc, hms, hnw⟩ := C
  intro H locs ls hP hD hT hS hl
  exact lv_if_ne hx hb hdg ht (fun h => kt (by rw [← hf, if_neg h]) H locs ls hP hD hT hS hl) (fun h => kf (by rw [← hf, if_pos h]) H locs ls hP hD hT hS hl)
theorem J.icmp_ne (C : Cx X own cc n0 ret fr lo) {τ : Type} {A B t : τ} {x y : Int32} {off : Int} {tgt : Nat} (hdg : decode cc pc = .ok (.if_icmp .ne off, 3)) (ht : (pc : Int) + off = (tgt : Int)) (hf : (if x = y then A else B) = t) (kt : B = t → J X tgt loc rest σ) (kf : A = t → J X (pc + 3) loc rest σ) : J X pc loc (.int y :: .int x :: rest) σ := by
  obtain ⟨p, l, e, R, s, m, args, below, meth, c, D, cI, ad, A0, ks, nL, mc, ms, Q⟩ := X
  obtain ⟨hx, hb, hml, hn0, hr, hown, hts, hlocks, hK, hcl, hfr, hlo, hmc, hms, hnw⟩ := C
  intro H locs ls hP hD hT hS hl
  exact lv_icmp_ne hx hb hdg ht (fun h => kt (by rw [← hf, if_neg h]) H locs ls hP hD hT hS hl) (fun h => kf (by rw [← hf, if_pos h]) H locs ls hP hD hT hS hl)
theorem J.if_lt (C : Cx X own cc n0 ret fr lo) {τ : Type} {A B t : τ} {x : Int32} {off : Int} {tgt : Nat} (hdg : decode cc pc = .ok (.ifCond .lt off, 3)) (ht : (pc : Int) + off = (tgt : Int)) (hf : (if x < 0 then A else B) = t) (kt : A = t → J X tgt loc rest σ) (kf : B = t → J X (pc + 3) loc rest σ) : J X pc loc (.int x :: rest) σ := by
  obtain ⟨p, l, e, R, s, m, args, below, meth, c, D, cI, ad, A0, ks, nL, mc, ms, Q⟩ := X
  obtain ⟨hx, hb, hml, hn0, hr, hown, hts, hlocks, hK, hcl, hfr, hlo, hmc, hms, hnw⟩ := C
  intro H locs ls hP hD hT hS hl
  exact lv_if_lt hx hb hdg ht (fun h => kt (by rw [← hf, if_pos h]) H locs ls hP hD hT hS hl) (fun h => kf (by rw [← hf, if_neg h]) H locs ls hP hD hT hS hl)
theorem J.icmp_lt (C : Cx X own cc n0 ret fr lo) {τ : Type} {A B t : τ} {x y : Int32} {off : Int} {tgt : Nat} (hdg : decode cc pc = .ok (.if_icmp .lt off, 3)) (ht : (pc : Int) + off = (tgt : Int)) (hf : (if x < y then A else B) = t) (kt : A = t → J X tgt loc rest σ) (kf : B = t → J X (pc + 3) loc rest σ) : J X pc loc (.int y :: .int x :: rest) σ := by
  obtain ⟨p, l, e, R, s, m, args, below, meth, c, D, cI, ad, A0, ks, nL, mc, ms, Q⟩ := X
  obtain ⟨hx, hb, hml, hn0, hr, hown, hts, hlocks, hK, hcl, hfr, hlo, hmc, hms, hnw⟩ := C
  intro H locs ls hP hD hT hS hl
  exact lv_icmp_lt hx hb hdg ht (fun h => kt (by rw [← hf, if_pos h]) H locs ls hP hD hT hS hl) (fun h => kf (by rw [← hf, if_neg h]) H locs ls hP hD hT hS hl)
theorem J.if_ge (C : Cx X own cc n0 ret fr lo) {τ : Type} {A B t : τ} {x : Int32} {off : Int} {tgt : Nat} (hdg : decode cc pc = .ok (.ifCond .ge off, 3)) (ht : (pc : Int) + off = (tgt : Int)) (hf : (if 0 ≤ x then A else B) = t) (kt : A = t → J X tgt loc rest σ) (kf : B = t → J X (pc + 3) loc rest σ) : J X pc loc (.int x :: rest) σ := by
  obtain ⟨p, l, e, R, s, m, args, below, meth, c, D, cI, ad, A0, ks, nL, mc, ms, Q⟩ := X
  obtain ⟨hx, hb, hml, hn0, hr, hown, hts, hlocks, hK, hcl, hfr, hlo, hmc, hms, hnw⟩ := C
  intro H locs ls hP hD hT hS hl
  exact lv_if_ge hx hb hdg ht (fun h => kt (by rw [← hf, if_pos h]) H locs ls hP hD hT hS hl) (fun h => kf (by rw [← hf, if_neg h]) H locs ls hP hD hT hS hl)
theorem J.icmp_ge (C : Cx X own cc n0 ret fr lo) {τ : Type} {A B t : τ} {x y : Int32} {off : Int} {tgt : Nat} (hdg : decode cc pc = .ok (.if_icmp .ge off, 3)) (ht : (pc : Int) + off = (tgt : Int)) (hf : (if y ≤ x then A else B) = t) (kt : A = t → J X tgt loc rest σ) (kf : B = t → J X (pc + 3) loc rest σ) : J X pc loc (.int y :: .int x :: rest) σ := by
  obtain ⟨p, l, e, R, s, m, args, below, meth, c, D, cI, ad, A0, ks, nL, mc, ms, Q⟩ := X
  obtain ⟨hx, hb, hml, hn0, hr, hown, hts, hlocks, hK, hcl, hfr, hlo, hmc, hms, hnw⟩ := C
  intro H locs ls hP hD hT hS hl
  exact lv_icmp_ge hx hb hdg ht (fun h => kt (by rw [← hf, if_pos h]) H locs ls hP hD hT hS hl) (fun h => kf (by rw [← hf, if_neg h]) H locs ls hP hD hT hS hl)
theorem J.if_gt (C : Cx X own cc n0 ret fr lo) {τ : Type} {A B t : τ} {x : Int32} {off : Int} {tgt : Nat} (hdg : decode cc pc = .ok (.ifCond .gt off, 3)) (ht : (pc : Int) + off = (tgt : Int)) (hf : (if 0 < x then A else B) = t) (kt : A = t → J X tgt loc rest σ) (kf : B = t → J X (pc + 3) loc rest σ) : J X pc loc (.int x :: rest) σ := by
  obtain ⟨p, l, e, R, s, m, args, below, meth, c, D, cI, ad, A0, ks, nL, mc, ms, Q⟩ := X
  obtain ⟨hx, hb, hml, hn0, hr, hown, hts, hlocks, hK, hcl, hfr, hlo, hmc, hms, hnw⟩ := C
  intro H locs ls hP hD hT hS hl
  exact lv_if_gt hx hb hdg ht (fun h => kt (by rw [← hf, if_pos h]) H locs ls hP hD hT hS hl) (fun h => kf (by rw [← hf, if_neg h]) H locs ls hP hD hT hS hl)
theorem J.icmp_gt (C : Cx X own cc n0 ret fr lo) {τ : Type} {A B t : τ} {x y : Int32} {off : Int} {tgt : Nat} (hdg : decode cc pc = .ok (.if_icmp .gt off, 3)) (ht : (pc : Int) + off = (tgt : Int)) (hf : (if y < x then A else B) = t) (kt : A = t → J X tgt loc rest σ) (kf : B = t → J X (pc + 3) loc rest σ) : J X pc loc (.int y :: .int x :: rest) σ := by
  obtain ⟨p, l, e, R, s, m, args, below, meth, c, D, cI, ad, A0, ks, nL, mc, ms, Q⟩ := X
  obtain ⟨hx, hb, hml, hn0, hr, hown, hts, hlocks, hK, hcl, hfr, hlo, hmc, hms, hnw⟩ := C
  intro H locs ls hP hD hT hS hl
  exact lv_icmp_gt hx hb hdg ht (fun h => kt (by rw [← hf, if_pos h]) H locs ls hP hD hT hS hl) (fun h => kf (by rw [← hf, if_neg h]) H locs ls hP hD hT hS hl)
theorem J.if_le (C : Cx X own cc n0 ret fr lo) {τ : Type} {A B t : τ} {x : Int32} {off : Int} {tgt : Nat} (hdg : decode cc pc = .ok (.ifCond .le off, 3)) (ht : (pc : Int) + off = (tgt : Int)) (hf : (if x ≤ 0 then A else B) = t) (kt : A = t → J X tgt loc rest σ) (kf : B = t → J X (pc + 3) loc rest σ) : J X pc loc (.int x :: rest) σ := by
  obtain ⟨p, l, e, R, s, m, args, below, meth, c, D, cI, ad, A0, ks, nL, mc, ms, Q⟩ := X
  obtain ⟨hx, hb, hml, hn0, hr, hown, hts, hlocks, hK, hcl, hfr, hlo, hmc, hms, hnw⟩ := C
  intro H locs ls hP hD hT hS hl
  exact lv_if_le hx hb hdg ht (fun h => kt (by rw [← hf, if_pos h]) H locs ls hP hD hT hS hl) (fun h => kf (by rw [← hf, if_neg h]) H locs ls hP hD hT hS hl)
theorem J.icmp_le (C : Cx X own cc n0 ret fr lo) {τ : Type} {A B t : τ} {x y : Int32} {off : Int} {tgt : Nat} (hdg : decode cc pc = .ok (.if_icmp .le off, 3)) (ht : (pc : Int) + off = (tgt : Int)) (hf : (if x ≤ y then A else B) = t) (kt : A = t → J X tgt loc rest σ) (kf : B = t → J X (pc + 3) loc rest σ) : J X pc loc (.int y :: .int x :: rest) σ := by
  obtain ⟨p, l, e, R, s, m, args, below, meth, c, D, cI, ad, A0, ks, nL, mc, ms, Q⟩ := X
  obtain ⟨hx, hb, hml, hn0, hr, hown, hts, hlocks, hK, hcl, hfr, hlo, hmc, hms, hnw⟩ := C
  intro H locs ls hP hD hT hS hl
  exact lv_icmp_le hx hb hdg ht (fun h => kt (by rw [← hf, if_pos h]) H locs ls hP hD hT hS hl) (fun h => kf (by rw [← hf, if_neg h]) H locs ls hP hD hT hS hl)
theorem J.goto (C : Cx X own cc n0 ret fr lo) {off : Int} {tgt : Nat} (hdg : decode cc pc = .ok (.goto off, 3)) (ht : (pc : Int) + off = (tgt : Int)) (K : J X tgt loc rest σ) : J X pc loc rest σ := by
  obtain ⟨p, l, e, R, s, m, args, below, meth, c, D, cI, ad, A0, ks, nL, mc, ms, Q⟩ := X
  obtain ⟨hx, hb, hml, hn0, hr, hown, hts, hlocks, hK, hcl, hfr, hlo, hmc, hms, hnw⟩ := C
  intro H locs ls hP hD hT hS hl
  exact lv_goto hx hb hdg ht (K H locs ls hP hD hT hS hl)
/-- what the tables say of a class, by its number -/
def Kc (ci : Nat) (C : String) (T : u_T) (N : Nat) (ty : Nat → FieldType) : Prop := vwCl[ci]? = some (C, T, N) ∧ ci < 100 ∧ (∀ w ∈ u_ws C T N, w ∈ lw_g) ∧ (∀ k, k < N → parseFieldDescriptor (T k).2.2.1 = some (ty k)) ∧ (∀ a, a < N → ∀ b, b < N → a ≠ b → (T a).2.1 ≠ (T b).2.1) ∧ (fpat ci).length = N
theorem ce_obj {cI : Nat → ClassId} {ad : Nat → Nat} {σ : Mem} {k ci : Nat} (h : clsOf k = ci) (hc : ci < 100) : ce cI ad σ k = .inr (ci, fl (fun j => ad (ptr k j)) (σ k) (fpat ci) 0) := by
  subst h
  simp [ce, hc]
theorem ce_lng {cI : Nat → ClassId} {ad : Nat → Nat} {σ : Mem} {k : Nat} (h : clsOf k = 104) : ce cI ad σ k = .inl (cI 104, alen k, .inr (.inl (fun i => (σ k i).toInt64))) := by
  simp [ce, h]
theorem ce_arr {cI : Nat → ClassId} {ad : Nat → Nat} {σ : Mem} {k ci : Nat} (h : clsOf k = ci) (hc : ¬ ci < 100) (h4 : ¬ ci = 104) : ce cI ad σ k = .inl (cI ci, alen k, .inl (σ k)) := by
  subst h
  simp [ce, hc, h4]
theorem J.getR (C : Cx X own cc n0 ret fr lo) {ci N index : Nat} {Cn ref : String} {T : u_T} {ty : Nat → FieldType} (hk : Kc ci Cn T N ty) {k : Nat} (hok : Ok (Xks X) k ci) (j : Nat) (hj : (fpat ci)[j]? = some true) (hw : Cond.fieldLink own index ref (T j).2.1 (T j).2.2.1 ∈ lw_g) (href : (T j).1 = ref) (hdg : decode cc pc = .ok (.getfield index, 3)) (K : J X (pc + 3) loc (.ref (Xad X (ptr k j)) :: rest) σ) : J X pc loc (.ref (Xad X k) :: rest) σ := by
  obtain ⟨p, l, e, R, s, m, args, below, meth, c, D, cI, ad, A0, ks, nL, mc, ms, Q⟩ := X
  obtain ⟨hx, hb, hml, hn0, hr, hown, hts, hlocks, hK, hcl, hfr, hlo, hmc, hms, hnw⟩ := C
  obtain ⟨h1, h2, h3, h4, h5, h6⟩ := hk
  have hjN : j < N := by rw [← h6]; exact (List.getElem?_eq_some_iff.mp hj).1
  intro H locs ls hP hD hT hS hl
  obtain ⟨q, hq, he⟩ := wl_get cI ad σ hok.1
  rw [ce_obj hok.2 h2] at he
  refine va_get (D := D) hx hb hts h3 hown hK hP q he h1 j hjN (hts _ hw) (fun x hx => by rw [← href]; exact hx) (v := .ref (ad (ptr k j))) ?_ hdg (K H locs ls hP hD hT hS hl)
  rw [fl_ref _ _ _ _ _ hj, Nat.zero_add]
theorem J.getI (C : Cx X own cc n0 ret fr lo) {ci N index : Nat} {Cn ref : String} {T : u_T} {ty : Nat → FieldType} (hk : Kc ci Cn T N ty) {k : Nat} (hok : Ok (Xks X) k ci) (j : Nat) (hj : (fpat ci)[j]? = some false) (hw : Cond.fieldLink own index ref (T j).2.1 (T j).2.2.1 ∈ lw_g) (href : (T j).1 = ref) (hdg : decode cc pc = .ok (.getfield index, 3)) (K : J X (pc + 3) loc (.int (σ k j) :: rest) σ) : J X pc loc (.ref (Xad X k) :: rest) σ := by
  obtain ⟨p, l, e, R, s, m, args, below, meth, c, D, cI, ad, A0, ks, nL, mc, ms, Q⟩ := X
  obtain ⟨hx, hb, hml, hn0, hr, hown, hts, hlocks, hK, hcl, hfr, hlo, hmc, hms, hnw⟩ := C
  obtain ⟨h1, h2, h3, h4, h5, h6⟩ := hk
  have hjN : j < N := by rw [← h6]; exact (List.getElem?_eq_some_iff.mp hj).1
  intro H locs ls hP hD hT hS hl
  obtain ⟨q, hq, he⟩ := wl_get cI ad σ hok.1
  rw [ce_obj hok.2 h2] at he
  refine va_get (D := D) hx hb hts h3 hown hK hP q he h1 j hjN (hts _ hw) (fun x hx => by rw [← href]; exact hx) (v := .int (σ k j)) ?_ hdg (K H locs ls hP hD hT hS hl)
  rw [fl_int _ _ _ _ _ hj, Nat.zero_add]
theorem J.putI (C : Cx X own cc n0 ret fr lo) {ci N index : Nat} {Cn ref : String} {T : u_T} {ty : Nat → FieldType} (hk : Kc ci Cn T N ty) {k : Nat} (hok : Ok (Xks X) k ci) (j : Nat) (hj : (fpat ci)[j]? = some false) (hw : Cond.fieldLink own index ref (T j).2.1 (T j).2.2.1 ∈ lw_g) (href : (T j).1 = ref) (hfin : (T j).2.2.2 = false) {v : Int32} (hn : narrow (ty j) (.int v) = .int v) (hfit : fits (ty j) (.int v) = true) (hdg : decode cc pc = .ok (.putfield index, 3)) (K : J X (pc + 3) loc rest (gput σ k (upd (σ k) j v))) : J X pc loc (.int v :: .ref (Xad X k) :: rest) σ := by
  obtain ⟨p, l, e, R, s, m, args, below, meth, c, D, cI, ad, A0, ks, nL, mc, ms, Q⟩ := X
  obtain ⟨hx, hb, hml, hn0, hr, hown, hts, hlocks, hK, hcl, hfr, hlo, hmc, hms, hnw⟩ := C
  obtain ⟨h1, h2, h3, h4, h5, h6⟩ := hk
  have hjN : j < N := by rw [← h6]; exact (List.getElem?_eq_some_iff.mp hj).1
  intro H locs ls hP hD hT hS hl
  obtain ⟨q, hq, he⟩ := wl_get cI ad σ hok.1
  have hset := wl_set hD hq (upd (σ k) j v)
  rw [ce_obj hok.2 h2, gput_s] at hset
  rw [ce_obj hok.2 h2] at he
  have hfs : (fl (fun j => ad (ptr k j)) (σ k) (fpat ci) 0).set j (.int v) = fl (fun j => ad (ptr k j)) (upd (σ k) j v) (fpat ci) 0 := by
    have := fl_set (fun j => ad (ptr k j)) (σ k) v (fpat ci) 0 j hj
    rw [Nat.zero_add] at this
    exact this
  refine va_put (D := D) hx hb hts h3 ty h4 h5 hown hK hP hD hS q he h1 j hjN (hts _ hw) (fun x hx => by rw [← href]; exact hx) hfin (h4 j hjN) hn hfit (by rw [fl_len, h6]; exact hjN) hdg (fun H1 locs1 hP1 hD1 hS1 => ?_)
  rw [hfs, hset] at hP1 hD1
  exact K H1 locs1 ls hP1 hD1 (hT.put (by rw [hok.2]; omega) _) hS1 hl
/-- an index that is in a row -/
def ckI (i : Int32) (n : Nat) : Bool := decide (0 ≤ i.toInt ∧ i.toInt < (n : Int))
theorem ckI_in {i : Int32} {n : Nat} (h : ckI i n = true) : vp_in i n := vp_in_iff.mpr (by simpa [ckI] using h)
def chk {τ : Type} (b : Bool) (e : Option τ) : Option τ := if b then e else none
theorem chk_some {τ : Type} {b : Bool} {e : Option τ} {t : τ} (h : chk b e = some t) : b = true ∧ e = some t := by
  cases b
  · simp [chk] at h
  · exact ⟨rfl, h⟩
def ix (i : Int32) : Nat := i.toNatClampNeg
theorem J.iald (C : Cx X own cc n0 ret fr lo) {τ : Type} {e : Option τ} {t : τ} {k : Nat} (hok : Ok (Xks X) k 100) {i : Int32} (hf : chk (ckI i (alen k)) e = some t) (hdg : decode cc pc = .ok (.iaload, 1)) (K : e = some t → J X (pc + 1) loc (.int (σ k (ix i)) :: rest) σ) : J X pc loc (.int i :: .ref (Xad X k) :: rest) σ := by
  obtain ⟨p, l, e, R, s, m, args, below, meth, c, D, cI, ad, A0, ks, nL, mc, ms, Q⟩ := X
  obtain ⟨hx, hb, hml, hn0, hr, hown, hts, hlocks, hK, hcl, hfr, hlo, hmc, hms, hnw⟩ := C
  intro H locs ls hP hD hT hS hl
  obtain ⟨hin, hf⟩ := chk_some hf
  obtain ⟨q, hq, he⟩ := wl_get cI ad σ hok.1
  rw [ce_arr hok.2 (by decide) (by decide)] at he
  exact va_iald hx hb hK hP q 0 he rfl (ckI_in hin) hdg (K hf H locs ls hP hD hT hS hl)
theorem J.cald (C : Cx X own cc n0 ret fr lo) {τ : Type} {e : Option τ} {t : τ} {k : Nat} (hok : Ok (Xks X) k 102) {i : Int32} (hf : chk (ckI i (alen k)) e = some t) (hdg : decode cc pc = .ok (.caload, 1)) (K : e = some t → J X (pc + 1) loc (.int (σ k (ix i)) :: rest) σ) : J X pc loc (.int i :: .ref (Xad X k) :: rest) σ := by
  obtain ⟨p, l, e, R, s, m, args, below, meth, c, D, cI, ad, A0, ks, nL, mc, ms, Q⟩ := X
  obtain ⟨hx, hb, hml, hn0, hr, hown, hts, hlocks, hK, hcl, hfr, hlo, hmc, hms, hnw⟩ := C
  intro H locs ls hP hD hT hS hl
  obtain ⟨hin, hf⟩ := chk_some hf
  obtain ⟨q, hq, he⟩ := wl_get cI ad σ hok.1
  rw [ce_arr hok.2 (by decide) (by decide)] at he
  exact va_cald hx hb hK hP q 1 he rfl (ckI_in hin) hdg (K hf H locs ls hP hD hT hS hl)
/-- of a static row -/
theorem J.sald (C : Cx X own cc n0 ret fr lo) {τ : Type} {e : Option τ} {t : τ} {k : Nat} (hok : clsOf k = 103) {i : Int32} (hf : chk (ckI i (alen k)) e = some t) (hdg : decode cc pc = .ok (.iaload, 1)) (K : e = some t → J X (pc + 1) loc (.int (σ k (ix i)) :: rest) σ) : J X pc loc (.int i :: .ref (Xad X k) :: rest) σ := by
  obtain ⟨p, l, e, R, s, m, args, below, meth, c, D, cI, ad, A0, ks, nL, mc, ms, Q⟩ := X
  obtain ⟨hx, hb, hml, hn0, hr, hown, hts, hlocks, hK, hcl, hfr, hlo, hmc, hms, hnw⟩ := C
  intro H locs ls hP hD hT hS hl
  obtain ⟨hin, hf⟩ := chk_some hf
  exact va_ti hx hb (hT k hok) hS (ckI_in hin) rfl hdg (K hf H locs ls hP hD hT hS hl)
theorem J.arrlen (C : Cx X own cc n0 ret fr lo) {k : Nat} (hok : Ok (Xks X) k 100) (hdg : decode cc pc = .ok (.arraylength, 1)) (K : J X (pc + 1) loc (.int (Int32.ofNat (alen k)) :: rest) σ) : J X pc loc (.ref (Xad X k) :: rest) σ := by
  obtain ⟨p, l, e, R, s, m, args, below, meth, c, D, cI, ad, A0, ks, nL, mc, ms, Q⟩ := X
  obtain ⟨hx, hb, hml, hn0, hr, hown, hts, hlocks, hK, hcl, hfr, hlo, hmc, hms, hnw⟩ := C
  intro H locs ls hP hD hT hS hl
  obtain ⟨q, hq, he⟩ := wl_get cI ad σ hok.1
  rw [ce_arr hok.2 (by decide) (by decide)] at he
  exact va_alen hx hb hK hP q 0 he (ty := .int) rfl rfl hdg (K H locs ls hP hD hT hS hl)
theorem J.srrlen (C : Cx X own cc n0 ret fr lo) {k : Nat} (hok : clsOf k = 103) (hdg : decode cc pc = .ok (.arraylength, 1)) (K : J X (pc + 1) loc (.int (Int32.ofNat (alen k)) :: rest) σ) : J X pc loc (.ref (Xad X k) :: rest) σ := by
  obtain ⟨p, l, e, R, s, m, args, below, meth, c, D, cI, ad, A0, ks, nL, mc, ms, Q⟩ := X
  obtain ⟨hx, hb, hml, hn0, hr, hown, hts, hlocks, hK, hcl, hfr, hlo, hmc, hms, hnw⟩ := C
  intro H locs ls hP hD hT hS hl
  exact va_tlen hx hb (hT k hok) hS rfl hdg (K H locs ls hP hD hT hS hl)

theorem J.iast (C : Cx X own cc n0 ret fr lo) {τ : Type} {e : Option τ} {t : τ} {k : Nat} (hok : Ok (Xks X) k 100) {i x : Int32} (hf : chk (ckI i (alen k)) e = some t) (hdg : decode cc pc = .ok (.iastore, 1)) (K : e = some t → J X (pc + 1) loc rest (gput σ k (upd (σ k) (ix i) x))) : J X pc loc (.int x :: .int i :: .ref (Xad X k) :: rest) σ := by
  obtain ⟨p, l, e, R, s, m, args, below, meth, c, D, cI, ad, A0, ks, nL, mc, ms, Q⟩ := X
  obtain ⟨hx, hb, hml, hn0, hr, hown, hts, hlocks, hK, hcl, hfr, hlo, hmc, hms, hnw⟩ := C
  intro H locs ls hP hD hT hS hl
  obtain ⟨hin, hf⟩ := chk_some hf
  obtain ⟨q, hq, he⟩ := wl_get cI ad σ hok.1
  have hset := wl_set hD hq (upd (σ k) (ix i) x)
  rw [ce_arr hok.2 (by decide) (by decide), gput_s] at hset
  rw [ce_arr hok.2 (by decide) (by decide)] at he
  refine va_iast hx hb hK hP hD hS q 0 he rfl (ckI_in hin) hdg (fun H1 locs1 hP1 hD1 hS1 => ?_)
  have hP1 : va_P D vwCl ((wl cI ad σ ks).set q (ad k, .inl (cI 100, alen k, .inl (upd (σ k) (ix i) x)))) H1 := hP1
  have hD1 : va_D A0 ((wl cI ad σ ks).set q (ad k, .inl (cI 100, alen k, .inl (upd (σ k) (ix i) x)))) := hD1
  rw [hset] at hP1 hD1
  exact K hf H1 locs1 ls hP1 hD1 (hT.put (by rw [hok.2]; decide) _) hS1 hl
theorem J.cast (C : Cx X own cc n0 ret fr lo) {τ : Type} {e : Option τ} {t : τ} {k : Nat} (hok : Ok (Xks X) k 102) {i x : Int32} (hf : chk (ckI i (alen k)) e = some t) (hdg : decode cc pc = .ok (.castore, 1)) (K : e = some t → J X (pc + 1) loc rest (gput σ k (upd (σ k) (ix i) (vp_nar .char x)))) : J X pc loc (.int x :: .int i :: .ref (Xad X k) :: rest) σ := by
  obtain ⟨p, l, e, R, s, m, args, below, meth, c, D, cI, ad, A0, ks, nL, mc, ms, Q⟩ := X
  obtain ⟨hx, hb, hml, hn0, hr, hown, hts, hlocks, hK, hcl, hfr, hlo, hmc, hms, hnw⟩ := C
  intro H locs ls hP hD hT hS hl
  obtain ⟨hin, hf⟩ := chk_some hf
  obtain ⟨q, hq, he⟩ := wl_get cI ad σ hok.1
  have hset := wl_set hD hq (upd (σ k) (ix i) (vp_nar .char x))
  rw [ce_arr hok.2 (by decide) (by decide), gput_s] at hset
  rw [ce_arr hok.2 (by decide) (by decide)] at he
  refine va_cast hx hb hK hP hD hS q 1 he rfl (ckI_in hin) hdg (fun H1 locs1 hP1 hD1 hS1 => ?_)
  have hP1 : va_P D vwCl ((wl cI ad σ ks).set q (ad k, .inl (cI 102, alen k, .inl (upd (σ k) (ix i) (vp_nar .char x))))) H1 := hP1
  have hD1 : va_D A0 ((wl cI ad σ ks).set q (ad k, .inl (cI 102, alen k, .inl (upd (σ k) (ix i) (vp_nar .char x))))) := hD1
  rw [hset] at hP1 hD1
  exact K hf H1 locs1 ls hP1 hD1 (hT.put (by rw [hok.2]; decide) _) hS1 hl
theorem J.lald (C : Cx X own cc n0 ret fr lo) {τ : Type} {e : Option τ} {t : τ} {k : Nat} (hok : Ok (Xks X) k 104) {i : Int32} (hf : chk (ckI i (alen k)) e = some t) (hdg : decode cc pc = .ok (.laload, 1)) (K : e = some t → J X (pc + 1) loc (.long (σ k (ix i)).toInt64 :: rest) σ) : J X pc loc (.int i :: .ref (Xad X k) :: rest) σ := by
  obtain ⟨p, l, e, R, s, m, args, below, meth, c, D, cI, ad, A0, ks, nL, mc, ms, Q⟩ := X
  obtain ⟨hx, hb, hml, hn0, hr, hown, hts, hlocks, hK, hcl, hfr, hlo, hmc, hms, hnw⟩ := C
  intro H locs ls hP hD hT hS hl
  obtain ⟨hin, hf⟩ := chk_some hf
  obtain ⟨q, hq, he⟩ := wl_get cI ad σ hok.1
  rw [ce_lng hok.2] at he
  exact va_lald hx hb hK hP q 2 he rfl (ckI_in hin) hdg (K hf H locs ls hP hD hT hS hl)
/-- a long that an int holds -/
def fit32 (x : Int64) : Bool := decide (x.toInt32.toInt64 = x)
theorem updL_fit {f : Nat → Int32} {i : Nat} {x : Int64} (h : fit32 x = true) : (fun j => (upd f i x.toInt32 j).toInt64) = vp_updL (fun j => (f j).toInt64) i x := by
  have h := of_decide_eq_true h
  funext j
  unfold upd vp_updL
  by_cases q : j = i <;> simp [q, h]
theorem J.last (C : Cx X own cc n0 ret fr lo) {τ : Type} {e : Option τ} {t : τ} {k : Nat} (hok : Ok (Xks X) k 104) {i : Int32} {x : Int64} (hf : chk (ckI i (alen k)) (chk (fit32 x) e) = some t) (hdg : decode cc pc = .ok (.lastore, 1)) (K : e = some t → J X (pc + 1) loc rest (gput σ k (upd (σ k) (ix i) x.toInt32))) : J X pc loc (.long x :: .int i :: .ref (Xad X k) :: rest) σ := by
  obtain ⟨p, l, e, R, s, m, args, below, meth, c, D, cI, ad, A0, ks, nL, mc, ms, Q⟩ := X
  obtain ⟨hx, hb, hml, hn0, hr, hown, hts, hlocks, hK, hcl, hfr, hlo, hmc, hms, hnw⟩ := C
  intro H locs ls hP hD hT hS hl
  obtain ⟨hin, hf⟩ := chk_some hf
  obtain ⟨hft, hf⟩ := chk_some hf
  obtain ⟨q, hq, he⟩ := wl_get cI ad σ hok.1
  have hset := wl_set hD hq (upd (σ k) (ix i) x.toInt32)
  rw [ce_lng hok.2, gput_s, updL_fit hft] at hset
  rw [ce_lng hok.2] at he
  refine va_last hx hb hK hP hD hS q 2 he rfl (ckI_in hin) hdg (fun H1 locs1 hP1 hD1 hS1 => ?_)
  have hP1 : va_P D vwCl ((wl cI ad σ ks).set q (ad k, .inl (cI 104, alen k, .inr (.inl (vp_updL (fun j => (σ k j).toInt64) (ix i) x))))) H1 := hP1
  have hD1 : va_D A0 ((wl cI ad σ ks).set q (ad k, .inl (cI 104, alen k, .inr (.inl (vp_updL (fun j => (σ k j).toInt64) (ix i) x))))) := hD1
  rw [hset] at hP1 hD1
  exact K hf H1 locs1 ls hP1 hD1 (hT.put (by rw [hok.2]; decide) _) hS1 hl
/-- a loop: its body goes on (inr) or goes out (inl) -/
def iter {S R : Type} (body : S → Option (R ⊕ S)) : Nat → S → Option R
  | 0, _ => none
  | n + 1, s => match body s with
    | none => none
    | some (.inl r) => some r
    | some (.inr s') => iter body n s'
theorem J_iter {S R : Type} {body : S → Option (R ⊕ S)} {JJ : S → Prop} {Ps : R → Prop} (hb : ∀ s t, body s = some t → (∀ r, t = .inl r → Ps r) → (∀ s', t = .inr s' → JJ s') → JJ s) : ∀ (n : Nat) (s : S) (r : R), iter body n s = some r → Ps r → JJ s := by
  intro n
  induction n with
  | zero => intro s r h; simp [iter] at h
  | succ n ih =>
    intro s r h hp
    rw [iter] at h
    cases hbs : body s with
    | none => rw [hbs] at h; cases h
    | some t =>
      rw [hbs] at h
      refine hb s t hbs ?_ ?_
      · intro r' e
        subst e
        cases h
        exact hp
      · intro s' e
        subst e
        exact ih s' r h hp
/-- ends -/
theorem J.iret (C : Cx X own cc n0 (some .int) fr lo) {v r : Int32} {σ' : Mem} (hR : Rt X (some (.int r)) σ') (hv : v = r) (hs : σ = σ') (hdg : decode cc pc = .ok (.ireturn, 1)) : J X pc loc [.int v] σ := by
  subst hv
  subst hs
  obtain ⟨p, l, e, R, s, m, args, below, meth, c, D, cI, ad, A0, ks, nL, mc, ms, Q⟩ := X
  obtain ⟨hx, hb, hml, hn0, hr, hown, hts, hlocks, hK, hcl, hfr, hlo, hmc, hms, hnw⟩ := C
  intro H locs ls hP hD hT hS hl
  show W _ _ _ _ _ _ _ _ _ _ _ _ _ _ Q _
  rw [show Q = _ from hR]
  exact W.iret hx hb hr (fun t ht hW => ⟨rfl, ⟨va_K.moved hW.alike hK, by rw [ht]; exact hP, hD, hT.out hS ht hW.alike⟩, hS.F ht⟩) hS.2.2 hdg hlocks
theorem J.zret {rt : FieldType} (C : Cx X own cc n0 (some rt) fr lo) {v r : Int32} {σ' : Mem} (hn : narrow rt (.int v) = .int v) (hR : Rt X (some (.int r)) σ') (hv : v = r) (hs : σ = σ') (hdg : decode cc pc = .ok (.ireturn, 1)) : J X pc loc [.int v] σ := by
  subst hv
  subst hs
  obtain ⟨p, l, e, R, s, m, args, below, meth, c, D, cI, ad, A0, ks, nL, mc, ms, Q⟩ := X
  obtain ⟨hx, hb, hml, hn0, hr, hown, hts, hlocks, hK, hcl, hfr, hlo, hmc, hms, hnw⟩ := C
  intro H locs ls hP hD hT hS hl
  show W _ _ _ _ _ _ _ _ _ _ _ _ _ _ Q _
  rw [show Q = _ from hR]
  exact W.zret hx hb hr hn (fun t ht hW => ⟨rfl, ⟨va_K.moved hW.alike hK, by rw [ht]; exact hP, hD, hT.out hS ht hW.alike⟩, hS.F ht⟩) hS.2.2 hdg hlocks
theorem J.lret (C : Cx X own cc n0 (some .long) fr lo) {v r : Int64} {σ' : Mem} (hR : Rt X (some (.long r)) σ') (hv : v = r) (hs : σ = σ') (hdg : decode cc pc = .ok (.lreturn, 1)) : J X pc loc [.long v] σ := by
  subst hv
  subst hs
  obtain ⟨p, l, e, R, s, m, args, below, meth, c, D, cI, ad, A0, ks, nL, mc, ms, Q⟩ := X
  obtain ⟨hx, hb, hml, hn0, hr, hown, hts, hlocks, hK, hcl, hfr, hlo, hmc, hms, hnw⟩ := C
  intro H locs ls hP hD hT hS hl
  show W _ _ _ _ _ _ _ _ _ _ _ _ _ _ Q _
  rw [show Q = _ from hR]
  exact W.lret hx hb hr (fun t ht hW => ⟨rfl, ⟨va_K.moved hW.alike hK, by rw [ht]; exact hP, hD, hT.out hS ht hW.alike⟩, hS.F ht⟩) hS.2.2 hdg hlocks
theorem J.vret (C : Cx X own cc n0 none fr lo) {σ' : Mem} (hR : Rt X none σ') (hs : σ = σ') (hdg : decode cc pc = .ok (.return_, 1)) : J X pc loc [] σ := by
  subst hs
  obtain ⟨p, l, e, R, s, m, args, below, meth, c, D, cI, ad, A0, ks, nL, mc, ms, Q⟩ := X
  obtain ⟨hx, hb, hml, hn0, hr, hown, hts, hlocks, hK, hcl, hfr, hlo, hmc, hms, hnw⟩ := C
  intro H locs ls hP hD hT hS hl
  show W _ _ _ _ _ _ _ _ _ _ _ _ _ _ Q _
  rw [show Q = _ from hR]
  exact W.vret hx hb hr (fun t ht hW => ⟨rfl, ⟨va_K.moved hW.alike hK, by rw [ht]; exact hP, hD, hT.out hS ht hW.alike⟩, hS.F ht⟩) hS.2.2 hdg hlocks

/-- what the tables say of a method that is called, but the place that calls it -/
def Wy (y : MethodName) (cc : ByteArray) (nL : Nat) (ret : Option FieldType) (n : Nat) : Prop := Cond.code y cc nL ret ∈ lw_g ∧ Cond.initialized y.cls ∈ lw_g ∧ (y.cls ≠ "java/lang/invoke/MethodHandle" ∧ y.cls ≠ "java/lang/invoke/VarHandle" ∧ (parseMethodDescriptor y.desc).map (fun d => d.parameters.length) = some n)
theorem PcBlind {D : va_G} {cI : Nat → ClassId} {ad : Nat → Nat} {A0 : Nat → Prop} {ks : List Nat} {σ : Mem} {av : List Value} : FrameBlind (va_Pc av (fun U => Wx D cI ad A0 ks σ U ∧ Nw U)) := fun a U g mk h => ⟨h.1, Wx.moved (u := U) (U := U.calling g mk a) (Vm.Alike.refl U.vm) rfl h.2.1, Nw.same (u := U) (U := U.calling g mk a) rfl h.2.2⟩
theorem J_run {p : Program} {l : Launch} {e : Env} {R : Room} {s : State} {m : MethodId} {args : Array Value} {below : List Frame} {meth : Method} {c : Code} {D : va_G} {cI : Nat → ClassId} {ad : Nat → Nat} {A0 : Nat → Prop} {ks : List Nat} {nL mc ms : Nat} {Q : State → Prop} {H : Heap} {locs : List Loc} {ls : Array Slot} {o : Option Value} {σ' : Mem} {a : Array Value} {stk' : List Value}
    (hr : va_Run p l e R s m args below meth c H locs mc ms 0 0 (F0 m pc ls stk) rest (QcOf D cI ad A0 ks o σ' a) A0) (hT : Ws ad A0 σ s) (hS : va_S A0 s.heap H locs) (hl : lv_has ls nL loc) (hst : o.toList ++ rest = stk')
    (K : J (p, l, e, R, s, m, args, below, meth, c, D, cI, ad, A0, ks, nL, mc, ms, Q) (pc + 3) loc stk' σ') : W p l e R s m args below meth c H locs mc ms Q (F0 m pc ls stk) := by
  intro T hTT X
  obtain ⟨v, st₀, t, T', L, h0, X', hL, e1, e2, ⟨hv, ⟨-, hP1, hD1, hT1⟩, hz, hk⟩, st⟩ := hr T hTT X
  cases hv
  rw [h0] at hz hk
  subst hst
  have hT' : Ws ad A0 σ' s := hT.back hT1 (fun q h1 h2 => by rw [hk q (Nat.lt_of_lt_of_le h1 hS.1) h2]; exact hS.2.1 q h1 h2)
  obtain ⟨t2, a1, b1⟩ := K T'.heap (locs ++ L) ls (by rw [e1]; exact hP1) hD1 hT' ⟨Nat.le_trans hS.1 (by rw [e1]; exact hz), fun q h1 h2 => by rw [e1, hk q (Nat.lt_of_lt_of_le h1 hS.1) h2]; exact hS.2.1 q h1 h2, fun q hq => by
      rcases List.mem_append.mp hq with h | h
      · exact hS.2.2 q h
      · exact hL q h⟩ hl T' rfl X'
  exact ⟨t2, st t2 a1, b1⟩

theorem J.callV (C : Cx X own cc n0 ret fr lo) {y : MethodName} {cc' : ByteArray} {nL' fr' lo' n : Nat} {ret' : Option FieldType} {ok : List Nat → Prop} {as : (Nat → Nat) → List Value} {o : (Nat → Nat) → Option Value} {σ' : Mem} (hM : Ct (Xl X) y cc' nL' ret' fr' lo' ok as σ o σ') (hok : ok (Xks X)) (wy : Wy y cc' nL' ret' n) (hin : Cond.instanceMethod y ∈ lw_g) (hsel : Cond.selects y.cls y y ∈ lw_g) {idx : Nat} (hlink : Cond.methodLink own idx y ∈ lw_g) {ci N : Nat} {Cn : String} {T : u_T} {ty : Nat → FieldType} (hkc : Kc ci Cn T N ty) (hCn : y.cls = Cn) {k : Nat} (hk : Ok (Xks X) k ci) (As rest : List Value) (has : as (Xad X) = .ref (Xad X k) :: As) (hn : As.length = n) (hcat : (rest.map fun v => v.category).sum ≤ 8) (hfr' : fr' + 1 ≤ fr) (hlo' : 8 + (nL' + 11) + lo' ≤ lo) {stk stk' : List Value} (hst : stk = As.reverse ++ .ref (Xad X k) :: rest) (hdg : decode cc pc = .ok (.invokevirtual idx, 3)) (hst' : (o (Xad X)).toList ++ rest = stk') (K : J X (pc + 3) loc stk' σ') : J X pc loc stk σ := by
  obtain ⟨p, l, e, R, s, m, args, below, meth, c, D, cI, ad, A0, ks, nL, mc, ms, Q⟩ := X
  obtain ⟨hx, hb, hml, hn0, hr, hown, hts, hlocks, hK, hcl, hfr, hlo, hmc, hms, hnw⟩ := C
  intro H locs ls hP hD hT hS hl
  obtain ⟨q, hq, he⟩ := wl_get cI ad σ hk.1
  rw [ce_obj hk.2 hkc.2.1] at he
  have hrc : ∃ cellB : Cell, H[ad k]? = some cellB ∧ cellB.vm.isStatics = false ∧ s.vm.findClass y.cls = some cellB.cls := by rw [hCn]; exact va_recv hK hP hkc.1 he
  exact J_run (va_runV ⟨hx, hb, hml, hown, hts⟩ (hM D cI ad A0 ks hcl hok) ⟨⟨rfl, rfl, Nat.le_trans hfr' hfr, Nat.le_trans hlo' hlo, pay_in hts (tblIn wy.1), List.mem_cons_self, hts _ wy.1, hts _ wy.2.1, ⟨wy.2.2.1, wy.2.2.2.1⟩, fun sig h => by have h2 := wy.2.2.2.2; rw [h] at h2; exact (Option.some.inj h2).symm, hts _ hlink⟩, hts _ hin, hts _ hsel⟩ ⟨PcBlind, hrc, fun U hU hW => ⟨by have := has; dsimp only [Xad] at this; rw [this], ⟨va_K.moved hW.alike hK, by rw [hU]; exact hP, hD, hT.out hS hU hW.alike⟩, hnw.warm hW⟩⟩ rfl hn hl.1 hst (lv_room hcat) hdg ⟨hmc, hms⟩) hT hS hl hst' K
theorem J.callS (C : Cx X own cc n0 ret fr lo) {y : MethodName} {cc' : ByteArray} {nL' fr' lo' n : Nat} {ret' : Option FieldType} {ok : List Nat → Prop} {as : (Nat → Nat) → List Value} {o : (Nat → Nat) → Option Value} {σ' : Mem} (hM : Ct (Xl X) y cc' nL' ret' fr' lo' ok as σ o σ') (hok : ok (Xks X)) (wy : Wy y cc' nL' ret' n) (hin : Cond.static y ∈ lw_g) {idx : Nat} (hlink : Cond.methodLink own idx y ∈ lw_g) (As rest : List Value) (has : as (Xad X) = As) (hn : As.length = n) (hcat : (rest.map fun v => v.category).sum ≤ 8) (hfr' : fr' + 1 ≤ fr) (hlo' : 8 + (nL' + 11) + lo' ≤ lo) {stk stk' : List Value} (hst : stk = As.reverse ++ rest) (hdg : decode cc pc = .ok (.invokestatic idx, 3)) (hst' : (o (Xad X)).toList ++ rest = stk') (K : J X (pc + 3) loc stk' σ') : J X pc loc stk σ := by
  obtain ⟨p, l, e, R, s, m, args, below, meth, c, D, cI, ad, A0, ks, nL, mc, ms, Q⟩ := X
  obtain ⟨hx, hb, hml, hn0, hr, hown, hts, hlocks, hK, hcl, hfr, hlo, hmc, hms, hnw⟩ := C
  intro H locs ls hP hD hT hS hl
  exact J_run (va_runS ⟨hx, hb, hml, hown, hts⟩ (hM D cI ad A0 ks hcl hok) ⟨⟨rfl, rfl, Nat.le_trans hfr' hfr, Nat.le_trans hlo' hlo, pay_in hts (tblIn wy.1), List.mem_cons_self, hts _ wy.1, hts _ wy.2.1, ⟨wy.2.2.1, wy.2.2.2.1⟩, fun sig h => by have h2 := wy.2.2.2.2; rw [h] at h2; exact (Option.some.inj h2).symm, hts _ hlink⟩, hts _ hin⟩ ⟨PcBlind, fun U hU hW => ⟨by have := has; dsimp only [Xad] at this; rw [this], ⟨va_K.moved hW.alike hK, by rw [hU]; exact hP, hD, hT.out hS hU hW.alike⟩, hnw.warm hW⟩⟩ rfl hn hl.1 hst (lv_room hcat) hdg ⟨hmc, hms⟩) hT hS hl hst' K
theorem J.callSN (C : Cx X own cc n0 ret fr lo) {y : MethodName} {cc' : ByteArray} {nL' fr' lo' n : Nat} {ret' : Option FieldType} {ok : List Nat → Prop} {as : (Nat → Nat) → List Value} {o : (Nat → Nat) → Option Value} {σ' : Mem} (hM : Ct (Xl X) y cc' nL' ret' fr' lo' ok as σ o σ') (hok : ok (Xks X)) (wy : Wy y cc' nL' ret' n) (hin : Cond.static y ∈ lw_g) {idx : Nat} {host : String} (hlink : Cond.methodLinkNest own idx y host ∈ lw_n) (As rest : List Value) (has : as (Xad X) = As) (hn : As.length = n) (hcat : (rest.map fun v => v.category).sum ≤ 8) (hfr' : fr' + 1 ≤ fr) (hlo' : 8 + (nL' + 11) + lo' ≤ lo) {stk stk' : List Value} (hst : stk = As.reverse ++ rest) (hdg : decode cc pc = .ok (.invokestatic idx, 3)) (hst' : (o (Xad X)).toList ++ rest = stk') (K : J X (pc + 3) loc stk' σ') : J X pc loc stk σ := by
  obtain ⟨p, l, e, R, s, m, args, below, meth, c, D, cI, ad, A0, ks, nL, mc, ms, Q⟩ := X
  obtain ⟨hx, hb, hml, hn0, hr, hown, hts, hlocks, hK, hcl, hfr, hlo, hmc, hms, hnw⟩ := C
  intro H locs ls hP hD hT hS hl
  exact J_run (va_runSN ⟨hx, hb, hml, hown, hts⟩ (hM D cI ad A0 ks hcl hok) ⟨⟨⟨rfl, rfl, Nat.le_trans hfr' hfr, Nat.le_trans hlo' hlo, pay_in hts (tblIn wy.1), List.mem_cons_self⟩, hts _ wy.1, hts _ wy.2.1, ⟨wy.2.2.1, wy.2.2.2.1⟩, fun sig h => by have h2 := wy.2.2.2.2; rw [h] at h2; exact (Option.some.inj h2).symm, va_Nw.use rfl (hnw _ hlink)⟩, hts _ hin, trivial⟩ ⟨PcBlind, fun U hU hW => ⟨by have := has; dsimp only [Xad] at this; rw [this], ⟨va_K.moved hW.alike hK, by rw [hU]; exact hP, hD, hT.out hS hU hW.alike⟩, hnw.warm hW⟩⟩ rfl hn hl.1 hst (lv_room hcat) hdg ⟨hmc, hms⟩) hT hS hl hst' K
theorem J.mmax (C : Cx X own cc n0 ret fr lo) {idx : Nat} (hlink : Cond.methodLink own idx Lib.Math.max.name ∈ lw_g) (h2 : Cond.static Lib.Math.max.name ∈ lw_g) (h3 : Cond.initialized "java/lang/Math" ∈ lw_g) (h4 : Cond.code Lib.Math.max.name Lib.Math.max.code 2 (some .int) ∈ lw_g) (hcat : (rest.map fun v => v.category).sum + 13 ≤ lo) (hf1 : 1 ≤ fr) {x y : Int32} (hdg : decode cc pc = .ok (.invokestatic idx, 3)) (K : J X (pc + 3) loc (.int (if x < y then y else x) :: rest) σ) : J X pc loc (.int y :: .int x :: rest) σ := by
  obtain ⟨p, l, e, R, s, m, args, below, meth, c, D, cI, ad, A0, ks, nL, mc, ms, Q⟩ := X
  obtain ⟨hx, hb, hml, hn0, hr, hown, hts, hlocks, hK, hcl, hfr, hlo, hmc, hms, hnw⟩ := C
  intro H locs ls hP hD hT hS hl
  exact va_mmax hx hb (hml.trans hl.1.symm) hown (hts _ hlink) (hts _ h2) (hts _ h3) (hts _ h4) (Nat.le_trans hf1 hfr) (Nat.le_trans hcat hlo) hmc hms hdg (K H locs ls hP hD hT hS hl)
theorem J.mmin (C : Cx X own cc n0 ret fr lo) {idx : Nat} (hlink : Cond.methodLink own idx Lib.Math.min.name ∈ lw_g) (h2 : Cond.static Lib.Math.min.name ∈ lw_g) (h3 : Cond.initialized "java/lang/Math" ∈ lw_g) (h4 : Cond.code Lib.Math.min.name Lib.Math.min.code 2 (some .int) ∈ lw_g) (hcat : (rest.map fun v => v.category).sum + 13 ≤ lo) (hf1 : 1 ≤ fr) {x y : Int32} (hdg : decode cc pc = .ok (.invokestatic idx, 3)) (K : J X (pc + 3) loc (.int (if y < x then y else x) :: rest) σ) : J X pc loc (.int y :: .int x :: rest) σ := by
  obtain ⟨p, l, e, R, s, m, args, below, meth, c, D, cI, ad, A0, ks, nL, mc, ms, Q⟩ := X
  obtain ⟨hx, hb, hml, hn0, hr, hown, hts, hlocks, hK, hcl, hfr, hlo, hmc, hms, hnw⟩ := C
  intro H locs ls hP hD hT hS hl
  exact va_mmin hx hb (hml.trans hl.1.symm) hown (hts _ hlink) (hts _ h2) (hts _ h3) (hts _ h4) (Nat.le_trans hf1 hfr) (Nat.le_trans hcat hlo) hmc hms hdg (K H locs ls hP hD hT hS hl)
/-- what System.arraycopy asks -/
def ckC (sp dp n : Int32) (na nb : Nat) : Bool := decide (0 ≤ sp.toInt ∧ 0 ≤ dp.toInt ∧ 0 ≤ n.toInt ∧ sp.toInt + n.toInt ≤ (na : Int) ∧ dp.toInt + n.toInt ≤ (nb : Int))
theorem ckC_in {sp dp n : Int32} {na nb : Nat} (h : ckC sp dp n na nb = true) : ¬ sp < 0 ∧ ¬ dp < 0 ∧ ¬ n < 0 ∧ sp.toNatClampNeg + n.toNatClampNeg ≤ na ∧ dp.toNatClampNeg + n.toNatClampNeg ≤ nb := by
  have h := of_decide_eq_true h
  have e : ∀ z : Int32, z.toNatClampNeg = z.toInt.toNat := fun z => rfl
  have lt : ∀ z : Int32, 0 ≤ z.toInt → ¬ z < 0 := fun z hz => by rw [Int32.lt_iff_toInt_lt, Int32.toInt_zero]; omega
  refine ⟨lt _ h.1, lt _ h.2.1, lt _ h.2.2.1, ?_, ?_⟩ <;> rw [e, e] <;> omega
theorem J.acopy (C : Cx X own cc n0 ret fr lo) {τ : Type} {ex : Option τ} {t : τ} {idx : Nat} (hlink : Cond.methodLink own idx arraycopyName ∈ lw_g) (h2 : Cond.native arraycopyName ∈ lw_g) (h3 : Cond.static arraycopyName ∈ lw_g) (h4 : Cond.initialized "java/lang/System" ∈ lw_g) (hcat : (rest.map fun v => v.category).sum + 18 ≤ lo) (hf1 : 1 ≤ fr) {a b : Nat} (ha : Ok (Xks X) a 100) (hbk : Ok (Xks X) b 100) {sp dp n : Int32} (hf : chk (ckC sp dp n (alen a) (alen b)) ex = some t) (hdg : decode cc pc = .ok (.invokestatic idx, 3))
    (K : ex = some t → J X (pc + 3) loc rest (gput σ b (va_cpy (σ a) (σ b) (ix sp) (ix dp) (ix n)))) : J X pc loc (.int n :: .int dp :: .ref (Xad X b) :: .int sp :: .ref (Xad X a) :: rest) σ := by
  obtain ⟨p, l, e, R, s, m, args, below, meth, c, D, cI, ad, A0, ks, nL, mc, ms, Q⟩ := X
  obtain ⟨hx, hb, hml, hn0, hr, hown, hts, hlocks, hK, hcl, hfr, hlo, hmc, hms, hnw⟩ := C
  intro H locs ls hP hD hT hS hl
  obtain ⟨hin, hf⟩ := chk_some hf
  obtain ⟨g1, g2, g3, g4, g5⟩ := ckC_in hin
  obtain ⟨q, hq, he⟩ := wl_get cI ad σ ha.1
  obtain ⟨q', hq', he'⟩ := wl_get cI ad σ hbk.1
  have hset := wl_set hD hq' (va_cpy (σ a) (σ b) (ix sp) (ix dp) (ix n))
  rw [ce_arr hbk.2 (by decide) (by decide), gput_s] at hset
  rw [ce_arr ha.2 (by decide) (by decide)] at he
  rw [ce_arr hbk.2 (by decide) (by decide)] at he'
  refine va_copyi (ty := .int) hx hb (hml.trans hl.1.symm) hown (hts _ hlink) (hts _ h2) (hts _ h3) (hts _ h4) hK hP hD hS q q' 0 0 he he' rfl rfl rfl g1 g2 g3 g4 g5 (fun _ _ => rfl) (Nat.le_trans hf1 hfr) (Nat.le_trans hcat hlo) hdg (fun H1 locs1 hP1 hD1 hS1 => ?_)
  have hP1 : va_P D vwCl ((wl cI ad σ ks).set q' (ad b, .inl (cI 100, alen b, .inl (va_cpy (σ a) (σ b) (ix sp) (ix dp) (ix n))))) H1 := hP1
  have hD1 : va_D A0 ((wl cI ad σ ks).set q' (ad b, .inl (cI 100, alen b, .inl (va_cpy (σ a) (σ b) (ix sp) (ix dp) (ix n))))) := hD1
  rw [hset] at hP1 hD1
  exact K hf H1 locs1 ls hP1 hD1 (hT.put (by rw [hbk.2]; decide) _) hS1 hl
theorem stretch_eq {cs : Cell} {N sp n : Nat} {f : Nat → Value} (hv : ∀ j : Nat, j < N → cs.slots[j]? = some (f j)) (h : sp + n ≤ N) (c0 : ClassId) : cs.stretch sp n = (arrV c0 N f).stretch sp n := by
  unfold Cell.stretch
  apply List.map_congr_left
  intro i hi
  have hi' := List.mem_range.mp hi
  rw [Array.getD_eq_getD_getElem?, Array.getD_eq_getD_getElem?, arrV_read _ _ (by omega), hv _ (by omega)]
/-- from a static row -/
theorem J.scopy (C : Cx X own cc n0 ret fr lo) {τ : Type} {ex : Option τ} {t : τ} {idx : Nat} (hlink : Cond.methodLink own idx arraycopyName ∈ lw_g) (h2 : Cond.native arraycopyName ∈ lw_g) (h3 : Cond.static arraycopyName ∈ lw_g) (h4 : Cond.initialized "java/lang/System" ∈ lw_g) (hcat : (rest.map fun v => v.category).sum + 18 ≤ lo) (hf1 : 1 ≤ fr) {a b : Nat} (ha : clsOf a = 103) (hbk : Ok (Xks X) b 100) {sp dp n : Int32} (hf : chk (ckC sp dp n (alen a) (alen b)) ex = some t) (hdg : decode cc pc = .ok (.invokestatic idx, 3))
    (K : ex = some t → J X (pc + 3) loc rest (gput σ b (va_cpy (σ a) (σ b) (ix sp) (ix dp) (ix n)))) : J X pc loc (.int n :: .int dp :: .ref (Xad X b) :: .int sp :: .ref (Xad X a) :: rest) σ := by
  obtain ⟨p, l, e, R, s, m, args, below, meth, c, D, cI, ad, A0, ks, nL, mc, ms, Q⟩ := X
  obtain ⟨hx, hb, hml, hn0, hr, hown, hts, hlocks, hK, hcl, hfr, hlo, hmc, hms, hnw⟩ := C
  intro H locs ls hP hD hT hS hl
  obtain ⟨hin, hf⟩ := chk_some hf
  obtain ⟨g1, g2, g3, g4, g5⟩ := ckC_in hin
  obtain ⟨q', hq', he'⟩ := wl_get cI ad σ hbk.1
  have hset := wl_set hD hq' (va_cpy (σ a) (σ b) (ix sp) (ix dp) (ix n))
  rw [ce_arr hbk.2 (by decide) (by decide), gput_s] at hset
  rw [ce_arr hbk.2 (by decide) (by decide)] at he'
  obtain ⟨cs, a1, a2, a3, a4, a5, a6, a7⟩ := hT a ha
  have a1 : H[ad a]? = some cs := by rw [hS.2.1 _ (Array.getElem?_eq_some_iff.mp a1).1 a7]; exact a1
  have nn : ∀ z : Int32, ¬ z < 0 → z.toInt = (z.toNatClampNeg : Int) := by
    intro z hz
    have hz0 : (0 : Int) ≤ z.toInt := by
      have := Int32.not_lt.mp hz
      simpa using Int32.le_iff_toInt_le.mp this
    show z.toInt = ((z.toInt.toNat : Nat) : Int)
    omega
  have hc1 : H[ad b]? = some (vp_cell (cI 100) (alen b, .inl (σ b))) := hP q' _ he'
  obtain ⟨b1, k0, hk0, cm0, hkk0⟩ := a2
  obtain ⟨-, k1, hk1, cm1, hkk1⟩ := (hK.2 0 (cI 100, .int) rfl).1 (alen b) (fun j => .int (σ b j))
  intro TT hTT XX
  obtain ⟨vm', X', step⟩ := XX.arraycopy hx hown (hts _ hlink) (hts _ h2) (hts _ h3) (hts _ h4) (src := ad a) (dst := ad b) (cs := cs) (cd := vp_cell (cI 100) (alen b, .inl (σ b))) (srcPos := sp) (destPos := dp) (n := n) (by rw [hTT]; exact a1) (by rw [hTT]; exact hc1)
    b1 (fun _ h => by cases h) a3 (fun h => by cases h) hk0 hk1 hkk0 hkk1 rfl g1 g2 g3
    (by rw [nn sp g1, nn n g3]; omega)
    (by rw [nn dp g2, nn n g3]; show ¬ _ > ((arrV (cI 100) (alen b) (fun j => .int (σ b j))).slots.size : Int); rw [arrV_size]; omega)
    (fun vm₁ _ i hi => by
      have e : cs.slots.getD (sp.toNatClampNeg + i) .null = .int (σ a (sp.toNatClampNeg + i)) := by
        rw [Array.getD_eq_getD_getElem?, a6 _ (by omega)]
        rfl
      refine ⟨?_, ?_⟩
      · rw [e]; rfl
      · rw [e]; exact trivial)
    (g := F0 m pc ls (.int n :: .int dp :: .ref (ad b) :: .int sp :: .ref (ad a) :: rest)) rfl (by show ls.size = _; rw [hml, hl.1]) (rest := rest) rfl (by rw [hb]; exact hdg) (Nat.le_trans hf1 hfr) (by show 2 * 0 + _ + 18 ≤ _; omega)
  have e1 : copied cs (vp_cell (cI 100) (alen b, .inl (σ b))) sp dp n = vp_cell (cI 100) (alen b, .inl (va_cpy (σ a) (σ b) (ix sp) (ix dp) (ix n))) := by
    show (vp_cell (cI 100) (alen b, .inl (σ b))).storeRun _ (cs.stretch _ _) = _
    rw [stretch_eq a6 g4 (cI 100)]
    exact va_copied (fun z => .int z) (cI 100) (cI 100) (σ a) (σ b) g4
  rw [e1] at X' step
  have hlb : ad b < H.size := (Array.getElem?_eq_some_iff.mp hc1).1
  have hheap : ((TT.setVm vm').setCell (ad b) (vp_cell (cI 100) (alen b, .inl (va_cpy (σ a) (σ b) (ix sp) (ix dp) (ix n))))).heap = H.setIfInBounds (ad b) (vp_cell (cI 100) (alen b, .inl (va_cpy (σ a) (σ b) (ix sp) (ix dp) (ix n)))) := by rw [← hTT]; rfl
  have oq : ∀ z : Nat, z ≠ ad b → (H.setIfInBounds (ad b) (vp_cell (cI 100) (alen b, .inl (va_cpy (σ a) (σ b) (ix sp) (ix dp) (ix n)))))[z]? = H[z]? := fun z hz => by simp [Array.getElem?_setIfInBounds, Ne.symm hz]
  have hP1 := hP.set hD he' (e := .inl (cI 100, alen b, .inl (va_cpy (σ a) (σ b) (ix sp) (ix dp) (ix n)))) (show (H.setIfInBounds (ad b) _)[ad b]? = some _ by simp [Array.getElem?_setIfInBounds, hlb]) oq
  have hD1 := hD.set (e := .inl (cI 100, alen b, .inl (va_cpy (σ a) (σ b) (ix sp) (ix dp) (ix n)))) he'
  rw [hset] at hP1 hD1
  obtain ⟨t2, r1, r2⟩ := K hf _ _ ls hP1 hD1 (hT.put (by rw [hbk.2]; decide) _) ⟨by simp; exact hS.1, fun z y1 y2 => by
      rw [oq z (fun e => y2 (by rw [e]; exact hD.2 q' _ he'))]
      exact hS.2.1 z y1 y2, fun z hz => by
      rcases List.mem_append.mp hz with h | h
      · exact hS.2.2 z h
      · obtain ⟨y, -, hy⟩ := List.mem_map.mp h
        rw [← hy]
        exact hD.2 q' _ he'⟩ hl _ hheap X'
  exact ⟨t2, step t2 r1, r2⟩
theorem J.tblIn (C : Cx X own cc n0 ret fr lo) {τ : Type} {t : τ} {dflt lo' hi' : Int} {offs : Array Int} {len : Nat} {x : Int32} (hdg : decode cc pc = .ok (.tableswitch dflt lo' hi' offs, len)) (v : Int32) {A B : τ} (hf : (if x = v then A else B) = t) (h1 : ¬ v.toInt < lo') (h2 : ¬ hi' < v.toInt) {off : Int} {tgt : Nat} (ho : offs[(v.toInt - lo').toNat]? = some off) (ht : (pc : Int) + off = (tgt : Int)) (kt : A = t → J X tgt loc rest σ) (kf : ¬ x = v → B = t → J X pc loc (.int x :: rest) σ) : J X pc loc (.int x :: rest) σ := by
  by_cases h : x = v
  · subst h
    obtain ⟨p, l, e, R, s, m, args, below, meth, c, D, cI, ad, A0, ks, nL, mc, ms, Q⟩ := X
    obtain ⟨hx, hb, hml, hn0, hr, hown, hts, hlocks, hK, hcl, hfr, hlo, hmc, hms, hnw⟩ := C
    intro H locs ls hP hD hT hS hl
    exact lv_tableIn hx hb hdg h1 h2 ho ht (kt (by rw [← hf, if_pos rfl]) H locs ls hP hD hT hS hl)
  · exact kf h (by rw [← hf, if_neg h])
theorem J.tblOut (C : Cx X own cc n0 ret fr lo) {dflt lo' hi' : Int} {offs : Array Int} {len : Nat} {x : Int32} {tgt : Nat} (hdg : decode cc pc = .ok (.tableswitch dflt lo' hi' offs, len)) (h : x.toInt < lo' ∨ hi' < x.toInt) (ht : (pc : Int) + dflt = (tgt : Int)) (K : J X tgt loc rest σ) : J X pc loc (.int x :: rest) σ := by
  obtain ⟨p, l, e, R, s, m, args, below, meth, c, D, cI, ad, A0, ks, nL, mc, ms, Q⟩ := X
  obtain ⟨hx, hb, hml, hn0, hr, hown, hts, hlocks, hK, hcl, hfr, hlo, hmc, hms, hnw⟩ := C
  intro H locs ls hP hD hT hS hl
  exact lv_tableOut hx hb hdg h ht (K H locs ls hP hD hT hS hl)
theorem J.lookup (C : Cx X own cc n0 ret fr lo) {dflt : Int} {ps : Array (Int × Int)} {len : Nat} {x : Int32} {off : Int} {tgt : Nat} (hdg : decode cc pc = .ok (.lookupswitch dflt ps, len)) (hp : (ps.toList.zip (ps.toList.drop 1)).all (fun (a, next) => a.1 < next.1) = true) (ho : Op.lookupswitch.offset ps.toList dflt x.toInt = off) (ht : (pc : Int) + off = (tgt : Int)) (K : J X tgt loc rest σ) : J X pc loc (.int x :: rest) σ := by
  obtain ⟨p, l, e, R, s, m, args, below, meth, c, D, cI, ad, A0, ks, nL, mc, ms, Q⟩ := X
  obtain ⟨hx, hb, hml, hn0, hr, hown, hts, hlocks, hK, hcl, hfr, hlo, hmc, hms, hnw⟩ := C
  intro H locs ls hP hD hT hS hl
  exact lv_lookup hx hb hdg hp ho ht (K H locs ls hP hD hT hS hl)
theorem J.ifnonnull (C : Cx X own cc n0 ret fr lo) {x : Nat} {off : Int} {tgt : Nat} (hdg : decode cc pc = .ok (.ifnonnull off, 3)) (ht : (pc : Int) + off = (tgt : Int)) (K : J X tgt loc rest σ) : J X pc loc (.ref x :: rest) σ := by
  obtain ⟨p, l, e, R, s, m, args, below, meth, c, D, cI, ad, A0, ks, nL, mc, ms, Q⟩ := X
  obtain ⟨hx, hb, hml, hn0, hr, hown, hts, hlocks, hK, hcl, hfr, hlo, hmc, hms, hnw⟩ := C
  intro H locs ls hP hD hT hS hl
  exact lv_ifnonnull hx hb hdg ht (K H locs ls hP hD hT hS hl)

end JR
end
section
/-! names, checks and binds of the functions; the rows over them -/
def nm {α τ : Type} (e : α) (f : α → Option τ) : Option τ := f e
theorem nm_some {α τ : Type} {e : α} {f : α → Option τ} {t : τ} (h : nm e f = some t) : ∃ v, v = e ∧ f v = some t := ⟨e, rfl, h⟩
def bnd {α τ : Type} (c : Option α) (f : α → Option τ) : Option τ := match c with
  | none => none
  | some a => f a
theorem bnd_some {α τ : Type} {c : Option α} {f : α → Option τ} {t : τ} (h : bnd c f = some t) : ∃ v, c = some v ∧ f v = some t := by
  cases c with
  | none => cases h
  | some a => exact ⟨a, rfl, h⟩
def bnd2 {α β τ : Type} (c : Option (α × β)) (f : α → β → Option τ) : Option τ := match c with
  | none => none
  | some a => f a.1 a.2
theorem bnd2_some {α β τ : Type} {c : Option (α × β)} {f : α → β → Option τ} {t : τ} (h : bnd2 c f = some t) : ∃ v w, c = some (v, w) ∧ f v w = some t := by
  cases c with
  | none => cases h
  | some a => exact ⟨a.1, a.2, rfl, h⟩
def exi {R S : Type} (o : Option R) : Option (R ⊕ S) := match o with
  | none => none
  | some r => some (.inl r)
theorem exi_some {R S : Type} {o : Option R} {t : R ⊕ S} (h : exi o = some t) : ∃ r, o = some r ∧ t = .inl r := by
  cases o with
  | none => cases h
  | some r => cases h; exact ⟨r, rfl, rfl⟩
def mtc {τ : Type} (r : Option Nat) (A : Option τ) (B : Nat → Option τ) : Option τ := match r with
  | none => A
  | some c => B c
theorem mtc_none {τ : Type} {A : Option τ} {B : Nat → Option τ} {t : τ} (h : mtc none A B = some t) : A = some t := h
theorem mtc_some {τ : Type} {A : Option τ} {B : Nat → Option τ} {q : Nat} {t : τ} (h : mtc (some q) A B = some t) : B q = some t := h
def bit (v : Int32) : Bool := decide (v = 0 ∨ v = 1)
theorem bit_nar {v : Int32} (h : bit v = true) : narrow .boolean (.int v) = .int v := by
  rcases of_decide_eq_true h with e | e <;> subst e <;> rfl
theorem bit_fit {v : Int32} (h : bit v = true) : fits .boolean (.int v) = true := by
  rcases of_decide_eq_true h with e | e <;> subst e <;> rfl
def gst (σ : Mem) (k j : Nat) (v : Int32) : Mem := gput σ k (upd (σ k) j v)
def mxI (x y : Int32) : Int32 := if x < y then y else x
def mnI (x y : Int32) : Int32 := if y < x then y else x
def irm (x y : Int32) : Int32 := x - x / y * y
section JR2
variable {X : Ctx} {own : String} {cc : ByteArray} {n0 : Nat} {ret : Option FieldType} {fr lo pc : Nat} {loc : List (Nat × Value)} {stk rest : List Value} {σ : Mem}
theorem J.nmI {τ : Type} {e : Int32} {f : Int32 → Option τ} {t : τ} (hf : nm e f = some t) (K : ∀ v, f v = some t → J X pc loc (.int v :: rest) σ) : J X pc loc (.int e :: rest) σ := K e hf
theorem J.nmJ {τ : Type} {e : Int64} {f : Int64 → Option τ} {t : τ} (hf : nm e f = some t) (K : ∀ v, f v = some t → J X pc loc (.long v :: rest) σ) : J X pc loc (.long e :: rest) σ := K e hf
theorem J.putM (C : Cx X own cc n0 ret fr lo) {ci N index : Nat} {Cn ref : String} {T : u_T} {ty : Nat → FieldType} (hk : Kc ci Cn T N ty) {k : Nat} (hok : Ok (Xks X) k ci) (j : Nat) (hj : (fpat ci)[j]? = some false) (hw : Cond.fieldLink own index ref (T j).2.1 (T j).2.2.1 ∈ lw_g) (href : (T j).1 = ref) (hfin : (T j).2.2.2 = false) {v : Int32} (hn : narrow (ty j) (.int v) = .int v) (hfit : fits (ty j) (.int v) = true) {τ : Type} {f : Mem → Option τ} {t : τ} (hf : nm (gst σ k j v) f = some t) (hdg : decode cc pc = .ok (.putfield index, 3)) (K : ∀ σ', f σ' = some t → J X (pc + 3) loc rest σ') : J X pc loc (.int v :: .ref (Xad X k) :: rest) σ :=
  J.putI C hk hok j hj hw href hfin hn hfit hdg (K _ hf)
theorem J.iastM (C : Cx X own cc n0 ret fr lo) {τ : Type} {f : Mem → Option τ} {t : τ} {k : Nat} (hok : Ok (Xks X) k 100) {i x : Int32} (hf : chk (ckI i (alen k)) (nm (gst σ k (ix i) x) f) = some t) (hdg : decode cc pc = .ok (.iastore, 1)) (K : ∀ σ', f σ' = some t → J X (pc + 1) loc rest σ') : J X pc loc (.int x :: .int i :: .ref (Xad X k) :: rest) σ :=
  J.iast C hok hf hdg (fun h => K _ h)
theorem J.castM (C : Cx X own cc n0 ret fr lo) {τ : Type} {f : Mem → Option τ} {t : τ} {k : Nat} (hok : Ok (Xks X) k 102) {i x : Int32} (hf : chk (ckI i (alen k)) (nm (gst σ k (ix i) (vp_nar .char x)) f) = some t) (hdg : decode cc pc = .ok (.castore, 1)) (K : ∀ σ', f σ' = some t → J X (pc + 1) loc rest σ') : J X pc loc (.int x :: .int i :: .ref (Xad X k) :: rest) σ :=
  J.cast C hok hf hdg (fun h => K _ h)
theorem J.acopyM (C : Cx X own cc n0 ret fr lo) {τ : Type} {f : Mem → Option τ} {t : τ} {idx : Nat} (hlink : Cond.methodLink own idx arraycopyName ∈ lw_g) (h2 : Cond.native arraycopyName ∈ lw_g) (h3 : Cond.static arraycopyName ∈ lw_g) (h4 : Cond.initialized "java/lang/System" ∈ lw_g) (hcat : (rest.map fun v => v.category).sum + 18 ≤ lo) (hf1 : 1 ≤ fr) {a b : Nat} (ha : Ok (Xks X) a 100) (hbk : Ok (Xks X) b 100) {sp dp n : Int32} (hf : chk (ckC sp dp n (alen a) (alen b)) (nm (gput σ b (va_cpy (σ a) (σ b) (ix sp) (ix dp) (ix n))) f) = some t) (hdg : decode cc pc = .ok (.invokestatic idx, 3))
    (K : ∀ σ', f σ' = some t → J X (pc + 3) loc rest σ') : J X pc loc (.int n :: .int dp :: .ref (Xad X b) :: .int sp :: .ref (Xad X a) :: rest) σ := J.acopy C hlink h2 h3 h4 hcat hf1 ha hbk hf hdg (fun h => K _ h)
theorem J.scopyM (C : Cx X own cc n0 ret fr lo) {τ : Type} {f : Mem → Option τ} {t : τ} {idx : Nat} (hlink : Cond.methodLink own idx arraycopyName ∈ lw_g) (h2 : Cond.native arraycopyName ∈ lw_g) (h3 : Cond.static arraycopyName ∈ lw_g) (h4 : Cond.initialized "java/lang/System" ∈ lw_g) (hcat : (rest.map fun v => v.category).sum + 18 ≤ lo) (hf1 : 1 ≤ fr) {a b : Nat} (ha : clsOf a = 103) (hbk : Ok (Xks X) b 100) {sp dp n : Int32} (hf : chk (ckC sp dp n (alen a) (alen b)) (nm (gput σ b (va_cpy (σ a) (σ b) (ix sp) (ix dp) (ix n))) f) = some t) (hdg : decode cc pc = .ok (.invokestatic idx, 3))
    (K : ∀ σ', f σ' = some t → J X (pc + 3) loc rest σ') : J X pc loc (.int n :: .int dp :: .ref (Xad X b) :: .int sp :: .ref (Xad X a) :: rest) σ := J.scopy C hlink h2 h3 h4 hcat hf1 ha hbk hf hdg (fun h => K _ h)
theorem J.mmaxI (C : Cx X own cc n0 ret fr lo) {idx : Nat} (hlink : Cond.methodLink own idx Lib.Math.max.name ∈ lw_g) (h2 : Cond.static Lib.Math.max.name ∈ lw_g) (h3 : Cond.initialized "java/lang/Math" ∈ lw_g) (h4 : Cond.code Lib.Math.max.name Lib.Math.max.code 2 (some .int) ∈ lw_g) (hcat : (rest.map fun v => v.category).sum + 13 ≤ lo) (hf1 : 1 ≤ fr) {x y : Int32} (hdg : decode cc pc = .ok (.invokestatic idx, 3)) (K : J X (pc + 3) loc (.int (mxI x y) :: rest) σ) : J X pc loc (.int y :: .int x :: rest) σ := J.mmax C hlink h2 h3 h4 hcat hf1 hdg K
theorem J.mminI (C : Cx X own cc n0 ret fr lo) {idx : Nat} (hlink : Cond.methodLink own idx Lib.Math.min.name ∈ lw_g) (h2 : Cond.static Lib.Math.min.name ∈ lw_g) (h3 : Cond.initialized "java/lang/Math" ∈ lw_g) (h4 : Cond.code Lib.Math.min.name Lib.Math.min.code 2 (some .int) ∈ lw_g) (hcat : (rest.map fun v => v.category).sum + 13 ≤ lo) (hf1 : 1 ≤ fr) {x y : Int32} (hdg : decode cc pc = .ok (.invokestatic idx, 3)) (K : J X (pc + 3) loc (.int (mnI x y) :: rest) σ) : J X pc loc (.int y :: .int x :: rest) σ := J.mmin C hlink h2 h3 h4 hcat hf1 hdg K
theorem J.iremM (C : Cx X own cc n0 ret fr lo) {x y : Int32} (hdg : decode cc pc = .ok (.irem, 1)) (hne : ¬ y = 0) (K : J X (pc + 1) loc (.int (irm x y) :: rest) σ) : J X pc loc (.int y :: .int x :: rest) σ := J.irem C hdg hne K
theorem J.iretM (C : Cx X own cc n0 (some .int) fr lo) {v : Int32} {t0 : Int32 × Mem} (hR : Rt X (some (.int t0.1)) t0.2) (h : (v, σ) = t0) (hdg : decode cc pc = .ok (.ireturn, 1)) : J X pc loc [.int v] σ := by
  subst h
  exact J.iret C hR rfl rfl hdg
theorem J.iretP (C : Cx X own cc n0 (some .int) fr lo) {v t0 : Int32} (hR : Rt X (some (.int t0)) σ) (h : v = t0) (hdg : decode cc pc = .ok (.ireturn, 1)) : J X pc loc [.int v] σ := J.iret C hR h rfl hdg
theorem J.zretM {rt : FieldType} (C : Cx X own cc n0 (some rt) fr lo) {v : Int32} (hn : narrow rt (.int v) = .int v) {t0 : Int32 × Mem} (hR : Rt X (some (.int t0.1)) t0.2) (h : (v, σ) = t0) (hdg : decode cc pc = .ok (.ireturn, 1)) : J X pc loc [.int v] σ := by
  subst h
  exact J.zret C hn hR rfl rfl hdg
theorem J.zretP {rt : FieldType} (C : Cx X own cc n0 (some rt) fr lo) {v t0 : Int32} (hn : narrow rt (.int v) = .int v) (hR : Rt X (some (.int t0)) σ) (h : v = t0) (hdg : decode cc pc = .ok (.ireturn, 1)) : J X pc loc [.int v] σ := J.zret C hn hR h rfl hdg
theorem J.lretP (C : Cx X own cc n0 (some .long) fr lo) {v t0 : Int64} (hR : Rt X (some (.long t0)) σ) (h : v = t0) (hdg : decode cc pc = .ok (.lreturn, 1)) : J X pc loc [.long v] σ := J.lret C hR h rfl hdg
theorem J.vretM (C : Cx X own cc n0 none fr lo) {t0 : Mem} (hR : Rt X none t0) (h : σ = t0) (hdg : decode cc pc = .ok (.return_, 1)) : J X pc loc [] σ := J.vret C hR h hdg
theorem J.vretP (C : Cx X own cc n0 none fr lo) {t0 : Unit} (hR : Rt X none σ) (_ : () = t0) (hdg : decode cc pc = .ok (.return_, 1)) : J X pc loc [] σ := J.vret C hR rfl hdg
theorem J.aretV {nt : String} (C : Cx X own cc n0 (some (.object nt)) fr lo) {v : Value} (hv : v = .null ∨ ∃ a, v = .ref a) (hR : Rt X (some v) σ) (hdg : decode cc pc = .ok (.areturn, 1)) : J X pc loc [v] σ := by
  obtain ⟨p, l, e, R, s, m, args, below, meth, c, D, cI, ad, A0, ks, nL, mc, ms, Q⟩ := X
  obtain ⟨hx, hb, hml, hn0, hr, hown, hts, hlocks, hK, hcl, hfr, hlo, hmc, hms, hnw⟩ := C
  intro H locs ls hP hD hT hS hl
  show W _ _ _ _ _ _ _ _ _ _ _ _ _ _ Q _
  rw [show Q = _ from hR]
  exact W.aret hx hb hr (Or.inl ⟨_, rfl⟩) hv (fun t ht hW => ⟨rfl, ⟨va_K.moved hW.alike hK, by rw [ht]; exact hP, hD, hT.out hS ht hW.alike⟩, hS.F ht⟩) hS.2.2 hdg hlocks
theorem J.aretN {nt : String} (C : Cx X own cc n0 (some (.object nt)) fr lo) {t0 : Option Nat} (hR : Rt X (some (va_rf (Option.map (Xad X) t0))) σ) (h : none = t0) (hdg : decode cc pc = .ok (.areturn, 1)) : J X pc loc [.null] σ := by
  subst h
  exact J.aretV C (Or.inl rfl) hR hdg
theorem J.aretS {nt : String} (C : Cx X own cc n0 (some (.object nt)) fr lo) {t0 : Option Nat} {k : Nat} (hR : Rt X (some (va_rf (Option.map (Xad X) t0))) σ) (h : some k = t0) (hdg : decode cc pc = .ok (.areturn, 1)) : J X pc loc [.ref (Xad X k)] σ := by
  subst h
  exact J.aretV C (Or.inr ⟨_, rfl⟩) hR hdg
theorem J.aconst_null (C : Cx X own cc n0 ret fr lo) (hdg : decode cc pc = .ok (.aconst_null, 1)) (K : J X (pc + 1) loc (.null :: rest) σ) : J X pc loc rest σ := by
  obtain ⟨p, l, e, R, s, m, args, below, meth, c, D, cI, ad, A0, ks, nL, mc, ms, Q⟩ := X
  obtain ⟨hx, hb, hml, hn0, hr, hown, hts, hlocks, hK, hcl, hfr, hlo, hmc, hms, hnw⟩ := C
  intro H locs ls hP hD hT hS hl
  exact lv_null hx hb hdg (K H locs ls hP hD hT hS hl)
theorem J.astoreN_n (C : Cx X own cc n0 ret fr lo) {k : Fin 4} {i : Nat} {loc' : List (Nat × Value)} (hdg : decode cc pc = .ok (.astore_n k, 1)) (hi : (k : Nat) = i) (hn : i < n0) (hl' : (i, Value.null) :: loc.filter (fun q => !(q.1 == i) && !(q.1 + 1 == i && q.2.category == 2)) = loc') (K : J X (pc + 1) loc' rest σ) : J X pc loc (.null :: rest) σ := by
  obtain ⟨p, l, e, R, s, m, args, below, meth, c, D, cI, ad, A0, ks, nL, mc, ms, Q⟩ := X
  obtain ⟨hx, hb, hml, hn0, hr, hown, hts, hlocks, hK, hcl, hfr, hlo, hmc, hms, hnw⟩ := C
  subst hn0
  intro H locs ls hP hD hT hS hl
  exact lv_astore_nN hx hb hdg hi hl hn hl' (fun ls hl => K H locs ls hP hD hT hS hl)
theorem J.aloadN_n (C : Cx X own cc n0 ret fr lo) {k : Fin 4} {i : Nat} (hdg : decode cc pc = .ok (.aload_n k, 1)) (hi : (k : Nat) = i) (q : Nat) (hq : loc[q]? = some (i, .null)) (K : J X (pc + 1) loc (.null :: rest) σ) : J X pc loc rest σ := by
  obtain ⟨p, l, e, R, s, m, args, below, meth, c, D, cI, ad, A0, ks, nL, mc, ms, Q⟩ := X
  obtain ⟨hx, hb, hml, hn0, hr, hown, hts, hlocks, hK, hcl, hfr, hlo, hmc, hms, hnw⟩ := C
  intro H locs ls hP hD hT hS hl
  exact lv_aload_nN hx hb hdg hi (lv_at hl q hq) (K H locs ls hP hD hT hS hl)
theorem J.ifnonnullN (C : Cx X own cc n0 ret fr lo) {off : Int} (hdg : decode cc pc = .ok (.ifnonnull off, 3)) (K : J X (pc + 3) loc rest σ) : J X pc loc (.null :: rest) σ := by
  obtain ⟨p, l, e, R, s, m, args, below, meth, c, D, cI, ad, A0, ks, nL, mc, ms, Q⟩ := X
  obtain ⟨hx, hb, hml, hn0, hr, hown, hts, hlocks, hK, hcl, hfr, hlo, hmc, hms, hnw⟩ := C
  intro H locs ls hP hD hT hS hl
  exact lv_ifnonnullN hx hb hdg (K H locs ls hP hD hT hS hl)
theorem J.look2 (C : Cx X own cc n0 ret fr lo) {dflt : Int} {ps : Array (Int × Int)} {len : Nat} {x : Int32} (hdg : decode cc pc = .ok (.lookupswitch dflt ps, len)) {a0 a1 o0 o1 : Int} {v0 v1 : Int32} (hps : ps = #[(a0, o0), (a1, o1)]) (hlt : a0 < a1) (h0 : v0.toInt = a0) (h1 : v1.toInt = a1) {tgt0 tgt1 tgtd : Nat} (e0 : (pc : Int) + o0 = (tgt0 : Int)) (e1 : (pc : Int) + o1 = (tgt1 : Int)) (ed : (pc : Int) + dflt = (tgtd : Int)) {τ : Type} {A B E t : τ} (hf : (if x = v0 then A else (if x = v1 then B else E)) = t)
    (k0 : A = t → J X tgt0 loc rest σ) (k1 : B = t → J X tgt1 loc rest σ) (kd : E = t → J X tgtd loc rest σ) : J X pc loc (.int x :: rest) σ := by
  subst hps
  have hp : ((#[(a0, o0), (a1, o1)] : Array (Int × Int)).toList.zip ((#[(a0, o0), (a1, o1)] : Array (Int × Int)).toList.drop 1)).all (fun (a, next) => a.1 < next.1) = true := by simp [hlt]
  by_cases g0 : x = v0
  · rw [if_pos g0] at hf
    subst g0
    refine J.lookup C hdg hp (off := o0) ?_ e0 (k0 hf)
    show Op.lookupswitch.offset [(a0, o0), (a1, o1)] dflt x.toInt = o0
    rw [Op.lookupswitch.offset_cons, if_pos h0.symm]
  · rw [if_neg g0] at hf
    by_cases g1 : x = v1
    · rw [if_pos g1] at hf
      subst g1
      refine J.lookup C hdg hp (off := o1) ?_ e1 (k1 hf)
      show Op.lookupswitch.offset [(a0, o0), (a1, o1)] dflt x.toInt = o1
      rw [lv_osw g0 h0, Op.lookupswitch.offset_cons, if_pos h1.symm]
    · rw [if_neg g1] at hf
      refine J.lookup C hdg hp (off := dflt) ?_ ed (kd hf)
      show Op.lookupswitch.offset [(a0, o0), (a1, o1)] dflt x.toInt = dflt
      rw [lv_osw g0 h0, lv_osw g1 h1]
      rfl
end JR2
end
section
/-! THE METHODS AS FUNCTIONS over one memory, by program out of their bytecode: an answer where every index is in its row, every divisor is not 0 and every loop ends within n rounds -/
def f_X8_within (x0 : Int32) (x1 : Int32) (x2 : Int32) : Option Int32 :=
  (if x0 < x1 then some 0
  else (if x2 < x0 then some 0
  else some 1))
def f_X0_has (σ : Mem) (k : Nat) (x1 : Int32) : Option Int32 :=
  bnd (f_X8_within x1 0 ((σ k 3) - 1)) fun r_2 =>
  chk (bit r_2) (some r_2)
def f_X8_copyRow (σ : Mem) (x0 : Nat) (x1 : Nat) : Option Mem :=
  chk (ckC 0 0 (mnI (Int32.ofNat (alen x0)) (Int32.ofNat (alen x1))) (alen x0) (alen x1)) (nm (gput σ x1 (va_cpy (σ x0) (σ x1) (ix 0) (ix 0) (ix (mnI (Int32.ofNat (alen x0)) (Int32.ofNat (alen x1)))))) fun σ_1 =>
  some σ_1)
def f_X0_copy (σ : Mem) (k : Nat) (x1 : Nat) : Option Mem :=
  nm (gst σ k 3 (σ x1 3)) fun σ_1 =>
  bnd (f_X8_copyRow σ_1 (ptr x1 0) (ptr k 0)) fun σ_4 =>
  bnd (f_X8_copyRow σ_4 (ptr x1 1) (ptr k 1)) fun σ_7 =>
  bnd (f_X8_copyRow σ_7 (ptr x1 2) (ptr k 2)) fun σ_10 =>
  some σ_10
def f_X0_next_B2 (n : Nat) (σ : Mem) (k : Nat) (x1 : Int32) (x2 : Int32) : Option (Int32 ⊕ (Int32)) :=
  (if (σ k 3) ≤ x2 then some (.inl (-6))
  else chk (ckI x2 (alen (ptr k 0))) ((if (σ (ptr k 0) (ix x2)) < x1 then nm (x2 + 1) fun x2_1 =>
  some (.inr x2_1)
  else some (.inl x2))))
def f_X0_next_L2 (n : Nat) (σ : Mem) (k : Nat) (x1 : Int32) (x2 : Int32) : Option Int32 :=
  iter (fun (s : Int32) => f_X0_next_B2 n σ k x1 s) n x2
def f_X0_next (n : Nat) (σ : Mem) (k : Nat) (x1 : Int32) : Option Int32 :=
  f_X0_next_L2 n σ k x1 0
def f_X0_shift (σ : Mem) (k : Nat) (x1 : Int32) (x2 : Int32) (x3 : Int32) : Option Mem :=
  chk (ckC x1 x2 x3 (alen (ptr k 0)) (alen (ptr k 0))) (nm (gput σ (ptr k 0) (va_cpy (σ (ptr k 0)) (σ (ptr k 0)) (ix x1) (ix x2) (ix x3))) fun σ_1 =>
  chk (ckC x1 x2 x3 (alen (ptr k 1)) (alen (ptr k 1))) (nm (gput σ_1 (ptr k 1) (va_cpy (σ_1 (ptr k 1)) (σ_1 (ptr k 1)) (ix x1) (ix x2) (ix x3))) fun σ_2 =>
  chk (ckC x1 x2 x3 (alen (ptr k 2)) (alen (ptr k 2))) (nm (gput σ_2 (ptr k 2) (va_cpy (σ_2 (ptr k 2)) (σ_2 (ptr k 2)) (ix x1) (ix x2) (ix x3))) fun σ_3 =>
  some σ_3)))
def f_X0_insert_L34 (n : Nat) (σ : Mem) (k : Nat) (x1 : Int32) (x2 : Int32) (x3 : Int32) (x4 : Int32) : Option (Int32 × Mem) :=
  bnd (f_X0_shift σ k x4 (x4 + 1) ((σ k 3) - x4)) fun σ_5 =>
  chk (ckI x4 (alen (ptr k 0))) (nm (gst σ_5 (ptr k 0) (ix x4) x1) fun σ_6 =>
  chk (ckI x4 (alen (ptr k 1))) (nm (gst σ_6 (ptr k 1) (ix x4) x2) fun σ_7 =>
  chk (ckI x4 (alen (ptr k 2))) (nm (gst σ_7 (ptr k 2) (ix x4) x3) fun σ_8 =>
  nm (gst σ_8 k 3 ((σ_8 k 3) + 1)) fun σ_9 =>
  some (x4, σ_9))))
def f_X0_insert (n : Nat) (σ : Mem) (k : Nat) (x1 : Int32) (x2 : Int32) (x3 : Int32) : Option (Int32 × Mem) :=
  (if (σ k 3) < 60 then bnd (f_X0_next n σ k (x1 + 1)) fun r_2 =>
  (if r_2 = (-6) then nm ((σ k 3)) fun x4_10 =>
  f_X0_insert_L34 n σ k x1 x2 x3 x4_10
  else f_X0_insert_L34 n σ k x1 x2 x3 r_2)
  else some ((-4), σ))
def f_X0_takeOut (σ : Mem) (k : Nat) (x1 : Int32) : Option Mem :=
  bnd (f_X0_shift σ k (x1 + 1) x1 (((σ k 3) - x1) - 1)) fun σ_3 =>
  nm (gst σ_3 k 3 ((σ_3 k 3) - 1)) fun σ_4 =>
  some σ_4
def f_X0_postpone (n : Nat) (σ : Mem) (k : Nat) (x1 : Int32) (x2 : Int32) : Option (Int32 × Mem) :=
  chk (ckI x1 (alen (ptr k 0))) (nm (((σ (ptr k 0) (ix x1)) + x2)) fun x3_1 =>
  chk (ckI x1 (alen (ptr k 1))) (nm ((σ (ptr k 1) (ix x1))) fun x4_2 =>
  chk (ckI x1 (alen (ptr k 2))) (nm ((σ (ptr k 2) (ix x1))) fun x5_3 =>
  bnd (f_X0_takeOut σ k x1) fun σ_6 =>
  bnd2 (f_X0_insert n σ_6 k x3_1 x4_2 x5_3) fun r_8 σ_9 =>
  some (r_8, σ_9))))
def f_X1_obey_B2 (n : Nat) (σ : Mem) (k : Nat) (x1 : Int32) (x2 : Int32) (x3 : Int32) : Option (Mem ⊕ (Mem × Int32)) :=
  (if (σ k 8) ≤ x3 then some (.inl σ)
  else (if ((x1 >>> (x3 &&& 31)) &&& 1) = 1 then chk (ckI x3 (alen (ptr k 1))) (nm (gst σ (ptr k 1) (ix x3) x2) fun σ_2 =>
  nm (x3 + 1) fun x3_3 =>
  some (.inr (σ_2, x3_3)))
  else nm (x3 + 1) fun x3_1 =>
  some (.inr (σ, x3_1))))
def f_X1_obey_L2 (n : Nat) (σ : Mem) (k : Nat) (x1 : Int32) (x2 : Int32) (x3 : Int32) : Option Mem :=
  iter (fun (s : Mem × Int32) => f_X1_obey_B2 n s.1 k x1 x2 s.2) n (σ, x3)
def f_X1_obey (n : Nat) (σ : Mem) (k : Nat) (x1 : Int32) (x2 : Int32) : Option Mem :=
  f_X1_obey_L2 n σ k x1 x2 0
def f_X0_carryOut_B2 (n : Nat) (σ : Mem) (k : Nat) (x2 : Nat) (x1 : Int32) (x3 : Int32) : Option (Mem ⊕ (Mem × Int32)) :=
  (if (σ k 3) ≤ x3 then some (.inl σ)
  else chk (ckI x3 (alen (ptr k 0))) ((if x1 < (σ (ptr k 0) (ix x3)) then some (.inl σ)
  else chk (ckI x3 (alen (ptr k 0))) ((if (σ (ptr k 0) (ix x3)) = x1 then chk (ckI x3 (alen (ptr k 1))) (chk (ckI x3 (alen (ptr k 2))) (bnd (f_X1_obey n σ x2 (σ (ptr k 1) (ix x3)) (σ (ptr k 2) (ix x3))) fun σ_4 =>
  nm (x3 + 1) fun x3_5 =>
  some (.inr (σ_4, x3_5))))
  else nm (x3 + 1) fun x3_1 =>
  some (.inr (σ, x3_1)))))))
def f_X0_carryOut_L2 (n : Nat) (σ : Mem) (k : Nat) (x2 : Nat) (x1 : Int32) (x3 : Int32) : Option Mem :=
  iter (fun (s : Mem × Int32) => f_X0_carryOut_B2 n s.1 k x2 x1 s.2) n (σ, x3)
def f_X0_carryOut (n : Nat) (σ : Mem) (k : Nat) (x2 : Nat) (x1 : Int32) : Option Mem :=
  f_X0_carryOut_L2 n σ k x2 x1 0
def f_X1_has (σ : Mem) (k : Nat) (x1 : Int32) : Option Int32 :=
  bnd (f_X8_within x1 0 ((σ k 8) - 1)) fun r_2 =>
  chk (bit r_2) (some r_2)
def f_X4_reset_B2 (n : Nat) (σ : Mem) (k : Nat) (x1 : Int32) : Option (Mem ⊕ (Mem × Int32)) :=
  (if (σ k 3) ≤ x1 then some (.inl σ)
  else chk (ckC 0 (x1 * (Int32.ofNat (alen (ptr k 2)))) (Int32.ofNat (alen (ptr k 2))) (alen (ptr k 2)) (alen (ptr k 4))) (nm (gput σ (ptr k 4) (va_cpy (σ (ptr k 2)) (σ (ptr k 4)) (ix 0) (ix (x1 * (Int32.ofNat (alen (ptr k 2))))) (ix (Int32.ofNat (alen (ptr k 2)))))) fun σ_1 =>
  nm (x1 + 1) fun x1_2 =>
  some (.inr (σ_1, x1_2))))
def f_X4_reset_L2 (n : Nat) (σ : Mem) (k : Nat) (x1 : Int32) : Option Mem :=
  iter (fun (s : Mem × Int32) => f_X4_reset_B2 n s.1 k s.2) n (σ, x1)
def f_X4_reset (n : Nat) (σ : Mem) (k : Nat) : Option Mem :=
  f_X4_reset_L2 n σ k 0
def f_X1_begin (n : Nat) (σ : Mem) (k : Nat) (x1 : Int32) : Option Mem :=
  nm (gst σ k 8 x1) fun σ_1 =>
  bnd (f_X4_reset n σ_1 (ptr k 0)) fun σ_4 =>
  some σ_4
def f_X8_clear_B2 (n : Nat) (σ : Mem) (x0 : Nat) (x1 : Int32) : Option (Mem ⊕ (Mem × Int32)) :=
  (if (Int32.ofNat (alen x0)) ≤ x1 then some (.inl σ)
  else chk (ckI x1 (alen x0)) (nm (gst σ x0 (ix x1) 0) fun σ_1 =>
  nm (x1 + 1) fun x1_2 =>
  some (.inr (σ_1, x1_2))))
def f_X8_clear_L2 (n : Nat) (σ : Mem) (x0 : Nat) (x1 : Int32) : Option Mem :=
  iter (fun (s : Mem × Int32) => f_X8_clear_B2 n s.1 x0 s.2) n (σ, x1)
def f_X8_clear (n : Nat) (σ : Mem) (x0 : Nat) : Option Mem :=
  f_X8_clear_L2 n σ x0 0
def f_X1_goBack (n : Nat) (σ : Mem) (k : Nat) : Option Mem :=
  bnd (f_X8_clear n σ (ptr k 1)) fun σ_3 =>
  bnd (f_X8_clear n σ_3 (ptr k 2)) fun σ_6 =>
  bnd (f_X8_clear n σ_6 (ptr k 3)) fun σ_9 =>
  bnd (f_X8_clear n σ_9 (ptr k 4)) fun σ_12 =>
  bnd (f_X8_clear n σ_12 (ptr k 5)) fun σ_15 =>
  bnd (f_X8_clear n σ_15 (ptr k 6)) fun σ_18 =>
  bnd (f_X8_clear n σ_18 (ptr k 7)) fun σ_21 =>
  some σ_21
def f_X4_copy (σ : Mem) (k : Nat) (x1 : Nat) : Option Mem :=
  bnd (f_X8_copyRow σ (ptr x1 4) (ptr k 4)) fun σ_3 =>
  some σ_3
def f_X1_copy (σ : Mem) (k : Nat) (x1 : Nat) : Option Mem :=
  nm (gst σ k 8 (σ x1 8)) fun σ_1 =>
  bnd (f_X4_copy σ_1 (ptr k 0) (ptr x1 0)) fun σ_4 =>
  bnd (f_X8_copyRow σ_4 (ptr x1 1) (ptr k 1)) fun σ_7 =>
  bnd (f_X8_copyRow σ_7 (ptr x1 2) (ptr k 2)) fun σ_10 =>
  bnd (f_X8_copyRow σ_10 (ptr x1 3) (ptr k 3)) fun σ_13 =>
  bnd (f_X8_copyRow σ_13 (ptr x1 4) (ptr k 4)) fun σ_16 =>
  bnd (f_X8_copyRow σ_16 (ptr x1 5) (ptr k 5)) fun σ_19 =>
  bnd (f_X8_copyRow σ_19 (ptr x1 6) (ptr k 6)) fun σ_22 =>
  bnd (f_X8_copyRow σ_22 (ptr x1 7) (ptr k 7)) fun σ_25 =>
  some σ_25
def f_J9_floorMod_7cf53 (x0 : Int32) (x1 : Int32) : Option Int32 :=
  chk (decide (¬ x1 = 0)) (nm ((irm x0 x1)) fun x2_1 =>
  (if 0 ≤ (x0 ^^^ x1) then some x2_1
  else (if x2_1 = 0 then some x2_1
  else some (x2_1 + x1))))
def f_X1_rowOf (x0 : Int32) : Option Int32 :=
  bnd (f_J9_floorMod_7cf53 x0 51) fun r_2 =>
  some (r_2 * 12)
def f_X1_keepCommands (σ : Mem) (k : Nat) (x1 : Int32) : Option Mem :=
  bnd (f_X1_rowOf x1) fun r_2 =>
  chk (ckC 0 r_2 12 (alen (ptr k 1)) (alen (ptr k 7))) (nm (gput σ (ptr k 7) (va_cpy (σ (ptr k 1)) (σ (ptr k 7)) (ix 0) (ix r_2) (ix 12))) fun σ_3 =>
  some σ_3)
def f_X1_commandAt (σ : Mem) (k : Nat) (x1 : Int32) (x2 : Int32) : Option Int32 :=
  (if 0 ≤ x1 then bnd (f_X1_rowOf x1) fun r_2 =>
  chk (ckI (r_2 + x2) (alen (ptr k 7))) (some (σ (ptr k 7) (ix (r_2 + x2))))
  else some 0)
def f_X4_value (σ : Mem) (k : Nat) (x1 : Int32) (x2 : Int32) : Option Int32 :=
  nm (((x1 * (Int32.ofNat (alen (ptr k 2)))) + x2)) fun x3_1 =>
  (if x3_1 < 0 then some 0
  else (if (Int32.ofNat (alen (ptr k 4))) ≤ x3_1 then some 0
  else chk (ckI x3_1 (alen (ptr k 4))) (some (σ (ptr k 4) (ix x3_1)))))
def f_X8_toward (x0 : Int32) (x1 : Int32) (x2 : Int32) : Option Int32 :=
  (if x1 ≤ x0 then some (mxI x1 (x0 - x2))
  else some (mnI x1 (x0 + x2)))
def f_X1_open_L69 (n : Nat) (σ : Mem) (k : Nat) (x1 : Int32) (x2 : Int32) (x3 : Int32) (x4 : Int32) (x5 : Int32) : Option (Mem ⊕ (Mem × Int32)) :=
  chk (ckI x4 (alen (ptr k 2))) (bnd (f_X4_value σ (ptr k 0) x4 3) fun r_6 =>
  bnd (f_X8_toward (σ (ptr k 2) (ix x4)) x5 r_6) fun r_8 =>
  chk (ckI x4 (alen (ptr k 2))) (nm (gst σ (ptr k 2) (ix x4) r_8) fun σ_9 =>
  nm (x4 + 1) fun x4_10 =>
  some (.inr (σ_9, x4_10))))
def f_X1_open_B3 (n : Nat) (σ : Mem) (k : Nat) (x1 : Int32) (x2 : Int32) (x3 : Int32) (x4 : Int32) : Option (Mem ⊕ (Mem × Int32)) :=
  (if (σ k 8) ≤ x4 then some (.inl σ)
  else bnd (f_X4_value σ (ptr k 0) x4 2) fun r_2 =>
  bnd (f_X1_commandAt σ k (x1 - r_2) x4) fun r_4 =>
  (if x2 = 1 then nm (gst σ k 9 (mxI (σ k 9) r_4)) fun σ_11 =>
  nm ((mnI r_4 x3)) fun x5_12 =>
  f_X1_open_L69 n σ_11 k x1 x2 x3 x4 x5_12
  else (if x2 = 2 then f_X1_open_L69 n σ k x1 x2 x3 x4 0
  else f_X1_open_L69 n σ k x1 x2 x3 x4 r_4)))
def f_X1_open_L3 (n : Nat) (σ : Mem) (k : Nat) (x1 : Int32) (x2 : Int32) (x3 : Int32) (x4 : Int32) : Option Mem :=
  iter (fun (s : Mem × Int32) => f_X1_open_B3 n s.1 k x1 x2 x3 s.2) n (σ, x4)
def f_X1_open (n : Nat) (σ : Mem) (k : Nat) (x1 : Int32) (x2 : Int32) (x3 : Int32) : Option Mem :=
  f_X1_open_L3 n σ k x1 x2 x3 0
def f_X1_demandAt (σ : Mem) (k : Nat) (x1 : Int32) : Option Int32 :=
  chk (ckI x1 (alen (ptr k 2))) (bnd (f_X4_value σ (ptr k 0) x1 0) fun r_2 =>
  some ((σ (ptr k 2) (ix x1)) * r_2))
def f_X1_demandOf_B4 (n : Nat) (σ : Mem) (k : Nat) (x1 : Int32) (x2 : Int32) (x3 : Int32) : Option (Int32 ⊕ (Int32 × Int32)) :=
  (if (σ k 8) ≤ x3 then some (.inl x2)
  else bnd (f_X4_value σ (ptr k 0) x3 4) fun r_2 =>
  (if r_2 = x1 then bnd (f_X1_demandAt σ k x3) fun r_5 =>
  nm ((x2 + r_5)) fun x2_6 =>
  nm (x3 + 1) fun x3_7 =>
  some (.inr (x2_6, x3_7))
  else nm (x3 + 1) fun x3_3 =>
  some (.inr (x2, x3_3))))
def f_X1_demandOf_L4 (n : Nat) (σ : Mem) (k : Nat) (x1 : Int32) (x2 : Int32) (x3 : Int32) : Option Int32 :=
  iter (fun (s : Int32 × Int32) => f_X1_demandOf_B4 n σ k x1 s.1 s.2) n (x2, x3)
def f_X1_demandOf (n : Nat) (σ : Mem) (k : Nat) (x1 : Int32) : Option Int32 :=
  f_X1_demandOf_L4 n σ k x1 0 0
def f_J9_floorDiv_f86c9 (x0 : Int64) (x2 : Int64) : Option Int64 :=
  chk (decide (¬ x2 = 0)) (nm ((x0 / x2)) fun x4_1 =>
  (if 0 ≤ (lg_cmp (x0 ^^^ x2) (0 : Int64)) then some x4_1
  else (if (lg_cmp (x4_1 * x2) x0) = 0 then some x4_1
  else some (x4_1 - (1 : Int64)))))
def f_X8_quotient (x0 : Int64) (x2 : Int64) : Option Int64 :=
  (if 0 ≤ (lg_cmp x2 (1 : Int64)) then bnd (f_J9_floorDiv_f86c9 x0 x2) fun r_2 =>
  some r_2
  else some (0 : Int64))
def f_X1_flow_L62 (n : Nat) (σ : Mem) (k : Nat) (x1 : Int32) (x2 : Int32) (x3 : Int32) (x4 : Int32) (y0 : Int32) (y1 : Int32) : Option (Mem ⊕ (Mem × Int32)) :=
  chk (ckI y1 (alen (ptr k 3))) (nm (gst σ (ptr k 3) (ix y1) y0) fun σ_8 =>
  nm (x4 + 1) fun x4_9 =>
  some (.inr (σ_8, x4_9)))
def f_X1_flow_B3 (n : Nat) (σ : Mem) (k : Nat) (x1 : Int32) (x2 : Int32) (x3 : Int32) (x4 : Int32) : Option (Mem ⊕ (Mem × Int32)) :=
  (if (σ k 8) ≤ x4 then some (.inl σ)
  else bnd (f_X4_value σ (ptr k 0) x4 4) fun r_2 =>
  (if r_2 = x1 then bnd (f_X1_demandAt σ k x4) fun r_5 =>
  (if x3 < x2 then bnd (f_X8_quotient ((r_5.toInt64) * (x3.toInt64)) (x2.toInt64)) fun r_7 =>
  f_X1_flow_L62 n σ k x1 x2 x3 x4 (r_7.toInt32) x4
  else f_X1_flow_L62 n σ k x1 x2 x3 x4 r_5 x4)
  else nm (x4 + 1) fun x4_3 =>
  some (.inr (σ, x4_3))))
def f_X1_flow_L3 (n : Nat) (σ : Mem) (k : Nat) (x1 : Int32) (x2 : Int32) (x3 : Int32) (x4 : Int32) : Option Mem :=
  iter (fun (s : Mem × Int32) => f_X1_flow_B3 n s.1 k x1 x2 x3 s.2) n (σ, x4)
def f_X1_flow (n : Nat) (σ : Mem) (k : Nat) (x1 : Int32) (x2 : Int32) (x3 : Int32) : Option Mem :=
  f_X1_flow_L3 n σ k x1 x2 x3 0
def f_X1_rise_B2 (n : Nat) (σ : Mem) (k : Nat) (x1 : Int32) (x2 : Int32) : Option (Mem ⊕ (Mem × Int32)) :=
  (if (σ k 8) ≤ x2 then some (.inl σ)
  else chk (ckI x2 (alen (ptr k 3))) (bnd (f_X4_value σ (ptr k 0) x2 0) fun r_2 =>
  bnd (f_X8_quotient ((σ (ptr k 3) (ix x2)).toInt64) (r_2.toInt64)) fun r_4 =>
  bnd (f_X4_value σ (ptr k 0) x2 1) fun r_6 =>
  chk (ckI x2 (alen (ptr k 4))) (nm (gst σ (ptr k 4) (ix x2) (((((r_6.toInt64) * r_4) * r_4) / (1000000 : Int64)).toInt32)) fun σ_7 =>
  chk (ckI x2 (alen (ptr k 4))) (bnd (f_X4_value σ_7 (ptr k 0) x2 5) fun r_9 =>
  chk (ckI x2 (alen (ptr k 5))) (nm (gst σ_7 (ptr k 5) (ix x2) ((((((σ_7 (ptr k 4) (ix x2)).toInt64) * (x1.toInt64)) * (r_9.toInt64)) / (100000 : Int64)).toInt32)) fun σ_10 =>
  chk (ckI x2 (alen (ptr k 6))) (chk (ckI x2 (alen (ptr k 4))) (chk (ckI x2 (alen (ptr k 6))) (nm (gst σ_10 (ptr k 6) (ix x2) (mxI (σ_10 (ptr k 6) (ix x2)) (σ_10 (ptr k 4) (ix x2)))) fun σ_11 =>
  nm (x2 + 1) fun x2_12 =>
  some (.inr (σ_11, x2_12))))))))))
def f_X1_rise_L2 (n : Nat) (σ : Mem) (k : Nat) (x1 : Int32) (x2 : Int32) : Option Mem :=
  iter (fun (s : Mem × Int32) => f_X1_rise_B2 n s.1 k x1 s.2) n (σ, x2)
def f_X1_rise (n : Nat) (σ : Mem) (k : Nat) (x1 : Int32) : Option Mem :=
  f_X1_rise_L2 n σ k x1 0
def f_X1_driftsBeyond_B2 (n : Nat) (σ : Mem) (k : Nat) (x1 : Int32) (x2 : Int32) : Option (Int32 ⊕ (Int32)) :=
  (if (σ k 8) ≤ x2 then some (.inl 0)
  else chk (ckI x2 (alen (ptr k 5))) ((if (σ (ptr k 5) (ix x2)) ≤ x1 then nm (x2 + 1) fun x2_1 =>
  some (.inr x2_1)
  else some (.inl 1))))
def f_X1_driftsBeyond_L2 (n : Nat) (σ : Mem) (k : Nat) (x1 : Int32) (x2 : Int32) : Option Int32 :=
  iter (fun (s : Int32) => f_X1_driftsBeyond_B2 n σ k x1 s) n x2
def f_X1_driftsBeyond (n : Nat) (σ : Mem) (k : Nat) (x1 : Int32) : Option Int32 :=
  f_X1_driftsBeyond_L2 n σ k x1 0
def f_X1_greatestHeightNow_B4 (n : Nat) (σ : Mem) (k : Nat) (x1 : Int32) (x2 : Int32) : Option (Int32 ⊕ (Int32 × Int32)) :=
  (if (σ k 8) ≤ x2 then some (.inl x1)
  else chk (ckI x2 (alen (ptr k 4))) (nm ((mxI x1 (σ (ptr k 4) (ix x2)))) fun x1_1 =>
  nm (x2 + 1) fun x2_2 =>
  some (.inr (x1_1, x2_2))))
def f_X1_greatestHeightNow_L4 (n : Nat) (σ : Mem) (k : Nat) (x1 : Int32) (x2 : Int32) : Option Int32 :=
  iter (fun (s : Int32 × Int32) => f_X1_greatestHeightNow_B4 n σ k s.1 s.2) n (x1, x2)
def f_X1_greatestHeightNow (n : Nat) (σ : Mem) (k : Nat) : Option Int32 :=
  f_X1_greatestHeightNow_L4 n σ k 0 0
def f_X2_append (σ : Mem) (k : Nat) (x1 : Int32) : Option (Int32 × Mem) :=
  (if (σ k 2) < 80 then chk (ckI (σ k 2) (alen (ptr k 1))) (nm (gst σ (ptr k 1) (ix (σ k 2)) (vp_nar .char x1)) fun σ_1 =>
  nm (gst σ_1 k 2 ((σ_1 k 2) + 1)) fun σ_2 =>
  some ((σ_2 k 2), σ_2))
  else some ((-4), σ))
def f_X2_endsCue (n : Nat) (σ : Mem) (k : Nat) : Option (Int32 × Mem) :=
  (if (σ k 3) = 2 then (if (σ k 6) = (-1) then some (0, σ)
  else bnd2 (f_X0_insert n σ (ptr k 0) (σ k 4) (σ k 5) (σ k 6)) fun r_2 σ_3 =>
  nm (gst σ_3 k 6 (-1)) fun σ_4 =>
  nm (gst σ_4 k 3 0) fun σ_5 =>
  some (1, σ_5))
  else some (0, σ))
def f_X2_endsSet (σ : Mem) (k : Nat) : Option (Int32 × Mem) :=
  nm (gst σ k 6 (-1)) fun σ_1 =>
  nm (gst σ_1 k 3 2) fun σ_2 =>
  (if (σ_2 k 5) = 0 then some (0, σ_2)
  else some (1, σ_2))
def f_X2_endsTime (σ : Mem) (k : Nat) : Option (Int32 × Mem) :=
  nm (gst σ k 4 (σ k 6)) fun σ_1 =>
  nm (gst σ_1 k 5 0) fun σ_2 =>
  nm (gst σ_2 k 3 1) fun σ_3 =>
  (if (σ_3 k 6) = (-1) then some (0, σ_3)
  else some (1, σ_3))
def f_X2_isDigitUpTo_L48 (σ : Mem) (k : Nat) (x1 : Int32) (y0 : Int32) : Option (Int32 × Mem) :=
  nm (gst σ k 6 y0) fun σ_2 =>
  (if x1 < (σ_2 k 6) then some (0, σ_2)
  else some (1, σ_2))
def f_X2_isDigitUpTo (σ : Mem) (k : Nat) (x1 : Int32) (x2 : Int32) : Option (Int32 × Mem) :=
  (if x2 < 48 then some (0, σ)
  else (if 57 < x2 then some (0, σ)
  else (if (σ k 6) = 0 then some (0, σ)
  else nm ((x2 - 48)) fun x3_1 =>
  (if (σ k 6) = (-1) then f_X2_isDigitUpTo_L48 σ k x1 x3_1
  else f_X2_isDigitUpTo_L48 σ k x1 ((10 * (σ k 6)) + x3_1)))))
def f_X2_isLetter_L34 (σ : Mem) (k : Nat) (x2 : Int32) (y0 : Int32) : Option (Int32 × Mem) :=
  nm (gst σ k 5 ((σ k 5) ||| x2)) fun σ_2 =>
  chk (bit y0) (some (y0, σ_2))
def f_X2_isLetter (σ : Mem) (k : Nat) (x1 : Int32) : Option (Int32 × Mem) :=
  (if x1 < 97 then some (0, σ)
  else (if x1 ≤ 108 then nm ((1 <<< ((x1 - 97) &&& 31))) fun x2_1 =>
  (if x2_1 ≤ (σ k 5) then f_X2_isLetter_L34 σ k x2_1 0
  else f_X2_isLetter_L34 σ k x2_1 1)
  else some (0, σ)))
def f_X2_accepts (n : Nat) (σ : Mem) (k : Nat) (x1 : Int32) : Option (Int32 × Mem) :=
  nm ((σ k 3)) fun z_1 =>
  (if z_1 = 0 then (if x1 = 58 then bnd2 (f_X2_endsTime σ k) fun r_6 σ_7 =>
  chk (bit r_6) (some (r_6, σ_7))
  else bnd2 (f_X2_isDigitUpTo σ k 9999 x1) fun r_3 σ_4 =>
  chk (bit r_3) (some (r_3, σ_4)))
  else (if z_1 = 1 then (if x1 = 61 then bnd2 (f_X2_endsSet σ k) fun r_12 σ_13 =>
  chk (bit r_12) (some (r_12, σ_13))
  else bnd2 (f_X2_isLetter σ k x1) fun r_9 σ_10 =>
  chk (bit r_9) (some (r_9, σ_10)))
  else (if x1 = 44 then bnd2 (f_X2_endsCue n σ k) fun r_18 σ_19 =>
  chk (bit r_18) (some (r_18, σ_19))
  else bnd2 (f_X2_isDigitUpTo σ k 1000 x1) fun r_15 σ_16 =>
  chk (bit r_15) (some (r_15, σ_16)))))
def f_X2_findFault_B20 (n : Nat) (σ : Mem) (k : Nat) (x1 : Int32) : Option ((Int32 × Mem) ⊕ (Mem × Int32)) :=
  (if (σ k 2) ≤ x1 then bnd2 (f_X2_endsCue n σ k) fun r_5 σ_6 =>
  (if r_5 = 0 then some (.inl ((σ_6 k 2), σ_6))
  else some (.inl ((-6), σ_6)))
  else chk (ckI x1 (alen (ptr k 1))) (bnd2 (f_X2_accepts n σ k (σ (ptr k 1) (ix x1))) fun r_8 σ_9 =>
  (if r_8 = 0 then some (.inl (x1, σ_9))
  else nm (x1 + 1) fun x1_10 =>
  some (.inr (σ_9, x1_10)))))
def f_X2_findFault_L20 (n : Nat) (σ : Mem) (k : Nat) (x1 : Int32) : Option (Int32 × Mem) :=
  iter (fun (s : Mem × Int32) => f_X2_findFault_B20 n s.1 k s.2) n (σ, x1)
def f_X2_findFault (n : Nat) (σ : Mem) (k : Nat) : Option (Int32 × Mem) :=
  nm (gst σ (ptr k 0) 3 0) fun σ_1 =>
  nm (gst σ_1 k 3 0) fun σ_2 =>
  nm (gst σ_2 k 6 (-1)) fun σ_3 =>
  f_X2_findFault_L20 n σ_3 k 0
def f_X3_goBack (n : Nat) (σ : Mem) (k : Nat) : Option Mem :=
  bnd (f_X8_clear n σ (ptr k 1)) fun σ_3 =>
  bnd (f_X8_clear n σ_3 (ptr k 2)) fun σ_6 =>
  bnd (f_X8_clear n σ_6 (ptr k 3)) fun σ_9 =>
  some σ_9
def f_X3_copy (σ : Mem) (k : Nat) (x1 : Nat) : Option Mem :=
  bnd (f_X4_copy σ (ptr k 0) (ptr x1 0)) fun σ_3 =>
  bnd (f_X8_copyRow σ_3 (ptr x1 1) (ptr k 1)) fun σ_6 =>
  bnd (f_X8_copyRow σ_6 (ptr x1 2) (ptr k 2)) fun σ_9 =>
  bnd (f_X8_copyRow σ_9 (ptr x1 3) (ptr k 3)) fun σ_12 =>
  some σ_12
def f_X3_supply_B2 (n : Nat) (σ : Mem) (k : Nat) (x1 : Nat) (x2 : Int32) : Option (Mem ⊕ (Mem × Int32)) :=
  (if 3 ≤ x2 then some (.inl σ)
  else bnd (f_X1_demandOf n σ x1 x2) fun r_2 =>
  chk (ckI x2 (alen (ptr k 2))) (nm (gst σ (ptr k 2) (ix x2) r_2) fun σ_3 =>
  chk (ckI x2 (alen (ptr k 2))) (bnd (f_X4_value σ_3 (ptr k 0) x2 0) fun r_5 =>
  nm ((mnI (σ_3 (ptr k 2) (ix x2)) (1000 * r_5))) fun x3_6 =>
  chk (ckI x2 (alen (ptr k 1))) (bnd (f_X4_value σ_3 (ptr k 0) x2 1) fun r_8 =>
  bnd (f_X8_toward (σ_3 (ptr k 1) (ix x2)) x3_6 (1000 * r_8)) fun r_10 =>
  chk (ckI x2 (alen (ptr k 1))) (nm (gst σ_3 (ptr k 1) (ix x2) r_10) fun σ_11 =>
  chk (ckI x2 (alen (ptr k 2))) (chk (ckI x2 (alen (ptr k 1))) (bnd (f_X1_flow n σ_11 x1 x2 (σ_11 (ptr k 2) (ix x2)) (σ_11 (ptr k 1) (ix x2))) fun σ_14 =>
  nm (x2 + 1) fun x2_15 =>
  some (.inr (σ_14, x2_15)))))))))
def f_X3_supply_L2 (n : Nat) (σ : Mem) (k : Nat) (x1 : Nat) (x2 : Int32) : Option Mem :=
  iter (fun (s : Mem × Int32) => f_X3_supply_B2 n s.1 k x1 s.2) n (σ, x2)
def f_X3_supply (n : Nat) (σ : Mem) (k : Nat) (x1 : Nat) : Option Mem :=
  f_X3_supply_L2 n σ k x1 0
def f_X3_isShort (σ : Mem) (k : Nat) (x1 : Int32) : Option Int32 :=
  chk (ckI x1 (alen (ptr k 2))) (chk (ckI x1 (alen (ptr k 1))) ((if (σ (ptr k 2) (ix x1)) ≤ (σ (ptr k 1) (ix x1)) then some 0
  else some 1)))
def f_X3_countShort_B2 (n : Nat) (σ : Mem) (k : Nat) (x1 : Int32) : Option (Mem ⊕ (Mem × Int32)) :=
  (if 3 ≤ x1 then some (.inl σ)
  else bnd (f_X3_isShort σ k x1) fun r_2 =>
  (if r_2 = 0 then nm (x1 + 1) fun x1_3 =>
  some (.inr (σ, x1_3))
  else chk (ckI x1 (alen (ptr k 3))) (chk (ckI x1 (alen (ptr k 3))) (nm (gst σ (ptr k 3) (ix x1) ((σ (ptr k 3) (ix x1)) + 1)) fun σ_4 =>
  nm (x1 + 1) fun x1_5 =>
  some (.inr (σ_4, x1_5))))))
def f_X3_countShort_L2 (n : Nat) (σ : Mem) (k : Nat) (x1 : Int32) : Option Mem :=
  iter (fun (s : Mem × Int32) => f_X3_countShort_B2 n s.1 k s.2) n (σ, x1)
def f_X3_countShort (n : Nat) (σ : Mem) (k : Nat) : Option Mem :=
  f_X3_countShort_L2 n σ k 0
def f_X3_someShort_B2 (n : Nat) (σ : Mem) (k : Nat) (x1 : Int32) : Option (Int32 ⊕ (Int32)) :=
  (if 3 ≤ x1 then some (.inl 0)
  else bnd (f_X3_isShort σ k x1) fun r_2 =>
  (if r_2 = 0 then nm (x1 + 1) fun x1_3 =>
  some (.inr x1_3)
  else some (.inl 1)))
def f_X3_someShort_L2 (n : Nat) (σ : Mem) (k : Nat) (x1 : Int32) : Option Int32 :=
  iter (fun (s : Int32) => f_X3_someShort_B2 n σ k s) n x1
def f_X3_someShort (n : Nat) (σ : Mem) (k : Nat) : Option Int32 :=
  f_X3_someShort_L2 n σ k 0
def f_X4_change (σ : Mem) (k : Nat) (x1 : Int32) (x2 : Int32) (x3 : Int32) : Option (Int32 × Mem) :=
  bnd (f_X8_within x1 0 ((σ k 3) - 1)) fun r_2 =>
  (if r_2 = 0 then some ((-2), σ)
  else bnd (f_X8_within x2 0 ((Int32.ofNat (alen (ptr k 2))) - 1)) fun r_4 =>
  (if r_4 = 0 then some ((-2), σ)
  else chk (ckI x2 (alen (ptr k 0))) (chk (ckI x2 (alen (ptr k 1))) (bnd (f_X8_within x3 (σ (ptr k 0) (ix x2)) (σ (ptr k 1) (ix x2))) fun r_6 =>
  (if r_6 = 0 then some ((-2), σ)
  else nm (((x1 * (Int32.ofNat (alen (ptr k 2)))) + x2)) fun x4_7 =>
  chk (ckI x4_7 (alen (ptr k 4))) (nm ((σ (ptr k 4) (ix x4_7))) fun x5_8 =>
  chk (ckI x4_7 (alen (ptr k 4))) (nm (gst σ (ptr k 4) (ix x4_7) x3) fun σ_9 =>
  some (x5_8, σ_9))))))))
def f_X7_goBack (σ : Mem) (k : Nat) : Option Mem :=
  nm (gst σ k 1 0) fun σ_1 =>
  nm (gst σ_1 k 2 0) fun σ_2 =>
  nm (gst σ_2 k 3 0) fun σ_3 =>
  some σ_3
def f_X5_goBack (n : Nat) (σ : Mem) (k : Nat) : Option Mem :=
  bnd (f_X1_goBack n σ (ptr k 1)) fun σ_3 =>
  bnd (f_X3_goBack n σ_3 (ptr k 2)) fun σ_6 =>
  bnd (f_X7_goBack σ_6 (ptr k 3)) fun σ_9 =>
  nm (gst σ_9 k 5 0) fun σ_10 =>
  nm (gst σ_10 k 6 0) fun σ_11 =>
  some σ_11
def f_X5_begin (n : Nat) (σ : Mem) (k : Nat) (x1 : Int32) : Option Mem :=
  bnd (f_X4_reset n σ (ptr k 0)) fun σ_3 =>
  bnd (f_X1_begin n σ_3 (ptr k 1) x1) fun σ_6 =>
  bnd (f_X4_reset n σ_6 (ptr (ptr k 2) 0)) fun σ_9 =>
  nm (gst σ_9 (ptr k 3) 0 0) fun σ_10 =>
  nm (gst σ_10 (ptr k 4) 3 0) fun σ_11 =>
  bnd (f_X5_goBack n σ_11 k) fun σ_14 =>
  some σ_14
def f_X7_copy (σ : Mem) (k : Nat) (x1 : Nat) : Option Mem :=
  nm (gst σ k 0 (σ x1 0)) fun σ_1 =>
  nm (gst σ_1 k 1 (σ_1 x1 1)) fun σ_2 =>
  nm (gst σ_2 k 2 (σ_2 x1 2)) fun σ_3 =>
  nm (gst σ_3 k 3 (σ_3 x1 3)) fun σ_4 =>
  some σ_4
def f_X5_copy (σ : Mem) (k : Nat) (x1 : Nat) : Option Mem :=
  bnd (f_X4_copy σ (ptr k 0) (ptr x1 0)) fun σ_3 =>
  bnd (f_X1_copy σ_3 (ptr k 1) (ptr x1 1)) fun σ_6 =>
  bnd (f_X3_copy σ_6 (ptr k 2) (ptr x1 2)) fun σ_9 =>
  bnd (f_X7_copy σ_9 (ptr k 3) (ptr x1 3)) fun σ_12 =>
  bnd (f_X0_copy σ_12 (ptr k 4) (ptr x1 4)) fun σ_15 =>
  nm (gst σ_15 k 5 (σ_15 x1 5)) fun σ_16 =>
  nm (gst σ_16 k 6 (σ_16 x1 6)) fun σ_17 =>
  some σ_17
def f_X7_enter (σ : Mem) (k : Nat) (x1 : Int32) : Option Mem :=
  nm (gst σ k 2 x1) fun σ_1 =>
  nm (gst σ_1 k 3 0) fun σ_2 =>
  some σ_2
def f_X7_calmDown (σ : Mem) (k : Nat) (x1 : Int32) : Option Mem :=
  nm (gst σ k 3 ((σ k 3) + 1)) fun σ_1 =>
  (if (σ_1 k 3) < x1 then some σ_1
  else bnd (f_X7_enter σ_1 k ((σ_1 k 2) - 1)) fun σ_4 =>
  some σ_4)
def f_X7_measured (σ : Mem) (k : Nat) : Option Int32 :=
  some ((σ k 1) / 1024)
def f_X7_blow_L130 (σ : Mem) (k : Nat) (x1 : Nat) : Option Mem :=
  nm (gst σ k 3 0) fun σ_14 =>
  some σ_14
def f_X7_blow_L111 (σ : Mem) (k : Nat) (x1 : Nat) (y0 : Int32) (y1 : Int32) : Option Mem :=
  (if (y0 - 10) ≤ y1 then f_X7_blow_L130 σ k x1
  else bnd (f_X4_value σ x1 0 4) fun r_18 =>
  bnd (f_X7_calmDown σ k r_18) fun σ_21 =>
  some σ_21)
def f_X7_blow_L87 (σ : Mem) (k : Nat) (x1 : Nat) (x2 : Int32) (x3 : Int32) : Option Mem :=
  (if (σ k 2) ≤ 0 then f_X7_blow_L130 σ k x1
  else bnd (f_X7_measured σ k) fun r_16 =>
  (if (σ k 2) = 2 then f_X7_blow_L111 σ k x1 x3 r_16
  else f_X7_blow_L111 σ k x1 x2 r_16))
def f_X7_blow (σ : Mem) (k : Nat) (x1 : Nat) : Option Mem :=
  bnd (f_X4_value σ x1 0 0) fun r_2 =>
  bnd (f_X8_quotient (((1024 * (σ k 0)) - (σ k 1)).toInt64) (r_2.toInt64)) fun r_4 =>
  nm (gst σ k 1 ((σ k 1) + (r_4.toInt32))) fun σ_5 =>
  bnd (f_X4_value σ_5 x1 0 1) fun r_7 =>
  bnd (f_X4_value σ_5 x1 0 2) fun r_9 =>
  bnd (f_X7_measured σ_5 k) fun r_11 =>
  (if r_11 < r_9 then bnd (f_X7_measured σ_5 k) fun r_13 =>
  (if r_13 < r_7 then f_X7_blow_L87 σ_5 k x1 r_7 r_9
  else (if (σ_5 k 2) = 0 then bnd (f_X7_enter σ_5 k 1) fun σ_24 =>
  some σ_24
  else f_X7_blow_L87 σ_5 k x1 r_7 r_9))
  else bnd (f_X7_enter σ_5 k 2) fun σ_27 =>
  some σ_27)
def f_X5_makeTick_L125 (n : Nat) (σ : Mem) (k : Nat) : Option Mem :=
  nm (gst σ k 5 ((σ k 5) + 1)) fun σ_30 =>
  some σ_30
def f_X5_makeTick (n : Nat) (σ : Mem) (k : Nat) : Option Mem :=
  bnd (f_X0_carryOut n σ (ptr k 4) (ptr k 1) (σ k 5)) fun σ_3 =>
  bnd (f_X1_keepCommands σ_3 (ptr k 1) (σ_3 k 5)) fun σ_6 =>
  bnd (f_X7_blow σ_6 (ptr k 3) (ptr k 0)) fun σ_9 =>
  bnd (f_X4_value σ_9 (ptr k 0) 0 3) fun r_11 =>
  bnd (f_X1_open n σ_9 (ptr k 1) (σ_9 k 5) (σ_9 (ptr k 3) 2) r_11) fun σ_14 =>
  bnd (f_X3_supply n σ_14 (ptr k 2) (ptr k 1)) fun σ_17 =>
  bnd (f_X7_measured σ_17 (ptr k 3)) fun r_19 =>
  bnd (f_X1_rise n σ_17 (ptr k 1) r_19) fun σ_22 =>
  bnd (f_X3_countShort n σ_22 (ptr k 2)) fun σ_25 =>
  bnd (f_X4_value σ_25 (ptr k 0) 0 5) fun r_27 =>
  bnd (f_X1_driftsBeyond n σ_25 (ptr k 1) r_27) fun r_29 =>
  (if r_29 = 0 then f_X5_makeTick_L125 n σ_25 k
  else nm (gst σ_25 k 6 ((σ_25 k 6) + 1)) fun σ_31 =>
  f_X5_makeTick_L125 n σ_31 k)
def f_X8_setUp (n : Nat) (σ : Mem) (k : Nat) (x1 : Int32) : Option (Int32 × Mem) :=
  bnd (f_X8_within x1 1 12) fun r_2 =>
  (if r_2 = 0 then some ((-2), σ)
  else nm ((σ (ptr (ptr k 0) 1) 8)) fun x2_3 =>
  bnd (f_X5_begin n σ (ptr k 0) x1) fun σ_6 =>
  some (x2_3, σ_6))
def f_X8_nozzle (σ : Mem) (k : Nat) (x1 : Int32) (x2 : Int32) (x3 : Int32) : Option (Int32 × Mem) :=
  bnd (f_X1_has σ (ptr (ptr k 0) 1) x1) fun r_2 =>
  (if r_2 = 0 then some ((-1), σ)
  else bnd2 (f_X4_change σ (ptr (ptr (ptr k 0) 1) 0) x1 x2 x3) fun r_4 σ_5 =>
  some (r_4, σ_5))
def f_X8_pump (σ : Mem) (k : Nat) (x1 : Int32) (x2 : Int32) (x3 : Int32) : Option (Int32 × Mem) :=
  bnd (f_X8_within x1 0 2) fun r_2 =>
  (if r_2 = 0 then some ((-1), σ)
  else bnd2 (f_X4_change σ (ptr (ptr (ptr k 0) 2) 0) x1 x2 x3) fun r_4 σ_5 =>
  some (r_4, σ_5))
def f_X8_set (σ : Mem) (k : Nat) (x1 : Int32) (x2 : Int32) : Option (Int32 × Mem) :=
  bnd2 (f_X4_change σ (ptr (ptr k 0) 0) 0 x1 x2) fun r_2 σ_3 =>
  some (r_2, σ_3)
def f_X8_wind (σ : Mem) (k : Nat) (x1 : Int32) : Option (Int32 × Mem) :=
  bnd (f_X8_within x1 0 300) fun r_2 =>
  (if r_2 = 0 then some ((-2), σ)
  else nm ((σ (ptr (ptr k 0) 3) 0)) fun x2_3 =>
  nm (gst σ (ptr (ptr k 0) 3) 0 x1) fun σ_4 =>
  some (x2_3, σ_4))
def f_X8_cue (n : Nat) (σ : Mem) (k : Nat) (x1 : Int32) (x2 : Int32) (x3 : Int32) : Option (Int32 × Mem) :=
  bnd (f_X8_within x1 0 100000) fun r_2 =>
  (if r_2 = 0 then some ((-2), σ)
  else bnd (f_X8_within x2 1 4095) fun r_4 =>
  (if r_4 = 0 then some ((-2), σ)
  else bnd (f_X8_within x3 0 1000) fun r_6 =>
  (if r_6 = 0 then some ((-2), σ)
  else bnd2 (f_X0_insert n σ (ptr (ptr k 0) 4) x1 x2 x3) fun r_8 σ_9 =>
  some (r_8, σ_9))))
def f_X8_remove (σ : Mem) (k : Nat) (x1 : Int32) : Option (Int32 × Mem) :=
  bnd (f_X0_has σ (ptr (ptr k 0) 4) x1) fun r_2 =>
  (if r_2 = 0 then some ((-1), σ)
  else bnd (f_X0_takeOut σ (ptr (ptr k 0) 4) x1) fun σ_5 =>
  some ((σ_5 (ptr (ptr k 0) 4) 3), σ_5))
def f_X8_move (n : Nat) (σ : Mem) (k : Nat) (x1 : Int32) (x2 : Int32) : Option (Int32 × Mem) :=
  bnd (f_X0_has σ (ptr (ptr k 0) 4) x1) fun r_2 =>
  (if r_2 = 0 then some ((-1), σ)
  else bnd (f_X8_within x2 (-100000) 100000) fun r_4 =>
  (if r_4 = 0 then some ((-2), σ)
  else chk (ckI x1 (alen (ptr (ptr (ptr k 0) 4) 0))) (bnd (f_X8_within ((σ (ptr (ptr (ptr k 0) 4) 0) (ix x1)) + x2) 0 100000) fun r_6 =>
  (if r_6 = 0 then some ((-2), σ)
  else bnd2 (f_X0_postpone n σ (ptr (ptr k 0) 4) x1 x2) fun r_8 σ_9 =>
  some (r_8, σ_9)))))
def f_X8_part (σ : Mem) (k : Nat) (x1 : Int32) (x2 : Int32) : Option Int32 :=
  bnd (f_X0_has σ (ptr (ptr k 0) 4) x1) fun r_2 =>
  (if r_2 = 0 then some (-1)
  else (if x2 = 0 then chk (ckI x1 (alen (ptr (ptr (ptr k 0) 4) 0))) (some (σ (ptr (ptr (ptr k 0) 4) 0) (ix x1)))
  else (if x2 = 1 then chk (ckI x1 (alen (ptr (ptr (ptr k 0) 4) 1))) (some (σ (ptr (ptr (ptr k 0) 4) 1) (ix x1)))
  else (if x2 = 2 then chk (ckI x1 (alen (ptr (ptr (ptr k 0) 4) 2))) (some (σ (ptr (ptr (ptr k 0) 4) 2) (ix x1)))
  else some (-2)))))
def f_X8_command (n : Nat) (σ : Mem) (k : Nat) (x1 : Int32) (x2 : Int32) : Option (Int32 × Mem) :=
  bnd (f_X8_within x1 1 4095) fun r_2 =>
  (if r_2 = 0 then some ((-2), σ)
  else bnd (f_X8_within x2 0 1000) fun r_4 =>
  (if r_4 = 0 then some ((-2), σ)
  else bnd (f_X1_obey n σ (ptr (ptr k 0) 1) x1 x2) fun σ_7 =>
  some ((σ_7 (ptr k 0) 5), σ_7)))
def f_X8_tick_B33 (n : Nat) (σ : Mem) (k : Nat) (x1 : Int32) (x2 : Int32) : Option ((Int32 × Mem) ⊕ (Mem × Int32)) :=
  (if x1 ≤ x2 then some (.inl ((σ (ptr k 0) 5), σ))
  else bnd (f_X5_makeTick n σ (ptr k 0)) fun σ_5 =>
  nm (x2 + 1) fun x2_6 =>
  some (.inr (σ_5, x2_6)))
def f_X8_tick_L33 (n : Nat) (σ : Mem) (k : Nat) (x1 : Int32) (x2 : Int32) : Option (Int32 × Mem) :=
  iter (fun (s : Mem × Int32) => f_X8_tick_B33 n s.1 k x1 s.2) n (σ, x2)
def f_X8_tick (n : Nat) (σ : Mem) (k : Nat) (x1 : Int32) : Option (Int32 × Mem) :=
  bnd (f_X8_within x1 1 2000) fun r_2 =>
  (if r_2 = 0 then some ((-2), σ)
  else (if ((σ (ptr k 0) 5) + x1) ≤ 200000 then f_X8_tick_L33 n σ k x1 0
  else some ((-5), σ)))
def f_X8_rewind (n : Nat) (σ : Mem) (k : Nat) : Option (Int32 × Mem) :=
  nm ((σ (ptr k 0) 5)) fun x1_1 =>
  bnd (f_X5_goBack n σ (ptr k 0)) fun σ_4 =>
  some (x1_1, σ_4)
def f_X8_spray (σ : Mem) (k : Nat) (x1 : Int32) (x2 : Int32) : Option Int32 :=
  bnd (f_X1_has σ (ptr (ptr k 0) 1) x1) fun r_2 =>
  (if r_2 = 0 then some (-1)
  else (if x2 = 6 then chk (ckI x1 (alen (ptr (ptr (ptr k 0) 1) 1))) (some (σ (ptr (ptr (ptr k 0) 1) 1) (ix x1)))
  else (if x2 = 7 then chk (ckI x1 (alen (ptr (ptr (ptr k 0) 1) 2))) (some (σ (ptr (ptr (ptr k 0) 1) 2) (ix x1)))
  else (if x2 = 8 then chk (ckI x1 (alen (ptr (ptr (ptr k 0) 1) 3))) (some (σ (ptr (ptr (ptr k 0) 1) 3) (ix x1)))
  else (if x2 = 9 then chk (ckI x1 (alen (ptr (ptr (ptr k 0) 1) 4))) (some (σ (ptr (ptr (ptr k 0) 1) 4) (ix x1)))
  else (if x2 = 10 then chk (ckI x1 (alen (ptr (ptr (ptr k 0) 1) 5))) (some (σ (ptr (ptr (ptr k 0) 1) 5) (ix x1)))
  else (if x2 = 11 then chk (ckI x1 (alen (ptr (ptr (ptr k 0) 1) 6))) (some (σ (ptr (ptr (ptr k 0) 1) 6) (ix x1)))
  else bnd (f_X8_within x2 0 5) fun r_4 =>
  (if r_4 = 0 then some (-2)
  else bnd (f_X4_value σ (ptr (ptr (ptr k 0) 1) 0) x1 x2) fun r_6 =>
  some r_6))))))))
def f_X8_pressure (σ : Mem) (k : Nat) (x1 : Int32) (x2 : Int32) : Option Int32 :=
  bnd (f_X8_within x1 0 2) fun r_2 =>
  (if r_2 = 0 then some (-1)
  else (if x2 = 2 then chk (ckI x1 (alen (ptr (ptr (ptr k 0) 2) 1))) (some (σ (ptr (ptr (ptr k 0) 2) 1) (ix x1)))
  else (if x2 = 3 then chk (ckI x1 (alen (ptr (ptr (ptr k 0) 2) 2))) (some (σ (ptr (ptr (ptr k 0) 2) 2) (ix x1)))
  else (if x2 = 4 then chk (ckI x1 (alen (ptr (ptr (ptr k 0) 2) 3))) (some (σ (ptr (ptr (ptr k 0) 2) 3) (ix x1)))
  else bnd (f_X8_within x2 0 1) fun r_4 =>
  (if r_4 = 0 then some (-2)
  else bnd (f_X4_value σ (ptr (ptr (ptr k 0) 2) 0) x1 x2) fun r_6 =>
  some r_6)))))
def f_X8_state (n : Nat) (σ : Mem) (k : Nat) (x1 : Int32) : Option Int32 :=
  (if x1 = 0 then some (σ (ptr k 0) 5)
  else (if x1 = 1 then some (σ (ptr (ptr k 0) 1) 8)
  else (if x1 = 2 then some (σ (ptr (ptr k 0) 4) 3)
  else (if x1 = 3 then some (σ (ptr (ptr k 0) 3) 0)
  else (if x1 = 4 then bnd (f_X7_measured σ (ptr (ptr k 0) 3)) fun r_6 =>
  some r_6
  else (if x1 = 5 then some (σ (ptr (ptr k 0) 3) 2)
  else (if x1 = 6 then some (σ (ptr (ptr k 0) 3) 3)
  else (if x1 = 7 then some (σ (ptr k 0) 6)
  else (if x1 = 8 then bnd (f_X0_next n σ (ptr (ptr k 0) 4) (σ (ptr k 0) 5)) fun r_8 =>
  some r_8
  else (if x1 = 9 then some (σ (ptr k 4) 2)
  else bnd (f_X8_within x1 10 15) fun r_2 =>
  (if r_2 = 0 then some (-2)
  else bnd (f_X4_value σ (ptr (ptr k 0) 0) 0 (x1 - 10)) fun r_4 =>
  some r_4)))))))))))
def f_X8_firstShort_B2 (n : Nat) (σ : Mem) (k : Nat) (x1 : Int32) (x2 : Int32) (x3 : Int32) : Option ((Int32 × Mem) ⊕ (Mem × Int32)) :=
  (if x1 ≤ x3 then some (.inl ((-6), σ))
  else bnd (f_X5_makeTick n σ (ptr k 1)) fun σ_3 =>
  bnd (f_X3_isShort σ_3 (ptr (ptr k 1) 2) x2) fun r_5 =>
  (if r_5 = 0 then nm (x3 + 1) fun x3_6 =>
  some (.inr (σ_3, x3_6))
  else some (.inl (x3, σ_3))))
def f_X8_firstShort_L2 (n : Nat) (σ : Mem) (k : Nat) (x1 : Int32) (x2 : Int32) (x3 : Int32) : Option (Int32 × Mem) :=
  iter (fun (s : Mem × Int32) => f_X8_firstShort_B2 n s.1 k x1 x2 s.2) n (σ, x3)
def f_X8_firstShort (n : Nat) (σ : Mem) (k : Nat) (x1 : Int32) (x2 : Int32) : Option (Int32 × Mem) :=
  f_X8_firstShort_L2 n σ k x1 x2 0
def f_X8_greatestDemand_B5 (n : Nat) (σ : Mem) (k : Nat) (x1 : Int32) (x2 : Int32) (x3 : Int32) (x4 : Int32) : Option ((Int32 × Mem) ⊕ (Mem × Int32 × Int32)) :=
  (if x1 ≤ x4 then some (.inl (x3, σ))
  else bnd (f_X5_makeTick n σ (ptr k 1)) fun σ_3 =>
  chk (ckI x2 (alen (ptr (ptr (ptr k 1) 2) 2))) (nm ((mxI x3 (σ_3 (ptr (ptr (ptr k 1) 2) 2) (ix x2)))) fun x3_4 =>
  nm (x4 + 1) fun x4_5 =>
  some (.inr (σ_3, x3_4, x4_5))))
def f_X8_greatestDemand_L5 (n : Nat) (σ : Mem) (k : Nat) (x1 : Int32) (x2 : Int32) (x3 : Int32) (x4 : Int32) : Option (Int32 × Mem) :=
  iter (fun (s : Mem × Int32 × Int32) => f_X8_greatestDemand_B5 n s.1 k x1 x2 s.2.1 s.2.2) n (σ, x3, x4)
def f_X8_greatestDemand (n : Nat) (σ : Mem) (k : Nat) (x1 : Int32) (x2 : Int32) : Option (Int32 × Mem) :=
  f_X8_greatestDemand_L5 n σ k x1 x2 0 0
def f_X8_greatestHeight_B4 (n : Nat) (σ : Mem) (k : Nat) (x1 : Int32) (x2 : Int32) (x3 : Int32) : Option ((Int32 × Mem) ⊕ (Mem × Int32 × Int32)) :=
  (if x1 ≤ x3 then some (.inl (x2, σ))
  else bnd (f_X5_makeTick n σ (ptr k 1)) fun σ_3 =>
  bnd (f_X1_greatestHeightNow n σ_3 (ptr (ptr k 1) 1)) fun r_5 =>
  nm ((mxI x2 r_5)) fun x2_6 =>
  nm (x3 + 1) fun x3_7 =>
  some (.inr (σ_3, x2_6, x3_7)))
def f_X8_greatestHeight_L4 (n : Nat) (σ : Mem) (k : Nat) (x1 : Int32) (x2 : Int32) (x3 : Int32) : Option (Int32 × Mem) :=
  iter (fun (s : Mem × Int32 × Int32) => f_X8_greatestHeight_B4 n s.1 k x1 s.2.1 s.2.2) n (σ, x2, x3)
def f_X8_greatestHeight (n : Nat) (σ : Mem) (k : Nat) (x1 : Int32) : Option (Int32 × Mem) :=
  f_X8_greatestHeight_L4 n σ k x1 0 0
def f_X8_shortTicks_B16 (n : Nat) (σ : Mem) (k : Nat) (x1 : Int32) (x2 : Int32) (x3 : Int32) (x4 : Int32) : Option ((Int32 × Mem) ⊕ (Mem × Int32)) :=
  (if x1 ≤ x4 then chk (ckI x2 (alen (ptr (ptr (ptr k 1) 2) 3))) (some (.inl (((σ (ptr (ptr (ptr k 1) 2) 3) (ix x2)) - x3), σ)))
  else bnd (f_X5_makeTick n σ (ptr k 1)) fun σ_4 =>
  nm (x4 + 1) fun x4_5 =>
  some (.inr (σ_4, x4_5)))
def f_X8_shortTicks_L16 (n : Nat) (σ : Mem) (k : Nat) (x1 : Int32) (x2 : Int32) (x3 : Int32) (x4 : Int32) : Option (Int32 × Mem) :=
  iter (fun (s : Mem × Int32) => f_X8_shortTicks_B16 n s.1 k x1 x2 x3 s.2) n (σ, x4)
def f_X8_shortTicks (n : Nat) (σ : Mem) (k : Nat) (x1 : Int32) (x2 : Int32) : Option (Int32 × Mem) :=
  chk (ckI x2 (alen (ptr (ptr (ptr k 1) 2) 3))) (nm ((σ (ptr (ptr (ptr k 1) 2) 3) (ix x2))) fun x3_1 =>
  f_X8_shortTicks_L16 n σ k x1 x2 x3_1 0)
def f_X8_wetTicks_B10 (n : Nat) (σ : Mem) (k : Nat) (x1 : Int32) (x2 : Int32) (x3 : Int32) : Option ((Int32 × Mem) ⊕ (Mem × Int32)) :=
  (if x1 ≤ x3 then some (.inl (((σ (ptr k 1) 6) - x2), σ))
  else bnd (f_X5_makeTick n σ (ptr k 1)) fun σ_4 =>
  nm (x3 + 1) fun x3_5 =>
  some (.inr (σ_4, x3_5)))
def f_X8_wetTicks_L10 (n : Nat) (σ : Mem) (k : Nat) (x1 : Int32) (x2 : Int32) (x3 : Int32) : Option (Int32 × Mem) :=
  iter (fun (s : Mem × Int32) => f_X8_wetTicks_B10 n s.1 k x1 x2 s.2) n (σ, x3)
def f_X8_wetTicks (n : Nat) (σ : Mem) (k : Nat) (x1 : Int32) : Option (Int32 × Mem) :=
  nm ((σ (ptr k 1) 6)) fun x2_1 =>
  f_X8_wetTicks_L10 n σ k x1 x2_1 0
def f_X8_ahead_L39 (n : Nat) (σ : Mem) (k : Nat) (x1 : Int32) (x2 : Int32) (x3 : Int32) : Option (Int32 × Mem) :=
  bnd (f_X5_copy σ (ptr k 1) (ptr k 0)) fun σ_7 =>
  (if x3 = 0 then bnd2 (f_X8_greatestDemand n σ_7 k x1 x2) fun r_12 σ_13 =>
  some (r_12, σ_13)
  else (if x3 = 1 then bnd2 (f_X8_shortTicks n σ_7 k x1 x2) fun r_15 σ_16 =>
  some (r_15, σ_16)
  else (if x3 = 2 then bnd2 (f_X8_firstShort n σ_7 k x1 x2) fun r_18 σ_19 =>
  some (r_18, σ_19)
  else (if x3 = 3 then bnd2 (f_X8_wetTicks n σ_7 k x1) fun r_21 σ_22 =>
  some (r_21, σ_22)
  else bnd2 (f_X8_greatestHeight n σ_7 k x1) fun r_9 σ_10 =>
  some (r_9, σ_10)))))
def f_X8_ahead (n : Nat) (σ : Mem) (k : Nat) (x1 : Int32) (x2 : Int32) (x3 : Int32) : Option (Int32 × Mem) :=
  bnd (f_X8_within x1 1 1000) fun r_2 =>
  (if r_2 = 0 then some ((-2), σ)
  else bnd (f_X8_within x3 0 4) fun r_4 =>
  (if r_4 = 0 then some ((-2), σ)
  else (if 2 < x3 then f_X8_ahead_L39 n σ k x1 x2 x3
  else bnd (f_X8_within x2 0 2) fun r_24 =>
  (if r_24 = 0 then some ((-1), σ)
  else f_X8_ahead_L39 n σ k x1 x2 x3))))
def f_X8_staysSupplied_B2 (n : Nat) (σ : Mem) (k : Nat) (x1 : Int32) (x2 : Int32) : Option ((Int32 × Mem) ⊕ (Mem × Int32)) :=
  (if x1 ≤ x2 then some (.inl (1, σ))
  else bnd (f_X5_makeTick n σ (ptr k 1)) fun σ_3 =>
  bnd (f_X3_someShort n σ_3 (ptr (ptr k 1) 2)) fun r_5 =>
  (if r_5 = 0 then nm (x2 + 1) fun x2_6 =>
  some (.inr (σ_3, x2_6))
  else some (.inl (0, σ_3))))
def f_X8_staysSupplied_L2 (n : Nat) (σ : Mem) (k : Nat) (x1 : Int32) (x2 : Int32) : Option (Int32 × Mem) :=
  iter (fun (s : Mem × Int32) => f_X8_staysSupplied_B2 n s.1 k x1 s.2) n (σ, x2)
def f_X8_staysSupplied (n : Nat) (σ : Mem) (k : Nat) (x1 : Int32) : Option (Int32 × Mem) :=
  f_X8_staysSupplied_L2 n σ k x1 0
def f_X8_delay_B64 (n : Nat) (σ : Mem) (k : Nat) (x1 : Int32) (x3 : Int32) (x4 : Int32) (x5 : Int32) : Option ((Int32 × Mem) ⊕ (Mem × Int32)) :=
  (if x4 < x5 then some (.inl ((-6), σ))
  else bnd (f_X5_copy σ (ptr k 1) (ptr k 0)) fun σ_10 =>
  bnd2 (f_X0_postpone n σ_10 (ptr (ptr k 1) 4) x1 x5) fun r_12 σ_13 =>
  bnd2 (f_X8_staysSupplied n σ_13 k x3) fun r_15 σ_16 =>
  (if r_15 = 0 then nm (x5 + 1) fun x5_17 =>
  some (.inr (σ_16, x5_17))
  else some (.inl (x5, σ_16))))
def f_X8_delay_L64 (n : Nat) (σ : Mem) (k : Nat) (x1 : Int32) (x3 : Int32) (x4 : Int32) (x5 : Int32) : Option (Int32 × Mem) :=
  iter (fun (s : Mem × Int32) => f_X8_delay_B64 n s.1 k x1 x3 x4 s.2) n (σ, x5)
def f_X8_delay (n : Nat) (σ : Mem) (k : Nat) (x1 : Int32) (x2 : Int32) (x3 : Int32) : Option (Int32 × Mem) :=
  bnd (f_X0_has σ (ptr (ptr k 0) 4) x1) fun r_2 =>
  (if r_2 = 0 then some ((-1), σ)
  else bnd (f_X8_within x2 0 100) fun r_4 =>
  (if r_4 = 0 then some ((-2), σ)
  else bnd (f_X8_within x3 1 300) fun r_6 =>
  (if r_6 = 0 then some ((-2), σ)
  else chk (ckI x1 (alen (ptr (ptr (ptr k 0) 4) 0))) (nm ((mnI x2 (100000 - (σ (ptr (ptr (ptr k 0) 4) 0) (ix x1))))) fun x4_7 =>
  f_X8_delay_L64 n σ k x1 x3 x4_7 0))))
def f_X8_staysDry_B21 (n : Nat) (σ : Mem) (k : Nat) (x1 : Int32) (x2 : Int32) (x3 : Int32) : Option ((Int32 × Mem) ⊕ (Mem × Int32)) :=
  (if x1 ≤ x3 then some (.inl (1, σ))
  else bnd (f_X5_makeTick n σ (ptr k 1)) fun σ_5 =>
  (if (σ_5 (ptr k 1) 6) ≤ x2 then nm (x3 + 1) fun x3_6 =>
  some (.inr (σ_5, x3_6))
  else some (.inl (0, σ_5))))
def f_X8_staysDry_L21 (n : Nat) (σ : Mem) (k : Nat) (x1 : Int32) (x2 : Int32) (x3 : Int32) : Option (Int32 × Mem) :=
  iter (fun (s : Mem × Int32) => f_X8_staysDry_B21 n s.1 k x1 x2 s.2) n (σ, x3)
def f_X8_staysDry (n : Nat) (σ : Mem) (k : Nat) (x1 : Int32) : Option (Int32 × Mem) :=
  nm ((σ (ptr k 1) 6)) fun x2_1 =>
  nm (gst σ (ptr (ptr k 1) 1) 9 0) fun σ_2 =>
  f_X8_staysDry_L21 n σ_2 k x1 x2_1 0
def f_X8_safeCut_B17 (n : Nat) (σ : Mem) (k : Nat) (x1 : Int32) (x2 : Int32) : Option ((Int32 × Mem) ⊕ (Mem × Int32)) :=
  (if x2 < 0 then some (.inl ((-6), σ))
  else bnd (f_X5_copy σ (ptr k 1) (ptr k 0)) fun σ_5 =>
  bnd2 (f_X4_change σ_5 (ptr (ptr k 1) 0) 0 3 x2) fun r_7 σ_8 =>
  bnd2 (f_X8_staysDry n σ_8 k x1) fun r_10 σ_11 =>
  (if r_10 = 0 then nm ((mnI x2 (σ_11 (ptr (ptr k 1) 1) 9))) fun x2_12 =>
  nm (x2_12 + (-1)) fun x2_13 =>
  some (.inr (σ_11, x2_13))
  else some (.inl (x2, σ_11))))
def f_X8_safeCut_L17 (n : Nat) (σ : Mem) (k : Nat) (x1 : Int32) (x2 : Int32) : Option (Int32 × Mem) :=
  iter (fun (s : Mem × Int32) => f_X8_safeCut_B17 n s.1 k x1 s.2) n (σ, x2)
def f_X8_safeCut (n : Nat) (σ : Mem) (k : Nat) (x1 : Int32) : Option (Int32 × Mem) :=
  bnd (f_X8_within x1 1 100) fun r_2 =>
  (if r_2 = 0 then some ((-2), σ)
  else f_X8_safeCut_L17 n σ k x1 1000)
def f_X8_say (σ : Mem) (k : Nat) (x1 : Int32) : Option (Int32 × Mem) :=
  bnd (f_X8_within x1 33 126) fun r_2 =>
  (if r_2 = 0 then some ((-2), σ)
  else bnd2 (f_X2_append σ (ptr k 4) ((x1.toUInt32 % 65536).toInt32)) fun r_4 σ_5 =>
  some (r_4, σ_5))
def f_X8_read_B61 (n : Nat) (σ : Mem) (k : Nat) (x1 : Int32) (x2 : Int32) (x3 : Int32) : Option ((Int32 × Mem) ⊕ (Mem × Int32)) :=
  (if x2 ≤ x3 then nm (gst σ (ptr k 4) 2 0) fun σ_7 =>
  some (.inl (x2, σ_7))
  else chk (ckI x3 (alen (ptr (ptr (ptr k 4) 0) 0))) (chk (ckI x3 (alen (ptr (ptr (ptr k 4) 0) 1))) (chk (ckI x3 (alen (ptr (ptr (ptr k 4) 0) 2))) (bnd2 (f_X0_insert n σ (ptr (ptr k 0) 4) ((σ (ptr (ptr (ptr k 4) 0) 0) (ix x3)) + x1) (σ (ptr (ptr (ptr k 4) 0) 1) (ix x3)) (σ (ptr (ptr (ptr k 4) 0) 2) (ix x3))) fun r_9 σ_10 =>
  nm (x3 + 1) fun x3_11 =>
  some (.inr (σ_10, x3_11))))))
def f_X8_read_L61 (n : Nat) (σ : Mem) (k : Nat) (x1 : Int32) (x2 : Int32) (x3 : Int32) : Option (Int32 × Mem) :=
  iter (fun (s : Mem × Int32) => f_X8_read_B61 n s.1 k x1 x2 s.2) n (σ, x3)
def f_X8_read (n : Nat) (σ : Mem) (k : Nat) (x1 : Int32) : Option (Int32 × Mem) :=
  bnd2 (f_X2_findFault n σ (ptr k 4)) fun r_2 σ_3 =>
  (if r_2 = (-6) then bnd (f_X8_within x1 0 90000) fun r_5 =>
  (if r_5 = 0 then some ((-2), σ_3)
  else nm ((σ_3 (ptr (ptr k 4) 0) 3)) fun x2_6 =>
  (if ((σ_3 (ptr (ptr k 0) 4) 3) + x2_6) ≤ 60 then f_X8_read_L61 n σ_3 k x1 x2_6 0
  else some ((-4), σ_3)))
  else some ((-3), σ_3))
def f_X8_slotAt (σ : Mem) (k : Nat) (x1 : Int32) : Option (Option Nat) :=
  (if x1 = 0 then some (some (ptr k 2))
  else (if x1 = 1 then some (some (ptr k 3))
  else some none))
def f_X8_save (σ : Mem) (k : Nat) (x1 : Int32) : Option (Int32 × Mem) :=
  bnd (f_X8_slotAt σ k x1) fun r_2 => mtc r_2 (some ((-2), σ)) fun q_3 =>
  chk (decide (q_3 = ptr k 2 ∨ q_3 = ptr k 3)) (bnd (f_X5_copy σ (ptr q_3 0) (ptr k 0)) fun σ_6 =>
  nm (gst σ_6 q_3 1 1) fun σ_7 =>
  some ((σ_7 (ptr k 0) 5), σ_7))
def f_X8_restore (σ : Mem) (k : Nat) (x1 : Int32) : Option (Int32 × Mem) :=
  bnd (f_X8_slotAt σ k x1) fun r_2 => mtc r_2 (some ((-2), σ)) fun q_3 =>
  chk (decide (q_3 = ptr k 2 ∨ q_3 = ptr k 3)) ((if (σ q_3 1) = 0 then some ((-5), σ)
  else bnd (f_X5_copy σ (ptr k 0) (ptr q_3 0)) fun σ_6 =>
  some ((σ_6 (ptr k 0) 5), σ_6)))
end
section
/-! WHAT THE TABLES SAY, by place; the classes; the pointers -/
theorem inGX0 : ∀ w ∈ u_ws RX0 TX0 4, w ∈ lw_g := fun w hw => List.mem_filter.mpr (by
  have h := List.all_eq_true.mp (show (u_ws RX0 TX0 4).all (fun w => decide (w ∈ lw_tbl) && goodWord w) = true by decide +kernel) w hw
  simpa using h)
theorem kcX0 : Kc 0 RX0 TX0 4 tyX0 := ⟨rfl, by decide, inGX0, tyX0_ok, nmX0, rfl⟩
theorem inGX1 : ∀ w ∈ u_ws RX1 TX1 10, w ∈ lw_g := fun w hw => List.mem_filter.mpr (by
  have h := List.all_eq_true.mp (show (u_ws RX1 TX1 10).all (fun w => decide (w ∈ lw_tbl) && goodWord w) = true by decide +kernel) w hw
  simpa using h)
theorem kcX1 : Kc 1 RX1 TX1 10 tyX1 := ⟨rfl, by decide, inGX1, tyX1_ok, nmX1, rfl⟩
theorem inGX2 : ∀ w ∈ u_ws RX2 TX2 7, w ∈ lw_g := fun w hw => List.mem_filter.mpr (by
  have h := List.all_eq_true.mp (show (u_ws RX2 TX2 7).all (fun w => decide (w ∈ lw_tbl) && goodWord w) = true by decide +kernel) w hw
  simpa using h)
theorem kcX2 : Kc 2 RX2 TX2 7 tyX2 := ⟨rfl, by decide, inGX2, tyX2_ok, nmX2, rfl⟩
theorem inGX3 : ∀ w ∈ u_ws RX3 TX3 4, w ∈ lw_g := fun w hw => List.mem_filter.mpr (by
  have h := List.all_eq_true.mp (show (u_ws RX3 TX3 4).all (fun w => decide (w ∈ lw_tbl) && goodWord w) = true by decide +kernel) w hw
  simpa using h)
theorem kcX3 : Kc 3 RX3 TX3 4 tyX3 := ⟨rfl, by decide, inGX3, tyX3_ok, nmX3, rfl⟩
theorem inGX4 : ∀ w ∈ u_ws RX4 TX4 5, w ∈ lw_g := fun w hw => List.mem_filter.mpr (by
  have h := List.all_eq_true.mp (show (u_ws RX4 TX4 5).all (fun w => decide (w ∈ lw_tbl) && goodWord w) = true by decide +kernel) w hw
  simpa using h)
theorem kcX4 : Kc 4 RX4 TX4 5 tyX4 := ⟨rfl, by decide, inGX4, tyX4_ok, nmX4, rfl⟩
theorem inGX5 : ∀ w ∈ u_ws RX5 TX5 7, w ∈ lw_g := fun w hw => List.mem_filter.mpr (by
  have h := List.all_eq_true.mp (show (u_ws RX5 TX5 7).all (fun w => decide (w ∈ lw_tbl) && goodWord w) = true by decide +kernel) w hw
  simpa using h)
theorem kcX5 : Kc 5 RX5 TX5 7 tyX5 := ⟨rfl, by decide, inGX5, tyX5_ok, nmX5, rfl⟩
theorem inGX6 : ∀ w ∈ u_ws RX6 TX6 2, w ∈ lw_g := fun w hw => List.mem_filter.mpr (by
  have h := List.all_eq_true.mp (show (u_ws RX6 TX6 2).all (fun w => decide (w ∈ lw_tbl) && goodWord w) = true by decide +kernel) w hw
  simpa using h)
theorem kcX6 : Kc 6 RX6 TX6 2 tyX6 := ⟨rfl, by decide, inGX6, tyX6_ok, nmX6, rfl⟩
theorem inGX7 : ∀ w ∈ u_ws RX7 TX7 4, w ∈ lw_g := fun w hw => List.mem_filter.mpr (by
  have h := List.all_eq_true.mp (show (u_ws RX7 TX7 4).all (fun w => decide (w ∈ lw_tbl) && goodWord w) = true by decide +kernel) w hw
  simpa using h)
theorem kcX7 : Kc 7 RX7 TX7 4 tyX7 := ⟨rfl, by decide, inGX7, tyX7_ok, nmX7, rfl⟩
theorem inGX8 : ∀ w ∈ u_ws RX8 TX8 5, w ∈ lw_g := fun w hw => List.mem_filter.mpr (by
  have h := List.all_eq_true.mp (show (u_ws RX8 TX8 5).all (fun w => decide (w ∈ lw_tbl) && goodWord w) = true by decide +kernel) w hw
  simpa using h)
theorem kcX8 : Kc 8 RX8 TX8 5 tyX8 := ⟨rfl, by decide, inGX8, tyX8_ok, nmX8, rfl⟩
theorem tw_64 : Cond.methodLink RX4 37 arraycopyName ∈ lw_g := in_g 64 (by decide +kernel) (by decide +kernel)
theorem tw_67 : Cond.fieldLink RX4 21 RX4 (TX4 0).2.1 (TX4 0).2.2.1 ∈ lw_g := in_g 67 (by decide +kernel) (by decide +kernel)
theorem tw_68 : Cond.fieldLink RX4 25 RX4 (TX4 1).2.1 (TX4 1).2.2.1 ∈ lw_g := in_g 68 (by decide +kernel) (by decide +kernel)
theorem tw_69 : Cond.fieldLink RX4 28 RX4 (TX4 2).2.1 (TX4 2).2.2.1 ∈ lw_g := in_g 69 (by decide +kernel) (by decide +kernel)
theorem tw_70 : Cond.fieldLink RX4 15 RX4 (TX4 3).2.1 (TX4 3).2.2.1 ∈ lw_g := in_g 70 (by decide +kernel) (by decide +kernel)
theorem tw_71 : Cond.fieldLink RX4 31 RX4 (TX4 4).2.1 (TX4 4).2.2.1 ∈ lw_g := in_g 71 (by decide +kernel) (by decide +kernel)
theorem tw_98 : Cond.fieldLink RX1 24 RX1 (TX1 0).2.1 (TX1 0).2.2.1 ∈ lw_g := in_g 98 (by decide +kernel) (by decide +kernel)
theorem tw_99 : Cond.fieldLink RX8 58 RX1 (TX1 0).2.1 (TX1 0).2.2.1 ∈ lw_g := in_g 99 (by decide +kernel) (by decide +kernel)
theorem tw_100 : Cond.fieldLink RX1 30 RX1 (TX1 1).2.1 (TX1 1).2.2.1 ∈ lw_g := in_g 100 (by decide +kernel) (by decide +kernel)
theorem tw_101 : Cond.fieldLink RX8 129 RX1 (TX1 1).2.1 (TX1 1).2.2.1 ∈ lw_g := in_g 101 (by decide +kernel) (by decide +kernel)
theorem tw_102 : Cond.fieldLink RX1 33 RX1 (TX1 2).2.1 (TX1 2).2.2.1 ∈ lw_g := in_g 102 (by decide +kernel) (by decide +kernel)
theorem tw_103 : Cond.fieldLink RX8 132 RX1 (TX1 2).2.1 (TX1 2).2.2.1 ∈ lw_g := in_g 103 (by decide +kernel) (by decide +kernel)
theorem tw_104 : Cond.fieldLink RX1 36 RX1 (TX1 3).2.1 (TX1 3).2.2.1 ∈ lw_g := in_g 104 (by decide +kernel) (by decide +kernel)
theorem tw_105 : Cond.fieldLink RX8 135 RX1 (TX1 3).2.1 (TX1 3).2.2.1 ∈ lw_g := in_g 105 (by decide +kernel) (by decide +kernel)
theorem tw_106 : Cond.fieldLink RX1 39 RX1 (TX1 4).2.1 (TX1 4).2.2.1 ∈ lw_g := in_g 106 (by decide +kernel) (by decide +kernel)
theorem tw_107 : Cond.fieldLink RX8 138 RX1 (TX1 4).2.1 (TX1 4).2.2.1 ∈ lw_g := in_g 107 (by decide +kernel) (by decide +kernel)
theorem tw_108 : Cond.fieldLink RX1 42 RX1 (TX1 5).2.1 (TX1 5).2.2.1 ∈ lw_g := in_g 108 (by decide +kernel) (by decide +kernel)
theorem tw_109 : Cond.fieldLink RX8 141 RX1 (TX1 5).2.1 (TX1 5).2.2.1 ∈ lw_g := in_g 109 (by decide +kernel) (by decide +kernel)
theorem tw_110 : Cond.fieldLink RX1 45 RX1 (TX1 6).2.1 (TX1 6).2.2.1 ∈ lw_g := in_g 110 (by decide +kernel) (by decide +kernel)
theorem tw_111 : Cond.fieldLink RX8 144 RX1 (TX1 6).2.1 (TX1 6).2.2.1 ∈ lw_g := in_g 111 (by decide +kernel) (by decide +kernel)
theorem tw_112 : Cond.fieldLink RX1 48 RX1 (TX1 7).2.1 (TX1 7).2.2.1 ∈ lw_g := in_g 112 (by decide +kernel) (by decide +kernel)
theorem tw_113 : Cond.fieldLink RX1 51 RX1 (TX1 8).2.1 (TX1 8).2.2.1 ∈ lw_g := in_g 113 (by decide +kernel) (by decide +kernel)
theorem tw_114 : Cond.fieldLink RX8 44 RX1 (TX1 8).2.1 (TX1 8).2.2.1 ∈ lw_g := in_g 114 (by decide +kernel) (by decide +kernel)
theorem tw_115 : Cond.fieldLink RX1 55 RX1 (TX1 9).2.1 (TX1 9).2.2.1 ∈ lw_g := in_g 115 (by decide +kernel) (by decide +kernel)
theorem tw_116 : Cond.fieldLink RX8 209 RX1 (TX1 9).2.1 (TX1 9).2.2.1 ∈ lw_g := in_g 116 (by decide +kernel) (by decide +kernel)
theorem tw_152 : Cond.fieldLink RX3 24 RX3 (TX3 0).2.1 (TX3 0).2.2.1 ∈ lw_g := in_g 152 (by decide +kernel) (by decide +kernel)
theorem tw_153 : Cond.fieldLink RX5 72 RX3 (TX3 0).2.1 (TX3 0).2.2.1 ∈ lw_g := in_g 153 (by decide +kernel) (by decide +kernel)
theorem tw_154 : Cond.fieldLink RX8 72 RX3 (TX3 0).2.1 (TX3 0).2.2.1 ∈ lw_g := in_g 154 (by decide +kernel) (by decide +kernel)
theorem tw_155 : Cond.fieldLink RX3 30 RX3 (TX3 1).2.1 (TX3 1).2.2.1 ∈ lw_g := in_g 155 (by decide +kernel) (by decide +kernel)
theorem tw_156 : Cond.fieldLink RX8 150 RX3 (TX3 1).2.1 (TX3 1).2.2.1 ∈ lw_g := in_g 156 (by decide +kernel) (by decide +kernel)
theorem tw_157 : Cond.fieldLink RX3 33 RX3 (TX3 2).2.1 (TX3 2).2.2.1 ∈ lw_g := in_g 157 (by decide +kernel) (by decide +kernel)
theorem tw_158 : Cond.fieldLink RX8 151 RX3 (TX3 2).2.1 (TX3 2).2.2.1 ∈ lw_g := in_g 158 (by decide +kernel) (by decide +kernel)
theorem tw_159 : Cond.fieldLink RX3 36 RX3 (TX3 3).2.1 (TX3 3).2.2.1 ∈ lw_g := in_g 159 (by decide +kernel) (by decide +kernel)
theorem tw_160 : Cond.fieldLink RX8 154 RX3 (TX3 3).2.1 (TX3 3).2.2.1 ∈ lw_g := in_g 160 (by decide +kernel) (by decide +kernel)
theorem tw_176 : Cond.fieldLink RX7 9 RX7 (TX7 0).2.1 (TX7 0).2.2.1 ∈ lw_g := in_g 176 (by decide +kernel) (by decide +kernel)
theorem tw_177 : Cond.fieldLink RX5 73 RX7 (TX7 0).2.1 (TX7 0).2.2.1 ∈ lw_g := in_g 177 (by decide +kernel) (by decide +kernel)
theorem tw_178 : Cond.fieldLink RX8 80 RX7 (TX7 0).2.1 (TX7 0).2.2.1 ∈ lw_g := in_g 178 (by decide +kernel) (by decide +kernel)
theorem tw_179 : Cond.fieldLink RX7 15 RX7 (TX7 1).2.1 (TX7 1).2.2.1 ∈ lw_g := in_g 179 (by decide +kernel) (by decide +kernel)
theorem tw_180 : Cond.fieldLink RX7 18 RX7 (TX7 2).2.1 (TX7 2).2.2.1 ∈ lw_g := in_g 180 (by decide +kernel) (by decide +kernel)
theorem tw_181 : Cond.fieldLink RX5 111 RX7 (TX7 2).2.1 (TX7 2).2.2.1 ∈ lw_g := in_g 181 (by decide +kernel) (by decide +kernel)
theorem tw_182 : Cond.fieldLink RX8 165 RX7 (TX7 2).2.1 (TX7 2).2.2.1 ∈ lw_g := in_g 182 (by decide +kernel) (by decide +kernel)
theorem tw_183 : Cond.fieldLink RX7 21 RX7 (TX7 3).2.1 (TX7 3).2.2.1 ∈ lw_g := in_g 183 (by decide +kernel) (by decide +kernel)
theorem tw_184 : Cond.fieldLink RX8 168 RX7 (TX7 3).2.1 (TX7 3).2.2.1 ∈ lw_g := in_g 184 (by decide +kernel) (by decide +kernel)
theorem tw_200 : Cond.fieldLink RX0 9 RX0 (TX0 0).2.1 (TX0 0).2.2.1 ∈ lw_g := in_g 200 (by decide +kernel) (by decide +kernel)
theorem tw_201 : Cond.fieldLink RX8 101 RX0 (TX0 0).2.1 (TX0 0).2.2.1 ∈ lw_g := in_g 201 (by decide +kernel) (by decide +kernel)
theorem tw_202 : Cond.fieldLink RX0 15 RX0 (TX0 1).2.1 (TX0 1).2.2.1 ∈ lw_g := in_g 202 (by decide +kernel) (by decide +kernel)
theorem tw_203 : Cond.fieldLink RX8 109 RX0 (TX0 1).2.1 (TX0 1).2.2.1 ∈ lw_g := in_g 203 (by decide +kernel) (by decide +kernel)
theorem tw_204 : Cond.fieldLink RX0 18 RX0 (TX0 2).2.1 (TX0 2).2.2.1 ∈ lw_g := in_g 204 (by decide +kernel) (by decide +kernel)
theorem tw_205 : Cond.fieldLink RX8 112 RX0 (TX0 2).2.1 (TX0 2).2.2.1 ∈ lw_g := in_g 205 (by decide +kernel) (by decide +kernel)
theorem tw_206 : Cond.fieldLink RX0 21 RX0 (TX0 3).2.1 (TX0 3).2.2.1 ∈ lw_g := in_g 206 (by decide +kernel) (by decide +kernel)
theorem tw_207 : Cond.fieldLink RX5 76 RX0 (TX0 3).2.1 (TX0 3).2.2.1 ∈ lw_g := in_g 207 (by decide +kernel) (by decide +kernel)
theorem tw_208 : Cond.fieldLink RX2 38 RX0 (TX0 3).2.1 (TX0 3).2.2.1 ∈ lw_g := in_g 208 (by decide +kernel) (by decide +kernel)
theorem tw_209 : Cond.fieldLink RX8 99 RX0 (TX0 3).2.1 (TX0 3).2.2.1 ∈ lw_g := in_g 209 (by decide +kernel) (by decide +kernel)
theorem tw_219 : Cond.fieldLink RX5 24 RX5 (TX5 0).2.1 (TX5 0).2.2.1 ∈ lw_g := in_g 219 (by decide +kernel) (by decide +kernel)
theorem tw_220 : Cond.fieldLink RX8 75 RX5 (TX5 0).2.1 (TX5 0).2.2.1 ∈ lw_g := in_g 220 (by decide +kernel) (by decide +kernel)
theorem tw_221 : Cond.fieldLink RX5 33 RX5 (TX5 1).2.1 (TX5 1).2.2.1 ∈ lw_g := in_g 221 (by decide +kernel) (by decide +kernel)
theorem tw_222 : Cond.fieldLink RX8 40 RX5 (TX5 1).2.1 (TX5 1).2.2.1 ∈ lw_g := in_g 222 (by decide +kernel) (by decide +kernel)
theorem tw_223 : Cond.fieldLink RX5 40 RX5 (TX5 2).2.1 (TX5 2).2.2.1 ∈ lw_g := in_g 223 (by decide +kernel) (by decide +kernel)
theorem tw_224 : Cond.fieldLink RX8 68 RX5 (TX5 2).2.1 (TX5 2).2.2.1 ∈ lw_g := in_g 224 (by decide +kernel) (by decide +kernel)
theorem tw_225 : Cond.fieldLink RX5 47 RX5 (TX5 3).2.1 (TX5 3).2.2.1 ∈ lw_g := in_g 225 (by decide +kernel) (by decide +kernel)
theorem tw_226 : Cond.fieldLink RX8 76 RX5 (TX5 3).2.1 (TX5 3).2.2.1 ∈ lw_g := in_g 226 (by decide +kernel) (by decide +kernel)
theorem tw_227 : Cond.fieldLink RX5 54 RX5 (TX5 4).2.1 (TX5 4).2.2.1 ∈ lw_g := in_g 227 (by decide +kernel) (by decide +kernel)
theorem tw_228 : Cond.fieldLink RX8 86 RX5 (TX5 4).2.1 (TX5 4).2.2.1 ∈ lw_g := in_g 228 (by decide +kernel) (by decide +kernel)
theorem tw_229 : Cond.fieldLink RX5 58 RX5 (TX5 5).2.1 (TX5 5).2.2.1 ∈ lw_g := in_g 229 (by decide +kernel) (by decide +kernel)
theorem tw_230 : Cond.fieldLink RX8 119 RX5 (TX5 5).2.1 (TX5 5).2.2.1 ∈ lw_g := in_g 230 (by decide +kernel) (by decide +kernel)
theorem tw_231 : Cond.fieldLink RX5 62 RX5 (TX5 6).2.1 (TX5 6).2.2.1 ∈ lw_g := in_g 231 (by decide +kernel) (by decide +kernel)
theorem tw_232 : Cond.fieldLink RX8 171 RX5 (TX5 6).2.1 (TX5 6).2.2.1 ∈ lw_g := in_g 232 (by decide +kernel) (by decide +kernel)
theorem tw_257 : Cond.fieldLink RX8 227 RX6 (TX6 0).2.1 (TX6 0).2.2.1 ∈ lw_g := in_g 257 (by decide +kernel) (by decide +kernel)
theorem tw_259 : Cond.fieldLink RX8 230 RX6 (TX6 1).2.1 (TX6 1).2.2.1 ∈ lw_g := in_g 259 (by decide +kernel) (by decide +kernel)
theorem tw_273 : Cond.fieldLink RX2 12 RX2 (TX2 0).2.1 (TX2 0).2.2.1 ∈ lw_g := in_g 273 (by decide +kernel) (by decide +kernel)
theorem tw_274 : Cond.fieldLink RX8 220 RX2 (TX2 0).2.1 (TX2 0).2.2.1 ∈ lw_g := in_g 274 (by decide +kernel) (by decide +kernel)
theorem tw_275 : Cond.fieldLink RX2 18 RX2 (TX2 1).2.1 (TX2 1).2.2.1 ∈ lw_g := in_g 275 (by decide +kernel) (by decide +kernel)
theorem tw_276 : Cond.fieldLink RX2 22 RX2 (TX2 2).2.1 (TX2 2).2.2.1 ∈ lw_g := in_g 276 (by decide +kernel) (by decide +kernel)
theorem tw_277 : Cond.fieldLink RX8 178 RX2 (TX2 2).2.1 (TX2 2).2.2.1 ∈ lw_g := in_g 277 (by decide +kernel) (by decide +kernel)
theorem tw_278 : Cond.fieldLink RX2 26 RX2 (TX2 3).2.1 (TX2 3).2.2.1 ∈ lw_g := in_g 278 (by decide +kernel) (by decide +kernel)
theorem tw_279 : Cond.fieldLink RX2 29 RX2 (TX2 4).2.1 (TX2 4).2.2.1 ∈ lw_g := in_g 279 (by decide +kernel) (by decide +kernel)
theorem tw_280 : Cond.fieldLink RX2 32 RX2 (TX2 5).2.1 (TX2 5).2.2.1 ∈ lw_g := in_g 280 (by decide +kernel) (by decide +kernel)
theorem tw_281 : Cond.fieldLink RX2 35 RX2 (TX2 6).2.1 (TX2 6).2.2.1 ∈ lw_g := in_g 281 (by decide +kernel) (by decide +kernel)
theorem tw_298 : Cond.fieldLink RX8 10 RX8 (TX8 0).2.1 (TX8 0).2.2.1 ∈ lw_g := in_g 298 (by decide +kernel) (by decide +kernel)
theorem tw_299 : Cond.fieldLink RX8 16 RX8 (TX8 1).2.1 (TX8 1).2.2.1 ∈ lw_g := in_g 299 (by decide +kernel) (by decide +kernel)
theorem tw_300 : Cond.fieldLink RX8 22 RX8 (TX8 2).2.1 (TX8 2).2.2.1 ∈ lw_g := in_g 300 (by decide +kernel) (by decide +kernel)
theorem tw_301 : Cond.fieldLink RX8 26 RX8 (TX8 3).2.1 (TX8 3).2.2.1 ∈ lw_g := in_g 301 (by decide +kernel) (by decide +kernel)
theorem tw_302 : Cond.fieldLink RX8 32 RX8 (TX8 4).2.1 (TX8 4).2.2.1 ∈ lw_g := in_g 302 (by decide +kernel) (by decide +kernel)
theorem tw_318 : Cond.methodLink RX8 36 yX8_within ∈ lw_g := in_g 318 (by decide +kernel) (by decide +kernel)
theorem tw_321 : Cond.methodLink RX8 50 yX5_begin ∈ lw_g := in_g 321 (by decide +kernel) (by decide +kernel)
theorem tw_325 : Cond.methodLink RX5 65 yX4_reset ∈ lw_g := in_g 325 (by decide +kernel) (by decide +kernel)
theorem tw_326 : Cond.methodLink RX5 68 yX1_begin ∈ lw_g := in_g 326 (by decide +kernel) (by decide +kernel)
theorem tw_330 : Cond.methodLink RX1 62 yX4_reset ∈ lw_g := in_g 330 (by decide +kernel) (by decide +kernel)
theorem tw_331 : Cond.methodLink RX5 79 yX5_goBack ∈ lw_g := in_g 331 (by decide +kernel) (by decide +kernel)
theorem tw_335 : Cond.methodLink RX5 82 yX1_goBack ∈ lw_g := in_g 335 (by decide +kernel) (by decide +kernel)
theorem tw_342 : Cond.methodLink RX5 83 yX3_goBack ∈ lw_g := in_g 342 (by decide +kernel) (by decide +kernel)
theorem tw_347 : Cond.methodLink RX5 84 yX7_goBack ∈ lw_g := in_g 347 (by decide +kernel) (by decide +kernel)
theorem tw_355 : Cond.methodLink RX8 54 yX1_has ∈ lw_g := in_g 355 (by decide +kernel) (by decide +kernel)
theorem tw_360 : Cond.methodLink RX8 62 yX4_change ∈ lw_g := in_g 360 (by decide +kernel) (by decide +kernel)
theorem tw_391 : Cond.methodLink RX8 162 yX7_measured ∈ lw_g := in_g 391 (by decide +kernel) (by decide +kernel)
theorem tw_395 : Cond.methodLink RX8 174 yX0_next ∈ lw_g := in_g 395 (by decide +kernel) (by decide +kernel)
theorem tw_399 : Cond.methodLink RX8 147 yX4_value ∈ lw_g := in_g 399 (by decide +kernel) (by decide +kernel)
theorem tw_415 : Cond.constant RX8 122 200000 ∈ lw_g := in_g 415 (by decide +kernel) (by decide +kernel)
theorem tw_416 : Cond.methodLink RX8 123 yX5_makeTick ∈ lw_g := in_g 416 (by decide +kernel) (by decide +kernel)
theorem tw_420 : Cond.methodLink RX5 101 yX0_carryOut ∈ lw_g := in_g 420 (by decide +kernel) (by decide +kernel)
theorem tw_424 : Cond.methodLink RX0 49 yX1_obey ∈ lw_g := in_g 424 (by decide +kernel) (by decide +kernel)
theorem tw_428 : Cond.methodLink RX5 105 yX1_keepCommands ∈ lw_g := in_g 428 (by decide +kernel) (by decide +kernel)
theorem tw_432 : Cond.methodLink RX1 77 yX1_rowOf ∈ lw_g := in_g 432 (by decide +kernel) (by decide +kernel)
theorem tw_435 : Cond.methodLink RX1 117 yJ9_floorMod_7cf53 ∈ lw_g := in_g 435 (by decide +kernel) (by decide +kernel)
theorem tw_438 : Cond.methodLink RX1 81 arraycopyName ∈ lw_g := in_g 438 (by decide +kernel) (by decide +kernel)
theorem tw_439 : Cond.methodLink RX5 108 yX7_blow ∈ lw_g := in_g 439 (by decide +kernel) (by decide +kernel)
theorem tw_443 : Cond.methodLink RX7 24 yX4_value ∈ lw_g := in_g 443 (by decide +kernel) (by decide +kernel)
theorem tw_447 : Cond.methodLink RX8 247 yJ9_floorDiv_f86c9 ∈ lw_g := in_g 447 (by decide +kernel) (by decide +kernel)
theorem tw_450 : Cond.methodLink RX7 34 yX7_measured ∈ lw_g := in_g 450 (by decide +kernel) (by decide +kernel)
theorem tw_451 : Cond.methodLink RX7 38 yX7_enter ∈ lw_g := in_g 451 (by decide +kernel) (by decide +kernel)
theorem tw_455 : Cond.methodLink RX7 42 yX7_calmDown ∈ lw_g := in_g 455 (by decide +kernel) (by decide +kernel)
theorem tw_459 : Cond.methodLink RX5 114 yX4_value ∈ lw_g := in_g 459 (by decide +kernel) (by decide +kernel)
theorem tw_460 : Cond.methodLink RX5 118 yX1_open ∈ lw_g := in_g 460 (by decide +kernel) (by decide +kernel)
theorem tw_464 : Cond.methodLink RX1 87 yX4_value ∈ lw_g := in_g 464 (by decide +kernel) (by decide +kernel)
theorem tw_465 : Cond.methodLink RX1 91 yX1_commandAt ∈ lw_g := in_g 465 (by decide +kernel) (by decide +kernel)
theorem tw_469 : Cond.methodLink RX1 94 Lib.Math.max.name ∈ lw_g := in_g 469 (by decide +kernel) (by decide +kernel)
theorem tw_470 : Cond.methodLink RX1 99 Lib.Math.min.name ∈ lw_g := in_g 470 (by decide +kernel) (by decide +kernel)
theorem tw_476 : Cond.methodLink RX8 198 Lib.Math.min.name ∈ lw_g := in_g 476 (by decide +kernel) (by decide +kernel)
theorem tw_477 : Cond.methodLink RX8 234 Lib.Math.max.name ∈ lw_g := in_g 477 (by decide +kernel) (by decide +kernel)
theorem tw_478 : Cond.methodLink RX5 122 yX3_supply ∈ lw_g := in_g 478 (by decide +kernel) (by decide +kernel)
theorem tw_482 : Cond.methodLink RX3 51 yX1_demandOf ∈ lw_g := in_g 482 (by decide +kernel) (by decide +kernel)
theorem tw_486 : Cond.methodLink RX1 106 yX1_demandAt ∈ lw_g := in_g 486 (by decide +kernel) (by decide +kernel)
theorem tw_490 : Cond.methodLink RX3 57 yX4_value ∈ lw_g := in_g 490 (by decide +kernel) (by decide +kernel)
theorem tw_491 : Cond.methodLink RX3 61 Lib.Math.min.name ∈ lw_g := in_g 491 (by decide +kernel) (by decide +kernel)
theorem tw_493 : Cond.methodLink RX3 70 yX1_flow ∈ lw_g := in_g 493 (by decide +kernel) (by decide +kernel)
theorem tw_498 : Cond.methodLink RX5 125 yX7_measured ∈ lw_g := in_g 498 (by decide +kernel) (by decide +kernel)
theorem tw_499 : Cond.methodLink RX5 129 yX1_rise ∈ lw_g := in_g 499 (by decide +kernel) (by decide +kernel)
theorem tw_503 : Cond.constantLong RX1 113 1000000 ∈ lw_g := in_g 503 (by decide +kernel) (by decide +kernel)
theorem tw_504 : Cond.constantLong RX1 115 100000 ∈ lw_g := in_g 504 (by decide +kernel) (by decide +kernel)
theorem tw_505 : Cond.methodLink RX5 132 yX3_countShort ∈ lw_g := in_g 505 (by decide +kernel) (by decide +kernel)
theorem tw_509 : Cond.methodLink RX3 74 yX3_isShort ∈ lw_g := in_g 509 (by decide +kernel) (by decide +kernel)
theorem tw_513 : Cond.methodLink RX5 135 yX1_driftsBeyond ∈ lw_g := in_g 513 (by decide +kernel) (by decide +kernel)
theorem tw_526 : Cond.constant RX8 85 100000 ∈ lw_g := in_g 526 (by decide +kernel) (by decide +kernel)
theorem tw_527 : Cond.methodLink RX8 90 yX0_insert ∈ lw_g := in_g 527 (by decide +kernel) (by decide +kernel)
theorem tw_531 : Cond.methodLink RX0 33 yX0_next ∈ lw_g := in_g 531 (by decide +kernel) (by decide +kernel)
theorem tw_532 : Cond.methodLink RX0 37 yX0_shift ∈ lw_g := in_g 532 (by decide +kernel) (by decide +kernel)
theorem tw_536 : Cond.methodLink RX0 55 arraycopyName ∈ lw_g := in_g 536 (by decide +kernel) (by decide +kernel)
theorem tw_541 : Cond.methodLink RX8 95 yX0_has ∈ lw_g := in_g 541 (by decide +kernel) (by decide +kernel)
theorem tw_550 : Cond.methodLink RX8 115 yX1_obey ∈ lw_g := in_g 550 (by decide +kernel) (by decide +kernel)
theorem tw_559 : Cond.constant RX8 100 (-100000) ∈ lw_g := in_g 559 (by decide +kernel) (by decide +kernel)
theorem tw_560 : Cond.methodLink RX8 105 yX0_postpone ∈ lw_g := in_g 560 (by decide +kernel) (by decide +kernel)
theorem tw_564 : Cond.methodLink RX0 41 yX0_takeOut ∈ lw_g := in_g 564 (by decide +kernel) (by decide +kernel)
theorem tw_568 : Cond.methodLink RX0 45 yX0_insert ∈ lw_g := in_g 568 (by decide +kernel) (by decide +kernel)
theorem tw_580 : Cond.methodLink RX8 181 yX5_copy ∈ lw_g := in_g 580 (by decide +kernel) (by decide +kernel)
theorem tw_584 : Cond.methodLink RX5 85 yX4_copy ∈ lw_g := in_g 584 (by decide +kernel) (by decide +kernel)
theorem tw_591 : Cond.methodLink RX8 251 arraycopyName ∈ lw_g := in_g 591 (by decide +kernel) (by decide +kernel)
theorem tw_592 : Cond.methodLink RX5 89 yX1_copy ∈ lw_g := in_g 592 (by decide +kernel) (by decide +kernel)
theorem tw_596 : Cond.methodLink RX1 69 yX4_copy ∈ lw_g := in_g 596 (by decide +kernel) (by decide +kernel)
theorem tw_598 : Cond.methodLink RX5 92 yX3_copy ∈ lw_g := in_g 598 (by decide +kernel) (by decide +kernel)
theorem tw_602 : Cond.methodLink RX3 43 yX4_copy ∈ lw_g := in_g 602 (by decide +kernel) (by decide +kernel)
theorem tw_604 : Cond.methodLink RX5 95 yX7_copy ∈ lw_g := in_g 604 (by decide +kernel) (by decide +kernel)
theorem tw_608 : Cond.methodLink RX5 98 yX0_copy ∈ lw_g := in_g 608 (by decide +kernel) (by decide +kernel)
theorem tw_613 : Cond.methodLink RX8 185 yX8_greatestDemand ∈ lw_g := in_g 613 (by decide +kernel) (by decide +kernel)
theorem tw_617 : Cond.methodLink RX8 188 yX8_shortTicks ∈ lw_g := in_g 617 (by decide +kernel) (by decide +kernel)
theorem tw_621 : Cond.methodLink RX8 190 yX8_firstShort ∈ lw_g := in_g 621 (by decide +kernel) (by decide +kernel)
theorem tw_625 : Cond.methodLink RX8 237 yX3_isShort ∈ lw_g := in_g 625 (by decide +kernel) (by decide +kernel)
theorem tw_626 : Cond.methodLink RX8 193 yX8_wetTicks ∈ lw_g := in_g 626 (by decide +kernel) (by decide +kernel)
theorem tw_630 : Cond.methodLink RX8 195 yX8_greatestHeight ∈ lw_g := in_g 630 (by decide +kernel) (by decide +kernel)
theorem tw_634 : Cond.methodLink RX8 240 yX1_greatestHeightNow ∈ lw_g := in_g 634 (by decide +kernel) (by decide +kernel)
theorem tw_642 : Cond.methodLink RX8 223 yX8_slotAt ∈ lw_g := in_g 642 (by decide +kernel) (by decide +kernel)
theorem tw_657 : Cond.methodLink RX8 203 yX8_staysSupplied ∈ lw_g := in_g 657 (by decide +kernel) (by decide +kernel)
theorem tw_661 : Cond.methodLink RX8 243 yX3_someShort ∈ lw_g := in_g 661 (by decide +kernel) (by decide +kernel)
theorem tw_672 : Cond.methodLink RX8 206 yX8_staysDry ∈ lw_g := in_g 672 (by decide +kernel) (by decide +kernel)
theorem tw_683 : Cond.methodLink RX8 126 yX5_goBack ∈ lw_g := in_g 683 (by decide +kernel) (by decide +kernel)
theorem tw_693 : Cond.methodLink RX8 96 yX0_takeOut ∈ lw_g := in_g 693 (by decide +kernel) (by decide +kernel)
theorem tw_704 : Cond.methodLink RX8 212 yX2_append ∈ lw_g := in_g 704 (by decide +kernel) (by decide +kernel)
theorem tw_712 : Cond.methodLink RX8 216 yX2_findFault ∈ lw_g := in_g 712 (by decide +kernel) (by decide +kernel)
theorem tw_716 : Cond.methodLink RX2 41 yX2_accepts ∈ lw_g := in_g 716 (by decide +kernel) (by decide +kernel)
theorem tw_720 : Cond.methodLink RX2 49 yX2_endsTime ∈ lw_g := in_g 720 (by decide +kernel) (by decide +kernel)
theorem tw_724 : Cond.methodLink RX2 52 yX2_isDigitUpTo ∈ lw_g := in_g 724 (by decide +kernel) (by decide +kernel)
theorem tw_728 : Cond.methodLink RX2 56 yX2_endsSet ∈ lw_g := in_g 728 (by decide +kernel) (by decide +kernel)
theorem tw_732 : Cond.methodLink RX2 59 yX2_isLetter ∈ lw_g := in_g 732 (by decide +kernel) (by decide +kernel)
theorem tw_736 : Cond.methodLink RX2 45 yX2_endsCue ∈ lw_g := in_g 736 (by decide +kernel) (by decide +kernel)
theorem tw_740 : Cond.methodLink RX2 62 yX0_insert ∈ lw_g := in_g 740 (by decide +kernel) (by decide +kernel)
theorem tw_741 : Cond.constant RX8 219 90000 ∈ lw_g := in_g 741 (by decide +kernel) (by decide +kernel)
theorem tn_339 : Cond.methodLinkNest RX1 65 yX8_clear RX8 ∈ lw_n := in_n 339 (by decide +kernel) (by decide +kernel)
theorem tn_346 : Cond.methodLinkNest RX3 39 yX8_clear RX8 ∈ lw_n := in_n 346 (by decide +kernel) (by decide +kernel)
theorem tn_359 : Cond.methodLinkNest RX1 58 yX8_within RX8 ∈ lw_n := in_n 359 (by decide +kernel) (by decide +kernel)
theorem tn_364 : Cond.methodLinkNest RX4 43 yX8_within RX8 ∈ lw_n := in_n 364 (by decide +kernel) (by decide +kernel)
theorem tn_444 : Cond.methodLinkNest RX7 30 yX8_quotient RX8 ∈ lw_n := in_n 444 (by decide +kernel) (by decide +kernel)
theorem tn_473 : Cond.methodLinkNest RX1 102 yX8_toward RX8 ∈ lw_n := in_n 473 (by decide +kernel) (by decide +kernel)
theorem tn_492 : Cond.methodLinkNest RX3 66 yX8_toward RX8 ∈ lw_n := in_n 492 (by decide +kernel) (by decide +kernel)
theorem tn_497 : Cond.methodLinkNest RX1 109 yX8_quotient RX8 ∈ lw_n := in_n 497 (by decide +kernel) (by decide +kernel)
theorem tn_545 : Cond.methodLinkNest RX0 25 yX8_within RX8 ∈ lw_n := in_n 545 (by decide +kernel) (by decide +kernel)
theorem tn_588 : Cond.methodLinkNest RX4 47 yX8_copyRow RX8 ∈ lw_n := in_n 588 (by decide +kernel) (by decide +kernel)
theorem tn_597 : Cond.methodLinkNest RX1 73 yX8_copyRow RX8 ∈ lw_n := in_n 597 (by decide +kernel) (by decide +kernel)
theorem tn_603 : Cond.methodLinkNest RX3 47 yX8_copyRow RX8 ∈ lw_n := in_n 603 (by decide +kernel) (by decide +kernel)
theorem tn_612 : Cond.methodLinkNest RX0 29 yX8_copyRow RX8 ∈ lw_n := in_n 612 (by decide +kernel) (by decide +kernel)
theorem twac_n : Cond.native arraycopyName ∈ lw_g := in_g 66 (by decide +kernel) (by decide +kernel)
theorem twac_s : Cond.static arraycopyName ∈ lw_g := in_g 65 (by decide +kernel) (by decide +kernel)
theorem twac_i : Cond.initialized "java/lang/System" ∈ lw_g := in_g 24 (by decide +kernel) (by decide +kernel)
theorem twm_i : Cond.initialized "java/lang/Math" ∈ lw_g := in_g 23 (by decide +kernel) (by decide +kernel)
theorem twm_max_s : Cond.static Lib.Math.max.name ∈ lw_g := in_g 58 (by decide +kernel) (by decide +kernel)
theorem twm_max_c : Cond.code Lib.Math.max.name Lib.Math.max.code 2 (some .int) ∈ lw_g := in_g 59 (by decide +kernel) (by decide +kernel)
theorem twm_min_s : Cond.static Lib.Math.min.name ∈ lw_g := in_g 471 (by decide +kernel) (by decide +kernel)
theorem twm_min_c : Cond.code Lib.Math.min.name Lib.Math.min.code 2 (some .int) ∈ lw_g := in_g 472 (by decide +kernel) (by decide +kernel)
theorem wyX8_within : Wy yX8_within cX8_within 3 ((some FieldType.boolean)) 3 := ⟨in_g 320 (by decide +kernel) (by decide +kernel), in_g 20 (by decide +kernel) (by decide +kernel), by decide +kernel, by decide +kernel, by decide +kernel⟩
theorem tsX8_within : Cond.static yX8_within ∈ lw_g := in_g 319 (by decide +kernel) (by decide +kernel)
theorem wyX0_has : Wy yX0_has cX0_has 2 ((some FieldType.boolean)) 1 := ⟨in_g 544 (by decide +kernel) (by decide +kernel), in_g 28 (by decide +kernel) (by decide +kernel), by decide +kernel, by decide +kernel, by decide +kernel⟩
theorem tvX0_has_i : Cond.instanceMethod yX0_has ∈ lw_g := in_g 542 (by decide +kernel) (by decide +kernel)
theorem tvX0_has_s : Cond.selects yX0_has.cls yX0_has yX0_has ∈ lw_g := in_g 543 (by decide +kernel) (by decide +kernel)
theorem wyX8_copyRow : Wy yX8_copyRow cX8_copyRow 2 none 2 := ⟨in_g 590 (by decide +kernel) (by decide +kernel), in_g 20 (by decide +kernel) (by decide +kernel), by decide +kernel, by decide +kernel, by decide +kernel⟩
theorem tsX8_copyRow : Cond.static yX8_copyRow ∈ lw_g := in_g 589 (by decide +kernel) (by decide +kernel)
theorem wyX0_copy : Wy yX0_copy cX0_copy 2 none 1 := ⟨in_g 611 (by decide +kernel) (by decide +kernel), in_g 28 (by decide +kernel) (by decide +kernel), by decide +kernel, by decide +kernel, by decide +kernel⟩
theorem tvX0_copy_i : Cond.instanceMethod yX0_copy ∈ lw_g := in_g 609 (by decide +kernel) (by decide +kernel)
theorem tvX0_copy_s : Cond.selects yX0_copy.cls yX0_copy yX0_copy ∈ lw_g := in_g 610 (by decide +kernel) (by decide +kernel)
theorem wyX0_next : Wy yX0_next cX0_next 3 ((some FieldType.int)) 1 := ⟨in_g 398 (by decide +kernel) (by decide +kernel), in_g 28 (by decide +kernel) (by decide +kernel), by decide +kernel, by decide +kernel, by decide +kernel⟩
theorem tvX0_next_i : Cond.instanceMethod yX0_next ∈ lw_g := in_g 396 (by decide +kernel) (by decide +kernel)
theorem tvX0_next_s : Cond.selects yX0_next.cls yX0_next yX0_next ∈ lw_g := in_g 397 (by decide +kernel) (by decide +kernel)
theorem wyX0_shift : Wy yX0_shift cX0_shift 4 none 3 := ⟨in_g 535 (by decide +kernel) (by decide +kernel), in_g 28 (by decide +kernel) (by decide +kernel), by decide +kernel, by decide +kernel, by decide +kernel⟩
theorem tvX0_shift_i : Cond.instanceMethod yX0_shift ∈ lw_g := in_g 534 (by decide +kernel) (by decide +kernel)
theorem tvX0_shift_s : Cond.selects yX0_shift.cls yX0_shift yX0_shift ∈ lw_g := in_g 4 (by decide +kernel) (by decide +kernel)
theorem wyX0_insert : Wy yX0_insert cX0_insert 5 ((some FieldType.int)) 3 := ⟨in_g 530 (by decide +kernel) (by decide +kernel), in_g 28 (by decide +kernel) (by decide +kernel), by decide +kernel, by decide +kernel, by decide +kernel⟩
theorem tvX0_insert_i : Cond.instanceMethod yX0_insert ∈ lw_g := in_g 528 (by decide +kernel) (by decide +kernel)
theorem tvX0_insert_s : Cond.selects yX0_insert.cls yX0_insert yX0_insert ∈ lw_g := in_g 529 (by decide +kernel) (by decide +kernel)
theorem wyX0_takeOut : Wy yX0_takeOut cX0_takeOut 2 none 1 := ⟨in_g 567 (by decide +kernel) (by decide +kernel), in_g 28 (by decide +kernel) (by decide +kernel), by decide +kernel, by decide +kernel, by decide +kernel⟩
theorem tvX0_takeOut_i : Cond.instanceMethod yX0_takeOut ∈ lw_g := in_g 565 (by decide +kernel) (by decide +kernel)
theorem tvX0_takeOut_s : Cond.selects yX0_takeOut.cls yX0_takeOut yX0_takeOut ∈ lw_g := in_g 566 (by decide +kernel) (by decide +kernel)
theorem wyX0_postpone : Wy yX0_postpone cX0_postpone 6 ((some FieldType.int)) 2 := ⟨in_g 563 (by decide +kernel) (by decide +kernel), in_g 28 (by decide +kernel) (by decide +kernel), by decide +kernel, by decide +kernel, by decide +kernel⟩
theorem tvX0_postpone_i : Cond.instanceMethod yX0_postpone ∈ lw_g := in_g 561 (by decide +kernel) (by decide +kernel)
theorem tvX0_postpone_s : Cond.selects yX0_postpone.cls yX0_postpone yX0_postpone ∈ lw_g := in_g 562 (by decide +kernel) (by decide +kernel)
theorem wyX1_obey : Wy yX1_obey cX1_obey 4 none 2 := ⟨in_g 427 (by decide +kernel) (by decide +kernel), in_g 25 (by decide +kernel) (by decide +kernel), by decide +kernel, by decide +kernel, by decide +kernel⟩
theorem tvX1_obey_i : Cond.instanceMethod yX1_obey ∈ lw_g := in_g 425 (by decide +kernel) (by decide +kernel)
theorem tvX1_obey_s : Cond.selects yX1_obey.cls yX1_obey yX1_obey ∈ lw_g := in_g 426 (by decide +kernel) (by decide +kernel)
theorem wyX0_carryOut : Wy yX0_carryOut cX0_carryOut 4 none 2 := ⟨in_g 423 (by decide +kernel) (by decide +kernel), in_g 28 (by decide +kernel) (by decide +kernel), by decide +kernel, by decide +kernel, by decide +kernel⟩
theorem tvX0_carryOut_i : Cond.instanceMethod yX0_carryOut ∈ lw_g := in_g 421 (by decide +kernel) (by decide +kernel)
theorem tvX0_carryOut_s : Cond.selects yX0_carryOut.cls yX0_carryOut yX0_carryOut ∈ lw_g := in_g 422 (by decide +kernel) (by decide +kernel)
theorem wyX1_has : Wy yX1_has cX1_has 2 ((some FieldType.boolean)) 1 := ⟨in_g 358 (by decide +kernel) (by decide +kernel), in_g 25 (by decide +kernel) (by decide +kernel), by decide +kernel, by decide +kernel, by decide +kernel⟩
theorem tvX1_has_i : Cond.instanceMethod yX1_has ∈ lw_g := in_g 356 (by decide +kernel) (by decide +kernel)
theorem tvX1_has_s : Cond.selects yX1_has.cls yX1_has yX1_has ∈ lw_g := in_g 357 (by decide +kernel) (by decide +kernel)
theorem wyX4_reset : Wy yX4_reset cX4_reset 2 none 0 := ⟨in_g 63 (by decide +kernel) (by decide +kernel), in_g 22 (by decide +kernel) (by decide +kernel), by decide +kernel, by decide +kernel, by decide +kernel⟩
theorem tvX4_reset_i : Cond.instanceMethod yX4_reset ∈ lw_g := in_g 61 (by decide +kernel) (by decide +kernel)
theorem tvX4_reset_s : Cond.selects yX4_reset.cls yX4_reset yX4_reset ∈ lw_g := in_g 62 (by decide +kernel) (by decide +kernel)
theorem wyX1_begin : Wy yX1_begin cX1_begin 2 none 1 := ⟨in_g 329 (by decide +kernel) (by decide +kernel), in_g 25 (by decide +kernel) (by decide +kernel), by decide +kernel, by decide +kernel, by decide +kernel⟩
theorem tvX1_begin_i : Cond.instanceMethod yX1_begin ∈ lw_g := in_g 327 (by decide +kernel) (by decide +kernel)
theorem tvX1_begin_s : Cond.selects yX1_begin.cls yX1_begin yX1_begin ∈ lw_g := in_g 328 (by decide +kernel) (by decide +kernel)
theorem wyX8_clear : Wy yX8_clear cX8_clear 2 none 1 := ⟨in_g 341 (by decide +kernel) (by decide +kernel), in_g 20 (by decide +kernel) (by decide +kernel), by decide +kernel, by decide +kernel, by decide +kernel⟩
theorem tsX8_clear : Cond.static yX8_clear ∈ lw_g := in_g 340 (by decide +kernel) (by decide +kernel)
theorem wyX1_goBack : Wy yX1_goBack cX1_goBack 1 none 0 := ⟨in_g 338 (by decide +kernel) (by decide +kernel), in_g 25 (by decide +kernel) (by decide +kernel), by decide +kernel, by decide +kernel, by decide +kernel⟩
theorem tvX1_goBack_i : Cond.instanceMethod yX1_goBack ∈ lw_g := in_g 336 (by decide +kernel) (by decide +kernel)
theorem tvX1_goBack_s : Cond.selects yX1_goBack.cls yX1_goBack yX1_goBack ∈ lw_g := in_g 337 (by decide +kernel) (by decide +kernel)
theorem wyX4_copy : Wy yX4_copy cX4_copy 2 none 1 := ⟨in_g 587 (by decide +kernel) (by decide +kernel), in_g 22 (by decide +kernel) (by decide +kernel), by decide +kernel, by decide +kernel, by decide +kernel⟩
theorem tvX4_copy_i : Cond.instanceMethod yX4_copy ∈ lw_g := in_g 585 (by decide +kernel) (by decide +kernel)
theorem tvX4_copy_s : Cond.selects yX4_copy.cls yX4_copy yX4_copy ∈ lw_g := in_g 586 (by decide +kernel) (by decide +kernel)
theorem wyX1_copy : Wy yX1_copy cX1_copy 2 none 1 := ⟨in_g 595 (by decide +kernel) (by decide +kernel), in_g 25 (by decide +kernel) (by decide +kernel), by decide +kernel, by decide +kernel, by decide +kernel⟩
theorem tvX1_copy_i : Cond.instanceMethod yX1_copy ∈ lw_g := in_g 593 (by decide +kernel) (by decide +kernel)
theorem tvX1_copy_s : Cond.selects yX1_copy.cls yX1_copy yX1_copy ∈ lw_g := in_g 594 (by decide +kernel) (by decide +kernel)
theorem wyJ9_floorMod_7cf53 : Wy yJ9_floorMod_7cf53 cJ9_floorMod_7cf53 3 ((some FieldType.int)) 2 := ⟨in_g 437 (by decide +kernel) (by decide +kernel), in_g 23 (by decide +kernel) (by decide +kernel), by decide +kernel, by decide +kernel, by decide +kernel⟩
theorem tsJ9_floorMod_7cf53 : Cond.static yJ9_floorMod_7cf53 ∈ lw_g := in_g 436 (by decide +kernel) (by decide +kernel)
theorem wyX1_rowOf : Wy yX1_rowOf cX1_rowOf 1 ((some FieldType.int)) 1 := ⟨in_g 434 (by decide +kernel) (by decide +kernel), in_g 25 (by decide +kernel) (by decide +kernel), by decide +kernel, by decide +kernel, by decide +kernel⟩
theorem tsX1_rowOf : Cond.static yX1_rowOf ∈ lw_g := in_g 433 (by decide +kernel) (by decide +kernel)
theorem wyX1_keepCommands : Wy yX1_keepCommands cX1_keepCommands 2 none 1 := ⟨in_g 431 (by decide +kernel) (by decide +kernel), in_g 25 (by decide +kernel) (by decide +kernel), by decide +kernel, by decide +kernel, by decide +kernel⟩
theorem tvX1_keepCommands_i : Cond.instanceMethod yX1_keepCommands ∈ lw_g := in_g 429 (by decide +kernel) (by decide +kernel)
theorem tvX1_keepCommands_s : Cond.selects yX1_keepCommands.cls yX1_keepCommands yX1_keepCommands ∈ lw_g := in_g 430 (by decide +kernel) (by decide +kernel)
theorem wyX1_commandAt : Wy yX1_commandAt cX1_commandAt 3 ((some FieldType.int)) 2 := ⟨in_g 468 (by decide +kernel) (by decide +kernel), in_g 25 (by decide +kernel) (by decide +kernel), by decide +kernel, by decide +kernel, by decide +kernel⟩
theorem tvX1_commandAt_i : Cond.instanceMethod yX1_commandAt ∈ lw_g := in_g 467 (by decide +kernel) (by decide +kernel)
theorem tvX1_commandAt_s : Cond.selects yX1_commandAt.cls yX1_commandAt yX1_commandAt ∈ lw_g := in_g 2 (by decide +kernel) (by decide +kernel)
theorem wyX4_value : Wy yX4_value cX4_value 4 ((some FieldType.int)) 2 := ⟨in_g 402 (by decide +kernel) (by decide +kernel), in_g 22 (by decide +kernel) (by decide +kernel), by decide +kernel, by decide +kernel, by decide +kernel⟩
theorem tvX4_value_i : Cond.instanceMethod yX4_value ∈ lw_g := in_g 400 (by decide +kernel) (by decide +kernel)
theorem tvX4_value_s : Cond.selects yX4_value.cls yX4_value yX4_value ∈ lw_g := in_g 401 (by decide +kernel) (by decide +kernel)
theorem wyX8_toward : Wy yX8_toward cX8_toward 3 ((some FieldType.int)) 3 := ⟨in_g 475 (by decide +kernel) (by decide +kernel), in_g 20 (by decide +kernel) (by decide +kernel), by decide +kernel, by decide +kernel, by decide +kernel⟩
theorem tsX8_toward : Cond.static yX8_toward ∈ lw_g := in_g 474 (by decide +kernel) (by decide +kernel)
theorem wyX1_open : Wy yX1_open cX1_open 6 none 3 := ⟨in_g 463 (by decide +kernel) (by decide +kernel), in_g 25 (by decide +kernel) (by decide +kernel), by decide +kernel, by decide +kernel, by decide +kernel⟩
theorem tvX1_open_i : Cond.instanceMethod yX1_open ∈ lw_g := in_g 461 (by decide +kernel) (by decide +kernel)
theorem tvX1_open_s : Cond.selects yX1_open.cls yX1_open yX1_open ∈ lw_g := in_g 462 (by decide +kernel) (by decide +kernel)
theorem wyX1_demandAt : Wy yX1_demandAt cX1_demandAt 2 ((some FieldType.int)) 1 := ⟨in_g 489 (by decide +kernel) (by decide +kernel), in_g 25 (by decide +kernel) (by decide +kernel), by decide +kernel, by decide +kernel, by decide +kernel⟩
theorem tvX1_demandAt_i : Cond.instanceMethod yX1_demandAt ∈ lw_g := in_g 488 (by decide +kernel) (by decide +kernel)
theorem tvX1_demandAt_s : Cond.selects yX1_demandAt.cls yX1_demandAt yX1_demandAt ∈ lw_g := in_g 3 (by decide +kernel) (by decide +kernel)
theorem wyX1_demandOf : Wy yX1_demandOf cX1_demandOf 4 ((some FieldType.int)) 1 := ⟨in_g 485 (by decide +kernel) (by decide +kernel), in_g 25 (by decide +kernel) (by decide +kernel), by decide +kernel, by decide +kernel, by decide +kernel⟩
theorem tvX1_demandOf_i : Cond.instanceMethod yX1_demandOf ∈ lw_g := in_g 483 (by decide +kernel) (by decide +kernel)
theorem tvX1_demandOf_s : Cond.selects yX1_demandOf.cls yX1_demandOf yX1_demandOf ∈ lw_g := in_g 484 (by decide +kernel) (by decide +kernel)
theorem wyJ9_floorDiv_f86c9 : Wy yJ9_floorDiv_f86c9 cJ9_floorDiv_f86c9 6 ((some FieldType.long)) 2 := ⟨in_g 449 (by decide +kernel) (by decide +kernel), in_g 23 (by decide +kernel) (by decide +kernel), by decide +kernel, by decide +kernel, by decide +kernel⟩
theorem tsJ9_floorDiv_f86c9 : Cond.static yJ9_floorDiv_f86c9 ∈ lw_g := in_g 448 (by decide +kernel) (by decide +kernel)
theorem wyX8_quotient : Wy yX8_quotient cX8_quotient 4 ((some FieldType.long)) 2 := ⟨in_g 446 (by decide +kernel) (by decide +kernel), in_g 20 (by decide +kernel) (by decide +kernel), by decide +kernel, by decide +kernel, by decide +kernel⟩
theorem tsX8_quotient : Cond.static yX8_quotient ∈ lw_g := in_g 445 (by decide +kernel) (by decide +kernel)
theorem wyX1_flow : Wy yX1_flow cX1_flow 6 none 3 := ⟨in_g 496 (by decide +kernel) (by decide +kernel), in_g 25 (by decide +kernel) (by decide +kernel), by decide +kernel, by decide +kernel, by decide +kernel⟩
theorem tvX1_flow_i : Cond.instanceMethod yX1_flow ∈ lw_g := in_g 494 (by decide +kernel) (by decide +kernel)
theorem tvX1_flow_s : Cond.selects yX1_flow.cls yX1_flow yX1_flow ∈ lw_g := in_g 495 (by decide +kernel) (by decide +kernel)
theorem wyX1_rise : Wy yX1_rise cX1_rise 5 none 1 := ⟨in_g 502 (by decide +kernel) (by decide +kernel), in_g 25 (by decide +kernel) (by decide +kernel), by decide +kernel, by decide +kernel, by decide +kernel⟩
theorem tvX1_rise_i : Cond.instanceMethod yX1_rise ∈ lw_g := in_g 500 (by decide +kernel) (by decide +kernel)
theorem tvX1_rise_s : Cond.selects yX1_rise.cls yX1_rise yX1_rise ∈ lw_g := in_g 501 (by decide +kernel) (by decide +kernel)
theorem wyX1_driftsBeyond : Wy yX1_driftsBeyond cX1_driftsBeyond 3 ((some FieldType.boolean)) 1 := ⟨in_g 516 (by decide +kernel) (by decide +kernel), in_g 25 (by decide +kernel) (by decide +kernel), by decide +kernel, by decide +kernel, by decide +kernel⟩
theorem tvX1_driftsBeyond_i : Cond.instanceMethod yX1_driftsBeyond ∈ lw_g := in_g 514 (by decide +kernel) (by decide +kernel)
theorem tvX1_driftsBeyond_s : Cond.selects yX1_driftsBeyond.cls yX1_driftsBeyond yX1_driftsBeyond ∈ lw_g := in_g 515 (by decide +kernel) (by decide +kernel)
theorem wyX1_greatestHeightNow : Wy yX1_greatestHeightNow cX1_greatestHeightNow 3 ((some FieldType.int)) 0 := ⟨in_g 637 (by decide +kernel) (by decide +kernel), in_g 25 (by decide +kernel) (by decide +kernel), by decide +kernel, by decide +kernel, by decide +kernel⟩
theorem tvX1_greatestHeightNow_i : Cond.instanceMethod yX1_greatestHeightNow ∈ lw_g := in_g 635 (by decide +kernel) (by decide +kernel)
theorem tvX1_greatestHeightNow_s : Cond.selects yX1_greatestHeightNow.cls yX1_greatestHeightNow yX1_greatestHeightNow ∈ lw_g := in_g 636 (by decide +kernel) (by decide +kernel)
theorem wyX2_append : Wy yX2_append cX2_append 2 ((some FieldType.int)) 1 := ⟨in_g 707 (by decide +kernel) (by decide +kernel), in_g 30 (by decide +kernel) (by decide +kernel), by decide +kernel, by decide +kernel, by decide +kernel⟩
theorem tvX2_append_i : Cond.instanceMethod yX2_append ∈ lw_g := in_g 705 (by decide +kernel) (by decide +kernel)
theorem tvX2_append_s : Cond.selects yX2_append.cls yX2_append yX2_append ∈ lw_g := in_g 706 (by decide +kernel) (by decide +kernel)
theorem wyX2_endsCue : Wy yX2_endsCue cX2_endsCue 1 ((some FieldType.boolean)) 0 := ⟨in_g 739 (by decide +kernel) (by decide +kernel), in_g 30 (by decide +kernel) (by decide +kernel), by decide +kernel, by decide +kernel, by decide +kernel⟩
theorem tvX2_endsCue_i : Cond.instanceMethod yX2_endsCue ∈ lw_g := in_g 738 (by decide +kernel) (by decide +kernel)
theorem tvX2_endsCue_s : Cond.selects yX2_endsCue.cls yX2_endsCue yX2_endsCue ∈ lw_g := in_g 18 (by decide +kernel) (by decide +kernel)
theorem wyX2_endsSet : Wy yX2_endsSet cX2_endsSet 1 ((some FieldType.boolean)) 0 := ⟨in_g 731 (by decide +kernel) (by decide +kernel), in_g 30 (by decide +kernel) (by decide +kernel), by decide +kernel, by decide +kernel, by decide +kernel⟩
theorem tvX2_endsSet_i : Cond.instanceMethod yX2_endsSet ∈ lw_g := in_g 730 (by decide +kernel) (by decide +kernel)
theorem tvX2_endsSet_s : Cond.selects yX2_endsSet.cls yX2_endsSet yX2_endsSet ∈ lw_g := in_g 16 (by decide +kernel) (by decide +kernel)
theorem wyX2_endsTime : Wy yX2_endsTime cX2_endsTime 1 ((some FieldType.boolean)) 0 := ⟨in_g 723 (by decide +kernel) (by decide +kernel), in_g 30 (by decide +kernel) (by decide +kernel), by decide +kernel, by decide +kernel, by decide +kernel⟩
theorem tvX2_endsTime_i : Cond.instanceMethod yX2_endsTime ∈ lw_g := in_g 722 (by decide +kernel) (by decide +kernel)
theorem tvX2_endsTime_s : Cond.selects yX2_endsTime.cls yX2_endsTime yX2_endsTime ∈ lw_g := in_g 14 (by decide +kernel) (by decide +kernel)
theorem wyX2_isDigitUpTo : Wy yX2_isDigitUpTo cX2_isDigitUpTo 4 ((some FieldType.boolean)) 2 := ⟨in_g 727 (by decide +kernel) (by decide +kernel), in_g 30 (by decide +kernel) (by decide +kernel), by decide +kernel, by decide +kernel, by decide +kernel⟩
theorem tvX2_isDigitUpTo_i : Cond.instanceMethod yX2_isDigitUpTo ∈ lw_g := in_g 726 (by decide +kernel) (by decide +kernel)
theorem tvX2_isDigitUpTo_s : Cond.selects yX2_isDigitUpTo.cls yX2_isDigitUpTo yX2_isDigitUpTo ∈ lw_g := in_g 15 (by decide +kernel) (by decide +kernel)
theorem wyX2_isLetter : Wy yX2_isLetter cX2_isLetter 4 ((some FieldType.boolean)) 1 := ⟨in_g 735 (by decide +kernel) (by decide +kernel), in_g 30 (by decide +kernel) (by decide +kernel), by decide +kernel, by decide +kernel, by decide +kernel⟩
theorem tvX2_isLetter_i : Cond.instanceMethod yX2_isLetter ∈ lw_g := in_g 734 (by decide +kernel) (by decide +kernel)
theorem tvX2_isLetter_s : Cond.selects yX2_isLetter.cls yX2_isLetter yX2_isLetter ∈ lw_g := in_g 17 (by decide +kernel) (by decide +kernel)
theorem wyX2_accepts : Wy yX2_accepts cX2_accepts 2 ((some FieldType.boolean)) 1 := ⟨in_g 719 (by decide +kernel) (by decide +kernel), in_g 30 (by decide +kernel) (by decide +kernel), by decide +kernel, by decide +kernel, by decide +kernel⟩
theorem tvX2_accepts_i : Cond.instanceMethod yX2_accepts ∈ lw_g := in_g 718 (by decide +kernel) (by decide +kernel)
theorem tvX2_accepts_s : Cond.selects yX2_accepts.cls yX2_accepts yX2_accepts ∈ lw_g := in_g 13 (by decide +kernel) (by decide +kernel)
theorem wyX2_findFault : Wy yX2_findFault cX2_findFault 2 ((some FieldType.int)) 0 := ⟨in_g 715 (by decide +kernel) (by decide +kernel), in_g 30 (by decide +kernel) (by decide +kernel), by decide +kernel, by decide +kernel, by decide +kernel⟩
theorem tvX2_findFault_i : Cond.instanceMethod yX2_findFault ∈ lw_g := in_g 713 (by decide +kernel) (by decide +kernel)
theorem tvX2_findFault_s : Cond.selects yX2_findFault.cls yX2_findFault yX2_findFault ∈ lw_g := in_g 714 (by decide +kernel) (by decide +kernel)
theorem wyX3_goBack : Wy yX3_goBack cX3_goBack 1 none 0 := ⟨in_g 345 (by decide +kernel) (by decide +kernel), in_g 26 (by decide +kernel) (by decide +kernel), by decide +kernel, by decide +kernel, by decide +kernel⟩
theorem tvX3_goBack_i : Cond.instanceMethod yX3_goBack ∈ lw_g := in_g 343 (by decide +kernel) (by decide +kernel)
theorem tvX3_goBack_s : Cond.selects yX3_goBack.cls yX3_goBack yX3_goBack ∈ lw_g := in_g 344 (by decide +kernel) (by decide +kernel)
theorem wyX3_copy : Wy yX3_copy cX3_copy 2 none 1 := ⟨in_g 601 (by decide +kernel) (by decide +kernel), in_g 26 (by decide +kernel) (by decide +kernel), by decide +kernel, by decide +kernel, by decide +kernel⟩
theorem tvX3_copy_i : Cond.instanceMethod yX3_copy ∈ lw_g := in_g 599 (by decide +kernel) (by decide +kernel)
theorem tvX3_copy_s : Cond.selects yX3_copy.cls yX3_copy yX3_copy ∈ lw_g := in_g 600 (by decide +kernel) (by decide +kernel)
theorem wyX3_supply : Wy yX3_supply cX3_supply 4 none 1 := ⟨in_g 481 (by decide +kernel) (by decide +kernel), in_g 26 (by decide +kernel) (by decide +kernel), by decide +kernel, by decide +kernel, by decide +kernel⟩
theorem tvX3_supply_i : Cond.instanceMethod yX3_supply ∈ lw_g := in_g 479 (by decide +kernel) (by decide +kernel)
theorem tvX3_supply_s : Cond.selects yX3_supply.cls yX3_supply yX3_supply ∈ lw_g := in_g 480 (by decide +kernel) (by decide +kernel)
theorem wyX3_isShort : Wy yX3_isShort cX3_isShort 2 ((some FieldType.boolean)) 1 := ⟨in_g 512 (by decide +kernel) (by decide +kernel), in_g 26 (by decide +kernel) (by decide +kernel), by decide +kernel, by decide +kernel, by decide +kernel⟩
theorem tvX3_isShort_i : Cond.instanceMethod yX3_isShort ∈ lw_g := in_g 510 (by decide +kernel) (by decide +kernel)
theorem tvX3_isShort_s : Cond.selects yX3_isShort.cls yX3_isShort yX3_isShort ∈ lw_g := in_g 511 (by decide +kernel) (by decide +kernel)
theorem wyX3_countShort : Wy yX3_countShort cX3_countShort 2 none 0 := ⟨in_g 508 (by decide +kernel) (by decide +kernel), in_g 26 (by decide +kernel) (by decide +kernel), by decide +kernel, by decide +kernel, by decide +kernel⟩
theorem tvX3_countShort_i : Cond.instanceMethod yX3_countShort ∈ lw_g := in_g 506 (by decide +kernel) (by decide +kernel)
theorem tvX3_countShort_s : Cond.selects yX3_countShort.cls yX3_countShort yX3_countShort ∈ lw_g := in_g 507 (by decide +kernel) (by decide +kernel)
theorem wyX3_someShort : Wy yX3_someShort cX3_someShort 2 ((some FieldType.boolean)) 0 := ⟨in_g 664 (by decide +kernel) (by decide +kernel), in_g 26 (by decide +kernel) (by decide +kernel), by decide +kernel, by decide +kernel, by decide +kernel⟩
theorem tvX3_someShort_i : Cond.instanceMethod yX3_someShort ∈ lw_g := in_g 662 (by decide +kernel) (by decide +kernel)
theorem tvX3_someShort_s : Cond.selects yX3_someShort.cls yX3_someShort yX3_someShort ∈ lw_g := in_g 663 (by decide +kernel) (by decide +kernel)
theorem wyX4_change : Wy yX4_change cX4_change 6 ((some FieldType.int)) 3 := ⟨in_g 363 (by decide +kernel) (by decide +kernel), in_g 22 (by decide +kernel) (by decide +kernel), by decide +kernel, by decide +kernel, by decide +kernel⟩
theorem tvX4_change_i : Cond.instanceMethod yX4_change ∈ lw_g := in_g 361 (by decide +kernel) (by decide +kernel)
theorem tvX4_change_s : Cond.selects yX4_change.cls yX4_change yX4_change ∈ lw_g := in_g 362 (by decide +kernel) (by decide +kernel)
theorem wyX7_goBack : Wy yX7_goBack cX7_goBack 1 none 0 := ⟨in_g 350 (by decide +kernel) (by decide +kernel), in_g 27 (by decide +kernel) (by decide +kernel), by decide +kernel, by decide +kernel, by decide +kernel⟩
theorem tvX7_goBack_i : Cond.instanceMethod yX7_goBack ∈ lw_g := in_g 348 (by decide +kernel) (by decide +kernel)
theorem tvX7_goBack_s : Cond.selects yX7_goBack.cls yX7_goBack yX7_goBack ∈ lw_g := in_g 349 (by decide +kernel) (by decide +kernel)
theorem wyX5_goBack : Wy yX5_goBack cX5_goBack 1 none 0 := ⟨in_g 334 (by decide +kernel) (by decide +kernel), in_g 21 (by decide +kernel) (by decide +kernel), by decide +kernel, by decide +kernel, by decide +kernel⟩
theorem tvX5_goBack_i : Cond.instanceMethod yX5_goBack ∈ lw_g := in_g 332 (by decide +kernel) (by decide +kernel)
theorem tvX5_goBack_s : Cond.selects yX5_goBack.cls yX5_goBack yX5_goBack ∈ lw_g := in_g 333 (by decide +kernel) (by decide +kernel)
theorem wyX5_begin : Wy yX5_begin cX5_begin 2 none 1 := ⟨in_g 324 (by decide +kernel) (by decide +kernel), in_g 21 (by decide +kernel) (by decide +kernel), by decide +kernel, by decide +kernel, by decide +kernel⟩
theorem tvX5_begin_i : Cond.instanceMethod yX5_begin ∈ lw_g := in_g 322 (by decide +kernel) (by decide +kernel)
theorem tvX5_begin_s : Cond.selects yX5_begin.cls yX5_begin yX5_begin ∈ lw_g := in_g 323 (by decide +kernel) (by decide +kernel)
theorem wyX7_copy : Wy yX7_copy cX7_copy 2 none 1 := ⟨in_g 607 (by decide +kernel) (by decide +kernel), in_g 27 (by decide +kernel) (by decide +kernel), by decide +kernel, by decide +kernel, by decide +kernel⟩
theorem tvX7_copy_i : Cond.instanceMethod yX7_copy ∈ lw_g := in_g 605 (by decide +kernel) (by decide +kernel)
theorem tvX7_copy_s : Cond.selects yX7_copy.cls yX7_copy yX7_copy ∈ lw_g := in_g 606 (by decide +kernel) (by decide +kernel)
theorem wyX5_copy : Wy yX5_copy cX5_copy 2 none 1 := ⟨in_g 583 (by decide +kernel) (by decide +kernel), in_g 21 (by decide +kernel) (by decide +kernel), by decide +kernel, by decide +kernel, by decide +kernel⟩
theorem tvX5_copy_i : Cond.instanceMethod yX5_copy ∈ lw_g := in_g 581 (by decide +kernel) (by decide +kernel)
theorem tvX5_copy_s : Cond.selects yX5_copy.cls yX5_copy yX5_copy ∈ lw_g := in_g 582 (by decide +kernel) (by decide +kernel)
theorem wyX7_enter : Wy yX7_enter cX7_enter 2 none 1 := ⟨in_g 454 (by decide +kernel) (by decide +kernel), in_g 27 (by decide +kernel) (by decide +kernel), by decide +kernel, by decide +kernel, by decide +kernel⟩
theorem tvX7_enter_i : Cond.instanceMethod yX7_enter ∈ lw_g := in_g 453 (by decide +kernel) (by decide +kernel)
theorem tvX7_enter_s : Cond.selects yX7_enter.cls yX7_enter yX7_enter ∈ lw_g := in_g 0 (by decide +kernel) (by decide +kernel)
theorem wyX7_calmDown : Wy yX7_calmDown cX7_calmDown 2 none 1 := ⟨in_g 458 (by decide +kernel) (by decide +kernel), in_g 27 (by decide +kernel) (by decide +kernel), by decide +kernel, by decide +kernel, by decide +kernel⟩
theorem tvX7_calmDown_i : Cond.instanceMethod yX7_calmDown ∈ lw_g := in_g 457 (by decide +kernel) (by decide +kernel)
theorem tvX7_calmDown_s : Cond.selects yX7_calmDown.cls yX7_calmDown yX7_calmDown ∈ lw_g := in_g 1 (by decide +kernel) (by decide +kernel)
theorem wyX7_measured : Wy yX7_measured cX7_measured 1 ((some FieldType.int)) 0 := ⟨in_g 394 (by decide +kernel) (by decide +kernel), in_g 27 (by decide +kernel) (by decide +kernel), by decide +kernel, by decide +kernel, by decide +kernel⟩
theorem tvX7_measured_i : Cond.instanceMethod yX7_measured ∈ lw_g := in_g 392 (by decide +kernel) (by decide +kernel)
theorem tvX7_measured_s : Cond.selects yX7_measured.cls yX7_measured yX7_measured ∈ lw_g := in_g 393 (by decide +kernel) (by decide +kernel)
theorem wyX7_blow : Wy yX7_blow cX7_blow 4 none 1 := ⟨in_g 442 (by decide +kernel) (by decide +kernel), in_g 27 (by decide +kernel) (by decide +kernel), by decide +kernel, by decide +kernel, by decide +kernel⟩
theorem tvX7_blow_i : Cond.instanceMethod yX7_blow ∈ lw_g := in_g 440 (by decide +kernel) (by decide +kernel)
theorem tvX7_blow_s : Cond.selects yX7_blow.cls yX7_blow yX7_blow ∈ lw_g := in_g 441 (by decide +kernel) (by decide +kernel)
theorem wyX5_makeTick : Wy yX5_makeTick cX5_makeTick 1 none 0 := ⟨in_g 419 (by decide +kernel) (by decide +kernel), in_g 21 (by decide +kernel) (by decide +kernel), by decide +kernel, by decide +kernel, by decide +kernel⟩
theorem tvX5_makeTick_i : Cond.instanceMethod yX5_makeTick ∈ lw_g := in_g 417 (by decide +kernel) (by decide +kernel)
theorem tvX5_makeTick_s : Cond.selects yX5_makeTick.cls yX5_makeTick yX5_makeTick ∈ lw_g := in_g 418 (by decide +kernel) (by decide +kernel)
theorem wyX8_setUp : Wy yX8_setUp cX8_setUp 3 ((some FieldType.int)) 1 := ⟨in_g 317 (by decide +kernel) (by decide +kernel), in_g 20 (by decide +kernel) (by decide +kernel), by decide +kernel, by decide +kernel, by decide +kernel⟩
theorem tvX8_setUp_i : Cond.instanceMethod yX8_setUp ∈ lw_g := in_g 315 (by decide +kernel) (by decide +kernel)
theorem tvX8_setUp_s : Cond.selects yX8_setUp.cls yX8_setUp yX8_setUp ∈ lw_g := in_g 316 (by decide +kernel) (by decide +kernel)
theorem wyX8_nozzle : Wy yX8_nozzle cX8_nozzle 4 ((some FieldType.int)) 3 := ⟨in_g 354 (by decide +kernel) (by decide +kernel), in_g 20 (by decide +kernel) (by decide +kernel), by decide +kernel, by decide +kernel, by decide +kernel⟩
theorem tvX8_nozzle_i : Cond.instanceMethod yX8_nozzle ∈ lw_g := in_g 352 (by decide +kernel) (by decide +kernel)
theorem tvX8_nozzle_s : Cond.selects yX8_nozzle.cls yX8_nozzle yX8_nozzle ∈ lw_g := in_g 353 (by decide +kernel) (by decide +kernel)
theorem wyX8_pump : Wy yX8_pump cX8_pump 4 ((some FieldType.int)) 3 := ⟨in_g 368 (by decide +kernel) (by decide +kernel), in_g 20 (by decide +kernel) (by decide +kernel), by decide +kernel, by decide +kernel, by decide +kernel⟩
theorem tvX8_pump_i : Cond.instanceMethod yX8_pump ∈ lw_g := in_g 366 (by decide +kernel) (by decide +kernel)
theorem tvX8_pump_s : Cond.selects yX8_pump.cls yX8_pump yX8_pump ∈ lw_g := in_g 367 (by decide +kernel) (by decide +kernel)
theorem wyX8_set : Wy yX8_set cX8_set 3 ((some FieldType.int)) 2 := ⟨in_g 372 (by decide +kernel) (by decide +kernel), in_g 20 (by decide +kernel) (by decide +kernel), by decide +kernel, by decide +kernel, by decide +kernel⟩
theorem tvX8_set_i : Cond.instanceMethod yX8_set ∈ lw_g := in_g 370 (by decide +kernel) (by decide +kernel)
theorem tvX8_set_s : Cond.selects yX8_set.cls yX8_set yX8_set ∈ lw_g := in_g 371 (by decide +kernel) (by decide +kernel)
theorem wyX8_wind : Wy yX8_wind cX8_wind 3 ((some FieldType.int)) 1 := ⟨in_g 554 (by decide +kernel) (by decide +kernel), in_g 20 (by decide +kernel) (by decide +kernel), by decide +kernel, by decide +kernel, by decide +kernel⟩
theorem tvX8_wind_i : Cond.instanceMethod yX8_wind ∈ lw_g := in_g 552 (by decide +kernel) (by decide +kernel)
theorem tvX8_wind_s : Cond.selects yX8_wind.cls yX8_wind yX8_wind ∈ lw_g := in_g 553 (by decide +kernel) (by decide +kernel)
theorem wyX8_cue : Wy yX8_cue cX8_cue 4 ((some FieldType.int)) 3 := ⟨in_g 525 (by decide +kernel) (by decide +kernel), in_g 20 (by decide +kernel) (by decide +kernel), by decide +kernel, by decide +kernel, by decide +kernel⟩
theorem tvX8_cue_i : Cond.instanceMethod yX8_cue ∈ lw_g := in_g 523 (by decide +kernel) (by decide +kernel)
theorem tvX8_cue_s : Cond.selects yX8_cue.cls yX8_cue yX8_cue ∈ lw_g := in_g 524 (by decide +kernel) (by decide +kernel)
theorem wyX8_remove : Wy yX8_remove cX8_remove 2 ((some FieldType.int)) 1 := ⟨in_g 692 (by decide +kernel) (by decide +kernel), in_g 20 (by decide +kernel) (by decide +kernel), by decide +kernel, by decide +kernel, by decide +kernel⟩
theorem tvX8_remove_i : Cond.instanceMethod yX8_remove ∈ lw_g := in_g 690 (by decide +kernel) (by decide +kernel)
theorem tvX8_remove_s : Cond.selects yX8_remove.cls yX8_remove yX8_remove ∈ lw_g := in_g 691 (by decide +kernel) (by decide +kernel)
theorem wyX8_move : Wy yX8_move cX8_move 3 ((some FieldType.int)) 2 := ⟨in_g 558 (by decide +kernel) (by decide +kernel), in_g 20 (by decide +kernel) (by decide +kernel), by decide +kernel, by decide +kernel, by decide +kernel⟩
theorem tvX8_move_i : Cond.instanceMethod yX8_move ∈ lw_g := in_g 556 (by decide +kernel) (by decide +kernel)
theorem tvX8_move_s : Cond.selects yX8_move.cls yX8_move yX8_move ∈ lw_g := in_g 557 (by decide +kernel) (by decide +kernel)
theorem wyX8_part : Wy yX8_part cX8_part 3 ((some FieldType.int)) 2 := ⟨in_g 540 (by decide +kernel) (by decide +kernel), in_g 20 (by decide +kernel) (by decide +kernel), by decide +kernel, by decide +kernel, by decide +kernel⟩
theorem tvX8_part_i : Cond.instanceMethod yX8_part ∈ lw_g := in_g 538 (by decide +kernel) (by decide +kernel)
theorem tvX8_part_s : Cond.selects yX8_part.cls yX8_part yX8_part ∈ lw_g := in_g 539 (by decide +kernel) (by decide +kernel)
theorem wyX8_command : Wy yX8_command cX8_command 3 ((some FieldType.int)) 2 := ⟨in_g 549 (by decide +kernel) (by decide +kernel), in_g 20 (by decide +kernel) (by decide +kernel), by decide +kernel, by decide +kernel, by decide +kernel⟩
theorem tvX8_command_i : Cond.instanceMethod yX8_command ∈ lw_g := in_g 547 (by decide +kernel) (by decide +kernel)
theorem tvX8_command_s : Cond.selects yX8_command.cls yX8_command yX8_command ∈ lw_g := in_g 548 (by decide +kernel) (by decide +kernel)
theorem wyX8_tick : Wy yX8_tick cX8_tick 3 ((some FieldType.int)) 1 := ⟨in_g 414 (by decide +kernel) (by decide +kernel), in_g 20 (by decide +kernel) (by decide +kernel), by decide +kernel, by decide +kernel, by decide +kernel⟩
theorem tvX8_tick_i : Cond.instanceMethod yX8_tick ∈ lw_g := in_g 412 (by decide +kernel) (by decide +kernel)
theorem tvX8_tick_s : Cond.selects yX8_tick.cls yX8_tick yX8_tick ∈ lw_g := in_g 413 (by decide +kernel) (by decide +kernel)
theorem wyX8_rewind : Wy yX8_rewind cX8_rewind 2 ((some FieldType.int)) 0 := ⟨in_g 682 (by decide +kernel) (by decide +kernel), in_g 20 (by decide +kernel) (by decide +kernel), by decide +kernel, by decide +kernel, by decide +kernel⟩
theorem tvX8_rewind_i : Cond.instanceMethod yX8_rewind ∈ lw_g := in_g 680 (by decide +kernel) (by decide +kernel)
theorem tvX8_rewind_s : Cond.selects yX8_rewind.cls yX8_rewind yX8_rewind ∈ lw_g := in_g 681 (by decide +kernel) (by decide +kernel)
theorem wyX8_spray : Wy yX8_spray cX8_spray 3 ((some FieldType.int)) 2 := ⟨in_g 406 (by decide +kernel) (by decide +kernel), in_g 20 (by decide +kernel) (by decide +kernel), by decide +kernel, by decide +kernel, by decide +kernel⟩
theorem tvX8_spray_i : Cond.instanceMethod yX8_spray ∈ lw_g := in_g 404 (by decide +kernel) (by decide +kernel)
theorem tvX8_spray_s : Cond.selects yX8_spray.cls yX8_spray yX8_spray ∈ lw_g := in_g 405 (by decide +kernel) (by decide +kernel)
theorem wyX8_pressure : Wy yX8_pressure cX8_pressure 3 ((some FieldType.int)) 2 := ⟨in_g 410 (by decide +kernel) (by decide +kernel), in_g 20 (by decide +kernel) (by decide +kernel), by decide +kernel, by decide +kernel, by decide +kernel⟩
theorem tvX8_pressure_i : Cond.instanceMethod yX8_pressure ∈ lw_g := in_g 408 (by decide +kernel) (by decide +kernel)
theorem tvX8_pressure_s : Cond.selects yX8_pressure.cls yX8_pressure yX8_pressure ∈ lw_g := in_g 409 (by decide +kernel) (by decide +kernel)
theorem wyX8_state : Wy yX8_state cX8_state 2 ((some FieldType.int)) 1 := ⟨in_g 390 (by decide +kernel) (by decide +kernel), in_g 20 (by decide +kernel) (by decide +kernel), by decide +kernel, by decide +kernel, by decide +kernel⟩
theorem tvX8_state_i : Cond.instanceMethod yX8_state ∈ lw_g := in_g 388 (by decide +kernel) (by decide +kernel)
theorem tvX8_state_s : Cond.selects yX8_state.cls yX8_state yX8_state ∈ lw_g := in_g 389 (by decide +kernel) (by decide +kernel)
theorem wyX8_firstShort : Wy yX8_firstShort cX8_firstShort 4 ((some FieldType.int)) 2 := ⟨in_g 624 (by decide +kernel) (by decide +kernel), in_g 20 (by decide +kernel) (by decide +kernel), by decide +kernel, by decide +kernel, by decide +kernel⟩
theorem tvX8_firstShort_i : Cond.instanceMethod yX8_firstShort ∈ lw_g := in_g 623 (by decide +kernel) (by decide +kernel)
theorem tvX8_firstShort_s : Cond.selects yX8_firstShort.cls yX8_firstShort yX8_firstShort ∈ lw_g := in_g 7 (by decide +kernel) (by decide +kernel)
theorem wyX8_greatestDemand : Wy yX8_greatestDemand cX8_greatestDemand 5 ((some FieldType.int)) 2 := ⟨in_g 616 (by decide +kernel) (by decide +kernel), in_g 20 (by decide +kernel) (by decide +kernel), by decide +kernel, by decide +kernel, by decide +kernel⟩
theorem tvX8_greatestDemand_i : Cond.instanceMethod yX8_greatestDemand ∈ lw_g := in_g 615 (by decide +kernel) (by decide +kernel)
theorem tvX8_greatestDemand_s : Cond.selects yX8_greatestDemand.cls yX8_greatestDemand yX8_greatestDemand ∈ lw_g := in_g 5 (by decide +kernel) (by decide +kernel)
theorem wyX8_greatestHeight : Wy yX8_greatestHeight cX8_greatestHeight 4 ((some FieldType.int)) 1 := ⟨in_g 633 (by decide +kernel) (by decide +kernel), in_g 20 (by decide +kernel) (by decide +kernel), by decide +kernel, by decide +kernel, by decide +kernel⟩
theorem tvX8_greatestHeight_i : Cond.instanceMethod yX8_greatestHeight ∈ lw_g := in_g 632 (by decide +kernel) (by decide +kernel)
theorem tvX8_greatestHeight_s : Cond.selects yX8_greatestHeight.cls yX8_greatestHeight yX8_greatestHeight ∈ lw_g := in_g 9 (by decide +kernel) (by decide +kernel)
theorem wyX8_shortTicks : Wy yX8_shortTicks cX8_shortTicks 5 ((some FieldType.int)) 2 := ⟨in_g 620 (by decide +kernel) (by decide +kernel), in_g 20 (by decide +kernel) (by decide +kernel), by decide +kernel, by decide +kernel, by decide +kernel⟩
theorem tvX8_shortTicks_i : Cond.instanceMethod yX8_shortTicks ∈ lw_g := in_g 619 (by decide +kernel) (by decide +kernel)
theorem tvX8_shortTicks_s : Cond.selects yX8_shortTicks.cls yX8_shortTicks yX8_shortTicks ∈ lw_g := in_g 6 (by decide +kernel) (by decide +kernel)
theorem wyX8_wetTicks : Wy yX8_wetTicks cX8_wetTicks 4 ((some FieldType.int)) 1 := ⟨in_g 629 (by decide +kernel) (by decide +kernel), in_g 20 (by decide +kernel) (by decide +kernel), by decide +kernel, by decide +kernel, by decide +kernel⟩
theorem tvX8_wetTicks_i : Cond.instanceMethod yX8_wetTicks ∈ lw_g := in_g 628 (by decide +kernel) (by decide +kernel)
theorem tvX8_wetTicks_s : Cond.selects yX8_wetTicks.cls yX8_wetTicks yX8_wetTicks ∈ lw_g := in_g 8 (by decide +kernel) (by decide +kernel)
theorem wyX8_ahead : Wy yX8_ahead cX8_ahead 4 ((some FieldType.int)) 3 := ⟨in_g 579 (by decide +kernel) (by decide +kernel), in_g 20 (by decide +kernel) (by decide +kernel), by decide +kernel, by decide +kernel, by decide +kernel⟩
theorem tvX8_ahead_i : Cond.instanceMethod yX8_ahead ∈ lw_g := in_g 577 (by decide +kernel) (by decide +kernel)
theorem tvX8_ahead_s : Cond.selects yX8_ahead.cls yX8_ahead yX8_ahead ∈ lw_g := in_g 578 (by decide +kernel) (by decide +kernel)
theorem wyX8_staysSupplied : Wy yX8_staysSupplied cX8_staysSupplied 3 ((some FieldType.boolean)) 1 := ⟨in_g 660 (by decide +kernel) (by decide +kernel), in_g 20 (by decide +kernel) (by decide +kernel), by decide +kernel, by decide +kernel, by decide +kernel⟩
theorem tvX8_staysSupplied_i : Cond.instanceMethod yX8_staysSupplied ∈ lw_g := in_g 659 (by decide +kernel) (by decide +kernel)
theorem tvX8_staysSupplied_s : Cond.selects yX8_staysSupplied.cls yX8_staysSupplied yX8_staysSupplied ∈ lw_g := in_g 11 (by decide +kernel) (by decide +kernel)
theorem wyX8_delay : Wy yX8_delay cX8_delay 6 ((some FieldType.int)) 3 := ⟨in_g 656 (by decide +kernel) (by decide +kernel), in_g 20 (by decide +kernel) (by decide +kernel), by decide +kernel, by decide +kernel, by decide +kernel⟩
theorem tvX8_delay_i : Cond.instanceMethod yX8_delay ∈ lw_g := in_g 654 (by decide +kernel) (by decide +kernel)
theorem tvX8_delay_s : Cond.selects yX8_delay.cls yX8_delay yX8_delay ∈ lw_g := in_g 655 (by decide +kernel) (by decide +kernel)
theorem wyX8_staysDry : Wy yX8_staysDry cX8_staysDry 4 ((some FieldType.boolean)) 1 := ⟨in_g 675 (by decide +kernel) (by decide +kernel), in_g 20 (by decide +kernel) (by decide +kernel), by decide +kernel, by decide +kernel, by decide +kernel⟩
theorem tvX8_staysDry_i : Cond.instanceMethod yX8_staysDry ∈ lw_g := in_g 674 (by decide +kernel) (by decide +kernel)
theorem tvX8_staysDry_s : Cond.selects yX8_staysDry.cls yX8_staysDry yX8_staysDry ∈ lw_g := in_g 12 (by decide +kernel) (by decide +kernel)
theorem wyX8_safeCut : Wy yX8_safeCut cX8_safeCut 3 ((some FieldType.int)) 1 := ⟨in_g 671 (by decide +kernel) (by decide +kernel), in_g 20 (by decide +kernel) (by decide +kernel), by decide +kernel, by decide +kernel, by decide +kernel⟩
theorem tvX8_safeCut_i : Cond.instanceMethod yX8_safeCut ∈ lw_g := in_g 669 (by decide +kernel) (by decide +kernel)
theorem tvX8_safeCut_s : Cond.selects yX8_safeCut.cls yX8_safeCut yX8_safeCut ∈ lw_g := in_g 670 (by decide +kernel) (by decide +kernel)
theorem wyX8_say : Wy yX8_say cX8_say 2 ((some FieldType.int)) 1 := ⟨in_g 703 (by decide +kernel) (by decide +kernel), in_g 20 (by decide +kernel) (by decide +kernel), by decide +kernel, by decide +kernel, by decide +kernel⟩
theorem tvX8_say_i : Cond.instanceMethod yX8_say ∈ lw_g := in_g 701 (by decide +kernel) (by decide +kernel)
theorem tvX8_say_s : Cond.selects yX8_say.cls yX8_say yX8_say ∈ lw_g := in_g 702 (by decide +kernel) (by decide +kernel)
theorem wyX8_read : Wy yX8_read cX8_read 4 ((some FieldType.int)) 1 := ⟨in_g 711 (by decide +kernel) (by decide +kernel), in_g 20 (by decide +kernel) (by decide +kernel), by decide +kernel, by decide +kernel, by decide +kernel⟩
theorem tvX8_read_i : Cond.instanceMethod yX8_read ∈ lw_g := in_g 709 (by decide +kernel) (by decide +kernel)
theorem tvX8_read_s : Cond.selects yX8_read.cls yX8_read yX8_read ∈ lw_g := in_g 710 (by decide +kernel) (by decide +kernel)
theorem wyX8_slotAt : Wy yX8_slotAt cX8_slotAt 2 ((some (FieldType.object "FountainShow$Slot"))) 1 := ⟨in_g 645 (by decide +kernel) (by decide +kernel), in_g 20 (by decide +kernel) (by decide +kernel), by decide +kernel, by decide +kernel, by decide +kernel⟩
theorem tvX8_slotAt_i : Cond.instanceMethod yX8_slotAt ∈ lw_g := in_g 644 (by decide +kernel) (by decide +kernel)
theorem tvX8_slotAt_s : Cond.selects yX8_slotAt.cls yX8_slotAt yX8_slotAt ∈ lw_g := in_g 10 (by decide +kernel) (by decide +kernel)
theorem wyX8_save : Wy yX8_save cX8_save 3 ((some FieldType.int)) 1 := ⟨in_g 641 (by decide +kernel) (by decide +kernel), in_g 20 (by decide +kernel) (by decide +kernel), by decide +kernel, by decide +kernel, by decide +kernel⟩
theorem tvX8_save_i : Cond.instanceMethod yX8_save ∈ lw_g := in_g 639 (by decide +kernel) (by decide +kernel)
theorem tvX8_save_s : Cond.selects yX8_save.cls yX8_save yX8_save ∈ lw_g := in_g 640 (by decide +kernel) (by decide +kernel)
theorem wyX8_restore : Wy yX8_restore cX8_restore 3 ((some FieldType.int)) 1 := ⟨in_g 649 (by decide +kernel) (by decide +kernel), in_g 20 (by decide +kernel) (by decide +kernel), by decide +kernel, by decide +kernel, by decide +kernel⟩
theorem tvX8_restore_i : Cond.instanceMethod yX8_restore ∈ lw_g := in_g 647 (by decide +kernel) (by decide +kernel)
theorem tvX8_restore_s : Cond.selects yX8_restore.cls yX8_restore yX8_restore ∈ lw_g := in_g 648 (by decide +kernel) (by decide +kernel)
theorem cls_lt {k c : Nat} (h : clsOf k = c) (hc : c < 999) : k < 121 := by
  rcases Nat.lt_or_ge k 121 with q | q
  · exact q
  · exfalso
    have e : clsOf k = 999 := by
      unfold clsOf
      rw [List.getD_eq_getElem?_getD, List.getElem?_eq_none (show clsL.length ≤ k from q)]
      rfl
    omega
theorem pt_0_0 {k : Nat} (h : clsOf k = 0) : clsOf (ptr k 0) = 100 := by
  have e : ∀ k, k < 121 → clsOf k = 0 → clsOf (ptr k 0) = 100 := by decide +kernel
  exact e k (cls_lt h (by decide)) h
theorem ok_0_0 {ks : List Nat} {k : Nat} (hcl : Cl ks) (h : Ok ks k 0) : Ok ks (ptr k 0) 100 := by
  refine ⟨?_, pt_0_0 h.2⟩
  rcases hcl k h.1 0 (by rw [h.2]; rfl) (by rw [h.2]; decide) with q | q
  · exact q
  · rw [pt_0_0 h.2] at q; exact absurd q (by decide)
theorem pt_0_1 {k : Nat} (h : clsOf k = 0) : clsOf (ptr k 1) = 100 := by
  have e : ∀ k, k < 121 → clsOf k = 0 → clsOf (ptr k 1) = 100 := by decide +kernel
  exact e k (cls_lt h (by decide)) h
theorem ok_0_1 {ks : List Nat} {k : Nat} (hcl : Cl ks) (h : Ok ks k 0) : Ok ks (ptr k 1) 100 := by
  refine ⟨?_, pt_0_1 h.2⟩
  rcases hcl k h.1 1 (by rw [h.2]; rfl) (by rw [h.2]; decide) with q | q
  · exact q
  · rw [pt_0_1 h.2] at q; exact absurd q (by decide)
theorem pt_0_2 {k : Nat} (h : clsOf k = 0) : clsOf (ptr k 2) = 100 := by
  have e : ∀ k, k < 121 → clsOf k = 0 → clsOf (ptr k 2) = 100 := by decide +kernel
  exact e k (cls_lt h (by decide)) h
theorem ok_0_2 {ks : List Nat} {k : Nat} (hcl : Cl ks) (h : Ok ks k 0) : Ok ks (ptr k 2) 100 := by
  refine ⟨?_, pt_0_2 h.2⟩
  rcases hcl k h.1 2 (by rw [h.2]; rfl) (by rw [h.2]; decide) with q | q
  · exact q
  · rw [pt_0_2 h.2] at q; exact absurd q (by decide)
theorem pt_1_0 {k : Nat} (h : clsOf k = 1) : clsOf (ptr k 0) = 4 := by
  have e : ∀ k, k < 121 → clsOf k = 1 → clsOf (ptr k 0) = 4 := by decide +kernel
  exact e k (cls_lt h (by decide)) h
theorem ok_1_0 {ks : List Nat} {k : Nat} (hcl : Cl ks) (h : Ok ks k 1) : Ok ks (ptr k 0) 4 := by
  refine ⟨?_, pt_1_0 h.2⟩
  rcases hcl k h.1 0 (by rw [h.2]; rfl) (by rw [h.2]; decide) with q | q
  · exact q
  · rw [pt_1_0 h.2] at q; exact absurd q (by decide)
theorem pt_1_1 {k : Nat} (h : clsOf k = 1) : clsOf (ptr k 1) = 100 := by
  have e : ∀ k, k < 121 → clsOf k = 1 → clsOf (ptr k 1) = 100 := by decide +kernel
  exact e k (cls_lt h (by decide)) h
theorem ok_1_1 {ks : List Nat} {k : Nat} (hcl : Cl ks) (h : Ok ks k 1) : Ok ks (ptr k 1) 100 := by
  refine ⟨?_, pt_1_1 h.2⟩
  rcases hcl k h.1 1 (by rw [h.2]; rfl) (by rw [h.2]; decide) with q | q
  · exact q
  · rw [pt_1_1 h.2] at q; exact absurd q (by decide)
theorem pt_1_2 {k : Nat} (h : clsOf k = 1) : clsOf (ptr k 2) = 100 := by
  have e : ∀ k, k < 121 → clsOf k = 1 → clsOf (ptr k 2) = 100 := by decide +kernel
  exact e k (cls_lt h (by decide)) h
theorem ok_1_2 {ks : List Nat} {k : Nat} (hcl : Cl ks) (h : Ok ks k 1) : Ok ks (ptr k 2) 100 := by
  refine ⟨?_, pt_1_2 h.2⟩
  rcases hcl k h.1 2 (by rw [h.2]; rfl) (by rw [h.2]; decide) with q | q
  · exact q
  · rw [pt_1_2 h.2] at q; exact absurd q (by decide)
theorem pt_1_3 {k : Nat} (h : clsOf k = 1) : clsOf (ptr k 3) = 100 := by
  have e : ∀ k, k < 121 → clsOf k = 1 → clsOf (ptr k 3) = 100 := by decide +kernel
  exact e k (cls_lt h (by decide)) h
theorem ok_1_3 {ks : List Nat} {k : Nat} (hcl : Cl ks) (h : Ok ks k 1) : Ok ks (ptr k 3) 100 := by
  refine ⟨?_, pt_1_3 h.2⟩
  rcases hcl k h.1 3 (by rw [h.2]; rfl) (by rw [h.2]; decide) with q | q
  · exact q
  · rw [pt_1_3 h.2] at q; exact absurd q (by decide)
theorem pt_1_4 {k : Nat} (h : clsOf k = 1) : clsOf (ptr k 4) = 100 := by
  have e : ∀ k, k < 121 → clsOf k = 1 → clsOf (ptr k 4) = 100 := by decide +kernel
  exact e k (cls_lt h (by decide)) h
theorem ok_1_4 {ks : List Nat} {k : Nat} (hcl : Cl ks) (h : Ok ks k 1) : Ok ks (ptr k 4) 100 := by
  refine ⟨?_, pt_1_4 h.2⟩
  rcases hcl k h.1 4 (by rw [h.2]; rfl) (by rw [h.2]; decide) with q | q
  · exact q
  · rw [pt_1_4 h.2] at q; exact absurd q (by decide)
theorem pt_1_5 {k : Nat} (h : clsOf k = 1) : clsOf (ptr k 5) = 100 := by
  have e : ∀ k, k < 121 → clsOf k = 1 → clsOf (ptr k 5) = 100 := by decide +kernel
  exact e k (cls_lt h (by decide)) h
theorem ok_1_5 {ks : List Nat} {k : Nat} (hcl : Cl ks) (h : Ok ks k 1) : Ok ks (ptr k 5) 100 := by
  refine ⟨?_, pt_1_5 h.2⟩
  rcases hcl k h.1 5 (by rw [h.2]; rfl) (by rw [h.2]; decide) with q | q
  · exact q
  · rw [pt_1_5 h.2] at q; exact absurd q (by decide)
theorem pt_1_6 {k : Nat} (h : clsOf k = 1) : clsOf (ptr k 6) = 100 := by
  have e : ∀ k, k < 121 → clsOf k = 1 → clsOf (ptr k 6) = 100 := by decide +kernel
  exact e k (cls_lt h (by decide)) h
theorem ok_1_6 {ks : List Nat} {k : Nat} (hcl : Cl ks) (h : Ok ks k 1) : Ok ks (ptr k 6) 100 := by
  refine ⟨?_, pt_1_6 h.2⟩
  rcases hcl k h.1 6 (by rw [h.2]; rfl) (by rw [h.2]; decide) with q | q
  · exact q
  · rw [pt_1_6 h.2] at q; exact absurd q (by decide)
theorem pt_1_7 {k : Nat} (h : clsOf k = 1) : clsOf (ptr k 7) = 100 := by
  have e : ∀ k, k < 121 → clsOf k = 1 → clsOf (ptr k 7) = 100 := by decide +kernel
  exact e k (cls_lt h (by decide)) h
theorem ok_1_7 {ks : List Nat} {k : Nat} (hcl : Cl ks) (h : Ok ks k 1) : Ok ks (ptr k 7) 100 := by
  refine ⟨?_, pt_1_7 h.2⟩
  rcases hcl k h.1 7 (by rw [h.2]; rfl) (by rw [h.2]; decide) with q | q
  · exact q
  · rw [pt_1_7 h.2] at q; exact absurd q (by decide)
theorem pt_2_0 {k : Nat} (h : clsOf k = 2) : clsOf (ptr k 0) = 0 := by
  have e : ∀ k, k < 121 → clsOf k = 2 → clsOf (ptr k 0) = 0 := by decide +kernel
  exact e k (cls_lt h (by decide)) h
theorem ok_2_0 {ks : List Nat} {k : Nat} (hcl : Cl ks) (h : Ok ks k 2) : Ok ks (ptr k 0) 0 := by
  refine ⟨?_, pt_2_0 h.2⟩
  rcases hcl k h.1 0 (by rw [h.2]; rfl) (by rw [h.2]; decide) with q | q
  · exact q
  · rw [pt_2_0 h.2] at q; exact absurd q (by decide)
theorem pt_2_1 {k : Nat} (h : clsOf k = 2) : clsOf (ptr k 1) = 102 := by
  have e : ∀ k, k < 121 → clsOf k = 2 → clsOf (ptr k 1) = 102 := by decide +kernel
  exact e k (cls_lt h (by decide)) h
theorem ok_2_1 {ks : List Nat} {k : Nat} (hcl : Cl ks) (h : Ok ks k 2) : Ok ks (ptr k 1) 102 := by
  refine ⟨?_, pt_2_1 h.2⟩
  rcases hcl k h.1 1 (by rw [h.2]; rfl) (by rw [h.2]; decide) with q | q
  · exact q
  · rw [pt_2_1 h.2] at q; exact absurd q (by decide)
theorem pt_3_0 {k : Nat} (h : clsOf k = 3) : clsOf (ptr k 0) = 4 := by
  have e : ∀ k, k < 121 → clsOf k = 3 → clsOf (ptr k 0) = 4 := by decide +kernel
  exact e k (cls_lt h (by decide)) h
theorem ok_3_0 {ks : List Nat} {k : Nat} (hcl : Cl ks) (h : Ok ks k 3) : Ok ks (ptr k 0) 4 := by
  refine ⟨?_, pt_3_0 h.2⟩
  rcases hcl k h.1 0 (by rw [h.2]; rfl) (by rw [h.2]; decide) with q | q
  · exact q
  · rw [pt_3_0 h.2] at q; exact absurd q (by decide)
theorem pt_3_1 {k : Nat} (h : clsOf k = 3) : clsOf (ptr k 1) = 100 := by
  have e : ∀ k, k < 121 → clsOf k = 3 → clsOf (ptr k 1) = 100 := by decide +kernel
  exact e k (cls_lt h (by decide)) h
theorem ok_3_1 {ks : List Nat} {k : Nat} (hcl : Cl ks) (h : Ok ks k 3) : Ok ks (ptr k 1) 100 := by
  refine ⟨?_, pt_3_1 h.2⟩
  rcases hcl k h.1 1 (by rw [h.2]; rfl) (by rw [h.2]; decide) with q | q
  · exact q
  · rw [pt_3_1 h.2] at q; exact absurd q (by decide)
theorem pt_3_2 {k : Nat} (h : clsOf k = 3) : clsOf (ptr k 2) = 100 := by
  have e : ∀ k, k < 121 → clsOf k = 3 → clsOf (ptr k 2) = 100 := by decide +kernel
  exact e k (cls_lt h (by decide)) h
theorem ok_3_2 {ks : List Nat} {k : Nat} (hcl : Cl ks) (h : Ok ks k 3) : Ok ks (ptr k 2) 100 := by
  refine ⟨?_, pt_3_2 h.2⟩
  rcases hcl k h.1 2 (by rw [h.2]; rfl) (by rw [h.2]; decide) with q | q
  · exact q
  · rw [pt_3_2 h.2] at q; exact absurd q (by decide)
theorem pt_3_3 {k : Nat} (h : clsOf k = 3) : clsOf (ptr k 3) = 100 := by
  have e : ∀ k, k < 121 → clsOf k = 3 → clsOf (ptr k 3) = 100 := by decide +kernel
  exact e k (cls_lt h (by decide)) h
theorem ok_3_3 {ks : List Nat} {k : Nat} (hcl : Cl ks) (h : Ok ks k 3) : Ok ks (ptr k 3) 100 := by
  refine ⟨?_, pt_3_3 h.2⟩
  rcases hcl k h.1 3 (by rw [h.2]; rfl) (by rw [h.2]; decide) with q | q
  · exact q
  · rw [pt_3_3 h.2] at q; exact absurd q (by decide)
theorem pt_4_0 {k : Nat} (h : clsOf k = 4) : clsOf (ptr k 0) = 103 := by
  have e : ∀ k, k < 121 → clsOf k = 4 → clsOf (ptr k 0) = 103 := by decide +kernel
  exact e k (cls_lt h (by decide)) h
theorem st_4_0 {ks : List Nat} {k : Nat} (h : Ok ks k 4) : clsOf (ptr k 0) = 103 := pt_4_0 h.2
theorem pt_4_1 {k : Nat} (h : clsOf k = 4) : clsOf (ptr k 1) = 103 := by
  have e : ∀ k, k < 121 → clsOf k = 4 → clsOf (ptr k 1) = 103 := by decide +kernel
  exact e k (cls_lt h (by decide)) h
theorem st_4_1 {ks : List Nat} {k : Nat} (h : Ok ks k 4) : clsOf (ptr k 1) = 103 := pt_4_1 h.2
theorem pt_4_2 {k : Nat} (h : clsOf k = 4) : clsOf (ptr k 2) = 103 := by
  have e : ∀ k, k < 121 → clsOf k = 4 → clsOf (ptr k 2) = 103 := by decide +kernel
  exact e k (cls_lt h (by decide)) h
theorem st_4_2 {ks : List Nat} {k : Nat} (h : Ok ks k 4) : clsOf (ptr k 2) = 103 := pt_4_2 h.2
theorem pt_4_4 {k : Nat} (h : clsOf k = 4) : clsOf (ptr k 4) = 100 := by
  have e : ∀ k, k < 121 → clsOf k = 4 → clsOf (ptr k 4) = 100 := by decide +kernel
  exact e k (cls_lt h (by decide)) h
theorem ok_4_4 {ks : List Nat} {k : Nat} (hcl : Cl ks) (h : Ok ks k 4) : Ok ks (ptr k 4) 100 := by
  refine ⟨?_, pt_4_4 h.2⟩
  rcases hcl k h.1 4 (by rw [h.2]; rfl) (by rw [h.2]; decide) with q | q
  · exact q
  · rw [pt_4_4 h.2] at q; exact absurd q (by decide)
theorem pt_5_0 {k : Nat} (h : clsOf k = 5) : clsOf (ptr k 0) = 4 := by
  have e : ∀ k, k < 121 → clsOf k = 5 → clsOf (ptr k 0) = 4 := by decide +kernel
  exact e k (cls_lt h (by decide)) h
theorem ok_5_0 {ks : List Nat} {k : Nat} (hcl : Cl ks) (h : Ok ks k 5) : Ok ks (ptr k 0) 4 := by
  refine ⟨?_, pt_5_0 h.2⟩
  rcases hcl k h.1 0 (by rw [h.2]; rfl) (by rw [h.2]; decide) with q | q
  · exact q
  · rw [pt_5_0 h.2] at q; exact absurd q (by decide)
theorem pt_5_1 {k : Nat} (h : clsOf k = 5) : clsOf (ptr k 1) = 1 := by
  have e : ∀ k, k < 121 → clsOf k = 5 → clsOf (ptr k 1) = 1 := by decide +kernel
  exact e k (cls_lt h (by decide)) h
theorem ok_5_1 {ks : List Nat} {k : Nat} (hcl : Cl ks) (h : Ok ks k 5) : Ok ks (ptr k 1) 1 := by
  refine ⟨?_, pt_5_1 h.2⟩
  rcases hcl k h.1 1 (by rw [h.2]; rfl) (by rw [h.2]; decide) with q | q
  · exact q
  · rw [pt_5_1 h.2] at q; exact absurd q (by decide)
theorem pt_5_2 {k : Nat} (h : clsOf k = 5) : clsOf (ptr k 2) = 3 := by
  have e : ∀ k, k < 121 → clsOf k = 5 → clsOf (ptr k 2) = 3 := by decide +kernel
  exact e k (cls_lt h (by decide)) h
theorem ok_5_2 {ks : List Nat} {k : Nat} (hcl : Cl ks) (h : Ok ks k 5) : Ok ks (ptr k 2) 3 := by
  refine ⟨?_, pt_5_2 h.2⟩
  rcases hcl k h.1 2 (by rw [h.2]; rfl) (by rw [h.2]; decide) with q | q
  · exact q
  · rw [pt_5_2 h.2] at q; exact absurd q (by decide)
theorem pt_5_3 {k : Nat} (h : clsOf k = 5) : clsOf (ptr k 3) = 7 := by
  have e : ∀ k, k < 121 → clsOf k = 5 → clsOf (ptr k 3) = 7 := by decide +kernel
  exact e k (cls_lt h (by decide)) h
theorem ok_5_3 {ks : List Nat} {k : Nat} (hcl : Cl ks) (h : Ok ks k 5) : Ok ks (ptr k 3) 7 := by
  refine ⟨?_, pt_5_3 h.2⟩
  rcases hcl k h.1 3 (by rw [h.2]; rfl) (by rw [h.2]; decide) with q | q
  · exact q
  · rw [pt_5_3 h.2] at q; exact absurd q (by decide)
theorem pt_5_4 {k : Nat} (h : clsOf k = 5) : clsOf (ptr k 4) = 0 := by
  have e : ∀ k, k < 121 → clsOf k = 5 → clsOf (ptr k 4) = 0 := by decide +kernel
  exact e k (cls_lt h (by decide)) h
theorem ok_5_4 {ks : List Nat} {k : Nat} (hcl : Cl ks) (h : Ok ks k 5) : Ok ks (ptr k 4) 0 := by
  refine ⟨?_, pt_5_4 h.2⟩
  rcases hcl k h.1 4 (by rw [h.2]; rfl) (by rw [h.2]; decide) with q | q
  · exact q
  · rw [pt_5_4 h.2] at q; exact absurd q (by decide)
theorem pt_6_0 {k : Nat} (h : clsOf k = 6) : clsOf (ptr k 0) = 5 := by
  have e : ∀ k, k < 121 → clsOf k = 6 → clsOf (ptr k 0) = 5 := by decide +kernel
  exact e k (cls_lt h (by decide)) h
theorem ok_6_0 {ks : List Nat} {k : Nat} (hcl : Cl ks) (h : Ok ks k 6) : Ok ks (ptr k 0) 5 := by
  refine ⟨?_, pt_6_0 h.2⟩
  rcases hcl k h.1 0 (by rw [h.2]; rfl) (by rw [h.2]; decide) with q | q
  · exact q
  · rw [pt_6_0 h.2] at q; exact absurd q (by decide)
theorem pt_8_0 {k : Nat} (h : clsOf k = 8) : clsOf (ptr k 0) = 5 := by
  have e : ∀ k, k < 121 → clsOf k = 8 → clsOf (ptr k 0) = 5 := by decide +kernel
  exact e k (cls_lt h (by decide)) h
theorem ok_8_0 {ks : List Nat} {k : Nat} (hcl : Cl ks) (h : Ok ks k 8) : Ok ks (ptr k 0) 5 := by
  refine ⟨?_, pt_8_0 h.2⟩
  rcases hcl k h.1 0 (by rw [h.2]; rfl) (by rw [h.2]; decide) with q | q
  · exact q
  · rw [pt_8_0 h.2] at q; exact absurd q (by decide)
theorem pt_8_1 {k : Nat} (h : clsOf k = 8) : clsOf (ptr k 1) = 5 := by
  have e : ∀ k, k < 121 → clsOf k = 8 → clsOf (ptr k 1) = 5 := by decide +kernel
  exact e k (cls_lt h (by decide)) h
theorem ok_8_1 {ks : List Nat} {k : Nat} (hcl : Cl ks) (h : Ok ks k 8) : Ok ks (ptr k 1) 5 := by
  refine ⟨?_, pt_8_1 h.2⟩
  rcases hcl k h.1 1 (by rw [h.2]; rfl) (by rw [h.2]; decide) with q | q
  · exact q
  · rw [pt_8_1 h.2] at q; exact absurd q (by decide)
theorem pt_8_2 {k : Nat} (h : clsOf k = 8) : clsOf (ptr k 2) = 6 := by
  have e : ∀ k, k < 121 → clsOf k = 8 → clsOf (ptr k 2) = 6 := by decide +kernel
  exact e k (cls_lt h (by decide)) h
theorem ok_8_2 {ks : List Nat} {k : Nat} (hcl : Cl ks) (h : Ok ks k 8) : Ok ks (ptr k 2) 6 := by
  refine ⟨?_, pt_8_2 h.2⟩
  rcases hcl k h.1 2 (by rw [h.2]; rfl) (by rw [h.2]; decide) with q | q
  · exact q
  · rw [pt_8_2 h.2] at q; exact absurd q (by decide)
theorem pt_8_3 {k : Nat} (h : clsOf k = 8) : clsOf (ptr k 3) = 6 := by
  have e : ∀ k, k < 121 → clsOf k = 8 → clsOf (ptr k 3) = 6 := by decide +kernel
  exact e k (cls_lt h (by decide)) h
theorem ok_8_3 {ks : List Nat} {k : Nat} (hcl : Cl ks) (h : Ok ks k 8) : Ok ks (ptr k 3) 6 := by
  refine ⟨?_, pt_8_3 h.2⟩
  rcases hcl k h.1 3 (by rw [h.2]; rfl) (by rw [h.2]; decide) with q | q
  · exact q
  · rw [pt_8_3 h.2] at q; exact absurd q (by decide)
theorem pt_8_4 {k : Nat} (h : clsOf k = 8) : clsOf (ptr k 4) = 2 := by
  have e : ∀ k, k < 121 → clsOf k = 8 → clsOf (ptr k 4) = 2 := by decide +kernel
  exact e k (cls_lt h (by decide)) h
theorem ok_8_4 {ks : List Nat} {k : Nat} (hcl : Cl ks) (h : Ok ks k 8) : Ok ks (ptr k 4) 2 := by
  refine ⟨?_, pt_8_4 h.2⟩
  rcases hcl k h.1 4 (by rw [h.2]; rfl) (by rw [h.2]; decide) with q | q
  · exact q
  · rw [pt_8_4 h.2] at q; exact absurd q (by decide)
theorem ok_slot {ks : List Nat} {k q : Nat} (hcl : Cl ks) (h : Ok ks k 8) (hq : decide (q = ptr k 2 ∨ q = ptr k 3) = true) : Ok ks q 6 := by
  rcases of_decide_eq_true hq with e | e <;> rw [e]
  · exact ok_8_2 hcl h
  · exact ok_8_3 hcl h
end
section
set_option maxHeartbeats 4000000 in
set_option maxRecDepth 100000 in
theorem m_X8_within {l : Launch} {x0 : Int32} {x1 : Int32} {x2 : Int32} {σ : Mem} {t0 : Int32} (hf : f_X8_within x0 x1 x2 = some t0) : Ct l yX8_within cX8_within 3 (some FieldType.boolean) 0 0 (fun _ => True) (fun _ => [.int x0, .int x1, .int x2]) σ (fun _ => some (.int t0)) σ := by
  refine Ct.of (plainFor_of_name (by decide)) (fun _ => Nat.le_of_ble_eq_true rfl) ?_
  intro X C _ _ hcl hR
  have C : Cx X RX8 cX8_within 3 (some FieldType.boolean) 0 0 := C
  have hp : t0 = t0 := rfl
  show J X 0 [(0, .int x0), (1, .int x1), (2, .int x2)] [] σ
  unfold f_X8_within at hf
  refine J.iload_n (pc := 0) C dX8_within_0 rfl 0 rfl ?_
  refine J.iload_n (pc := 1) C dX8_within_1 rfl 1 rfl ?_
  refine J.icmp_lt (pc := 2) C (tgt := 14) dX8_within_2 (by decide) hf (fun hf => ?_) (fun hf => ?_)
  · refine J.iconst (pc := 14) C (v := 0) dX8_within_14 (by decide) ?_
    exact J.zretP (pc := 15) C rfl hR ((Option.some.inj hf).trans hp) dX8_within_15
  · refine J.iload_n (pc := 5) C dX8_within_5 rfl 0 rfl ?_
    refine J.iload_n (pc := 6) C dX8_within_6 rfl 2 rfl ?_
    refine J.icmp_gt (pc := 7) C (tgt := 14) dX8_within_7 (by decide) hf (fun hf => ?_) (fun hf => ?_)
    · refine J.iconst (pc := 14) C (v := 0) dX8_within_14 (by decide) ?_
      exact J.zretP (pc := 15) C rfl hR ((Option.some.inj hf).trans hp) dX8_within_15
    · refine J.iconst (pc := 10) C (v := 1) dX8_within_10 (by decide) ?_
      refine J.goto (pc := 11) C (tgt := 15) dX8_within_11 (by decide) ?_
      exact J.zretP (pc := 15) C rfl hR ((Option.some.inj hf).trans hp) dX8_within_15
set_option maxHeartbeats 4000000 in
set_option maxRecDepth 100000 in
theorem m_X0_has {l : Launch} {σ : Mem} {k : Nat} {x1 : Int32} {t0 : Int32} (hf : f_X0_has σ k x1 = some t0) : Ct l yX0_has cX0_has 2 (some FieldType.boolean) 1 22 (fun ks => Ok ks k 0) (fun ad => [.ref (ad k), .int x1]) σ (fun _ => some (.int t0)) σ := by
  refine Ct.of (plainFor_of_name (by decide)) (fun _ => Nat.le_of_ble_eq_true rfl) ?_
  intro X C _ hk hcl hR
  have C : Cx X RX0 cX0_has 2 (some FieldType.boolean) 1 22 := C
  have hp : t0 = t0 := rfl
  show J X 0 [(0, .ref (Xad X k)), (1, .int x1)] [] σ
  unfold f_X0_has at hf
  refine J.iload_n (pc := 0) C dX0_has_0 rfl 1 rfl ?_
  refine J.iconst (pc := 1) C (v := 0) dX0_has_1 (by decide) ?_
  refine J.aload_n (pc := 2) C dX0_has_2 rfl 0 rfl ?_
  refine J.getI (pc := 3) C kcX0 hk 3 rfl tw_206 rfl dX0_has_3 ?_
  refine J.iconst (pc := 6) C (v := 1) dX0_has_6 (by decide) ?_
  refine J.isub (pc := 7) C dX0_has_7 ?_
  obtain ⟨r_2, h_1, hf⟩ := bnd_some hf
  refine J.callSN (pc := 8) C (m_X8_within h_1) trivial wyX8_within tsX8_within tn_545 [.int x1, .int 0, .int ((σ k 3) - 1)] [] rfl rfl (Nat.le_of_ble_eq_true rfl) (Nat.le_of_ble_eq_true rfl) (Nat.le_of_ble_eq_true rfl) (stk' := [.int r_2]) rfl dX0_has_8 rfl ?_
  obtain ⟨hbit, hf⟩ := chk_some hf
  exact J.zretP (pc := 11) C (bit_nar hbit) hR ((Option.some.inj hf).trans hp) dX0_has_11
set_option maxHeartbeats 4000000 in
set_option maxRecDepth 100000 in
theorem m_X8_copyRow {l : Launch} {σ : Mem} {x0 : Nat} {x1 : Nat} {t0 : Mem} (hf : f_X8_copyRow σ x0 x1 = some t0) : Ct l yX8_copyRow cX8_copyRow 2 none 1 18 (fun ks => Ok ks x0 100 ∧ Ok ks x1 100) (fun ad => [.ref (ad x0), .ref (ad x1)]) σ (fun _ => none) t0 := by
  refine Ct.of (plainFor_of_name (by decide)) (fun _ => Nat.le_of_ble_eq_true rfl) ?_
  intro X C _ hok hcl hR
  obtain ⟨hx0, hx1⟩ := hok
  have C : Cx X RX8 cX8_copyRow 2 none 1 18 := C
  have hp : t0 = t0 := rfl
  show J X 0 [(0, .ref (Xad X x0)), (1, .ref (Xad X x1))] [] σ
  unfold f_X8_copyRow at hf
  refine J.aload_n (pc := 0) C dX8_copyRow_0 rfl 0 rfl ?_
  refine J.iconst (pc := 1) C (v := 0) dX8_copyRow_1 (by decide) ?_
  refine J.aload_n (pc := 2) C dX8_copyRow_2 rfl 1 rfl ?_
  refine J.iconst (pc := 3) C (v := 0) dX8_copyRow_3 (by decide) ?_
  refine J.aload_n (pc := 4) C dX8_copyRow_4 rfl 0 rfl ?_
  refine J.arrlen (pc := 5) C hx0 dX8_copyRow_5 ?_
  refine J.aload_n (pc := 6) C dX8_copyRow_6 rfl 1 rfl ?_
  refine J.arrlen (pc := 7) C hx1 dX8_copyRow_7 ?_
  refine J.mminI (pc := 8) C tw_476 twm_min_s twm_i twm_min_c (Nat.le_of_ble_eq_true rfl) (Nat.le_of_ble_eq_true rfl) dX8_copyRow_8 ?_
  refine J.acopyM (pc := 11) C tw_591 twac_n twac_s twac_i (Nat.le_of_ble_eq_true rfl) (Nat.le_of_ble_eq_true rfl) hx0 hx1 hf dX8_copyRow_11 (fun σ_1 hf => ?_)
  exact J.vretM (pc := 14) C hR ((Option.some.inj hf).trans hp) dX8_copyRow_14
set_option maxHeartbeats 4000000 in
set_option maxRecDepth 100000 in
theorem m_X0_copy {l : Launch} {σ : Mem} {k : Nat} {x1 : Nat} {t0 : Mem} (hf : f_X0_copy σ k x1 = some t0) : Ct l yX0_copy cX0_copy 2 none 2 39 (fun ks => Ok ks k 0 ∧ Ok ks x1 0) (fun ad => [.ref (ad k), .ref (ad x1)]) σ (fun _ => none) t0 := by
  refine Ct.of (plainFor_of_name (by decide)) (fun _ => Nat.le_of_ble_eq_true rfl) ?_
  intro X C _ hok hcl hR
  obtain ⟨hk, hx1⟩ := hok
  have C : Cx X RX0 cX0_copy 2 none 2 39 := C
  have hp : t0 = t0 := rfl
  show J X 0 [(0, .ref (Xad X k)), (1, .ref (Xad X x1))] [] σ
  unfold f_X0_copy at hf
  refine J.aload_n (pc := 0) C dX0_copy_0 rfl 0 rfl ?_
  refine J.aload_n (pc := 1) C dX0_copy_1 rfl 1 rfl ?_
  refine J.getI (pc := 2) C kcX0 hx1 3 rfl tw_206 rfl dX0_copy_2 ?_
  refine J.putM (pc := 5) C kcX0 hk 3 rfl tw_206 rfl rfl rfl rfl hf dX0_copy_5 (fun σ_1 hf => ?_)
  refine J.aload_n (pc := 8) C dX0_copy_8 rfl 1 rfl ?_
  refine J.getR (pc := 9) C kcX0 hx1 0 rfl tw_200 rfl dX0_copy_9 ?_
  refine J.aload_n (pc := 12) C dX0_copy_12 rfl 0 rfl ?_
  refine J.getR (pc := 13) C kcX0 hk 0 rfl tw_200 rfl dX0_copy_13 ?_
  obtain ⟨σ_4, h_2, hf⟩ := bnd_some hf
  refine J.callSN (pc := 16) C (m_X8_copyRow h_2) ⟨(ok_0_0 hcl hx1), (ok_0_0 hcl hk)⟩ wyX8_copyRow tsX8_copyRow tn_612 [.ref (Xad X (ptr x1 0)), .ref (Xad X (ptr k 0))] [] rfl rfl (Nat.le_of_ble_eq_true rfl) (Nat.le_of_ble_eq_true rfl) (Nat.le_of_ble_eq_true rfl) (stk' := []) rfl dX0_copy_16 rfl ?_
  refine J.aload_n (pc := 19) C dX0_copy_19 rfl 1 rfl ?_
  refine J.getR (pc := 20) C kcX0 hx1 1 rfl tw_202 rfl dX0_copy_20 ?_
  refine J.aload_n (pc := 23) C dX0_copy_23 rfl 0 rfl ?_
  refine J.getR (pc := 24) C kcX0 hk 1 rfl tw_202 rfl dX0_copy_24 ?_
  obtain ⟨σ_7, h_5, hf⟩ := bnd_some hf
  refine J.callSN (pc := 27) C (m_X8_copyRow h_5) ⟨(ok_0_1 hcl hx1), (ok_0_1 hcl hk)⟩ wyX8_copyRow tsX8_copyRow tn_612 [.ref (Xad X (ptr x1 1)), .ref (Xad X (ptr k 1))] [] rfl rfl (Nat.le_of_ble_eq_true rfl) (Nat.le_of_ble_eq_true rfl) (Nat.le_of_ble_eq_true rfl) (stk' := []) rfl dX0_copy_27 rfl ?_
  refine J.aload_n (pc := 30) C dX0_copy_30 rfl 1 rfl ?_
  refine J.getR (pc := 31) C kcX0 hx1 2 rfl tw_204 rfl dX0_copy_31 ?_
  refine J.aload_n (pc := 34) C dX0_copy_34 rfl 0 rfl ?_
  refine J.getR (pc := 35) C kcX0 hk 2 rfl tw_204 rfl dX0_copy_35 ?_
  obtain ⟨σ_10, h_8, hf⟩ := bnd_some hf
  refine J.callSN (pc := 38) C (m_X8_copyRow h_8) ⟨(ok_0_2 hcl hx1), (ok_0_2 hcl hk)⟩ wyX8_copyRow tsX8_copyRow tn_612 [.ref (Xad X (ptr x1 2)), .ref (Xad X (ptr k 2))] [] rfl rfl (Nat.le_of_ble_eq_true rfl) (Nat.le_of_ble_eq_true rfl) (Nat.le_of_ble_eq_true rfl) (stk' := []) rfl dX0_copy_38 rfl ?_
  exact J.vretM (pc := 41) C hR ((Option.some.inj hf).trans hp) dX0_copy_41
set_option maxHeartbeats 4000000 in
set_option maxRecDepth 100000 in
theorem m_X0_next {l : Launch} {n : Nat} {σ : Mem} {k : Nat} {x1 : Int32} {t0 : Int32} (hf : f_X0_next n σ k x1 = some t0) : Ct l yX0_next cX0_next 3 (some FieldType.int) 0 0 (fun ks => Ok ks k 0) (fun ad => [.ref (ad k), .int x1]) σ (fun _ => some (.int t0)) σ := by
  refine Ct.of (plainFor_of_name (by decide)) (fun _ => Nat.le_of_ble_eq_true rfl) ?_
  intro X C _ hk hcl hR
  have C : Cx X RX0 cX0_next 3 (some FieldType.int) 0 0 := C
  have L2 : ∀ (x1 : Int32) (x2 : Int32) (t : Int32), f_X0_next_L2 n σ k x1 x2 = some t → t = t0 → J X 2 [(0, .ref (Xad X k)), (1, .int x1), (2, .int x2)] [] σ := by
    intro x1 x2 t hf hp
    unfold f_X0_next_L2 at hf
    refine J_iter (JJ := fun (s : Int32) => J X 2 [(0, .ref (Xad X k)), (1, .int x1), (2, .int s)] [] σ) (Ps := fun t => t = t0) ?_ n x2 t hf hp
    clear hf hp
    intro s t hf hp hq
    obtain ⟨x2, rfl⟩ : ∃ z, z = s := ⟨_, rfl⟩
    have hp := And.intro hp hq
    clear hq
    have hf : f_X0_next_B2 n σ k x1 x2 = some t := hf
    show J X 2 [(0, .ref (Xad X k)), (1, .int x1), (2, .int x2)] [] σ
    unfold f_X0_next_B2 at hf
    refine J.iload_n (pc := 2) C dX0_next_2 rfl 2 rfl ?_
    refine J.aload_n (pc := 3) C dX0_next_3 rfl 0 rfl ?_
    refine J.getI (pc := 4) C kcX0 hk 3 rfl tw_206 rfl dX0_next_4 ?_
    refine J.icmp_ge (pc := 7) C (tgt := 28) dX0_next_7 (by decide) hf (fun hf => ?_) (fun hf => ?_)
    · refine J.bipush (pc := 28) C (v := (-6)) dX0_next_28 (by decide) ?_
      exact J.iretP (pc := 30) C hR ((hp.1 _ (Option.some.inj hf).symm)) dX0_next_30
    · refine J.aload_n (pc := 10) C dX0_next_10 rfl 0 rfl ?_
      refine J.getR (pc := 11) C kcX0 hk 0 rfl tw_200 rfl dX0_next_11 ?_
      refine J.iload_n (pc := 14) C dX0_next_14 rfl 2 rfl ?_
      refine J.iald (pc := 15) C (ok_0_0 hcl hk) hf dX0_next_15 (fun hf => ?_)
      refine J.iload_n (pc := 16) C dX0_next_16 rfl 1 rfl ?_
      refine J.icmp_lt (pc := 17) C (tgt := 22) dX0_next_17 (by decide) hf (fun hf => ?_) (fun hf => ?_)
      · obtain ⟨x2_1, hx_x2_1, hf⟩ := nm_some hf
        refine J.iinc (pc := 22) C (v := x2_1) (loc' := [(2, .int x2_1), (0, .ref (Xad X k)), (1, .int x1)]) dX0_next_22 (k := 2) rfl (by rw [hx_x2_1]; rfl) (by decide) rfl ?_
        refine J.goto (pc := 25) C (tgt := 2) dX0_next_25 (by decide) ?_
        exact J.sub (loc' := [(0, .ref (Xad X k)), (1, .int x1), (2, .int x2_1)]) [1, 2, 0] rfl (hp.2 _ (Option.some.inj hf).symm)
      · refine J.iload_n (pc := 20) C dX0_next_20 rfl 2 rfl ?_
        exact J.iretP (pc := 21) C hR ((hp.1 _ (Option.some.inj hf).symm)) dX0_next_21
  have hp : t0 = t0 := rfl
  show J X 0 [(0, .ref (Xad X k)), (1, .int x1)] [] σ
  unfold f_X0_next at hf
  refine J.iconst (pc := 0) C (v := 0) dX0_next_0 (by decide) ?_
  refine J.istore_n (pc := 1) C (loc' := [(2, .int 0), (0, .ref (Xad X k)), (1, .int x1)]) dX0_next_1 rfl (by decide) rfl ?_
  exact J.sub (loc' := [(0, .ref (Xad X k)), (1, .int x1), (2, .int 0)]) [1, 2, 0] rfl (L2 x1 0 _ hf hp)
set_option maxHeartbeats 4000000 in
set_option maxRecDepth 100000 in
theorem m_X0_shift {l : Launch} {σ : Mem} {k : Nat} {x1 : Int32} {x2 : Int32} {x3 : Int32} {t0 : Mem} (hf : f_X0_shift σ k x1 x2 x3 = some t0) : Ct l yX0_shift cX0_shift 4 none 1 18 (fun ks => Ok ks k 0) (fun ad => [.ref (ad k), .int x1, .int x2, .int x3]) σ (fun _ => none) t0 := by
  refine Ct.of (plainFor_of_name (by decide)) (fun _ => Nat.le_of_ble_eq_true rfl) ?_
  intro X C _ hk hcl hR
  have C : Cx X RX0 cX0_shift 4 none 1 18 := C
  have hp : t0 = t0 := rfl
  show J X 0 [(0, .ref (Xad X k)), (1, .int x1), (2, .int x2), (3, .int x3)] [] σ
  unfold f_X0_shift at hf
  refine J.aload_n (pc := 0) C dX0_shift_0 rfl 0 rfl ?_
  refine J.getR (pc := 1) C kcX0 hk 0 rfl tw_200 rfl dX0_shift_1 ?_
  refine J.iload_n (pc := 4) C dX0_shift_4 rfl 1 rfl ?_
  refine J.aload_n (pc := 5) C dX0_shift_5 rfl 0 rfl ?_
  refine J.getR (pc := 6) C kcX0 hk 0 rfl tw_200 rfl dX0_shift_6 ?_
  refine J.iload_n (pc := 9) C dX0_shift_9 rfl 2 rfl ?_
  refine J.iload_n (pc := 10) C dX0_shift_10 rfl 3 rfl ?_
  refine J.acopyM (pc := 11) C tw_536 twac_n twac_s twac_i (Nat.le_of_ble_eq_true rfl) (Nat.le_of_ble_eq_true rfl) (ok_0_0 hcl hk) (ok_0_0 hcl hk) hf dX0_shift_11 (fun σ_1 hf => ?_)
  refine J.aload_n (pc := 14) C dX0_shift_14 rfl 0 rfl ?_
  refine J.getR (pc := 15) C kcX0 hk 1 rfl tw_202 rfl dX0_shift_15 ?_
  refine J.iload_n (pc := 18) C dX0_shift_18 rfl 1 rfl ?_
  refine J.aload_n (pc := 19) C dX0_shift_19 rfl 0 rfl ?_
  refine J.getR (pc := 20) C kcX0 hk 1 rfl tw_202 rfl dX0_shift_20 ?_
  refine J.iload_n (pc := 23) C dX0_shift_23 rfl 2 rfl ?_
  refine J.iload_n (pc := 24) C dX0_shift_24 rfl 3 rfl ?_
  refine J.acopyM (pc := 25) C tw_536 twac_n twac_s twac_i (Nat.le_of_ble_eq_true rfl) (Nat.le_of_ble_eq_true rfl) (ok_0_1 hcl hk) (ok_0_1 hcl hk) hf dX0_shift_25 (fun σ_2 hf => ?_)
  refine J.aload_n (pc := 28) C dX0_shift_28 rfl 0 rfl ?_
  refine J.getR (pc := 29) C kcX0 hk 2 rfl tw_204 rfl dX0_shift_29 ?_
  refine J.iload_n (pc := 32) C dX0_shift_32 rfl 1 rfl ?_
  refine J.aload_n (pc := 33) C dX0_shift_33 rfl 0 rfl ?_
  refine J.getR (pc := 34) C kcX0 hk 2 rfl tw_204 rfl dX0_shift_34 ?_
  refine J.iload_n (pc := 37) C dX0_shift_37 rfl 2 rfl ?_
  refine J.iload_n (pc := 38) C dX0_shift_38 rfl 3 rfl ?_
  refine J.acopyM (pc := 39) C tw_536 twac_n twac_s twac_i (Nat.le_of_ble_eq_true rfl) (Nat.le_of_ble_eq_true rfl) (ok_0_2 hcl hk) (ok_0_2 hcl hk) hf dX0_shift_39 (fun σ_3 hf => ?_)
  exact J.vretM (pc := 42) C hR ((Option.some.inj hf).trans hp) dX0_shift_42
set_option maxHeartbeats 4000000 in
set_option maxRecDepth 100000 in
theorem m_X0_insert {l : Launch} {n : Nat} {σ : Mem} {k : Nat} {x1 : Int32} {x2 : Int32} {x3 : Int32} {t0 : (Int32 × Mem)} (hf : f_X0_insert n σ k x1 x2 x3 = some t0) : Ct l yX0_insert cX0_insert 5 (some FieldType.int) 2 41 (fun ks => Ok ks k 0) (fun ad => [.ref (ad k), .int x1, .int x2, .int x3]) σ (fun _ => some (.int t0.1)) t0.2 := by
  refine Ct.of (plainFor_of_name (by decide)) (fun _ => Nat.le_of_ble_eq_true rfl) ?_
  intro X C _ hk hcl hR
  have C : Cx X RX0 cX0_insert 5 (some FieldType.int) 2 41 := C
  have L34 : ∀ (σ : Mem) (x1 : Int32) (x2 : Int32) (x3 : Int32) (x4 : Int32) (t : (Int32 × Mem)), f_X0_insert_L34 n σ k x1 x2 x3 x4 = some t → t = t0 → J X 34 [(0, .ref (Xad X k)), (1, .int x1), (2, .int x2), (3, .int x3), (4, .int x4)] [] σ := by
    intro σ x1 x2 x3 x4 t hf hp
    unfold f_X0_insert_L34 at hf
    refine J.aload_n (pc := 34) C dX0_insert_34 rfl 0 rfl ?_
    refine J.iload (pc := 35) C dX0_insert_35 4 rfl ?_
    refine J.iload (pc := 37) C dX0_insert_37 4 rfl ?_
    refine J.iconst (pc := 39) C (v := 1) dX0_insert_39 (by decide) ?_
    refine J.iadd (pc := 40) C dX0_insert_40 ?_
    refine J.aload_n (pc := 41) C dX0_insert_41 rfl 0 rfl ?_
    refine J.getI (pc := 42) C kcX0 hk 3 rfl tw_206 rfl dX0_insert_42 ?_
    refine J.iload (pc := 45) C dX0_insert_45 4 rfl ?_
    refine J.isub (pc := 47) C dX0_insert_47 ?_
    obtain ⟨σ_5, h_3, hf⟩ := bnd_some hf
    refine J.callV (pc := 48) C (m_X0_shift h_3) hk wyX0_shift tvX0_shift_i tvX0_shift_s tw_532 kcX0 rfl hk [.int x4, .int (x4 + 1), .int ((σ k 3) - x4)] [] rfl rfl (Nat.le_of_ble_eq_true rfl) (Nat.le_of_ble_eq_true rfl) (Nat.le_of_ble_eq_true rfl) (stk' := []) rfl dX0_insert_48 rfl ?_
    refine J.aload_n (pc := 51) C dX0_insert_51 rfl 0 rfl ?_
    refine J.getR (pc := 52) C kcX0 hk 0 rfl tw_200 rfl dX0_insert_52 ?_
    refine J.iload (pc := 55) C dX0_insert_55 4 rfl ?_
    refine J.iload_n (pc := 57) C dX0_insert_57 rfl 1 rfl ?_
    refine J.iastM (pc := 58) C (ok_0_0 hcl hk) hf dX0_insert_58 (fun σ_6 hf => ?_)
    refine J.aload_n (pc := 59) C dX0_insert_59 rfl 0 rfl ?_
    refine J.getR (pc := 60) C kcX0 hk 1 rfl tw_202 rfl dX0_insert_60 ?_
    refine J.iload (pc := 63) C dX0_insert_63 4 rfl ?_
    refine J.iload_n (pc := 65) C dX0_insert_65 rfl 2 rfl ?_
    refine J.iastM (pc := 66) C (ok_0_1 hcl hk) hf dX0_insert_66 (fun σ_7 hf => ?_)
    refine J.aload_n (pc := 67) C dX0_insert_67 rfl 0 rfl ?_
    refine J.getR (pc := 68) C kcX0 hk 2 rfl tw_204 rfl dX0_insert_68 ?_
    refine J.iload (pc := 71) C dX0_insert_71 4 rfl ?_
    refine J.iload_n (pc := 73) C dX0_insert_73 rfl 3 rfl ?_
    refine J.iastM (pc := 74) C (ok_0_2 hcl hk) hf dX0_insert_74 (fun σ_8 hf => ?_)
    refine J.aload_n (pc := 75) C dX0_insert_75 rfl 0 rfl ?_
    refine J.dup (pc := 76) C dX0_insert_76 rfl ?_
    refine J.getI (pc := 77) C kcX0 hk 3 rfl tw_206 rfl dX0_insert_77 ?_
    refine J.iconst (pc := 80) C (v := 1) dX0_insert_80 (by decide) ?_
    refine J.iadd (pc := 81) C dX0_insert_81 ?_
    refine J.putM (pc := 82) C kcX0 hk 3 rfl tw_206 rfl rfl rfl rfl hf dX0_insert_82 (fun σ_9 hf => ?_)
    refine J.iload (pc := 85) C dX0_insert_85 4 rfl ?_
    exact J.iretM (pc := 87) C hR ((Option.some.inj hf).trans hp) dX0_insert_87
  have hp : t0 = t0 := rfl
  show J X 0 [(0, .ref (Xad X k)), (1, .int x1), (2, .int x2), (3, .int x3)] [] σ
  unfold f_X0_insert at hf
  refine J.aload_n (pc := 0) C dX0_insert_0 rfl 0 rfl ?_
  refine J.getI (pc := 1) C kcX0 hk 3 rfl tw_206 rfl dX0_insert_1 ?_
  refine J.bipush (pc := 4) C (v := 60) dX0_insert_4 (by decide) ?_
  refine J.icmp_lt (pc := 6) C (tgt := 12) dX0_insert_6 (by decide) hf (fun hf => ?_) (fun hf => ?_)
  · refine J.aload_n (pc := 12) C dX0_insert_12 rfl 0 rfl ?_
    refine J.iload_n (pc := 13) C dX0_insert_13 rfl 1 rfl ?_
    refine J.iconst (pc := 14) C (v := 1) dX0_insert_14 (by decide) ?_
    refine J.iadd (pc := 15) C dX0_insert_15 ?_
    obtain ⟨r_2, h_1, hf⟩ := bnd_some hf
    refine J.callV (pc := 16) C (m_X0_next h_1) hk wyX0_next tvX0_next_i tvX0_next_s tw_531 kcX0 rfl hk [.int (x1 + 1)] [] rfl rfl (Nat.le_of_ble_eq_true rfl) (Nat.le_of_ble_eq_true rfl) (Nat.le_of_ble_eq_true rfl) (stk' := [.int r_2]) rfl dX0_insert_16 rfl ?_
    refine J.istore (pc := 19) C (loc' := [(4, .int r_2), (0, .ref (Xad X k)), (1, .int x1), (2, .int x2), (3, .int x3)]) dX0_insert_19 (by decide) rfl ?_
    refine J.iload (pc := 21) C dX0_insert_21 0 rfl ?_
    refine J.bipush (pc := 23) C (v := (-6)) dX0_insert_23 (by decide) ?_
    refine J.icmp_ne (pc := 25) C (tgt := 34) dX0_insert_25 (by decide) hf (fun hf => ?_) (fun hf => ?_)
    · exact J.sub (loc' := [(0, .ref (Xad X k)), (1, .int x1), (2, .int x2), (3, .int x3), (4, .int r_2)]) [1, 2, 3, 4, 0] rfl (L34 σ x1 x2 x3 r_2 _ hf hp)
    · refine J.aload_n (pc := 28) C dX0_insert_28 rfl 1 rfl ?_
      refine J.getI (pc := 29) C kcX0 hk 3 rfl tw_206 rfl dX0_insert_29 ?_
      refine J.nmI hf (fun x4_10 hf => ?_)
      refine J.istore (pc := 32) C (loc' := [(4, .int x4_10), (0, .ref (Xad X k)), (1, .int x1), (2, .int x2), (3, .int x3)]) dX0_insert_32 (by decide) rfl ?_
      exact J.sub (loc' := [(0, .ref (Xad X k)), (1, .int x1), (2, .int x2), (3, .int x3), (4, .int x4_10)]) [1, 2, 3, 4, 0] rfl (L34 σ x1 x2 x3 x4_10 _ hf hp)
  · refine J.bipush (pc := 9) C (v := (-4)) dX0_insert_9 (by decide) ?_
    exact J.iretM (pc := 11) C hR ((Option.some.inj hf).trans hp) dX0_insert_11
set_option maxHeartbeats 4000000 in
set_option maxRecDepth 100000 in
theorem m_X0_takeOut {l : Launch} {σ : Mem} {k : Nat} {x1 : Int32} {t0 : Mem} (hf : f_X0_takeOut σ k x1 = some t0) : Ct l yX0_takeOut cX0_takeOut 2 none 2 41 (fun ks => Ok ks k 0) (fun ad => [.ref (ad k), .int x1]) σ (fun _ => none) t0 := by
  refine Ct.of (plainFor_of_name (by decide)) (fun _ => Nat.le_of_ble_eq_true rfl) ?_
  intro X C _ hk hcl hR
  have C : Cx X RX0 cX0_takeOut 2 none 2 41 := C
  have hp : t0 = t0 := rfl
  show J X 0 [(0, .ref (Xad X k)), (1, .int x1)] [] σ
  unfold f_X0_takeOut at hf
  refine J.aload_n (pc := 0) C dX0_takeOut_0 rfl 0 rfl ?_
  refine J.iload_n (pc := 1) C dX0_takeOut_1 rfl 1 rfl ?_
  refine J.iconst (pc := 2) C (v := 1) dX0_takeOut_2 (by decide) ?_
  refine J.iadd (pc := 3) C dX0_takeOut_3 ?_
  refine J.iload_n (pc := 4) C dX0_takeOut_4 rfl 1 rfl ?_
  refine J.aload_n (pc := 5) C dX0_takeOut_5 rfl 0 rfl ?_
  refine J.getI (pc := 6) C kcX0 hk 3 rfl tw_206 rfl dX0_takeOut_6 ?_
  refine J.iload_n (pc := 9) C dX0_takeOut_9 rfl 1 rfl ?_
  refine J.isub (pc := 10) C dX0_takeOut_10 ?_
  refine J.iconst (pc := 11) C (v := 1) dX0_takeOut_11 (by decide) ?_
  refine J.isub (pc := 12) C dX0_takeOut_12 ?_
  obtain ⟨σ_3, h_1, hf⟩ := bnd_some hf
  refine J.callV (pc := 13) C (m_X0_shift h_1) hk wyX0_shift tvX0_shift_i tvX0_shift_s tw_532 kcX0 rfl hk [.int (x1 + 1), .int x1, .int (((σ k 3) - x1) - 1)] [] rfl rfl (Nat.le_of_ble_eq_true rfl) (Nat.le_of_ble_eq_true rfl) (Nat.le_of_ble_eq_true rfl) (stk' := []) rfl dX0_takeOut_13 rfl ?_
  refine J.aload_n (pc := 16) C dX0_takeOut_16 rfl 0 rfl ?_
  refine J.dup (pc := 17) C dX0_takeOut_17 rfl ?_
  refine J.getI (pc := 18) C kcX0 hk 3 rfl tw_206 rfl dX0_takeOut_18 ?_
  refine J.iconst (pc := 21) C (v := 1) dX0_takeOut_21 (by decide) ?_
  refine J.isub (pc := 22) C dX0_takeOut_22 ?_
  refine J.putM (pc := 23) C kcX0 hk 3 rfl tw_206 rfl rfl rfl rfl hf dX0_takeOut_23 (fun σ_4 hf => ?_)
  exact J.vretM (pc := 26) C hR ((Option.some.inj hf).trans hp) dX0_takeOut_26
set_option maxHeartbeats 4000000 in
set_option maxRecDepth 100000 in
theorem m_X0_postpone {l : Launch} {n : Nat} {σ : Mem} {k : Nat} {x1 : Int32} {x2 : Int32} {t0 : (Int32 × Mem)} (hf : f_X0_postpone n σ k x1 x2 = some t0) : Ct l yX0_postpone cX0_postpone 6 (some FieldType.int) 3 65 (fun ks => Ok ks k 0) (fun ad => [.ref (ad k), .int x1, .int x2]) σ (fun _ => some (.int t0.1)) t0.2 := by
  refine Ct.of (plainFor_of_name (by decide)) (fun _ => Nat.le_of_ble_eq_true rfl) ?_
  intro X C _ hk hcl hR
  have C : Cx X RX0 cX0_postpone 6 (some FieldType.int) 3 65 := C
  have hp : t0 = t0 := rfl
  show J X 0 [(0, .ref (Xad X k)), (1, .int x1), (2, .int x2)] [] σ
  unfold f_X0_postpone at hf
  refine J.aload_n (pc := 0) C dX0_postpone_0 rfl 0 rfl ?_
  refine J.getR (pc := 1) C kcX0 hk 0 rfl tw_200 rfl dX0_postpone_1 ?_
  refine J.iload_n (pc := 4) C dX0_postpone_4 rfl 1 rfl ?_
  refine J.iald (pc := 5) C (ok_0_0 hcl hk) hf dX0_postpone_5 (fun hf => ?_)
  refine J.iload_n (pc := 6) C dX0_postpone_6 rfl 2 rfl ?_
  refine J.iadd (pc := 7) C dX0_postpone_7 ?_
  refine J.nmI hf (fun x3_1 hf => ?_)
  refine J.istore_n (pc := 8) C (loc' := [(3, .int x3_1), (0, .ref (Xad X k)), (1, .int x1), (2, .int x2)]) dX0_postpone_8 rfl (by decide) rfl ?_
  refine J.aload_n (pc := 9) C dX0_postpone_9 rfl 1 rfl ?_
  refine J.getR (pc := 10) C kcX0 hk 1 rfl tw_202 rfl dX0_postpone_10 ?_
  refine J.iload_n (pc := 13) C dX0_postpone_13 rfl 2 rfl ?_
  refine J.iald (pc := 14) C (ok_0_1 hcl hk) hf dX0_postpone_14 (fun hf => ?_)
  refine J.nmI hf (fun x4_2 hf => ?_)
  refine J.istore (pc := 15) C (loc' := [(4, .int x4_2), (3, .int x3_1), (0, .ref (Xad X k)), (1, .int x1), (2, .int x2)]) dX0_postpone_15 (by decide) rfl ?_
  refine J.aload_n (pc := 17) C dX0_postpone_17 rfl 2 rfl ?_
  refine J.getR (pc := 18) C kcX0 hk 2 rfl tw_204 rfl dX0_postpone_18 ?_
  refine J.iload_n (pc := 21) C dX0_postpone_21 rfl 3 rfl ?_
  refine J.iald (pc := 22) C (ok_0_2 hcl hk) hf dX0_postpone_22 (fun hf => ?_)
  refine J.nmI hf (fun x5_3 hf => ?_)
  refine J.istore (pc := 23) C (loc' := [(5, .int x5_3), (4, .int x4_2), (3, .int x3_1), (0, .ref (Xad X k)), (1, .int x1), (2, .int x2)]) dX0_postpone_23 (by decide) rfl ?_
  refine J.aload_n (pc := 25) C dX0_postpone_25 rfl 3 rfl ?_
  refine J.iload_n (pc := 26) C dX0_postpone_26 rfl 4 rfl ?_
  obtain ⟨σ_6, h_4, hf⟩ := bnd_some hf
  refine J.callV (pc := 27) C (m_X0_takeOut h_4) hk wyX0_takeOut tvX0_takeOut_i tvX0_takeOut_s tw_564 kcX0 rfl hk [.int x1] [] rfl rfl (Nat.le_of_ble_eq_true rfl) (Nat.le_of_ble_eq_true rfl) (Nat.le_of_ble_eq_true rfl) (stk' := []) rfl dX0_postpone_27 rfl ?_
  refine J.aload_n (pc := 30) C dX0_postpone_30 rfl 3 rfl ?_
  refine J.iload_n (pc := 31) C dX0_postpone_31 rfl 2 rfl ?_
  refine J.iload (pc := 32) C dX0_postpone_32 1 rfl ?_
  refine J.iload (pc := 34) C dX0_postpone_34 0 rfl ?_
  obtain ⟨r_8, σ_9, h_7, hf⟩ := bnd2_some hf
  refine J.callV (pc := 36) C (m_X0_insert h_7) hk wyX0_insert tvX0_insert_i tvX0_insert_s tw_568 kcX0 rfl hk [.int x3_1, .int x4_2, .int x5_3] [] rfl rfl (Nat.le_of_ble_eq_true rfl) (Nat.le_of_ble_eq_true rfl) (Nat.le_of_ble_eq_true rfl) (stk' := [.int r_8]) rfl dX0_postpone_36 rfl ?_
  exact J.iretM (pc := 39) C hR ((Option.some.inj hf).trans hp) dX0_postpone_39
set_option maxHeartbeats 4000000 in
set_option maxRecDepth 100000 in
theorem m_X1_obey {l : Launch} {n : Nat} {σ : Mem} {k : Nat} {x1 : Int32} {x2 : Int32} {t0 : Mem} (hf : f_X1_obey n σ k x1 x2 = some t0) : Ct l yX1_obey cX1_obey 4 none 0 0 (fun ks => Ok ks k 1) (fun ad => [.ref (ad k), .int x1, .int x2]) σ (fun _ => none) t0 := by
  refine Ct.of (plainFor_of_name (by decide)) (fun _ => Nat.le_of_ble_eq_true rfl) ?_
  intro X C _ hk hcl hR
  have C : Cx X RX1 cX1_obey 4 none 0 0 := C
  have L2 : ∀ (σ : Mem) (x1 : Int32) (x2 : Int32) (x3 : Int32) (t : Mem), f_X1_obey_L2 n σ k x1 x2 x3 = some t → t = t0 → J X 2 [(0, .ref (Xad X k)), (1, .int x1), (2, .int x2), (3, .int x3)] [] σ := by
    intro σ x1 x2 x3 t hf hp
    unfold f_X1_obey_L2 at hf
    refine J_iter (JJ := fun (s : Mem × Int32) => J X 2 [(0, .ref (Xad X k)), (1, .int x1), (2, .int x2), (3, .int (s.2))] [] s.1) (Ps := fun t => t = t0) ?_ n (σ, x3) t hf hp
    clear hf hp
    intro s t hf hp hq
    obtain ⟨σ, x3⟩ := s
    have hp := And.intro hp hq
    clear hq
    have hf : f_X1_obey_B2 n σ k x1 x2 x3 = some t := hf
    show J X 2 [(0, .ref (Xad X k)), (1, .int x1), (2, .int x2), (3, .int x3)] [] σ
    unfold f_X1_obey_B2 at hf
    refine J.iload_n (pc := 2) C dX1_obey_2 rfl 3 rfl ?_
    refine J.aload_n (pc := 3) C dX1_obey_3 rfl 0 rfl ?_
    refine J.getI (pc := 4) C kcX1 hk 8 rfl tw_113 rfl dX1_obey_4 ?_
    refine J.icmp_ge (pc := 7) C (tgt := 32) dX1_obey_7 (by decide) hf (fun hf => ?_) (fun hf => ?_)
    · exact J.vretM (pc := 32) C hR ((hp.1 _ (Option.some.inj hf).symm)) dX1_obey_32
    · refine J.iload_n (pc := 10) C dX1_obey_10 rfl 1 rfl ?_
      refine J.iload_n (pc := 11) C dX1_obey_11 rfl 3 rfl ?_
      refine J.ishr (pc := 12) C dX1_obey_12 ?_
      refine J.iconst (pc := 13) C (v := 1) dX1_obey_13 (by decide) ?_
      refine J.iand (pc := 14) C dX1_obey_14 ?_
      refine J.iconst (pc := 15) C (v := 1) dX1_obey_15 (by decide) ?_
      refine J.icmp_ne (pc := 16) C (tgt := 26) dX1_obey_16 (by decide) hf (fun hf => ?_) (fun hf => ?_)
      · obtain ⟨x3_1, hx_x3_1, hf⟩ := nm_some hf
        refine J.iinc (pc := 26) C (v := x3_1) (loc' := [(3, .int x3_1), (0, .ref (Xad X k)), (1, .int x1), (2, .int x2)]) dX1_obey_26 (k := 3) rfl (by rw [hx_x3_1]; rfl) (by decide) rfl ?_
        refine J.goto (pc := 29) C (tgt := 2) dX1_obey_29 (by decide) ?_
        exact J.sub (loc' := [(0, .ref (Xad X k)), (1, .int x1), (2, .int x2), (3, .int x3_1)]) [1, 2, 3, 0] rfl (hp.2 _ (Option.some.inj hf).symm)
      · refine J.aload_n (pc := 19) C dX1_obey_19 rfl 0 rfl ?_
        refine J.getR (pc := 20) C kcX1 hk 1 rfl tw_100 rfl dX1_obey_20 ?_
        refine J.iload_n (pc := 23) C dX1_obey_23 rfl 3 rfl ?_
        refine J.iload_n (pc := 24) C dX1_obey_24 rfl 2 rfl ?_
        refine J.iastM (pc := 25) C (ok_1_1 hcl hk) hf dX1_obey_25 (fun σ_2 hf => ?_)
        obtain ⟨x3_3, hx_x3_3, hf⟩ := nm_some hf
        refine J.iinc (pc := 26) C (v := x3_3) (loc' := [(3, .int x3_3), (0, .ref (Xad X k)), (1, .int x1), (2, .int x2)]) dX1_obey_26 (k := 3) rfl (by rw [hx_x3_3]; rfl) (by decide) rfl ?_
        refine J.goto (pc := 29) C (tgt := 2) dX1_obey_29 (by decide) ?_
        exact J.sub (loc' := [(0, .ref (Xad X k)), (1, .int x1), (2, .int x2), (3, .int x3_3)]) [1, 2, 3, 0] rfl (hp.2 _ (Option.some.inj hf).symm)
  have hp : t0 = t0 := rfl
  show J X 0 [(0, .ref (Xad X k)), (1, .int x1), (2, .int x2)] [] σ
  unfold f_X1_obey at hf
  refine J.iconst (pc := 0) C (v := 0) dX1_obey_0 (by decide) ?_
  refine J.istore_n (pc := 1) C (loc' := [(3, .int 0), (0, .ref (Xad X k)), (1, .int x1), (2, .int x2)]) dX1_obey_1 rfl (by decide) rfl ?_
  exact J.sub (loc' := [(0, .ref (Xad X k)), (1, .int x1), (2, .int x2), (3, .int 0)]) [1, 2, 3, 0] rfl (L2 σ x1 x2 0 _ hf hp)
set_option maxHeartbeats 4000000 in
set_option maxRecDepth 100000 in
theorem m_X0_carryOut {l : Launch} {n : Nat} {σ : Mem} {k : Nat} {x2 : Nat} {x1 : Int32} {t0 : Mem} (hf : f_X0_carryOut n σ k x2 x1 = some t0) : Ct l yX0_carryOut cX0_carryOut 4 none 1 23 (fun ks => Ok ks k 0 ∧ Ok ks x2 1) (fun ad => [.ref (ad k), .int x1, .ref (ad x2)]) σ (fun _ => none) t0 := by
  refine Ct.of (plainFor_of_name (by decide)) (fun _ => Nat.le_of_ble_eq_true rfl) ?_
  intro X C _ hok hcl hR
  obtain ⟨hk, hx2⟩ := hok
  have C : Cx X RX0 cX0_carryOut 4 none 1 23 := C
  have L2 : ∀ (σ : Mem) (x1 : Int32) (x3 : Int32) (t : Mem), f_X0_carryOut_L2 n σ k x2 x1 x3 = some t → t = t0 → J X 2 [(0, .ref (Xad X k)), (1, .int x1), (2, .ref (Xad X x2)), (3, .int x3)] [] σ := by
    intro σ x1 x3 t hf hp
    unfold f_X0_carryOut_L2 at hf
    refine J_iter (JJ := fun (s : Mem × Int32) => J X 2 [(0, .ref (Xad X k)), (1, .int x1), (2, .ref (Xad X x2)), (3, .int (s.2))] [] s.1) (Ps := fun t => t = t0) ?_ n (σ, x3) t hf hp
    clear hf hp
    intro s t hf hp hq
    obtain ⟨σ, x3⟩ := s
    have hp := And.intro hp hq
    clear hq
    have hf : f_X0_carryOut_B2 n σ k x2 x1 x3 = some t := hf
    show J X 2 [(0, .ref (Xad X k)), (1, .int x1), (2, .ref (Xad X x2)), (3, .int x3)] [] σ
    unfold f_X0_carryOut_B2 at hf
    refine J.iload_n (pc := 2) C dX0_carryOut_2 rfl 3 rfl ?_
    refine J.aload_n (pc := 3) C dX0_carryOut_3 rfl 0 rfl ?_
    refine J.getI (pc := 4) C kcX0 hk 3 rfl tw_206 rfl dX0_carryOut_4 ?_
    refine J.icmp_ge (pc := 7) C (tgt := 52) dX0_carryOut_7 (by decide) hf (fun hf => ?_) (fun hf => ?_)
    · exact J.vretM (pc := 52) C hR ((hp.1 _ (Option.some.inj hf).symm)) dX0_carryOut_52
    · refine J.aload_n (pc := 10) C dX0_carryOut_10 rfl 0 rfl ?_
      refine J.getR (pc := 11) C kcX0 hk 0 rfl tw_200 rfl dX0_carryOut_11 ?_
      refine J.iload_n (pc := 14) C dX0_carryOut_14 rfl 3 rfl ?_
      refine J.iald (pc := 15) C (ok_0_0 hcl hk) hf dX0_carryOut_15 (fun hf => ?_)
      refine J.iload_n (pc := 16) C dX0_carryOut_16 rfl 1 rfl ?_
      refine J.icmp_gt (pc := 17) C (tgt := 52) dX0_carryOut_17 (by decide) hf (fun hf => ?_) (fun hf => ?_)
      · exact J.vretM (pc := 52) C hR ((hp.1 _ (Option.some.inj hf).symm)) dX0_carryOut_52
      · refine J.aload_n (pc := 20) C dX0_carryOut_20 rfl 0 rfl ?_
        refine J.getR (pc := 21) C kcX0 hk 0 rfl tw_200 rfl dX0_carryOut_21 ?_
        refine J.iload_n (pc := 24) C dX0_carryOut_24 rfl 3 rfl ?_
        refine J.iald (pc := 25) C (ok_0_0 hcl hk) hf dX0_carryOut_25 (fun hf => ?_)
        refine J.iload_n (pc := 26) C dX0_carryOut_26 rfl 1 rfl ?_
        refine J.icmp_ne (pc := 27) C (tgt := 46) dX0_carryOut_27 (by decide) hf (fun hf => ?_) (fun hf => ?_)
        · obtain ⟨x3_1, hx_x3_1, hf⟩ := nm_some hf
          refine J.iinc (pc := 46) C (v := x3_1) (loc' := [(3, .int x3_1), (0, .ref (Xad X k)), (1, .int x1), (2, .ref (Xad X x2))]) dX0_carryOut_46 (k := 3) rfl (by rw [hx_x3_1]; rfl) (by decide) rfl ?_
          refine J.goto (pc := 49) C (tgt := 2) dX0_carryOut_49 (by decide) ?_
          exact J.sub (loc' := [(0, .ref (Xad X k)), (1, .int x1), (2, .ref (Xad X x2)), (3, .int x3_1)]) [1, 2, 3, 0] rfl (hp.2 _ (Option.some.inj hf).symm)
        · refine J.aload_n (pc := 30) C dX0_carryOut_30 rfl 2 rfl ?_
          refine J.aload_n (pc := 31) C dX0_carryOut_31 rfl 0 rfl ?_
          refine J.getR (pc := 32) C kcX0 hk 1 rfl tw_202 rfl dX0_carryOut_32 ?_
          refine J.iload_n (pc := 35) C dX0_carryOut_35 rfl 3 rfl ?_
          refine J.iald (pc := 36) C (ok_0_1 hcl hk) hf dX0_carryOut_36 (fun hf => ?_)
          refine J.aload_n (pc := 37) C dX0_carryOut_37 rfl 0 rfl ?_
          refine J.getR (pc := 38) C kcX0 hk 2 rfl tw_204 rfl dX0_carryOut_38 ?_
          refine J.iload_n (pc := 41) C dX0_carryOut_41 rfl 3 rfl ?_
          refine J.iald (pc := 42) C (ok_0_2 hcl hk) hf dX0_carryOut_42 (fun hf => ?_)
          obtain ⟨σ_4, h_2, hf⟩ := bnd_some hf
          refine J.callV (pc := 43) C (m_X1_obey h_2) hx2 wyX1_obey tvX1_obey_i tvX1_obey_s tw_424 kcX1 rfl hx2 [.int (σ (ptr k 1) (ix x3)), .int (σ (ptr k 2) (ix x3))] [] rfl rfl (Nat.le_of_ble_eq_true rfl) (Nat.le_of_ble_eq_true rfl) (Nat.le_of_ble_eq_true rfl) (stk' := []) rfl dX0_carryOut_43 rfl ?_
          obtain ⟨x3_5, hx_x3_5, hf⟩ := nm_some hf
          refine J.iinc (pc := 46) C (v := x3_5) (loc' := [(3, .int x3_5), (0, .ref (Xad X k)), (1, .int x1), (2, .ref (Xad X x2))]) dX0_carryOut_46 (k := 3) rfl (by rw [hx_x3_5]; rfl) (by decide) rfl ?_
          refine J.goto (pc := 49) C (tgt := 2) dX0_carryOut_49 (by decide) ?_
          exact J.sub (loc' := [(0, .ref (Xad X k)), (1, .int x1), (2, .ref (Xad X x2)), (3, .int x3_5)]) [1, 2, 3, 0] rfl (hp.2 _ (Option.some.inj hf).symm)
  have hp : t0 = t0 := rfl
  show J X 0 [(0, .ref (Xad X k)), (1, .int x1), (2, .ref (Xad X x2))] [] σ
  unfold f_X0_carryOut at hf
  refine J.iconst (pc := 0) C (v := 0) dX0_carryOut_0 (by decide) ?_
  refine J.istore_n (pc := 1) C (loc' := [(3, .int 0), (0, .ref (Xad X k)), (1, .int x1), (2, .ref (Xad X x2))]) dX0_carryOut_1 rfl (by decide) rfl ?_
  exact J.sub (loc' := [(0, .ref (Xad X k)), (1, .int x1), (2, .ref (Xad X x2)), (3, .int 0)]) [1, 2, 3, 0] rfl (L2 σ x1 0 _ hf hp)
set_option maxHeartbeats 4000000 in
set_option maxRecDepth 100000 in
theorem m_X1_has {l : Launch} {σ : Mem} {k : Nat} {x1 : Int32} {t0 : Int32} (hf : f_X1_has σ k x1 = some t0) : Ct l yX1_has cX1_has 2 (some FieldType.boolean) 1 22 (fun ks => Ok ks k 1) (fun ad => [.ref (ad k), .int x1]) σ (fun _ => some (.int t0)) σ := by
  refine Ct.of (plainFor_of_name (by decide)) (fun _ => Nat.le_of_ble_eq_true rfl) ?_
  intro X C _ hk hcl hR
  have C : Cx X RX1 cX1_has 2 (some FieldType.boolean) 1 22 := C
  have hp : t0 = t0 := rfl
  show J X 0 [(0, .ref (Xad X k)), (1, .int x1)] [] σ
  unfold f_X1_has at hf
  refine J.iload_n (pc := 0) C dX1_has_0 rfl 1 rfl ?_
  refine J.iconst (pc := 1) C (v := 0) dX1_has_1 (by decide) ?_
  refine J.aload_n (pc := 2) C dX1_has_2 rfl 0 rfl ?_
  refine J.getI (pc := 3) C kcX1 hk 8 rfl tw_113 rfl dX1_has_3 ?_
  refine J.iconst (pc := 6) C (v := 1) dX1_has_6 (by decide) ?_
  refine J.isub (pc := 7) C dX1_has_7 ?_
  obtain ⟨r_2, h_1, hf⟩ := bnd_some hf
  refine J.callSN (pc := 8) C (m_X8_within h_1) trivial wyX8_within tsX8_within tn_359 [.int x1, .int 0, .int ((σ k 8) - 1)] [] rfl rfl (Nat.le_of_ble_eq_true rfl) (Nat.le_of_ble_eq_true rfl) (Nat.le_of_ble_eq_true rfl) (stk' := [.int r_2]) rfl dX1_has_8 rfl ?_
  obtain ⟨hbit, hf⟩ := chk_some hf
  exact J.zretP (pc := 11) C (bit_nar hbit) hR ((Option.some.inj hf).trans hp) dX1_has_11
set_option maxHeartbeats 4000000 in
set_option maxRecDepth 100000 in
theorem m_X4_reset {l : Launch} {n : Nat} {σ : Mem} {k : Nat} {t0 : Mem} (hf : f_X4_reset n σ k = some t0) : Ct l yX4_reset cX4_reset 2 none 1 18 (fun ks => Ok ks k 4) (fun ad => [.ref (ad k)]) σ (fun _ => none) t0 := by
  refine Ct.of (plainFor_of_name (by decide)) (fun _ => Nat.le_of_ble_eq_true rfl) ?_
  intro X C _ hk hcl hR
  have C : Cx X RX4 cX4_reset 2 none 1 18 := C
  have L2 : ∀ (σ : Mem) (x1 : Int32) (t : Mem), f_X4_reset_L2 n σ k x1 = some t → t = t0 → J X 2 [(0, .ref (Xad X k)), (1, .int x1)] [] σ := by
    intro σ x1 t hf hp
    unfold f_X4_reset_L2 at hf
    refine J_iter (JJ := fun (s : Mem × Int32) => J X 2 [(0, .ref (Xad X k)), (1, .int (s.2))] [] s.1) (Ps := fun t => t = t0) ?_ n (σ, x1) t hf hp
    clear hf hp
    intro s t hf hp hq
    obtain ⟨σ, x1⟩ := s
    have hp := And.intro hp hq
    clear hq
    have hf : f_X4_reset_B2 n σ k x1 = some t := hf
    show J X 2 [(0, .ref (Xad X k)), (1, .int x1)] [] σ
    unfold f_X4_reset_B2 at hf
    refine J.iload_n (pc := 2) C dX4_reset_2 rfl 1 rfl ?_
    refine J.aload_n (pc := 3) C dX4_reset_3 rfl 0 rfl ?_
    refine J.getI (pc := 4) C kcX4 hk 3 rfl tw_70 rfl dX4_reset_4 ?_
    refine J.icmp_ge (pc := 7) C (tgt := 40) dX4_reset_7 (by decide) hf (fun hf => ?_) (fun hf => ?_)
    · exact J.vretM (pc := 40) C hR ((hp.1 _ (Option.some.inj hf).symm)) dX4_reset_40
    · refine J.aload_n (pc := 10) C dX4_reset_10 rfl 0 rfl ?_
      refine J.getR (pc := 11) C kcX4 hk 2 rfl tw_69 rfl dX4_reset_11 ?_
      refine J.iconst (pc := 14) C (v := 0) dX4_reset_14 (by decide) ?_
      refine J.aload_n (pc := 15) C dX4_reset_15 rfl 0 rfl ?_
      refine J.getR (pc := 16) C kcX4 hk 4 rfl tw_71 rfl dX4_reset_16 ?_
      refine J.iload_n (pc := 19) C dX4_reset_19 rfl 1 rfl ?_
      refine J.aload_n (pc := 20) C dX4_reset_20 rfl 0 rfl ?_
      refine J.getR (pc := 21) C kcX4 hk 2 rfl tw_69 rfl dX4_reset_21 ?_
      refine J.srrlen (pc := 24) C (st_4_2 hk) dX4_reset_24 ?_
      refine J.imul (pc := 25) C dX4_reset_25 ?_
      refine J.aload_n (pc := 26) C dX4_reset_26 rfl 0 rfl ?_
      refine J.getR (pc := 27) C kcX4 hk 2 rfl tw_69 rfl dX4_reset_27 ?_
      refine J.srrlen (pc := 30) C (st_4_2 hk) dX4_reset_30 ?_
      refine J.scopyM (pc := 31) C tw_64 twac_n twac_s twac_i (Nat.le_of_ble_eq_true rfl) (Nat.le_of_ble_eq_true rfl) (st_4_2 hk) (ok_4_4 hcl hk) hf dX4_reset_31 (fun σ_1 hf => ?_)
      obtain ⟨x1_2, hx_x1_2, hf⟩ := nm_some hf
      refine J.iinc (pc := 34) C (v := x1_2) (loc' := [(1, .int x1_2), (0, .ref (Xad X k))]) dX4_reset_34 (k := 1) rfl (by rw [hx_x1_2]; rfl) (by decide) rfl ?_
      refine J.goto (pc := 37) C (tgt := 2) dX4_reset_37 (by decide) ?_
      exact J.sub (loc' := [(0, .ref (Xad X k)), (1, .int x1_2)]) [1, 0] rfl (hp.2 _ (Option.some.inj hf).symm)
  have hp : t0 = t0 := rfl
  show J X 0 [(0, .ref (Xad X k))] [] σ
  unfold f_X4_reset at hf
  refine J.iconst (pc := 0) C (v := 0) dX4_reset_0 (by decide) ?_
  refine J.istore_n (pc := 1) C (loc' := [(1, .int 0), (0, .ref (Xad X k))]) dX4_reset_1 rfl (by decide) rfl ?_
  exact J.sub (loc' := [(0, .ref (Xad X k)), (1, .int 0)]) [1, 0] rfl (L2 σ 0 _ hf hp)
set_option maxHeartbeats 4000000 in
set_option maxRecDepth 100000 in
theorem m_X1_begin {l : Launch} {n : Nat} {σ : Mem} {k : Nat} {x1 : Int32} {t0 : Mem} (hf : f_X1_begin n σ k x1 = some t0) : Ct l yX1_begin cX1_begin 2 none 2 39 (fun ks => Ok ks k 1) (fun ad => [.ref (ad k), .int x1]) σ (fun _ => none) t0 := by
  refine Ct.of (plainFor_of_name (by decide)) (fun _ => Nat.le_of_ble_eq_true rfl) ?_
  intro X C _ hk hcl hR
  have C : Cx X RX1 cX1_begin 2 none 2 39 := C
  have hp : t0 = t0 := rfl
  show J X 0 [(0, .ref (Xad X k)), (1, .int x1)] [] σ
  unfold f_X1_begin at hf
  refine J.aload_n (pc := 0) C dX1_begin_0 rfl 0 rfl ?_
  refine J.iload_n (pc := 1) C dX1_begin_1 rfl 1 rfl ?_
  refine J.putM (pc := 2) C kcX1 hk 8 rfl tw_113 rfl rfl rfl rfl hf dX1_begin_2 (fun σ_1 hf => ?_)
  refine J.aload_n (pc := 5) C dX1_begin_5 rfl 0 rfl ?_
  refine J.getR (pc := 6) C kcX1 hk 0 rfl tw_98 rfl dX1_begin_6 ?_
  obtain ⟨σ_4, h_2, hf⟩ := bnd_some hf
  refine J.callV (pc := 9) C (m_X4_reset h_2) (ok_1_0 hcl hk) wyX4_reset tvX4_reset_i tvX4_reset_s tw_330 kcX4 rfl (ok_1_0 hcl hk) [] [] rfl rfl (Nat.le_of_ble_eq_true rfl) (Nat.le_of_ble_eq_true rfl) (Nat.le_of_ble_eq_true rfl) (stk' := []) rfl dX1_begin_9 rfl ?_
  exact J.vretM (pc := 12) C hR ((Option.some.inj hf).trans hp) dX1_begin_12
set_option maxHeartbeats 4000000 in
set_option maxRecDepth 100000 in
theorem m_X8_clear {l : Launch} {n : Nat} {σ : Mem} {x0 : Nat} {t0 : Mem} (hf : f_X8_clear n σ x0 = some t0) : Ct l yX8_clear cX8_clear 2 none 0 0 (fun ks => Ok ks x0 100) (fun ad => [.ref (ad x0)]) σ (fun _ => none) t0 := by
  refine Ct.of (plainFor_of_name (by decide)) (fun _ => Nat.le_of_ble_eq_true rfl) ?_
  intro X C _ hx0 hcl hR
  have C : Cx X RX8 cX8_clear 2 none 0 0 := C
  have L2 : ∀ (σ : Mem) (x1 : Int32) (t : Mem), f_X8_clear_L2 n σ x0 x1 = some t → t = t0 → J X 2 [(0, .ref (Xad X x0)), (1, .int x1)] [] σ := by
    intro σ x1 t hf hp
    unfold f_X8_clear_L2 at hf
    refine J_iter (JJ := fun (s : Mem × Int32) => J X 2 [(0, .ref (Xad X x0)), (1, .int (s.2))] [] s.1) (Ps := fun t => t = t0) ?_ n (σ, x1) t hf hp
    clear hf hp
    intro s t hf hp hq
    obtain ⟨σ, x1⟩ := s
    have hp := And.intro hp hq
    clear hq
    have hf : f_X8_clear_B2 n σ x0 x1 = some t := hf
    show J X 2 [(0, .ref (Xad X x0)), (1, .int x1)] [] σ
    unfold f_X8_clear_B2 at hf
    refine J.iload_n (pc := 2) C dX8_clear_2 rfl 1 rfl ?_
    refine J.aload_n (pc := 3) C dX8_clear_3 rfl 0 rfl ?_
    refine J.arrlen (pc := 4) C hx0 dX8_clear_4 ?_
    refine J.icmp_ge (pc := 5) C (tgt := 18) dX8_clear_5 (by decide) hf (fun hf => ?_) (fun hf => ?_)
    · exact J.vretM (pc := 18) C hR ((hp.1 _ (Option.some.inj hf).symm)) dX8_clear_18
    · refine J.aload_n (pc := 8) C dX8_clear_8 rfl 0 rfl ?_
      refine J.iload_n (pc := 9) C dX8_clear_9 rfl 1 rfl ?_
      refine J.iconst (pc := 10) C (v := 0) dX8_clear_10 (by decide) ?_
      refine J.iastM (pc := 11) C hx0 hf dX8_clear_11 (fun σ_1 hf => ?_)
      obtain ⟨x1_2, hx_x1_2, hf⟩ := nm_some hf
      refine J.iinc (pc := 12) C (v := x1_2) (loc' := [(1, .int x1_2), (0, .ref (Xad X x0))]) dX8_clear_12 (k := 1) rfl (by rw [hx_x1_2]; rfl) (by decide) rfl ?_
      refine J.goto (pc := 15) C (tgt := 2) dX8_clear_15 (by decide) ?_
      exact J.sub (loc' := [(0, .ref (Xad X x0)), (1, .int x1_2)]) [1, 0] rfl (hp.2 _ (Option.some.inj hf).symm)
  have hp : t0 = t0 := rfl
  show J X 0 [(0, .ref (Xad X x0))] [] σ
  unfold f_X8_clear at hf
  refine J.iconst (pc := 0) C (v := 0) dX8_clear_0 (by decide) ?_
  refine J.istore_n (pc := 1) C (loc' := [(1, .int 0), (0, .ref (Xad X x0))]) dX8_clear_1 rfl (by decide) rfl ?_
  exact J.sub (loc' := [(0, .ref (Xad X x0)), (1, .int 0)]) [1, 0] rfl (L2 σ 0 _ hf hp)
set_option maxHeartbeats 4000000 in
set_option maxRecDepth 100000 in
theorem m_X1_goBack {l : Launch} {n : Nat} {σ : Mem} {k : Nat} {t0 : Mem} (hf : f_X1_goBack n σ k = some t0) : Ct l yX1_goBack cX1_goBack 1 none 1 21 (fun ks => Ok ks k 1) (fun ad => [.ref (ad k)]) σ (fun _ => none) t0 := by
  refine Ct.of (plainFor_of_name (by decide)) (fun _ => Nat.le_of_ble_eq_true rfl) ?_
  intro X C _ hk hcl hR
  have C : Cx X RX1 cX1_goBack 1 none 1 21 := C
  have hp : t0 = t0 := rfl
  show J X 0 [(0, .ref (Xad X k))] [] σ
  unfold f_X1_goBack at hf
  refine J.aload_n (pc := 0) C dX1_goBack_0 rfl 0 rfl ?_
  refine J.getR (pc := 1) C kcX1 hk 1 rfl tw_100 rfl dX1_goBack_1 ?_
  obtain ⟨σ_3, h_1, hf⟩ := bnd_some hf
  refine J.callSN (pc := 4) C (m_X8_clear h_1) (ok_1_1 hcl hk) wyX8_clear tsX8_clear tn_339 [.ref (Xad X (ptr k 1))] [] rfl rfl (Nat.le_of_ble_eq_true rfl) (Nat.le_of_ble_eq_true rfl) (Nat.le_of_ble_eq_true rfl) (stk' := []) rfl dX1_goBack_4 rfl ?_
  refine J.aload_n (pc := 7) C dX1_goBack_7 rfl 0 rfl ?_
  refine J.getR (pc := 8) C kcX1 hk 2 rfl tw_102 rfl dX1_goBack_8 ?_
  obtain ⟨σ_6, h_4, hf⟩ := bnd_some hf
  refine J.callSN (pc := 11) C (m_X8_clear h_4) (ok_1_2 hcl hk) wyX8_clear tsX8_clear tn_339 [.ref (Xad X (ptr k 2))] [] rfl rfl (Nat.le_of_ble_eq_true rfl) (Nat.le_of_ble_eq_true rfl) (Nat.le_of_ble_eq_true rfl) (stk' := []) rfl dX1_goBack_11 rfl ?_
  refine J.aload_n (pc := 14) C dX1_goBack_14 rfl 0 rfl ?_
  refine J.getR (pc := 15) C kcX1 hk 3 rfl tw_104 rfl dX1_goBack_15 ?_
  obtain ⟨σ_9, h_7, hf⟩ := bnd_some hf
  refine J.callSN (pc := 18) C (m_X8_clear h_7) (ok_1_3 hcl hk) wyX8_clear tsX8_clear tn_339 [.ref (Xad X (ptr k 3))] [] rfl rfl (Nat.le_of_ble_eq_true rfl) (Nat.le_of_ble_eq_true rfl) (Nat.le_of_ble_eq_true rfl) (stk' := []) rfl dX1_goBack_18 rfl ?_
  refine J.aload_n (pc := 21) C dX1_goBack_21 rfl 0 rfl ?_
  refine J.getR (pc := 22) C kcX1 hk 4 rfl tw_106 rfl dX1_goBack_22 ?_
  obtain ⟨σ_12, h_10, hf⟩ := bnd_some hf
  refine J.callSN (pc := 25) C (m_X8_clear h_10) (ok_1_4 hcl hk) wyX8_clear tsX8_clear tn_339 [.ref (Xad X (ptr k 4))] [] rfl rfl (Nat.le_of_ble_eq_true rfl) (Nat.le_of_ble_eq_true rfl) (Nat.le_of_ble_eq_true rfl) (stk' := []) rfl dX1_goBack_25 rfl ?_
  refine J.aload_n (pc := 28) C dX1_goBack_28 rfl 0 rfl ?_
  refine J.getR (pc := 29) C kcX1 hk 5 rfl tw_108 rfl dX1_goBack_29 ?_
  obtain ⟨σ_15, h_13, hf⟩ := bnd_some hf
  refine J.callSN (pc := 32) C (m_X8_clear h_13) (ok_1_5 hcl hk) wyX8_clear tsX8_clear tn_339 [.ref (Xad X (ptr k 5))] [] rfl rfl (Nat.le_of_ble_eq_true rfl) (Nat.le_of_ble_eq_true rfl) (Nat.le_of_ble_eq_true rfl) (stk' := []) rfl dX1_goBack_32 rfl ?_
  refine J.aload_n (pc := 35) C dX1_goBack_35 rfl 0 rfl ?_
  refine J.getR (pc := 36) C kcX1 hk 6 rfl tw_110 rfl dX1_goBack_36 ?_
  obtain ⟨σ_18, h_16, hf⟩ := bnd_some hf
  refine J.callSN (pc := 39) C (m_X8_clear h_16) (ok_1_6 hcl hk) wyX8_clear tsX8_clear tn_339 [.ref (Xad X (ptr k 6))] [] rfl rfl (Nat.le_of_ble_eq_true rfl) (Nat.le_of_ble_eq_true rfl) (Nat.le_of_ble_eq_true rfl) (stk' := []) rfl dX1_goBack_39 rfl ?_
  refine J.aload_n (pc := 42) C dX1_goBack_42 rfl 0 rfl ?_
  refine J.getR (pc := 43) C kcX1 hk 7 rfl tw_112 rfl dX1_goBack_43 ?_
  obtain ⟨σ_21, h_19, hf⟩ := bnd_some hf
  refine J.callSN (pc := 46) C (m_X8_clear h_19) (ok_1_7 hcl hk) wyX8_clear tsX8_clear tn_339 [.ref (Xad X (ptr k 7))] [] rfl rfl (Nat.le_of_ble_eq_true rfl) (Nat.le_of_ble_eq_true rfl) (Nat.le_of_ble_eq_true rfl) (stk' := []) rfl dX1_goBack_46 rfl ?_
  exact J.vretM (pc := 49) C hR ((Option.some.inj hf).trans hp) dX1_goBack_49
set_option maxHeartbeats 4000000 in
set_option maxRecDepth 100000 in
theorem m_X4_copy {l : Launch} {σ : Mem} {k : Nat} {x1 : Nat} {t0 : Mem} (hf : f_X4_copy σ k x1 = some t0) : Ct l yX4_copy cX4_copy 2 none 2 39 (fun ks => Ok ks k 4 ∧ Ok ks x1 4) (fun ad => [.ref (ad k), .ref (ad x1)]) σ (fun _ => none) t0 := by
  refine Ct.of (plainFor_of_name (by decide)) (fun _ => Nat.le_of_ble_eq_true rfl) ?_
  intro X C _ hok hcl hR
  obtain ⟨hk, hx1⟩ := hok
  have C : Cx X RX4 cX4_copy 2 none 2 39 := C
  have hp : t0 = t0 := rfl
  show J X 0 [(0, .ref (Xad X k)), (1, .ref (Xad X x1))] [] σ
  unfold f_X4_copy at hf
  refine J.aload_n (pc := 0) C dX4_copy_0 rfl 1 rfl ?_
  refine J.getR (pc := 1) C kcX4 hx1 4 rfl tw_71 rfl dX4_copy_1 ?_
  refine J.aload_n (pc := 4) C dX4_copy_4 rfl 0 rfl ?_
  refine J.getR (pc := 5) C kcX4 hk 4 rfl tw_71 rfl dX4_copy_5 ?_
  obtain ⟨σ_3, h_1, hf⟩ := bnd_some hf
  refine J.callSN (pc := 8) C (m_X8_copyRow h_1) ⟨(ok_4_4 hcl hx1), (ok_4_4 hcl hk)⟩ wyX8_copyRow tsX8_copyRow tn_588 [.ref (Xad X (ptr x1 4)), .ref (Xad X (ptr k 4))] [] rfl rfl (Nat.le_of_ble_eq_true rfl) (Nat.le_of_ble_eq_true rfl) (Nat.le_of_ble_eq_true rfl) (stk' := []) rfl dX4_copy_8 rfl ?_
  exact J.vretM (pc := 11) C hR ((Option.some.inj hf).trans hp) dX4_copy_11
set_option maxHeartbeats 4000000 in
set_option maxRecDepth 100000 in
theorem m_X1_copy {l : Launch} {σ : Mem} {k : Nat} {x1 : Nat} {t0 : Mem} (hf : f_X1_copy σ k x1 = some t0) : Ct l yX1_copy cX1_copy 2 none 3 60 (fun ks => Ok ks k 1 ∧ Ok ks x1 1) (fun ad => [.ref (ad k), .ref (ad x1)]) σ (fun _ => none) t0 := by
  refine Ct.of (plainFor_of_name (by decide)) (fun _ => Nat.le_of_ble_eq_true rfl) ?_
  intro X C _ hok hcl hR
  obtain ⟨hk, hx1⟩ := hok
  have C : Cx X RX1 cX1_copy 2 none 3 60 := C
  have hp : t0 = t0 := rfl
  show J X 0 [(0, .ref (Xad X k)), (1, .ref (Xad X x1))] [] σ
  unfold f_X1_copy at hf
  refine J.aload_n (pc := 0) C dX1_copy_0 rfl 0 rfl ?_
  refine J.aload_n (pc := 1) C dX1_copy_1 rfl 1 rfl ?_
  refine J.getI (pc := 2) C kcX1 hx1 8 rfl tw_113 rfl dX1_copy_2 ?_
  refine J.putM (pc := 5) C kcX1 hk 8 rfl tw_113 rfl rfl rfl rfl hf dX1_copy_5 (fun σ_1 hf => ?_)
  refine J.aload_n (pc := 8) C dX1_copy_8 rfl 0 rfl ?_
  refine J.getR (pc := 9) C kcX1 hk 0 rfl tw_98 rfl dX1_copy_9 ?_
  refine J.aload_n (pc := 12) C dX1_copy_12 rfl 1 rfl ?_
  refine J.getR (pc := 13) C kcX1 hx1 0 rfl tw_98 rfl dX1_copy_13 ?_
  obtain ⟨σ_4, h_2, hf⟩ := bnd_some hf
  refine J.callV (pc := 16) C (m_X4_copy h_2) ⟨(ok_1_0 hcl hk), (ok_1_0 hcl hx1)⟩ wyX4_copy tvX4_copy_i tvX4_copy_s tw_596 kcX4 rfl (ok_1_0 hcl hk) [.ref (Xad X (ptr x1 0))] [] rfl rfl (Nat.le_of_ble_eq_true rfl) (Nat.le_of_ble_eq_true rfl) (Nat.le_of_ble_eq_true rfl) (stk' := []) rfl dX1_copy_16 rfl ?_
  refine J.aload_n (pc := 19) C dX1_copy_19 rfl 1 rfl ?_
  refine J.getR (pc := 20) C kcX1 hx1 1 rfl tw_100 rfl dX1_copy_20 ?_
  refine J.aload_n (pc := 23) C dX1_copy_23 rfl 0 rfl ?_
  refine J.getR (pc := 24) C kcX1 hk 1 rfl tw_100 rfl dX1_copy_24 ?_
  obtain ⟨σ_7, h_5, hf⟩ := bnd_some hf
  refine J.callSN (pc := 27) C (m_X8_copyRow h_5) ⟨(ok_1_1 hcl hx1), (ok_1_1 hcl hk)⟩ wyX8_copyRow tsX8_copyRow tn_597 [.ref (Xad X (ptr x1 1)), .ref (Xad X (ptr k 1))] [] rfl rfl (Nat.le_of_ble_eq_true rfl) (Nat.le_of_ble_eq_true rfl) (Nat.le_of_ble_eq_true rfl) (stk' := []) rfl dX1_copy_27 rfl ?_
  refine J.aload_n (pc := 30) C dX1_copy_30 rfl 1 rfl ?_
  refine J.getR (pc := 31) C kcX1 hx1 2 rfl tw_102 rfl dX1_copy_31 ?_
  refine J.aload_n (pc := 34) C dX1_copy_34 rfl 0 rfl ?_
  refine J.getR (pc := 35) C kcX1 hk 2 rfl tw_102 rfl dX1_copy_35 ?_
  obtain ⟨σ_10, h_8, hf⟩ := bnd_some hf
  refine J.callSN (pc := 38) C (m_X8_copyRow h_8) ⟨(ok_1_2 hcl hx1), (ok_1_2 hcl hk)⟩ wyX8_copyRow tsX8_copyRow tn_597 [.ref (Xad X (ptr x1 2)), .ref (Xad X (ptr k 2))] [] rfl rfl (Nat.le_of_ble_eq_true rfl) (Nat.le_of_ble_eq_true rfl) (Nat.le_of_ble_eq_true rfl) (stk' := []) rfl dX1_copy_38 rfl ?_
  refine J.aload_n (pc := 41) C dX1_copy_41 rfl 1 rfl ?_
  refine J.getR (pc := 42) C kcX1 hx1 3 rfl tw_104 rfl dX1_copy_42 ?_
  refine J.aload_n (pc := 45) C dX1_copy_45 rfl 0 rfl ?_
  refine J.getR (pc := 46) C kcX1 hk 3 rfl tw_104 rfl dX1_copy_46 ?_
  obtain ⟨σ_13, h_11, hf⟩ := bnd_some hf
  refine J.callSN (pc := 49) C (m_X8_copyRow h_11) ⟨(ok_1_3 hcl hx1), (ok_1_3 hcl hk)⟩ wyX8_copyRow tsX8_copyRow tn_597 [.ref (Xad X (ptr x1 3)), .ref (Xad X (ptr k 3))] [] rfl rfl (Nat.le_of_ble_eq_true rfl) (Nat.le_of_ble_eq_true rfl) (Nat.le_of_ble_eq_true rfl) (stk' := []) rfl dX1_copy_49 rfl ?_
  refine J.aload_n (pc := 52) C dX1_copy_52 rfl 1 rfl ?_
  refine J.getR (pc := 53) C kcX1 hx1 4 rfl tw_106 rfl dX1_copy_53 ?_
  refine J.aload_n (pc := 56) C dX1_copy_56 rfl 0 rfl ?_
  refine J.getR (pc := 57) C kcX1 hk 4 rfl tw_106 rfl dX1_copy_57 ?_
  obtain ⟨σ_16, h_14, hf⟩ := bnd_some hf
  refine J.callSN (pc := 60) C (m_X8_copyRow h_14) ⟨(ok_1_4 hcl hx1), (ok_1_4 hcl hk)⟩ wyX8_copyRow tsX8_copyRow tn_597 [.ref (Xad X (ptr x1 4)), .ref (Xad X (ptr k 4))] [] rfl rfl (Nat.le_of_ble_eq_true rfl) (Nat.le_of_ble_eq_true rfl) (Nat.le_of_ble_eq_true rfl) (stk' := []) rfl dX1_copy_60 rfl ?_
  refine J.aload_n (pc := 63) C dX1_copy_63 rfl 1 rfl ?_
  refine J.getR (pc := 64) C kcX1 hx1 5 rfl tw_108 rfl dX1_copy_64 ?_
  refine J.aload_n (pc := 67) C dX1_copy_67 rfl 0 rfl ?_
  refine J.getR (pc := 68) C kcX1 hk 5 rfl tw_108 rfl dX1_copy_68 ?_
  obtain ⟨σ_19, h_17, hf⟩ := bnd_some hf
  refine J.callSN (pc := 71) C (m_X8_copyRow h_17) ⟨(ok_1_5 hcl hx1), (ok_1_5 hcl hk)⟩ wyX8_copyRow tsX8_copyRow tn_597 [.ref (Xad X (ptr x1 5)), .ref (Xad X (ptr k 5))] [] rfl rfl (Nat.le_of_ble_eq_true rfl) (Nat.le_of_ble_eq_true rfl) (Nat.le_of_ble_eq_true rfl) (stk' := []) rfl dX1_copy_71 rfl ?_
  refine J.aload_n (pc := 74) C dX1_copy_74 rfl 1 rfl ?_
  refine J.getR (pc := 75) C kcX1 hx1 6 rfl tw_110 rfl dX1_copy_75 ?_
  refine J.aload_n (pc := 78) C dX1_copy_78 rfl 0 rfl ?_
  refine J.getR (pc := 79) C kcX1 hk 6 rfl tw_110 rfl dX1_copy_79 ?_
  obtain ⟨σ_22, h_20, hf⟩ := bnd_some hf
  refine J.callSN (pc := 82) C (m_X8_copyRow h_20) ⟨(ok_1_6 hcl hx1), (ok_1_6 hcl hk)⟩ wyX8_copyRow tsX8_copyRow tn_597 [.ref (Xad X (ptr x1 6)), .ref (Xad X (ptr k 6))] [] rfl rfl (Nat.le_of_ble_eq_true rfl) (Nat.le_of_ble_eq_true rfl) (Nat.le_of_ble_eq_true rfl) (stk' := []) rfl dX1_copy_82 rfl ?_
  refine J.aload_n (pc := 85) C dX1_copy_85 rfl 1 rfl ?_
  refine J.getR (pc := 86) C kcX1 hx1 7 rfl tw_112 rfl dX1_copy_86 ?_
  refine J.aload_n (pc := 89) C dX1_copy_89 rfl 0 rfl ?_
  refine J.getR (pc := 90) C kcX1 hk 7 rfl tw_112 rfl dX1_copy_90 ?_
  obtain ⟨σ_25, h_23, hf⟩ := bnd_some hf
  refine J.callSN (pc := 93) C (m_X8_copyRow h_23) ⟨(ok_1_7 hcl hx1), (ok_1_7 hcl hk)⟩ wyX8_copyRow tsX8_copyRow tn_597 [.ref (Xad X (ptr x1 7)), .ref (Xad X (ptr k 7))] [] rfl rfl (Nat.le_of_ble_eq_true rfl) (Nat.le_of_ble_eq_true rfl) (Nat.le_of_ble_eq_true rfl) (stk' := []) rfl dX1_copy_93 rfl ?_
  exact J.vretM (pc := 96) C hR ((Option.some.inj hf).trans hp) dX1_copy_96
set_option maxHeartbeats 4000000 in
set_option maxRecDepth 100000 in
theorem m_J9_floorMod_7cf53 {l : Launch} {x0 : Int32} {x1 : Int32} {σ : Mem} {t0 : Int32} (hf : f_J9_floorMod_7cf53 x0 x1 = some t0) : Ct l yJ9_floorMod_7cf53 cJ9_floorMod_7cf53 3 (some FieldType.int) 0 0 (fun _ => True) (fun _ => [.int x0, .int x1]) σ (fun _ => some (.int t0)) σ := by
  refine Ct.of (by decide +kernel) (fun _ => Nat.le_of_ble_eq_true rfl) ?_
  intro X C _ _ hcl hR
  have C : Cx X RJ9 cJ9_floorMod_7cf53 3 (some FieldType.int) 0 0 := C
  have hp : t0 = t0 := rfl
  show J X 0 [(0, .int x0), (1, .int x1)] [] σ
  unfold f_J9_floorMod_7cf53 at hf
  refine J.iload_n (pc := 0) C dJ9_floorMod_7cf53_0 rfl 0 rfl ?_
  refine J.iload_n (pc := 1) C dJ9_floorMod_7cf53_1 rfl 1 rfl ?_
  obtain ⟨hne, hf⟩ := chk_some hf
  refine J.iremM (pc := 2) C dJ9_floorMod_7cf53_2 (of_decide_eq_true hne) ?_
  refine J.nmI hf (fun x2_1 hf => ?_)
  refine J.istore_n (pc := 3) C (loc' := [(2, .int x2_1), (0, .int x0), (1, .int x1)]) dJ9_floorMod_7cf53_3 rfl (by decide) rfl ?_
  refine J.iload_n (pc := 4) C dJ9_floorMod_7cf53_4 rfl 1 rfl ?_
  refine J.iload_n (pc := 5) C dJ9_floorMod_7cf53_5 rfl 2 rfl ?_
  refine J.ixor (pc := 6) C dJ9_floorMod_7cf53_6 ?_
  refine J.if_ge (pc := 7) C (tgt := 18) dJ9_floorMod_7cf53_7 (by decide) hf (fun hf => ?_) (fun hf => ?_)
  · refine J.iload_n (pc := 18) C dJ9_floorMod_7cf53_18 rfl 0 rfl ?_
    exact J.iretP (pc := 19) C hR ((Option.some.inj hf).trans hp) dJ9_floorMod_7cf53_19
  · refine J.iload_n (pc := 10) C dJ9_floorMod_7cf53_10 rfl 0 rfl ?_
    refine J.if_eq (pc := 11) C (tgt := 18) dJ9_floorMod_7cf53_11 (by decide) hf (fun hf => ?_) (fun hf => ?_)
    · refine J.iload_n (pc := 18) C dJ9_floorMod_7cf53_18 rfl 0 rfl ?_
      exact J.iretP (pc := 19) C hR ((Option.some.inj hf).trans hp) dJ9_floorMod_7cf53_19
    · refine J.iload_n (pc := 14) C dJ9_floorMod_7cf53_14 rfl 0 rfl ?_
      refine J.iload_n (pc := 15) C dJ9_floorMod_7cf53_15 rfl 2 rfl ?_
      refine J.iadd (pc := 16) C dJ9_floorMod_7cf53_16 ?_
      exact J.iretP (pc := 17) C hR ((Option.some.inj hf).trans hp) dJ9_floorMod_7cf53_17
set_option maxHeartbeats 4000000 in
set_option maxRecDepth 100000 in
theorem m_X1_rowOf {l : Launch} {x0 : Int32} {σ : Mem} {t0 : Int32} (hf : f_X1_rowOf x0 = some t0) : Ct l yX1_rowOf cX1_rowOf 1 (some FieldType.int) 1 22 (fun _ => True) (fun _ => [.int x0]) σ (fun _ => some (.int t0)) σ := by
  refine Ct.of (plainFor_of_name (by decide)) (fun _ => Nat.le_of_ble_eq_true rfl) ?_
  intro X C _ _ hcl hR
  have C : Cx X RX1 cX1_rowOf 1 (some FieldType.int) 1 22 := C
  have hp : t0 = t0 := rfl
  show J X 0 [(0, .int x0)] [] σ
  unfold f_X1_rowOf at hf
  refine J.iload_n (pc := 0) C dX1_rowOf_0 rfl 0 rfl ?_
  refine J.bipush (pc := 1) C (v := 51) dX1_rowOf_1 (by decide) ?_
  obtain ⟨r_2, h_1, hf⟩ := bnd_some hf
  refine J.callS (pc := 3) C (m_J9_floorMod_7cf53 h_1) trivial wyJ9_floorMod_7cf53 tsJ9_floorMod_7cf53 tw_435 [.int x0, .int 51] [] rfl rfl (Nat.le_of_ble_eq_true rfl) (Nat.le_of_ble_eq_true rfl) (Nat.le_of_ble_eq_true rfl) (stk' := [.int r_2]) rfl dX1_rowOf_3 rfl ?_
  refine J.bipush (pc := 6) C (v := 12) dX1_rowOf_6 (by decide) ?_
  refine J.imul (pc := 8) C dX1_rowOf_8 ?_
  exact J.iretP (pc := 9) C hR ((Option.some.inj hf).trans hp) dX1_rowOf_9
set_option maxHeartbeats 4000000 in
set_option maxRecDepth 100000 in
theorem m_X1_keepCommands {l : Launch} {σ : Mem} {k : Nat} {x1 : Int32} {t0 : Mem} (hf : f_X1_keepCommands σ k x1 = some t0) : Ct l yX1_keepCommands cX1_keepCommands 2 none 2 42 (fun ks => Ok ks k 1) (fun ad => [.ref (ad k), .int x1]) σ (fun _ => none) t0 := by
  refine Ct.of (plainFor_of_name (by decide)) (fun _ => Nat.le_of_ble_eq_true rfl) ?_
  intro X C _ hk hcl hR
  have C : Cx X RX1 cX1_keepCommands 2 none 2 42 := C
  have hp : t0 = t0 := rfl
  show J X 0 [(0, .ref (Xad X k)), (1, .int x1)] [] σ
  unfold f_X1_keepCommands at hf
  refine J.aload_n (pc := 0) C dX1_keepCommands_0 rfl 0 rfl ?_
  refine J.getR (pc := 1) C kcX1 hk 1 rfl tw_100 rfl dX1_keepCommands_1 ?_
  refine J.iconst (pc := 4) C (v := 0) dX1_keepCommands_4 (by decide) ?_
  refine J.aload_n (pc := 5) C dX1_keepCommands_5 rfl 0 rfl ?_
  refine J.getR (pc := 6) C kcX1 hk 7 rfl tw_112 rfl dX1_keepCommands_6 ?_
  refine J.iload_n (pc := 9) C dX1_keepCommands_9 rfl 1 rfl ?_
  obtain ⟨r_2, h_1, hf⟩ := bnd_some hf
  refine J.callS (pc := 10) C (m_X1_rowOf h_1) trivial wyX1_rowOf tsX1_rowOf tw_432 [.int x1] [.ref (Xad X (ptr k 7)), .int 0, .ref (Xad X (ptr k 1))] rfl rfl (Nat.le_of_ble_eq_true rfl) (Nat.le_of_ble_eq_true rfl) (Nat.le_of_ble_eq_true rfl) (stk' := [.int r_2, .ref (Xad X (ptr k 7)), .int 0, .ref (Xad X (ptr k 1))]) rfl dX1_keepCommands_10 rfl ?_
  refine J.bipush (pc := 13) C (v := 12) dX1_keepCommands_13 (by decide) ?_
  refine J.acopyM (pc := 15) C tw_438 twac_n twac_s twac_i (Nat.le_of_ble_eq_true rfl) (Nat.le_of_ble_eq_true rfl) (ok_1_1 hcl hk) (ok_1_7 hcl hk) hf dX1_keepCommands_15 (fun σ_3 hf => ?_)
  exact J.vretM (pc := 18) C hR ((Option.some.inj hf).trans hp) dX1_keepCommands_18
set_option maxHeartbeats 4000000 in
set_option maxRecDepth 100000 in
theorem m_X1_commandAt {l : Launch} {σ : Mem} {k : Nat} {x1 : Int32} {x2 : Int32} {t0 : Int32} (hf : f_X1_commandAt σ k x1 x2 = some t0) : Ct l yX1_commandAt cX1_commandAt 3 (some FieldType.int) 2 42 (fun ks => Ok ks k 1) (fun ad => [.ref (ad k), .int x1, .int x2]) σ (fun _ => some (.int t0)) σ := by
  refine Ct.of (plainFor_of_name (by decide)) (fun _ => Nat.le_of_ble_eq_true rfl) ?_
  intro X C _ hk hcl hR
  have C : Cx X RX1 cX1_commandAt 3 (some FieldType.int) 2 42 := C
  have hp : t0 = t0 := rfl
  show J X 0 [(0, .ref (Xad X k)), (1, .int x1), (2, .int x2)] [] σ
  unfold f_X1_commandAt at hf
  refine J.iload_n (pc := 0) C dX1_commandAt_0 rfl 1 rfl ?_
  refine J.if_ge (pc := 1) C (tgt := 8) dX1_commandAt_1 (by decide) hf (fun hf => ?_) (fun hf => ?_)
  · refine J.aload_n (pc := 8) C dX1_commandAt_8 rfl 0 rfl ?_
    refine J.getR (pc := 9) C kcX1 hk 7 rfl tw_112 rfl dX1_commandAt_9 ?_
    refine J.iload_n (pc := 12) C dX1_commandAt_12 rfl 1 rfl ?_
    obtain ⟨r_2, h_1, hf⟩ := bnd_some hf
    refine J.callS (pc := 13) C (m_X1_rowOf h_1) trivial wyX1_rowOf tsX1_rowOf tw_432 [.int x1] [.ref (Xad X (ptr k 7))] rfl rfl (Nat.le_of_ble_eq_true rfl) (Nat.le_of_ble_eq_true rfl) (Nat.le_of_ble_eq_true rfl) (stk' := [.int r_2, .ref (Xad X (ptr k 7))]) rfl dX1_commandAt_13 rfl ?_
    refine J.iload_n (pc := 16) C dX1_commandAt_16 rfl 2 rfl ?_
    refine J.iadd (pc := 17) C dX1_commandAt_17 ?_
    refine J.iald (pc := 18) C (ok_1_7 hcl hk) hf dX1_commandAt_18 (fun hf => ?_)
    exact J.iretP (pc := 19) C hR ((Option.some.inj hf).trans hp) dX1_commandAt_19
  · refine J.iconst (pc := 4) C (v := 0) dX1_commandAt_4 (by decide) ?_
    refine J.goto (pc := 5) C (tgt := 19) dX1_commandAt_5 (by decide) ?_
    exact J.iretP (pc := 19) C hR ((Option.some.inj hf).trans hp) dX1_commandAt_19
set_option maxHeartbeats 4000000 in
set_option maxRecDepth 100000 in
theorem m_X4_value {l : Launch} {σ : Mem} {k : Nat} {x1 : Int32} {x2 : Int32} {t0 : Int32} (hf : f_X4_value σ k x1 x2 = some t0) : Ct l yX4_value cX4_value 4 (some FieldType.int) 0 0 (fun ks => Ok ks k 4) (fun ad => [.ref (ad k), .int x1, .int x2]) σ (fun _ => some (.int t0)) σ := by
  refine Ct.of (plainFor_of_name (by decide)) (fun _ => Nat.le_of_ble_eq_true rfl) ?_
  intro X C _ hk hcl hR
  have C : Cx X RX4 cX4_value 4 (some FieldType.int) 0 0 := C
  have hp : t0 = t0 := rfl
  show J X 0 [(0, .ref (Xad X k)), (1, .int x1), (2, .int x2)] [] σ
  unfold f_X4_value at hf
  refine J.iload_n (pc := 0) C dX4_value_0 rfl 1 rfl ?_
  refine J.aload_n (pc := 1) C dX4_value_1 rfl 0 rfl ?_
  refine J.getR (pc := 2) C kcX4 hk 2 rfl tw_69 rfl dX4_value_2 ?_
  refine J.srrlen (pc := 5) C (st_4_2 hk) dX4_value_5 ?_
  refine J.imul (pc := 6) C dX4_value_6 ?_
  refine J.iload_n (pc := 7) C dX4_value_7 rfl 2 rfl ?_
  refine J.iadd (pc := 8) C dX4_value_8 ?_
  refine J.nmI hf (fun x3_1 hf => ?_)
  refine J.istore_n (pc := 9) C (loc' := [(3, .int x3_1), (0, .ref (Xad X k)), (1, .int x1), (2, .int x2)]) dX4_value_9 rfl (by decide) rfl ?_
  refine J.iload_n (pc := 10) C dX4_value_10 rfl 0 rfl ?_
  refine J.if_lt (pc := 11) C (tgt := 32) dX4_value_11 (by decide) hf (fun hf => ?_) (fun hf => ?_)
  · refine J.iconst (pc := 32) C (v := 0) dX4_value_32 (by decide) ?_
    exact J.iretP (pc := 33) C hR ((Option.some.inj hf).trans hp) dX4_value_33
  · refine J.iload_n (pc := 14) C dX4_value_14 rfl 0 rfl ?_
    refine J.aload_n (pc := 15) C dX4_value_15 rfl 1 rfl ?_
    refine J.getR (pc := 16) C kcX4 hk 4 rfl tw_71 rfl dX4_value_16 ?_
    refine J.arrlen (pc := 19) C (ok_4_4 hcl hk) dX4_value_19 ?_
    refine J.icmp_ge (pc := 20) C (tgt := 32) dX4_value_20 (by decide) hf (fun hf => ?_) (fun hf => ?_)
    · refine J.iconst (pc := 32) C (v := 0) dX4_value_32 (by decide) ?_
      exact J.iretP (pc := 33) C hR ((Option.some.inj hf).trans hp) dX4_value_33
    · refine J.aload_n (pc := 23) C dX4_value_23 rfl 1 rfl ?_
      refine J.getR (pc := 24) C kcX4 hk 4 rfl tw_71 rfl dX4_value_24 ?_
      refine J.iload_n (pc := 27) C dX4_value_27 rfl 0 rfl ?_
      refine J.iald (pc := 28) C (ok_4_4 hcl hk) hf dX4_value_28 (fun hf => ?_)
      refine J.goto (pc := 29) C (tgt := 33) dX4_value_29 (by decide) ?_
      exact J.iretP (pc := 33) C hR ((Option.some.inj hf).trans hp) dX4_value_33
set_option maxHeartbeats 4000000 in
set_option maxRecDepth 100000 in
theorem m_X8_toward {l : Launch} {x0 : Int32} {x1 : Int32} {x2 : Int32} {σ : Mem} {t0 : Int32} (hf : f_X8_toward x0 x1 x2 = some t0) : Ct l yX8_toward cX8_toward 3 (some FieldType.int) 1 13 (fun _ => True) (fun _ => [.int x0, .int x1, .int x2]) σ (fun _ => some (.int t0)) σ := by
  refine Ct.of (plainFor_of_name (by decide)) (fun _ => Nat.le_of_ble_eq_true rfl) ?_
  intro X C _ _ hcl hR
  have C : Cx X RX8 cX8_toward 3 (some FieldType.int) 1 13 := C
  have hp : t0 = t0 := rfl
  show J X 0 [(0, .int x0), (1, .int x1), (2, .int x2)] [] σ
  unfold f_X8_toward at hf
  refine J.iload_n (pc := 0) C dX8_toward_0 rfl 0 rfl ?_
  refine J.iload_n (pc := 1) C dX8_toward_1 rfl 1 rfl ?_
  refine J.icmp_ge (pc := 2) C (tgt := 15) dX8_toward_2 (by decide) hf (fun hf => ?_) (fun hf => ?_)
  · refine J.iload_n (pc := 15) C dX8_toward_15 rfl 1 rfl ?_
    refine J.iload_n (pc := 16) C dX8_toward_16 rfl 0 rfl ?_
    refine J.iload_n (pc := 17) C dX8_toward_17 rfl 2 rfl ?_
    refine J.isub (pc := 18) C dX8_toward_18 ?_
    refine J.mmaxI (pc := 19) C tw_477 twm_max_s twm_i twm_max_c (Nat.le_of_ble_eq_true rfl) (Nat.le_of_ble_eq_true rfl) dX8_toward_19 ?_
    exact J.iretP (pc := 22) C hR ((Option.some.inj hf).trans hp) dX8_toward_22
  · refine J.iload_n (pc := 5) C dX8_toward_5 rfl 1 rfl ?_
    refine J.iload_n (pc := 6) C dX8_toward_6 rfl 0 rfl ?_
    refine J.iload_n (pc := 7) C dX8_toward_7 rfl 2 rfl ?_
    refine J.iadd (pc := 8) C dX8_toward_8 ?_
    refine J.mminI (pc := 9) C tw_476 twm_min_s twm_i twm_min_c (Nat.le_of_ble_eq_true rfl) (Nat.le_of_ble_eq_true rfl) dX8_toward_9 ?_
    refine J.goto (pc := 12) C (tgt := 22) dX8_toward_12 (by decide) ?_
    exact J.iretP (pc := 22) C hR ((Option.some.inj hf).trans hp) dX8_toward_22
set_option maxHeartbeats 4000000 in
set_option maxRecDepth 100000 in
theorem m_X1_open {l : Launch} {n : Nat} {σ : Mem} {k : Nat} {x1 : Int32} {x2 : Int32} {x3 : Int32} {t0 : Mem} (hf : f_X1_open n σ k x1 x2 x3 = some t0) : Ct l yX1_open cX1_open 6 none 3 64 (fun ks => Ok ks k 1) (fun ad => [.ref (ad k), .int x1, .int x2, .int x3]) σ (fun _ => none) t0 := by
  refine Ct.of (plainFor_of_name (by decide)) (fun _ => Nat.le_of_ble_eq_true rfl) ?_
  intro X C _ hk hcl hR
  have C : Cx X RX1 cX1_open 6 none 3 64 := C
  have L69 : ∀ (σ : Mem) (x1 : Int32) (x2 : Int32) (x3 : Int32) (x4 : Int32) (x5 : Int32) (t : (Mem ⊕ (Mem × Int32))), f_X1_open_L69 n σ k x1 x2 x3 x4 x5 = some t → ((∀ r1, t = .inl r1 → r1 = t0) ∧ (∀ s1, t = .inr s1 → J X 3 [(0, .ref (Xad X k)), (1, .int x1), (2, .int x2), (3, .int x3), (4, .int (s1.2))] [] s1.1)) → J X 69 [(0, .ref (Xad X k)), (1, .int x1), (2, .int x2), (3, .int x3), (4, .int x4), (5, .int x5)] [] σ := by
    intro σ x1 x2 x3 x4 x5 t hf hp
    unfold f_X1_open_L69 at hf
    refine J.aload_n (pc := 69) C dX1_open_69 rfl 0 rfl ?_
    refine J.getR (pc := 70) C kcX1 hk 2 rfl tw_102 rfl dX1_open_70 ?_
    refine J.iload (pc := 73) C dX1_open_73 4 rfl ?_
    refine J.aload_n (pc := 75) C dX1_open_75 rfl 0 rfl ?_
    refine J.getR (pc := 76) C kcX1 hk 2 rfl tw_102 rfl dX1_open_76 ?_
    refine J.iload (pc := 79) C dX1_open_79 4 rfl ?_
    refine J.iald (pc := 81) C (ok_1_2 hcl hk) hf dX1_open_81 (fun hf => ?_)
    refine J.iload (pc := 82) C dX1_open_82 5 rfl ?_
    refine J.aload_n (pc := 84) C dX1_open_84 rfl 0 rfl ?_
    refine J.getR (pc := 85) C kcX1 hk 0 rfl tw_98 rfl dX1_open_85 ?_
    refine J.iload (pc := 88) C dX1_open_88 4 rfl ?_
    refine J.iconst (pc := 90) C (v := 3) dX1_open_90 (by decide) ?_
    obtain ⟨r_6, h_5, hf⟩ := bnd_some hf
    refine J.callV (pc := 91) C (m_X4_value h_5) (ok_1_0 hcl hk) wyX4_value tvX4_value_i tvX4_value_s tw_464 kcX4 rfl (ok_1_0 hcl hk) [.int x4, .int 3] [.int x5, .int (σ (ptr k 2) (ix x4)), .int x4, .ref (Xad X (ptr k 2))] rfl rfl (Nat.le_of_ble_eq_true rfl) (Nat.le_of_ble_eq_true rfl) (Nat.le_of_ble_eq_true rfl) (stk' := [.int r_6, .int x5, .int (σ (ptr k 2) (ix x4)), .int x4, .ref (Xad X (ptr k 2))]) rfl dX1_open_91 rfl ?_
    obtain ⟨r_8, h_7, hf⟩ := bnd_some hf
    refine J.callSN (pc := 94) C (m_X8_toward h_7) trivial wyX8_toward tsX8_toward tn_473 [.int (σ (ptr k 2) (ix x4)), .int x5, .int r_6] [.int x4, .ref (Xad X (ptr k 2))] rfl rfl (Nat.le_of_ble_eq_true rfl) (Nat.le_of_ble_eq_true rfl) (Nat.le_of_ble_eq_true rfl) (stk' := [.int r_8, .int x4, .ref (Xad X (ptr k 2))]) rfl dX1_open_94 rfl ?_
    refine J.iastM (pc := 97) C (ok_1_2 hcl hk) hf dX1_open_97 (fun σ_9 hf => ?_)
    obtain ⟨x4_10, hx_x4_10, hf⟩ := nm_some hf
    refine J.iinc (pc := 98) C (v := x4_10) (loc' := [(4, .int x4_10), (0, .ref (Xad X k)), (1, .int x1), (2, .int x2), (3, .int x3), (5, .int x5)]) dX1_open_98 (k := 4) rfl (by rw [hx_x4_10]; rfl) (by decide) rfl ?_
    refine J.goto (pc := 101) C (tgt := 3) dX1_open_101 (by decide) ?_
    exact J.sub (loc' := [(0, .ref (Xad X k)), (1, .int x1), (2, .int x2), (3, .int x3), (4, .int x4_10)]) [1, 2, 3, 4, 0] rfl (hp.2 _ (Option.some.inj hf).symm)
  have L3 : ∀ (σ : Mem) (x1 : Int32) (x2 : Int32) (x3 : Int32) (x4 : Int32) (t : Mem), f_X1_open_L3 n σ k x1 x2 x3 x4 = some t → t = t0 → J X 3 [(0, .ref (Xad X k)), (1, .int x1), (2, .int x2), (3, .int x3), (4, .int x4)] [] σ := by
    intro σ x1 x2 x3 x4 t hf hp
    unfold f_X1_open_L3 at hf
    refine J_iter (JJ := fun (s : Mem × Int32) => J X 3 [(0, .ref (Xad X k)), (1, .int x1), (2, .int x2), (3, .int x3), (4, .int (s.2))] [] s.1) (Ps := fun t => t = t0) ?_ n (σ, x4) t hf hp
    clear hf hp
    intro s t hf hp hq
    obtain ⟨σ, x4⟩ := s
    have hp := And.intro hp hq
    clear hq
    have hf : f_X1_open_B3 n σ k x1 x2 x3 x4 = some t := hf
    show J X 3 [(0, .ref (Xad X k)), (1, .int x1), (2, .int x2), (3, .int x3), (4, .int x4)] [] σ
    unfold f_X1_open_B3 at hf
    refine J.iload (pc := 3) C dX1_open_3 4 rfl ?_
    refine J.aload_n (pc := 5) C dX1_open_5 rfl 0 rfl ?_
    refine J.getI (pc := 6) C kcX1 hk 8 rfl tw_113 rfl dX1_open_6 ?_
    refine J.icmp_ge (pc := 9) C (tgt := 104) dX1_open_9 (by decide) hf (fun hf => ?_) (fun hf => ?_)
    · exact J.vretM (pc := 104) C hR ((hp.1 _ (Option.some.inj hf).symm)) dX1_open_104
    · refine J.aload_n (pc := 12) C dX1_open_12 rfl 0 rfl ?_
      refine J.iload_n (pc := 13) C dX1_open_13 rfl 1 rfl ?_
      refine J.aload_n (pc := 14) C dX1_open_14 rfl 0 rfl ?_
      refine J.getR (pc := 15) C kcX1 hk 0 rfl tw_98 rfl dX1_open_15 ?_
      refine J.iload (pc := 18) C dX1_open_18 4 rfl ?_
      refine J.iconst (pc := 20) C (v := 2) dX1_open_20 (by decide) ?_
      obtain ⟨r_2, h_1, hf⟩ := bnd_some hf
      refine J.callV (pc := 21) C (m_X4_value h_1) (ok_1_0 hcl hk) wyX4_value tvX4_value_i tvX4_value_s tw_464 kcX4 rfl (ok_1_0 hcl hk) [.int x4, .int 2] [.int x1, .ref (Xad X k)] rfl rfl (Nat.le_of_ble_eq_true rfl) (Nat.le_of_ble_eq_true rfl) (Nat.le_of_ble_eq_true rfl) (stk' := [.int r_2, .int x1, .ref (Xad X k)]) rfl dX1_open_21 rfl ?_
      refine J.isub (pc := 24) C dX1_open_24 ?_
      refine J.iload (pc := 25) C dX1_open_25 4 rfl ?_
      obtain ⟨r_4, h_3, hf⟩ := bnd_some hf
      refine J.callV (pc := 27) C (m_X1_commandAt h_3) hk wyX1_commandAt tvX1_commandAt_i tvX1_commandAt_s tw_465 kcX1 rfl hk [.int (x1 - r_2), .int x4] [] rfl rfl (Nat.le_of_ble_eq_true rfl) (Nat.le_of_ble_eq_true rfl) (Nat.le_of_ble_eq_true rfl) (stk' := [.int r_4]) rfl dX1_open_27 rfl ?_
      refine J.istore (pc := 30) C (loc' := [(5, .int r_4), (0, .ref (Xad X k)), (1, .int x1), (2, .int x2), (3, .int x3), (4, .int x4)]) dX1_open_30 (by decide) rfl ?_
      refine J.iload_n (pc := 32) C dX1_open_32 rfl 3 rfl ?_
      refine J.iconst (pc := 33) C (v := 1) dX1_open_33 (by decide) ?_
      refine J.icmp_ne (pc := 34) C (tgt := 61) dX1_open_34 (by decide) hf (fun hf => ?_) (fun hf => ?_)
      · refine J.iload_n (pc := 61) C dX1_open_61 rfl 3 rfl ?_
        refine J.iconst (pc := 62) C (v := 2) dX1_open_62 (by decide) ?_
        refine J.icmp_ne (pc := 63) C (tgt := 69) dX1_open_63 (by decide) hf (fun hf => ?_) (fun hf => ?_)
        · exact J.sub (loc' := [(0, .ref (Xad X k)), (1, .int x1), (2, .int x2), (3, .int x3), (4, .int x4), (5, .int r_4)]) [1, 2, 3, 4, 5, 0] rfl (L69 σ x1 x2 x3 x4 r_4 _ hf hp)
        · refine J.iconst (pc := 66) C (v := 0) dX1_open_66 (by decide) ?_
          refine J.istore (pc := 67) C (loc' := [(5, .int 0), (0, .ref (Xad X k)), (1, .int x1), (2, .int x2), (3, .int x3), (4, .int x4)]) dX1_open_67 (by decide) rfl ?_
          exact J.sub (loc' := [(0, .ref (Xad X k)), (1, .int x1), (2, .int x2), (3, .int x3), (4, .int x4), (5, .int 0)]) [1, 2, 3, 4, 5, 0] rfl (L69 σ x1 x2 x3 x4 0 _ hf hp)
      · refine J.aload_n (pc := 37) C dX1_open_37 rfl 1 rfl ?_
        refine J.aload_n (pc := 38) C dX1_open_38 rfl 1 rfl ?_
        refine J.getI (pc := 39) C kcX1 hk 9 rfl tw_115 rfl dX1_open_39 ?_
        refine J.iload (pc := 42) C dX1_open_42 0 rfl ?_
        refine J.mmaxI (pc := 44) C tw_469 twm_max_s twm_i twm_max_c (Nat.le_of_ble_eq_true rfl) (Nat.le_of_ble_eq_true rfl) dX1_open_44 ?_
        refine J.putM (pc := 47) C kcX1 hk 9 rfl tw_115 rfl rfl rfl rfl hf dX1_open_47 (fun σ_11 hf => ?_)
        refine J.iload (pc := 50) C dX1_open_50 0 rfl ?_
        refine J.iload_n (pc := 52) C dX1_open_52 rfl 4 rfl ?_
        refine J.mminI (pc := 53) C tw_470 twm_min_s twm_i twm_min_c (Nat.le_of_ble_eq_true rfl) (Nat.le_of_ble_eq_true rfl) dX1_open_53 ?_
        refine J.nmI hf (fun x5_12 hf => ?_)
        refine J.istore (pc := 56) C (loc' := [(5, .int x5_12), (0, .ref (Xad X k)), (1, .int x1), (2, .int x2), (3, .int x3), (4, .int x4)]) dX1_open_56 (by decide) rfl ?_
        refine J.goto (pc := 58) C (tgt := 69) dX1_open_58 (by decide) ?_
        exact J.sub (loc' := [(0, .ref (Xad X k)), (1, .int x1), (2, .int x2), (3, .int x3), (4, .int x4), (5, .int x5_12)]) [1, 2, 3, 4, 5, 0] rfl (L69 σ_11 x1 x2 x3 x4 x5_12 _ hf hp)
  have hp : t0 = t0 := rfl
  show J X 0 [(0, .ref (Xad X k)), (1, .int x1), (2, .int x2), (3, .int x3)] [] σ
  unfold f_X1_open at hf
  refine J.iconst (pc := 0) C (v := 0) dX1_open_0 (by decide) ?_
  refine J.istore (pc := 1) C (loc' := [(4, .int 0), (0, .ref (Xad X k)), (1, .int x1), (2, .int x2), (3, .int x3)]) dX1_open_1 (by decide) rfl ?_
  exact J.sub (loc' := [(0, .ref (Xad X k)), (1, .int x1), (2, .int x2), (3, .int x3), (4, .int 0)]) [1, 2, 3, 4, 0] rfl (L3 σ x1 x2 x3 0 _ hf hp)
set_option maxHeartbeats 4000000 in
set_option maxRecDepth 100000 in
theorem m_X1_demandAt {l : Launch} {σ : Mem} {k : Nat} {x1 : Int32} {t0 : Int32} (hf : f_X1_demandAt σ k x1 = some t0) : Ct l yX1_demandAt cX1_demandAt 2 (some FieldType.int) 1 23 (fun ks => Ok ks k 1) (fun ad => [.ref (ad k), .int x1]) σ (fun _ => some (.int t0)) σ := by
  refine Ct.of (plainFor_of_name (by decide)) (fun _ => Nat.le_of_ble_eq_true rfl) ?_
  intro X C _ hk hcl hR
  have C : Cx X RX1 cX1_demandAt 2 (some FieldType.int) 1 23 := C
  have hp : t0 = t0 := rfl
  show J X 0 [(0, .ref (Xad X k)), (1, .int x1)] [] σ
  unfold f_X1_demandAt at hf
  refine J.aload_n (pc := 0) C dX1_demandAt_0 rfl 0 rfl ?_
  refine J.getR (pc := 1) C kcX1 hk 2 rfl tw_102 rfl dX1_demandAt_1 ?_
  refine J.iload_n (pc := 4) C dX1_demandAt_4 rfl 1 rfl ?_
  refine J.iald (pc := 5) C (ok_1_2 hcl hk) hf dX1_demandAt_5 (fun hf => ?_)
  refine J.aload_n (pc := 6) C dX1_demandAt_6 rfl 0 rfl ?_
  refine J.getR (pc := 7) C kcX1 hk 0 rfl tw_98 rfl dX1_demandAt_7 ?_
  refine J.iload_n (pc := 10) C dX1_demandAt_10 rfl 1 rfl ?_
  refine J.iconst (pc := 11) C (v := 0) dX1_demandAt_11 (by decide) ?_
  obtain ⟨r_2, h_1, hf⟩ := bnd_some hf
  refine J.callV (pc := 12) C (m_X4_value h_1) (ok_1_0 hcl hk) wyX4_value tvX4_value_i tvX4_value_s tw_464 kcX4 rfl (ok_1_0 hcl hk) [.int x1, .int 0] [.int (σ (ptr k 2) (ix x1))] rfl rfl (Nat.le_of_ble_eq_true rfl) (Nat.le_of_ble_eq_true rfl) (Nat.le_of_ble_eq_true rfl) (stk' := [.int r_2, .int (σ (ptr k 2) (ix x1))]) rfl dX1_demandAt_12 rfl ?_
  refine J.imul (pc := 15) C dX1_demandAt_15 ?_
  exact J.iretP (pc := 16) C hR ((Option.some.inj hf).trans hp) dX1_demandAt_16
set_option maxHeartbeats 4000000 in
set_option maxRecDepth 100000 in
theorem m_X1_demandOf {l : Launch} {n : Nat} {σ : Mem} {k : Nat} {x1 : Int32} {t0 : Int32} (hf : f_X1_demandOf n σ k x1 = some t0) : Ct l yX1_demandOf cX1_demandOf 4 (some FieldType.int) 2 44 (fun ks => Ok ks k 1) (fun ad => [.ref (ad k), .int x1]) σ (fun _ => some (.int t0)) σ := by
  refine Ct.of (plainFor_of_name (by decide)) (fun _ => Nat.le_of_ble_eq_true rfl) ?_
  intro X C _ hk hcl hR
  have C : Cx X RX1 cX1_demandOf 4 (some FieldType.int) 2 44 := C
  have L4 : ∀ (x1 : Int32) (x2 : Int32) (x3 : Int32) (t : Int32), f_X1_demandOf_L4 n σ k x1 x2 x3 = some t → t = t0 → J X 4 [(0, .ref (Xad X k)), (1, .int x1), (2, .int x2), (3, .int x3)] [] σ := by
    intro x1 x2 x3 t hf hp
    unfold f_X1_demandOf_L4 at hf
    refine J_iter (JJ := fun (s : Int32 × Int32) => J X 4 [(0, .ref (Xad X k)), (1, .int x1), (2, .int (s.1)), (3, .int (s.2))] [] σ) (Ps := fun t => t = t0) ?_ n (x2, x3) t hf hp
    clear hf hp
    intro s t hf hp hq
    obtain ⟨x2, x3⟩ := s
    have hp := And.intro hp hq
    clear hq
    have hf : f_X1_demandOf_B4 n σ k x1 x2 x3 = some t := hf
    show J X 4 [(0, .ref (Xad X k)), (1, .int x1), (2, .int x2), (3, .int x3)] [] σ
    unfold f_X1_demandOf_B4 at hf
    refine J.iload_n (pc := 4) C dX1_demandOf_4 rfl 3 rfl ?_
    refine J.aload_n (pc := 5) C dX1_demandOf_5 rfl 0 rfl ?_
    refine J.getI (pc := 6) C kcX1 hk 8 rfl tw_113 rfl dX1_demandOf_6 ?_
    refine J.icmp_ge (pc := 9) C (tgt := 39) dX1_demandOf_9 (by decide) hf (fun hf => ?_) (fun hf => ?_)
    · refine J.iload_n (pc := 39) C dX1_demandOf_39 rfl 2 rfl ?_
      exact J.iretP (pc := 40) C hR ((hp.1 _ (Option.some.inj hf).symm)) dX1_demandOf_40
    · refine J.aload_n (pc := 12) C dX1_demandOf_12 rfl 0 rfl ?_
      refine J.getR (pc := 13) C kcX1 hk 0 rfl tw_98 rfl dX1_demandOf_13 ?_
      refine J.iload_n (pc := 16) C dX1_demandOf_16 rfl 3 rfl ?_
      refine J.iconst (pc := 17) C (v := 4) dX1_demandOf_17 (by decide) ?_
      obtain ⟨r_2, h_1, hf⟩ := bnd_some hf
      refine J.callV (pc := 18) C (m_X4_value h_1) (ok_1_0 hcl hk) wyX4_value tvX4_value_i tvX4_value_s tw_464 kcX4 rfl (ok_1_0 hcl hk) [.int x3, .int 4] [] rfl rfl (Nat.le_of_ble_eq_true rfl) (Nat.le_of_ble_eq_true rfl) (Nat.le_of_ble_eq_true rfl) (stk' := [.int r_2]) rfl dX1_demandOf_18 rfl ?_
      refine J.iload_n (pc := 21) C dX1_demandOf_21 rfl 1 rfl ?_
      refine J.icmp_ne (pc := 22) C (tgt := 33) dX1_demandOf_22 (by decide) hf (fun hf => ?_) (fun hf => ?_)
      · obtain ⟨x3_3, hx_x3_3, hf⟩ := nm_some hf
        refine J.iinc (pc := 33) C (v := x3_3) (loc' := [(3, .int x3_3), (0, .ref (Xad X k)), (1, .int x1), (2, .int x2)]) dX1_demandOf_33 (k := 3) rfl (by rw [hx_x3_3]; rfl) (by decide) rfl ?_
        refine J.goto (pc := 36) C (tgt := 4) dX1_demandOf_36 (by decide) ?_
        exact J.sub (loc' := [(0, .ref (Xad X k)), (1, .int x1), (2, .int x2), (3, .int x3_3)]) [1, 2, 3, 0] rfl (hp.2 _ (Option.some.inj hf).symm)
      · refine J.iload_n (pc := 25) C dX1_demandOf_25 rfl 2 rfl ?_
        refine J.aload_n (pc := 26) C dX1_demandOf_26 rfl 0 rfl ?_
        refine J.iload_n (pc := 27) C dX1_demandOf_27 rfl 3 rfl ?_
        obtain ⟨r_5, h_4, hf⟩ := bnd_some hf
        refine J.callV (pc := 28) C (m_X1_demandAt h_4) hk wyX1_demandAt tvX1_demandAt_i tvX1_demandAt_s tw_486 kcX1 rfl hk [.int x3] [.int x2] rfl rfl (Nat.le_of_ble_eq_true rfl) (Nat.le_of_ble_eq_true rfl) (Nat.le_of_ble_eq_true rfl) (stk' := [.int r_5, .int x2]) rfl dX1_demandOf_28 rfl ?_
        refine J.iadd (pc := 31) C dX1_demandOf_31 ?_
        refine J.nmI hf (fun x2_6 hf => ?_)
        refine J.istore_n (pc := 32) C (loc' := [(2, .int x2_6), (0, .ref (Xad X k)), (1, .int x1), (3, .int x3)]) dX1_demandOf_32 rfl (by decide) rfl ?_
        obtain ⟨x3_7, hx_x3_7, hf⟩ := nm_some hf
        refine J.iinc (pc := 33) C (v := x3_7) (loc' := [(3, .int x3_7), (2, .int x2_6), (0, .ref (Xad X k)), (1, .int x1)]) dX1_demandOf_33 (k := 3) rfl (by rw [hx_x3_7]; rfl) (by decide) rfl ?_
        refine J.goto (pc := 36) C (tgt := 4) dX1_demandOf_36 (by decide) ?_
        exact J.sub (loc' := [(0, .ref (Xad X k)), (1, .int x1), (2, .int x2_6), (3, .int x3_7)]) [2, 3, 1, 0] rfl (hp.2 _ (Option.some.inj hf).symm)
  have hp : t0 = t0 := rfl
  show J X 0 [(0, .ref (Xad X k)), (1, .int x1)] [] σ
  unfold f_X1_demandOf at hf
  refine J.iconst (pc := 0) C (v := 0) dX1_demandOf_0 (by decide) ?_
  refine J.istore_n (pc := 1) C (loc' := [(2, .int 0), (0, .ref (Xad X k)), (1, .int x1)]) dX1_demandOf_1 rfl (by decide) rfl ?_
  refine J.iconst (pc := 2) C (v := 0) dX1_demandOf_2 (by decide) ?_
  refine J.istore_n (pc := 3) C (loc' := [(3, .int 0), (2, .int 0), (0, .ref (Xad X k)), (1, .int x1)]) dX1_demandOf_3 rfl (by decide) rfl ?_
  exact J.sub (loc' := [(0, .ref (Xad X k)), (1, .int x1), (2, .int 0), (3, .int 0)]) [2, 3, 1, 0] rfl (L4 x1 0 0 _ hf hp)
set_option maxHeartbeats 4000000 in
set_option maxRecDepth 100000 in
theorem m_J9_floorDiv_f86c9 {l : Launch} {x0 : Int64} {x2 : Int64} {σ : Mem} {t0 : Int64} (hf : f_J9_floorDiv_f86c9 x0 x2 = some t0) : Ct l yJ9_floorDiv_f86c9 cJ9_floorDiv_f86c9 6 (some FieldType.long) 0 0 (fun _ => True) (fun _ => [.long x0, .long x2]) σ (fun _ => some (.long t0)) σ := by
  refine Ct.of (by decide +kernel) (fun _ => Nat.le_of_ble_eq_true rfl) ?_
  intro X C _ _ hcl hR
  have C : Cx X RJ9 cJ9_floorDiv_f86c9 6 (some FieldType.long) 0 0 := C
  have hp : t0 = t0 := rfl
  show J X 0 [(0, .long x0), (2, .long x2)] [] σ
  unfold f_J9_floorDiv_f86c9 at hf
  refine J.lload_n (pc := 0) C dJ9_floorDiv_f86c9_0 rfl 0 rfl ?_
  refine J.lload_n (pc := 1) C dJ9_floorDiv_f86c9_1 rfl 1 rfl ?_
  obtain ⟨hne, hf⟩ := chk_some hf
  refine J.ldiv (pc := 2) C dJ9_floorDiv_f86c9_2 (of_decide_eq_true hne) ?_
  refine J.nmJ hf (fun x4_1 hf => ?_)
  refine J.lstore (pc := 3) C (loc' := [(4, .long x4_1), (0, .long x0), (2, .long x2)]) dJ9_floorDiv_f86c9_3 (by decide) rfl ?_
  refine J.lload_n (pc := 5) C dJ9_floorDiv_f86c9_5 rfl 1 rfl ?_
  refine J.lload_n (pc := 6) C dJ9_floorDiv_f86c9_6 rfl 2 rfl ?_
  refine J.lxor (pc := 7) C dJ9_floorDiv_f86c9_7 ?_
  refine J.lconst (pc := 8) C (v := 0) dJ9_floorDiv_f86c9_8 (by decide) ?_
  refine J.lcmp (pc := 9) C dJ9_floorDiv_f86c9_9 ?_
  refine J.if_ge (pc := 10) C (tgt := 27) dJ9_floorDiv_f86c9_10 (by decide) hf (fun hf => ?_) (fun hf => ?_)
  · refine J.lload (pc := 27) C dJ9_floorDiv_f86c9_27 0 rfl ?_
    exact J.lretP (pc := 29) C hR ((Option.some.inj hf).trans hp) dJ9_floorDiv_f86c9_29
  · refine J.lload (pc := 13) C dJ9_floorDiv_f86c9_13 0 rfl ?_
    refine J.lload_n (pc := 15) C dJ9_floorDiv_f86c9_15 rfl 2 rfl ?_
    refine J.lmul (pc := 16) C dJ9_floorDiv_f86c9_16 ?_
    refine J.lload_n (pc := 17) C dJ9_floorDiv_f86c9_17 rfl 1 rfl ?_
    refine J.lcmp (pc := 18) C dJ9_floorDiv_f86c9_18 ?_
    refine J.if_eq (pc := 19) C (tgt := 27) dJ9_floorDiv_f86c9_19 (by decide) hf (fun hf => ?_) (fun hf => ?_)
    · refine J.lload (pc := 27) C dJ9_floorDiv_f86c9_27 0 rfl ?_
      exact J.lretP (pc := 29) C hR ((Option.some.inj hf).trans hp) dJ9_floorDiv_f86c9_29
    · refine J.lload (pc := 22) C dJ9_floorDiv_f86c9_22 0 rfl ?_
      refine J.lconst (pc := 24) C (v := 1) dJ9_floorDiv_f86c9_24 (by decide) ?_
      refine J.lsub (pc := 25) C dJ9_floorDiv_f86c9_25 ?_
      exact J.lretP (pc := 26) C hR ((Option.some.inj hf).trans hp) dJ9_floorDiv_f86c9_26
set_option maxHeartbeats 4000000 in
set_option maxRecDepth 100000 in
theorem m_X8_quotient {l : Launch} {x0 : Int64} {x2 : Int64} {σ : Mem} {t0 : Int64} (hf : f_X8_quotient x0 x2 = some t0) : Ct l yX8_quotient cX8_quotient 4 (some FieldType.long) 1 25 (fun _ => True) (fun _ => [.long x0, .long x2]) σ (fun _ => some (.long t0)) σ := by
  refine Ct.of (plainFor_of_name (by decide)) (fun _ => Nat.le_of_ble_eq_true rfl) ?_
  intro X C _ _ hcl hR
  have C : Cx X RX8 cX8_quotient 4 (some FieldType.long) 1 25 := C
  have hp : t0 = t0 := rfl
  show J X 0 [(0, .long x0), (2, .long x2)] [] σ
  unfold f_X8_quotient at hf
  refine J.lload_n (pc := 0) C dX8_quotient_0 rfl 1 rfl ?_
  refine J.lconst (pc := 1) C (v := 1) dX8_quotient_1 (by decide) ?_
  refine J.lcmp (pc := 2) C dX8_quotient_2 ?_
  refine J.if_ge (pc := 3) C (tgt := 10) dX8_quotient_3 (by decide) hf (fun hf => ?_) (fun hf => ?_)
  · refine J.lload_n (pc := 10) C dX8_quotient_10 rfl 0 rfl ?_
    refine J.lload_n (pc := 11) C dX8_quotient_11 rfl 1 rfl ?_
    obtain ⟨r_2, h_1, hf⟩ := bnd_some hf
    refine J.callS (pc := 12) C (m_J9_floorDiv_f86c9 h_1) trivial wyJ9_floorDiv_f86c9 tsJ9_floorDiv_f86c9 tw_447 [.long x0, .long x2] [] rfl rfl (Nat.le_of_ble_eq_true rfl) (Nat.le_of_ble_eq_true rfl) (Nat.le_of_ble_eq_true rfl) (stk' := [.long r_2]) rfl dX8_quotient_12 rfl ?_
    exact J.lretP (pc := 15) C hR ((Option.some.inj hf).trans hp) dX8_quotient_15
  · refine J.lconst (pc := 6) C (v := 0) dX8_quotient_6 (by decide) ?_
    refine J.goto (pc := 7) C (tgt := 15) dX8_quotient_7 (by decide) ?_
    exact J.lretP (pc := 15) C hR ((Option.some.inj hf).trans hp) dX8_quotient_15
set_option maxHeartbeats 4000000 in
set_option maxRecDepth 100000 in
theorem m_X1_flow {l : Launch} {n : Nat} {σ : Mem} {k : Nat} {x1 : Int32} {x2 : Int32} {x3 : Int32} {t0 : Mem} (hf : f_X1_flow n σ k x1 x2 x3 = some t0) : Ct l yX1_flow cX1_flow 6 none 2 48 (fun ks => Ok ks k 1) (fun ad => [.ref (ad k), .int x1, .int x2, .int x3]) σ (fun _ => none) t0 := by
  refine Ct.of (plainFor_of_name (by decide)) (fun _ => Nat.le_of_ble_eq_true rfl) ?_
  intro X C _ hk hcl hR
  have C : Cx X RX1 cX1_flow 6 none 2 48 := C
  have L62 : ∀ (σ : Mem) (x1 : Int32) (x2 : Int32) (x3 : Int32) (x4 : Int32) (y0 : Int32) (y1 : Int32) (t : (Mem ⊕ (Mem × Int32))), f_X1_flow_L62 n σ k x1 x2 x3 x4 y0 y1 = some t → ((∀ r1, t = .inl r1 → r1 = t0) ∧ (∀ s1, t = .inr s1 → J X 3 [(0, .ref (Xad X k)), (1, .int x1), (2, .int x2), (3, .int x3), (4, .int (s1.2))] [] s1.1)) → J X 62 [(0, .ref (Xad X k)), (1, .int x1), (2, .int x2), (3, .int x3), (4, .int x4)] [.int y0, .int y1, .ref (Xad X (ptr k 3))] σ := by
    intro σ x1 x2 x3 x4 y0 y1 t hf hp
    unfold f_X1_flow_L62 at hf
    refine J.iastM (pc := 62) C (ok_1_3 hcl hk) hf dX1_flow_62 (fun σ_8 hf => ?_)
    obtain ⟨x4_9, hx_x4_9, hf⟩ := nm_some hf
    refine J.iinc (pc := 63) C (v := x4_9) (loc' := [(4, .int x4_9), (0, .ref (Xad X k)), (1, .int x1), (2, .int x2), (3, .int x3)]) dX1_flow_63 (k := 4) rfl (by rw [hx_x4_9]; rfl) (by decide) rfl ?_
    refine J.goto (pc := 66) C (tgt := 3) dX1_flow_66 (by decide) ?_
    exact J.sub (loc' := [(0, .ref (Xad X k)), (1, .int x1), (2, .int x2), (3, .int x3), (4, .int x4_9)]) [1, 2, 3, 4, 0] rfl (hp.2 _ (Option.some.inj hf).symm)
  have L3 : ∀ (σ : Mem) (x1 : Int32) (x2 : Int32) (x3 : Int32) (x4 : Int32) (t : Mem), f_X1_flow_L3 n σ k x1 x2 x3 x4 = some t → t = t0 → J X 3 [(0, .ref (Xad X k)), (1, .int x1), (2, .int x2), (3, .int x3), (4, .int x4)] [] σ := by
    intro σ x1 x2 x3 x4 t hf hp
    unfold f_X1_flow_L3 at hf
    refine J_iter (JJ := fun (s : Mem × Int32) => J X 3 [(0, .ref (Xad X k)), (1, .int x1), (2, .int x2), (3, .int x3), (4, .int (s.2))] [] s.1) (Ps := fun t => t = t0) ?_ n (σ, x4) t hf hp
    clear hf hp
    intro s t hf hp hq
    obtain ⟨σ, x4⟩ := s
    have hp := And.intro hp hq
    clear hq
    have hf : f_X1_flow_B3 n σ k x1 x2 x3 x4 = some t := hf
    show J X 3 [(0, .ref (Xad X k)), (1, .int x1), (2, .int x2), (3, .int x3), (4, .int x4)] [] σ
    unfold f_X1_flow_B3 at hf
    refine J.iload (pc := 3) C dX1_flow_3 4 rfl ?_
    refine J.aload_n (pc := 5) C dX1_flow_5 rfl 0 rfl ?_
    refine J.getI (pc := 6) C kcX1 hk 8 rfl tw_113 rfl dX1_flow_6 ?_
    refine J.icmp_ge (pc := 9) C (tgt := 69) dX1_flow_9 (by decide) hf (fun hf => ?_) (fun hf => ?_)
    · exact J.vretM (pc := 69) C hR ((hp.1 _ (Option.some.inj hf).symm)) dX1_flow_69
    · refine J.aload_n (pc := 12) C dX1_flow_12 rfl 0 rfl ?_
      refine J.getR (pc := 13) C kcX1 hk 0 rfl tw_98 rfl dX1_flow_13 ?_
      refine J.iload (pc := 16) C dX1_flow_16 4 rfl ?_
      refine J.iconst (pc := 18) C (v := 4) dX1_flow_18 (by decide) ?_
      obtain ⟨r_2, h_1, hf⟩ := bnd_some hf
      refine J.callV (pc := 19) C (m_X4_value h_1) (ok_1_0 hcl hk) wyX4_value tvX4_value_i tvX4_value_s tw_464 kcX4 rfl (ok_1_0 hcl hk) [.int x4, .int 4] [] rfl rfl (Nat.le_of_ble_eq_true rfl) (Nat.le_of_ble_eq_true rfl) (Nat.le_of_ble_eq_true rfl) (stk' := [.int r_2]) rfl dX1_flow_19 rfl ?_
      refine J.iload_n (pc := 22) C dX1_flow_22 rfl 1 rfl ?_
      refine J.icmp_ne (pc := 23) C (tgt := 63) dX1_flow_23 (by decide) hf (fun hf => ?_) (fun hf => ?_)
      · obtain ⟨x4_3, hx_x4_3, hf⟩ := nm_some hf
        refine J.iinc (pc := 63) C (v := x4_3) (loc' := [(4, .int x4_3), (0, .ref (Xad X k)), (1, .int x1), (2, .int x2), (3, .int x3)]) dX1_flow_63 (k := 4) rfl (by rw [hx_x4_3]; rfl) (by decide) rfl ?_
        refine J.goto (pc := 66) C (tgt := 3) dX1_flow_66 (by decide) ?_
        exact J.sub (loc' := [(0, .ref (Xad X k)), (1, .int x1), (2, .int x2), (3, .int x3), (4, .int x4_3)]) [1, 2, 3, 4, 0] rfl (hp.2 _ (Option.some.inj hf).symm)
      · refine J.aload_n (pc := 26) C dX1_flow_26 rfl 0 rfl ?_
        refine J.iload (pc := 27) C dX1_flow_27 4 rfl ?_
        obtain ⟨r_5, h_4, hf⟩ := bnd_some hf
        refine J.callV (pc := 29) C (m_X1_demandAt h_4) hk wyX1_demandAt tvX1_demandAt_i tvX1_demandAt_s tw_486 kcX1 rfl hk [.int x4] [] rfl rfl (Nat.le_of_ble_eq_true rfl) (Nat.le_of_ble_eq_true rfl) (Nat.le_of_ble_eq_true rfl) (stk' := [.int r_5]) rfl dX1_flow_29 rfl ?_
        refine J.istore (pc := 32) C (loc' := [(5, .int r_5), (0, .ref (Xad X k)), (1, .int x1), (2, .int x2), (3, .int x3), (4, .int x4)]) dX1_flow_32 (by decide) rfl ?_
        refine J.aload_n (pc := 34) C dX1_flow_34 rfl 1 rfl ?_
        refine J.getR (pc := 35) C kcX1 hk 3 rfl tw_104 rfl dX1_flow_35 ?_
        refine J.iload (pc := 38) C dX1_flow_38 5 rfl ?_
        refine J.iload_n (pc := 40) C dX1_flow_40 rfl 3 rfl ?_
        refine J.iload_n (pc := 41) C dX1_flow_41 rfl 4 rfl ?_
        refine J.icmp_gt (pc := 42) C (tgt := 50) dX1_flow_42 (by decide) hf (fun hf => ?_) (fun hf => ?_)
        · refine J.iload (pc := 50) C dX1_flow_50 0 rfl ?_
          refine J.i2l (pc := 52) C dX1_flow_52 ?_
          refine J.iload_n (pc := 53) C dX1_flow_53 rfl 4 rfl ?_
          refine J.i2l (pc := 54) C dX1_flow_54 ?_
          refine J.lmul (pc := 55) C dX1_flow_55 ?_
          refine J.iload_n (pc := 56) C dX1_flow_56 rfl 3 rfl ?_
          refine J.i2l (pc := 57) C dX1_flow_57 ?_
          obtain ⟨r_7, h_6, hf⟩ := bnd_some hf
          refine J.callSN (pc := 58) C (m_X8_quotient h_6) trivial wyX8_quotient tsX8_quotient tn_497 [.long ((r_5.toInt64) * (x3.toInt64)), .long (x2.toInt64)] [.int x4, .ref (Xad X (ptr k 3))] rfl rfl (Nat.le_of_ble_eq_true rfl) (Nat.le_of_ble_eq_true rfl) (Nat.le_of_ble_eq_true rfl) (stk' := [.long r_7, .int x4, .ref (Xad X (ptr k 3))]) rfl dX1_flow_58 rfl ?_
          refine J.l2i (pc := 61) C dX1_flow_61 ?_
          exact J.sub (loc' := [(0, .ref (Xad X k)), (1, .int x1), (2, .int x2), (3, .int x3), (4, .int x4)]) [1, 2, 3, 4, 5] rfl (L62 σ x1 x2 x3 x4 (r_7.toInt32) x4 _ hf hp)
        · refine J.iload (pc := 45) C dX1_flow_45 0 rfl ?_
          refine J.goto (pc := 47) C (tgt := 62) dX1_flow_47 (by decide) ?_
          exact J.sub (loc' := [(0, .ref (Xad X k)), (1, .int x1), (2, .int x2), (3, .int x3), (4, .int x4)]) [1, 2, 3, 4, 5] rfl (L62 σ x1 x2 x3 x4 r_5 x4 _ hf hp)
  have hp : t0 = t0 := rfl
  show J X 0 [(0, .ref (Xad X k)), (1, .int x1), (2, .int x2), (3, .int x3)] [] σ
  unfold f_X1_flow at hf
  refine J.iconst (pc := 0) C (v := 0) dX1_flow_0 (by decide) ?_
  refine J.istore (pc := 1) C (loc' := [(4, .int 0), (0, .ref (Xad X k)), (1, .int x1), (2, .int x2), (3, .int x3)]) dX1_flow_1 (by decide) rfl ?_
  exact J.sub (loc' := [(0, .ref (Xad X k)), (1, .int x1), (2, .int x2), (3, .int x3), (4, .int 0)]) [1, 2, 3, 4, 0] rfl (L3 σ x1 x2 x3 0 _ hf hp)
end
section
set_option maxHeartbeats 4000000 in
set_option maxRecDepth 100000 in
theorem m_X1_rise {l : Launch} {n : Nat} {σ : Mem} {k : Nat} {x1 : Int32} {t0 : Mem} (hf : f_X1_rise n σ k x1 = some t0) : Ct l yX1_rise cX1_rise 5 none 2 48 (fun ks => Ok ks k 1) (fun ad => [.ref (ad k), .int x1]) σ (fun _ => none) t0 := by
  refine Ct.of (plainFor_of_name (by decide)) (fun _ => Nat.le_of_ble_eq_true rfl) ?_
  intro X C _ hk hcl hR
  have C : Cx X RX1 cX1_rise 5 none 2 48 := C
  have L2 : ∀ (σ : Mem) (x1 : Int32) (x2 : Int32) (t : Mem), f_X1_rise_L2 n σ k x1 x2 = some t → t = t0 → J X 2 [(0, .ref (Xad X k)), (1, .int x1), (2, .int x2)] [] σ := by
    intro σ x1 x2 t hf hp
    unfold f_X1_rise_L2 at hf
    refine J_iter (JJ := fun (s : Mem × Int32) => J X 2 [(0, .ref (Xad X k)), (1, .int x1), (2, .int (s.2))] [] s.1) (Ps := fun t => t = t0) ?_ n (σ, x2) t hf hp
    clear hf hp
    intro s t hf hp hq
    obtain ⟨σ, x2⟩ := s
    have hp := And.intro hp hq
    clear hq
    have hf : f_X1_rise_B2 n σ k x1 x2 = some t := hf
    show J X 2 [(0, .ref (Xad X k)), (1, .int x1), (2, .int x2)] [] σ
    unfold f_X1_rise_B2 at hf
    refine J.iload_n (pc := 2) C dX1_rise_2 rfl 2 rfl ?_
    refine J.aload_n (pc := 3) C dX1_rise_3 rfl 0 rfl ?_
    refine J.getI (pc := 4) C kcX1 hk 8 rfl tw_113 rfl dX1_rise_4 ?_
    refine J.icmp_ge (pc := 7) C (tgt := 115) dX1_rise_7 (by decide) hf (fun hf => ?_) (fun hf => ?_)
    · exact J.vretM (pc := 115) C hR ((hp.1 _ (Option.some.inj hf).symm)) dX1_rise_115
    · refine J.aload_n (pc := 10) C dX1_rise_10 rfl 0 rfl ?_
      refine J.getR (pc := 11) C kcX1 hk 3 rfl tw_104 rfl dX1_rise_11 ?_
      refine J.iload_n (pc := 14) C dX1_rise_14 rfl 2 rfl ?_
      refine J.iald (pc := 15) C (ok_1_3 hcl hk) hf dX1_rise_15 (fun hf => ?_)
      refine J.i2l (pc := 16) C dX1_rise_16 ?_
      refine J.aload_n (pc := 17) C dX1_rise_17 rfl 0 rfl ?_
      refine J.getR (pc := 18) C kcX1 hk 0 rfl tw_98 rfl dX1_rise_18 ?_
      refine J.iload_n (pc := 21) C dX1_rise_21 rfl 2 rfl ?_
      refine J.iconst (pc := 22) C (v := 0) dX1_rise_22 (by decide) ?_
      obtain ⟨r_2, h_1, hf⟩ := bnd_some hf
      refine J.callV (pc := 23) C (m_X4_value h_1) (ok_1_0 hcl hk) wyX4_value tvX4_value_i tvX4_value_s tw_464 kcX4 rfl (ok_1_0 hcl hk) [.int x2, .int 0] [.long ((σ (ptr k 3) (ix x2)).toInt64)] rfl rfl (Nat.le_of_ble_eq_true rfl) (Nat.le_of_ble_eq_true rfl) (Nat.le_of_ble_eq_true rfl) (stk' := [.int r_2, .long ((σ (ptr k 3) (ix x2)).toInt64)]) rfl dX1_rise_23 rfl ?_
      refine J.i2l (pc := 26) C dX1_rise_26 ?_
      obtain ⟨r_4, h_3, hf⟩ := bnd_some hf
      refine J.callSN (pc := 27) C (m_X8_quotient h_3) trivial wyX8_quotient tsX8_quotient tn_497 [.long ((σ (ptr k 3) (ix x2)).toInt64), .long (r_2.toInt64)] [] rfl rfl (Nat.le_of_ble_eq_true rfl) (Nat.le_of_ble_eq_true rfl) (Nat.le_of_ble_eq_true rfl) (stk' := [.long r_4]) rfl dX1_rise_27 rfl ?_
      refine J.lstore_n (pc := 30) C (loc' := [(3, .long r_4), (0, .ref (Xad X k)), (1, .int x1), (2, .int x2)]) dX1_rise_30 rfl (by decide) rfl ?_
      refine J.aload_n (pc := 31) C dX1_rise_31 rfl 1 rfl ?_
      refine J.getR (pc := 32) C kcX1 hk 4 rfl tw_106 rfl dX1_rise_32 ?_
      refine J.iload_n (pc := 35) C dX1_rise_35 rfl 3 rfl ?_
      refine J.aload_n (pc := 36) C dX1_rise_36 rfl 1 rfl ?_
      refine J.getR (pc := 37) C kcX1 hk 0 rfl tw_98 rfl dX1_rise_37 ?_
      refine J.iload_n (pc := 40) C dX1_rise_40 rfl 3 rfl ?_
      refine J.iconst (pc := 41) C (v := 1) dX1_rise_41 (by decide) ?_
      obtain ⟨r_6, h_5, hf⟩ := bnd_some hf
      refine J.callV (pc := 42) C (m_X4_value h_5) (ok_1_0 hcl hk) wyX4_value tvX4_value_i tvX4_value_s tw_464 kcX4 rfl (ok_1_0 hcl hk) [.int x2, .int 1] [.int x2, .ref (Xad X (ptr k 4))] rfl rfl (Nat.le_of_ble_eq_true rfl) (Nat.le_of_ble_eq_true rfl) (Nat.le_of_ble_eq_true rfl) (stk' := [.int r_6, .int x2, .ref (Xad X (ptr k 4))]) rfl dX1_rise_42 rfl ?_
      refine J.i2l (pc := 45) C dX1_rise_45 ?_
      refine J.lload_n (pc := 46) C dX1_rise_46 rfl 0 rfl ?_
      refine J.lmul (pc := 47) C dX1_rise_47 ?_
      refine J.lload_n (pc := 48) C dX1_rise_48 rfl 0 rfl ?_
      refine J.lmul (pc := 49) C dX1_rise_49 ?_
      refine J.ldc2 (pc := 50) C (v := 1000000) dX1_rise_50 tw_503 ?_
      refine J.ldiv (pc := 53) C dX1_rise_53 (by decide) ?_
      refine J.l2i (pc := 54) C dX1_rise_54 ?_
      refine J.iastM (pc := 55) C (ok_1_4 hcl hk) hf dX1_rise_55 (fun σ_7 hf => ?_)
      refine J.aload_n (pc := 56) C dX1_rise_56 rfl 1 rfl ?_
      refine J.getR (pc := 57) C kcX1 hk 5 rfl tw_108 rfl dX1_rise_57 ?_
      refine J.iload_n (pc := 60) C dX1_rise_60 rfl 3 rfl ?_
      refine J.aload_n (pc := 61) C dX1_rise_61 rfl 1 rfl ?_
      refine J.getR (pc := 62) C kcX1 hk 4 rfl tw_106 rfl dX1_rise_62 ?_
      refine J.iload_n (pc := 65) C dX1_rise_65 rfl 3 rfl ?_
      refine J.iald (pc := 66) C (ok_1_4 hcl hk) hf dX1_rise_66 (fun hf => ?_)
      refine J.i2l (pc := 67) C dX1_rise_67 ?_
      refine J.iload_n (pc := 68) C dX1_rise_68 rfl 2 rfl ?_
      refine J.i2l (pc := 69) C dX1_rise_69 ?_
      refine J.lmul (pc := 70) C dX1_rise_70 ?_
      refine J.aload_n (pc := 71) C dX1_rise_71 rfl 1 rfl ?_
      refine J.getR (pc := 72) C kcX1 hk 0 rfl tw_98 rfl dX1_rise_72 ?_
      refine J.iload_n (pc := 75) C dX1_rise_75 rfl 3 rfl ?_
      refine J.iconst (pc := 76) C (v := 5) dX1_rise_76 (by decide) ?_
      obtain ⟨r_9, h_8, hf⟩ := bnd_some hf
      refine J.callV (pc := 77) C (m_X4_value h_8) (ok_1_0 hcl hk) wyX4_value tvX4_value_i tvX4_value_s tw_464 kcX4 rfl (ok_1_0 hcl hk) [.int x2, .int 5] [.long (((σ_7 (ptr k 4) (ix x2)).toInt64) * (x1.toInt64)), .int x2, .ref (Xad X (ptr k 5))] rfl rfl (Nat.le_of_ble_eq_true rfl) (Nat.le_of_ble_eq_true rfl) (Nat.le_of_ble_eq_true rfl) (stk' := [.int r_9, .long (((σ_7 (ptr k 4) (ix x2)).toInt64) * (x1.toInt64)), .int x2, .ref (Xad X (ptr k 5))]) rfl dX1_rise_77 rfl ?_
      refine J.i2l (pc := 80) C dX1_rise_80 ?_
      refine J.lmul (pc := 81) C dX1_rise_81 ?_
      refine J.ldc2 (pc := 82) C (v := 100000) dX1_rise_82 tw_504 ?_
      refine J.ldiv (pc := 85) C dX1_rise_85 (by decide) ?_
      refine J.l2i (pc := 86) C dX1_rise_86 ?_
      refine J.iastM (pc := 87) C (ok_1_5 hcl hk) hf dX1_rise_87 (fun σ_10 hf => ?_)
      refine J.aload_n (pc := 88) C dX1_rise_88 rfl 1 rfl ?_
      refine J.getR (pc := 89) C kcX1 hk 6 rfl tw_110 rfl dX1_rise_89 ?_
      refine J.iload_n (pc := 92) C dX1_rise_92 rfl 3 rfl ?_
      refine J.aload_n (pc := 93) C dX1_rise_93 rfl 1 rfl ?_
      refine J.getR (pc := 94) C kcX1 hk 6 rfl tw_110 rfl dX1_rise_94 ?_
      refine J.iload_n (pc := 97) C dX1_rise_97 rfl 3 rfl ?_
      refine J.iald (pc := 98) C (ok_1_6 hcl hk) hf dX1_rise_98 (fun hf => ?_)
      refine J.aload_n (pc := 99) C dX1_rise_99 rfl 1 rfl ?_
      refine J.getR (pc := 100) C kcX1 hk 4 rfl tw_106 rfl dX1_rise_100 ?_
      refine J.iload_n (pc := 103) C dX1_rise_103 rfl 3 rfl ?_
      refine J.iald (pc := 104) C (ok_1_4 hcl hk) hf dX1_rise_104 (fun hf => ?_)
      refine J.mmaxI (pc := 105) C tw_469 twm_max_s twm_i twm_max_c (Nat.le_of_ble_eq_true rfl) (Nat.le_of_ble_eq_true rfl) dX1_rise_105 ?_
      refine J.iastM (pc := 108) C (ok_1_6 hcl hk) hf dX1_rise_108 (fun σ_11 hf => ?_)
      obtain ⟨x2_12, hx_x2_12, hf⟩ := nm_some hf
      refine J.iinc (pc := 109) C (v := x2_12) (loc' := [(2, .int x2_12), (3, .long r_4), (0, .ref (Xad X k)), (1, .int x1)]) dX1_rise_109 (k := 3) rfl (by rw [hx_x2_12]; rfl) (by decide) rfl ?_
      refine J.goto (pc := 112) C (tgt := 2) dX1_rise_112 (by decide) ?_
      exact J.sub (loc' := [(0, .ref (Xad X k)), (1, .int x1), (2, .int x2_12)]) [2, 3, 0] rfl (hp.2 _ (Option.some.inj hf).symm)
  have hp : t0 = t0 := rfl
  show J X 0 [(0, .ref (Xad X k)), (1, .int x1)] [] σ
  unfold f_X1_rise at hf
  refine J.iconst (pc := 0) C (v := 0) dX1_rise_0 (by decide) ?_
  refine J.istore_n (pc := 1) C (loc' := [(2, .int 0), (0, .ref (Xad X k)), (1, .int x1)]) dX1_rise_1 rfl (by decide) rfl ?_
  exact J.sub (loc' := [(0, .ref (Xad X k)), (1, .int x1), (2, .int 0)]) [1, 2, 0] rfl (L2 σ x1 0 _ hf hp)
set_option maxHeartbeats 4000000 in
set_option maxRecDepth 100000 in
theorem m_X1_driftsBeyond {l : Launch} {n : Nat} {σ : Mem} {k : Nat} {x1 : Int32} {t0 : Int32} (hf : f_X1_driftsBeyond n σ k x1 = some t0) : Ct l yX1_driftsBeyond cX1_driftsBeyond 3 (some FieldType.boolean) 0 0 (fun ks => Ok ks k 1) (fun ad => [.ref (ad k), .int x1]) σ (fun _ => some (.int t0)) σ := by
  refine Ct.of (plainFor_of_name (by decide)) (fun _ => Nat.le_of_ble_eq_true rfl) ?_
  intro X C _ hk hcl hR
  have C : Cx X RX1 cX1_driftsBeyond 3 (some FieldType.boolean) 0 0 := C
  have L2 : ∀ (x1 : Int32) (x2 : Int32) (t : Int32), f_X1_driftsBeyond_L2 n σ k x1 x2 = some t → t = t0 → J X 2 [(0, .ref (Xad X k)), (1, .int x1), (2, .int x2)] [] σ := by
    intro x1 x2 t hf hp
    unfold f_X1_driftsBeyond_L2 at hf
    refine J_iter (JJ := fun (s : Int32) => J X 2 [(0, .ref (Xad X k)), (1, .int x1), (2, .int s)] [] σ) (Ps := fun t => t = t0) ?_ n x2 t hf hp
    clear hf hp
    intro s t hf hp hq
    obtain ⟨x2, rfl⟩ : ∃ z, z = s := ⟨_, rfl⟩
    have hp := And.intro hp hq
    clear hq
    have hf : f_X1_driftsBeyond_B2 n σ k x1 x2 = some t := hf
    show J X 2 [(0, .ref (Xad X k)), (1, .int x1), (2, .int x2)] [] σ
    unfold f_X1_driftsBeyond_B2 at hf
    refine J.iload_n (pc := 2) C dX1_driftsBeyond_2 rfl 2 rfl ?_
    refine J.aload_n (pc := 3) C dX1_driftsBeyond_3 rfl 0 rfl ?_
    refine J.getI (pc := 4) C kcX1 hk 8 rfl tw_113 rfl dX1_driftsBeyond_4 ?_
    refine J.icmp_ge (pc := 7) C (tgt := 28) dX1_driftsBeyond_7 (by decide) hf (fun hf => ?_) (fun hf => ?_)
    · refine J.iconst (pc := 28) C (v := 0) dX1_driftsBeyond_28 (by decide) ?_
      exact J.zretP (pc := 29) C rfl hR ((hp.1 _ (Option.some.inj hf).symm)) dX1_driftsBeyond_29
    · refine J.aload_n (pc := 10) C dX1_driftsBeyond_10 rfl 0 rfl ?_
      refine J.getR (pc := 11) C kcX1 hk 5 rfl tw_108 rfl dX1_driftsBeyond_11 ?_
      refine J.iload_n (pc := 14) C dX1_driftsBeyond_14 rfl 2 rfl ?_
      refine J.iald (pc := 15) C (ok_1_5 hcl hk) hf dX1_driftsBeyond_15 (fun hf => ?_)
      refine J.iload_n (pc := 16) C dX1_driftsBeyond_16 rfl 1 rfl ?_
      refine J.icmp_le (pc := 17) C (tgt := 22) dX1_driftsBeyond_17 (by decide) hf (fun hf => ?_) (fun hf => ?_)
      · obtain ⟨x2_1, hx_x2_1, hf⟩ := nm_some hf
        refine J.iinc (pc := 22) C (v := x2_1) (loc' := [(2, .int x2_1), (0, .ref (Xad X k)), (1, .int x1)]) dX1_driftsBeyond_22 (k := 2) rfl (by rw [hx_x2_1]; rfl) (by decide) rfl ?_
        refine J.goto (pc := 25) C (tgt := 2) dX1_driftsBeyond_25 (by decide) ?_
        exact J.sub (loc' := [(0, .ref (Xad X k)), (1, .int x1), (2, .int x2_1)]) [1, 2, 0] rfl (hp.2 _ (Option.some.inj hf).symm)
      · refine J.iconst (pc := 20) C (v := 1) dX1_driftsBeyond_20 (by decide) ?_
        exact J.zretP (pc := 21) C rfl hR ((hp.1 _ (Option.some.inj hf).symm)) dX1_driftsBeyond_21
  have hp : t0 = t0 := rfl
  show J X 0 [(0, .ref (Xad X k)), (1, .int x1)] [] σ
  unfold f_X1_driftsBeyond at hf
  refine J.iconst (pc := 0) C (v := 0) dX1_driftsBeyond_0 (by decide) ?_
  refine J.istore_n (pc := 1) C (loc' := [(2, .int 0), (0, .ref (Xad X k)), (1, .int x1)]) dX1_driftsBeyond_1 rfl (by decide) rfl ?_
  exact J.sub (loc' := [(0, .ref (Xad X k)), (1, .int x1), (2, .int 0)]) [1, 2, 0] rfl (L2 x1 0 _ hf hp)
set_option maxHeartbeats 4000000 in
set_option maxRecDepth 100000 in
theorem m_X1_greatestHeightNow {l : Launch} {n : Nat} {σ : Mem} {k : Nat} {t0 : Int32} (hf : f_X1_greatestHeightNow n σ k = some t0) : Ct l yX1_greatestHeightNow cX1_greatestHeightNow 3 (some FieldType.int) 1 13 (fun ks => Ok ks k 1) (fun ad => [.ref (ad k)]) σ (fun _ => some (.int t0)) σ := by
  refine Ct.of (plainFor_of_name (by decide)) (fun _ => Nat.le_of_ble_eq_true rfl) ?_
  intro X C _ hk hcl hR
  have C : Cx X RX1 cX1_greatestHeightNow 3 (some FieldType.int) 1 13 := C
  have L4 : ∀ (x1 : Int32) (x2 : Int32) (t : Int32), f_X1_greatestHeightNow_L4 n σ k x1 x2 = some t → t = t0 → J X 4 [(0, .ref (Xad X k)), (1, .int x1), (2, .int x2)] [] σ := by
    intro x1 x2 t hf hp
    unfold f_X1_greatestHeightNow_L4 at hf
    refine J_iter (JJ := fun (s : Int32 × Int32) => J X 4 [(0, .ref (Xad X k)), (1, .int (s.1)), (2, .int (s.2))] [] σ) (Ps := fun t => t = t0) ?_ n (x1, x2) t hf hp
    clear hf hp
    intro s t hf hp hq
    obtain ⟨x1, x2⟩ := s
    have hp := And.intro hp hq
    clear hq
    have hf : f_X1_greatestHeightNow_B4 n σ k x1 x2 = some t := hf
    show J X 4 [(0, .ref (Xad X k)), (1, .int x1), (2, .int x2)] [] σ
    unfold f_X1_greatestHeightNow_B4 at hf
    refine J.iload_n (pc := 4) C dX1_greatestHeightNow_4 rfl 2 rfl ?_
    refine J.aload_n (pc := 5) C dX1_greatestHeightNow_5 rfl 0 rfl ?_
    refine J.getI (pc := 6) C kcX1 hk 8 rfl tw_113 rfl dX1_greatestHeightNow_6 ?_
    refine J.icmp_ge (pc := 9) C (tgt := 29) dX1_greatestHeightNow_9 (by decide) hf (fun hf => ?_) (fun hf => ?_)
    · refine J.iload_n (pc := 29) C dX1_greatestHeightNow_29 rfl 1 rfl ?_
      exact J.iretP (pc := 30) C hR ((hp.1 _ (Option.some.inj hf).symm)) dX1_greatestHeightNow_30
    · refine J.iload_n (pc := 12) C dX1_greatestHeightNow_12 rfl 1 rfl ?_
      refine J.aload_n (pc := 13) C dX1_greatestHeightNow_13 rfl 0 rfl ?_
      refine J.getR (pc := 14) C kcX1 hk 4 rfl tw_106 rfl dX1_greatestHeightNow_14 ?_
      refine J.iload_n (pc := 17) C dX1_greatestHeightNow_17 rfl 2 rfl ?_
      refine J.iald (pc := 18) C (ok_1_4 hcl hk) hf dX1_greatestHeightNow_18 (fun hf => ?_)
      refine J.mmaxI (pc := 19) C tw_469 twm_max_s twm_i twm_max_c (Nat.le_of_ble_eq_true rfl) (Nat.le_of_ble_eq_true rfl) dX1_greatestHeightNow_19 ?_
      refine J.nmI hf (fun x1_1 hf => ?_)
      refine J.istore_n (pc := 22) C (loc' := [(1, .int x1_1), (0, .ref (Xad X k)), (2, .int x2)]) dX1_greatestHeightNow_22 rfl (by decide) rfl ?_
      obtain ⟨x2_2, hx_x2_2, hf⟩ := nm_some hf
      refine J.iinc (pc := 23) C (v := x2_2) (loc' := [(2, .int x2_2), (1, .int x1_1), (0, .ref (Xad X k))]) dX1_greatestHeightNow_23 (k := 2) rfl (by rw [hx_x2_2]; rfl) (by decide) rfl ?_
      refine J.goto (pc := 26) C (tgt := 4) dX1_greatestHeightNow_26 (by decide) ?_
      exact J.sub (loc' := [(0, .ref (Xad X k)), (1, .int x1_1), (2, .int x2_2)]) [2, 1, 0] rfl (hp.2 _ (Option.some.inj hf).symm)
  have hp : t0 = t0 := rfl
  show J X 0 [(0, .ref (Xad X k))] [] σ
  unfold f_X1_greatestHeightNow at hf
  refine J.iconst (pc := 0) C (v := 0) dX1_greatestHeightNow_0 (by decide) ?_
  refine J.istore_n (pc := 1) C (loc' := [(1, .int 0), (0, .ref (Xad X k))]) dX1_greatestHeightNow_1 rfl (by decide) rfl ?_
  refine J.iconst (pc := 2) C (v := 0) dX1_greatestHeightNow_2 (by decide) ?_
  refine J.istore_n (pc := 3) C (loc' := [(2, .int 0), (1, .int 0), (0, .ref (Xad X k))]) dX1_greatestHeightNow_3 rfl (by decide) rfl ?_
  exact J.sub (loc' := [(0, .ref (Xad X k)), (1, .int 0), (2, .int 0)]) [2, 1, 0] rfl (L4 0 0 _ hf hp)
set_option maxHeartbeats 4000000 in
set_option maxRecDepth 100000 in
theorem m_X2_append {l : Launch} {σ : Mem} {k : Nat} {x1 : Int32} {t0 : (Int32 × Mem)} (hf : f_X2_append σ k x1 = some t0) : Ct l yX2_append cX2_append 2 (some FieldType.int) 0 0 (fun ks => Ok ks k 2) (fun ad => [.ref (ad k), .int x1]) σ (fun _ => some (.int t0.1)) t0.2 := by
  refine Ct.of (plainFor_of_name (by decide)) (fun _ => Nat.le_of_ble_eq_true rfl) ?_
  intro X C _ hk hcl hR
  have C : Cx X RX2 cX2_append 2 (some FieldType.int) 0 0 := C
  have hp : t0 = t0 := rfl
  show J X 0 [(0, .ref (Xad X k)), (1, .int x1)] [] σ
  unfold f_X2_append at hf
  refine J.aload_n (pc := 0) C dX2_append_0 rfl 0 rfl ?_
  refine J.getI (pc := 1) C kcX2 hk 2 rfl tw_276 rfl dX2_append_1 ?_
  refine J.bipush (pc := 4) C (v := 80) dX2_append_4 (by decide) ?_
  refine J.icmp_lt (pc := 6) C (tgt := 12) dX2_append_6 (by decide) hf (fun hf => ?_) (fun hf => ?_)
  · refine J.aload_n (pc := 12) C dX2_append_12 rfl 0 rfl ?_
    refine J.getR (pc := 13) C kcX2 hk 1 rfl tw_275 rfl dX2_append_13 ?_
    refine J.aload_n (pc := 16) C dX2_append_16 rfl 0 rfl ?_
    refine J.getI (pc := 17) C kcX2 hk 2 rfl tw_276 rfl dX2_append_17 ?_
    refine J.iload_n (pc := 20) C dX2_append_20 rfl 1 rfl ?_
    refine J.castM (pc := 21) C (ok_2_1 hcl hk) hf dX2_append_21 (fun σ_1 hf => ?_)
    refine J.aload_n (pc := 22) C dX2_append_22 rfl 0 rfl ?_
    refine J.dup (pc := 23) C dX2_append_23 rfl ?_
    refine J.getI (pc := 24) C kcX2 hk 2 rfl tw_276 rfl dX2_append_24 ?_
    refine J.iconst (pc := 27) C (v := 1) dX2_append_27 (by decide) ?_
    refine J.iadd (pc := 28) C dX2_append_28 ?_
    refine J.putM (pc := 29) C kcX2 hk 2 rfl tw_276 rfl rfl rfl rfl hf dX2_append_29 (fun σ_2 hf => ?_)
    refine J.aload_n (pc := 32) C dX2_append_32 rfl 0 rfl ?_
    refine J.getI (pc := 33) C kcX2 hk 2 rfl tw_276 rfl dX2_append_33 ?_
    exact J.iretM (pc := 36) C hR ((Option.some.inj hf).trans hp) dX2_append_36
  · refine J.bipush (pc := 9) C (v := (-4)) dX2_append_9 (by decide) ?_
    exact J.iretM (pc := 11) C hR ((Option.some.inj hf).trans hp) dX2_append_11
set_option maxHeartbeats 4000000 in
set_option maxRecDepth 100000 in
theorem m_X2_endsCue {l : Launch} {n : Nat} {σ : Mem} {k : Nat} {t0 : (Int32 × Mem)} (hf : f_X2_endsCue n σ k = some t0) : Ct l yX2_endsCue cX2_endsCue 1 (some FieldType.boolean) 3 65 (fun ks => Ok ks k 2) (fun ad => [.ref (ad k)]) σ (fun _ => some (.int t0.1)) t0.2 := by
  refine Ct.of (plainFor_of_name (by decide)) (fun _ => Nat.le_of_ble_eq_true rfl) ?_
  intro X C _ hk hcl hR
  have C : Cx X RX2 cX2_endsCue 1 (some FieldType.boolean) 3 65 := C
  have hp : t0 = t0 := rfl
  show J X 0 [(0, .ref (Xad X k))] [] σ
  unfold f_X2_endsCue at hf
  refine J.aload_n (pc := 0) C dX2_endsCue_0 rfl 0 rfl ?_
  refine J.getI (pc := 1) C kcX2 hk 3 rfl tw_278 rfl dX2_endsCue_1 ?_
  refine J.iconst (pc := 4) C (v := 2) dX2_endsCue_4 (by decide) ?_
  refine J.icmp_ne (pc := 5) C (tgt := 16) dX2_endsCue_5 (by decide) hf (fun hf => ?_) (fun hf => ?_)
  · refine J.iconst (pc := 16) C (v := 0) dX2_endsCue_16 (by decide) ?_
    exact J.zretM (pc := 17) C rfl hR ((Option.some.inj hf).trans hp) dX2_endsCue_17
  · refine J.aload_n (pc := 8) C dX2_endsCue_8 rfl 0 rfl ?_
    refine J.getI (pc := 9) C kcX2 hk 6 rfl tw_281 rfl dX2_endsCue_9 ?_
    refine J.iconst (pc := 12) C (v := (-1)) dX2_endsCue_12 (by decide) ?_
    refine J.icmp_ne (pc := 13) C (tgt := 18) dX2_endsCue_13 (by decide) hf (fun hf => ?_) (fun hf => ?_)
    · refine J.aload_n (pc := 18) C dX2_endsCue_18 rfl 0 rfl ?_
      refine J.getR (pc := 19) C kcX2 hk 0 rfl tw_273 rfl dX2_endsCue_19 ?_
      refine J.aload_n (pc := 22) C dX2_endsCue_22 rfl 0 rfl ?_
      refine J.getI (pc := 23) C kcX2 hk 4 rfl tw_279 rfl dX2_endsCue_23 ?_
      refine J.aload_n (pc := 26) C dX2_endsCue_26 rfl 0 rfl ?_
      refine J.getI (pc := 27) C kcX2 hk 5 rfl tw_280 rfl dX2_endsCue_27 ?_
      refine J.aload_n (pc := 30) C dX2_endsCue_30 rfl 0 rfl ?_
      refine J.getI (pc := 31) C kcX2 hk 6 rfl tw_281 rfl dX2_endsCue_31 ?_
      obtain ⟨r_2, σ_3, h_1, hf⟩ := bnd2_some hf
      refine J.callV (pc := 34) C (m_X0_insert h_1) (ok_2_0 hcl hk) wyX0_insert tvX0_insert_i tvX0_insert_s tw_740 kcX0 rfl (ok_2_0 hcl hk) [.int (σ k 4), .int (σ k 5), .int (σ k 6)] [] rfl rfl (Nat.le_of_ble_eq_true rfl) (Nat.le_of_ble_eq_true rfl) (Nat.le_of_ble_eq_true rfl) (stk' := [.int r_2]) rfl dX2_endsCue_34 rfl ?_
      refine J.pop (pc := 37) C dX2_endsCue_37 rfl ?_
      refine J.aload_n (pc := 38) C dX2_endsCue_38 rfl 0 rfl ?_
      refine J.iconst (pc := 39) C (v := (-1)) dX2_endsCue_39 (by decide) ?_
      refine J.putM (pc := 40) C kcX2 hk 6 rfl tw_281 rfl rfl rfl rfl hf dX2_endsCue_40 (fun σ_4 hf => ?_)
      refine J.aload_n (pc := 43) C dX2_endsCue_43 rfl 0 rfl ?_
      refine J.iconst (pc := 44) C (v := 0) dX2_endsCue_44 (by decide) ?_
      refine J.putM (pc := 45) C kcX2 hk 3 rfl tw_278 rfl rfl rfl rfl hf dX2_endsCue_45 (fun σ_5 hf => ?_)
      refine J.iconst (pc := 48) C (v := 1) dX2_endsCue_48 (by decide) ?_
      exact J.zretM (pc := 49) C rfl hR ((Option.some.inj hf).trans hp) dX2_endsCue_49
    · refine J.iconst (pc := 16) C (v := 0) dX2_endsCue_16 (by decide) ?_
      exact J.zretM (pc := 17) C rfl hR ((Option.some.inj hf).trans hp) dX2_endsCue_17
set_option maxHeartbeats 4000000 in
set_option maxRecDepth 100000 in
theorem m_X2_endsSet {l : Launch} {σ : Mem} {k : Nat} {t0 : (Int32 × Mem)} (hf : f_X2_endsSet σ k = some t0) : Ct l yX2_endsSet cX2_endsSet 1 (some FieldType.boolean) 0 0 (fun ks => Ok ks k 2) (fun ad => [.ref (ad k)]) σ (fun _ => some (.int t0.1)) t0.2 := by
  refine Ct.of (plainFor_of_name (by decide)) (fun _ => Nat.le_of_ble_eq_true rfl) ?_
  intro X C _ hk hcl hR
  have C : Cx X RX2 cX2_endsSet 1 (some FieldType.boolean) 0 0 := C
  have hp : t0 = t0 := rfl
  show J X 0 [(0, .ref (Xad X k))] [] σ
  unfold f_X2_endsSet at hf
  refine J.aload_n (pc := 0) C dX2_endsSet_0 rfl 0 rfl ?_
  refine J.iconst (pc := 1) C (v := (-1)) dX2_endsSet_1 (by decide) ?_
  refine J.putM (pc := 2) C kcX2 hk 6 rfl tw_281 rfl rfl rfl rfl hf dX2_endsSet_2 (fun σ_1 hf => ?_)
  refine J.aload_n (pc := 5) C dX2_endsSet_5 rfl 0 rfl ?_
  refine J.iconst (pc := 6) C (v := 2) dX2_endsSet_6 (by decide) ?_
  refine J.putM (pc := 7) C kcX2 hk 3 rfl tw_278 rfl rfl rfl rfl hf dX2_endsSet_7 (fun σ_2 hf => ?_)
  refine J.aload_n (pc := 10) C dX2_endsSet_10 rfl 0 rfl ?_
  refine J.getI (pc := 11) C kcX2 hk 5 rfl tw_280 rfl dX2_endsSet_11 ?_
  refine J.if_eq (pc := 14) C (tgt := 21) dX2_endsSet_14 (by decide) hf (fun hf => ?_) (fun hf => ?_)
  · refine J.iconst (pc := 21) C (v := 0) dX2_endsSet_21 (by decide) ?_
    exact J.zretM (pc := 22) C rfl hR ((Option.some.inj hf).trans hp) dX2_endsSet_22
  · refine J.iconst (pc := 17) C (v := 1) dX2_endsSet_17 (by decide) ?_
    refine J.goto (pc := 18) C (tgt := 22) dX2_endsSet_18 (by decide) ?_
    exact J.zretM (pc := 22) C rfl hR ((Option.some.inj hf).trans hp) dX2_endsSet_22
set_option maxHeartbeats 4000000 in
set_option maxRecDepth 100000 in
theorem m_X2_endsTime {l : Launch} {σ : Mem} {k : Nat} {t0 : (Int32 × Mem)} (hf : f_X2_endsTime σ k = some t0) : Ct l yX2_endsTime cX2_endsTime 1 (some FieldType.boolean) 0 0 (fun ks => Ok ks k 2) (fun ad => [.ref (ad k)]) σ (fun _ => some (.int t0.1)) t0.2 := by
  refine Ct.of (plainFor_of_name (by decide)) (fun _ => Nat.le_of_ble_eq_true rfl) ?_
  intro X C _ hk hcl hR
  have C : Cx X RX2 cX2_endsTime 1 (some FieldType.boolean) 0 0 := C
  have hp : t0 = t0 := rfl
  show J X 0 [(0, .ref (Xad X k))] [] σ
  unfold f_X2_endsTime at hf
  refine J.aload_n (pc := 0) C dX2_endsTime_0 rfl 0 rfl ?_
  refine J.aload_n (pc := 1) C dX2_endsTime_1 rfl 0 rfl ?_
  refine J.getI (pc := 2) C kcX2 hk 6 rfl tw_281 rfl dX2_endsTime_2 ?_
  refine J.putM (pc := 5) C kcX2 hk 4 rfl tw_279 rfl rfl rfl rfl hf dX2_endsTime_5 (fun σ_1 hf => ?_)
  refine J.aload_n (pc := 8) C dX2_endsTime_8 rfl 0 rfl ?_
  refine J.iconst (pc := 9) C (v := 0) dX2_endsTime_9 (by decide) ?_
  refine J.putM (pc := 10) C kcX2 hk 5 rfl tw_280 rfl rfl rfl rfl hf dX2_endsTime_10 (fun σ_2 hf => ?_)
  refine J.aload_n (pc := 13) C dX2_endsTime_13 rfl 0 rfl ?_
  refine J.iconst (pc := 14) C (v := 1) dX2_endsTime_14 (by decide) ?_
  refine J.putM (pc := 15) C kcX2 hk 3 rfl tw_278 rfl rfl rfl rfl hf dX2_endsTime_15 (fun σ_3 hf => ?_)
  refine J.aload_n (pc := 18) C dX2_endsTime_18 rfl 0 rfl ?_
  refine J.getI (pc := 19) C kcX2 hk 6 rfl tw_281 rfl dX2_endsTime_19 ?_
  refine J.iconst (pc := 22) C (v := (-1)) dX2_endsTime_22 (by decide) ?_
  refine J.icmp_eq (pc := 23) C (tgt := 30) dX2_endsTime_23 (by decide) hf (fun hf => ?_) (fun hf => ?_)
  · refine J.iconst (pc := 30) C (v := 0) dX2_endsTime_30 (by decide) ?_
    exact J.zretM (pc := 31) C rfl hR ((Option.some.inj hf).trans hp) dX2_endsTime_31
  · refine J.iconst (pc := 26) C (v := 1) dX2_endsTime_26 (by decide) ?_
    refine J.goto (pc := 27) C (tgt := 31) dX2_endsTime_27 (by decide) ?_
    exact J.zretM (pc := 31) C rfl hR ((Option.some.inj hf).trans hp) dX2_endsTime_31
set_option maxHeartbeats 4000000 in
set_option maxRecDepth 100000 in
theorem m_X2_isDigitUpTo {l : Launch} {σ : Mem} {k : Nat} {x1 : Int32} {x2 : Int32} {t0 : (Int32 × Mem)} (hf : f_X2_isDigitUpTo σ k x1 x2 = some t0) : Ct l yX2_isDigitUpTo cX2_isDigitUpTo 4 (some FieldType.boolean) 0 0 (fun ks => Ok ks k 2) (fun ad => [.ref (ad k), .int x1, .int x2]) σ (fun _ => some (.int t0.1)) t0.2 := by
  refine Ct.of (plainFor_of_name (by decide)) (fun _ => Nat.le_of_ble_eq_true rfl) ?_
  intro X C _ hk hcl hR
  have C : Cx X RX2 cX2_isDigitUpTo 4 (some FieldType.boolean) 0 0 := C
  have L48 : ∀ (σ : Mem) (x1 : Int32) (y0 : Int32) (t : (Int32 × Mem)), f_X2_isDigitUpTo_L48 σ k x1 y0 = some t → t = t0 → J X 48 [(0, .ref (Xad X k)), (1, .int x1)] [.int y0, .ref (Xad X k)] σ := by
    intro σ x1 y0 t hf hp
    unfold f_X2_isDigitUpTo_L48 at hf
    refine J.putM (pc := 48) C kcX2 hk 6 rfl tw_281 rfl rfl rfl rfl hf dX2_isDigitUpTo_48 (fun σ_2 hf => ?_)
    refine J.aload_n (pc := 51) C dX2_isDigitUpTo_51 rfl 0 rfl ?_
    refine J.getI (pc := 52) C kcX2 hk 6 rfl tw_281 rfl dX2_isDigitUpTo_52 ?_
    refine J.iload_n (pc := 55) C dX2_isDigitUpTo_55 rfl 1 rfl ?_
    refine J.icmp_gt (pc := 56) C (tgt := 63) dX2_isDigitUpTo_56 (by decide) hf (fun hf => ?_) (fun hf => ?_)
    · refine J.iconst (pc := 63) C (v := 0) dX2_isDigitUpTo_63 (by decide) ?_
      exact J.zretM (pc := 64) C rfl hR ((Option.some.inj hf).trans hp) dX2_isDigitUpTo_64
    · refine J.iconst (pc := 59) C (v := 1) dX2_isDigitUpTo_59 (by decide) ?_
      refine J.goto (pc := 60) C (tgt := 64) dX2_isDigitUpTo_60 (by decide) ?_
      exact J.zretM (pc := 64) C rfl hR ((Option.some.inj hf).trans hp) dX2_isDigitUpTo_64
  have hp : t0 = t0 := rfl
  show J X 0 [(0, .ref (Xad X k)), (1, .int x1), (2, .int x2)] [] σ
  unfold f_X2_isDigitUpTo at hf
  refine J.iload_n (pc := 0) C dX2_isDigitUpTo_0 rfl 2 rfl ?_
  refine J.bipush (pc := 1) C (v := 48) dX2_isDigitUpTo_1 (by decide) ?_
  refine J.icmp_lt (pc := 3) C (tgt := 19) dX2_isDigitUpTo_3 (by decide) hf (fun hf => ?_) (fun hf => ?_)
  · refine J.iconst (pc := 19) C (v := 0) dX2_isDigitUpTo_19 (by decide) ?_
    exact J.zretM (pc := 20) C rfl hR ((Option.some.inj hf).trans hp) dX2_isDigitUpTo_20
  · refine J.iload_n (pc := 6) C dX2_isDigitUpTo_6 rfl 2 rfl ?_
    refine J.bipush (pc := 7) C (v := 57) dX2_isDigitUpTo_7 (by decide) ?_
    refine J.icmp_gt (pc := 9) C (tgt := 19) dX2_isDigitUpTo_9 (by decide) hf (fun hf => ?_) (fun hf => ?_)
    · refine J.iconst (pc := 19) C (v := 0) dX2_isDigitUpTo_19 (by decide) ?_
      exact J.zretM (pc := 20) C rfl hR ((Option.some.inj hf).trans hp) dX2_isDigitUpTo_20
    · refine J.aload_n (pc := 12) C dX2_isDigitUpTo_12 rfl 0 rfl ?_
      refine J.getI (pc := 13) C kcX2 hk 6 rfl tw_281 rfl dX2_isDigitUpTo_13 ?_
      refine J.if_ne (pc := 16) C (tgt := 21) dX2_isDigitUpTo_16 (by decide) hf (fun hf => ?_) (fun hf => ?_)
      · refine J.iload_n (pc := 21) C dX2_isDigitUpTo_21 rfl 2 rfl ?_
        refine J.bipush (pc := 22) C (v := 48) dX2_isDigitUpTo_22 (by decide) ?_
        refine J.isub (pc := 24) C dX2_isDigitUpTo_24 ?_
        refine J.nmI hf (fun x3_1 hf => ?_)
        refine J.istore_n (pc := 25) C (loc' := [(3, .int x3_1), (0, .ref (Xad X k)), (1, .int x1), (2, .int x2)]) dX2_isDigitUpTo_25 rfl (by decide) rfl ?_
        refine J.aload_n (pc := 26) C dX2_isDigitUpTo_26 rfl 1 rfl ?_
        refine J.aload_n (pc := 27) C dX2_isDigitUpTo_27 rfl 1 rfl ?_
        refine J.getI (pc := 28) C kcX2 hk 6 rfl tw_281 rfl dX2_isDigitUpTo_28 ?_
        refine J.iconst (pc := 31) C (v := (-1)) dX2_isDigitUpTo_31 (by decide) ?_
        refine J.icmp_ne (pc := 32) C (tgt := 39) dX2_isDigitUpTo_32 (by decide) hf (fun hf => ?_) (fun hf => ?_)
        · refine J.bipush (pc := 39) C (v := 10) dX2_isDigitUpTo_39 (by decide) ?_
          refine J.aload_n (pc := 41) C dX2_isDigitUpTo_41 rfl 1 rfl ?_
          refine J.getI (pc := 42) C kcX2 hk 6 rfl tw_281 rfl dX2_isDigitUpTo_42 ?_
          refine J.imul (pc := 45) C dX2_isDigitUpTo_45 ?_
          refine J.iload_n (pc := 46) C dX2_isDigitUpTo_46 rfl 0 rfl ?_
          refine J.iadd (pc := 47) C dX2_isDigitUpTo_47 ?_
          exact J.sub (loc' := [(0, .ref (Xad X k)), (1, .int x1)]) [1, 2] rfl (L48 σ x1 ((10 * (σ k 6)) + x3_1) _ hf hp)
        · refine J.iload_n (pc := 35) C dX2_isDigitUpTo_35 rfl 0 rfl ?_
          refine J.goto (pc := 36) C (tgt := 48) dX2_isDigitUpTo_36 (by decide) ?_
          exact J.sub (loc' := [(0, .ref (Xad X k)), (1, .int x1)]) [1, 2] rfl (L48 σ x1 x3_1 _ hf hp)
      · refine J.iconst (pc := 19) C (v := 0) dX2_isDigitUpTo_19 (by decide) ?_
        exact J.zretM (pc := 20) C rfl hR ((Option.some.inj hf).trans hp) dX2_isDigitUpTo_20
set_option maxHeartbeats 4000000 in
set_option maxRecDepth 100000 in
theorem m_X2_isLetter {l : Launch} {σ : Mem} {k : Nat} {x1 : Int32} {t0 : (Int32 × Mem)} (hf : f_X2_isLetter σ k x1 = some t0) : Ct l yX2_isLetter cX2_isLetter 4 (some FieldType.boolean) 0 0 (fun ks => Ok ks k 2) (fun ad => [.ref (ad k), .int x1]) σ (fun _ => some (.int t0.1)) t0.2 := by
  refine Ct.of (plainFor_of_name (by decide)) (fun _ => Nat.le_of_ble_eq_true rfl) ?_
  intro X C _ hk hcl hR
  have C : Cx X RX2 cX2_isLetter 4 (some FieldType.boolean) 0 0 := C
  have L34 : ∀ (σ : Mem) (x2 : Int32) (y0 : Int32) (t : (Int32 × Mem)), f_X2_isLetter_L34 σ k x2 y0 = some t → t = t0 → J X 34 [(0, .ref (Xad X k)), (2, .int x2)] [.int y0] σ := by
    intro σ x2 y0 t hf hp
    unfold f_X2_isLetter_L34 at hf
    refine J.istore_n (pc := 34) C (loc' := [(3, .int y0), (0, .ref (Xad X k)), (2, .int x2)]) dX2_isLetter_34 rfl (by decide) rfl ?_
    refine J.aload_n (pc := 35) C dX2_isLetter_35 rfl 1 rfl ?_
    refine J.dup (pc := 36) C dX2_isLetter_36 rfl ?_
    refine J.getI (pc := 37) C kcX2 hk 5 rfl tw_280 rfl dX2_isLetter_37 ?_
    refine J.iload_n (pc := 40) C dX2_isLetter_40 rfl 2 rfl ?_
    refine J.ior (pc := 41) C dX2_isLetter_41 ?_
    refine J.putM (pc := 42) C kcX2 hk 5 rfl tw_280 rfl rfl rfl rfl hf dX2_isLetter_42 (fun σ_2 hf => ?_)
    refine J.iload_n (pc := 45) C dX2_isLetter_45 rfl 0 rfl ?_
    obtain ⟨hbit, hf⟩ := chk_some hf
    exact J.zretM (pc := 46) C (bit_nar hbit) hR ((Option.some.inj hf).trans hp) dX2_isLetter_46
  have hp : t0 = t0 := rfl
  show J X 0 [(0, .ref (Xad X k)), (1, .int x1)] [] σ
  unfold f_X2_isLetter at hf
  refine J.iload_n (pc := 0) C dX2_isLetter_0 rfl 1 rfl ?_
  refine J.bipush (pc := 1) C (v := 97) dX2_isLetter_1 (by decide) ?_
  refine J.icmp_lt (pc := 3) C (tgt := 12) dX2_isLetter_3 (by decide) hf (fun hf => ?_) (fun hf => ?_)
  · refine J.iconst (pc := 12) C (v := 0) dX2_isLetter_12 (by decide) ?_
    exact J.zretM (pc := 13) C rfl hR ((Option.some.inj hf).trans hp) dX2_isLetter_13
  · refine J.iload_n (pc := 6) C dX2_isLetter_6 rfl 1 rfl ?_
    refine J.bipush (pc := 7) C (v := 108) dX2_isLetter_7 (by decide) ?_
    refine J.icmp_le (pc := 9) C (tgt := 14) dX2_isLetter_9 (by decide) hf (fun hf => ?_) (fun hf => ?_)
    · refine J.iconst (pc := 14) C (v := 1) dX2_isLetter_14 (by decide) ?_
      refine J.iload_n (pc := 15) C dX2_isLetter_15 rfl 1 rfl ?_
      refine J.bipush (pc := 16) C (v := 97) dX2_isLetter_16 (by decide) ?_
      refine J.isub (pc := 18) C dX2_isLetter_18 ?_
      refine J.ishl (pc := 19) C dX2_isLetter_19 ?_
      refine J.nmI hf (fun x2_1 hf => ?_)
      refine J.istore_n (pc := 20) C (loc' := [(2, .int x2_1), (0, .ref (Xad X k)), (1, .int x1)]) dX2_isLetter_20 rfl (by decide) rfl ?_
      refine J.iload_n (pc := 21) C dX2_isLetter_21 rfl 0 rfl ?_
      refine J.aload_n (pc := 22) C dX2_isLetter_22 rfl 1 rfl ?_
      refine J.getI (pc := 23) C kcX2 hk 5 rfl tw_280 rfl dX2_isLetter_23 ?_
      refine J.icmp_le (pc := 26) C (tgt := 33) dX2_isLetter_26 (by decide) hf (fun hf => ?_) (fun hf => ?_)
      · refine J.iconst (pc := 33) C (v := 0) dX2_isLetter_33 (by decide) ?_
        exact J.sub (loc' := [(0, .ref (Xad X k)), (2, .int x2_1)]) [1, 0] rfl (L34 σ x2_1 0 _ hf hp)
      · refine J.iconst (pc := 29) C (v := 1) dX2_isLetter_29 (by decide) ?_
        refine J.goto (pc := 30) C (tgt := 34) dX2_isLetter_30 (by decide) ?_
        exact J.sub (loc' := [(0, .ref (Xad X k)), (2, .int x2_1)]) [1, 0] rfl (L34 σ x2_1 1 _ hf hp)
    · refine J.iconst (pc := 12) C (v := 0) dX2_isLetter_12 (by decide) ?_
      exact J.zretM (pc := 13) C rfl hR ((Option.some.inj hf).trans hp) dX2_isLetter_13
set_option maxHeartbeats 4000000 in
set_option maxRecDepth 100000 in
theorem m_X2_accepts {l : Launch} {n : Nat} {σ : Mem} {k : Nat} {x1 : Int32} {t0 : (Int32 × Mem)} (hf : f_X2_accepts n σ k x1 = some t0) : Ct l yX2_accepts cX2_accepts 2 (some FieldType.boolean) 4 85 (fun ks => Ok ks k 2) (fun ad => [.ref (ad k), .int x1]) σ (fun _ => some (.int t0.1)) t0.2 := by
  refine Ct.of (plainFor_of_name (by decide)) (fun _ => Nat.le_of_ble_eq_true rfl) ?_
  intro X C _ hk hcl hR
  have C : Cx X RX2 cX2_accepts 2 (some FieldType.boolean) 4 85 := C
  have hp : t0 = t0 := rfl
  show J X 0 [(0, .ref (Xad X k)), (1, .int x1)] [] σ
  unfold f_X2_accepts at hf
  refine J.aload_n (pc := 0) C dX2_accepts_0 rfl 0 rfl ?_
  refine J.getI (pc := 1) C kcX2 hk 3 rfl tw_278 rfl dX2_accepts_1 ?_
  refine J.nmI hf (fun z_1 hf => ?_)
  refine J.look2 (pc := 4) C dX2_accepts_4 (v0 := 0) (v1 := 1) rfl (by decide) (by decide) (by decide) (tgt0 := 32) (tgt1 := 54) (tgtd := 73) (by decide) (by decide) (by decide) hf (fun hf => ?_) (fun hf => ?_) (fun hf => ?_)
  · refine J.iload_n (pc := 32) C dX2_accepts_32 rfl 1 rfl ?_
    refine J.bipush (pc := 33) C (v := 58) dX2_accepts_33 (by decide) ?_
    refine J.icmp_ne (pc := 35) C (tgt := 45) dX2_accepts_35 (by decide) hf (fun hf => ?_) (fun hf => ?_)
    · refine J.aload_n (pc := 45) C dX2_accepts_45 rfl 0 rfl ?_
      refine J.sipush (pc := 46) C (v := 9999) dX2_accepts_46 (by decide) ?_
      refine J.iload_n (pc := 49) C dX2_accepts_49 rfl 1 rfl ?_
      obtain ⟨r_3, σ_4, h_2, hf⟩ := bnd2_some hf
      refine J.callV (pc := 50) C (m_X2_isDigitUpTo h_2) hk wyX2_isDigitUpTo tvX2_isDigitUpTo_i tvX2_isDigitUpTo_s tw_724 kcX2 rfl hk [.int 9999, .int x1] [] rfl rfl (Nat.le_of_ble_eq_true rfl) (Nat.le_of_ble_eq_true rfl) (Nat.le_of_ble_eq_true rfl) (stk' := [.int r_3]) rfl dX2_accepts_50 rfl ?_
      obtain ⟨hbit, hf⟩ := chk_some hf
      exact J.zretM (pc := 53) C (bit_nar hbit) hR ((Option.some.inj hf).trans hp) dX2_accepts_53
    · refine J.aload_n (pc := 38) C dX2_accepts_38 rfl 0 rfl ?_
      obtain ⟨r_6, σ_7, h_5, hf⟩ := bnd2_some hf
      refine J.callV (pc := 39) C (m_X2_endsTime h_5) hk wyX2_endsTime tvX2_endsTime_i tvX2_endsTime_s tw_720 kcX2 rfl hk [] [] rfl rfl (Nat.le_of_ble_eq_true rfl) (Nat.le_of_ble_eq_true rfl) (Nat.le_of_ble_eq_true rfl) (stk' := [.int r_6]) rfl dX2_accepts_39 rfl ?_
      refine J.goto (pc := 42) C (tgt := 53) dX2_accepts_42 (by decide) ?_
      obtain ⟨hbit, hf⟩ := chk_some hf
      exact J.zretM (pc := 53) C (bit_nar hbit) hR ((Option.some.inj hf).trans hp) dX2_accepts_53
  · refine J.iload_n (pc := 54) C dX2_accepts_54 rfl 1 rfl ?_
    refine J.bipush (pc := 55) C (v := 61) dX2_accepts_55 (by decide) ?_
    refine J.icmp_ne (pc := 57) C (tgt := 67) dX2_accepts_57 (by decide) hf (fun hf => ?_) (fun hf => ?_)
    · refine J.aload_n (pc := 67) C dX2_accepts_67 rfl 0 rfl ?_
      refine J.iload_n (pc := 68) C dX2_accepts_68 rfl 1 rfl ?_
      obtain ⟨r_9, σ_10, h_8, hf⟩ := bnd2_some hf
      refine J.callV (pc := 69) C (m_X2_isLetter h_8) hk wyX2_isLetter tvX2_isLetter_i tvX2_isLetter_s tw_732 kcX2 rfl hk [.int x1] [] rfl rfl (Nat.le_of_ble_eq_true rfl) (Nat.le_of_ble_eq_true rfl) (Nat.le_of_ble_eq_true rfl) (stk' := [.int r_9]) rfl dX2_accepts_69 rfl ?_
      obtain ⟨hbit, hf⟩ := chk_some hf
      exact J.zretM (pc := 72) C (bit_nar hbit) hR ((Option.some.inj hf).trans hp) dX2_accepts_72
    · refine J.aload_n (pc := 60) C dX2_accepts_60 rfl 0 rfl ?_
      obtain ⟨r_12, σ_13, h_11, hf⟩ := bnd2_some hf
      refine J.callV (pc := 61) C (m_X2_endsSet h_11) hk wyX2_endsSet tvX2_endsSet_i tvX2_endsSet_s tw_728 kcX2 rfl hk [] [] rfl rfl (Nat.le_of_ble_eq_true rfl) (Nat.le_of_ble_eq_true rfl) (Nat.le_of_ble_eq_true rfl) (stk' := [.int r_12]) rfl dX2_accepts_61 rfl ?_
      refine J.goto (pc := 64) C (tgt := 72) dX2_accepts_64 (by decide) ?_
      obtain ⟨hbit, hf⟩ := chk_some hf
      exact J.zretM (pc := 72) C (bit_nar hbit) hR ((Option.some.inj hf).trans hp) dX2_accepts_72
  · refine J.iload_n (pc := 73) C dX2_accepts_73 rfl 1 rfl ?_
    refine J.bipush (pc := 74) C (v := 44) dX2_accepts_74 (by decide) ?_
    refine J.icmp_ne (pc := 76) C (tgt := 86) dX2_accepts_76 (by decide) hf (fun hf => ?_) (fun hf => ?_)
    · refine J.aload_n (pc := 86) C dX2_accepts_86 rfl 0 rfl ?_
      refine J.sipush (pc := 87) C (v := 1000) dX2_accepts_87 (by decide) ?_
      refine J.iload_n (pc := 90) C dX2_accepts_90 rfl 1 rfl ?_
      obtain ⟨r_15, σ_16, h_14, hf⟩ := bnd2_some hf
      refine J.callV (pc := 91) C (m_X2_isDigitUpTo h_14) hk wyX2_isDigitUpTo tvX2_isDigitUpTo_i tvX2_isDigitUpTo_s tw_724 kcX2 rfl hk [.int 1000, .int x1] [] rfl rfl (Nat.le_of_ble_eq_true rfl) (Nat.le_of_ble_eq_true rfl) (Nat.le_of_ble_eq_true rfl) (stk' := [.int r_15]) rfl dX2_accepts_91 rfl ?_
      obtain ⟨hbit, hf⟩ := chk_some hf
      exact J.zretM (pc := 94) C (bit_nar hbit) hR ((Option.some.inj hf).trans hp) dX2_accepts_94
    · refine J.aload_n (pc := 79) C dX2_accepts_79 rfl 0 rfl ?_
      obtain ⟨r_18, σ_19, h_17, hf⟩ := bnd2_some hf
      refine J.callV (pc := 80) C (m_X2_endsCue h_17) hk wyX2_endsCue tvX2_endsCue_i tvX2_endsCue_s tw_736 kcX2 rfl hk [] [] rfl rfl (Nat.le_of_ble_eq_true rfl) (Nat.le_of_ble_eq_true rfl) (Nat.le_of_ble_eq_true rfl) (stk' := [.int r_18]) rfl dX2_accepts_80 rfl ?_
      refine J.goto (pc := 83) C (tgt := 94) dX2_accepts_83 (by decide) ?_
      obtain ⟨hbit, hf⟩ := chk_some hf
      exact J.zretM (pc := 94) C (bit_nar hbit) hR ((Option.some.inj hf).trans hp) dX2_accepts_94
set_option maxHeartbeats 4000000 in
set_option maxRecDepth 100000 in
theorem m_X2_findFault {l : Launch} {n : Nat} {σ : Mem} {k : Nat} {t0 : (Int32 × Mem)} (hf : f_X2_findFault n σ k = some t0) : Ct l yX2_findFault cX2_findFault 2 (some FieldType.int) 5 106 (fun ks => Ok ks k 2) (fun ad => [.ref (ad k)]) σ (fun _ => some (.int t0.1)) t0.2 := by
  refine Ct.of (plainFor_of_name (by decide)) (fun _ => Nat.le_of_ble_eq_true rfl) ?_
  intro X C _ hk hcl hR
  have C : Cx X RX2 cX2_findFault 2 (some FieldType.int) 5 106 := C
  have L20 : ∀ (σ : Mem) (x1 : Int32) (t : (Int32 × Mem)), f_X2_findFault_L20 n σ k x1 = some t → t = t0 → J X 20 [(0, .ref (Xad X k)), (1, .int x1)] [] σ := by
    intro σ x1 t hf hp
    unfold f_X2_findFault_L20 at hf
    refine J_iter (JJ := fun (s : Mem × Int32) => J X 20 [(0, .ref (Xad X k)), (1, .int (s.2))] [] s.1) (Ps := fun t => t = t0) ?_ n (σ, x1) t hf hp
    clear hf hp
    intro s t hf hp hq
    obtain ⟨σ, x1⟩ := s
    have hp := And.intro hp hq
    clear hq
    have hf : f_X2_findFault_B20 n σ k x1 = some t := hf
    show J X 20 [(0, .ref (Xad X k)), (1, .int x1)] [] σ
    unfold f_X2_findFault_B20 at hf
    refine J.iload_n (pc := 20) C dX2_findFault_20 rfl 1 rfl ?_
    refine J.aload_n (pc := 21) C dX2_findFault_21 rfl 0 rfl ?_
    refine J.getI (pc := 22) C kcX2 hk 2 rfl tw_276 rfl dX2_findFault_22 ?_
    refine J.icmp_ge (pc := 25) C (tgt := 49) dX2_findFault_25 (by decide) hf (fun hf => ?_) (fun hf => ?_)
    · refine J.aload_n (pc := 49) C dX2_findFault_49 rfl 0 rfl ?_
      obtain ⟨r_5, σ_6, h_4, hf⟩ := bnd2_some hf
      refine J.callV (pc := 50) C (m_X2_endsCue h_4) hk wyX2_endsCue tvX2_endsCue_i tvX2_endsCue_s tw_736 kcX2 rfl hk [] [] rfl rfl (Nat.le_of_ble_eq_true rfl) (Nat.le_of_ble_eq_true rfl) (Nat.le_of_ble_eq_true rfl) (stk' := [.int r_5]) rfl dX2_findFault_50 rfl ?_
      refine J.if_eq (pc := 53) C (tgt := 61) dX2_findFault_53 (by decide) hf (fun hf => ?_) (fun hf => ?_)
      · refine J.aload_n (pc := 61) C dX2_findFault_61 rfl 0 rfl ?_
        refine J.getI (pc := 62) C kcX2 hk 2 rfl tw_276 rfl dX2_findFault_62 ?_
        exact J.iretM (pc := 65) C hR ((hp.1 _ (Option.some.inj hf).symm)) dX2_findFault_65
      · refine J.bipush (pc := 56) C (v := (-6)) dX2_findFault_56 (by decide) ?_
        refine J.goto (pc := 58) C (tgt := 65) dX2_findFault_58 (by decide) ?_
        exact J.iretM (pc := 65) C hR ((hp.1 _ (Option.some.inj hf).symm)) dX2_findFault_65
    · refine J.aload_n (pc := 28) C dX2_findFault_28 rfl 0 rfl ?_
      refine J.aload_n (pc := 29) C dX2_findFault_29 rfl 0 rfl ?_
      refine J.getR (pc := 30) C kcX2 hk 1 rfl tw_275 rfl dX2_findFault_30 ?_
      refine J.iload_n (pc := 33) C dX2_findFault_33 rfl 1 rfl ?_
      refine J.cald (pc := 34) C (ok_2_1 hcl hk) hf dX2_findFault_34 (fun hf => ?_)
      obtain ⟨r_8, σ_9, h_7, hf⟩ := bnd2_some hf
      refine J.callV (pc := 35) C (m_X2_accepts h_7) hk wyX2_accepts tvX2_accepts_i tvX2_accepts_s tw_716 kcX2 rfl hk [.int (σ (ptr k 1) (ix x1))] [] rfl rfl (Nat.le_of_ble_eq_true rfl) (Nat.le_of_ble_eq_true rfl) (Nat.le_of_ble_eq_true rfl) (stk' := [.int r_8]) rfl dX2_findFault_35 rfl ?_
      refine J.if_ne (pc := 38) C (tgt := 43) dX2_findFault_38 (by decide) hf (fun hf => ?_) (fun hf => ?_)
      · obtain ⟨x1_10, hx_x1_10, hf⟩ := nm_some hf
        refine J.iinc (pc := 43) C (v := x1_10) (loc' := [(1, .int x1_10), (0, .ref (Xad X k))]) dX2_findFault_43 (k := 1) rfl (by rw [hx_x1_10]; rfl) (by decide) rfl ?_
        refine J.goto (pc := 46) C (tgt := 20) dX2_findFault_46 (by decide) ?_
        exact J.sub (loc' := [(0, .ref (Xad X k)), (1, .int x1_10)]) [1, 0] rfl (hp.2 _ (Option.some.inj hf).symm)
      · refine J.iload_n (pc := 41) C dX2_findFault_41 rfl 1 rfl ?_
        exact J.iretM (pc := 42) C hR ((hp.1 _ (Option.some.inj hf).symm)) dX2_findFault_42
  have hp : t0 = t0 := rfl
  show J X 0 [(0, .ref (Xad X k))] [] σ
  unfold f_X2_findFault at hf
  refine J.aload_n (pc := 0) C dX2_findFault_0 rfl 0 rfl ?_
  refine J.getR (pc := 1) C kcX2 hk 0 rfl tw_273 rfl dX2_findFault_1 ?_
  refine J.iconst (pc := 4) C (v := 0) dX2_findFault_4 (by decide) ?_
  refine J.putM (pc := 5) C kcX0 (ok_2_0 hcl hk) 3 rfl tw_208 rfl rfl rfl rfl hf dX2_findFault_5 (fun σ_1 hf => ?_)
  refine J.aload_n (pc := 8) C dX2_findFault_8 rfl 0 rfl ?_
  refine J.iconst (pc := 9) C (v := 0) dX2_findFault_9 (by decide) ?_
  refine J.putM (pc := 10) C kcX2 hk 3 rfl tw_278 rfl rfl rfl rfl hf dX2_findFault_10 (fun σ_2 hf => ?_)
  refine J.aload_n (pc := 13) C dX2_findFault_13 rfl 0 rfl ?_
  refine J.iconst (pc := 14) C (v := (-1)) dX2_findFault_14 (by decide) ?_
  refine J.putM (pc := 15) C kcX2 hk 6 rfl tw_281 rfl rfl rfl rfl hf dX2_findFault_15 (fun σ_3 hf => ?_)
  refine J.iconst (pc := 18) C (v := 0) dX2_findFault_18 (by decide) ?_
  refine J.istore_n (pc := 19) C (loc' := [(1, .int 0), (0, .ref (Xad X k))]) dX2_findFault_19 rfl (by decide) rfl ?_
  exact J.sub (loc' := [(0, .ref (Xad X k)), (1, .int 0)]) [1, 0] rfl (L20 σ_3 0 _ hf hp)
set_option maxHeartbeats 4000000 in
set_option maxRecDepth 100000 in
theorem m_X3_goBack {l : Launch} {n : Nat} {σ : Mem} {k : Nat} {t0 : Mem} (hf : f_X3_goBack n σ k = some t0) : Ct l yX3_goBack cX3_goBack 1 none 1 21 (fun ks => Ok ks k 3) (fun ad => [.ref (ad k)]) σ (fun _ => none) t0 := by
  refine Ct.of (plainFor_of_name (by decide)) (fun _ => Nat.le_of_ble_eq_true rfl) ?_
  intro X C _ hk hcl hR
  have C : Cx X RX3 cX3_goBack 1 none 1 21 := C
  have hp : t0 = t0 := rfl
  show J X 0 [(0, .ref (Xad X k))] [] σ
  unfold f_X3_goBack at hf
  refine J.aload_n (pc := 0) C dX3_goBack_0 rfl 0 rfl ?_
  refine J.getR (pc := 1) C kcX3 hk 1 rfl tw_155 rfl dX3_goBack_1 ?_
  obtain ⟨σ_3, h_1, hf⟩ := bnd_some hf
  refine J.callSN (pc := 4) C (m_X8_clear h_1) (ok_3_1 hcl hk) wyX8_clear tsX8_clear tn_346 [.ref (Xad X (ptr k 1))] [] rfl rfl (Nat.le_of_ble_eq_true rfl) (Nat.le_of_ble_eq_true rfl) (Nat.le_of_ble_eq_true rfl) (stk' := []) rfl dX3_goBack_4 rfl ?_
  refine J.aload_n (pc := 7) C dX3_goBack_7 rfl 0 rfl ?_
  refine J.getR (pc := 8) C kcX3 hk 2 rfl tw_157 rfl dX3_goBack_8 ?_
  obtain ⟨σ_6, h_4, hf⟩ := bnd_some hf
  refine J.callSN (pc := 11) C (m_X8_clear h_4) (ok_3_2 hcl hk) wyX8_clear tsX8_clear tn_346 [.ref (Xad X (ptr k 2))] [] rfl rfl (Nat.le_of_ble_eq_true rfl) (Nat.le_of_ble_eq_true rfl) (Nat.le_of_ble_eq_true rfl) (stk' := []) rfl dX3_goBack_11 rfl ?_
  refine J.aload_n (pc := 14) C dX3_goBack_14 rfl 0 rfl ?_
  refine J.getR (pc := 15) C kcX3 hk 3 rfl tw_159 rfl dX3_goBack_15 ?_
  obtain ⟨σ_9, h_7, hf⟩ := bnd_some hf
  refine J.callSN (pc := 18) C (m_X8_clear h_7) (ok_3_3 hcl hk) wyX8_clear tsX8_clear tn_346 [.ref (Xad X (ptr k 3))] [] rfl rfl (Nat.le_of_ble_eq_true rfl) (Nat.le_of_ble_eq_true rfl) (Nat.le_of_ble_eq_true rfl) (stk' := []) rfl dX3_goBack_18 rfl ?_
  exact J.vretM (pc := 21) C hR ((Option.some.inj hf).trans hp) dX3_goBack_21
set_option maxHeartbeats 4000000 in
set_option maxRecDepth 100000 in
theorem m_X3_copy {l : Launch} {σ : Mem} {k : Nat} {x1 : Nat} {t0 : Mem} (hf : f_X3_copy σ k x1 = some t0) : Ct l yX3_copy cX3_copy 2 none 3 60 (fun ks => Ok ks k 3 ∧ Ok ks x1 3) (fun ad => [.ref (ad k), .ref (ad x1)]) σ (fun _ => none) t0 := by
  refine Ct.of (plainFor_of_name (by decide)) (fun _ => Nat.le_of_ble_eq_true rfl) ?_
  intro X C _ hok hcl hR
  obtain ⟨hk, hx1⟩ := hok
  have C : Cx X RX3 cX3_copy 2 none 3 60 := C
  have hp : t0 = t0 := rfl
  show J X 0 [(0, .ref (Xad X k)), (1, .ref (Xad X x1))] [] σ
  unfold f_X3_copy at hf
  refine J.aload_n (pc := 0) C dX3_copy_0 rfl 0 rfl ?_
  refine J.getR (pc := 1) C kcX3 hk 0 rfl tw_152 rfl dX3_copy_1 ?_
  refine J.aload_n (pc := 4) C dX3_copy_4 rfl 1 rfl ?_
  refine J.getR (pc := 5) C kcX3 hx1 0 rfl tw_152 rfl dX3_copy_5 ?_
  obtain ⟨σ_3, h_1, hf⟩ := bnd_some hf
  refine J.callV (pc := 8) C (m_X4_copy h_1) ⟨(ok_3_0 hcl hk), (ok_3_0 hcl hx1)⟩ wyX4_copy tvX4_copy_i tvX4_copy_s tw_602 kcX4 rfl (ok_3_0 hcl hk) [.ref (Xad X (ptr x1 0))] [] rfl rfl (Nat.le_of_ble_eq_true rfl) (Nat.le_of_ble_eq_true rfl) (Nat.le_of_ble_eq_true rfl) (stk' := []) rfl dX3_copy_8 rfl ?_
  refine J.aload_n (pc := 11) C dX3_copy_11 rfl 1 rfl ?_
  refine J.getR (pc := 12) C kcX3 hx1 1 rfl tw_155 rfl dX3_copy_12 ?_
  refine J.aload_n (pc := 15) C dX3_copy_15 rfl 0 rfl ?_
  refine J.getR (pc := 16) C kcX3 hk 1 rfl tw_155 rfl dX3_copy_16 ?_
  obtain ⟨σ_6, h_4, hf⟩ := bnd_some hf
  refine J.callSN (pc := 19) C (m_X8_copyRow h_4) ⟨(ok_3_1 hcl hx1), (ok_3_1 hcl hk)⟩ wyX8_copyRow tsX8_copyRow tn_603 [.ref (Xad X (ptr x1 1)), .ref (Xad X (ptr k 1))] [] rfl rfl (Nat.le_of_ble_eq_true rfl) (Nat.le_of_ble_eq_true rfl) (Nat.le_of_ble_eq_true rfl) (stk' := []) rfl dX3_copy_19 rfl ?_
  refine J.aload_n (pc := 22) C dX3_copy_22 rfl 1 rfl ?_
  refine J.getR (pc := 23) C kcX3 hx1 2 rfl tw_157 rfl dX3_copy_23 ?_
  refine J.aload_n (pc := 26) C dX3_copy_26 rfl 0 rfl ?_
  refine J.getR (pc := 27) C kcX3 hk 2 rfl tw_157 rfl dX3_copy_27 ?_
  obtain ⟨σ_9, h_7, hf⟩ := bnd_some hf
  refine J.callSN (pc := 30) C (m_X8_copyRow h_7) ⟨(ok_3_2 hcl hx1), (ok_3_2 hcl hk)⟩ wyX8_copyRow tsX8_copyRow tn_603 [.ref (Xad X (ptr x1 2)), .ref (Xad X (ptr k 2))] [] rfl rfl (Nat.le_of_ble_eq_true rfl) (Nat.le_of_ble_eq_true rfl) (Nat.le_of_ble_eq_true rfl) (stk' := []) rfl dX3_copy_30 rfl ?_
  refine J.aload_n (pc := 33) C dX3_copy_33 rfl 1 rfl ?_
  refine J.getR (pc := 34) C kcX3 hx1 3 rfl tw_159 rfl dX3_copy_34 ?_
  refine J.aload_n (pc := 37) C dX3_copy_37 rfl 0 rfl ?_
  refine J.getR (pc := 38) C kcX3 hk 3 rfl tw_159 rfl dX3_copy_38 ?_
  obtain ⟨σ_12, h_10, hf⟩ := bnd_some hf
  refine J.callSN (pc := 41) C (m_X8_copyRow h_10) ⟨(ok_3_3 hcl hx1), (ok_3_3 hcl hk)⟩ wyX8_copyRow tsX8_copyRow tn_603 [.ref (Xad X (ptr x1 3)), .ref (Xad X (ptr k 3))] [] rfl rfl (Nat.le_of_ble_eq_true rfl) (Nat.le_of_ble_eq_true rfl) (Nat.le_of_ble_eq_true rfl) (stk' := []) rfl dX3_copy_41 rfl ?_
  exact J.vretM (pc := 44) C hR ((Option.some.inj hf).trans hp) dX3_copy_44
set_option maxHeartbeats 4000000 in
set_option maxRecDepth 100000 in
theorem m_X3_supply {l : Launch} {n : Nat} {σ : Mem} {k : Nat} {x1 : Nat} {t0 : Mem} (hf : f_X3_supply n σ k x1 = some t0) : Ct l yX3_supply cX3_supply 4 none 3 73 (fun ks => Ok ks k 3 ∧ Ok ks x1 1) (fun ad => [.ref (ad k), .ref (ad x1)]) σ (fun _ => none) t0 := by
  refine Ct.of (plainFor_of_name (by decide)) (fun _ => Nat.le_of_ble_eq_true rfl) ?_
  intro X C _ hok hcl hR
  obtain ⟨hk, hx1⟩ := hok
  have C : Cx X RX3 cX3_supply 4 none 3 73 := C
  have L2 : ∀ (σ : Mem) (x2 : Int32) (t : Mem), f_X3_supply_L2 n σ k x1 x2 = some t → t = t0 → J X 2 [(0, .ref (Xad X k)), (1, .ref (Xad X x1)), (2, .int x2)] [] σ := by
    intro σ x2 t hf hp
    unfold f_X3_supply_L2 at hf
    refine J_iter (JJ := fun (s : Mem × Int32) => J X 2 [(0, .ref (Xad X k)), (1, .ref (Xad X x1)), (2, .int (s.2))] [] s.1) (Ps := fun t => t = t0) ?_ n (σ, x2) t hf hp
    clear hf hp
    intro s t hf hp hq
    obtain ⟨σ, x2⟩ := s
    have hp := And.intro hp hq
    clear hq
    have hf : f_X3_supply_B2 n σ k x1 x2 = some t := hf
    show J X 2 [(0, .ref (Xad X k)), (1, .ref (Xad X x1)), (2, .int x2)] [] σ
    unfold f_X3_supply_B2 at hf
    refine J.iload_n (pc := 2) C dX3_supply_2 rfl 2 rfl ?_
    refine J.iconst (pc := 3) C (v := 3) dX3_supply_3 (by decide) ?_
    refine J.icmp_ge (pc := 4) C (tgt := 93) dX3_supply_4 (by decide) hf (fun hf => ?_) (fun hf => ?_)
    · exact J.vretM (pc := 93) C hR ((hp.1 _ (Option.some.inj hf).symm)) dX3_supply_93
    · refine J.aload_n (pc := 7) C dX3_supply_7 rfl 0 rfl ?_
      refine J.getR (pc := 8) C kcX3 hk 2 rfl tw_157 rfl dX3_supply_8 ?_
      refine J.iload_n (pc := 11) C dX3_supply_11 rfl 2 rfl ?_
      refine J.aload_n (pc := 12) C dX3_supply_12 rfl 1 rfl ?_
      refine J.iload_n (pc := 13) C dX3_supply_13 rfl 2 rfl ?_
      obtain ⟨r_2, h_1, hf⟩ := bnd_some hf
      refine J.callV (pc := 14) C (m_X1_demandOf h_1) hx1 wyX1_demandOf tvX1_demandOf_i tvX1_demandOf_s tw_482 kcX1 rfl hx1 [.int x2] [.int x2, .ref (Xad X (ptr k 2))] rfl rfl (Nat.le_of_ble_eq_true rfl) (Nat.le_of_ble_eq_true rfl) (Nat.le_of_ble_eq_true rfl) (stk' := [.int r_2, .int x2, .ref (Xad X (ptr k 2))]) rfl dX3_supply_14 rfl ?_
      refine J.iastM (pc := 17) C (ok_3_2 hcl hk) hf dX3_supply_17 (fun σ_3 hf => ?_)
      refine J.aload_n (pc := 18) C dX3_supply_18 rfl 0 rfl ?_
      refine J.getR (pc := 19) C kcX3 hk 2 rfl tw_157 rfl dX3_supply_19 ?_
      refine J.iload_n (pc := 22) C dX3_supply_22 rfl 2 rfl ?_
      refine J.iald (pc := 23) C (ok_3_2 hcl hk) hf dX3_supply_23 (fun hf => ?_)
      refine J.sipush (pc := 24) C (v := 1000) dX3_supply_24 (by decide) ?_
      refine J.aload_n (pc := 27) C dX3_supply_27 rfl 0 rfl ?_
      refine J.getR (pc := 28) C kcX3 hk 0 rfl tw_152 rfl dX3_supply_28 ?_
      refine J.iload_n (pc := 31) C dX3_supply_31 rfl 2 rfl ?_
      refine J.iconst (pc := 32) C (v := 0) dX3_supply_32 (by decide) ?_
      obtain ⟨r_5, h_4, hf⟩ := bnd_some hf
      refine J.callV (pc := 33) C (m_X4_value h_4) (ok_3_0 hcl hk) wyX4_value tvX4_value_i tvX4_value_s tw_490 kcX4 rfl (ok_3_0 hcl hk) [.int x2, .int 0] [.int 1000, .int (σ_3 (ptr k 2) (ix x2))] rfl rfl (Nat.le_of_ble_eq_true rfl) (Nat.le_of_ble_eq_true rfl) (Nat.le_of_ble_eq_true rfl) (stk' := [.int r_5, .int 1000, .int (σ_3 (ptr k 2) (ix x2))]) rfl dX3_supply_33 rfl ?_
      refine J.imul (pc := 36) C dX3_supply_36 ?_
      refine J.mminI (pc := 37) C tw_491 twm_min_s twm_i twm_min_c (Nat.le_of_ble_eq_true rfl) (Nat.le_of_ble_eq_true rfl) dX3_supply_37 ?_
      refine J.nmI hf (fun x3_6 hf => ?_)
      refine J.istore_n (pc := 40) C (loc' := [(3, .int x3_6), (0, .ref (Xad X k)), (1, .ref (Xad X x1)), (2, .int x2)]) dX3_supply_40 rfl (by decide) rfl ?_
      refine J.aload_n (pc := 41) C dX3_supply_41 rfl 1 rfl ?_
      refine J.getR (pc := 42) C kcX3 hk 1 rfl tw_155 rfl dX3_supply_42 ?_
      refine J.iload_n (pc := 45) C dX3_supply_45 rfl 3 rfl ?_
      refine J.aload_n (pc := 46) C dX3_supply_46 rfl 1 rfl ?_
      refine J.getR (pc := 47) C kcX3 hk 1 rfl tw_155 rfl dX3_supply_47 ?_
      refine J.iload_n (pc := 50) C dX3_supply_50 rfl 3 rfl ?_
      refine J.iald (pc := 51) C (ok_3_1 hcl hk) hf dX3_supply_51 (fun hf => ?_)
      refine J.iload_n (pc := 52) C dX3_supply_52 rfl 0 rfl ?_
      refine J.sipush (pc := 53) C (v := 1000) dX3_supply_53 (by decide) ?_
      refine J.aload_n (pc := 56) C dX3_supply_56 rfl 1 rfl ?_
      refine J.getR (pc := 57) C kcX3 hk 0 rfl tw_152 rfl dX3_supply_57 ?_
      refine J.iload_n (pc := 60) C dX3_supply_60 rfl 3 rfl ?_
      refine J.iconst (pc := 61) C (v := 1) dX3_supply_61 (by decide) ?_
      obtain ⟨r_8, h_7, hf⟩ := bnd_some hf
      refine J.callV (pc := 62) C (m_X4_value h_7) (ok_3_0 hcl hk) wyX4_value tvX4_value_i tvX4_value_s tw_490 kcX4 rfl (ok_3_0 hcl hk) [.int x2, .int 1] [.int 1000, .int x3_6, .int (σ_3 (ptr k 1) (ix x2)), .int x2, .ref (Xad X (ptr k 1))] rfl rfl (Nat.le_of_ble_eq_true rfl) (Nat.le_of_ble_eq_true rfl) (Nat.le_of_ble_eq_true rfl) (stk' := [.int r_8, .int 1000, .int x3_6, .int (σ_3 (ptr k 1) (ix x2)), .int x2, .ref (Xad X (ptr k 1))]) rfl dX3_supply_62 rfl ?_
      refine J.imul (pc := 65) C dX3_supply_65 ?_
      obtain ⟨r_10, h_9, hf⟩ := bnd_some hf
      refine J.callSN (pc := 66) C (m_X8_toward h_9) trivial wyX8_toward tsX8_toward tn_492 [.int (σ_3 (ptr k 1) (ix x2)), .int x3_6, .int (1000 * r_8)] [.int x2, .ref (Xad X (ptr k 1))] rfl rfl (Nat.le_of_ble_eq_true rfl) (Nat.le_of_ble_eq_true rfl) (Nat.le_of_ble_eq_true rfl) (stk' := [.int r_10, .int x2, .ref (Xad X (ptr k 1))]) rfl dX3_supply_66 rfl ?_
      refine J.iastM (pc := 69) C (ok_3_1 hcl hk) hf dX3_supply_69 (fun σ_11 hf => ?_)
      refine J.aload_n (pc := 70) C dX3_supply_70 rfl 2 rfl ?_
      refine J.iload_n (pc := 71) C dX3_supply_71 rfl 3 rfl ?_
      refine J.aload_n (pc := 72) C dX3_supply_72 rfl 1 rfl ?_
      refine J.getR (pc := 73) C kcX3 hk 2 rfl tw_157 rfl dX3_supply_73 ?_
      refine J.iload_n (pc := 76) C dX3_supply_76 rfl 3 rfl ?_
      refine J.iald (pc := 77) C (ok_3_2 hcl hk) hf dX3_supply_77 (fun hf => ?_)
      refine J.aload_n (pc := 78) C dX3_supply_78 rfl 1 rfl ?_
      refine J.getR (pc := 79) C kcX3 hk 1 rfl tw_155 rfl dX3_supply_79 ?_
      refine J.iload_n (pc := 82) C dX3_supply_82 rfl 3 rfl ?_
      refine J.iald (pc := 83) C (ok_3_1 hcl hk) hf dX3_supply_83 (fun hf => ?_)
      obtain ⟨σ_14, h_12, hf⟩ := bnd_some hf
      refine J.callV (pc := 84) C (m_X1_flow h_12) hx1 wyX1_flow tvX1_flow_i tvX1_flow_s tw_493 kcX1 rfl hx1 [.int x2, .int (σ_11 (ptr k 2) (ix x2)), .int (σ_11 (ptr k 1) (ix x2))] [] rfl rfl (Nat.le_of_ble_eq_true rfl) (Nat.le_of_ble_eq_true rfl) (Nat.le_of_ble_eq_true rfl) (stk' := []) rfl dX3_supply_84 rfl ?_
      obtain ⟨x2_15, hx_x2_15, hf⟩ := nm_some hf
      refine J.iinc (pc := 87) C (v := x2_15) (loc' := [(2, .int x2_15), (3, .int x3_6), (0, .ref (Xad X k)), (1, .ref (Xad X x1))]) dX3_supply_87 (k := 3) rfl (by rw [hx_x2_15]; rfl) (by decide) rfl ?_
      refine J.goto (pc := 90) C (tgt := 2) dX3_supply_90 (by decide) ?_
      exact J.sub (loc' := [(0, .ref (Xad X k)), (1, .ref (Xad X x1)), (2, .int x2_15)]) [2, 3, 0] rfl (hp.2 _ (Option.some.inj hf).symm)
  have hp : t0 = t0 := rfl
  show J X 0 [(0, .ref (Xad X k)), (1, .ref (Xad X x1))] [] σ
  unfold f_X3_supply at hf
  refine J.iconst (pc := 0) C (v := 0) dX3_supply_0 (by decide) ?_
  refine J.istore_n (pc := 1) C (loc' := [(2, .int 0), (0, .ref (Xad X k)), (1, .ref (Xad X x1))]) dX3_supply_1 rfl (by decide) rfl ?_
  exact J.sub (loc' := [(0, .ref (Xad X k)), (1, .ref (Xad X x1)), (2, .int 0)]) [1, 2, 0] rfl (L2 σ 0 _ hf hp)
set_option maxHeartbeats 4000000 in
set_option maxRecDepth 100000 in
theorem m_X3_isShort {l : Launch} {σ : Mem} {k : Nat} {x1 : Int32} {t0 : Int32} (hf : f_X3_isShort σ k x1 = some t0) : Ct l yX3_isShort cX3_isShort 2 (some FieldType.boolean) 0 0 (fun ks => Ok ks k 3) (fun ad => [.ref (ad k), .int x1]) σ (fun _ => some (.int t0)) σ := by
  refine Ct.of (plainFor_of_name (by decide)) (fun _ => Nat.le_of_ble_eq_true rfl) ?_
  intro X C _ hk hcl hR
  have C : Cx X RX3 cX3_isShort 2 (some FieldType.boolean) 0 0 := C
  have hp : t0 = t0 := rfl
  show J X 0 [(0, .ref (Xad X k)), (1, .int x1)] [] σ
  unfold f_X3_isShort at hf
  refine J.aload_n (pc := 0) C dX3_isShort_0 rfl 0 rfl ?_
  refine J.getR (pc := 1) C kcX3 hk 2 rfl tw_157 rfl dX3_isShort_1 ?_
  refine J.iload_n (pc := 4) C dX3_isShort_4 rfl 1 rfl ?_
  refine J.iald (pc := 5) C (ok_3_2 hcl hk) hf dX3_isShort_5 (fun hf => ?_)
  refine J.aload_n (pc := 6) C dX3_isShort_6 rfl 0 rfl ?_
  refine J.getR (pc := 7) C kcX3 hk 1 rfl tw_155 rfl dX3_isShort_7 ?_
  refine J.iload_n (pc := 10) C dX3_isShort_10 rfl 1 rfl ?_
  refine J.iald (pc := 11) C (ok_3_1 hcl hk) hf dX3_isShort_11 (fun hf => ?_)
  refine J.icmp_le (pc := 12) C (tgt := 19) dX3_isShort_12 (by decide) hf (fun hf => ?_) (fun hf => ?_)
  · refine J.iconst (pc := 19) C (v := 0) dX3_isShort_19 (by decide) ?_
    exact J.zretP (pc := 20) C rfl hR ((Option.some.inj hf).trans hp) dX3_isShort_20
  · refine J.iconst (pc := 15) C (v := 1) dX3_isShort_15 (by decide) ?_
    refine J.goto (pc := 16) C (tgt := 20) dX3_isShort_16 (by decide) ?_
    exact J.zretP (pc := 20) C rfl hR ((Option.some.inj hf).trans hp) dX3_isShort_20
set_option maxHeartbeats 4000000 in
set_option maxRecDepth 100000 in
theorem m_X3_countShort {l : Launch} {n : Nat} {σ : Mem} {k : Nat} {t0 : Mem} (hf : f_X3_countShort n σ k = some t0) : Ct l yX3_countShort cX3_countShort 2 none 1 21 (fun ks => Ok ks k 3) (fun ad => [.ref (ad k)]) σ (fun _ => none) t0 := by
  refine Ct.of (plainFor_of_name (by decide)) (fun _ => Nat.le_of_ble_eq_true rfl) ?_
  intro X C _ hk hcl hR
  have C : Cx X RX3 cX3_countShort 2 none 1 21 := C
  have L2 : ∀ (σ : Mem) (x1 : Int32) (t : Mem), f_X3_countShort_L2 n σ k x1 = some t → t = t0 → J X 2 [(0, .ref (Xad X k)), (1, .int x1)] [] σ := by
    intro σ x1 t hf hp
    unfold f_X3_countShort_L2 at hf
    refine J_iter (JJ := fun (s : Mem × Int32) => J X 2 [(0, .ref (Xad X k)), (1, .int (s.2))] [] s.1) (Ps := fun t => t = t0) ?_ n (σ, x1) t hf hp
    clear hf hp
    intro s t hf hp hq
    obtain ⟨σ, x1⟩ := s
    have hp := And.intro hp hq
    clear hq
    have hf : f_X3_countShort_B2 n σ k x1 = some t := hf
    show J X 2 [(0, .ref (Xad X k)), (1, .int x1)] [] σ
    unfold f_X3_countShort_B2 at hf
    refine J.iload_n (pc := 2) C dX3_countShort_2 rfl 1 rfl ?_
    refine J.iconst (pc := 3) C (v := 3) dX3_countShort_3 (by decide) ?_
    refine J.icmp_ge (pc := 4) C (tgt := 31) dX3_countShort_4 (by decide) hf (fun hf => ?_) (fun hf => ?_)
    · exact J.vretM (pc := 31) C hR ((hp.1 _ (Option.some.inj hf).symm)) dX3_countShort_31
    · refine J.aload_n (pc := 7) C dX3_countShort_7 rfl 0 rfl ?_
      refine J.iload_n (pc := 8) C dX3_countShort_8 rfl 1 rfl ?_
      obtain ⟨r_2, h_1, hf⟩ := bnd_some hf
      refine J.callV (pc := 9) C (m_X3_isShort h_1) hk wyX3_isShort tvX3_isShort_i tvX3_isShort_s tw_509 kcX3 rfl hk [.int x1] [] rfl rfl (Nat.le_of_ble_eq_true rfl) (Nat.le_of_ble_eq_true rfl) (Nat.le_of_ble_eq_true rfl) (stk' := [.int r_2]) rfl dX3_countShort_9 rfl ?_
      refine J.if_eq (pc := 12) C (tgt := 25) dX3_countShort_12 (by decide) hf (fun hf => ?_) (fun hf => ?_)
      · obtain ⟨x1_3, hx_x1_3, hf⟩ := nm_some hf
        refine J.iinc (pc := 25) C (v := x1_3) (loc' := [(1, .int x1_3), (0, .ref (Xad X k))]) dX3_countShort_25 (k := 1) rfl (by rw [hx_x1_3]; rfl) (by decide) rfl ?_
        refine J.goto (pc := 28) C (tgt := 2) dX3_countShort_28 (by decide) ?_
        exact J.sub (loc' := [(0, .ref (Xad X k)), (1, .int x1_3)]) [1, 0] rfl (hp.2 _ (Option.some.inj hf).symm)
      · refine J.aload_n (pc := 15) C dX3_countShort_15 rfl 0 rfl ?_
        refine J.getR (pc := 16) C kcX3 hk 3 rfl tw_159 rfl dX3_countShort_16 ?_
        refine J.iload_n (pc := 19) C dX3_countShort_19 rfl 1 rfl ?_
        refine J.dup2 (pc := 20) C dX3_countShort_20 rfl rfl ?_
        refine J.iald (pc := 21) C (ok_3_3 hcl hk) hf dX3_countShort_21 (fun hf => ?_)
        refine J.iconst (pc := 22) C (v := 1) dX3_countShort_22 (by decide) ?_
        refine J.iadd (pc := 23) C dX3_countShort_23 ?_
        refine J.iastM (pc := 24) C (ok_3_3 hcl hk) hf dX3_countShort_24 (fun σ_4 hf => ?_)
        obtain ⟨x1_5, hx_x1_5, hf⟩ := nm_some hf
        refine J.iinc (pc := 25) C (v := x1_5) (loc' := [(1, .int x1_5), (0, .ref (Xad X k))]) dX3_countShort_25 (k := 1) rfl (by rw [hx_x1_5]; rfl) (by decide) rfl ?_
        refine J.goto (pc := 28) C (tgt := 2) dX3_countShort_28 (by decide) ?_
        exact J.sub (loc' := [(0, .ref (Xad X k)), (1, .int x1_5)]) [1, 0] rfl (hp.2 _ (Option.some.inj hf).symm)
  have hp : t0 = t0 := rfl
  show J X 0 [(0, .ref (Xad X k))] [] σ
  unfold f_X3_countShort at hf
  refine J.iconst (pc := 0) C (v := 0) dX3_countShort_0 (by decide) ?_
  refine J.istore_n (pc := 1) C (loc' := [(1, .int 0), (0, .ref (Xad X k))]) dX3_countShort_1 rfl (by decide) rfl ?_
  exact J.sub (loc' := [(0, .ref (Xad X k)), (1, .int 0)]) [1, 0] rfl (L2 σ 0 _ hf hp)
set_option maxHeartbeats 4000000 in
set_option maxRecDepth 100000 in
theorem m_X3_someShort {l : Launch} {n : Nat} {σ : Mem} {k : Nat} {t0 : Int32} (hf : f_X3_someShort n σ k = some t0) : Ct l yX3_someShort cX3_someShort 2 (some FieldType.boolean) 1 21 (fun ks => Ok ks k 3) (fun ad => [.ref (ad k)]) σ (fun _ => some (.int t0)) σ := by
  refine Ct.of (plainFor_of_name (by decide)) (fun _ => Nat.le_of_ble_eq_true rfl) ?_
  intro X C _ hk hcl hR
  have C : Cx X RX3 cX3_someShort 2 (some FieldType.boolean) 1 21 := C
  have L2 : ∀ (x1 : Int32) (t : Int32), f_X3_someShort_L2 n σ k x1 = some t → t = t0 → J X 2 [(0, .ref (Xad X k)), (1, .int x1)] [] σ := by
    intro x1 t hf hp
    unfold f_X3_someShort_L2 at hf
    refine J_iter (JJ := fun (s : Int32) => J X 2 [(0, .ref (Xad X k)), (1, .int s)] [] σ) (Ps := fun t => t = t0) ?_ n x1 t hf hp
    clear hf hp
    intro s t hf hp hq
    obtain ⟨x1, rfl⟩ : ∃ z, z = s := ⟨_, rfl⟩
    have hp := And.intro hp hq
    clear hq
    have hf : f_X3_someShort_B2 n σ k x1 = some t := hf
    show J X 2 [(0, .ref (Xad X k)), (1, .int x1)] [] σ
    unfold f_X3_someShort_B2 at hf
    refine J.iload_n (pc := 2) C dX3_someShort_2 rfl 1 rfl ?_
    refine J.iconst (pc := 3) C (v := 3) dX3_someShort_3 (by decide) ?_
    refine J.icmp_ge (pc := 4) C (tgt := 23) dX3_someShort_4 (by decide) hf (fun hf => ?_) (fun hf => ?_)
    · refine J.iconst (pc := 23) C (v := 0) dX3_someShort_23 (by decide) ?_
      exact J.zretP (pc := 24) C rfl hR ((hp.1 _ (Option.some.inj hf).symm)) dX3_someShort_24
    · refine J.aload_n (pc := 7) C dX3_someShort_7 rfl 0 rfl ?_
      refine J.iload_n (pc := 8) C dX3_someShort_8 rfl 1 rfl ?_
      obtain ⟨r_2, h_1, hf⟩ := bnd_some hf
      refine J.callV (pc := 9) C (m_X3_isShort h_1) hk wyX3_isShort tvX3_isShort_i tvX3_isShort_s tw_509 kcX3 rfl hk [.int x1] [] rfl rfl (Nat.le_of_ble_eq_true rfl) (Nat.le_of_ble_eq_true rfl) (Nat.le_of_ble_eq_true rfl) (stk' := [.int r_2]) rfl dX3_someShort_9 rfl ?_
      refine J.if_eq (pc := 12) C (tgt := 17) dX3_someShort_12 (by decide) hf (fun hf => ?_) (fun hf => ?_)
      · obtain ⟨x1_3, hx_x1_3, hf⟩ := nm_some hf
        refine J.iinc (pc := 17) C (v := x1_3) (loc' := [(1, .int x1_3), (0, .ref (Xad X k))]) dX3_someShort_17 (k := 1) rfl (by rw [hx_x1_3]; rfl) (by decide) rfl ?_
        refine J.goto (pc := 20) C (tgt := 2) dX3_someShort_20 (by decide) ?_
        exact J.sub (loc' := [(0, .ref (Xad X k)), (1, .int x1_3)]) [1, 0] rfl (hp.2 _ (Option.some.inj hf).symm)
      · refine J.iconst (pc := 15) C (v := 1) dX3_someShort_15 (by decide) ?_
        exact J.zretP (pc := 16) C rfl hR ((hp.1 _ (Option.some.inj hf).symm)) dX3_someShort_16
  have hp : t0 = t0 := rfl
  show J X 0 [(0, .ref (Xad X k))] [] σ
  unfold f_X3_someShort at hf
  refine J.iconst (pc := 0) C (v := 0) dX3_someShort_0 (by decide) ?_
  refine J.istore_n (pc := 1) C (loc' := [(1, .int 0), (0, .ref (Xad X k))]) dX3_someShort_1 rfl (by decide) rfl ?_
  exact J.sub (loc' := [(0, .ref (Xad X k)), (1, .int 0)]) [1, 0] rfl (L2 0 _ hf hp)
set_option maxHeartbeats 4000000 in
set_option maxRecDepth 100000 in
theorem m_X4_change {l : Launch} {σ : Mem} {k : Nat} {x1 : Int32} {x2 : Int32} {x3 : Int32} {t0 : (Int32 × Mem)} (hf : f_X4_change σ k x1 x2 x3 = some t0) : Ct l yX4_change cX4_change 6 (some FieldType.int) 1 22 (fun ks => Ok ks k 4) (fun ad => [.ref (ad k), .int x1, .int x2, .int x3]) σ (fun _ => some (.int t0.1)) t0.2 := by
  refine Ct.of (plainFor_of_name (by decide)) (fun _ => Nat.le_of_ble_eq_true rfl) ?_
  intro X C _ hk hcl hR
  have C : Cx X RX4 cX4_change 6 (some FieldType.int) 1 22 := C
  have hp : t0 = t0 := rfl
  show J X 0 [(0, .ref (Xad X k)), (1, .int x1), (2, .int x2), (3, .int x3)] [] σ
  unfold f_X4_change at hf
  refine J.iload_n (pc := 0) C dX4_change_0 rfl 1 rfl ?_
  refine J.iconst (pc := 1) C (v := 0) dX4_change_1 (by decide) ?_
  refine J.aload_n (pc := 2) C dX4_change_2 rfl 0 rfl ?_
  refine J.getI (pc := 3) C kcX4 hk 3 rfl tw_70 rfl dX4_change_3 ?_
  refine J.iconst (pc := 6) C (v := 1) dX4_change_6 (by decide) ?_
  refine J.isub (pc := 7) C dX4_change_7 ?_
  obtain ⟨r_2, h_1, hf⟩ := bnd_some hf
  refine J.callSN (pc := 8) C (m_X8_within h_1) trivial wyX8_within tsX8_within tn_364 [.int x1, .int 0, .int ((σ k 3) - 1)] [] rfl rfl (Nat.le_of_ble_eq_true rfl) (Nat.le_of_ble_eq_true rfl) (Nat.le_of_ble_eq_true rfl) (stk' := [.int r_2]) rfl dX4_change_8 rfl ?_
  refine J.if_eq (pc := 11) C (tgt := 48) dX4_change_11 (by decide) hf (fun hf => ?_) (fun hf => ?_)
  · refine J.bipush (pc := 48) C (v := (-2)) dX4_change_48 (by decide) ?_
    exact J.iretM (pc := 50) C hR ((Option.some.inj hf).trans hp) dX4_change_50
  · refine J.iload_n (pc := 14) C dX4_change_14 rfl 2 rfl ?_
    refine J.iconst (pc := 15) C (v := 0) dX4_change_15 (by decide) ?_
    refine J.aload_n (pc := 16) C dX4_change_16 rfl 0 rfl ?_
    refine J.getR (pc := 17) C kcX4 hk 2 rfl tw_69 rfl dX4_change_17 ?_
    refine J.srrlen (pc := 20) C (st_4_2 hk) dX4_change_20 ?_
    refine J.iconst (pc := 21) C (v := 1) dX4_change_21 (by decide) ?_
    refine J.isub (pc := 22) C dX4_change_22 ?_
    obtain ⟨r_4, h_3, hf⟩ := bnd_some hf
    refine J.callSN (pc := 23) C (m_X8_within h_3) trivial wyX8_within tsX8_within tn_364 [.int x2, .int 0, .int ((Int32.ofNat (alen (ptr k 2))) - 1)] [] rfl rfl (Nat.le_of_ble_eq_true rfl) (Nat.le_of_ble_eq_true rfl) (Nat.le_of_ble_eq_true rfl) (stk' := [.int r_4]) rfl dX4_change_23 rfl ?_
    refine J.if_eq (pc := 26) C (tgt := 48) dX4_change_26 (by decide) hf (fun hf => ?_) (fun hf => ?_)
    · refine J.bipush (pc := 48) C (v := (-2)) dX4_change_48 (by decide) ?_
      exact J.iretM (pc := 50) C hR ((Option.some.inj hf).trans hp) dX4_change_50
    · refine J.iload_n (pc := 29) C dX4_change_29 rfl 3 rfl ?_
      refine J.aload_n (pc := 30) C dX4_change_30 rfl 0 rfl ?_
      refine J.getR (pc := 31) C kcX4 hk 0 rfl tw_67 rfl dX4_change_31 ?_
      refine J.iload_n (pc := 34) C dX4_change_34 rfl 2 rfl ?_
      refine J.sald (pc := 35) C (st_4_0 hk) hf dX4_change_35 (fun hf => ?_)
      refine J.aload_n (pc := 36) C dX4_change_36 rfl 0 rfl ?_
      refine J.getR (pc := 37) C kcX4 hk 1 rfl tw_68 rfl dX4_change_37 ?_
      refine J.iload_n (pc := 40) C dX4_change_40 rfl 2 rfl ?_
      refine J.sald (pc := 41) C (st_4_1 hk) hf dX4_change_41 (fun hf => ?_)
      obtain ⟨r_6, h_5, hf⟩ := bnd_some hf
      refine J.callSN (pc := 42) C (m_X8_within h_5) trivial wyX8_within tsX8_within tn_364 [.int x3, .int (σ (ptr k 0) (ix x2)), .int (σ (ptr k 1) (ix x2))] [] rfl rfl (Nat.le_of_ble_eq_true rfl) (Nat.le_of_ble_eq_true rfl) (Nat.le_of_ble_eq_true rfl) (stk' := [.int r_6]) rfl dX4_change_42 rfl ?_
      refine J.if_ne (pc := 45) C (tgt := 51) dX4_change_45 (by decide) hf (fun hf => ?_) (fun hf => ?_)
      · refine J.iload_n (pc := 51) C dX4_change_51 rfl 1 rfl ?_
        refine J.aload_n (pc := 52) C dX4_change_52 rfl 0 rfl ?_
        refine J.getR (pc := 53) C kcX4 hk 2 rfl tw_69 rfl dX4_change_53 ?_
        refine J.srrlen (pc := 56) C (st_4_2 hk) dX4_change_56 ?_
        refine J.imul (pc := 57) C dX4_change_57 ?_
        refine J.iload_n (pc := 58) C dX4_change_58 rfl 2 rfl ?_
        refine J.iadd (pc := 59) C dX4_change_59 ?_
        refine J.nmI hf (fun x4_7 hf => ?_)
        refine J.istore (pc := 60) C (loc' := [(4, .int x4_7), (0, .ref (Xad X k)), (1, .int x1), (2, .int x2), (3, .int x3)]) dX4_change_60 (by decide) rfl ?_
        refine J.aload_n (pc := 62) C dX4_change_62 rfl 1 rfl ?_
        refine J.getR (pc := 63) C kcX4 hk 4 rfl tw_71 rfl dX4_change_63 ?_
        refine J.iload (pc := 66) C dX4_change_66 0 rfl ?_
        refine J.iald (pc := 68) C (ok_4_4 hcl hk) hf dX4_change_68 (fun hf => ?_)
        refine J.nmI hf (fun x5_8 hf => ?_)
        refine J.istore (pc := 69) C (loc' := [(5, .int x5_8), (4, .int x4_7), (0, .ref (Xad X k)), (1, .int x1), (2, .int x2), (3, .int x3)]) dX4_change_69 (by decide) rfl ?_
        refine J.aload_n (pc := 71) C dX4_change_71 rfl 2 rfl ?_
        refine J.getR (pc := 72) C kcX4 hk 4 rfl tw_71 rfl dX4_change_72 ?_
        refine J.iload (pc := 75) C dX4_change_75 1 rfl ?_
        refine J.iload_n (pc := 77) C dX4_change_77 rfl 5 rfl ?_
        refine J.iastM (pc := 78) C (ok_4_4 hcl hk) hf dX4_change_78 (fun σ_9 hf => ?_)
        refine J.iload (pc := 79) C dX4_change_79 0 rfl ?_
        exact J.iretM (pc := 81) C hR ((Option.some.inj hf).trans hp) dX4_change_81
      · refine J.bipush (pc := 48) C (v := (-2)) dX4_change_48 (by decide) ?_
        exact J.iretM (pc := 50) C hR ((Option.some.inj hf).trans hp) dX4_change_50
set_option maxHeartbeats 4000000 in
set_option maxRecDepth 100000 in
theorem m_X7_goBack {l : Launch} {σ : Mem} {k : Nat} {t0 : Mem} (hf : f_X7_goBack σ k = some t0) : Ct l yX7_goBack cX7_goBack 1 none 0 0 (fun ks => Ok ks k 7) (fun ad => [.ref (ad k)]) σ (fun _ => none) t0 := by
  refine Ct.of (plainFor_of_name (by decide)) (fun _ => Nat.le_of_ble_eq_true rfl) ?_
  intro X C _ hk hcl hR
  have C : Cx X RX7 cX7_goBack 1 none 0 0 := C
  have hp : t0 = t0 := rfl
  show J X 0 [(0, .ref (Xad X k))] [] σ
  unfold f_X7_goBack at hf
  refine J.aload_n (pc := 0) C dX7_goBack_0 rfl 0 rfl ?_
  refine J.iconst (pc := 1) C (v := 0) dX7_goBack_1 (by decide) ?_
  refine J.putM (pc := 2) C kcX7 hk 1 rfl tw_179 rfl rfl rfl rfl hf dX7_goBack_2 (fun σ_1 hf => ?_)
  refine J.aload_n (pc := 5) C dX7_goBack_5 rfl 0 rfl ?_
  refine J.iconst (pc := 6) C (v := 0) dX7_goBack_6 (by decide) ?_
  refine J.putM (pc := 7) C kcX7 hk 2 rfl tw_180 rfl rfl rfl rfl hf dX7_goBack_7 (fun σ_2 hf => ?_)
  refine J.aload_n (pc := 10) C dX7_goBack_10 rfl 0 rfl ?_
  refine J.iconst (pc := 11) C (v := 0) dX7_goBack_11 (by decide) ?_
  refine J.putM (pc := 12) C kcX7 hk 3 rfl tw_183 rfl rfl rfl rfl hf dX7_goBack_12 (fun σ_3 hf => ?_)
  exact J.vretM (pc := 15) C hR ((Option.some.inj hf).trans hp) dX7_goBack_15
set_option maxHeartbeats 4000000 in
set_option maxRecDepth 100000 in
theorem m_X5_goBack {l : Launch} {n : Nat} {σ : Mem} {k : Nat} {t0 : Mem} (hf : f_X5_goBack n σ k = some t0) : Ct l yX5_goBack cX5_goBack 1 none 2 41 (fun ks => Ok ks k 5) (fun ad => [.ref (ad k)]) σ (fun _ => none) t0 := by
  refine Ct.of (plainFor_of_name (by decide)) (fun _ => Nat.le_of_ble_eq_true rfl) ?_
  intro X C _ hk hcl hR
  have C : Cx X RX5 cX5_goBack 1 none 2 41 := C
  have hp : t0 = t0 := rfl
  show J X 0 [(0, .ref (Xad X k))] [] σ
  unfold f_X5_goBack at hf
  refine J.aload_n (pc := 0) C dX5_goBack_0 rfl 0 rfl ?_
  refine J.getR (pc := 1) C kcX5 hk 1 rfl tw_221 rfl dX5_goBack_1 ?_
  obtain ⟨σ_3, h_1, hf⟩ := bnd_some hf
  refine J.callV (pc := 4) C (m_X1_goBack h_1) (ok_5_1 hcl hk) wyX1_goBack tvX1_goBack_i tvX1_goBack_s tw_335 kcX1 rfl (ok_5_1 hcl hk) [] [] rfl rfl (Nat.le_of_ble_eq_true rfl) (Nat.le_of_ble_eq_true rfl) (Nat.le_of_ble_eq_true rfl) (stk' := []) rfl dX5_goBack_4 rfl ?_
  refine J.aload_n (pc := 7) C dX5_goBack_7 rfl 0 rfl ?_
  refine J.getR (pc := 8) C kcX5 hk 2 rfl tw_223 rfl dX5_goBack_8 ?_
  obtain ⟨σ_6, h_4, hf⟩ := bnd_some hf
  refine J.callV (pc := 11) C (m_X3_goBack h_4) (ok_5_2 hcl hk) wyX3_goBack tvX3_goBack_i tvX3_goBack_s tw_342 kcX3 rfl (ok_5_2 hcl hk) [] [] rfl rfl (Nat.le_of_ble_eq_true rfl) (Nat.le_of_ble_eq_true rfl) (Nat.le_of_ble_eq_true rfl) (stk' := []) rfl dX5_goBack_11 rfl ?_
  refine J.aload_n (pc := 14) C dX5_goBack_14 rfl 0 rfl ?_
  refine J.getR (pc := 15) C kcX5 hk 3 rfl tw_225 rfl dX5_goBack_15 ?_
  obtain ⟨σ_9, h_7, hf⟩ := bnd_some hf
  refine J.callV (pc := 18) C (m_X7_goBack h_7) (ok_5_3 hcl hk) wyX7_goBack tvX7_goBack_i tvX7_goBack_s tw_347 kcX7 rfl (ok_5_3 hcl hk) [] [] rfl rfl (Nat.le_of_ble_eq_true rfl) (Nat.le_of_ble_eq_true rfl) (Nat.le_of_ble_eq_true rfl) (stk' := []) rfl dX5_goBack_18 rfl ?_
  refine J.aload_n (pc := 21) C dX5_goBack_21 rfl 0 rfl ?_
  refine J.iconst (pc := 22) C (v := 0) dX5_goBack_22 (by decide) ?_
  refine J.putM (pc := 23) C kcX5 hk 5 rfl tw_229 rfl rfl rfl rfl hf dX5_goBack_23 (fun σ_10 hf => ?_)
  refine J.aload_n (pc := 26) C dX5_goBack_26 rfl 0 rfl ?_
  refine J.iconst (pc := 27) C (v := 0) dX5_goBack_27 (by decide) ?_
  refine J.putM (pc := 28) C kcX5 hk 6 rfl tw_231 rfl rfl rfl rfl hf dX5_goBack_28 (fun σ_11 hf => ?_)
  exact J.vretM (pc := 31) C hR ((Option.some.inj hf).trans hp) dX5_goBack_31
set_option maxHeartbeats 4000000 in
set_option maxRecDepth 100000 in
theorem m_X5_begin {l : Launch} {n : Nat} {σ : Mem} {k : Nat} {x1 : Int32} {t0 : Mem} (hf : f_X5_begin n σ k x1 = some t0) : Ct l yX5_begin cX5_begin 2 none 3 61 (fun ks => Ok ks k 5) (fun ad => [.ref (ad k), .int x1]) σ (fun _ => none) t0 := by
  refine Ct.of (plainFor_of_name (by decide)) (fun _ => Nat.le_of_ble_eq_true rfl) ?_
  intro X C _ hk hcl hR
  have C : Cx X RX5 cX5_begin 2 none 3 61 := C
  have hp : t0 = t0 := rfl
  show J X 0 [(0, .ref (Xad X k)), (1, .int x1)] [] σ
  unfold f_X5_begin at hf
  refine J.aload_n (pc := 0) C dX5_begin_0 rfl 0 rfl ?_
  refine J.getR (pc := 1) C kcX5 hk 0 rfl tw_219 rfl dX5_begin_1 ?_
  obtain ⟨σ_3, h_1, hf⟩ := bnd_some hf
  refine J.callV (pc := 4) C (m_X4_reset h_1) (ok_5_0 hcl hk) wyX4_reset tvX4_reset_i tvX4_reset_s tw_325 kcX4 rfl (ok_5_0 hcl hk) [] [] rfl rfl (Nat.le_of_ble_eq_true rfl) (Nat.le_of_ble_eq_true rfl) (Nat.le_of_ble_eq_true rfl) (stk' := []) rfl dX5_begin_4 rfl ?_
  refine J.aload_n (pc := 7) C dX5_begin_7 rfl 0 rfl ?_
  refine J.getR (pc := 8) C kcX5 hk 1 rfl tw_221 rfl dX5_begin_8 ?_
  refine J.iload_n (pc := 11) C dX5_begin_11 rfl 1 rfl ?_
  obtain ⟨σ_6, h_4, hf⟩ := bnd_some hf
  refine J.callV (pc := 12) C (m_X1_begin h_4) (ok_5_1 hcl hk) wyX1_begin tvX1_begin_i tvX1_begin_s tw_326 kcX1 rfl (ok_5_1 hcl hk) [.int x1] [] rfl rfl (Nat.le_of_ble_eq_true rfl) (Nat.le_of_ble_eq_true rfl) (Nat.le_of_ble_eq_true rfl) (stk' := []) rfl dX5_begin_12 rfl ?_
  refine J.aload_n (pc := 15) C dX5_begin_15 rfl 0 rfl ?_
  refine J.getR (pc := 16) C kcX5 hk 2 rfl tw_223 rfl dX5_begin_16 ?_
  refine J.getR (pc := 19) C kcX3 (ok_5_2 hcl hk) 0 rfl tw_153 rfl dX5_begin_19 ?_
  obtain ⟨σ_9, h_7, hf⟩ := bnd_some hf
  refine J.callV (pc := 22) C (m_X4_reset h_7) (ok_3_0 hcl (ok_5_2 hcl hk)) wyX4_reset tvX4_reset_i tvX4_reset_s tw_325 kcX4 rfl (ok_3_0 hcl (ok_5_2 hcl hk)) [] [] rfl rfl (Nat.le_of_ble_eq_true rfl) (Nat.le_of_ble_eq_true rfl) (Nat.le_of_ble_eq_true rfl) (stk' := []) rfl dX5_begin_22 rfl ?_
  refine J.aload_n (pc := 25) C dX5_begin_25 rfl 0 rfl ?_
  refine J.getR (pc := 26) C kcX5 hk 3 rfl tw_225 rfl dX5_begin_26 ?_
  refine J.iconst (pc := 29) C (v := 0) dX5_begin_29 (by decide) ?_
  refine J.putM (pc := 30) C kcX7 (ok_5_3 hcl hk) 0 rfl tw_177 rfl rfl rfl rfl hf dX5_begin_30 (fun σ_10 hf => ?_)
  refine J.aload_n (pc := 33) C dX5_begin_33 rfl 0 rfl ?_
  refine J.getR (pc := 34) C kcX5 hk 4 rfl tw_227 rfl dX5_begin_34 ?_
  refine J.iconst (pc := 37) C (v := 0) dX5_begin_37 (by decide) ?_
  refine J.putM (pc := 38) C kcX0 (ok_5_4 hcl hk) 3 rfl tw_207 rfl rfl rfl rfl hf dX5_begin_38 (fun σ_11 hf => ?_)
  refine J.aload_n (pc := 41) C dX5_begin_41 rfl 0 rfl ?_
  obtain ⟨σ_14, h_12, hf⟩ := bnd_some hf
  refine J.callV (pc := 42) C (m_X5_goBack h_12) hk wyX5_goBack tvX5_goBack_i tvX5_goBack_s tw_331 kcX5 rfl hk [] [] rfl rfl (Nat.le_of_ble_eq_true rfl) (Nat.le_of_ble_eq_true rfl) (Nat.le_of_ble_eq_true rfl) (stk' := []) rfl dX5_begin_42 rfl ?_
  exact J.vretM (pc := 45) C hR ((Option.some.inj hf).trans hp) dX5_begin_45
set_option maxHeartbeats 4000000 in
set_option maxRecDepth 100000 in
theorem m_X7_copy {l : Launch} {σ : Mem} {k : Nat} {x1 : Nat} {t0 : Mem} (hf : f_X7_copy σ k x1 = some t0) : Ct l yX7_copy cX7_copy 2 none 0 0 (fun ks => Ok ks k 7 ∧ Ok ks x1 7) (fun ad => [.ref (ad k), .ref (ad x1)]) σ (fun _ => none) t0 := by
  refine Ct.of (plainFor_of_name (by decide)) (fun _ => Nat.le_of_ble_eq_true rfl) ?_
  intro X C _ hok hcl hR
  obtain ⟨hk, hx1⟩ := hok
  have C : Cx X RX7 cX7_copy 2 none 0 0 := C
  have hp : t0 = t0 := rfl
  show J X 0 [(0, .ref (Xad X k)), (1, .ref (Xad X x1))] [] σ
  unfold f_X7_copy at hf
  refine J.aload_n (pc := 0) C dX7_copy_0 rfl 0 rfl ?_
  refine J.aload_n (pc := 1) C dX7_copy_1 rfl 1 rfl ?_
  refine J.getI (pc := 2) C kcX7 hx1 0 rfl tw_176 rfl dX7_copy_2 ?_
  refine J.putM (pc := 5) C kcX7 hk 0 rfl tw_176 rfl rfl rfl rfl hf dX7_copy_5 (fun σ_1 hf => ?_)
  refine J.aload_n (pc := 8) C dX7_copy_8 rfl 0 rfl ?_
  refine J.aload_n (pc := 9) C dX7_copy_9 rfl 1 rfl ?_
  refine J.getI (pc := 10) C kcX7 hx1 1 rfl tw_179 rfl dX7_copy_10 ?_
  refine J.putM (pc := 13) C kcX7 hk 1 rfl tw_179 rfl rfl rfl rfl hf dX7_copy_13 (fun σ_2 hf => ?_)
  refine J.aload_n (pc := 16) C dX7_copy_16 rfl 0 rfl ?_
  refine J.aload_n (pc := 17) C dX7_copy_17 rfl 1 rfl ?_
  refine J.getI (pc := 18) C kcX7 hx1 2 rfl tw_180 rfl dX7_copy_18 ?_
  refine J.putM (pc := 21) C kcX7 hk 2 rfl tw_180 rfl rfl rfl rfl hf dX7_copy_21 (fun σ_3 hf => ?_)
  refine J.aload_n (pc := 24) C dX7_copy_24 rfl 0 rfl ?_
  refine J.aload_n (pc := 25) C dX7_copy_25 rfl 1 rfl ?_
  refine J.getI (pc := 26) C kcX7 hx1 3 rfl tw_183 rfl dX7_copy_26 ?_
  refine J.putM (pc := 29) C kcX7 hk 3 rfl tw_183 rfl rfl rfl rfl hf dX7_copy_29 (fun σ_4 hf => ?_)
  exact J.vretM (pc := 32) C hR ((Option.some.inj hf).trans hp) dX7_copy_32
set_option maxHeartbeats 4000000 in
set_option maxRecDepth 100000 in
theorem m_X5_copy {l : Launch} {σ : Mem} {k : Nat} {x1 : Nat} {t0 : Mem} (hf : f_X5_copy σ k x1 = some t0) : Ct l yX5_copy cX5_copy 2 none 4 81 (fun ks => Ok ks k 5 ∧ Ok ks x1 5) (fun ad => [.ref (ad k), .ref (ad x1)]) σ (fun _ => none) t0 := by
  refine Ct.of (plainFor_of_name (by decide)) (fun _ => Nat.le_of_ble_eq_true rfl) ?_
  intro X C _ hok hcl hR
  obtain ⟨hk, hx1⟩ := hok
  have C : Cx X RX5 cX5_copy 2 none 4 81 := C
  have hp : t0 = t0 := rfl
  show J X 0 [(0, .ref (Xad X k)), (1, .ref (Xad X x1))] [] σ
  unfold f_X5_copy at hf
  refine J.aload_n (pc := 0) C dX5_copy_0 rfl 0 rfl ?_
  refine J.getR (pc := 1) C kcX5 hk 0 rfl tw_219 rfl dX5_copy_1 ?_
  refine J.aload_n (pc := 4) C dX5_copy_4 rfl 1 rfl ?_
  refine J.getR (pc := 5) C kcX5 hx1 0 rfl tw_219 rfl dX5_copy_5 ?_
  obtain ⟨σ_3, h_1, hf⟩ := bnd_some hf
  refine J.callV (pc := 8) C (m_X4_copy h_1) ⟨(ok_5_0 hcl hk), (ok_5_0 hcl hx1)⟩ wyX4_copy tvX4_copy_i tvX4_copy_s tw_584 kcX4 rfl (ok_5_0 hcl hk) [.ref (Xad X (ptr x1 0))] [] rfl rfl (Nat.le_of_ble_eq_true rfl) (Nat.le_of_ble_eq_true rfl) (Nat.le_of_ble_eq_true rfl) (stk' := []) rfl dX5_copy_8 rfl ?_
  refine J.aload_n (pc := 11) C dX5_copy_11 rfl 0 rfl ?_
  refine J.getR (pc := 12) C kcX5 hk 1 rfl tw_221 rfl dX5_copy_12 ?_
  refine J.aload_n (pc := 15) C dX5_copy_15 rfl 1 rfl ?_
  refine J.getR (pc := 16) C kcX5 hx1 1 rfl tw_221 rfl dX5_copy_16 ?_
  obtain ⟨σ_6, h_4, hf⟩ := bnd_some hf
  refine J.callV (pc := 19) C (m_X1_copy h_4) ⟨(ok_5_1 hcl hk), (ok_5_1 hcl hx1)⟩ wyX1_copy tvX1_copy_i tvX1_copy_s tw_592 kcX1 rfl (ok_5_1 hcl hk) [.ref (Xad X (ptr x1 1))] [] rfl rfl (Nat.le_of_ble_eq_true rfl) (Nat.le_of_ble_eq_true rfl) (Nat.le_of_ble_eq_true rfl) (stk' := []) rfl dX5_copy_19 rfl ?_
  refine J.aload_n (pc := 22) C dX5_copy_22 rfl 0 rfl ?_
  refine J.getR (pc := 23) C kcX5 hk 2 rfl tw_223 rfl dX5_copy_23 ?_
  refine J.aload_n (pc := 26) C dX5_copy_26 rfl 1 rfl ?_
  refine J.getR (pc := 27) C kcX5 hx1 2 rfl tw_223 rfl dX5_copy_27 ?_
  obtain ⟨σ_9, h_7, hf⟩ := bnd_some hf
  refine J.callV (pc := 30) C (m_X3_copy h_7) ⟨(ok_5_2 hcl hk), (ok_5_2 hcl hx1)⟩ wyX3_copy tvX3_copy_i tvX3_copy_s tw_598 kcX3 rfl (ok_5_2 hcl hk) [.ref (Xad X (ptr x1 2))] [] rfl rfl (Nat.le_of_ble_eq_true rfl) (Nat.le_of_ble_eq_true rfl) (Nat.le_of_ble_eq_true rfl) (stk' := []) rfl dX5_copy_30 rfl ?_
  refine J.aload_n (pc := 33) C dX5_copy_33 rfl 0 rfl ?_
  refine J.getR (pc := 34) C kcX5 hk 3 rfl tw_225 rfl dX5_copy_34 ?_
  refine J.aload_n (pc := 37) C dX5_copy_37 rfl 1 rfl ?_
  refine J.getR (pc := 38) C kcX5 hx1 3 rfl tw_225 rfl dX5_copy_38 ?_
  obtain ⟨σ_12, h_10, hf⟩ := bnd_some hf
  refine J.callV (pc := 41) C (m_X7_copy h_10) ⟨(ok_5_3 hcl hk), (ok_5_3 hcl hx1)⟩ wyX7_copy tvX7_copy_i tvX7_copy_s tw_604 kcX7 rfl (ok_5_3 hcl hk) [.ref (Xad X (ptr x1 3))] [] rfl rfl (Nat.le_of_ble_eq_true rfl) (Nat.le_of_ble_eq_true rfl) (Nat.le_of_ble_eq_true rfl) (stk' := []) rfl dX5_copy_41 rfl ?_
  refine J.aload_n (pc := 44) C dX5_copy_44 rfl 0 rfl ?_
  refine J.getR (pc := 45) C kcX5 hk 4 rfl tw_227 rfl dX5_copy_45 ?_
  refine J.aload_n (pc := 48) C dX5_copy_48 rfl 1 rfl ?_
  refine J.getR (pc := 49) C kcX5 hx1 4 rfl tw_227 rfl dX5_copy_49 ?_
  obtain ⟨σ_15, h_13, hf⟩ := bnd_some hf
  refine J.callV (pc := 52) C (m_X0_copy h_13) ⟨(ok_5_4 hcl hk), (ok_5_4 hcl hx1)⟩ wyX0_copy tvX0_copy_i tvX0_copy_s tw_608 kcX0 rfl (ok_5_4 hcl hk) [.ref (Xad X (ptr x1 4))] [] rfl rfl (Nat.le_of_ble_eq_true rfl) (Nat.le_of_ble_eq_true rfl) (Nat.le_of_ble_eq_true rfl) (stk' := []) rfl dX5_copy_52 rfl ?_
  refine J.aload_n (pc := 55) C dX5_copy_55 rfl 0 rfl ?_
  refine J.aload_n (pc := 56) C dX5_copy_56 rfl 1 rfl ?_
  refine J.getI (pc := 57) C kcX5 hx1 5 rfl tw_229 rfl dX5_copy_57 ?_
  refine J.putM (pc := 60) C kcX5 hk 5 rfl tw_229 rfl rfl rfl rfl hf dX5_copy_60 (fun σ_16 hf => ?_)
  refine J.aload_n (pc := 63) C dX5_copy_63 rfl 0 rfl ?_
  refine J.aload_n (pc := 64) C dX5_copy_64 rfl 1 rfl ?_
  refine J.getI (pc := 65) C kcX5 hx1 6 rfl tw_231 rfl dX5_copy_65 ?_
  refine J.putM (pc := 68) C kcX5 hk 6 rfl tw_231 rfl rfl rfl rfl hf dX5_copy_68 (fun σ_17 hf => ?_)
  exact J.vretM (pc := 71) C hR ((Option.some.inj hf).trans hp) dX5_copy_71
set_option maxHeartbeats 4000000 in
set_option maxRecDepth 100000 in
theorem m_X7_enter {l : Launch} {σ : Mem} {k : Nat} {x1 : Int32} {t0 : Mem} (hf : f_X7_enter σ k x1 = some t0) : Ct l yX7_enter cX7_enter 2 none 0 0 (fun ks => Ok ks k 7) (fun ad => [.ref (ad k), .int x1]) σ (fun _ => none) t0 := by
  refine Ct.of (plainFor_of_name (by decide)) (fun _ => Nat.le_of_ble_eq_true rfl) ?_
  intro X C _ hk hcl hR
  have C : Cx X RX7 cX7_enter 2 none 0 0 := C
  have hp : t0 = t0 := rfl
  show J X 0 [(0, .ref (Xad X k)), (1, .int x1)] [] σ
  unfold f_X7_enter at hf
  refine J.aload_n (pc := 0) C dX7_enter_0 rfl 0 rfl ?_
  refine J.iload_n (pc := 1) C dX7_enter_1 rfl 1 rfl ?_
  refine J.putM (pc := 2) C kcX7 hk 2 rfl tw_180 rfl rfl rfl rfl hf dX7_enter_2 (fun σ_1 hf => ?_)
  refine J.aload_n (pc := 5) C dX7_enter_5 rfl 0 rfl ?_
  refine J.iconst (pc := 6) C (v := 0) dX7_enter_6 (by decide) ?_
  refine J.putM (pc := 7) C kcX7 hk 3 rfl tw_183 rfl rfl rfl rfl hf dX7_enter_7 (fun σ_2 hf => ?_)
  exact J.vretM (pc := 10) C hR ((Option.some.inj hf).trans hp) dX7_enter_10
set_option maxHeartbeats 4000000 in
set_option maxRecDepth 100000 in
theorem m_X7_calmDown {l : Launch} {σ : Mem} {k : Nat} {x1 : Int32} {t0 : Mem} (hf : f_X7_calmDown σ k x1 = some t0) : Ct l yX7_calmDown cX7_calmDown 2 none 1 21 (fun ks => Ok ks k 7) (fun ad => [.ref (ad k), .int x1]) σ (fun _ => none) t0 := by
  refine Ct.of (plainFor_of_name (by decide)) (fun _ => Nat.le_of_ble_eq_true rfl) ?_
  intro X C _ hk hcl hR
  have C : Cx X RX7 cX7_calmDown 2 none 1 21 := C
  have hp : t0 = t0 := rfl
  show J X 0 [(0, .ref (Xad X k)), (1, .int x1)] [] σ
  unfold f_X7_calmDown at hf
  refine J.aload_n (pc := 0) C dX7_calmDown_0 rfl 0 rfl ?_
  refine J.dup (pc := 1) C dX7_calmDown_1 rfl ?_
  refine J.getI (pc := 2) C kcX7 hk 3 rfl tw_183 rfl dX7_calmDown_2 ?_
  refine J.iconst (pc := 5) C (v := 1) dX7_calmDown_5 (by decide) ?_
  refine J.iadd (pc := 6) C dX7_calmDown_6 ?_
  refine J.putM (pc := 7) C kcX7 hk 3 rfl tw_183 rfl rfl rfl rfl hf dX7_calmDown_7 (fun σ_1 hf => ?_)
  refine J.aload_n (pc := 10) C dX7_calmDown_10 rfl 0 rfl ?_
  refine J.getI (pc := 11) C kcX7 hk 3 rfl tw_183 rfl dX7_calmDown_11 ?_
  refine J.iload_n (pc := 14) C dX7_calmDown_14 rfl 1 rfl ?_
  refine J.icmp_lt (pc := 15) C (tgt := 28) dX7_calmDown_15 (by decide) hf (fun hf => ?_) (fun hf => ?_)
  · exact J.vretM (pc := 28) C hR ((Option.some.inj hf).trans hp) dX7_calmDown_28
  · refine J.aload_n (pc := 18) C dX7_calmDown_18 rfl 0 rfl ?_
    refine J.aload_n (pc := 19) C dX7_calmDown_19 rfl 0 rfl ?_
    refine J.getI (pc := 20) C kcX7 hk 2 rfl tw_180 rfl dX7_calmDown_20 ?_
    refine J.iconst (pc := 23) C (v := 1) dX7_calmDown_23 (by decide) ?_
    refine J.isub (pc := 24) C dX7_calmDown_24 ?_
    obtain ⟨σ_4, h_2, hf⟩ := bnd_some hf
    refine J.callV (pc := 25) C (m_X7_enter h_2) hk wyX7_enter tvX7_enter_i tvX7_enter_s tw_451 kcX7 rfl hk [.int ((σ_1 k 2) - 1)] [] rfl rfl (Nat.le_of_ble_eq_true rfl) (Nat.le_of_ble_eq_true rfl) (Nat.le_of_ble_eq_true rfl) (stk' := []) rfl dX7_calmDown_25 rfl ?_
    exact J.vretM (pc := 28) C hR ((Option.some.inj hf).trans hp) dX7_calmDown_28
set_option maxHeartbeats 4000000 in
set_option maxRecDepth 100000 in
theorem m_X7_measured {l : Launch} {σ : Mem} {k : Nat} {t0 : Int32} (hf : f_X7_measured σ k = some t0) : Ct l yX7_measured cX7_measured 1 (some FieldType.int) 0 0 (fun ks => Ok ks k 7) (fun ad => [.ref (ad k)]) σ (fun _ => some (.int t0)) σ := by
  refine Ct.of (plainFor_of_name (by decide)) (fun _ => Nat.le_of_ble_eq_true rfl) ?_
  intro X C _ hk hcl hR
  have C : Cx X RX7 cX7_measured 1 (some FieldType.int) 0 0 := C
  have hp : t0 = t0 := rfl
  show J X 0 [(0, .ref (Xad X k))] [] σ
  unfold f_X7_measured at hf
  refine J.aload_n (pc := 0) C dX7_measured_0 rfl 0 rfl ?_
  refine J.getI (pc := 1) C kcX7 hk 1 rfl tw_179 rfl dX7_measured_1 ?_
  refine J.sipush (pc := 4) C (v := 1024) dX7_measured_4 (by decide) ?_
  refine J.idiv (pc := 7) C dX7_measured_7 (by decide) ?_
  exact J.iretP (pc := 8) C hR ((Option.some.inj hf).trans hp) dX7_measured_8
set_option maxHeartbeats 4000000 in
set_option maxRecDepth 100000 in
theorem m_X7_blow {l : Launch} {σ : Mem} {k : Nat} {x1 : Nat} {t0 : Mem} (hf : f_X7_blow σ k x1 = some t0) : Ct l yX7_blow cX7_blow 4 none 2 48 (fun ks => Ok ks k 7 ∧ Ok ks x1 4) (fun ad => [.ref (ad k), .ref (ad x1)]) σ (fun _ => none) t0 := by
  refine Ct.of (plainFor_of_name (by decide)) (fun _ => Nat.le_of_ble_eq_true rfl) ?_
  intro X C _ hok hcl hR
  obtain ⟨hk, hx1⟩ := hok
  have C : Cx X RX7 cX7_blow 4 none 2 48 := C
  have L130 : ∀ (σ : Mem) (t : Mem), f_X7_blow_L130 σ k x1 = some t → t = t0 → J X 130 [(0, .ref (Xad X k))] [] σ := by
    intro σ t hf hp
    unfold f_X7_blow_L130 at hf
    refine J.aload_n (pc := 130) C dX7_blow_130 rfl 0 rfl ?_
    refine J.iconst (pc := 131) C (v := 0) dX7_blow_131 (by decide) ?_
    refine J.putM (pc := 132) C kcX7 hk 3 rfl tw_183 rfl rfl rfl rfl hf dX7_blow_132 (fun σ_14 hf => ?_)
    exact J.vretM (pc := 135) C hR ((Option.some.inj hf).trans hp) dX7_blow_135
  have L111 : ∀ (σ : Mem) (y0 : Int32) (y1 : Int32) (t : Mem), f_X7_blow_L111 σ k x1 y0 y1 = some t → t = t0 → J X 111 [(0, .ref (Xad X k)), (1, .ref (Xad X x1))] [.int y0, .int y1] σ := by
    intro σ y0 y1 t hf hp
    unfold f_X7_blow_L111 at hf
    refine J.bipush (pc := 111) C (v := 10) dX7_blow_111 (by decide) ?_
    refine J.isub (pc := 113) C dX7_blow_113 ?_
    refine J.icmp_ge (pc := 114) C (tgt := 130) dX7_blow_114 (by decide) hf (fun hf => ?_) (fun hf => ?_)
    · exact J.sub (loc' := [(0, .ref (Xad X k))]) [0] rfl (L130 σ _ hf hp)
    · refine J.aload_n (pc := 117) C dX7_blow_117 rfl 0 rfl ?_
      refine J.aload_n (pc := 118) C dX7_blow_118 rfl 1 rfl ?_
      refine J.iconst (pc := 119) C (v := 0) dX7_blow_119 (by decide) ?_
      refine J.iconst (pc := 120) C (v := 4) dX7_blow_120 (by decide) ?_
      obtain ⟨r_18, h_17, hf⟩ := bnd_some hf
      refine J.callV (pc := 121) C (m_X4_value h_17) hx1 wyX4_value tvX4_value_i tvX4_value_s tw_443 kcX4 rfl hx1 [.int 0, .int 4] [.ref (Xad X k)] rfl rfl (Nat.le_of_ble_eq_true rfl) (Nat.le_of_ble_eq_true rfl) (Nat.le_of_ble_eq_true rfl) (stk' := [.int r_18, .ref (Xad X k)]) rfl dX7_blow_121 rfl ?_
      obtain ⟨σ_21, h_19, hf⟩ := bnd_some hf
      refine J.callV (pc := 124) C (m_X7_calmDown h_19) hk wyX7_calmDown tvX7_calmDown_i tvX7_calmDown_s tw_455 kcX7 rfl hk [.int r_18] [] rfl rfl (Nat.le_of_ble_eq_true rfl) (Nat.le_of_ble_eq_true rfl) (Nat.le_of_ble_eq_true rfl) (stk' := []) rfl dX7_blow_124 rfl ?_
      refine J.goto (pc := 127) C (tgt := 135) dX7_blow_127 (by decide) ?_
      exact J.vretM (pc := 135) C hR ((Option.some.inj hf).trans hp) dX7_blow_135
  have L87 : ∀ (σ : Mem) (x2 : Int32) (x3 : Int32) (t : Mem), f_X7_blow_L87 σ k x1 x2 x3 = some t → t = t0 → J X 87 [(0, .ref (Xad X k)), (1, .ref (Xad X x1)), (2, .int x2), (3, .int x3)] [] σ := by
    intro σ x2 x3 t hf hp
    unfold f_X7_blow_L87 at hf
    refine J.aload_n (pc := 87) C dX7_blow_87 rfl 0 rfl ?_
    refine J.getI (pc := 88) C kcX7 hk 2 rfl tw_180 rfl dX7_blow_88 ?_
    refine J.if_le (pc := 91) C (tgt := 130) dX7_blow_91 (by decide) hf (fun hf => ?_) (fun hf => ?_)
    · exact J.sub (loc' := [(0, .ref (Xad X k))]) [0] rfl (L130 σ _ hf hp)
    · refine J.aload_n (pc := 94) C dX7_blow_94 rfl 0 rfl ?_
      obtain ⟨r_16, h_15, hf⟩ := bnd_some hf
      refine J.callV (pc := 95) C (m_X7_measured h_15) hk wyX7_measured tvX7_measured_i tvX7_measured_s tw_450 kcX7 rfl hk [] [] rfl rfl (Nat.le_of_ble_eq_true rfl) (Nat.le_of_ble_eq_true rfl) (Nat.le_of_ble_eq_true rfl) (stk' := [.int r_16]) rfl dX7_blow_95 rfl ?_
      refine J.aload_n (pc := 98) C dX7_blow_98 rfl 0 rfl ?_
      refine J.getI (pc := 99) C kcX7 hk 2 rfl tw_180 rfl dX7_blow_99 ?_
      refine J.iconst (pc := 102) C (v := 2) dX7_blow_102 (by decide) ?_
      refine J.icmp_ne (pc := 103) C (tgt := 110) dX7_blow_103 (by decide) hf (fun hf => ?_) (fun hf => ?_)
      · refine J.iload_n (pc := 110) C dX7_blow_110 rfl 2 rfl ?_
        exact J.sub (loc' := [(0, .ref (Xad X k)), (1, .ref (Xad X x1))]) [0, 1] rfl (L111 σ x2 r_16 _ hf hp)
      · refine J.iload_n (pc := 106) C dX7_blow_106 rfl 3 rfl ?_
        refine J.goto (pc := 107) C (tgt := 111) dX7_blow_107 (by decide) ?_
        exact J.sub (loc' := [(0, .ref (Xad X k)), (1, .ref (Xad X x1))]) [0, 1] rfl (L111 σ x3 r_16 _ hf hp)
  have hp : t0 = t0 := rfl
  show J X 0 [(0, .ref (Xad X k)), (1, .ref (Xad X x1))] [] σ
  unfold f_X7_blow at hf
  refine J.aload_n (pc := 0) C dX7_blow_0 rfl 0 rfl ?_
  refine J.dup (pc := 1) C dX7_blow_1 rfl ?_
  refine J.getI (pc := 2) C kcX7 hk 1 rfl tw_179 rfl dX7_blow_2 ?_
  refine J.sipush (pc := 5) C (v := 1024) dX7_blow_5 (by decide) ?_
  refine J.aload_n (pc := 8) C dX7_blow_8 rfl 0 rfl ?_
  refine J.getI (pc := 9) C kcX7 hk 0 rfl tw_176 rfl dX7_blow_9 ?_
  refine J.imul (pc := 12) C dX7_blow_12 ?_
  refine J.aload_n (pc := 13) C dX7_blow_13 rfl 0 rfl ?_
  refine J.getI (pc := 14) C kcX7 hk 1 rfl tw_179 rfl dX7_blow_14 ?_
  refine J.isub (pc := 17) C dX7_blow_17 ?_
  refine J.i2l (pc := 18) C dX7_blow_18 ?_
  refine J.aload_n (pc := 19) C dX7_blow_19 rfl 1 rfl ?_
  refine J.iconst (pc := 20) C (v := 0) dX7_blow_20 (by decide) ?_
  refine J.iconst (pc := 21) C (v := 0) dX7_blow_21 (by decide) ?_
  obtain ⟨r_2, h_1, hf⟩ := bnd_some hf
  refine J.callV (pc := 22) C (m_X4_value h_1) hx1 wyX4_value tvX4_value_i tvX4_value_s tw_443 kcX4 rfl hx1 [.int 0, .int 0] [.long (((1024 * (σ k 0)) - (σ k 1)).toInt64), .int (σ k 1), .ref (Xad X k)] rfl rfl (Nat.le_of_ble_eq_true rfl) (Nat.le_of_ble_eq_true rfl) (Nat.le_of_ble_eq_true rfl) (stk' := [.int r_2, .long (((1024 * (σ k 0)) - (σ k 1)).toInt64), .int (σ k 1), .ref (Xad X k)]) rfl dX7_blow_22 rfl ?_
  refine J.i2l (pc := 25) C dX7_blow_25 ?_
  obtain ⟨r_4, h_3, hf⟩ := bnd_some hf
  refine J.callSN (pc := 26) C (m_X8_quotient h_3) trivial wyX8_quotient tsX8_quotient tn_444 [.long (((1024 * (σ k 0)) - (σ k 1)).toInt64), .long (r_2.toInt64)] [.int (σ k 1), .ref (Xad X k)] rfl rfl (Nat.le_of_ble_eq_true rfl) (Nat.le_of_ble_eq_true rfl) (Nat.le_of_ble_eq_true rfl) (stk' := [.long r_4, .int (σ k 1), .ref (Xad X k)]) rfl dX7_blow_26 rfl ?_
  refine J.l2i (pc := 29) C dX7_blow_29 ?_
  refine J.iadd (pc := 30) C dX7_blow_30 ?_
  refine J.putM (pc := 31) C kcX7 hk 1 rfl tw_179 rfl rfl rfl rfl hf dX7_blow_31 (fun σ_5 hf => ?_)
  refine J.aload_n (pc := 34) C dX7_blow_34 rfl 1 rfl ?_
  refine J.iconst (pc := 35) C (v := 0) dX7_blow_35 (by decide) ?_
  refine J.iconst (pc := 36) C (v := 1) dX7_blow_36 (by decide) ?_
  obtain ⟨r_7, h_6, hf⟩ := bnd_some hf
  refine J.callV (pc := 37) C (m_X4_value h_6) hx1 wyX4_value tvX4_value_i tvX4_value_s tw_443 kcX4 rfl hx1 [.int 0, .int 1] [] rfl rfl (Nat.le_of_ble_eq_true rfl) (Nat.le_of_ble_eq_true rfl) (Nat.le_of_ble_eq_true rfl) (stk' := [.int r_7]) rfl dX7_blow_37 rfl ?_
  refine J.istore_n (pc := 40) C (loc' := [(2, .int r_7), (0, .ref (Xad X k)), (1, .ref (Xad X x1))]) dX7_blow_40 rfl (by decide) rfl ?_
  refine J.aload_n (pc := 41) C dX7_blow_41 rfl 2 rfl ?_
  refine J.iconst (pc := 42) C (v := 0) dX7_blow_42 (by decide) ?_
  refine J.iconst (pc := 43) C (v := 2) dX7_blow_43 (by decide) ?_
  obtain ⟨r_9, h_8, hf⟩ := bnd_some hf
  refine J.callV (pc := 44) C (m_X4_value h_8) hx1 wyX4_value tvX4_value_i tvX4_value_s tw_443 kcX4 rfl hx1 [.int 0, .int 2] [] rfl rfl (Nat.le_of_ble_eq_true rfl) (Nat.le_of_ble_eq_true rfl) (Nat.le_of_ble_eq_true rfl) (stk' := [.int r_9]) rfl dX7_blow_44 rfl ?_
  refine J.istore_n (pc := 47) C (loc' := [(3, .int r_9), (2, .int r_7), (0, .ref (Xad X k)), (1, .ref (Xad X x1))]) dX7_blow_47 rfl (by decide) rfl ?_
  refine J.aload_n (pc := 48) C dX7_blow_48 rfl 2 rfl ?_
  obtain ⟨r_11, h_10, hf⟩ := bnd_some hf
  refine J.callV (pc := 49) C (m_X7_measured h_10) hk wyX7_measured tvX7_measured_i tvX7_measured_s tw_450 kcX7 rfl hk [] [] rfl rfl (Nat.le_of_ble_eq_true rfl) (Nat.le_of_ble_eq_true rfl) (Nat.le_of_ble_eq_true rfl) (stk' := [.int r_11]) rfl dX7_blow_49 rfl ?_
  refine J.iload_n (pc := 52) C dX7_blow_52 rfl 0 rfl ?_
  refine J.icmp_lt (pc := 53) C (tgt := 64) dX7_blow_53 (by decide) hf (fun hf => ?_) (fun hf => ?_)
  · refine J.aload_n (pc := 64) C dX7_blow_64 rfl 2 rfl ?_
    obtain ⟨r_13, h_12, hf⟩ := bnd_some hf
    refine J.callV (pc := 65) C (m_X7_measured h_12) hk wyX7_measured tvX7_measured_i tvX7_measured_s tw_450 kcX7 rfl hk [] [] rfl rfl (Nat.le_of_ble_eq_true rfl) (Nat.le_of_ble_eq_true rfl) (Nat.le_of_ble_eq_true rfl) (stk' := [.int r_13]) rfl dX7_blow_65 rfl ?_
    refine J.iload_n (pc := 68) C dX7_blow_68 rfl 1 rfl ?_
    refine J.icmp_lt (pc := 69) C (tgt := 87) dX7_blow_69 (by decide) hf (fun hf => ?_) (fun hf => ?_)
    · exact J.sub (loc' := [(0, .ref (Xad X k)), (1, .ref (Xad X x1)), (2, .int r_7), (3, .int r_9)]) [2, 3, 1, 0] rfl (L87 σ_5 r_7 r_9 _ hf hp)
    · refine J.aload_n (pc := 72) C dX7_blow_72 rfl 2 rfl ?_
      refine J.getI (pc := 73) C kcX7 hk 2 rfl tw_180 rfl dX7_blow_73 ?_
      refine J.if_ne (pc := 76) C (tgt := 87) dX7_blow_76 (by decide) hf (fun hf => ?_) (fun hf => ?_)
      · exact J.sub (loc' := [(0, .ref (Xad X k)), (1, .ref (Xad X x1)), (2, .int r_7), (3, .int r_9)]) [2, 3, 1, 0] rfl (L87 σ_5 r_7 r_9 _ hf hp)
      · refine J.aload_n (pc := 79) C dX7_blow_79 rfl 2 rfl ?_
        refine J.iconst (pc := 80) C (v := 1) dX7_blow_80 (by decide) ?_
        obtain ⟨σ_24, h_22, hf⟩ := bnd_some hf
        refine J.callV (pc := 81) C (m_X7_enter h_22) hk wyX7_enter tvX7_enter_i tvX7_enter_s tw_451 kcX7 rfl hk [.int 1] [] rfl rfl (Nat.le_of_ble_eq_true rfl) (Nat.le_of_ble_eq_true rfl) (Nat.le_of_ble_eq_true rfl) (stk' := []) rfl dX7_blow_81 rfl ?_
        refine J.goto (pc := 84) C (tgt := 135) dX7_blow_84 (by decide) ?_
        exact J.vretM (pc := 135) C hR ((Option.some.inj hf).trans hp) dX7_blow_135
  · refine J.aload_n (pc := 56) C dX7_blow_56 rfl 2 rfl ?_
    refine J.iconst (pc := 57) C (v := 2) dX7_blow_57 (by decide) ?_
    obtain ⟨σ_27, h_25, hf⟩ := bnd_some hf
    refine J.callV (pc := 58) C (m_X7_enter h_25) hk wyX7_enter tvX7_enter_i tvX7_enter_s tw_451 kcX7 rfl hk [.int 2] [] rfl rfl (Nat.le_of_ble_eq_true rfl) (Nat.le_of_ble_eq_true rfl) (Nat.le_of_ble_eq_true rfl) (stk' := []) rfl dX7_blow_58 rfl ?_
    refine J.goto (pc := 61) C (tgt := 135) dX7_blow_61 (by decide) ?_
    exact J.vretM (pc := 135) C hR ((Option.some.inj hf).trans hp) dX7_blow_135
set_option maxHeartbeats 4000000 in
set_option maxRecDepth 100000 in
theorem m_X5_makeTick {l : Launch} {n : Nat} {σ : Mem} {k : Nat} {t0 : Mem} (hf : f_X5_makeTick n σ k = some t0) : Ct l yX5_makeTick cX5_makeTick 1 none 4 96 (fun ks => Ok ks k 5) (fun ad => [.ref (ad k)]) σ (fun _ => none) t0 := by
  refine Ct.of (plainFor_of_name (by decide)) (fun _ => Nat.le_of_ble_eq_true rfl) ?_
  intro X C _ hk hcl hR
  have C : Cx X RX5 cX5_makeTick 1 none 4 96 := C
  have L125 : ∀ (σ : Mem) (t : Mem), f_X5_makeTick_L125 n σ k = some t → t = t0 → J X 125 [(0, .ref (Xad X k))] [] σ := by
    intro σ t hf hp
    unfold f_X5_makeTick_L125 at hf
    refine J.aload_n (pc := 125) C dX5_makeTick_125 rfl 0 rfl ?_
    refine J.dup (pc := 126) C dX5_makeTick_126 rfl ?_
    refine J.getI (pc := 127) C kcX5 hk 5 rfl tw_229 rfl dX5_makeTick_127 ?_
    refine J.iconst (pc := 130) C (v := 1) dX5_makeTick_130 (by decide) ?_
    refine J.iadd (pc := 131) C dX5_makeTick_131 ?_
    refine J.putM (pc := 132) C kcX5 hk 5 rfl tw_229 rfl rfl rfl rfl hf dX5_makeTick_132 (fun σ_30 hf => ?_)
    exact J.vretM (pc := 135) C hR ((Option.some.inj hf).trans hp) dX5_makeTick_135
  have hp : t0 = t0 := rfl
  show J X 0 [(0, .ref (Xad X k))] [] σ
  unfold f_X5_makeTick at hf
  refine J.aload_n (pc := 0) C dX5_makeTick_0 rfl 0 rfl ?_
  refine J.getR (pc := 1) C kcX5 hk 4 rfl tw_227 rfl dX5_makeTick_1 ?_
  refine J.aload_n (pc := 4) C dX5_makeTick_4 rfl 0 rfl ?_
  refine J.getI (pc := 5) C kcX5 hk 5 rfl tw_229 rfl dX5_makeTick_5 ?_
  refine J.aload_n (pc := 8) C dX5_makeTick_8 rfl 0 rfl ?_
  refine J.getR (pc := 9) C kcX5 hk 1 rfl tw_221 rfl dX5_makeTick_9 ?_
  obtain ⟨σ_3, h_1, hf⟩ := bnd_some hf
  refine J.callV (pc := 12) C (m_X0_carryOut h_1) ⟨(ok_5_4 hcl hk), (ok_5_1 hcl hk)⟩ wyX0_carryOut tvX0_carryOut_i tvX0_carryOut_s tw_420 kcX0 rfl (ok_5_4 hcl hk) [.int (σ k 5), .ref (Xad X (ptr k 1))] [] rfl rfl (Nat.le_of_ble_eq_true rfl) (Nat.le_of_ble_eq_true rfl) (Nat.le_of_ble_eq_true rfl) (stk' := []) rfl dX5_makeTick_12 rfl ?_
  refine J.aload_n (pc := 15) C dX5_makeTick_15 rfl 0 rfl ?_
  refine J.getR (pc := 16) C kcX5 hk 1 rfl tw_221 rfl dX5_makeTick_16 ?_
  refine J.aload_n (pc := 19) C dX5_makeTick_19 rfl 0 rfl ?_
  refine J.getI (pc := 20) C kcX5 hk 5 rfl tw_229 rfl dX5_makeTick_20 ?_
  obtain ⟨σ_6, h_4, hf⟩ := bnd_some hf
  refine J.callV (pc := 23) C (m_X1_keepCommands h_4) (ok_5_1 hcl hk) wyX1_keepCommands tvX1_keepCommands_i tvX1_keepCommands_s tw_428 kcX1 rfl (ok_5_1 hcl hk) [.int (σ_3 k 5)] [] rfl rfl (Nat.le_of_ble_eq_true rfl) (Nat.le_of_ble_eq_true rfl) (Nat.le_of_ble_eq_true rfl) (stk' := []) rfl dX5_makeTick_23 rfl ?_
  refine J.aload_n (pc := 26) C dX5_makeTick_26 rfl 0 rfl ?_
  refine J.getR (pc := 27) C kcX5 hk 3 rfl tw_225 rfl dX5_makeTick_27 ?_
  refine J.aload_n (pc := 30) C dX5_makeTick_30 rfl 0 rfl ?_
  refine J.getR (pc := 31) C kcX5 hk 0 rfl tw_219 rfl dX5_makeTick_31 ?_
  obtain ⟨σ_9, h_7, hf⟩ := bnd_some hf
  refine J.callV (pc := 34) C (m_X7_blow h_7) ⟨(ok_5_3 hcl hk), (ok_5_0 hcl hk)⟩ wyX7_blow tvX7_blow_i tvX7_blow_s tw_439 kcX7 rfl (ok_5_3 hcl hk) [.ref (Xad X (ptr k 0))] [] rfl rfl (Nat.le_of_ble_eq_true rfl) (Nat.le_of_ble_eq_true rfl) (Nat.le_of_ble_eq_true rfl) (stk' := []) rfl dX5_makeTick_34 rfl ?_
  refine J.aload_n (pc := 37) C dX5_makeTick_37 rfl 0 rfl ?_
  refine J.getR (pc := 38) C kcX5 hk 1 rfl tw_221 rfl dX5_makeTick_38 ?_
  refine J.aload_n (pc := 41) C dX5_makeTick_41 rfl 0 rfl ?_
  refine J.getI (pc := 42) C kcX5 hk 5 rfl tw_229 rfl dX5_makeTick_42 ?_
  refine J.aload_n (pc := 45) C dX5_makeTick_45 rfl 0 rfl ?_
  refine J.getR (pc := 46) C kcX5 hk 3 rfl tw_225 rfl dX5_makeTick_46 ?_
  refine J.getI (pc := 49) C kcX7 (ok_5_3 hcl hk) 2 rfl tw_181 rfl dX5_makeTick_49 ?_
  refine J.aload_n (pc := 52) C dX5_makeTick_52 rfl 0 rfl ?_
  refine J.getR (pc := 53) C kcX5 hk 0 rfl tw_219 rfl dX5_makeTick_53 ?_
  refine J.iconst (pc := 56) C (v := 0) dX5_makeTick_56 (by decide) ?_
  refine J.iconst (pc := 57) C (v := 3) dX5_makeTick_57 (by decide) ?_
  obtain ⟨r_11, h_10, hf⟩ := bnd_some hf
  refine J.callV (pc := 58) C (m_X4_value h_10) (ok_5_0 hcl hk) wyX4_value tvX4_value_i tvX4_value_s tw_459 kcX4 rfl (ok_5_0 hcl hk) [.int 0, .int 3] [.int (σ_9 (ptr k 3) 2), .int (σ_9 k 5), .ref (Xad X (ptr k 1))] rfl rfl (Nat.le_of_ble_eq_true rfl) (Nat.le_of_ble_eq_true rfl) (Nat.le_of_ble_eq_true rfl) (stk' := [.int r_11, .int (σ_9 (ptr k 3) 2), .int (σ_9 k 5), .ref (Xad X (ptr k 1))]) rfl dX5_makeTick_58 rfl ?_
  obtain ⟨σ_14, h_12, hf⟩ := bnd_some hf
  refine J.callV (pc := 61) C (m_X1_open h_12) (ok_5_1 hcl hk) wyX1_open tvX1_open_i tvX1_open_s tw_460 kcX1 rfl (ok_5_1 hcl hk) [.int (σ_9 k 5), .int (σ_9 (ptr k 3) 2), .int r_11] [] rfl rfl (Nat.le_of_ble_eq_true rfl) (Nat.le_of_ble_eq_true rfl) (Nat.le_of_ble_eq_true rfl) (stk' := []) rfl dX5_makeTick_61 rfl ?_
  refine J.aload_n (pc := 64) C dX5_makeTick_64 rfl 0 rfl ?_
  refine J.getR (pc := 65) C kcX5 hk 2 rfl tw_223 rfl dX5_makeTick_65 ?_
  refine J.aload_n (pc := 68) C dX5_makeTick_68 rfl 0 rfl ?_
  refine J.getR (pc := 69) C kcX5 hk 1 rfl tw_221 rfl dX5_makeTick_69 ?_
  obtain ⟨σ_17, h_15, hf⟩ := bnd_some hf
  refine J.callV (pc := 72) C (m_X3_supply h_15) ⟨(ok_5_2 hcl hk), (ok_5_1 hcl hk)⟩ wyX3_supply tvX3_supply_i tvX3_supply_s tw_478 kcX3 rfl (ok_5_2 hcl hk) [.ref (Xad X (ptr k 1))] [] rfl rfl (Nat.le_of_ble_eq_true rfl) (Nat.le_of_ble_eq_true rfl) (Nat.le_of_ble_eq_true rfl) (stk' := []) rfl dX5_makeTick_72 rfl ?_
  refine J.aload_n (pc := 75) C dX5_makeTick_75 rfl 0 rfl ?_
  refine J.getR (pc := 76) C kcX5 hk 1 rfl tw_221 rfl dX5_makeTick_76 ?_
  refine J.aload_n (pc := 79) C dX5_makeTick_79 rfl 0 rfl ?_
  refine J.getR (pc := 80) C kcX5 hk 3 rfl tw_225 rfl dX5_makeTick_80 ?_
  obtain ⟨r_19, h_18, hf⟩ := bnd_some hf
  refine J.callV (pc := 83) C (m_X7_measured h_18) (ok_5_3 hcl hk) wyX7_measured tvX7_measured_i tvX7_measured_s tw_498 kcX7 rfl (ok_5_3 hcl hk) [] [.ref (Xad X (ptr k 1))] rfl rfl (Nat.le_of_ble_eq_true rfl) (Nat.le_of_ble_eq_true rfl) (Nat.le_of_ble_eq_true rfl) (stk' := [.int r_19, .ref (Xad X (ptr k 1))]) rfl dX5_makeTick_83 rfl ?_
  obtain ⟨σ_22, h_20, hf⟩ := bnd_some hf
  refine J.callV (pc := 86) C (m_X1_rise h_20) (ok_5_1 hcl hk) wyX1_rise tvX1_rise_i tvX1_rise_s tw_499 kcX1 rfl (ok_5_1 hcl hk) [.int r_19] [] rfl rfl (Nat.le_of_ble_eq_true rfl) (Nat.le_of_ble_eq_true rfl) (Nat.le_of_ble_eq_true rfl) (stk' := []) rfl dX5_makeTick_86 rfl ?_
  refine J.aload_n (pc := 89) C dX5_makeTick_89 rfl 0 rfl ?_
  refine J.getR (pc := 90) C kcX5 hk 2 rfl tw_223 rfl dX5_makeTick_90 ?_
  obtain ⟨σ_25, h_23, hf⟩ := bnd_some hf
  refine J.callV (pc := 93) C (m_X3_countShort h_23) (ok_5_2 hcl hk) wyX3_countShort tvX3_countShort_i tvX3_countShort_s tw_505 kcX3 rfl (ok_5_2 hcl hk) [] [] rfl rfl (Nat.le_of_ble_eq_true rfl) (Nat.le_of_ble_eq_true rfl) (Nat.le_of_ble_eq_true rfl) (stk' := []) rfl dX5_makeTick_93 rfl ?_
  refine J.aload_n (pc := 96) C dX5_makeTick_96 rfl 0 rfl ?_
  refine J.getR (pc := 97) C kcX5 hk 1 rfl tw_221 rfl dX5_makeTick_97 ?_
  refine J.aload_n (pc := 100) C dX5_makeTick_100 rfl 0 rfl ?_
  refine J.getR (pc := 101) C kcX5 hk 0 rfl tw_219 rfl dX5_makeTick_101 ?_
  refine J.iconst (pc := 104) C (v := 0) dX5_makeTick_104 (by decide) ?_
  refine J.iconst (pc := 105) C (v := 5) dX5_makeTick_105 (by decide) ?_
  obtain ⟨r_27, h_26, hf⟩ := bnd_some hf
  refine J.callV (pc := 106) C (m_X4_value h_26) (ok_5_0 hcl hk) wyX4_value tvX4_value_i tvX4_value_s tw_459 kcX4 rfl (ok_5_0 hcl hk) [.int 0, .int 5] [.ref (Xad X (ptr k 1))] rfl rfl (Nat.le_of_ble_eq_true rfl) (Nat.le_of_ble_eq_true rfl) (Nat.le_of_ble_eq_true rfl) (stk' := [.int r_27, .ref (Xad X (ptr k 1))]) rfl dX5_makeTick_106 rfl ?_
  obtain ⟨r_29, h_28, hf⟩ := bnd_some hf
  refine J.callV (pc := 109) C (m_X1_driftsBeyond h_28) (ok_5_1 hcl hk) wyX1_driftsBeyond tvX1_driftsBeyond_i tvX1_driftsBeyond_s tw_513 kcX1 rfl (ok_5_1 hcl hk) [.int r_27] [] rfl rfl (Nat.le_of_ble_eq_true rfl) (Nat.le_of_ble_eq_true rfl) (Nat.le_of_ble_eq_true rfl) (stk' := [.int r_29]) rfl dX5_makeTick_109 rfl ?_
  refine J.if_eq (pc := 112) C (tgt := 125) dX5_makeTick_112 (by decide) hf (fun hf => ?_) (fun hf => ?_)
  · exact J.sub (loc' := [(0, .ref (Xad X k))]) [0] rfl (L125 σ_25 _ hf hp)
  · refine J.aload_n (pc := 115) C dX5_makeTick_115 rfl 0 rfl ?_
    refine J.dup (pc := 116) C dX5_makeTick_116 rfl ?_
    refine J.getI (pc := 117) C kcX5 hk 6 rfl tw_231 rfl dX5_makeTick_117 ?_
    refine J.iconst (pc := 120) C (v := 1) dX5_makeTick_120 (by decide) ?_
    refine J.iadd (pc := 121) C dX5_makeTick_121 ?_
    refine J.putM (pc := 122) C kcX5 hk 6 rfl tw_231 rfl rfl rfl rfl hf dX5_makeTick_122 (fun σ_31 hf => ?_)
    exact J.sub (loc' := [(0, .ref (Xad X k))]) [0] rfl (L125 σ_31 _ hf hp)
set_option maxHeartbeats 4000000 in
set_option maxRecDepth 100000 in
theorem m_X8_setUp {l : Launch} {n : Nat} {σ : Mem} {k : Nat} {x1 : Int32} {t0 : (Int32 × Mem)} (hf : f_X8_setUp n σ k x1 = some t0) : Ct l yX8_setUp cX8_setUp 3 (some FieldType.int) 4 82 (fun ks => Ok ks k 8) (fun ad => [.ref (ad k), .int x1]) σ (fun _ => some (.int t0.1)) t0.2 := by
  refine Ct.of (plainFor_of_name (by decide)) (fun _ => Nat.le_of_ble_eq_true rfl) ?_
  intro X C _ hk hcl hR
  have C : Cx X RX8 cX8_setUp 3 (some FieldType.int) 4 82 := C
  have hp : t0 = t0 := rfl
  show J X 0 [(0, .ref (Xad X k)), (1, .int x1)] [] σ
  unfold f_X8_setUp at hf
  refine J.iload_n (pc := 0) C dX8_setUp_0 rfl 1 rfl ?_
  refine J.iconst (pc := 1) C (v := 1) dX8_setUp_1 (by decide) ?_
  refine J.bipush (pc := 2) C (v := 12) dX8_setUp_2 (by decide) ?_
  obtain ⟨r_2, h_1, hf⟩ := bnd_some hf
  refine J.callS (pc := 4) C (m_X8_within h_1) trivial wyX8_within tsX8_within tw_318 [.int x1, .int 1, .int 12] [] rfl rfl (Nat.le_of_ble_eq_true rfl) (Nat.le_of_ble_eq_true rfl) (Nat.le_of_ble_eq_true rfl) (stk' := [.int r_2]) rfl dX8_setUp_4 rfl ?_
  refine J.if_ne (pc := 7) C (tgt := 13) dX8_setUp_7 (by decide) hf (fun hf => ?_) (fun hf => ?_)
  · refine J.aload_n (pc := 13) C dX8_setUp_13 rfl 0 rfl ?_
    refine J.getR (pc := 14) C kcX8 hk 0 rfl tw_298 rfl dX8_setUp_14 ?_
    refine J.getR (pc := 17) C kcX5 (ok_8_0 hcl hk) 1 rfl tw_222 rfl dX8_setUp_17 ?_
    refine J.getI (pc := 20) C kcX1 (ok_5_1 hcl (ok_8_0 hcl hk)) 8 rfl tw_114 rfl dX8_setUp_20 ?_
    refine J.nmI hf (fun x2_3 hf => ?_)
    refine J.istore_n (pc := 23) C (loc' := [(2, .int x2_3), (0, .ref (Xad X k)), (1, .int x1)]) dX8_setUp_23 rfl (by decide) rfl ?_
    refine J.aload_n (pc := 24) C dX8_setUp_24 rfl 1 rfl ?_
    refine J.getR (pc := 25) C kcX8 hk 0 rfl tw_298 rfl dX8_setUp_25 ?_
    refine J.iload_n (pc := 28) C dX8_setUp_28 rfl 2 rfl ?_
    obtain ⟨σ_6, h_4, hf⟩ := bnd_some hf
    refine J.callV (pc := 29) C (m_X5_begin h_4) (ok_8_0 hcl hk) wyX5_begin tvX5_begin_i tvX5_begin_s tw_321 kcX5 rfl (ok_8_0 hcl hk) [.int x1] [] rfl rfl (Nat.le_of_ble_eq_true rfl) (Nat.le_of_ble_eq_true rfl) (Nat.le_of_ble_eq_true rfl) (stk' := []) rfl dX8_setUp_29 rfl ?_
    refine J.iload_n (pc := 32) C dX8_setUp_32 rfl 0 rfl ?_
    exact J.iretM (pc := 33) C hR ((Option.some.inj hf).trans hp) dX8_setUp_33
  · refine J.bipush (pc := 10) C (v := (-2)) dX8_setUp_10 (by decide) ?_
    exact J.iretM (pc := 12) C hR ((Option.some.inj hf).trans hp) dX8_setUp_12
set_option maxHeartbeats 4000000 in
set_option maxRecDepth 100000 in
theorem m_X8_nozzle {l : Launch} {σ : Mem} {k : Nat} {x1 : Int32} {x2 : Int32} {x3 : Int32} {t0 : (Int32 × Mem)} (hf : f_X8_nozzle σ k x1 x2 x3 = some t0) : Ct l yX8_nozzle cX8_nozzle 4 (some FieldType.int) 2 47 (fun ks => Ok ks k 8) (fun ad => [.ref (ad k), .int x1, .int x2, .int x3]) σ (fun _ => some (.int t0.1)) t0.2 := by
  refine Ct.of (plainFor_of_name (by decide)) (fun _ => Nat.le_of_ble_eq_true rfl) ?_
  intro X C _ hk hcl hR
  have C : Cx X RX8 cX8_nozzle 4 (some FieldType.int) 2 47 := C
  have hp : t0 = t0 := rfl
  show J X 0 [(0, .ref (Xad X k)), (1, .int x1), (2, .int x2), (3, .int x3)] [] σ
  unfold f_X8_nozzle at hf
  refine J.aload_n (pc := 0) C dX8_nozzle_0 rfl 0 rfl ?_
  refine J.getR (pc := 1) C kcX8 hk 0 rfl tw_298 rfl dX8_nozzle_1 ?_
  refine J.getR (pc := 4) C kcX5 (ok_8_0 hcl hk) 1 rfl tw_222 rfl dX8_nozzle_4 ?_
  refine J.iload_n (pc := 7) C dX8_nozzle_7 rfl 1 rfl ?_
  obtain ⟨r_2, h_1, hf⟩ := bnd_some hf
  refine J.callV (pc := 8) C (m_X1_has h_1) (ok_5_1 hcl (ok_8_0 hcl hk)) wyX1_has tvX1_has_i tvX1_has_s tw_355 kcX1 rfl (ok_5_1 hcl (ok_8_0 hcl hk)) [.int x1] [] rfl rfl (Nat.le_of_ble_eq_true rfl) (Nat.le_of_ble_eq_true rfl) (Nat.le_of_ble_eq_true rfl) (stk' := [.int r_2]) rfl dX8_nozzle_8 rfl ?_
  refine J.if_ne (pc := 11) C (tgt := 16) dX8_nozzle_11 (by decide) hf (fun hf => ?_) (fun hf => ?_)
  · refine J.aload_n (pc := 16) C dX8_nozzle_16 rfl 0 rfl ?_
    refine J.getR (pc := 17) C kcX8 hk 0 rfl tw_298 rfl dX8_nozzle_17 ?_
    refine J.getR (pc := 20) C kcX5 (ok_8_0 hcl hk) 1 rfl tw_222 rfl dX8_nozzle_20 ?_
    refine J.getR (pc := 23) C kcX1 (ok_5_1 hcl (ok_8_0 hcl hk)) 0 rfl tw_99 rfl dX8_nozzle_23 ?_
    refine J.iload_n (pc := 26) C dX8_nozzle_26 rfl 1 rfl ?_
    refine J.iload_n (pc := 27) C dX8_nozzle_27 rfl 2 rfl ?_
    refine J.iload_n (pc := 28) C dX8_nozzle_28 rfl 3 rfl ?_
    obtain ⟨r_4, σ_5, h_3, hf⟩ := bnd2_some hf
    refine J.callV (pc := 29) C (m_X4_change h_3) (ok_1_0 hcl (ok_5_1 hcl (ok_8_0 hcl hk))) wyX4_change tvX4_change_i tvX4_change_s tw_360 kcX4 rfl (ok_1_0 hcl (ok_5_1 hcl (ok_8_0 hcl hk))) [.int x1, .int x2, .int x3] [] rfl rfl (Nat.le_of_ble_eq_true rfl) (Nat.le_of_ble_eq_true rfl) (Nat.le_of_ble_eq_true rfl) (stk' := [.int r_4]) rfl dX8_nozzle_29 rfl ?_
    exact J.iretM (pc := 32) C hR ((Option.some.inj hf).trans hp) dX8_nozzle_32
  · refine J.iconst (pc := 14) C (v := (-1)) dX8_nozzle_14 (by decide) ?_
    exact J.iretM (pc := 15) C hR ((Option.some.inj hf).trans hp) dX8_nozzle_15
end
section
set_option maxHeartbeats 4000000 in
set_option maxRecDepth 100000 in
theorem m_X8_pump {l : Launch} {σ : Mem} {k : Nat} {x1 : Int32} {x2 : Int32} {x3 : Int32} {t0 : (Int32 × Mem)} (hf : f_X8_pump σ k x1 x2 x3 = some t0) : Ct l yX8_pump cX8_pump 4 (some FieldType.int) 2 47 (fun ks => Ok ks k 8) (fun ad => [.ref (ad k), .int x1, .int x2, .int x3]) σ (fun _ => some (.int t0.1)) t0.2 := by
  refine Ct.of (plainFor_of_name (by decide)) (fun _ => Nat.le_of_ble_eq_true rfl) ?_
  intro X C _ hk hcl hR
  have C : Cx X RX8 cX8_pump 4 (some FieldType.int) 2 47 := C
  have hp : t0 = t0 := rfl
  show J X 0 [(0, .ref (Xad X k)), (1, .int x1), (2, .int x2), (3, .int x3)] [] σ
  unfold f_X8_pump at hf
  refine J.iload_n (pc := 0) C dX8_pump_0 rfl 1 rfl ?_
  refine J.iconst (pc := 1) C (v := 0) dX8_pump_1 (by decide) ?_
  refine J.iconst (pc := 2) C (v := 2) dX8_pump_2 (by decide) ?_
  obtain ⟨r_2, h_1, hf⟩ := bnd_some hf
  refine J.callS (pc := 3) C (m_X8_within h_1) trivial wyX8_within tsX8_within tw_318 [.int x1, .int 0, .int 2] [] rfl rfl (Nat.le_of_ble_eq_true rfl) (Nat.le_of_ble_eq_true rfl) (Nat.le_of_ble_eq_true rfl) (stk' := [.int r_2]) rfl dX8_pump_3 rfl ?_
  refine J.if_ne (pc := 6) C (tgt := 11) dX8_pump_6 (by decide) hf (fun hf => ?_) (fun hf => ?_)
  · refine J.aload_n (pc := 11) C dX8_pump_11 rfl 0 rfl ?_
    refine J.getR (pc := 12) C kcX8 hk 0 rfl tw_298 rfl dX8_pump_12 ?_
    refine J.getR (pc := 15) C kcX5 (ok_8_0 hcl hk) 2 rfl tw_224 rfl dX8_pump_15 ?_
    refine J.getR (pc := 18) C kcX3 (ok_5_2 hcl (ok_8_0 hcl hk)) 0 rfl tw_154 rfl dX8_pump_18 ?_
    refine J.iload_n (pc := 21) C dX8_pump_21 rfl 1 rfl ?_
    refine J.iload_n (pc := 22) C dX8_pump_22 rfl 2 rfl ?_
    refine J.iload_n (pc := 23) C dX8_pump_23 rfl 3 rfl ?_
    obtain ⟨r_4, σ_5, h_3, hf⟩ := bnd2_some hf
    refine J.callV (pc := 24) C (m_X4_change h_3) (ok_3_0 hcl (ok_5_2 hcl (ok_8_0 hcl hk))) wyX4_change tvX4_change_i tvX4_change_s tw_360 kcX4 rfl (ok_3_0 hcl (ok_5_2 hcl (ok_8_0 hcl hk))) [.int x1, .int x2, .int x3] [] rfl rfl (Nat.le_of_ble_eq_true rfl) (Nat.le_of_ble_eq_true rfl) (Nat.le_of_ble_eq_true rfl) (stk' := [.int r_4]) rfl dX8_pump_24 rfl ?_
    exact J.iretM (pc := 27) C hR ((Option.some.inj hf).trans hp) dX8_pump_27
  · refine J.iconst (pc := 9) C (v := (-1)) dX8_pump_9 (by decide) ?_
    exact J.iretM (pc := 10) C hR ((Option.some.inj hf).trans hp) dX8_pump_10
set_option maxHeartbeats 4000000 in
set_option maxRecDepth 100000 in
theorem m_X8_set {l : Launch} {σ : Mem} {k : Nat} {x1 : Int32} {x2 : Int32} {t0 : (Int32 × Mem)} (hf : f_X8_set σ k x1 x2 = some t0) : Ct l yX8_set cX8_set 3 (some FieldType.int) 2 47 (fun ks => Ok ks k 8) (fun ad => [.ref (ad k), .int x1, .int x2]) σ (fun _ => some (.int t0.1)) t0.2 := by
  refine Ct.of (plainFor_of_name (by decide)) (fun _ => Nat.le_of_ble_eq_true rfl) ?_
  intro X C _ hk hcl hR
  have C : Cx X RX8 cX8_set 3 (some FieldType.int) 2 47 := C
  have hp : t0 = t0 := rfl
  show J X 0 [(0, .ref (Xad X k)), (1, .int x1), (2, .int x2)] [] σ
  unfold f_X8_set at hf
  refine J.aload_n (pc := 0) C dX8_set_0 rfl 0 rfl ?_
  refine J.getR (pc := 1) C kcX8 hk 0 rfl tw_298 rfl dX8_set_1 ?_
  refine J.getR (pc := 4) C kcX5 (ok_8_0 hcl hk) 0 rfl tw_220 rfl dX8_set_4 ?_
  refine J.iconst (pc := 7) C (v := 0) dX8_set_7 (by decide) ?_
  refine J.iload_n (pc := 8) C dX8_set_8 rfl 1 rfl ?_
  refine J.iload_n (pc := 9) C dX8_set_9 rfl 2 rfl ?_
  obtain ⟨r_2, σ_3, h_1, hf⟩ := bnd2_some hf
  refine J.callV (pc := 10) C (m_X4_change h_1) (ok_5_0 hcl (ok_8_0 hcl hk)) wyX4_change tvX4_change_i tvX4_change_s tw_360 kcX4 rfl (ok_5_0 hcl (ok_8_0 hcl hk)) [.int 0, .int x1, .int x2] [] rfl rfl (Nat.le_of_ble_eq_true rfl) (Nat.le_of_ble_eq_true rfl) (Nat.le_of_ble_eq_true rfl) (stk' := [.int r_2]) rfl dX8_set_10 rfl ?_
  exact J.iretM (pc := 13) C hR ((Option.some.inj hf).trans hp) dX8_set_13
set_option maxHeartbeats 4000000 in
set_option maxRecDepth 100000 in
theorem m_X8_wind {l : Launch} {σ : Mem} {k : Nat} {x1 : Int32} {t0 : (Int32 × Mem)} (hf : f_X8_wind σ k x1 = some t0) : Ct l yX8_wind cX8_wind 3 (some FieldType.int) 1 22 (fun ks => Ok ks k 8) (fun ad => [.ref (ad k), .int x1]) σ (fun _ => some (.int t0.1)) t0.2 := by
  refine Ct.of (plainFor_of_name (by decide)) (fun _ => Nat.le_of_ble_eq_true rfl) ?_
  intro X C _ hk hcl hR
  have C : Cx X RX8 cX8_wind 3 (some FieldType.int) 1 22 := C
  have hp : t0 = t0 := rfl
  show J X 0 [(0, .ref (Xad X k)), (1, .int x1)] [] σ
  unfold f_X8_wind at hf
  refine J.iload_n (pc := 0) C dX8_wind_0 rfl 1 rfl ?_
  refine J.iconst (pc := 1) C (v := 0) dX8_wind_1 (by decide) ?_
  refine J.sipush (pc := 2) C (v := 300) dX8_wind_2 (by decide) ?_
  obtain ⟨r_2, h_1, hf⟩ := bnd_some hf
  refine J.callS (pc := 5) C (m_X8_within h_1) trivial wyX8_within tsX8_within tw_318 [.int x1, .int 0, .int 300] [] rfl rfl (Nat.le_of_ble_eq_true rfl) (Nat.le_of_ble_eq_true rfl) (Nat.le_of_ble_eq_true rfl) (stk' := [.int r_2]) rfl dX8_wind_5 rfl ?_
  refine J.if_ne (pc := 8) C (tgt := 14) dX8_wind_8 (by decide) hf (fun hf => ?_) (fun hf => ?_)
  · refine J.aload_n (pc := 14) C dX8_wind_14 rfl 0 rfl ?_
    refine J.getR (pc := 15) C kcX8 hk 0 rfl tw_298 rfl dX8_wind_15 ?_
    refine J.getR (pc := 18) C kcX5 (ok_8_0 hcl hk) 3 rfl tw_226 rfl dX8_wind_18 ?_
    refine J.getI (pc := 21) C kcX7 (ok_5_3 hcl (ok_8_0 hcl hk)) 0 rfl tw_178 rfl dX8_wind_21 ?_
    refine J.nmI hf (fun x2_3 hf => ?_)
    refine J.istore_n (pc := 24) C (loc' := [(2, .int x2_3), (0, .ref (Xad X k)), (1, .int x1)]) dX8_wind_24 rfl (by decide) rfl ?_
    refine J.aload_n (pc := 25) C dX8_wind_25 rfl 1 rfl ?_
    refine J.getR (pc := 26) C kcX8 hk 0 rfl tw_298 rfl dX8_wind_26 ?_
    refine J.getR (pc := 29) C kcX5 (ok_8_0 hcl hk) 3 rfl tw_226 rfl dX8_wind_29 ?_
    refine J.iload_n (pc := 32) C dX8_wind_32 rfl 2 rfl ?_
    refine J.putM (pc := 33) C kcX7 (ok_5_3 hcl (ok_8_0 hcl hk)) 0 rfl tw_178 rfl rfl rfl rfl hf dX8_wind_33 (fun σ_4 hf => ?_)
    refine J.iload_n (pc := 36) C dX8_wind_36 rfl 0 rfl ?_
    exact J.iretM (pc := 37) C hR ((Option.some.inj hf).trans hp) dX8_wind_37
  · refine J.bipush (pc := 11) C (v := (-2)) dX8_wind_11 (by decide) ?_
    exact J.iretM (pc := 13) C hR ((Option.some.inj hf).trans hp) dX8_wind_13
set_option maxHeartbeats 4000000 in
set_option maxRecDepth 100000 in
theorem m_X8_cue {l : Launch} {n : Nat} {σ : Mem} {k : Nat} {x1 : Int32} {x2 : Int32} {x3 : Int32} {t0 : (Int32 × Mem)} (hf : f_X8_cue n σ k x1 x2 x3 = some t0) : Ct l yX8_cue cX8_cue 4 (some FieldType.int) 3 65 (fun ks => Ok ks k 8) (fun ad => [.ref (ad k), .int x1, .int x2, .int x3]) σ (fun _ => some (.int t0.1)) t0.2 := by
  refine Ct.of (plainFor_of_name (by decide)) (fun _ => Nat.le_of_ble_eq_true rfl) ?_
  intro X C _ hk hcl hR
  have C : Cx X RX8 cX8_cue 4 (some FieldType.int) 3 65 := C
  have hp : t0 = t0 := rfl
  show J X 0 [(0, .ref (Xad X k)), (1, .int x1), (2, .int x2), (3, .int x3)] [] σ
  unfold f_X8_cue at hf
  refine J.iload_n (pc := 0) C dX8_cue_0 rfl 1 rfl ?_
  refine J.iconst (pc := 1) C (v := 0) dX8_cue_1 (by decide) ?_
  refine J.ldc (pc := 2) C (v := 100000) dX8_cue_2 tw_526 ?_
  obtain ⟨r_2, h_1, hf⟩ := bnd_some hf
  refine J.callS (pc := 4) C (m_X8_within h_1) trivial wyX8_within tsX8_within tw_318 [.int x1, .int 0, .int 100000] [] rfl rfl (Nat.le_of_ble_eq_true rfl) (Nat.le_of_ble_eq_true rfl) (Nat.le_of_ble_eq_true rfl) (stk' := [.int r_2]) rfl dX8_cue_4 rfl ?_
  refine J.if_eq (pc := 7) C (tgt := 32) dX8_cue_7 (by decide) hf (fun hf => ?_) (fun hf => ?_)
  · refine J.bipush (pc := 32) C (v := (-2)) dX8_cue_32 (by decide) ?_
    exact J.iretM (pc := 34) C hR ((Option.some.inj hf).trans hp) dX8_cue_34
  · refine J.iload_n (pc := 10) C dX8_cue_10 rfl 2 rfl ?_
    refine J.iconst (pc := 11) C (v := 1) dX8_cue_11 (by decide) ?_
    refine J.sipush (pc := 12) C (v := 4095) dX8_cue_12 (by decide) ?_
    obtain ⟨r_4, h_3, hf⟩ := bnd_some hf
    refine J.callS (pc := 15) C (m_X8_within h_3) trivial wyX8_within tsX8_within tw_318 [.int x2, .int 1, .int 4095] [] rfl rfl (Nat.le_of_ble_eq_true rfl) (Nat.le_of_ble_eq_true rfl) (Nat.le_of_ble_eq_true rfl) (stk' := [.int r_4]) rfl dX8_cue_15 rfl ?_
    refine J.if_eq (pc := 18) C (tgt := 32) dX8_cue_18 (by decide) hf (fun hf => ?_) (fun hf => ?_)
    · refine J.bipush (pc := 32) C (v := (-2)) dX8_cue_32 (by decide) ?_
      exact J.iretM (pc := 34) C hR ((Option.some.inj hf).trans hp) dX8_cue_34
    · refine J.iload_n (pc := 21) C dX8_cue_21 rfl 3 rfl ?_
      refine J.iconst (pc := 22) C (v := 0) dX8_cue_22 (by decide) ?_
      refine J.sipush (pc := 23) C (v := 1000) dX8_cue_23 (by decide) ?_
      obtain ⟨r_6, h_5, hf⟩ := bnd_some hf
      refine J.callS (pc := 26) C (m_X8_within h_5) trivial wyX8_within tsX8_within tw_318 [.int x3, .int 0, .int 1000] [] rfl rfl (Nat.le_of_ble_eq_true rfl) (Nat.le_of_ble_eq_true rfl) (Nat.le_of_ble_eq_true rfl) (stk' := [.int r_6]) rfl dX8_cue_26 rfl ?_
      refine J.if_ne (pc := 29) C (tgt := 35) dX8_cue_29 (by decide) hf (fun hf => ?_) (fun hf => ?_)
      · refine J.aload_n (pc := 35) C dX8_cue_35 rfl 0 rfl ?_
        refine J.getR (pc := 36) C kcX8 hk 0 rfl tw_298 rfl dX8_cue_36 ?_
        refine J.getR (pc := 39) C kcX5 (ok_8_0 hcl hk) 4 rfl tw_228 rfl dX8_cue_39 ?_
        refine J.iload_n (pc := 42) C dX8_cue_42 rfl 1 rfl ?_
        refine J.iload_n (pc := 43) C dX8_cue_43 rfl 2 rfl ?_
        refine J.iload_n (pc := 44) C dX8_cue_44 rfl 3 rfl ?_
        obtain ⟨r_8, σ_9, h_7, hf⟩ := bnd2_some hf
        refine J.callV (pc := 45) C (m_X0_insert h_7) (ok_5_4 hcl (ok_8_0 hcl hk)) wyX0_insert tvX0_insert_i tvX0_insert_s tw_527 kcX0 rfl (ok_5_4 hcl (ok_8_0 hcl hk)) [.int x1, .int x2, .int x3] [] rfl rfl (Nat.le_of_ble_eq_true rfl) (Nat.le_of_ble_eq_true rfl) (Nat.le_of_ble_eq_true rfl) (stk' := [.int r_8]) rfl dX8_cue_45 rfl ?_
        exact J.iretM (pc := 48) C hR ((Option.some.inj hf).trans hp) dX8_cue_48
      · refine J.bipush (pc := 32) C (v := (-2)) dX8_cue_32 (by decide) ?_
        exact J.iretM (pc := 34) C hR ((Option.some.inj hf).trans hp) dX8_cue_34
set_option maxHeartbeats 4000000 in
set_option maxRecDepth 100000 in
theorem m_X8_remove {l : Launch} {σ : Mem} {k : Nat} {x1 : Int32} {t0 : (Int32 × Mem)} (hf : f_X8_remove σ k x1 = some t0) : Ct l yX8_remove cX8_remove 2 (some FieldType.int) 3 62 (fun ks => Ok ks k 8) (fun ad => [.ref (ad k), .int x1]) σ (fun _ => some (.int t0.1)) t0.2 := by
  refine Ct.of (plainFor_of_name (by decide)) (fun _ => Nat.le_of_ble_eq_true rfl) ?_
  intro X C _ hk hcl hR
  have C : Cx X RX8 cX8_remove 2 (some FieldType.int) 3 62 := C
  have hp : t0 = t0 := rfl
  show J X 0 [(0, .ref (Xad X k)), (1, .int x1)] [] σ
  unfold f_X8_remove at hf
  refine J.aload_n (pc := 0) C dX8_remove_0 rfl 0 rfl ?_
  refine J.getR (pc := 1) C kcX8 hk 0 rfl tw_298 rfl dX8_remove_1 ?_
  refine J.getR (pc := 4) C kcX5 (ok_8_0 hcl hk) 4 rfl tw_228 rfl dX8_remove_4 ?_
  refine J.iload_n (pc := 7) C dX8_remove_7 rfl 1 rfl ?_
  obtain ⟨r_2, h_1, hf⟩ := bnd_some hf
  refine J.callV (pc := 8) C (m_X0_has h_1) (ok_5_4 hcl (ok_8_0 hcl hk)) wyX0_has tvX0_has_i tvX0_has_s tw_541 kcX0 rfl (ok_5_4 hcl (ok_8_0 hcl hk)) [.int x1] [] rfl rfl (Nat.le_of_ble_eq_true rfl) (Nat.le_of_ble_eq_true rfl) (Nat.le_of_ble_eq_true rfl) (stk' := [.int r_2]) rfl dX8_remove_8 rfl ?_
  refine J.if_ne (pc := 11) C (tgt := 16) dX8_remove_11 (by decide) hf (fun hf => ?_) (fun hf => ?_)
  · refine J.aload_n (pc := 16) C dX8_remove_16 rfl 0 rfl ?_
    refine J.getR (pc := 17) C kcX8 hk 0 rfl tw_298 rfl dX8_remove_17 ?_
    refine J.getR (pc := 20) C kcX5 (ok_8_0 hcl hk) 4 rfl tw_228 rfl dX8_remove_20 ?_
    refine J.iload_n (pc := 23) C dX8_remove_23 rfl 1 rfl ?_
    obtain ⟨σ_5, h_3, hf⟩ := bnd_some hf
    refine J.callV (pc := 24) C (m_X0_takeOut h_3) (ok_5_4 hcl (ok_8_0 hcl hk)) wyX0_takeOut tvX0_takeOut_i tvX0_takeOut_s tw_693 kcX0 rfl (ok_5_4 hcl (ok_8_0 hcl hk)) [.int x1] [] rfl rfl (Nat.le_of_ble_eq_true rfl) (Nat.le_of_ble_eq_true rfl) (Nat.le_of_ble_eq_true rfl) (stk' := []) rfl dX8_remove_24 rfl ?_
    refine J.aload_n (pc := 27) C dX8_remove_27 rfl 0 rfl ?_
    refine J.getR (pc := 28) C kcX8 hk 0 rfl tw_298 rfl dX8_remove_28 ?_
    refine J.getR (pc := 31) C kcX5 (ok_8_0 hcl hk) 4 rfl tw_228 rfl dX8_remove_31 ?_
    refine J.getI (pc := 34) C kcX0 (ok_5_4 hcl (ok_8_0 hcl hk)) 3 rfl tw_209 rfl dX8_remove_34 ?_
    exact J.iretM (pc := 37) C hR ((Option.some.inj hf).trans hp) dX8_remove_37
  · refine J.iconst (pc := 14) C (v := (-1)) dX8_remove_14 (by decide) ?_
    exact J.iretM (pc := 15) C hR ((Option.some.inj hf).trans hp) dX8_remove_15
set_option maxHeartbeats 4000000 in
set_option maxRecDepth 100000 in
theorem m_X8_move {l : Launch} {n : Nat} {σ : Mem} {k : Nat} {x1 : Int32} {x2 : Int32} {t0 : (Int32 × Mem)} (hf : f_X8_move n σ k x1 x2 = some t0) : Ct l yX8_move cX8_move 3 (some FieldType.int) 4 90 (fun ks => Ok ks k 8) (fun ad => [.ref (ad k), .int x1, .int x2]) σ (fun _ => some (.int t0.1)) t0.2 := by
  refine Ct.of (plainFor_of_name (by decide)) (fun _ => Nat.le_of_ble_eq_true rfl) ?_
  intro X C _ hk hcl hR
  have C : Cx X RX8 cX8_move 3 (some FieldType.int) 4 90 := C
  have hp : t0 = t0 := rfl
  show J X 0 [(0, .ref (Xad X k)), (1, .int x1), (2, .int x2)] [] σ
  unfold f_X8_move at hf
  refine J.aload_n (pc := 0) C dX8_move_0 rfl 0 rfl ?_
  refine J.getR (pc := 1) C kcX8 hk 0 rfl tw_298 rfl dX8_move_1 ?_
  refine J.getR (pc := 4) C kcX5 (ok_8_0 hcl hk) 4 rfl tw_228 rfl dX8_move_4 ?_
  refine J.iload_n (pc := 7) C dX8_move_7 rfl 1 rfl ?_
  obtain ⟨r_2, h_1, hf⟩ := bnd_some hf
  refine J.callV (pc := 8) C (m_X0_has h_1) (ok_5_4 hcl (ok_8_0 hcl hk)) wyX0_has tvX0_has_i tvX0_has_s tw_541 kcX0 rfl (ok_5_4 hcl (ok_8_0 hcl hk)) [.int x1] [] rfl rfl (Nat.le_of_ble_eq_true rfl) (Nat.le_of_ble_eq_true rfl) (Nat.le_of_ble_eq_true rfl) (stk' := [.int r_2]) rfl dX8_move_8 rfl ?_
  refine J.if_ne (pc := 11) C (tgt := 16) dX8_move_11 (by decide) hf (fun hf => ?_) (fun hf => ?_)
  · refine J.iload_n (pc := 16) C dX8_move_16 rfl 2 rfl ?_
    refine J.ldc (pc := 17) C (v := (-100000)) dX8_move_17 tw_559 ?_
    refine J.ldc (pc := 19) C (v := 100000) dX8_move_19 tw_526 ?_
    obtain ⟨r_4, h_3, hf⟩ := bnd_some hf
    refine J.callS (pc := 21) C (m_X8_within h_3) trivial wyX8_within tsX8_within tw_318 [.int x2, .int (-100000), .int 100000] [] rfl rfl (Nat.le_of_ble_eq_true rfl) (Nat.le_of_ble_eq_true rfl) (Nat.le_of_ble_eq_true rfl) (stk' := [.int r_4]) rfl dX8_move_21 rfl ?_
    refine J.if_eq (pc := 24) C (tgt := 50) dX8_move_24 (by decide) hf (fun hf => ?_) (fun hf => ?_)
    · refine J.bipush (pc := 50) C (v := (-2)) dX8_move_50 (by decide) ?_
      exact J.iretM (pc := 52) C hR ((Option.some.inj hf).trans hp) dX8_move_52
    · refine J.aload_n (pc := 27) C dX8_move_27 rfl 0 rfl ?_
      refine J.getR (pc := 28) C kcX8 hk 0 rfl tw_298 rfl dX8_move_28 ?_
      refine J.getR (pc := 31) C kcX5 (ok_8_0 hcl hk) 4 rfl tw_228 rfl dX8_move_31 ?_
      refine J.getR (pc := 34) C kcX0 (ok_5_4 hcl (ok_8_0 hcl hk)) 0 rfl tw_201 rfl dX8_move_34 ?_
      refine J.iload_n (pc := 37) C dX8_move_37 rfl 1 rfl ?_
      refine J.iald (pc := 38) C (ok_0_0 hcl (ok_5_4 hcl (ok_8_0 hcl hk))) hf dX8_move_38 (fun hf => ?_)
      refine J.iload_n (pc := 39) C dX8_move_39 rfl 2 rfl ?_
      refine J.iadd (pc := 40) C dX8_move_40 ?_
      refine J.iconst (pc := 41) C (v := 0) dX8_move_41 (by decide) ?_
      refine J.ldc (pc := 42) C (v := 100000) dX8_move_42 tw_526 ?_
      obtain ⟨r_6, h_5, hf⟩ := bnd_some hf
      refine J.callS (pc := 44) C (m_X8_within h_5) trivial wyX8_within tsX8_within tw_318 [.int ((σ (ptr (ptr (ptr k 0) 4) 0) (ix x1)) + x2), .int 0, .int 100000] [] rfl rfl (Nat.le_of_ble_eq_true rfl) (Nat.le_of_ble_eq_true rfl) (Nat.le_of_ble_eq_true rfl) (stk' := [.int r_6]) rfl dX8_move_44 rfl ?_
      refine J.if_ne (pc := 47) C (tgt := 53) dX8_move_47 (by decide) hf (fun hf => ?_) (fun hf => ?_)
      · refine J.aload_n (pc := 53) C dX8_move_53 rfl 0 rfl ?_
        refine J.getR (pc := 54) C kcX8 hk 0 rfl tw_298 rfl dX8_move_54 ?_
        refine J.getR (pc := 57) C kcX5 (ok_8_0 hcl hk) 4 rfl tw_228 rfl dX8_move_57 ?_
        refine J.iload_n (pc := 60) C dX8_move_60 rfl 1 rfl ?_
        refine J.iload_n (pc := 61) C dX8_move_61 rfl 2 rfl ?_
        obtain ⟨r_8, σ_9, h_7, hf⟩ := bnd2_some hf
        refine J.callV (pc := 62) C (m_X0_postpone h_7) (ok_5_4 hcl (ok_8_0 hcl hk)) wyX0_postpone tvX0_postpone_i tvX0_postpone_s tw_560 kcX0 rfl (ok_5_4 hcl (ok_8_0 hcl hk)) [.int x1, .int x2] [] rfl rfl (Nat.le_of_ble_eq_true rfl) (Nat.le_of_ble_eq_true rfl) (Nat.le_of_ble_eq_true rfl) (stk' := [.int r_8]) rfl dX8_move_62 rfl ?_
        exact J.iretM (pc := 65) C hR ((Option.some.inj hf).trans hp) dX8_move_65
      · refine J.bipush (pc := 50) C (v := (-2)) dX8_move_50 (by decide) ?_
        exact J.iretM (pc := 52) C hR ((Option.some.inj hf).trans hp) dX8_move_52
  · refine J.iconst (pc := 14) C (v := (-1)) dX8_move_14 (by decide) ?_
    exact J.iretM (pc := 15) C hR ((Option.some.inj hf).trans hp) dX8_move_15
set_option maxHeartbeats 4000000 in
set_option maxRecDepth 100000 in
theorem m_X8_part {l : Launch} {σ : Mem} {k : Nat} {x1 : Int32} {x2 : Int32} {t0 : Int32} (hf : f_X8_part σ k x1 x2 = some t0) : Ct l yX8_part cX8_part 3 (some FieldType.int) 2 43 (fun ks => Ok ks k 8) (fun ad => [.ref (ad k), .int x1, .int x2]) σ (fun _ => some (.int t0)) σ := by
  refine Ct.of (plainFor_of_name (by decide)) (fun _ => Nat.le_of_ble_eq_true rfl) ?_
  intro X C _ hk hcl hR
  have C : Cx X RX8 cX8_part 3 (some FieldType.int) 2 43 := C
  have hp : t0 = t0 := rfl
  show J X 0 [(0, .ref (Xad X k)), (1, .int x1), (2, .int x2)] [] σ
  unfold f_X8_part at hf
  refine J.aload_n (pc := 0) C dX8_part_0 rfl 0 rfl ?_
  refine J.getR (pc := 1) C kcX8 hk 0 rfl tw_298 rfl dX8_part_1 ?_
  refine J.getR (pc := 4) C kcX5 (ok_8_0 hcl hk) 4 rfl tw_228 rfl dX8_part_4 ?_
  refine J.iload_n (pc := 7) C dX8_part_7 rfl 1 rfl ?_
  obtain ⟨r_2, h_1, hf⟩ := bnd_some hf
  refine J.callV (pc := 8) C (m_X0_has h_1) (ok_5_4 hcl (ok_8_0 hcl hk)) wyX0_has tvX0_has_i tvX0_has_s tw_541 kcX0 rfl (ok_5_4 hcl (ok_8_0 hcl hk)) [.int x1] [] rfl rfl (Nat.le_of_ble_eq_true rfl) (Nat.le_of_ble_eq_true rfl) (Nat.le_of_ble_eq_true rfl) (stk' := [.int r_2]) rfl dX8_part_8 rfl ?_
  refine J.if_ne (pc := 11) C (tgt := 16) dX8_part_11 (by decide) hf (fun hf => ?_) (fun hf => ?_)
  · refine J.iload_n (pc := 16) C dX8_part_16 rfl 2 rfl ?_
    refine J.tblIn (pc := 17) C dX8_part_17 0 hf (by decide) (by decide) rfl (tgt := 44) (by decide) (fun hf => ?_) (fun hn0 hf => ?_)
    · refine J.aload_n (pc := 44) C dX8_part_44 rfl 0 rfl ?_
      refine J.getR (pc := 45) C kcX8 hk 0 rfl tw_298 rfl dX8_part_45 ?_
      refine J.getR (pc := 48) C kcX5 (ok_8_0 hcl hk) 4 rfl tw_228 rfl dX8_part_48 ?_
      refine J.getR (pc := 51) C kcX0 (ok_5_4 hcl (ok_8_0 hcl hk)) 0 rfl tw_201 rfl dX8_part_51 ?_
      refine J.iload_n (pc := 54) C dX8_part_54 rfl 1 rfl ?_
      refine J.iald (pc := 55) C (ok_0_0 hcl (ok_5_4 hcl (ok_8_0 hcl hk))) hf dX8_part_55 (fun hf => ?_)
      exact J.iretP (pc := 56) C hR ((Option.some.inj hf).trans hp) dX8_part_56
    refine J.tblIn (pc := 17) C dX8_part_17 1 hf (by decide) (by decide) rfl (tgt := 57) (by decide) (fun hf => ?_) (fun hn1 hf => ?_)
    · refine J.aload_n (pc := 57) C dX8_part_57 rfl 0 rfl ?_
      refine J.getR (pc := 58) C kcX8 hk 0 rfl tw_298 rfl dX8_part_58 ?_
      refine J.getR (pc := 61) C kcX5 (ok_8_0 hcl hk) 4 rfl tw_228 rfl dX8_part_61 ?_
      refine J.getR (pc := 64) C kcX0 (ok_5_4 hcl (ok_8_0 hcl hk)) 1 rfl tw_203 rfl dX8_part_64 ?_
      refine J.iload_n (pc := 67) C dX8_part_67 rfl 1 rfl ?_
      refine J.iald (pc := 68) C (ok_0_1 hcl (ok_5_4 hcl (ok_8_0 hcl hk))) hf dX8_part_68 (fun hf => ?_)
      exact J.iretP (pc := 69) C hR ((Option.some.inj hf).trans hp) dX8_part_69
    refine J.tblIn (pc := 17) C dX8_part_17 2 hf (by decide) (by decide) rfl (tgt := 70) (by decide) (fun hf => ?_) (fun hn2 hf => ?_)
    · refine J.aload_n (pc := 70) C dX8_part_70 rfl 0 rfl ?_
      refine J.getR (pc := 71) C kcX8 hk 0 rfl tw_298 rfl dX8_part_71 ?_
      refine J.getR (pc := 74) C kcX5 (ok_8_0 hcl hk) 4 rfl tw_228 rfl dX8_part_74 ?_
      refine J.getR (pc := 77) C kcX0 (ok_5_4 hcl (ok_8_0 hcl hk)) 2 rfl tw_205 rfl dX8_part_77 ?_
      refine J.iload_n (pc := 80) C dX8_part_80 rfl 1 rfl ?_
      refine J.iald (pc := 81) C (ok_0_2 hcl (ok_5_4 hcl (ok_8_0 hcl hk))) hf dX8_part_81 (fun hf => ?_)
      exact J.iretP (pc := 82) C hR ((Option.some.inj hf).trans hp) dX8_part_82
    refine J.tblOut (pc := 17) C dX8_part_17 (by have q0 := lv_neT hn0 (a := 0) (by decide); have q1 := lv_neT hn1 (a := 1) (by decide); have q2 := lv_neT hn2 (a := 2) (by decide); omega) (tgt := 83) (by decide) ?_
    refine J.bipush (pc := 83) C (v := (-2)) dX8_part_83 (by decide) ?_
    exact J.iretP (pc := 85) C hR ((Option.some.inj hf).trans hp) dX8_part_85
  · refine J.iconst (pc := 14) C (v := (-1)) dX8_part_14 (by decide) ?_
    exact J.iretP (pc := 15) C hR ((Option.some.inj hf).trans hp) dX8_part_15
set_option maxHeartbeats 4000000 in
set_option maxRecDepth 100000 in
theorem m_X8_command {l : Launch} {n : Nat} {σ : Mem} {k : Nat} {x1 : Int32} {x2 : Int32} {t0 : (Int32 × Mem)} (hf : f_X8_command n σ k x1 x2 = some t0) : Ct l yX8_command cX8_command 3 (some FieldType.int) 1 23 (fun ks => Ok ks k 8) (fun ad => [.ref (ad k), .int x1, .int x2]) σ (fun _ => some (.int t0.1)) t0.2 := by
  refine Ct.of (plainFor_of_name (by decide)) (fun _ => Nat.le_of_ble_eq_true rfl) ?_
  intro X C _ hk hcl hR
  have C : Cx X RX8 cX8_command 3 (some FieldType.int) 1 23 := C
  have hp : t0 = t0 := rfl
  show J X 0 [(0, .ref (Xad X k)), (1, .int x1), (2, .int x2)] [] σ
  unfold f_X8_command at hf
  refine J.iload_n (pc := 0) C dX8_command_0 rfl 1 rfl ?_
  refine J.iconst (pc := 1) C (v := 1) dX8_command_1 (by decide) ?_
  refine J.sipush (pc := 2) C (v := 4095) dX8_command_2 (by decide) ?_
  obtain ⟨r_2, h_1, hf⟩ := bnd_some hf
  refine J.callS (pc := 5) C (m_X8_within h_1) trivial wyX8_within tsX8_within tw_318 [.int x1, .int 1, .int 4095] [] rfl rfl (Nat.le_of_ble_eq_true rfl) (Nat.le_of_ble_eq_true rfl) (Nat.le_of_ble_eq_true rfl) (stk' := [.int r_2]) rfl dX8_command_5 rfl ?_
  refine J.if_eq (pc := 8) C (tgt := 22) dX8_command_8 (by decide) hf (fun hf => ?_) (fun hf => ?_)
  · refine J.bipush (pc := 22) C (v := (-2)) dX8_command_22 (by decide) ?_
    exact J.iretM (pc := 24) C hR ((Option.some.inj hf).trans hp) dX8_command_24
  · refine J.iload_n (pc := 11) C dX8_command_11 rfl 2 rfl ?_
    refine J.iconst (pc := 12) C (v := 0) dX8_command_12 (by decide) ?_
    refine J.sipush (pc := 13) C (v := 1000) dX8_command_13 (by decide) ?_
    obtain ⟨r_4, h_3, hf⟩ := bnd_some hf
    refine J.callS (pc := 16) C (m_X8_within h_3) trivial wyX8_within tsX8_within tw_318 [.int x2, .int 0, .int 1000] [] rfl rfl (Nat.le_of_ble_eq_true rfl) (Nat.le_of_ble_eq_true rfl) (Nat.le_of_ble_eq_true rfl) (stk' := [.int r_4]) rfl dX8_command_16 rfl ?_
    refine J.if_ne (pc := 19) C (tgt := 25) dX8_command_19 (by decide) hf (fun hf => ?_) (fun hf => ?_)
    · refine J.aload_n (pc := 25) C dX8_command_25 rfl 0 rfl ?_
      refine J.getR (pc := 26) C kcX8 hk 0 rfl tw_298 rfl dX8_command_26 ?_
      refine J.getR (pc := 29) C kcX5 (ok_8_0 hcl hk) 1 rfl tw_222 rfl dX8_command_29 ?_
      refine J.iload_n (pc := 32) C dX8_command_32 rfl 1 rfl ?_
      refine J.iload_n (pc := 33) C dX8_command_33 rfl 2 rfl ?_
      obtain ⟨σ_7, h_5, hf⟩ := bnd_some hf
      refine J.callV (pc := 34) C (m_X1_obey h_5) (ok_5_1 hcl (ok_8_0 hcl hk)) wyX1_obey tvX1_obey_i tvX1_obey_s tw_550 kcX1 rfl (ok_5_1 hcl (ok_8_0 hcl hk)) [.int x1, .int x2] [] rfl rfl (Nat.le_of_ble_eq_true rfl) (Nat.le_of_ble_eq_true rfl) (Nat.le_of_ble_eq_true rfl) (stk' := []) rfl dX8_command_34 rfl ?_
      refine J.aload_n (pc := 37) C dX8_command_37 rfl 0 rfl ?_
      refine J.getR (pc := 38) C kcX8 hk 0 rfl tw_298 rfl dX8_command_38 ?_
      refine J.getI (pc := 41) C kcX5 (ok_8_0 hcl hk) 5 rfl tw_230 rfl dX8_command_41 ?_
      exact J.iretM (pc := 44) C hR ((Option.some.inj hf).trans hp) dX8_command_44
    · refine J.bipush (pc := 22) C (v := (-2)) dX8_command_22 (by decide) ?_
      exact J.iretM (pc := 24) C hR ((Option.some.inj hf).trans hp) dX8_command_24
set_option maxHeartbeats 4000000 in
set_option maxRecDepth 100000 in
theorem m_X8_tick {l : Launch} {n : Nat} {σ : Mem} {k : Nat} {x1 : Int32} {t0 : (Int32 × Mem)} (hf : f_X8_tick n σ k x1 = some t0) : Ct l yX8_tick cX8_tick 3 (some FieldType.int) 5 116 (fun ks => Ok ks k 8) (fun ad => [.ref (ad k), .int x1]) σ (fun _ => some (.int t0.1)) t0.2 := by
  refine Ct.of (plainFor_of_name (by decide)) (fun _ => Nat.le_of_ble_eq_true rfl) ?_
  intro X C _ hk hcl hR
  have C : Cx X RX8 cX8_tick 3 (some FieldType.int) 5 116 := C
  have L33 : ∀ (σ : Mem) (x1 : Int32) (x2 : Int32) (t : (Int32 × Mem)), f_X8_tick_L33 n σ k x1 x2 = some t → t = t0 → J X 33 [(0, .ref (Xad X k)), (1, .int x1), (2, .int x2)] [] σ := by
    intro σ x1 x2 t hf hp
    unfold f_X8_tick_L33 at hf
    refine J_iter (JJ := fun (s : Mem × Int32) => J X 33 [(0, .ref (Xad X k)), (1, .int x1), (2, .int (s.2))] [] s.1) (Ps := fun t => t = t0) ?_ n (σ, x2) t hf hp
    clear hf hp
    intro s t hf hp hq
    obtain ⟨σ, x2⟩ := s
    have hp := And.intro hp hq
    clear hq
    have hf : f_X8_tick_B33 n σ k x1 x2 = some t := hf
    show J X 33 [(0, .ref (Xad X k)), (1, .int x1), (2, .int x2)] [] σ
    unfold f_X8_tick_B33 at hf
    refine J.iload_n (pc := 33) C dX8_tick_33 rfl 2 rfl ?_
    refine J.iload_n (pc := 34) C dX8_tick_34 rfl 1 rfl ?_
    refine J.icmp_ge (pc := 35) C (tgt := 51) dX8_tick_35 (by decide) hf (fun hf => ?_) (fun hf => ?_)
    · refine J.aload_n (pc := 51) C dX8_tick_51 rfl 0 rfl ?_
      refine J.getR (pc := 52) C kcX8 hk 0 rfl tw_298 rfl dX8_tick_52 ?_
      refine J.getI (pc := 55) C kcX5 (ok_8_0 hcl hk) 5 rfl tw_230 rfl dX8_tick_55 ?_
      exact J.iretM (pc := 58) C hR ((hp.1 _ (Option.some.inj hf).symm)) dX8_tick_58
    · refine J.aload_n (pc := 38) C dX8_tick_38 rfl 0 rfl ?_
      refine J.getR (pc := 39) C kcX8 hk 0 rfl tw_298 rfl dX8_tick_39 ?_
      obtain ⟨σ_5, h_3, hf⟩ := bnd_some hf
      refine J.callV (pc := 42) C (m_X5_makeTick h_3) (ok_8_0 hcl hk) wyX5_makeTick tvX5_makeTick_i tvX5_makeTick_s tw_416 kcX5 rfl (ok_8_0 hcl hk) [] [] rfl rfl (Nat.le_of_ble_eq_true rfl) (Nat.le_of_ble_eq_true rfl) (Nat.le_of_ble_eq_true rfl) (stk' := []) rfl dX8_tick_42 rfl ?_
      obtain ⟨x2_6, hx_x2_6, hf⟩ := nm_some hf
      refine J.iinc (pc := 45) C (v := x2_6) (loc' := [(2, .int x2_6), (0, .ref (Xad X k)), (1, .int x1)]) dX8_tick_45 (k := 2) rfl (by rw [hx_x2_6]; rfl) (by decide) rfl ?_
      refine J.goto (pc := 48) C (tgt := 33) dX8_tick_48 (by decide) ?_
      exact J.sub (loc' := [(0, .ref (Xad X k)), (1, .int x1), (2, .int x2_6)]) [1, 2, 0] rfl (hp.2 _ (Option.some.inj hf).symm)
  have hp : t0 = t0 := rfl
  show J X 0 [(0, .ref (Xad X k)), (1, .int x1)] [] σ
  unfold f_X8_tick at hf
  refine J.iload_n (pc := 0) C dX8_tick_0 rfl 1 rfl ?_
  refine J.iconst (pc := 1) C (v := 1) dX8_tick_1 (by decide) ?_
  refine J.sipush (pc := 2) C (v := 2000) dX8_tick_2 (by decide) ?_
  obtain ⟨r_2, h_1, hf⟩ := bnd_some hf
  refine J.callS (pc := 5) C (m_X8_within h_1) trivial wyX8_within tsX8_within tw_318 [.int x1, .int 1, .int 2000] [] rfl rfl (Nat.le_of_ble_eq_true rfl) (Nat.le_of_ble_eq_true rfl) (Nat.le_of_ble_eq_true rfl) (stk' := [.int r_2]) rfl dX8_tick_5 rfl ?_
  refine J.if_ne (pc := 8) C (tgt := 14) dX8_tick_8 (by decide) hf (fun hf => ?_) (fun hf => ?_)
  · refine J.aload_n (pc := 14) C dX8_tick_14 rfl 0 rfl ?_
    refine J.getR (pc := 15) C kcX8 hk 0 rfl tw_298 rfl dX8_tick_15 ?_
    refine J.getI (pc := 18) C kcX5 (ok_8_0 hcl hk) 5 rfl tw_230 rfl dX8_tick_18 ?_
    refine J.iload_n (pc := 21) C dX8_tick_21 rfl 1 rfl ?_
    refine J.iadd (pc := 22) C dX8_tick_22 ?_
    refine J.ldc (pc := 23) C (v := 200000) dX8_tick_23 tw_415 ?_
    refine J.icmp_le (pc := 25) C (tgt := 31) dX8_tick_25 (by decide) hf (fun hf => ?_) (fun hf => ?_)
    · refine J.iconst (pc := 31) C (v := 0) dX8_tick_31 (by decide) ?_
      refine J.istore_n (pc := 32) C (loc' := [(2, .int 0), (0, .ref (Xad X k)), (1, .int x1)]) dX8_tick_32 rfl (by decide) rfl ?_
      exact J.sub (loc' := [(0, .ref (Xad X k)), (1, .int x1), (2, .int 0)]) [1, 2, 0] rfl (L33 σ x1 0 _ hf hp)
    · refine J.bipush (pc := 28) C (v := (-5)) dX8_tick_28 (by decide) ?_
      exact J.iretM (pc := 30) C hR ((Option.some.inj hf).trans hp) dX8_tick_30
  · refine J.bipush (pc := 11) C (v := (-2)) dX8_tick_11 (by decide) ?_
    exact J.iretM (pc := 13) C hR ((Option.some.inj hf).trans hp) dX8_tick_13
set_option maxHeartbeats 4000000 in
set_option maxRecDepth 100000 in
theorem m_X8_rewind {l : Launch} {n : Nat} {σ : Mem} {k : Nat} {t0 : (Int32 × Mem)} (hf : f_X8_rewind n σ k = some t0) : Ct l yX8_rewind cX8_rewind 2 (some FieldType.int) 3 61 (fun ks => Ok ks k 8) (fun ad => [.ref (ad k)]) σ (fun _ => some (.int t0.1)) t0.2 := by
  refine Ct.of (plainFor_of_name (by decide)) (fun _ => Nat.le_of_ble_eq_true rfl) ?_
  intro X C _ hk hcl hR
  have C : Cx X RX8 cX8_rewind 2 (some FieldType.int) 3 61 := C
  have hp : t0 = t0 := rfl
  show J X 0 [(0, .ref (Xad X k))] [] σ
  unfold f_X8_rewind at hf
  refine J.aload_n (pc := 0) C dX8_rewind_0 rfl 0 rfl ?_
  refine J.getR (pc := 1) C kcX8 hk 0 rfl tw_298 rfl dX8_rewind_1 ?_
  refine J.getI (pc := 4) C kcX5 (ok_8_0 hcl hk) 5 rfl tw_230 rfl dX8_rewind_4 ?_
  refine J.nmI hf (fun x1_1 hf => ?_)
  refine J.istore_n (pc := 7) C (loc' := [(1, .int x1_1), (0, .ref (Xad X k))]) dX8_rewind_7 rfl (by decide) rfl ?_
  refine J.aload_n (pc := 8) C dX8_rewind_8 rfl 1 rfl ?_
  refine J.getR (pc := 9) C kcX8 hk 0 rfl tw_298 rfl dX8_rewind_9 ?_
  obtain ⟨σ_4, h_2, hf⟩ := bnd_some hf
  refine J.callV (pc := 12) C (m_X5_goBack h_2) (ok_8_0 hcl hk) wyX5_goBack tvX5_goBack_i tvX5_goBack_s tw_683 kcX5 rfl (ok_8_0 hcl hk) [] [] rfl rfl (Nat.le_of_ble_eq_true rfl) (Nat.le_of_ble_eq_true rfl) (Nat.le_of_ble_eq_true rfl) (stk' := []) rfl dX8_rewind_12 rfl ?_
  refine J.iload_n (pc := 15) C dX8_rewind_15 rfl 0 rfl ?_
  exact J.iretM (pc := 16) C hR ((Option.some.inj hf).trans hp) dX8_rewind_16
set_option maxHeartbeats 4000000 in
set_option maxRecDepth 100000 in
theorem m_X8_spray {l : Launch} {σ : Mem} {k : Nat} {x1 : Int32} {x2 : Int32} {t0 : Int32} (hf : f_X8_spray σ k x1 x2 = some t0) : Ct l yX8_spray cX8_spray 3 (some FieldType.int) 2 43 (fun ks => Ok ks k 8) (fun ad => [.ref (ad k), .int x1, .int x2]) σ (fun _ => some (.int t0)) σ := by
  refine Ct.of (plainFor_of_name (by decide)) (fun _ => Nat.le_of_ble_eq_true rfl) ?_
  intro X C _ hk hcl hR
  have C : Cx X RX8 cX8_spray 3 (some FieldType.int) 2 43 := C
  have hp : t0 = t0 := rfl
  show J X 0 [(0, .ref (Xad X k)), (1, .int x1), (2, .int x2)] [] σ
  unfold f_X8_spray at hf
  refine J.aload_n (pc := 0) C dX8_spray_0 rfl 0 rfl ?_
  refine J.getR (pc := 1) C kcX8 hk 0 rfl tw_298 rfl dX8_spray_1 ?_
  refine J.getR (pc := 4) C kcX5 (ok_8_0 hcl hk) 1 rfl tw_222 rfl dX8_spray_4 ?_
  refine J.iload_n (pc := 7) C dX8_spray_7 rfl 1 rfl ?_
  obtain ⟨r_2, h_1, hf⟩ := bnd_some hf
  refine J.callV (pc := 8) C (m_X1_has h_1) (ok_5_1 hcl (ok_8_0 hcl hk)) wyX1_has tvX1_has_i tvX1_has_s tw_355 kcX1 rfl (ok_5_1 hcl (ok_8_0 hcl hk)) [.int x1] [] rfl rfl (Nat.le_of_ble_eq_true rfl) (Nat.le_of_ble_eq_true rfl) (Nat.le_of_ble_eq_true rfl) (stk' := [.int r_2]) rfl dX8_spray_8 rfl ?_
  refine J.if_ne (pc := 11) C (tgt := 16) dX8_spray_11 (by decide) hf (fun hf => ?_) (fun hf => ?_)
  · refine J.iload_n (pc := 16) C dX8_spray_16 rfl 2 rfl ?_
    refine J.tblIn (pc := 17) C dX8_spray_17 6 hf (by decide) (by decide) rfl (tgt := 56) (by decide) (fun hf => ?_) (fun hn6 hf => ?_)
    · refine J.aload_n (pc := 56) C dX8_spray_56 rfl 0 rfl ?_
      refine J.getR (pc := 57) C kcX8 hk 0 rfl tw_298 rfl dX8_spray_57 ?_
      refine J.getR (pc := 60) C kcX5 (ok_8_0 hcl hk) 1 rfl tw_222 rfl dX8_spray_60 ?_
      refine J.getR (pc := 63) C kcX1 (ok_5_1 hcl (ok_8_0 hcl hk)) 1 rfl tw_101 rfl dX8_spray_63 ?_
      refine J.iload_n (pc := 66) C dX8_spray_66 rfl 1 rfl ?_
      refine J.iald (pc := 67) C (ok_1_1 hcl (ok_5_1 hcl (ok_8_0 hcl hk))) hf dX8_spray_67 (fun hf => ?_)
      exact J.iretP (pc := 68) C hR ((Option.some.inj hf).trans hp) dX8_spray_68
    refine J.tblIn (pc := 17) C dX8_spray_17 7 hf (by decide) (by decide) rfl (tgt := 69) (by decide) (fun hf => ?_) (fun hn7 hf => ?_)
    · refine J.aload_n (pc := 69) C dX8_spray_69 rfl 0 rfl ?_
      refine J.getR (pc := 70) C kcX8 hk 0 rfl tw_298 rfl dX8_spray_70 ?_
      refine J.getR (pc := 73) C kcX5 (ok_8_0 hcl hk) 1 rfl tw_222 rfl dX8_spray_73 ?_
      refine J.getR (pc := 76) C kcX1 (ok_5_1 hcl (ok_8_0 hcl hk)) 2 rfl tw_103 rfl dX8_spray_76 ?_
      refine J.iload_n (pc := 79) C dX8_spray_79 rfl 1 rfl ?_
      refine J.iald (pc := 80) C (ok_1_2 hcl (ok_5_1 hcl (ok_8_0 hcl hk))) hf dX8_spray_80 (fun hf => ?_)
      exact J.iretP (pc := 81) C hR ((Option.some.inj hf).trans hp) dX8_spray_81
    refine J.tblIn (pc := 17) C dX8_spray_17 8 hf (by decide) (by decide) rfl (tgt := 82) (by decide) (fun hf => ?_) (fun hn8 hf => ?_)
    · refine J.aload_n (pc := 82) C dX8_spray_82 rfl 0 rfl ?_
      refine J.getR (pc := 83) C kcX8 hk 0 rfl tw_298 rfl dX8_spray_83 ?_
      refine J.getR (pc := 86) C kcX5 (ok_8_0 hcl hk) 1 rfl tw_222 rfl dX8_spray_86 ?_
      refine J.getR (pc := 89) C kcX1 (ok_5_1 hcl (ok_8_0 hcl hk)) 3 rfl tw_105 rfl dX8_spray_89 ?_
      refine J.iload_n (pc := 92) C dX8_spray_92 rfl 1 rfl ?_
      refine J.iald (pc := 93) C (ok_1_3 hcl (ok_5_1 hcl (ok_8_0 hcl hk))) hf dX8_spray_93 (fun hf => ?_)
      exact J.iretP (pc := 94) C hR ((Option.some.inj hf).trans hp) dX8_spray_94
    refine J.tblIn (pc := 17) C dX8_spray_17 9 hf (by decide) (by decide) rfl (tgt := 95) (by decide) (fun hf => ?_) (fun hn9 hf => ?_)
    · refine J.aload_n (pc := 95) C dX8_spray_95 rfl 0 rfl ?_
      refine J.getR (pc := 96) C kcX8 hk 0 rfl tw_298 rfl dX8_spray_96 ?_
      refine J.getR (pc := 99) C kcX5 (ok_8_0 hcl hk) 1 rfl tw_222 rfl dX8_spray_99 ?_
      refine J.getR (pc := 102) C kcX1 (ok_5_1 hcl (ok_8_0 hcl hk)) 4 rfl tw_107 rfl dX8_spray_102 ?_
      refine J.iload_n (pc := 105) C dX8_spray_105 rfl 1 rfl ?_
      refine J.iald (pc := 106) C (ok_1_4 hcl (ok_5_1 hcl (ok_8_0 hcl hk))) hf dX8_spray_106 (fun hf => ?_)
      exact J.iretP (pc := 107) C hR ((Option.some.inj hf).trans hp) dX8_spray_107
    refine J.tblIn (pc := 17) C dX8_spray_17 10 hf (by decide) (by decide) rfl (tgt := 108) (by decide) (fun hf => ?_) (fun hn10 hf => ?_)
    · refine J.aload_n (pc := 108) C dX8_spray_108 rfl 0 rfl ?_
      refine J.getR (pc := 109) C kcX8 hk 0 rfl tw_298 rfl dX8_spray_109 ?_
      refine J.getR (pc := 112) C kcX5 (ok_8_0 hcl hk) 1 rfl tw_222 rfl dX8_spray_112 ?_
      refine J.getR (pc := 115) C kcX1 (ok_5_1 hcl (ok_8_0 hcl hk)) 5 rfl tw_109 rfl dX8_spray_115 ?_
      refine J.iload_n (pc := 118) C dX8_spray_118 rfl 1 rfl ?_
      refine J.iald (pc := 119) C (ok_1_5 hcl (ok_5_1 hcl (ok_8_0 hcl hk))) hf dX8_spray_119 (fun hf => ?_)
      exact J.iretP (pc := 120) C hR ((Option.some.inj hf).trans hp) dX8_spray_120
    refine J.tblIn (pc := 17) C dX8_spray_17 11 hf (by decide) (by decide) rfl (tgt := 121) (by decide) (fun hf => ?_) (fun hn11 hf => ?_)
    · refine J.aload_n (pc := 121) C dX8_spray_121 rfl 0 rfl ?_
      refine J.getR (pc := 122) C kcX8 hk 0 rfl tw_298 rfl dX8_spray_122 ?_
      refine J.getR (pc := 125) C kcX5 (ok_8_0 hcl hk) 1 rfl tw_222 rfl dX8_spray_125 ?_
      refine J.getR (pc := 128) C kcX1 (ok_5_1 hcl (ok_8_0 hcl hk)) 6 rfl tw_111 rfl dX8_spray_128 ?_
      refine J.iload_n (pc := 131) C dX8_spray_131 rfl 1 rfl ?_
      refine J.iald (pc := 132) C (ok_1_6 hcl (ok_5_1 hcl (ok_8_0 hcl hk))) hf dX8_spray_132 (fun hf => ?_)
      exact J.iretP (pc := 133) C hR ((Option.some.inj hf).trans hp) dX8_spray_133
    refine J.tblOut (pc := 17) C dX8_spray_17 (by have q6 := lv_neT hn6 (a := 6) (by decide); have q7 := lv_neT hn7 (a := 7) (by decide); have q8 := lv_neT hn8 (a := 8) (by decide); have q9 := lv_neT hn9 (a := 9) (by decide); have q10 := lv_neT hn10 (a := 10) (by decide); have q11 := lv_neT hn11 (a := 11) (by decide); omega) (tgt := 134) (by decide) ?_
    refine J.iload_n (pc := 134) C dX8_spray_134 rfl 2 rfl ?_
    refine J.iconst (pc := 135) C (v := 0) dX8_spray_135 (by decide) ?_
    refine J.iconst (pc := 136) C (v := 5) dX8_spray_136 (by decide) ?_
    obtain ⟨r_4, h_3, hf⟩ := bnd_some hf
    refine J.callS (pc := 137) C (m_X8_within h_3) trivial wyX8_within tsX8_within tw_318 [.int x2, .int 0, .int 5] [] rfl rfl (Nat.le_of_ble_eq_true rfl) (Nat.le_of_ble_eq_true rfl) (Nat.le_of_ble_eq_true rfl) (stk' := [.int r_4]) rfl dX8_spray_137 rfl ?_
    refine J.if_eq (pc := 140) C (tgt := 161) dX8_spray_140 (by decide) hf (fun hf => ?_) (fun hf => ?_)
    · refine J.bipush (pc := 161) C (v := (-2)) dX8_spray_161 (by decide) ?_
      exact J.iretP (pc := 163) C hR ((Option.some.inj hf).trans hp) dX8_spray_163
    · refine J.aload_n (pc := 143) C dX8_spray_143 rfl 0 rfl ?_
      refine J.getR (pc := 144) C kcX8 hk 0 rfl tw_298 rfl dX8_spray_144 ?_
      refine J.getR (pc := 147) C kcX5 (ok_8_0 hcl hk) 1 rfl tw_222 rfl dX8_spray_147 ?_
      refine J.getR (pc := 150) C kcX1 (ok_5_1 hcl (ok_8_0 hcl hk)) 0 rfl tw_99 rfl dX8_spray_150 ?_
      refine J.iload_n (pc := 153) C dX8_spray_153 rfl 1 rfl ?_
      refine J.iload_n (pc := 154) C dX8_spray_154 rfl 2 rfl ?_
      obtain ⟨r_6, h_5, hf⟩ := bnd_some hf
      refine J.callV (pc := 155) C (m_X4_value h_5) (ok_1_0 hcl (ok_5_1 hcl (ok_8_0 hcl hk))) wyX4_value tvX4_value_i tvX4_value_s tw_399 kcX4 rfl (ok_1_0 hcl (ok_5_1 hcl (ok_8_0 hcl hk))) [.int x1, .int x2] [] rfl rfl (Nat.le_of_ble_eq_true rfl) (Nat.le_of_ble_eq_true rfl) (Nat.le_of_ble_eq_true rfl) (stk' := [.int r_6]) rfl dX8_spray_155 rfl ?_
      refine J.goto (pc := 158) C (tgt := 163) dX8_spray_158 (by decide) ?_
      exact J.iretP (pc := 163) C hR ((Option.some.inj hf).trans hp) dX8_spray_163
  · refine J.iconst (pc := 14) C (v := (-1)) dX8_spray_14 (by decide) ?_
    exact J.iretP (pc := 15) C hR ((Option.some.inj hf).trans hp) dX8_spray_15
set_option maxHeartbeats 4000000 in
set_option maxRecDepth 100000 in
theorem m_X8_pressure {l : Launch} {σ : Mem} {k : Nat} {x1 : Int32} {x2 : Int32} {t0 : Int32} (hf : f_X8_pressure σ k x1 x2 = some t0) : Ct l yX8_pressure cX8_pressure 3 (some FieldType.int) 1 23 (fun ks => Ok ks k 8) (fun ad => [.ref (ad k), .int x1, .int x2]) σ (fun _ => some (.int t0)) σ := by
  refine Ct.of (plainFor_of_name (by decide)) (fun _ => Nat.le_of_ble_eq_true rfl) ?_
  intro X C _ hk hcl hR
  have C : Cx X RX8 cX8_pressure 3 (some FieldType.int) 1 23 := C
  have hp : t0 = t0 := rfl
  show J X 0 [(0, .ref (Xad X k)), (1, .int x1), (2, .int x2)] [] σ
  unfold f_X8_pressure at hf
  refine J.iload_n (pc := 0) C dX8_pressure_0 rfl 1 rfl ?_
  refine J.iconst (pc := 1) C (v := 0) dX8_pressure_1 (by decide) ?_
  refine J.iconst (pc := 2) C (v := 2) dX8_pressure_2 (by decide) ?_
  obtain ⟨r_2, h_1, hf⟩ := bnd_some hf
  refine J.callS (pc := 3) C (m_X8_within h_1) trivial wyX8_within tsX8_within tw_318 [.int x1, .int 0, .int 2] [] rfl rfl (Nat.le_of_ble_eq_true rfl) (Nat.le_of_ble_eq_true rfl) (Nat.le_of_ble_eq_true rfl) (stk' := [.int r_2]) rfl dX8_pressure_3 rfl ?_
  refine J.if_ne (pc := 6) C (tgt := 11) dX8_pressure_6 (by decide) hf (fun hf => ?_) (fun hf => ?_)
  · refine J.iload_n (pc := 11) C dX8_pressure_11 rfl 2 rfl ?_
    refine J.tblIn (pc := 12) C dX8_pressure_12 2 hf (by decide) (by decide) rfl (tgt := 40) (by decide) (fun hf => ?_) (fun hn2 hf => ?_)
    · refine J.aload_n (pc := 40) C dX8_pressure_40 rfl 0 rfl ?_
      refine J.getR (pc := 41) C kcX8 hk 0 rfl tw_298 rfl dX8_pressure_41 ?_
      refine J.getR (pc := 44) C kcX5 (ok_8_0 hcl hk) 2 rfl tw_224 rfl dX8_pressure_44 ?_
      refine J.getR (pc := 47) C kcX3 (ok_5_2 hcl (ok_8_0 hcl hk)) 1 rfl tw_156 rfl dX8_pressure_47 ?_
      refine J.iload_n (pc := 50) C dX8_pressure_50 rfl 1 rfl ?_
      refine J.iald (pc := 51) C (ok_3_1 hcl (ok_5_2 hcl (ok_8_0 hcl hk))) hf dX8_pressure_51 (fun hf => ?_)
      exact J.iretP (pc := 52) C hR ((Option.some.inj hf).trans hp) dX8_pressure_52
    refine J.tblIn (pc := 12) C dX8_pressure_12 3 hf (by decide) (by decide) rfl (tgt := 53) (by decide) (fun hf => ?_) (fun hn3 hf => ?_)
    · refine J.aload_n (pc := 53) C dX8_pressure_53 rfl 0 rfl ?_
      refine J.getR (pc := 54) C kcX8 hk 0 rfl tw_298 rfl dX8_pressure_54 ?_
      refine J.getR (pc := 57) C kcX5 (ok_8_0 hcl hk) 2 rfl tw_224 rfl dX8_pressure_57 ?_
      refine J.getR (pc := 60) C kcX3 (ok_5_2 hcl (ok_8_0 hcl hk)) 2 rfl tw_158 rfl dX8_pressure_60 ?_
      refine J.iload_n (pc := 63) C dX8_pressure_63 rfl 1 rfl ?_
      refine J.iald (pc := 64) C (ok_3_2 hcl (ok_5_2 hcl (ok_8_0 hcl hk))) hf dX8_pressure_64 (fun hf => ?_)
      exact J.iretP (pc := 65) C hR ((Option.some.inj hf).trans hp) dX8_pressure_65
    refine J.tblIn (pc := 12) C dX8_pressure_12 4 hf (by decide) (by decide) rfl (tgt := 66) (by decide) (fun hf => ?_) (fun hn4 hf => ?_)
    · refine J.aload_n (pc := 66) C dX8_pressure_66 rfl 0 rfl ?_
      refine J.getR (pc := 67) C kcX8 hk 0 rfl tw_298 rfl dX8_pressure_67 ?_
      refine J.getR (pc := 70) C kcX5 (ok_8_0 hcl hk) 2 rfl tw_224 rfl dX8_pressure_70 ?_
      refine J.getR (pc := 73) C kcX3 (ok_5_2 hcl (ok_8_0 hcl hk)) 3 rfl tw_160 rfl dX8_pressure_73 ?_
      refine J.iload_n (pc := 76) C dX8_pressure_76 rfl 1 rfl ?_
      refine J.iald (pc := 77) C (ok_3_3 hcl (ok_5_2 hcl (ok_8_0 hcl hk))) hf dX8_pressure_77 (fun hf => ?_)
      exact J.iretP (pc := 78) C hR ((Option.some.inj hf).trans hp) dX8_pressure_78
    refine J.tblOut (pc := 12) C dX8_pressure_12 (by have q2 := lv_neT hn2 (a := 2) (by decide); have q3 := lv_neT hn3 (a := 3) (by decide); have q4 := lv_neT hn4 (a := 4) (by decide); omega) (tgt := 79) (by decide) ?_
    refine J.iload_n (pc := 79) C dX8_pressure_79 rfl 2 rfl ?_
    refine J.iconst (pc := 80) C (v := 0) dX8_pressure_80 (by decide) ?_
    refine J.iconst (pc := 81) C (v := 1) dX8_pressure_81 (by decide) ?_
    obtain ⟨r_4, h_3, hf⟩ := bnd_some hf
    refine J.callS (pc := 82) C (m_X8_within h_3) trivial wyX8_within tsX8_within tw_318 [.int x2, .int 0, .int 1] [] rfl rfl (Nat.le_of_ble_eq_true rfl) (Nat.le_of_ble_eq_true rfl) (Nat.le_of_ble_eq_true rfl) (stk' := [.int r_4]) rfl dX8_pressure_82 rfl ?_
    refine J.if_eq (pc := 85) C (tgt := 106) dX8_pressure_85 (by decide) hf (fun hf => ?_) (fun hf => ?_)
    · refine J.bipush (pc := 106) C (v := (-2)) dX8_pressure_106 (by decide) ?_
      exact J.iretP (pc := 108) C hR ((Option.some.inj hf).trans hp) dX8_pressure_108
    · refine J.aload_n (pc := 88) C dX8_pressure_88 rfl 0 rfl ?_
      refine J.getR (pc := 89) C kcX8 hk 0 rfl tw_298 rfl dX8_pressure_89 ?_
      refine J.getR (pc := 92) C kcX5 (ok_8_0 hcl hk) 2 rfl tw_224 rfl dX8_pressure_92 ?_
      refine J.getR (pc := 95) C kcX3 (ok_5_2 hcl (ok_8_0 hcl hk)) 0 rfl tw_154 rfl dX8_pressure_95 ?_
      refine J.iload_n (pc := 98) C dX8_pressure_98 rfl 1 rfl ?_
      refine J.iload_n (pc := 99) C dX8_pressure_99 rfl 2 rfl ?_
      obtain ⟨r_6, h_5, hf⟩ := bnd_some hf
      refine J.callV (pc := 100) C (m_X4_value h_5) (ok_3_0 hcl (ok_5_2 hcl (ok_8_0 hcl hk))) wyX4_value tvX4_value_i tvX4_value_s tw_399 kcX4 rfl (ok_3_0 hcl (ok_5_2 hcl (ok_8_0 hcl hk))) [.int x1, .int x2] [] rfl rfl (Nat.le_of_ble_eq_true rfl) (Nat.le_of_ble_eq_true rfl) (Nat.le_of_ble_eq_true rfl) (stk' := [.int r_6]) rfl dX8_pressure_100 rfl ?_
      refine J.goto (pc := 103) C (tgt := 108) dX8_pressure_103 (by decide) ?_
      exact J.iretP (pc := 108) C hR ((Option.some.inj hf).trans hp) dX8_pressure_108
  · refine J.iconst (pc := 9) C (v := (-1)) dX8_pressure_9 (by decide) ?_
    exact J.iretP (pc := 10) C hR ((Option.some.inj hf).trans hp) dX8_pressure_10
set_option maxHeartbeats 4000000 in
set_option maxRecDepth 100000 in
theorem m_X8_state {l : Launch} {n : Nat} {σ : Mem} {k : Nat} {x1 : Int32} {t0 : Int32} (hf : f_X8_state n σ k x1 = some t0) : Ct l yX8_state cX8_state 2 (some FieldType.int) 1 23 (fun ks => Ok ks k 8) (fun ad => [.ref (ad k), .int x1]) σ (fun _ => some (.int t0)) σ := by
  refine Ct.of (plainFor_of_name (by decide)) (fun _ => Nat.le_of_ble_eq_true rfl) ?_
  intro X C _ hk hcl hR
  have C : Cx X RX8 cX8_state 2 (some FieldType.int) 1 23 := C
  have hp : t0 = t0 := rfl
  show J X 0 [(0, .ref (Xad X k)), (1, .int x1)] [] σ
  unfold f_X8_state at hf
  refine J.iload_n (pc := 0) C dX8_state_0 rfl 1 rfl ?_
  refine J.tblIn (pc := 1) C dX8_state_1 0 hf (by decide) (by decide) rfl (tgt := 56) (by decide) (fun hf => ?_) (fun hn0 hf => ?_)
  · refine J.aload_n (pc := 56) C dX8_state_56 rfl 0 rfl ?_
    refine J.getR (pc := 57) C kcX8 hk 0 rfl tw_298 rfl dX8_state_57 ?_
    refine J.getI (pc := 60) C kcX5 (ok_8_0 hcl hk) 5 rfl tw_230 rfl dX8_state_60 ?_
    exact J.iretP (pc := 63) C hR ((Option.some.inj hf).trans hp) dX8_state_63
  refine J.tblIn (pc := 1) C dX8_state_1 1 hf (by decide) (by decide) rfl (tgt := 64) (by decide) (fun hf => ?_) (fun hn1 hf => ?_)
  · refine J.aload_n (pc := 64) C dX8_state_64 rfl 0 rfl ?_
    refine J.getR (pc := 65) C kcX8 hk 0 rfl tw_298 rfl dX8_state_65 ?_
    refine J.getR (pc := 68) C kcX5 (ok_8_0 hcl hk) 1 rfl tw_222 rfl dX8_state_68 ?_
    refine J.getI (pc := 71) C kcX1 (ok_5_1 hcl (ok_8_0 hcl hk)) 8 rfl tw_114 rfl dX8_state_71 ?_
    exact J.iretP (pc := 74) C hR ((Option.some.inj hf).trans hp) dX8_state_74
  refine J.tblIn (pc := 1) C dX8_state_1 2 hf (by decide) (by decide) rfl (tgt := 75) (by decide) (fun hf => ?_) (fun hn2 hf => ?_)
  · refine J.aload_n (pc := 75) C dX8_state_75 rfl 0 rfl ?_
    refine J.getR (pc := 76) C kcX8 hk 0 rfl tw_298 rfl dX8_state_76 ?_
    refine J.getR (pc := 79) C kcX5 (ok_8_0 hcl hk) 4 rfl tw_228 rfl dX8_state_79 ?_
    refine J.getI (pc := 82) C kcX0 (ok_5_4 hcl (ok_8_0 hcl hk)) 3 rfl tw_209 rfl dX8_state_82 ?_
    exact J.iretP (pc := 85) C hR ((Option.some.inj hf).trans hp) dX8_state_85
  refine J.tblIn (pc := 1) C dX8_state_1 3 hf (by decide) (by decide) rfl (tgt := 86) (by decide) (fun hf => ?_) (fun hn3 hf => ?_)
  · refine J.aload_n (pc := 86) C dX8_state_86 rfl 0 rfl ?_
    refine J.getR (pc := 87) C kcX8 hk 0 rfl tw_298 rfl dX8_state_87 ?_
    refine J.getR (pc := 90) C kcX5 (ok_8_0 hcl hk) 3 rfl tw_226 rfl dX8_state_90 ?_
    refine J.getI (pc := 93) C kcX7 (ok_5_3 hcl (ok_8_0 hcl hk)) 0 rfl tw_178 rfl dX8_state_93 ?_
    exact J.iretP (pc := 96) C hR ((Option.some.inj hf).trans hp) dX8_state_96
  refine J.tblIn (pc := 1) C dX8_state_1 4 hf (by decide) (by decide) rfl (tgt := 97) (by decide) (fun hf => ?_) (fun hn4 hf => ?_)
  · refine J.aload_n (pc := 97) C dX8_state_97 rfl 0 rfl ?_
    refine J.getR (pc := 98) C kcX8 hk 0 rfl tw_298 rfl dX8_state_98 ?_
    refine J.getR (pc := 101) C kcX5 (ok_8_0 hcl hk) 3 rfl tw_226 rfl dX8_state_101 ?_
    obtain ⟨r_6, h_5, hf⟩ := bnd_some hf
    refine J.callV (pc := 104) C (m_X7_measured h_5) (ok_5_3 hcl (ok_8_0 hcl hk)) wyX7_measured tvX7_measured_i tvX7_measured_s tw_391 kcX7 rfl (ok_5_3 hcl (ok_8_0 hcl hk)) [] [] rfl rfl (Nat.le_of_ble_eq_true rfl) (Nat.le_of_ble_eq_true rfl) (Nat.le_of_ble_eq_true rfl) (stk' := [.int r_6]) rfl dX8_state_104 rfl ?_
    exact J.iretP (pc := 107) C hR ((Option.some.inj hf).trans hp) dX8_state_107
  refine J.tblIn (pc := 1) C dX8_state_1 5 hf (by decide) (by decide) rfl (tgt := 108) (by decide) (fun hf => ?_) (fun hn5 hf => ?_)
  · refine J.aload_n (pc := 108) C dX8_state_108 rfl 0 rfl ?_
    refine J.getR (pc := 109) C kcX8 hk 0 rfl tw_298 rfl dX8_state_109 ?_
    refine J.getR (pc := 112) C kcX5 (ok_8_0 hcl hk) 3 rfl tw_226 rfl dX8_state_112 ?_
    refine J.getI (pc := 115) C kcX7 (ok_5_3 hcl (ok_8_0 hcl hk)) 2 rfl tw_182 rfl dX8_state_115 ?_
    exact J.iretP (pc := 118) C hR ((Option.some.inj hf).trans hp) dX8_state_118
  refine J.tblIn (pc := 1) C dX8_state_1 6 hf (by decide) (by decide) rfl (tgt := 119) (by decide) (fun hf => ?_) (fun hn6 hf => ?_)
  · refine J.aload_n (pc := 119) C dX8_state_119 rfl 0 rfl ?_
    refine J.getR (pc := 120) C kcX8 hk 0 rfl tw_298 rfl dX8_state_120 ?_
    refine J.getR (pc := 123) C kcX5 (ok_8_0 hcl hk) 3 rfl tw_226 rfl dX8_state_123 ?_
    refine J.getI (pc := 126) C kcX7 (ok_5_3 hcl (ok_8_0 hcl hk)) 3 rfl tw_184 rfl dX8_state_126 ?_
    exact J.iretP (pc := 129) C hR ((Option.some.inj hf).trans hp) dX8_state_129
  refine J.tblIn (pc := 1) C dX8_state_1 7 hf (by decide) (by decide) rfl (tgt := 130) (by decide) (fun hf => ?_) (fun hn7 hf => ?_)
  · refine J.aload_n (pc := 130) C dX8_state_130 rfl 0 rfl ?_
    refine J.getR (pc := 131) C kcX8 hk 0 rfl tw_298 rfl dX8_state_131 ?_
    refine J.getI (pc := 134) C kcX5 (ok_8_0 hcl hk) 6 rfl tw_232 rfl dX8_state_134 ?_
    exact J.iretP (pc := 137) C hR ((Option.some.inj hf).trans hp) dX8_state_137
  refine J.tblIn (pc := 1) C dX8_state_1 8 hf (by decide) (by decide) rfl (tgt := 138) (by decide) (fun hf => ?_) (fun hn8 hf => ?_)
  · refine J.aload_n (pc := 138) C dX8_state_138 rfl 0 rfl ?_
    refine J.getR (pc := 139) C kcX8 hk 0 rfl tw_298 rfl dX8_state_139 ?_
    refine J.getR (pc := 142) C kcX5 (ok_8_0 hcl hk) 4 rfl tw_228 rfl dX8_state_142 ?_
    refine J.aload_n (pc := 145) C dX8_state_145 rfl 0 rfl ?_
    refine J.getR (pc := 146) C kcX8 hk 0 rfl tw_298 rfl dX8_state_146 ?_
    refine J.getI (pc := 149) C kcX5 (ok_8_0 hcl hk) 5 rfl tw_230 rfl dX8_state_149 ?_
    obtain ⟨r_8, h_7, hf⟩ := bnd_some hf
    refine J.callV (pc := 152) C (m_X0_next h_7) (ok_5_4 hcl (ok_8_0 hcl hk)) wyX0_next tvX0_next_i tvX0_next_s tw_395 kcX0 rfl (ok_5_4 hcl (ok_8_0 hcl hk)) [.int (σ (ptr k 0) 5)] [] rfl rfl (Nat.le_of_ble_eq_true rfl) (Nat.le_of_ble_eq_true rfl) (Nat.le_of_ble_eq_true rfl) (stk' := [.int r_8]) rfl dX8_state_152 rfl ?_
    exact J.iretP (pc := 155) C hR ((Option.some.inj hf).trans hp) dX8_state_155
  refine J.tblIn (pc := 1) C dX8_state_1 9 hf (by decide) (by decide) rfl (tgt := 156) (by decide) (fun hf => ?_) (fun hn9 hf => ?_)
  · refine J.aload_n (pc := 156) C dX8_state_156 rfl 0 rfl ?_
    refine J.getR (pc := 157) C kcX8 hk 4 rfl tw_302 rfl dX8_state_157 ?_
    refine J.getI (pc := 160) C kcX2 (ok_8_4 hcl hk) 2 rfl tw_277 rfl dX8_state_160 ?_
    exact J.iretP (pc := 163) C hR ((Option.some.inj hf).trans hp) dX8_state_163
  refine J.tblOut (pc := 1) C dX8_state_1 (by have q0 := lv_neT hn0 (a := 0) (by decide); have q1 := lv_neT hn1 (a := 1) (by decide); have q2 := lv_neT hn2 (a := 2) (by decide); have q3 := lv_neT hn3 (a := 3) (by decide); have q4 := lv_neT hn4 (a := 4) (by decide); have q5 := lv_neT hn5 (a := 5) (by decide); have q6 := lv_neT hn6 (a := 6) (by decide); have q7 := lv_neT hn7 (a := 7) (by decide); have q8 := lv_neT hn8 (a := 8) (by decide); have q9 := lv_neT hn9 (a := 9) (by decide); omega) (tgt := 164) (by decide) ?_
  refine J.iload_n (pc := 164) C dX8_state_164 rfl 1 rfl ?_
  refine J.bipush (pc := 165) C (v := 10) dX8_state_165 (by decide) ?_
  refine J.bipush (pc := 167) C (v := 15) dX8_state_167 (by decide) ?_
  obtain ⟨r_2, h_1, hf⟩ := bnd_some hf
  refine J.callS (pc := 169) C (m_X8_within h_1) trivial wyX8_within tsX8_within tw_318 [.int x1, .int 10, .int 15] [] rfl rfl (Nat.le_of_ble_eq_true rfl) (Nat.le_of_ble_eq_true rfl) (Nat.le_of_ble_eq_true rfl) (stk' := [.int r_2]) rfl dX8_state_169 rfl ?_
  refine J.if_eq (pc := 172) C (tgt := 193) dX8_state_172 (by decide) hf (fun hf => ?_) (fun hf => ?_)
  · refine J.bipush (pc := 193) C (v := (-2)) dX8_state_193 (by decide) ?_
    exact J.iretP (pc := 195) C hR ((Option.some.inj hf).trans hp) dX8_state_195
  · refine J.aload_n (pc := 175) C dX8_state_175 rfl 0 rfl ?_
    refine J.getR (pc := 176) C kcX8 hk 0 rfl tw_298 rfl dX8_state_176 ?_
    refine J.getR (pc := 179) C kcX5 (ok_8_0 hcl hk) 0 rfl tw_220 rfl dX8_state_179 ?_
    refine J.iconst (pc := 182) C (v := 0) dX8_state_182 (by decide) ?_
    refine J.iload_n (pc := 183) C dX8_state_183 rfl 1 rfl ?_
    refine J.bipush (pc := 184) C (v := 10) dX8_state_184 (by decide) ?_
    refine J.isub (pc := 186) C dX8_state_186 ?_
    obtain ⟨r_4, h_3, hf⟩ := bnd_some hf
    refine J.callV (pc := 187) C (m_X4_value h_3) (ok_5_0 hcl (ok_8_0 hcl hk)) wyX4_value tvX4_value_i tvX4_value_s tw_399 kcX4 rfl (ok_5_0 hcl (ok_8_0 hcl hk)) [.int 0, .int (x1 - 10)] [] rfl rfl (Nat.le_of_ble_eq_true rfl) (Nat.le_of_ble_eq_true rfl) (Nat.le_of_ble_eq_true rfl) (stk' := [.int r_4]) rfl dX8_state_187 rfl ?_
    refine J.goto (pc := 190) C (tgt := 195) dX8_state_190 (by decide) ?_
    exact J.iretP (pc := 195) C hR ((Option.some.inj hf).trans hp) dX8_state_195
set_option maxHeartbeats 4000000 in
set_option maxRecDepth 100000 in
theorem m_X8_firstShort {l : Launch} {n : Nat} {σ : Mem} {k : Nat} {x1 : Int32} {x2 : Int32} {t0 : (Int32 × Mem)} (hf : f_X8_firstShort n σ k x1 x2 = some t0) : Ct l yX8_firstShort cX8_firstShort 4 (some FieldType.int) 5 116 (fun ks => Ok ks k 8) (fun ad => [.ref (ad k), .int x1, .int x2]) σ (fun _ => some (.int t0.1)) t0.2 := by
  refine Ct.of (plainFor_of_name (by decide)) (fun _ => Nat.le_of_ble_eq_true rfl) ?_
  intro X C _ hk hcl hR
  have C : Cx X RX8 cX8_firstShort 4 (some FieldType.int) 5 116 := C
  have L2 : ∀ (σ : Mem) (x1 : Int32) (x2 : Int32) (x3 : Int32) (t : (Int32 × Mem)), f_X8_firstShort_L2 n σ k x1 x2 x3 = some t → t = t0 → J X 2 [(0, .ref (Xad X k)), (1, .int x1), (2, .int x2), (3, .int x3)] [] σ := by
    intro σ x1 x2 x3 t hf hp
    unfold f_X8_firstShort_L2 at hf
    refine J_iter (JJ := fun (s : Mem × Int32) => J X 2 [(0, .ref (Xad X k)), (1, .int x1), (2, .int x2), (3, .int (s.2))] [] s.1) (Ps := fun t => t = t0) ?_ n (σ, x3) t hf hp
    clear hf hp
    intro s t hf hp hq
    obtain ⟨σ, x3⟩ := s
    have hp := And.intro hp hq
    clear hq
    have hf : f_X8_firstShort_B2 n σ k x1 x2 x3 = some t := hf
    show J X 2 [(0, .ref (Xad X k)), (1, .int x1), (2, .int x2), (3, .int x3)] [] σ
    unfold f_X8_firstShort_B2 at hf
    refine J.iload_n (pc := 2) C dX8_firstShort_2 rfl 3 rfl ?_
    refine J.iload_n (pc := 3) C dX8_firstShort_3 rfl 1 rfl ?_
    refine J.icmp_ge (pc := 4) C (tgt := 36) dX8_firstShort_4 (by decide) hf (fun hf => ?_) (fun hf => ?_)
    · refine J.bipush (pc := 36) C (v := (-6)) dX8_firstShort_36 (by decide) ?_
      exact J.iretM (pc := 38) C hR ((hp.1 _ (Option.some.inj hf).symm)) dX8_firstShort_38
    · refine J.aload_n (pc := 7) C dX8_firstShort_7 rfl 0 rfl ?_
      refine J.getR (pc := 8) C kcX8 hk 1 rfl tw_299 rfl dX8_firstShort_8 ?_
      obtain ⟨σ_3, h_1, hf⟩ := bnd_some hf
      refine J.callV (pc := 11) C (m_X5_makeTick h_1) (ok_8_1 hcl hk) wyX5_makeTick tvX5_makeTick_i tvX5_makeTick_s tw_416 kcX5 rfl (ok_8_1 hcl hk) [] [] rfl rfl (Nat.le_of_ble_eq_true rfl) (Nat.le_of_ble_eq_true rfl) (Nat.le_of_ble_eq_true rfl) (stk' := []) rfl dX8_firstShort_11 rfl ?_
      refine J.aload_n (pc := 14) C dX8_firstShort_14 rfl 0 rfl ?_
      refine J.getR (pc := 15) C kcX8 hk 1 rfl tw_299 rfl dX8_firstShort_15 ?_
      refine J.getR (pc := 18) C kcX5 (ok_8_1 hcl hk) 2 rfl tw_224 rfl dX8_firstShort_18 ?_
      refine J.iload_n (pc := 21) C dX8_firstShort_21 rfl 2 rfl ?_
      obtain ⟨r_5, h_4, hf⟩ := bnd_some hf
      refine J.callV (pc := 22) C (m_X3_isShort h_4) (ok_5_2 hcl (ok_8_1 hcl hk)) wyX3_isShort tvX3_isShort_i tvX3_isShort_s tw_625 kcX3 rfl (ok_5_2 hcl (ok_8_1 hcl hk)) [.int x2] [] rfl rfl (Nat.le_of_ble_eq_true rfl) (Nat.le_of_ble_eq_true rfl) (Nat.le_of_ble_eq_true rfl) (stk' := [.int r_5]) rfl dX8_firstShort_22 rfl ?_
      refine J.if_eq (pc := 25) C (tgt := 30) dX8_firstShort_25 (by decide) hf (fun hf => ?_) (fun hf => ?_)
      · obtain ⟨x3_6, hx_x3_6, hf⟩ := nm_some hf
        refine J.iinc (pc := 30) C (v := x3_6) (loc' := [(3, .int x3_6), (0, .ref (Xad X k)), (1, .int x1), (2, .int x2)]) dX8_firstShort_30 (k := 3) rfl (by rw [hx_x3_6]; rfl) (by decide) rfl ?_
        refine J.goto (pc := 33) C (tgt := 2) dX8_firstShort_33 (by decide) ?_
        exact J.sub (loc' := [(0, .ref (Xad X k)), (1, .int x1), (2, .int x2), (3, .int x3_6)]) [1, 2, 3, 0] rfl (hp.2 _ (Option.some.inj hf).symm)
      · refine J.iload_n (pc := 28) C dX8_firstShort_28 rfl 3 rfl ?_
        exact J.iretM (pc := 29) C hR ((hp.1 _ (Option.some.inj hf).symm)) dX8_firstShort_29
  have hp : t0 = t0 := rfl
  show J X 0 [(0, .ref (Xad X k)), (1, .int x1), (2, .int x2)] [] σ
  unfold f_X8_firstShort at hf
  refine J.iconst (pc := 0) C (v := 0) dX8_firstShort_0 (by decide) ?_
  refine J.istore_n (pc := 1) C (loc' := [(3, .int 0), (0, .ref (Xad X k)), (1, .int x1), (2, .int x2)]) dX8_firstShort_1 rfl (by decide) rfl ?_
  exact J.sub (loc' := [(0, .ref (Xad X k)), (1, .int x1), (2, .int x2), (3, .int 0)]) [1, 2, 3, 0] rfl (L2 σ x1 x2 0 _ hf hp)
set_option maxHeartbeats 4000000 in
set_option maxRecDepth 100000 in
theorem m_X8_greatestDemand {l : Launch} {n : Nat} {σ : Mem} {k : Nat} {x1 : Int32} {x2 : Int32} {t0 : (Int32 × Mem)} (hf : f_X8_greatestDemand n σ k x1 x2 = some t0) : Ct l yX8_greatestDemand cX8_greatestDemand 5 (some FieldType.int) 5 116 (fun ks => Ok ks k 8) (fun ad => [.ref (ad k), .int x1, .int x2]) σ (fun _ => some (.int t0.1)) t0.2 := by
  refine Ct.of (plainFor_of_name (by decide)) (fun _ => Nat.le_of_ble_eq_true rfl) ?_
  intro X C _ hk hcl hR
  have C : Cx X RX8 cX8_greatestDemand 5 (some FieldType.int) 5 116 := C
  have L5 : ∀ (σ : Mem) (x1 : Int32) (x2 : Int32) (x3 : Int32) (x4 : Int32) (t : (Int32 × Mem)), f_X8_greatestDemand_L5 n σ k x1 x2 x3 x4 = some t → t = t0 → J X 5 [(0, .ref (Xad X k)), (1, .int x1), (2, .int x2), (3, .int x3), (4, .int x4)] [] σ := by
    intro σ x1 x2 x3 x4 t hf hp
    unfold f_X8_greatestDemand_L5 at hf
    refine J_iter (JJ := fun (s : Mem × Int32 × Int32) => J X 5 [(0, .ref (Xad X k)), (1, .int x1), (2, .int x2), (3, .int (s.2.1)), (4, .int (s.2.2))] [] s.1) (Ps := fun t => t = t0) ?_ n (σ, x3, x4) t hf hp
    clear hf hp
    intro s t hf hp hq
    obtain ⟨σ, x3, x4⟩ := s
    have hp := And.intro hp hq
    clear hq
    have hf : f_X8_greatestDemand_B5 n σ k x1 x2 x3 x4 = some t := hf
    show J X 5 [(0, .ref (Xad X k)), (1, .int x1), (2, .int x2), (3, .int x3), (4, .int x4)] [] σ
    unfold f_X8_greatestDemand_B5 at hf
    refine J.iload (pc := 5) C dX8_greatestDemand_5 4 rfl ?_
    refine J.iload_n (pc := 7) C dX8_greatestDemand_7 rfl 1 rfl ?_
    refine J.icmp_ge (pc := 8) C (tgt := 41) dX8_greatestDemand_8 (by decide) hf (fun hf => ?_) (fun hf => ?_)
    · refine J.iload_n (pc := 41) C dX8_greatestDemand_41 rfl 3 rfl ?_
      exact J.iretM (pc := 42) C hR ((hp.1 _ (Option.some.inj hf).symm)) dX8_greatestDemand_42
    · refine J.aload_n (pc := 11) C dX8_greatestDemand_11 rfl 0 rfl ?_
      refine J.getR (pc := 12) C kcX8 hk 1 rfl tw_299 rfl dX8_greatestDemand_12 ?_
      obtain ⟨σ_3, h_1, hf⟩ := bnd_some hf
      refine J.callV (pc := 15) C (m_X5_makeTick h_1) (ok_8_1 hcl hk) wyX5_makeTick tvX5_makeTick_i tvX5_makeTick_s tw_416 kcX5 rfl (ok_8_1 hcl hk) [] [] rfl rfl (Nat.le_of_ble_eq_true rfl) (Nat.le_of_ble_eq_true rfl) (Nat.le_of_ble_eq_true rfl) (stk' := []) rfl dX8_greatestDemand_15 rfl ?_
      refine J.iload_n (pc := 18) C dX8_greatestDemand_18 rfl 3 rfl ?_
      refine J.aload_n (pc := 19) C dX8_greatestDemand_19 rfl 0 rfl ?_
      refine J.getR (pc := 20) C kcX8 hk 1 rfl tw_299 rfl dX8_greatestDemand_20 ?_
      refine J.getR (pc := 23) C kcX5 (ok_8_1 hcl hk) 2 rfl tw_224 rfl dX8_greatestDemand_23 ?_
      refine J.getR (pc := 26) C kcX3 (ok_5_2 hcl (ok_8_1 hcl hk)) 2 rfl tw_158 rfl dX8_greatestDemand_26 ?_
      refine J.iload_n (pc := 29) C dX8_greatestDemand_29 rfl 2 rfl ?_
      refine J.iald (pc := 30) C (ok_3_2 hcl (ok_5_2 hcl (ok_8_1 hcl hk))) hf dX8_greatestDemand_30 (fun hf => ?_)
      refine J.mmaxI (pc := 31) C tw_477 twm_max_s twm_i twm_max_c (Nat.le_of_ble_eq_true rfl) (Nat.le_of_ble_eq_true rfl) dX8_greatestDemand_31 ?_
      refine J.nmI hf (fun x3_4 hf => ?_)
      refine J.istore_n (pc := 34) C (loc' := [(3, .int x3_4), (0, .ref (Xad X k)), (1, .int x1), (2, .int x2), (4, .int x4)]) dX8_greatestDemand_34 rfl (by decide) rfl ?_
      obtain ⟨x4_5, hx_x4_5, hf⟩ := nm_some hf
      refine J.iinc (pc := 35) C (v := x4_5) (loc' := [(4, .int x4_5), (3, .int x3_4), (0, .ref (Xad X k)), (1, .int x1), (2, .int x2)]) dX8_greatestDemand_35 (k := 4) rfl (by rw [hx_x4_5]; rfl) (by decide) rfl ?_
      refine J.goto (pc := 38) C (tgt := 5) dX8_greatestDemand_38 (by decide) ?_
      exact J.sub (loc' := [(0, .ref (Xad X k)), (1, .int x1), (2, .int x2), (3, .int x3_4), (4, .int x4_5)]) [2, 3, 4, 1, 0] rfl (hp.2 _ (Option.some.inj hf).symm)
  have hp : t0 = t0 := rfl
  show J X 0 [(0, .ref (Xad X k)), (1, .int x1), (2, .int x2)] [] σ
  unfold f_X8_greatestDemand at hf
  refine J.iconst (pc := 0) C (v := 0) dX8_greatestDemand_0 (by decide) ?_
  refine J.istore_n (pc := 1) C (loc' := [(3, .int 0), (0, .ref (Xad X k)), (1, .int x1), (2, .int x2)]) dX8_greatestDemand_1 rfl (by decide) rfl ?_
  refine J.iconst (pc := 2) C (v := 0) dX8_greatestDemand_2 (by decide) ?_
  refine J.istore (pc := 3) C (loc' := [(4, .int 0), (3, .int 0), (0, .ref (Xad X k)), (1, .int x1), (2, .int x2)]) dX8_greatestDemand_3 (by decide) rfl ?_
  exact J.sub (loc' := [(0, .ref (Xad X k)), (1, .int x1), (2, .int x2), (3, .int 0), (4, .int 0)]) [2, 3, 4, 1, 0] rfl (L5 σ x1 x2 0 0 _ hf hp)
set_option maxHeartbeats 4000000 in
set_option maxRecDepth 100000 in
theorem m_X8_greatestHeight {l : Launch} {n : Nat} {σ : Mem} {k : Nat} {x1 : Int32} {t0 : (Int32 × Mem)} (hf : f_X8_greatestHeight n σ k x1 = some t0) : Ct l yX8_greatestHeight cX8_greatestHeight 4 (some FieldType.int) 5 116 (fun ks => Ok ks k 8) (fun ad => [.ref (ad k), .int x1]) σ (fun _ => some (.int t0.1)) t0.2 := by
  refine Ct.of (plainFor_of_name (by decide)) (fun _ => Nat.le_of_ble_eq_true rfl) ?_
  intro X C _ hk hcl hR
  have C : Cx X RX8 cX8_greatestHeight 4 (some FieldType.int) 5 116 := C
  have L4 : ∀ (σ : Mem) (x1 : Int32) (x2 : Int32) (x3 : Int32) (t : (Int32 × Mem)), f_X8_greatestHeight_L4 n σ k x1 x2 x3 = some t → t = t0 → J X 4 [(0, .ref (Xad X k)), (1, .int x1), (2, .int x2), (3, .int x3)] [] σ := by
    intro σ x1 x2 x3 t hf hp
    unfold f_X8_greatestHeight_L4 at hf
    refine J_iter (JJ := fun (s : Mem × Int32 × Int32) => J X 4 [(0, .ref (Xad X k)), (1, .int x1), (2, .int (s.2.1)), (3, .int (s.2.2))] [] s.1) (Ps := fun t => t = t0) ?_ n (σ, x2, x3) t hf hp
    clear hf hp
    intro s t hf hp hq
    obtain ⟨σ, x2, x3⟩ := s
    have hp := And.intro hp hq
    clear hq
    have hf : f_X8_greatestHeight_B4 n σ k x1 x2 x3 = some t := hf
    show J X 4 [(0, .ref (Xad X k)), (1, .int x1), (2, .int x2), (3, .int x3)] [] σ
    unfold f_X8_greatestHeight_B4 at hf
    refine J.iload_n (pc := 4) C dX8_greatestHeight_4 rfl 3 rfl ?_
    refine J.iload_n (pc := 5) C dX8_greatestHeight_5 rfl 1 rfl ?_
    refine J.icmp_ge (pc := 6) C (tgt := 37) dX8_greatestHeight_6 (by decide) hf (fun hf => ?_) (fun hf => ?_)
    · refine J.iload_n (pc := 37) C dX8_greatestHeight_37 rfl 2 rfl ?_
      exact J.iretM (pc := 38) C hR ((hp.1 _ (Option.some.inj hf).symm)) dX8_greatestHeight_38
    · refine J.aload_n (pc := 9) C dX8_greatestHeight_9 rfl 0 rfl ?_
      refine J.getR (pc := 10) C kcX8 hk 1 rfl tw_299 rfl dX8_greatestHeight_10 ?_
      obtain ⟨σ_3, h_1, hf⟩ := bnd_some hf
      refine J.callV (pc := 13) C (m_X5_makeTick h_1) (ok_8_1 hcl hk) wyX5_makeTick tvX5_makeTick_i tvX5_makeTick_s tw_416 kcX5 rfl (ok_8_1 hcl hk) [] [] rfl rfl (Nat.le_of_ble_eq_true rfl) (Nat.le_of_ble_eq_true rfl) (Nat.le_of_ble_eq_true rfl) (stk' := []) rfl dX8_greatestHeight_13 rfl ?_
      refine J.iload_n (pc := 16) C dX8_greatestHeight_16 rfl 2 rfl ?_
      refine J.aload_n (pc := 17) C dX8_greatestHeight_17 rfl 0 rfl ?_
      refine J.getR (pc := 18) C kcX8 hk 1 rfl tw_299 rfl dX8_greatestHeight_18 ?_
      refine J.getR (pc := 21) C kcX5 (ok_8_1 hcl hk) 1 rfl tw_222 rfl dX8_greatestHeight_21 ?_
      obtain ⟨r_5, h_4, hf⟩ := bnd_some hf
      refine J.callV (pc := 24) C (m_X1_greatestHeightNow h_4) (ok_5_1 hcl (ok_8_1 hcl hk)) wyX1_greatestHeightNow tvX1_greatestHeightNow_i tvX1_greatestHeightNow_s tw_634 kcX1 rfl (ok_5_1 hcl (ok_8_1 hcl hk)) [] [.int x2] rfl rfl (Nat.le_of_ble_eq_true rfl) (Nat.le_of_ble_eq_true rfl) (Nat.le_of_ble_eq_true rfl) (stk' := [.int r_5, .int x2]) rfl dX8_greatestHeight_24 rfl ?_
      refine J.mmaxI (pc := 27) C tw_477 twm_max_s twm_i twm_max_c (Nat.le_of_ble_eq_true rfl) (Nat.le_of_ble_eq_true rfl) dX8_greatestHeight_27 ?_
      refine J.nmI hf (fun x2_6 hf => ?_)
      refine J.istore_n (pc := 30) C (loc' := [(2, .int x2_6), (0, .ref (Xad X k)), (1, .int x1), (3, .int x3)]) dX8_greatestHeight_30 rfl (by decide) rfl ?_
      obtain ⟨x3_7, hx_x3_7, hf⟩ := nm_some hf
      refine J.iinc (pc := 31) C (v := x3_7) (loc' := [(3, .int x3_7), (2, .int x2_6), (0, .ref (Xad X k)), (1, .int x1)]) dX8_greatestHeight_31 (k := 3) rfl (by rw [hx_x3_7]; rfl) (by decide) rfl ?_
      refine J.goto (pc := 34) C (tgt := 4) dX8_greatestHeight_34 (by decide) ?_
      exact J.sub (loc' := [(0, .ref (Xad X k)), (1, .int x1), (2, .int x2_6), (3, .int x3_7)]) [2, 3, 1, 0] rfl (hp.2 _ (Option.some.inj hf).symm)
  have hp : t0 = t0 := rfl
  show J X 0 [(0, .ref (Xad X k)), (1, .int x1)] [] σ
  unfold f_X8_greatestHeight at hf
  refine J.iconst (pc := 0) C (v := 0) dX8_greatestHeight_0 (by decide) ?_
  refine J.istore_n (pc := 1) C (loc' := [(2, .int 0), (0, .ref (Xad X k)), (1, .int x1)]) dX8_greatestHeight_1 rfl (by decide) rfl ?_
  refine J.iconst (pc := 2) C (v := 0) dX8_greatestHeight_2 (by decide) ?_
  refine J.istore_n (pc := 3) C (loc' := [(3, .int 0), (2, .int 0), (0, .ref (Xad X k)), (1, .int x1)]) dX8_greatestHeight_3 rfl (by decide) rfl ?_
  exact J.sub (loc' := [(0, .ref (Xad X k)), (1, .int x1), (2, .int 0), (3, .int 0)]) [2, 3, 1, 0] rfl (L4 σ x1 0 0 _ hf hp)
set_option maxHeartbeats 4000000 in
set_option maxRecDepth 100000 in
theorem m_X8_shortTicks {l : Launch} {n : Nat} {σ : Mem} {k : Nat} {x1 : Int32} {x2 : Int32} {t0 : (Int32 × Mem)} (hf : f_X8_shortTicks n σ k x1 x2 = some t0) : Ct l yX8_shortTicks cX8_shortTicks 5 (some FieldType.int) 5 116 (fun ks => Ok ks k 8) (fun ad => [.ref (ad k), .int x1, .int x2]) σ (fun _ => some (.int t0.1)) t0.2 := by
  refine Ct.of (plainFor_of_name (by decide)) (fun _ => Nat.le_of_ble_eq_true rfl) ?_
  intro X C _ hk hcl hR
  have C : Cx X RX8 cX8_shortTicks 5 (some FieldType.int) 5 116 := C
  have L16 : ∀ (σ : Mem) (x1 : Int32) (x2 : Int32) (x3 : Int32) (x4 : Int32) (t : (Int32 × Mem)), f_X8_shortTicks_L16 n σ k x1 x2 x3 x4 = some t → t = t0 → J X 16 [(0, .ref (Xad X k)), (1, .int x1), (2, .int x2), (3, .int x3), (4, .int x4)] [] σ := by
    intro σ x1 x2 x3 x4 t hf hp
    unfold f_X8_shortTicks_L16 at hf
    refine J_iter (JJ := fun (s : Mem × Int32) => J X 16 [(0, .ref (Xad X k)), (1, .int x1), (2, .int x2), (3, .int x3), (4, .int (s.2))] [] s.1) (Ps := fun t => t = t0) ?_ n (σ, x4) t hf hp
    clear hf hp
    intro s t hf hp hq
    obtain ⟨σ, x4⟩ := s
    have hp := And.intro hp hq
    clear hq
    have hf : f_X8_shortTicks_B16 n σ k x1 x2 x3 x4 = some t := hf
    show J X 16 [(0, .ref (Xad X k)), (1, .int x1), (2, .int x2), (3, .int x3), (4, .int x4)] [] σ
    unfold f_X8_shortTicks_B16 at hf
    refine J.iload (pc := 16) C dX8_shortTicks_16 4 rfl ?_
    refine J.iload_n (pc := 18) C dX8_shortTicks_18 rfl 1 rfl ?_
    refine J.icmp_ge (pc := 19) C (tgt := 35) dX8_shortTicks_19 (by decide) hf (fun hf => ?_) (fun hf => ?_)
    · refine J.aload_n (pc := 35) C dX8_shortTicks_35 rfl 0 rfl ?_
      refine J.getR (pc := 36) C kcX8 hk 1 rfl tw_299 rfl dX8_shortTicks_36 ?_
      refine J.getR (pc := 39) C kcX5 (ok_8_1 hcl hk) 2 rfl tw_224 rfl dX8_shortTicks_39 ?_
      refine J.getR (pc := 42) C kcX3 (ok_5_2 hcl (ok_8_1 hcl hk)) 3 rfl tw_160 rfl dX8_shortTicks_42 ?_
      refine J.iload_n (pc := 45) C dX8_shortTicks_45 rfl 2 rfl ?_
      refine J.iald (pc := 46) C (ok_3_3 hcl (ok_5_2 hcl (ok_8_1 hcl hk))) hf dX8_shortTicks_46 (fun hf => ?_)
      refine J.iload_n (pc := 47) C dX8_shortTicks_47 rfl 3 rfl ?_
      refine J.isub (pc := 48) C dX8_shortTicks_48 ?_
      exact J.iretM (pc := 49) C hR ((hp.1 _ (Option.some.inj hf).symm)) dX8_shortTicks_49
    · refine J.aload_n (pc := 22) C dX8_shortTicks_22 rfl 0 rfl ?_
      refine J.getR (pc := 23) C kcX8 hk 1 rfl tw_299 rfl dX8_shortTicks_23 ?_
      obtain ⟨σ_4, h_2, hf⟩ := bnd_some hf
      refine J.callV (pc := 26) C (m_X5_makeTick h_2) (ok_8_1 hcl hk) wyX5_makeTick tvX5_makeTick_i tvX5_makeTick_s tw_416 kcX5 rfl (ok_8_1 hcl hk) [] [] rfl rfl (Nat.le_of_ble_eq_true rfl) (Nat.le_of_ble_eq_true rfl) (Nat.le_of_ble_eq_true rfl) (stk' := []) rfl dX8_shortTicks_26 rfl ?_
      obtain ⟨x4_5, hx_x4_5, hf⟩ := nm_some hf
      refine J.iinc (pc := 29) C (v := x4_5) (loc' := [(4, .int x4_5), (0, .ref (Xad X k)), (1, .int x1), (2, .int x2), (3, .int x3)]) dX8_shortTicks_29 (k := 4) rfl (by rw [hx_x4_5]; rfl) (by decide) rfl ?_
      refine J.goto (pc := 32) C (tgt := 16) dX8_shortTicks_32 (by decide) ?_
      exact J.sub (loc' := [(0, .ref (Xad X k)), (1, .int x1), (2, .int x2), (3, .int x3), (4, .int x4_5)]) [1, 2, 3, 4, 0] rfl (hp.2 _ (Option.some.inj hf).symm)
  have hp : t0 = t0 := rfl
  show J X 0 [(0, .ref (Xad X k)), (1, .int x1), (2, .int x2)] [] σ
  unfold f_X8_shortTicks at hf
  refine J.aload_n (pc := 0) C dX8_shortTicks_0 rfl 0 rfl ?_
  refine J.getR (pc := 1) C kcX8 hk 1 rfl tw_299 rfl dX8_shortTicks_1 ?_
  refine J.getR (pc := 4) C kcX5 (ok_8_1 hcl hk) 2 rfl tw_224 rfl dX8_shortTicks_4 ?_
  refine J.getR (pc := 7) C kcX3 (ok_5_2 hcl (ok_8_1 hcl hk)) 3 rfl tw_160 rfl dX8_shortTicks_7 ?_
  refine J.iload_n (pc := 10) C dX8_shortTicks_10 rfl 2 rfl ?_
  refine J.iald (pc := 11) C (ok_3_3 hcl (ok_5_2 hcl (ok_8_1 hcl hk))) hf dX8_shortTicks_11 (fun hf => ?_)
  refine J.nmI hf (fun x3_1 hf => ?_)
  refine J.istore_n (pc := 12) C (loc' := [(3, .int x3_1), (0, .ref (Xad X k)), (1, .int x1), (2, .int x2)]) dX8_shortTicks_12 rfl (by decide) rfl ?_
  refine J.iconst (pc := 13) C (v := 0) dX8_shortTicks_13 (by decide) ?_
  refine J.istore (pc := 14) C (loc' := [(4, .int 0), (3, .int x3_1), (0, .ref (Xad X k)), (1, .int x1), (2, .int x2)]) dX8_shortTicks_14 (by decide) rfl ?_
  exact J.sub (loc' := [(0, .ref (Xad X k)), (1, .int x1), (2, .int x2), (3, .int x3_1), (4, .int 0)]) [2, 3, 4, 1, 0] rfl (L16 σ x1 x2 x3_1 0 _ hf hp)
set_option maxHeartbeats 4000000 in
set_option maxRecDepth 100000 in
theorem m_X8_wetTicks {l : Launch} {n : Nat} {σ : Mem} {k : Nat} {x1 : Int32} {t0 : (Int32 × Mem)} (hf : f_X8_wetTicks n σ k x1 = some t0) : Ct l yX8_wetTicks cX8_wetTicks 4 (some FieldType.int) 5 116 (fun ks => Ok ks k 8) (fun ad => [.ref (ad k), .int x1]) σ (fun _ => some (.int t0.1)) t0.2 := by
  refine Ct.of (plainFor_of_name (by decide)) (fun _ => Nat.le_of_ble_eq_true rfl) ?_
  intro X C _ hk hcl hR
  have C : Cx X RX8 cX8_wetTicks 4 (some FieldType.int) 5 116 := C
  have L10 : ∀ (σ : Mem) (x1 : Int32) (x2 : Int32) (x3 : Int32) (t : (Int32 × Mem)), f_X8_wetTicks_L10 n σ k x1 x2 x3 = some t → t = t0 → J X 10 [(0, .ref (Xad X k)), (1, .int x1), (2, .int x2), (3, .int x3)] [] σ := by
    intro σ x1 x2 x3 t hf hp
    unfold f_X8_wetTicks_L10 at hf
    refine J_iter (JJ := fun (s : Mem × Int32) => J X 10 [(0, .ref (Xad X k)), (1, .int x1), (2, .int x2), (3, .int (s.2))] [] s.1) (Ps := fun t => t = t0) ?_ n (σ, x3) t hf hp
    clear hf hp
    intro s t hf hp hq
    obtain ⟨σ, x3⟩ := s
    have hp := And.intro hp hq
    clear hq
    have hf : f_X8_wetTicks_B10 n σ k x1 x2 x3 = some t := hf
    show J X 10 [(0, .ref (Xad X k)), (1, .int x1), (2, .int x2), (3, .int x3)] [] σ
    unfold f_X8_wetTicks_B10 at hf
    refine J.iload_n (pc := 10) C dX8_wetTicks_10 rfl 3 rfl ?_
    refine J.iload_n (pc := 11) C dX8_wetTicks_11 rfl 1 rfl ?_
    refine J.icmp_ge (pc := 12) C (tgt := 28) dX8_wetTicks_12 (by decide) hf (fun hf => ?_) (fun hf => ?_)
    · refine J.aload_n (pc := 28) C dX8_wetTicks_28 rfl 0 rfl ?_
      refine J.getR (pc := 29) C kcX8 hk 1 rfl tw_299 rfl dX8_wetTicks_29 ?_
      refine J.getI (pc := 32) C kcX5 (ok_8_1 hcl hk) 6 rfl tw_232 rfl dX8_wetTicks_32 ?_
      refine J.iload_n (pc := 35) C dX8_wetTicks_35 rfl 2 rfl ?_
      refine J.isub (pc := 36) C dX8_wetTicks_36 ?_
      exact J.iretM (pc := 37) C hR ((hp.1 _ (Option.some.inj hf).symm)) dX8_wetTicks_37
    · refine J.aload_n (pc := 15) C dX8_wetTicks_15 rfl 0 rfl ?_
      refine J.getR (pc := 16) C kcX8 hk 1 rfl tw_299 rfl dX8_wetTicks_16 ?_
      obtain ⟨σ_4, h_2, hf⟩ := bnd_some hf
      refine J.callV (pc := 19) C (m_X5_makeTick h_2) (ok_8_1 hcl hk) wyX5_makeTick tvX5_makeTick_i tvX5_makeTick_s tw_416 kcX5 rfl (ok_8_1 hcl hk) [] [] rfl rfl (Nat.le_of_ble_eq_true rfl) (Nat.le_of_ble_eq_true rfl) (Nat.le_of_ble_eq_true rfl) (stk' := []) rfl dX8_wetTicks_19 rfl ?_
      obtain ⟨x3_5, hx_x3_5, hf⟩ := nm_some hf
      refine J.iinc (pc := 22) C (v := x3_5) (loc' := [(3, .int x3_5), (0, .ref (Xad X k)), (1, .int x1), (2, .int x2)]) dX8_wetTicks_22 (k := 3) rfl (by rw [hx_x3_5]; rfl) (by decide) rfl ?_
      refine J.goto (pc := 25) C (tgt := 10) dX8_wetTicks_25 (by decide) ?_
      exact J.sub (loc' := [(0, .ref (Xad X k)), (1, .int x1), (2, .int x2), (3, .int x3_5)]) [1, 2, 3, 0] rfl (hp.2 _ (Option.some.inj hf).symm)
  have hp : t0 = t0 := rfl
  show J X 0 [(0, .ref (Xad X k)), (1, .int x1)] [] σ
  unfold f_X8_wetTicks at hf
  refine J.aload_n (pc := 0) C dX8_wetTicks_0 rfl 0 rfl ?_
  refine J.getR (pc := 1) C kcX8 hk 1 rfl tw_299 rfl dX8_wetTicks_1 ?_
  refine J.getI (pc := 4) C kcX5 (ok_8_1 hcl hk) 6 rfl tw_232 rfl dX8_wetTicks_4 ?_
  refine J.nmI hf (fun x2_1 hf => ?_)
  refine J.istore_n (pc := 7) C (loc' := [(2, .int x2_1), (0, .ref (Xad X k)), (1, .int x1)]) dX8_wetTicks_7 rfl (by decide) rfl ?_
  refine J.iconst (pc := 8) C (v := 0) dX8_wetTicks_8 (by decide) ?_
  refine J.istore_n (pc := 9) C (loc' := [(3, .int 0), (2, .int x2_1), (0, .ref (Xad X k)), (1, .int x1)]) dX8_wetTicks_9 rfl (by decide) rfl ?_
  exact J.sub (loc' := [(0, .ref (Xad X k)), (1, .int x1), (2, .int x2_1), (3, .int 0)]) [2, 3, 1, 0] rfl (L10 σ x1 x2_1 0 _ hf hp)
set_option maxHeartbeats 4000000 in
set_option maxRecDepth 100000 in
theorem m_X8_ahead {l : Launch} {n : Nat} {σ : Mem} {k : Nat} {x1 : Int32} {x2 : Int32} {x3 : Int32} {t0 : (Int32 × Mem)} (hf : f_X8_ahead n σ k x1 x2 x3 = some t0) : Ct l yX8_ahead cX8_ahead 4 (some FieldType.int) 6 140 (fun ks => Ok ks k 8) (fun ad => [.ref (ad k), .int x1, .int x2, .int x3]) σ (fun _ => some (.int t0.1)) t0.2 := by
  refine Ct.of (plainFor_of_name (by decide)) (fun _ => Nat.le_of_ble_eq_true rfl) ?_
  intro X C _ hk hcl hR
  have C : Cx X RX8 cX8_ahead 4 (some FieldType.int) 6 140 := C
  have L39 : ∀ (σ : Mem) (x1 : Int32) (x2 : Int32) (x3 : Int32) (t : (Int32 × Mem)), f_X8_ahead_L39 n σ k x1 x2 x3 = some t → t = t0 → J X 39 [(0, .ref (Xad X k)), (1, .int x1), (2, .int x2), (3, .int x3)] [] σ := by
    intro σ x1 x2 x3 t hf hp
    unfold f_X8_ahead_L39 at hf
    refine J.aload_n (pc := 39) C dX8_ahead_39 rfl 0 rfl ?_
    refine J.getR (pc := 40) C kcX8 hk 1 rfl tw_299 rfl dX8_ahead_40 ?_
    refine J.aload_n (pc := 43) C dX8_ahead_43 rfl 0 rfl ?_
    refine J.getR (pc := 44) C kcX8 hk 0 rfl tw_298 rfl dX8_ahead_44 ?_
    obtain ⟨σ_7, h_5, hf⟩ := bnd_some hf
    refine J.callV (pc := 47) C (m_X5_copy h_5) ⟨(ok_8_1 hcl hk), (ok_8_0 hcl hk)⟩ wyX5_copy tvX5_copy_i tvX5_copy_s tw_580 kcX5 rfl (ok_8_1 hcl hk) [.ref (Xad X (ptr k 0))] [] rfl rfl (Nat.le_of_ble_eq_true rfl) (Nat.le_of_ble_eq_true rfl) (Nat.le_of_ble_eq_true rfl) (stk' := []) rfl dX8_ahead_47 rfl ?_
    refine J.iload_n (pc := 50) C dX8_ahead_50 rfl 3 rfl ?_
    refine J.tblIn (pc := 51) C dX8_ahead_51 0 hf (by decide) (by decide) rfl (tgt := 80) (by decide) (fun hf => ?_) (fun hn0 hf => ?_)
    · refine J.aload_n (pc := 80) C dX8_ahead_80 rfl 0 rfl ?_
      refine J.iload_n (pc := 81) C dX8_ahead_81 rfl 1 rfl ?_
      refine J.iload_n (pc := 82) C dX8_ahead_82 rfl 2 rfl ?_
      obtain ⟨r_12, σ_13, h_11, hf⟩ := bnd2_some hf
      refine J.callV (pc := 83) C (m_X8_greatestDemand h_11) hk wyX8_greatestDemand tvX8_greatestDemand_i tvX8_greatestDemand_s tw_613 kcX8 rfl hk [.int x1, .int x2] [] rfl rfl (Nat.le_of_ble_eq_true rfl) (Nat.le_of_ble_eq_true rfl) (Nat.le_of_ble_eq_true rfl) (stk' := [.int r_12]) rfl dX8_ahead_83 rfl ?_
      exact J.iretM (pc := 86) C hR ((Option.some.inj hf).trans hp) dX8_ahead_86
    refine J.tblIn (pc := 51) C dX8_ahead_51 1 hf (by decide) (by decide) rfl (tgt := 87) (by decide) (fun hf => ?_) (fun hn1 hf => ?_)
    · refine J.aload_n (pc := 87) C dX8_ahead_87 rfl 0 rfl ?_
      refine J.iload_n (pc := 88) C dX8_ahead_88 rfl 1 rfl ?_
      refine J.iload_n (pc := 89) C dX8_ahead_89 rfl 2 rfl ?_
      obtain ⟨r_15, σ_16, h_14, hf⟩ := bnd2_some hf
      refine J.callV (pc := 90) C (m_X8_shortTicks h_14) hk wyX8_shortTicks tvX8_shortTicks_i tvX8_shortTicks_s tw_617 kcX8 rfl hk [.int x1, .int x2] [] rfl rfl (Nat.le_of_ble_eq_true rfl) (Nat.le_of_ble_eq_true rfl) (Nat.le_of_ble_eq_true rfl) (stk' := [.int r_15]) rfl dX8_ahead_90 rfl ?_
      exact J.iretM (pc := 93) C hR ((Option.some.inj hf).trans hp) dX8_ahead_93
    refine J.tblIn (pc := 51) C dX8_ahead_51 2 hf (by decide) (by decide) rfl (tgt := 94) (by decide) (fun hf => ?_) (fun hn2 hf => ?_)
    · refine J.aload_n (pc := 94) C dX8_ahead_94 rfl 0 rfl ?_
      refine J.iload_n (pc := 95) C dX8_ahead_95 rfl 1 rfl ?_
      refine J.iload_n (pc := 96) C dX8_ahead_96 rfl 2 rfl ?_
      obtain ⟨r_18, σ_19, h_17, hf⟩ := bnd2_some hf
      refine J.callV (pc := 97) C (m_X8_firstShort h_17) hk wyX8_firstShort tvX8_firstShort_i tvX8_firstShort_s tw_621 kcX8 rfl hk [.int x1, .int x2] [] rfl rfl (Nat.le_of_ble_eq_true rfl) (Nat.le_of_ble_eq_true rfl) (Nat.le_of_ble_eq_true rfl) (stk' := [.int r_18]) rfl dX8_ahead_97 rfl ?_
      exact J.iretM (pc := 100) C hR ((Option.some.inj hf).trans hp) dX8_ahead_100
    refine J.tblIn (pc := 51) C dX8_ahead_51 3 hf (by decide) (by decide) rfl (tgt := 101) (by decide) (fun hf => ?_) (fun hn3 hf => ?_)
    · refine J.aload_n (pc := 101) C dX8_ahead_101 rfl 0 rfl ?_
      refine J.iload_n (pc := 102) C dX8_ahead_102 rfl 1 rfl ?_
      obtain ⟨r_21, σ_22, h_20, hf⟩ := bnd2_some hf
      refine J.callV (pc := 103) C (m_X8_wetTicks h_20) hk wyX8_wetTicks tvX8_wetTicks_i tvX8_wetTicks_s tw_626 kcX8 rfl hk [.int x1] [] rfl rfl (Nat.le_of_ble_eq_true rfl) (Nat.le_of_ble_eq_true rfl) (Nat.le_of_ble_eq_true rfl) (stk' := [.int r_21]) rfl dX8_ahead_103 rfl ?_
      exact J.iretM (pc := 106) C hR ((Option.some.inj hf).trans hp) dX8_ahead_106
    refine J.tblOut (pc := 51) C dX8_ahead_51 (by have q0 := lv_neT hn0 (a := 0) (by decide); have q1 := lv_neT hn1 (a := 1) (by decide); have q2 := lv_neT hn2 (a := 2) (by decide); have q3 := lv_neT hn3 (a := 3) (by decide); omega) (tgt := 107) (by decide) ?_
    refine J.aload_n (pc := 107) C dX8_ahead_107 rfl 0 rfl ?_
    refine J.iload_n (pc := 108) C dX8_ahead_108 rfl 1 rfl ?_
    obtain ⟨r_9, σ_10, h_8, hf⟩ := bnd2_some hf
    refine J.callV (pc := 109) C (m_X8_greatestHeight h_8) hk wyX8_greatestHeight tvX8_greatestHeight_i tvX8_greatestHeight_s tw_630 kcX8 rfl hk [.int x1] [] rfl rfl (Nat.le_of_ble_eq_true rfl) (Nat.le_of_ble_eq_true rfl) (Nat.le_of_ble_eq_true rfl) (stk' := [.int r_9]) rfl dX8_ahead_109 rfl ?_
    exact J.iretM (pc := 112) C hR ((Option.some.inj hf).trans hp) dX8_ahead_112
  have hp : t0 = t0 := rfl
  show J X 0 [(0, .ref (Xad X k)), (1, .int x1), (2, .int x2), (3, .int x3)] [] σ
  unfold f_X8_ahead at hf
  refine J.iload_n (pc := 0) C dX8_ahead_0 rfl 1 rfl ?_
  refine J.iconst (pc := 1) C (v := 1) dX8_ahead_1 (by decide) ?_
  refine J.sipush (pc := 2) C (v := 1000) dX8_ahead_2 (by decide) ?_
  obtain ⟨r_2, h_1, hf⟩ := bnd_some hf
  refine J.callS (pc := 5) C (m_X8_within h_1) trivial wyX8_within tsX8_within tw_318 [.int x1, .int 1, .int 1000] [] rfl rfl (Nat.le_of_ble_eq_true rfl) (Nat.le_of_ble_eq_true rfl) (Nat.le_of_ble_eq_true rfl) (stk' := [.int r_2]) rfl dX8_ahead_5 rfl ?_
  refine J.if_eq (pc := 8) C (tgt := 20) dX8_ahead_8 (by decide) hf (fun hf => ?_) (fun hf => ?_)
  · refine J.bipush (pc := 20) C (v := (-2)) dX8_ahead_20 (by decide) ?_
    exact J.iretM (pc := 22) C hR ((Option.some.inj hf).trans hp) dX8_ahead_22
  · refine J.iload_n (pc := 11) C dX8_ahead_11 rfl 3 rfl ?_
    refine J.iconst (pc := 12) C (v := 0) dX8_ahead_12 (by decide) ?_
    refine J.iconst (pc := 13) C (v := 4) dX8_ahead_13 (by decide) ?_
    obtain ⟨r_4, h_3, hf⟩ := bnd_some hf
    refine J.callS (pc := 14) C (m_X8_within h_3) trivial wyX8_within tsX8_within tw_318 [.int x3, .int 0, .int 4] [] rfl rfl (Nat.le_of_ble_eq_true rfl) (Nat.le_of_ble_eq_true rfl) (Nat.le_of_ble_eq_true rfl) (stk' := [.int r_4]) rfl dX8_ahead_14 rfl ?_
    refine J.if_ne (pc := 17) C (tgt := 23) dX8_ahead_17 (by decide) hf (fun hf => ?_) (fun hf => ?_)
    · refine J.iload_n (pc := 23) C dX8_ahead_23 rfl 3 rfl ?_
      refine J.iconst (pc := 24) C (v := 2) dX8_ahead_24 (by decide) ?_
      refine J.icmp_gt (pc := 25) C (tgt := 39) dX8_ahead_25 (by decide) hf (fun hf => ?_) (fun hf => ?_)
      · exact J.sub (loc' := [(0, .ref (Xad X k)), (1, .int x1), (2, .int x2), (3, .int x3)]) [0, 1, 2, 3] rfl (L39 σ x1 x2 x3 _ hf hp)
      · refine J.iload_n (pc := 28) C dX8_ahead_28 rfl 2 rfl ?_
        refine J.iconst (pc := 29) C (v := 0) dX8_ahead_29 (by decide) ?_
        refine J.iconst (pc := 30) C (v := 2) dX8_ahead_30 (by decide) ?_
        obtain ⟨r_24, h_23, hf⟩ := bnd_some hf
        refine J.callS (pc := 31) C (m_X8_within h_23) trivial wyX8_within tsX8_within tw_318 [.int x2, .int 0, .int 2] [] rfl rfl (Nat.le_of_ble_eq_true rfl) (Nat.le_of_ble_eq_true rfl) (Nat.le_of_ble_eq_true rfl) (stk' := [.int r_24]) rfl dX8_ahead_31 rfl ?_
        refine J.if_ne (pc := 34) C (tgt := 39) dX8_ahead_34 (by decide) hf (fun hf => ?_) (fun hf => ?_)
        · exact J.sub (loc' := [(0, .ref (Xad X k)), (1, .int x1), (2, .int x2), (3, .int x3)]) [0, 1, 2, 3] rfl (L39 σ x1 x2 x3 _ hf hp)
        · refine J.iconst (pc := 37) C (v := (-1)) dX8_ahead_37 (by decide) ?_
          exact J.iretM (pc := 38) C hR ((Option.some.inj hf).trans hp) dX8_ahead_38
    · refine J.bipush (pc := 20) C (v := (-2)) dX8_ahead_20 (by decide) ?_
      exact J.iretM (pc := 22) C hR ((Option.some.inj hf).trans hp) dX8_ahead_22
set_option maxHeartbeats 4000000 in
set_option maxRecDepth 100000 in
theorem m_X8_staysSupplied {l : Launch} {n : Nat} {σ : Mem} {k : Nat} {x1 : Int32} {t0 : (Int32 × Mem)} (hf : f_X8_staysSupplied n σ k x1 = some t0) : Ct l yX8_staysSupplied cX8_staysSupplied 3 (some FieldType.boolean) 5 116 (fun ks => Ok ks k 8) (fun ad => [.ref (ad k), .int x1]) σ (fun _ => some (.int t0.1)) t0.2 := by
  refine Ct.of (plainFor_of_name (by decide)) (fun _ => Nat.le_of_ble_eq_true rfl) ?_
  intro X C _ hk hcl hR
  have C : Cx X RX8 cX8_staysSupplied 3 (some FieldType.boolean) 5 116 := C
  have L2 : ∀ (σ : Mem) (x1 : Int32) (x2 : Int32) (t : (Int32 × Mem)), f_X8_staysSupplied_L2 n σ k x1 x2 = some t → t = t0 → J X 2 [(0, .ref (Xad X k)), (1, .int x1), (2, .int x2)] [] σ := by
    intro σ x1 x2 t hf hp
    unfold f_X8_staysSupplied_L2 at hf
    refine J_iter (JJ := fun (s : Mem × Int32) => J X 2 [(0, .ref (Xad X k)), (1, .int x1), (2, .int (s.2))] [] s.1) (Ps := fun t => t = t0) ?_ n (σ, x2) t hf hp
    clear hf hp
    intro s t hf hp hq
    obtain ⟨σ, x2⟩ := s
    have hp := And.intro hp hq
    clear hq
    have hf : f_X8_staysSupplied_B2 n σ k x1 x2 = some t := hf
    show J X 2 [(0, .ref (Xad X k)), (1, .int x1), (2, .int x2)] [] σ
    unfold f_X8_staysSupplied_B2 at hf
    refine J.iload_n (pc := 2) C dX8_staysSupplied_2 rfl 2 rfl ?_
    refine J.iload_n (pc := 3) C dX8_staysSupplied_3 rfl 1 rfl ?_
    refine J.icmp_ge (pc := 4) C (tgt := 35) dX8_staysSupplied_4 (by decide) hf (fun hf => ?_) (fun hf => ?_)
    · refine J.iconst (pc := 35) C (v := 1) dX8_staysSupplied_35 (by decide) ?_
      exact J.zretM (pc := 36) C rfl hR ((hp.1 _ (Option.some.inj hf).symm)) dX8_staysSupplied_36
    · refine J.aload_n (pc := 7) C dX8_staysSupplied_7 rfl 0 rfl ?_
      refine J.getR (pc := 8) C kcX8 hk 1 rfl tw_299 rfl dX8_staysSupplied_8 ?_
      obtain ⟨σ_3, h_1, hf⟩ := bnd_some hf
      refine J.callV (pc := 11) C (m_X5_makeTick h_1) (ok_8_1 hcl hk) wyX5_makeTick tvX5_makeTick_i tvX5_makeTick_s tw_416 kcX5 rfl (ok_8_1 hcl hk) [] [] rfl rfl (Nat.le_of_ble_eq_true rfl) (Nat.le_of_ble_eq_true rfl) (Nat.le_of_ble_eq_true rfl) (stk' := []) rfl dX8_staysSupplied_11 rfl ?_
      refine J.aload_n (pc := 14) C dX8_staysSupplied_14 rfl 0 rfl ?_
      refine J.getR (pc := 15) C kcX8 hk 1 rfl tw_299 rfl dX8_staysSupplied_15 ?_
      refine J.getR (pc := 18) C kcX5 (ok_8_1 hcl hk) 2 rfl tw_224 rfl dX8_staysSupplied_18 ?_
      obtain ⟨r_5, h_4, hf⟩ := bnd_some hf
      refine J.callV (pc := 21) C (m_X3_someShort h_4) (ok_5_2 hcl (ok_8_1 hcl hk)) wyX3_someShort tvX3_someShort_i tvX3_someShort_s tw_661 kcX3 rfl (ok_5_2 hcl (ok_8_1 hcl hk)) [] [] rfl rfl (Nat.le_of_ble_eq_true rfl) (Nat.le_of_ble_eq_true rfl) (Nat.le_of_ble_eq_true rfl) (stk' := [.int r_5]) rfl dX8_staysSupplied_21 rfl ?_
      refine J.if_eq (pc := 24) C (tgt := 29) dX8_staysSupplied_24 (by decide) hf (fun hf => ?_) (fun hf => ?_)
      · obtain ⟨x2_6, hx_x2_6, hf⟩ := nm_some hf
        refine J.iinc (pc := 29) C (v := x2_6) (loc' := [(2, .int x2_6), (0, .ref (Xad X k)), (1, .int x1)]) dX8_staysSupplied_29 (k := 2) rfl (by rw [hx_x2_6]; rfl) (by decide) rfl ?_
        refine J.goto (pc := 32) C (tgt := 2) dX8_staysSupplied_32 (by decide) ?_
        exact J.sub (loc' := [(0, .ref (Xad X k)), (1, .int x1), (2, .int x2_6)]) [1, 2, 0] rfl (hp.2 _ (Option.some.inj hf).symm)
      · refine J.iconst (pc := 27) C (v := 0) dX8_staysSupplied_27 (by decide) ?_
        exact J.zretM (pc := 28) C rfl hR ((hp.1 _ (Option.some.inj hf).symm)) dX8_staysSupplied_28
  have hp : t0 = t0 := rfl
  show J X 0 [(0, .ref (Xad X k)), (1, .int x1)] [] σ
  unfold f_X8_staysSupplied at hf
  refine J.iconst (pc := 0) C (v := 0) dX8_staysSupplied_0 (by decide) ?_
  refine J.istore_n (pc := 1) C (loc' := [(2, .int 0), (0, .ref (Xad X k)), (1, .int x1)]) dX8_staysSupplied_1 rfl (by decide) rfl ?_
  exact J.sub (loc' := [(0, .ref (Xad X k)), (1, .int x1), (2, .int 0)]) [1, 2, 0] rfl (L2 σ x1 0 _ hf hp)
set_option maxHeartbeats 4000000 in
set_option maxRecDepth 100000 in
theorem m_X8_delay {l : Launch} {n : Nat} {σ : Mem} {k : Nat} {x1 : Int32} {x2 : Int32} {x3 : Int32} {t0 : (Int32 × Mem)} (hf : f_X8_delay n σ k x1 x2 x3 = some t0) : Ct l yX8_delay cX8_delay 6 (some FieldType.int) 6 138 (fun ks => Ok ks k 8) (fun ad => [.ref (ad k), .int x1, .int x2, .int x3]) σ (fun _ => some (.int t0.1)) t0.2 := by
  refine Ct.of (plainFor_of_name (by decide)) (fun _ => Nat.le_of_ble_eq_true rfl) ?_
  intro X C _ hk hcl hR
  have C : Cx X RX8 cX8_delay 6 (some FieldType.int) 6 138 := C
  have L64 : ∀ (σ : Mem) (x1 : Int32) (x3 : Int32) (x4 : Int32) (x5 : Int32) (t : (Int32 × Mem)), f_X8_delay_L64 n σ k x1 x3 x4 x5 = some t → t = t0 → J X 64 [(0, .ref (Xad X k)), (1, .int x1), (3, .int x3), (4, .int x4), (5, .int x5)] [] σ := by
    intro σ x1 x3 x4 x5 t hf hp
    unfold f_X8_delay_L64 at hf
    refine J_iter (JJ := fun (s : Mem × Int32) => J X 64 [(0, .ref (Xad X k)), (1, .int x1), (3, .int x3), (4, .int x4), (5, .int (s.2))] [] s.1) (Ps := fun t => t = t0) ?_ n (σ, x5) t hf hp
    clear hf hp
    intro s t hf hp hq
    obtain ⟨σ, x5⟩ := s
    have hp := And.intro hp hq
    clear hq
    have hf : f_X8_delay_B64 n σ k x1 x3 x4 x5 = some t := hf
    show J X 64 [(0, .ref (Xad X k)), (1, .int x1), (3, .int x3), (4, .int x4), (5, .int x5)] [] σ
    unfold f_X8_delay_B64 at hf
    refine J.iload (pc := 64) C dX8_delay_64 4 rfl ?_
    refine J.iload (pc := 66) C dX8_delay_66 3 rfl ?_
    refine J.icmp_gt (pc := 68) C (tgt := 113) dX8_delay_68 (by decide) hf (fun hf => ?_) (fun hf => ?_)
    · refine J.bipush (pc := 113) C (v := (-6)) dX8_delay_113 (by decide) ?_
      exact J.iretM (pc := 115) C hR ((hp.1 _ (Option.some.inj hf).symm)) dX8_delay_115
    · refine J.aload_n (pc := 71) C dX8_delay_71 rfl 0 rfl ?_
      refine J.getR (pc := 72) C kcX8 hk 1 rfl tw_299 rfl dX8_delay_72 ?_
      refine J.aload_n (pc := 75) C dX8_delay_75 rfl 0 rfl ?_
      refine J.getR (pc := 76) C kcX8 hk 0 rfl tw_298 rfl dX8_delay_76 ?_
      obtain ⟨σ_10, h_8, hf⟩ := bnd_some hf
      refine J.callV (pc := 79) C (m_X5_copy h_8) ⟨(ok_8_1 hcl hk), (ok_8_0 hcl hk)⟩ wyX5_copy tvX5_copy_i tvX5_copy_s tw_580 kcX5 rfl (ok_8_1 hcl hk) [.ref (Xad X (ptr k 0))] [] rfl rfl (Nat.le_of_ble_eq_true rfl) (Nat.le_of_ble_eq_true rfl) (Nat.le_of_ble_eq_true rfl) (stk' := []) rfl dX8_delay_79 rfl ?_
      refine J.aload_n (pc := 82) C dX8_delay_82 rfl 0 rfl ?_
      refine J.getR (pc := 83) C kcX8 hk 1 rfl tw_299 rfl dX8_delay_83 ?_
      refine J.getR (pc := 86) C kcX5 (ok_8_1 hcl hk) 4 rfl tw_228 rfl dX8_delay_86 ?_
      refine J.iload_n (pc := 89) C dX8_delay_89 rfl 1 rfl ?_
      refine J.iload (pc := 90) C dX8_delay_90 4 rfl ?_
      obtain ⟨r_12, σ_13, h_11, hf⟩ := bnd2_some hf
      refine J.callV (pc := 92) C (m_X0_postpone h_11) (ok_5_4 hcl (ok_8_1 hcl hk)) wyX0_postpone tvX0_postpone_i tvX0_postpone_s tw_560 kcX0 rfl (ok_5_4 hcl (ok_8_1 hcl hk)) [.int x1, .int x5] [] rfl rfl (Nat.le_of_ble_eq_true rfl) (Nat.le_of_ble_eq_true rfl) (Nat.le_of_ble_eq_true rfl) (stk' := [.int r_12]) rfl dX8_delay_92 rfl ?_
      refine J.pop (pc := 95) C dX8_delay_95 rfl ?_
      refine J.aload_n (pc := 96) C dX8_delay_96 rfl 0 rfl ?_
      refine J.iload_n (pc := 97) C dX8_delay_97 rfl 2 rfl ?_
      obtain ⟨r_15, σ_16, h_14, hf⟩ := bnd2_some hf
      refine J.callV (pc := 98) C (m_X8_staysSupplied h_14) hk wyX8_staysSupplied tvX8_staysSupplied_i tvX8_staysSupplied_s tw_657 kcX8 rfl hk [.int x3] [] rfl rfl (Nat.le_of_ble_eq_true rfl) (Nat.le_of_ble_eq_true rfl) (Nat.le_of_ble_eq_true rfl) (stk' := [.int r_15]) rfl dX8_delay_98 rfl ?_
      refine J.if_eq (pc := 101) C (tgt := 107) dX8_delay_101 (by decide) hf (fun hf => ?_) (fun hf => ?_)
      · obtain ⟨x5_17, hx_x5_17, hf⟩ := nm_some hf
        refine J.iinc (pc := 107) C (v := x5_17) (loc' := [(5, .int x5_17), (0, .ref (Xad X k)), (1, .int x1), (3, .int x3), (4, .int x4)]) dX8_delay_107 (k := 4) rfl (by rw [hx_x5_17]; rfl) (by decide) rfl ?_
        refine J.goto (pc := 110) C (tgt := 64) dX8_delay_110 (by decide) ?_
        exact J.sub (loc' := [(0, .ref (Xad X k)), (1, .int x1), (3, .int x3), (4, .int x4), (5, .int x5_17)]) [1, 2, 3, 4, 0] rfl (hp.2 _ (Option.some.inj hf).symm)
      · refine J.iload (pc := 104) C dX8_delay_104 4 rfl ?_
        exact J.iretM (pc := 106) C hR ((hp.1 _ (Option.some.inj hf).symm)) dX8_delay_106
  have hp : t0 = t0 := rfl
  show J X 0 [(0, .ref (Xad X k)), (1, .int x1), (2, .int x2), (3, .int x3)] [] σ
  unfold f_X8_delay at hf
  refine J.aload_n (pc := 0) C dX8_delay_0 rfl 0 rfl ?_
  refine J.getR (pc := 1) C kcX8 hk 0 rfl tw_298 rfl dX8_delay_1 ?_
  refine J.getR (pc := 4) C kcX5 (ok_8_0 hcl hk) 4 rfl tw_228 rfl dX8_delay_4 ?_
  refine J.iload_n (pc := 7) C dX8_delay_7 rfl 1 rfl ?_
  obtain ⟨r_2, h_1, hf⟩ := bnd_some hf
  refine J.callV (pc := 8) C (m_X0_has h_1) (ok_5_4 hcl (ok_8_0 hcl hk)) wyX0_has tvX0_has_i tvX0_has_s tw_541 kcX0 rfl (ok_5_4 hcl (ok_8_0 hcl hk)) [.int x1] [] rfl rfl (Nat.le_of_ble_eq_true rfl) (Nat.le_of_ble_eq_true rfl) (Nat.le_of_ble_eq_true rfl) (stk' := [.int r_2]) rfl dX8_delay_8 rfl ?_
  refine J.if_ne (pc := 11) C (tgt := 16) dX8_delay_11 (by decide) hf (fun hf => ?_) (fun hf => ?_)
  · refine J.iload_n (pc := 16) C dX8_delay_16 rfl 2 rfl ?_
    refine J.iconst (pc := 17) C (v := 0) dX8_delay_17 (by decide) ?_
    refine J.bipush (pc := 18) C (v := 100) dX8_delay_18 (by decide) ?_
    obtain ⟨r_4, h_3, hf⟩ := bnd_some hf
    refine J.callS (pc := 20) C (m_X8_within h_3) trivial wyX8_within tsX8_within tw_318 [.int x2, .int 0, .int 100] [] rfl rfl (Nat.le_of_ble_eq_true rfl) (Nat.le_of_ble_eq_true rfl) (Nat.le_of_ble_eq_true rfl) (stk' := [.int r_4]) rfl dX8_delay_20 rfl ?_
    refine J.if_eq (pc := 23) C (tgt := 37) dX8_delay_23 (by decide) hf (fun hf => ?_) (fun hf => ?_)
    · refine J.bipush (pc := 37) C (v := (-2)) dX8_delay_37 (by decide) ?_
      exact J.iretM (pc := 39) C hR ((Option.some.inj hf).trans hp) dX8_delay_39
    · refine J.iload_n (pc := 26) C dX8_delay_26 rfl 3 rfl ?_
      refine J.iconst (pc := 27) C (v := 1) dX8_delay_27 (by decide) ?_
      refine J.sipush (pc := 28) C (v := 300) dX8_delay_28 (by decide) ?_
      obtain ⟨r_6, h_5, hf⟩ := bnd_some hf
      refine J.callS (pc := 31) C (m_X8_within h_5) trivial wyX8_within tsX8_within tw_318 [.int x3, .int 1, .int 300] [] rfl rfl (Nat.le_of_ble_eq_true rfl) (Nat.le_of_ble_eq_true rfl) (Nat.le_of_ble_eq_true rfl) (stk' := [.int r_6]) rfl dX8_delay_31 rfl ?_
      refine J.if_ne (pc := 34) C (tgt := 40) dX8_delay_34 (by decide) hf (fun hf => ?_) (fun hf => ?_)
      · refine J.iload_n (pc := 40) C dX8_delay_40 rfl 2 rfl ?_
        refine J.ldc (pc := 41) C (v := 100000) dX8_delay_41 tw_526 ?_
        refine J.aload_n (pc := 43) C dX8_delay_43 rfl 0 rfl ?_
        refine J.getR (pc := 44) C kcX8 hk 0 rfl tw_298 rfl dX8_delay_44 ?_
        refine J.getR (pc := 47) C kcX5 (ok_8_0 hcl hk) 4 rfl tw_228 rfl dX8_delay_47 ?_
        refine J.getR (pc := 50) C kcX0 (ok_5_4 hcl (ok_8_0 hcl hk)) 0 rfl tw_201 rfl dX8_delay_50 ?_
        refine J.iload_n (pc := 53) C dX8_delay_53 rfl 1 rfl ?_
        refine J.iald (pc := 54) C (ok_0_0 hcl (ok_5_4 hcl (ok_8_0 hcl hk))) hf dX8_delay_54 (fun hf => ?_)
        refine J.isub (pc := 55) C dX8_delay_55 ?_
        refine J.mminI (pc := 56) C tw_476 twm_min_s twm_i twm_min_c (Nat.le_of_ble_eq_true rfl) (Nat.le_of_ble_eq_true rfl) dX8_delay_56 ?_
        refine J.nmI hf (fun x4_7 hf => ?_)
        refine J.istore (pc := 59) C (loc' := [(4, .int x4_7), (0, .ref (Xad X k)), (1, .int x1), (2, .int x2), (3, .int x3)]) dX8_delay_59 (by decide) rfl ?_
        refine J.iconst (pc := 61) C (v := 0) dX8_delay_61 (by decide) ?_
        refine J.istore (pc := 62) C (loc' := [(5, .int 0), (4, .int x4_7), (0, .ref (Xad X k)), (1, .int x1), (2, .int x2), (3, .int x3)]) dX8_delay_62 (by decide) rfl ?_
        exact J.sub (loc' := [(0, .ref (Xad X k)), (1, .int x1), (3, .int x3), (4, .int x4_7), (5, .int 0)]) [2, 3, 5, 1, 0] rfl (L64 σ x1 x3 x4_7 0 _ hf hp)
      · refine J.bipush (pc := 37) C (v := (-2)) dX8_delay_37 (by decide) ?_
        exact J.iretM (pc := 39) C hR ((Option.some.inj hf).trans hp) dX8_delay_39
  · refine J.iconst (pc := 14) C (v := (-1)) dX8_delay_14 (by decide) ?_
    exact J.iretM (pc := 15) C hR ((Option.some.inj hf).trans hp) dX8_delay_15
set_option maxHeartbeats 4000000 in
set_option maxRecDepth 100000 in
theorem m_X8_staysDry {l : Launch} {n : Nat} {σ : Mem} {k : Nat} {x1 : Int32} {t0 : (Int32 × Mem)} (hf : f_X8_staysDry n σ k x1 = some t0) : Ct l yX8_staysDry cX8_staysDry 4 (some FieldType.boolean) 5 116 (fun ks => Ok ks k 8) (fun ad => [.ref (ad k), .int x1]) σ (fun _ => some (.int t0.1)) t0.2 := by
  refine Ct.of (plainFor_of_name (by decide)) (fun _ => Nat.le_of_ble_eq_true rfl) ?_
  intro X C _ hk hcl hR
  have C : Cx X RX8 cX8_staysDry 4 (some FieldType.boolean) 5 116 := C
  have L21 : ∀ (σ : Mem) (x1 : Int32) (x2 : Int32) (x3 : Int32) (t : (Int32 × Mem)), f_X8_staysDry_L21 n σ k x1 x2 x3 = some t → t = t0 → J X 21 [(0, .ref (Xad X k)), (1, .int x1), (2, .int x2), (3, .int x3)] [] σ := by
    intro σ x1 x2 x3 t hf hp
    unfold f_X8_staysDry_L21 at hf
    refine J_iter (JJ := fun (s : Mem × Int32) => J X 21 [(0, .ref (Xad X k)), (1, .int x1), (2, .int x2), (3, .int (s.2))] [] s.1) (Ps := fun t => t = t0) ?_ n (σ, x3) t hf hp
    clear hf hp
    intro s t hf hp hq
    obtain ⟨σ, x3⟩ := s
    have hp := And.intro hp hq
    clear hq
    have hf : f_X8_staysDry_B21 n σ k x1 x2 x3 = some t := hf
    show J X 21 [(0, .ref (Xad X k)), (1, .int x1), (2, .int x2), (3, .int x3)] [] σ
    unfold f_X8_staysDry_B21 at hf
    refine J.iload_n (pc := 21) C dX8_staysDry_21 rfl 3 rfl ?_
    refine J.iload_n (pc := 22) C dX8_staysDry_22 rfl 1 rfl ?_
    refine J.icmp_ge (pc := 23) C (tgt := 52) dX8_staysDry_23 (by decide) hf (fun hf => ?_) (fun hf => ?_)
    · refine J.iconst (pc := 52) C (v := 1) dX8_staysDry_52 (by decide) ?_
      exact J.zretM (pc := 53) C rfl hR ((hp.1 _ (Option.some.inj hf).symm)) dX8_staysDry_53
    · refine J.aload_n (pc := 26) C dX8_staysDry_26 rfl 0 rfl ?_
      refine J.getR (pc := 27) C kcX8 hk 1 rfl tw_299 rfl dX8_staysDry_27 ?_
      obtain ⟨σ_5, h_3, hf⟩ := bnd_some hf
      refine J.callV (pc := 30) C (m_X5_makeTick h_3) (ok_8_1 hcl hk) wyX5_makeTick tvX5_makeTick_i tvX5_makeTick_s tw_416 kcX5 rfl (ok_8_1 hcl hk) [] [] rfl rfl (Nat.le_of_ble_eq_true rfl) (Nat.le_of_ble_eq_true rfl) (Nat.le_of_ble_eq_true rfl) (stk' := []) rfl dX8_staysDry_30 rfl ?_
      refine J.aload_n (pc := 33) C dX8_staysDry_33 rfl 0 rfl ?_
      refine J.getR (pc := 34) C kcX8 hk 1 rfl tw_299 rfl dX8_staysDry_34 ?_
      refine J.getI (pc := 37) C kcX5 (ok_8_1 hcl hk) 6 rfl tw_232 rfl dX8_staysDry_37 ?_
      refine J.iload_n (pc := 40) C dX8_staysDry_40 rfl 2 rfl ?_
      refine J.icmp_le (pc := 41) C (tgt := 46) dX8_staysDry_41 (by decide) hf (fun hf => ?_) (fun hf => ?_)
      · obtain ⟨x3_6, hx_x3_6, hf⟩ := nm_some hf
        refine J.iinc (pc := 46) C (v := x3_6) (loc' := [(3, .int x3_6), (0, .ref (Xad X k)), (1, .int x1), (2, .int x2)]) dX8_staysDry_46 (k := 3) rfl (by rw [hx_x3_6]; rfl) (by decide) rfl ?_
        refine J.goto (pc := 49) C (tgt := 21) dX8_staysDry_49 (by decide) ?_
        exact J.sub (loc' := [(0, .ref (Xad X k)), (1, .int x1), (2, .int x2), (3, .int x3_6)]) [1, 2, 3, 0] rfl (hp.2 _ (Option.some.inj hf).symm)
      · refine J.iconst (pc := 44) C (v := 0) dX8_staysDry_44 (by decide) ?_
        exact J.zretM (pc := 45) C rfl hR ((hp.1 _ (Option.some.inj hf).symm)) dX8_staysDry_45
  have hp : t0 = t0 := rfl
  show J X 0 [(0, .ref (Xad X k)), (1, .int x1)] [] σ
  unfold f_X8_staysDry at hf
  refine J.aload_n (pc := 0) C dX8_staysDry_0 rfl 0 rfl ?_
  refine J.getR (pc := 1) C kcX8 hk 1 rfl tw_299 rfl dX8_staysDry_1 ?_
  refine J.getI (pc := 4) C kcX5 (ok_8_1 hcl hk) 6 rfl tw_232 rfl dX8_staysDry_4 ?_
  refine J.nmI hf (fun x2_1 hf => ?_)
  refine J.istore_n (pc := 7) C (loc' := [(2, .int x2_1), (0, .ref (Xad X k)), (1, .int x1)]) dX8_staysDry_7 rfl (by decide) rfl ?_
  refine J.aload_n (pc := 8) C dX8_staysDry_8 rfl 1 rfl ?_
  refine J.getR (pc := 9) C kcX8 hk 1 rfl tw_299 rfl dX8_staysDry_9 ?_
  refine J.getR (pc := 12) C kcX5 (ok_8_1 hcl hk) 1 rfl tw_222 rfl dX8_staysDry_12 ?_
  refine J.iconst (pc := 15) C (v := 0) dX8_staysDry_15 (by decide) ?_
  refine J.putM (pc := 16) C kcX1 (ok_5_1 hcl (ok_8_1 hcl hk)) 9 rfl tw_116 rfl rfl rfl rfl hf dX8_staysDry_16 (fun σ_2 hf => ?_)
  refine J.iconst (pc := 19) C (v := 0) dX8_staysDry_19 (by decide) ?_
  refine J.istore_n (pc := 20) C (loc' := [(3, .int 0), (2, .int x2_1), (0, .ref (Xad X k)), (1, .int x1)]) dX8_staysDry_20 rfl (by decide) rfl ?_
  exact J.sub (loc' := [(0, .ref (Xad X k)), (1, .int x1), (2, .int x2_1), (3, .int 0)]) [2, 3, 1, 0] rfl (L21 σ_2 x1 x2_1 0 _ hf hp)
set_option maxHeartbeats 4000000 in
set_option maxRecDepth 100000 in
theorem m_X8_safeCut {l : Launch} {n : Nat} {σ : Mem} {k : Nat} {x1 : Int32} {t0 : (Int32 × Mem)} (hf : f_X8_safeCut n σ k x1 = some t0) : Ct l yX8_safeCut cX8_safeCut 3 (some FieldType.int) 6 139 (fun ks => Ok ks k 8) (fun ad => [.ref (ad k), .int x1]) σ (fun _ => some (.int t0.1)) t0.2 := by
  refine Ct.of (plainFor_of_name (by decide)) (fun _ => Nat.le_of_ble_eq_true rfl) ?_
  intro X C _ hk hcl hR
  have C : Cx X RX8 cX8_safeCut 3 (some FieldType.int) 6 139 := C
  have L17 : ∀ (σ : Mem) (x1 : Int32) (x2 : Int32) (t : (Int32 × Mem)), f_X8_safeCut_L17 n σ k x1 x2 = some t → t = t0 → J X 17 [(0, .ref (Xad X k)), (1, .int x1), (2, .int x2)] [] σ := by
    intro σ x1 x2 t hf hp
    unfold f_X8_safeCut_L17 at hf
    refine J_iter (JJ := fun (s : Mem × Int32) => J X 17 [(0, .ref (Xad X k)), (1, .int x1), (2, .int (s.2))] [] s.1) (Ps := fun t => t = t0) ?_ n (σ, x2) t hf hp
    clear hf hp
    intro s t hf hp hq
    obtain ⟨σ, x2⟩ := s
    have hp := And.intro hp hq
    clear hq
    have hf : f_X8_safeCut_B17 n σ k x1 x2 = some t := hf
    show J X 17 [(0, .ref (Xad X k)), (1, .int x1), (2, .int x2)] [] σ
    unfold f_X8_safeCut_B17 at hf
    refine J.iload_n (pc := 17) C dX8_safeCut_17 rfl 2 rfl ?_
    refine J.if_lt (pc := 18) C (tgt := 77) dX8_safeCut_18 (by decide) hf (fun hf => ?_) (fun hf => ?_)
    · refine J.bipush (pc := 77) C (v := (-6)) dX8_safeCut_77 (by decide) ?_
      exact J.iretM (pc := 79) C hR ((hp.1 _ (Option.some.inj hf).symm)) dX8_safeCut_79
    · refine J.aload_n (pc := 21) C dX8_safeCut_21 rfl 0 rfl ?_
      refine J.getR (pc := 22) C kcX8 hk 1 rfl tw_299 rfl dX8_safeCut_22 ?_
      refine J.aload_n (pc := 25) C dX8_safeCut_25 rfl 0 rfl ?_
      refine J.getR (pc := 26) C kcX8 hk 0 rfl tw_298 rfl dX8_safeCut_26 ?_
      obtain ⟨σ_5, h_3, hf⟩ := bnd_some hf
      refine J.callV (pc := 29) C (m_X5_copy h_3) ⟨(ok_8_1 hcl hk), (ok_8_0 hcl hk)⟩ wyX5_copy tvX5_copy_i tvX5_copy_s tw_580 kcX5 rfl (ok_8_1 hcl hk) [.ref (Xad X (ptr k 0))] [] rfl rfl (Nat.le_of_ble_eq_true rfl) (Nat.le_of_ble_eq_true rfl) (Nat.le_of_ble_eq_true rfl) (stk' := []) rfl dX8_safeCut_29 rfl ?_
      refine J.aload_n (pc := 32) C dX8_safeCut_32 rfl 0 rfl ?_
      refine J.getR (pc := 33) C kcX8 hk 1 rfl tw_299 rfl dX8_safeCut_33 ?_
      refine J.getR (pc := 36) C kcX5 (ok_8_1 hcl hk) 0 rfl tw_220 rfl dX8_safeCut_36 ?_
      refine J.iconst (pc := 39) C (v := 0) dX8_safeCut_39 (by decide) ?_
      refine J.iconst (pc := 40) C (v := 3) dX8_safeCut_40 (by decide) ?_
      refine J.iload_n (pc := 41) C dX8_safeCut_41 rfl 2 rfl ?_
      obtain ⟨r_7, σ_8, h_6, hf⟩ := bnd2_some hf
      refine J.callV (pc := 42) C (m_X4_change h_6) (ok_5_0 hcl (ok_8_1 hcl hk)) wyX4_change tvX4_change_i tvX4_change_s tw_360 kcX4 rfl (ok_5_0 hcl (ok_8_1 hcl hk)) [.int 0, .int 3, .int x2] [] rfl rfl (Nat.le_of_ble_eq_true rfl) (Nat.le_of_ble_eq_true rfl) (Nat.le_of_ble_eq_true rfl) (stk' := [.int r_7]) rfl dX8_safeCut_42 rfl ?_
      refine J.pop (pc := 45) C dX8_safeCut_45 rfl ?_
      refine J.aload_n (pc := 46) C dX8_safeCut_46 rfl 0 rfl ?_
      refine J.iload_n (pc := 47) C dX8_safeCut_47 rfl 1 rfl ?_
      obtain ⟨r_10, σ_11, h_9, hf⟩ := bnd2_some hf
      refine J.callV (pc := 48) C (m_X8_staysDry h_9) hk wyX8_staysDry tvX8_staysDry_i tvX8_staysDry_s tw_672 kcX8 rfl hk [.int x1] [] rfl rfl (Nat.le_of_ble_eq_true rfl) (Nat.le_of_ble_eq_true rfl) (Nat.le_of_ble_eq_true rfl) (stk' := [.int r_10]) rfl dX8_safeCut_48 rfl ?_
      refine J.if_eq (pc := 51) C (tgt := 56) dX8_safeCut_51 (by decide) hf (fun hf => ?_) (fun hf => ?_)
      · refine J.iload_n (pc := 56) C dX8_safeCut_56 rfl 2 rfl ?_
        refine J.aload_n (pc := 57) C dX8_safeCut_57 rfl 0 rfl ?_
        refine J.getR (pc := 58) C kcX8 hk 1 rfl tw_299 rfl dX8_safeCut_58 ?_
        refine J.getR (pc := 61) C kcX5 (ok_8_1 hcl hk) 1 rfl tw_222 rfl dX8_safeCut_61 ?_
        refine J.getI (pc := 64) C kcX1 (ok_5_1 hcl (ok_8_1 hcl hk)) 9 rfl tw_116 rfl dX8_safeCut_64 ?_
        refine J.mminI (pc := 67) C tw_476 twm_min_s twm_i twm_min_c (Nat.le_of_ble_eq_true rfl) (Nat.le_of_ble_eq_true rfl) dX8_safeCut_67 ?_
        refine J.nmI hf (fun x2_12 hf => ?_)
        refine J.istore_n (pc := 70) C (loc' := [(2, .int x2_12), (0, .ref (Xad X k)), (1, .int x1)]) dX8_safeCut_70 rfl (by decide) rfl ?_
        obtain ⟨x2_13, hx_x2_13, hf⟩ := nm_some hf
        refine J.iinc (pc := 71) C (v := x2_13) (loc' := [(2, .int x2_13), (0, .ref (Xad X k)), (1, .int x1)]) dX8_safeCut_71 (k := 0) rfl (by rw [hx_x2_13]; rfl) (by decide) rfl ?_
        refine J.goto (pc := 74) C (tgt := 17) dX8_safeCut_74 (by decide) ?_
        exact J.sub (loc' := [(0, .ref (Xad X k)), (1, .int x1), (2, .int x2_13)]) [1, 2, 0] rfl (hp.2 _ (Option.some.inj hf).symm)
      · refine J.iload_n (pc := 54) C dX8_safeCut_54 rfl 2 rfl ?_
        exact J.iretM (pc := 55) C hR ((hp.1 _ (Option.some.inj hf).symm)) dX8_safeCut_55
  have hp : t0 = t0 := rfl
  show J X 0 [(0, .ref (Xad X k)), (1, .int x1)] [] σ
  unfold f_X8_safeCut at hf
  refine J.iload_n (pc := 0) C dX8_safeCut_0 rfl 1 rfl ?_
  refine J.iconst (pc := 1) C (v := 1) dX8_safeCut_1 (by decide) ?_
  refine J.bipush (pc := 2) C (v := 100) dX8_safeCut_2 (by decide) ?_
  obtain ⟨r_2, h_1, hf⟩ := bnd_some hf
  refine J.callS (pc := 4) C (m_X8_within h_1) trivial wyX8_within tsX8_within tw_318 [.int x1, .int 1, .int 100] [] rfl rfl (Nat.le_of_ble_eq_true rfl) (Nat.le_of_ble_eq_true rfl) (Nat.le_of_ble_eq_true rfl) (stk' := [.int r_2]) rfl dX8_safeCut_4 rfl ?_
  refine J.if_ne (pc := 7) C (tgt := 13) dX8_safeCut_7 (by decide) hf (fun hf => ?_) (fun hf => ?_)
  · refine J.sipush (pc := 13) C (v := 1000) dX8_safeCut_13 (by decide) ?_
    refine J.istore_n (pc := 16) C (loc' := [(2, .int 1000), (0, .ref (Xad X k)), (1, .int x1)]) dX8_safeCut_16 rfl (by decide) rfl ?_
    exact J.sub (loc' := [(0, .ref (Xad X k)), (1, .int x1), (2, .int 1000)]) [1, 2, 0] rfl (L17 σ x1 1000 _ hf hp)
  · refine J.bipush (pc := 10) C (v := (-2)) dX8_safeCut_10 (by decide) ?_
    exact J.iretM (pc := 12) C hR ((Option.some.inj hf).trans hp) dX8_safeCut_12
set_option maxHeartbeats 4000000 in
set_option maxRecDepth 100000 in
theorem m_X8_say {l : Launch} {σ : Mem} {k : Nat} {x1 : Int32} {t0 : (Int32 × Mem)} (hf : f_X8_say σ k x1 = some t0) : Ct l yX8_say cX8_say 2 (some FieldType.int) 1 22 (fun ks => Ok ks k 8) (fun ad => [.ref (ad k), .int x1]) σ (fun _ => some (.int t0.1)) t0.2 := by
  refine Ct.of (plainFor_of_name (by decide)) (fun _ => Nat.le_of_ble_eq_true rfl) ?_
  intro X C _ hk hcl hR
  have C : Cx X RX8 cX8_say 2 (some FieldType.int) 1 22 := C
  have hp : t0 = t0 := rfl
  show J X 0 [(0, .ref (Xad X k)), (1, .int x1)] [] σ
  unfold f_X8_say at hf
  refine J.iload_n (pc := 0) C dX8_say_0 rfl 1 rfl ?_
  refine J.bipush (pc := 1) C (v := 33) dX8_say_1 (by decide) ?_
  refine J.bipush (pc := 3) C (v := 126) dX8_say_3 (by decide) ?_
  obtain ⟨r_2, h_1, hf⟩ := bnd_some hf
  refine J.callS (pc := 5) C (m_X8_within h_1) trivial wyX8_within tsX8_within tw_318 [.int x1, .int 33, .int 126] [] rfl rfl (Nat.le_of_ble_eq_true rfl) (Nat.le_of_ble_eq_true rfl) (Nat.le_of_ble_eq_true rfl) (stk' := [.int r_2]) rfl dX8_say_5 rfl ?_
  refine J.if_ne (pc := 8) C (tgt := 14) dX8_say_8 (by decide) hf (fun hf => ?_) (fun hf => ?_)
  · refine J.aload_n (pc := 14) C dX8_say_14 rfl 0 rfl ?_
    refine J.getR (pc := 15) C kcX8 hk 4 rfl tw_302 rfl dX8_say_15 ?_
    refine J.iload_n (pc := 18) C dX8_say_18 rfl 1 rfl ?_
    refine J.i2c (pc := 19) C dX8_say_19 ?_
    obtain ⟨r_4, σ_5, h_3, hf⟩ := bnd2_some hf
    refine J.callV (pc := 20) C (m_X2_append h_3) (ok_8_4 hcl hk) wyX2_append tvX2_append_i tvX2_append_s tw_704 kcX2 rfl (ok_8_4 hcl hk) [.int ((x1.toUInt32 % 65536).toInt32)] [] rfl rfl (Nat.le_of_ble_eq_true rfl) (Nat.le_of_ble_eq_true rfl) (Nat.le_of_ble_eq_true rfl) (stk' := [.int r_4]) rfl dX8_say_20 rfl ?_
    exact J.iretM (pc := 23) C hR ((Option.some.inj hf).trans hp) dX8_say_23
  · refine J.bipush (pc := 11) C (v := (-2)) dX8_say_11 (by decide) ?_
    exact J.iretM (pc := 13) C hR ((Option.some.inj hf).trans hp) dX8_say_13
set_option maxHeartbeats 4000000 in
set_option maxRecDepth 100000 in
theorem m_X8_read {l : Launch} {n : Nat} {σ : Mem} {k : Nat} {x1 : Int32} {t0 : (Int32 × Mem)} (hf : f_X8_read n σ k x1 = some t0) : Ct l yX8_read cX8_read 4 (some FieldType.int) 6 127 (fun ks => Ok ks k 8) (fun ad => [.ref (ad k), .int x1]) σ (fun _ => some (.int t0.1)) t0.2 := by
  refine Ct.of (plainFor_of_name (by decide)) (fun _ => Nat.le_of_ble_eq_true rfl) ?_
  intro X C _ hk hcl hR
  have C : Cx X RX8 cX8_read 4 (some FieldType.int) 6 127 := C
  have L61 : ∀ (σ : Mem) (x1 : Int32) (x2 : Int32) (x3 : Int32) (t : (Int32 × Mem)), f_X8_read_L61 n σ k x1 x2 x3 = some t → t = t0 → J X 61 [(0, .ref (Xad X k)), (1, .int x1), (2, .int x2), (3, .int x3)] [] σ := by
    intro σ x1 x2 x3 t hf hp
    unfold f_X8_read_L61 at hf
    refine J_iter (JJ := fun (s : Mem × Int32) => J X 61 [(0, .ref (Xad X k)), (1, .int x1), (2, .int x2), (3, .int (s.2))] [] s.1) (Ps := fun t => t = t0) ?_ n (σ, x3) t hf hp
    clear hf hp
    intro s t hf hp hq
    obtain ⟨σ, x3⟩ := s
    have hp := And.intro hp hq
    clear hq
    have hf : f_X8_read_B61 n σ k x1 x2 x3 = some t := hf
    show J X 61 [(0, .ref (Xad X k)), (1, .int x1), (2, .int x2), (3, .int x3)] [] σ
    unfold f_X8_read_B61 at hf
    refine J.iload_n (pc := 61) C dX8_read_61 rfl 3 rfl ?_
    refine J.iload_n (pc := 62) C dX8_read_62 rfl 2 rfl ?_
    refine J.icmp_ge (pc := 63) C (tgt := 121) dX8_read_63 (by decide) hf (fun hf => ?_) (fun hf => ?_)
    · refine J.aload_n (pc := 121) C dX8_read_121 rfl 0 rfl ?_
      refine J.getR (pc := 122) C kcX8 hk 4 rfl tw_302 rfl dX8_read_122 ?_
      refine J.iconst (pc := 125) C (v := 0) dX8_read_125 (by decide) ?_
      refine J.putM (pc := 126) C kcX2 (ok_8_4 hcl hk) 2 rfl tw_277 rfl rfl rfl rfl hf dX8_read_126 (fun σ_7 hf => ?_)
      refine J.iload_n (pc := 129) C dX8_read_129 rfl 2 rfl ?_
      exact J.iretM (pc := 130) C hR ((hp.1 _ (Option.some.inj hf).symm)) dX8_read_130
    · refine J.aload_n (pc := 66) C dX8_read_66 rfl 0 rfl ?_
      refine J.getR (pc := 67) C kcX8 hk 0 rfl tw_298 rfl dX8_read_67 ?_
      refine J.getR (pc := 70) C kcX5 (ok_8_0 hcl hk) 4 rfl tw_228 rfl dX8_read_70 ?_
      refine J.aload_n (pc := 73) C dX8_read_73 rfl 0 rfl ?_
      refine J.getR (pc := 74) C kcX8 hk 4 rfl tw_302 rfl dX8_read_74 ?_
      refine J.getR (pc := 77) C kcX2 (ok_8_4 hcl hk) 0 rfl tw_274 rfl dX8_read_77 ?_
      refine J.getR (pc := 80) C kcX0 (ok_2_0 hcl (ok_8_4 hcl hk)) 0 rfl tw_201 rfl dX8_read_80 ?_
      refine J.iload_n (pc := 83) C dX8_read_83 rfl 3 rfl ?_
      refine J.iald (pc := 84) C (ok_0_0 hcl (ok_2_0 hcl (ok_8_4 hcl hk))) hf dX8_read_84 (fun hf => ?_)
      refine J.iload_n (pc := 85) C dX8_read_85 rfl 1 rfl ?_
      refine J.iadd (pc := 86) C dX8_read_86 ?_
      refine J.aload_n (pc := 87) C dX8_read_87 rfl 0 rfl ?_
      refine J.getR (pc := 88) C kcX8 hk 4 rfl tw_302 rfl dX8_read_88 ?_
      refine J.getR (pc := 91) C kcX2 (ok_8_4 hcl hk) 0 rfl tw_274 rfl dX8_read_91 ?_
      refine J.getR (pc := 94) C kcX0 (ok_2_0 hcl (ok_8_4 hcl hk)) 1 rfl tw_203 rfl dX8_read_94 ?_
      refine J.iload_n (pc := 97) C dX8_read_97 rfl 3 rfl ?_
      refine J.iald (pc := 98) C (ok_0_1 hcl (ok_2_0 hcl (ok_8_4 hcl hk))) hf dX8_read_98 (fun hf => ?_)
      refine J.aload_n (pc := 99) C dX8_read_99 rfl 0 rfl ?_
      refine J.getR (pc := 100) C kcX8 hk 4 rfl tw_302 rfl dX8_read_100 ?_
      refine J.getR (pc := 103) C kcX2 (ok_8_4 hcl hk) 0 rfl tw_274 rfl dX8_read_103 ?_
      refine J.getR (pc := 106) C kcX0 (ok_2_0 hcl (ok_8_4 hcl hk)) 2 rfl tw_205 rfl dX8_read_106 ?_
      refine J.iload_n (pc := 109) C dX8_read_109 rfl 3 rfl ?_
      refine J.iald (pc := 110) C (ok_0_2 hcl (ok_2_0 hcl (ok_8_4 hcl hk))) hf dX8_read_110 (fun hf => ?_)
      obtain ⟨r_9, σ_10, h_8, hf⟩ := bnd2_some hf
      refine J.callV (pc := 111) C (m_X0_insert h_8) (ok_5_4 hcl (ok_8_0 hcl hk)) wyX0_insert tvX0_insert_i tvX0_insert_s tw_527 kcX0 rfl (ok_5_4 hcl (ok_8_0 hcl hk)) [.int ((σ (ptr (ptr (ptr k 4) 0) 0) (ix x3)) + x1), .int (σ (ptr (ptr (ptr k 4) 0) 1) (ix x3)), .int (σ (ptr (ptr (ptr k 4) 0) 2) (ix x3))] [] rfl rfl (Nat.le_of_ble_eq_true rfl) (Nat.le_of_ble_eq_true rfl) (Nat.le_of_ble_eq_true rfl) (stk' := [.int r_9]) rfl dX8_read_111 rfl ?_
      refine J.pop (pc := 114) C dX8_read_114 rfl ?_
      obtain ⟨x3_11, hx_x3_11, hf⟩ := nm_some hf
      refine J.iinc (pc := 115) C (v := x3_11) (loc' := [(3, .int x3_11), (0, .ref (Xad X k)), (1, .int x1), (2, .int x2)]) dX8_read_115 (k := 3) rfl (by rw [hx_x3_11]; rfl) (by decide) rfl ?_
      refine J.goto (pc := 118) C (tgt := 61) dX8_read_118 (by decide) ?_
      exact J.sub (loc' := [(0, .ref (Xad X k)), (1, .int x1), (2, .int x2), (3, .int x3_11)]) [1, 2, 3, 0] rfl (hp.2 _ (Option.some.inj hf).symm)
  have hp : t0 = t0 := rfl
  show J X 0 [(0, .ref (Xad X k)), (1, .int x1)] [] σ
  unfold f_X8_read at hf
  refine J.aload_n (pc := 0) C dX8_read_0 rfl 0 rfl ?_
  refine J.getR (pc := 1) C kcX8 hk 4 rfl tw_302 rfl dX8_read_1 ?_
  obtain ⟨r_2, σ_3, h_1, hf⟩ := bnd2_some hf
  refine J.callV (pc := 4) C (m_X2_findFault h_1) (ok_8_4 hcl hk) wyX2_findFault tvX2_findFault_i tvX2_findFault_s tw_712 kcX2 rfl (ok_8_4 hcl hk) [] [] rfl rfl (Nat.le_of_ble_eq_true rfl) (Nat.le_of_ble_eq_true rfl) (Nat.le_of_ble_eq_true rfl) (stk' := [.int r_2]) rfl dX8_read_4 rfl ?_
  refine J.bipush (pc := 7) C (v := (-6)) dX8_read_7 (by decide) ?_
  refine J.icmp_eq (pc := 9) C (tgt := 15) dX8_read_9 (by decide) hf (fun hf => ?_) (fun hf => ?_)
  · refine J.iload_n (pc := 15) C dX8_read_15 rfl 1 rfl ?_
    refine J.iconst (pc := 16) C (v := 0) dX8_read_16 (by decide) ?_
    refine J.ldc (pc := 17) C (v := 90000) dX8_read_17 tw_741 ?_
    obtain ⟨r_5, h_4, hf⟩ := bnd_some hf
    refine J.callS (pc := 19) C (m_X8_within h_4) trivial wyX8_within tsX8_within tw_318 [.int x1, .int 0, .int 90000] [] rfl rfl (Nat.le_of_ble_eq_true rfl) (Nat.le_of_ble_eq_true rfl) (Nat.le_of_ble_eq_true rfl) (stk' := [.int r_5]) rfl dX8_read_19 rfl ?_
    refine J.if_ne (pc := 22) C (tgt := 28) dX8_read_22 (by decide) hf (fun hf => ?_) (fun hf => ?_)
    · refine J.aload_n (pc := 28) C dX8_read_28 rfl 0 rfl ?_
      refine J.getR (pc := 29) C kcX8 hk 4 rfl tw_302 rfl dX8_read_29 ?_
      refine J.getR (pc := 32) C kcX2 (ok_8_4 hcl hk) 0 rfl tw_274 rfl dX8_read_32 ?_
      refine J.getI (pc := 35) C kcX0 (ok_2_0 hcl (ok_8_4 hcl hk)) 3 rfl tw_209 rfl dX8_read_35 ?_
      refine J.nmI hf (fun x2_6 hf => ?_)
      refine J.istore_n (pc := 38) C (loc' := [(2, .int x2_6), (0, .ref (Xad X k)), (1, .int x1)]) dX8_read_38 rfl (by decide) rfl ?_
      refine J.aload_n (pc := 39) C dX8_read_39 rfl 1 rfl ?_
      refine J.getR (pc := 40) C kcX8 hk 0 rfl tw_298 rfl dX8_read_40 ?_
      refine J.getR (pc := 43) C kcX5 (ok_8_0 hcl hk) 4 rfl tw_228 rfl dX8_read_43 ?_
      refine J.getI (pc := 46) C kcX0 (ok_5_4 hcl (ok_8_0 hcl hk)) 3 rfl tw_209 rfl dX8_read_46 ?_
      refine J.iload_n (pc := 49) C dX8_read_49 rfl 0 rfl ?_
      refine J.iadd (pc := 50) C dX8_read_50 ?_
      refine J.bipush (pc := 51) C (v := 60) dX8_read_51 (by decide) ?_
      refine J.icmp_le (pc := 53) C (tgt := 59) dX8_read_53 (by decide) hf (fun hf => ?_) (fun hf => ?_)
      · refine J.iconst (pc := 59) C (v := 0) dX8_read_59 (by decide) ?_
        refine J.istore_n (pc := 60) C (loc' := [(3, .int 0), (2, .int x2_6), (0, .ref (Xad X k)), (1, .int x1)]) dX8_read_60 rfl (by decide) rfl ?_
        exact J.sub (loc' := [(0, .ref (Xad X k)), (1, .int x1), (2, .int x2_6), (3, .int 0)]) [2, 3, 1, 0] rfl (L61 σ_3 x1 x2_6 0 _ hf hp)
      · refine J.bipush (pc := 56) C (v := (-4)) dX8_read_56 (by decide) ?_
        exact J.iretM (pc := 58) C hR ((Option.some.inj hf).trans hp) dX8_read_58
    · refine J.bipush (pc := 25) C (v := (-2)) dX8_read_25 (by decide) ?_
      exact J.iretM (pc := 27) C hR ((Option.some.inj hf).trans hp) dX8_read_27
  · refine J.bipush (pc := 12) C (v := (-3)) dX8_read_12 (by decide) ?_
    exact J.iretM (pc := 14) C hR ((Option.some.inj hf).trans hp) dX8_read_14
set_option maxHeartbeats 4000000 in
set_option maxRecDepth 100000 in
theorem m_X8_slotAt {l : Launch} {σ : Mem} {k : Nat} {x1 : Int32} {t0 : (Option Nat)} (hf : f_X8_slotAt σ k x1 = some t0) : Ct l yX8_slotAt cX8_slotAt 2 (some (FieldType.object "FountainShow$Slot")) 0 0 (fun ks => Ok ks k 8) (fun ad => [.ref (ad k), .int x1]) σ (fun ad => some (va_rf (Option.map ad t0))) σ := by
  refine Ct.of (plainFor_of_name (by decide)) (fun _ => Nat.le_of_ble_eq_true rfl) ?_
  intro X C _ hk hcl hR
  have C : Cx X RX8 cX8_slotAt 2 (some (FieldType.object "FountainShow$Slot")) 0 0 := C
  have hp : t0 = t0 := rfl
  show J X 0 [(0, .ref (Xad X k)), (1, .int x1)] [] σ
  unfold f_X8_slotAt at hf
  refine J.iload_n (pc := 0) C dX8_slotAt_0 rfl 1 rfl ?_
  refine J.look2 (pc := 1) C dX8_slotAt_1 (v0 := 0) (v1 := 1) rfl (by decide) (by decide) (by decide) (tgt0 := 28) (tgt1 := 33) (tgtd := 38) (by decide) (by decide) (by decide) hf (fun hf => ?_) (fun hf => ?_) (fun hf => ?_)
  · refine J.aload_n (pc := 28) C dX8_slotAt_28 rfl 0 rfl ?_
    refine J.getR (pc := 29) C kcX8 hk 2 rfl tw_300 rfl dX8_slotAt_29 ?_
    exact J.aretS (pc := 32) C hR ((Option.some.inj hf).trans hp) dX8_slotAt_32
  · refine J.aload_n (pc := 33) C dX8_slotAt_33 rfl 0 rfl ?_
    refine J.getR (pc := 34) C kcX8 hk 3 rfl tw_301 rfl dX8_slotAt_34 ?_
    exact J.aretS (pc := 37) C hR ((Option.some.inj hf).trans hp) dX8_slotAt_37
  · refine J.aconst_null (pc := 38) C dX8_slotAt_38 ?_
    exact J.aretN (pc := 39) C hR ((Option.some.inj hf).trans hp) dX8_slotAt_39
set_option maxHeartbeats 4000000 in
set_option maxRecDepth 100000 in
theorem m_X8_save {l : Launch} {σ : Mem} {k : Nat} {x1 : Int32} {t0 : (Int32 × Mem)} (hf : f_X8_save σ k x1 = some t0) : Ct l yX8_save cX8_save 3 (some FieldType.int) 5 102 (fun ks => Ok ks k 8) (fun ad => [.ref (ad k), .int x1]) σ (fun _ => some (.int t0.1)) t0.2 := by
  refine Ct.of (plainFor_of_name (by decide)) (fun _ => Nat.le_of_ble_eq_true rfl) ?_
  intro X C _ hk hcl hR
  have C : Cx X RX8 cX8_save 3 (some FieldType.int) 5 102 := C
  have hp : t0 = t0 := rfl
  show J X 0 [(0, .ref (Xad X k)), (1, .int x1)] [] σ
  unfold f_X8_save at hf
  refine J.aload_n (pc := 0) C dX8_save_0 rfl 0 rfl ?_
  refine J.iload_n (pc := 1) C dX8_save_1 rfl 1 rfl ?_
  obtain ⟨r_2, h_1, hf⟩ := bnd_some hf
  cases r_2 with
  | none =>
    refine J.callV (pc := 2) C (m_X8_slotAt h_1) hk wyX8_slotAt tvX8_slotAt_i tvX8_slotAt_s tw_642 kcX8 rfl hk [.int x1] [] rfl rfl (Nat.le_of_ble_eq_true rfl) (Nat.le_of_ble_eq_true rfl) (Nat.le_of_ble_eq_true rfl) (stk' := [.null]) rfl dX8_save_2 rfl ?_
    replace hf := mtc_none hf
    refine J.astoreN_n (pc := 5) C (loc' := [(2, .null), (0, .ref (Xad X k)), (1, .int x1)]) dX8_save_5 rfl (by decide) rfl ?_
    refine J.aloadN_n (pc := 6) C dX8_save_6 rfl 0 rfl ?_
    refine J.ifnonnullN (pc := 7) C dX8_save_7 ?_
    refine J.bipush (pc := 10) C (v := (-2)) dX8_save_10 (by decide) ?_
    exact J.iretM (pc := 12) C hR ((Option.some.inj hf).trans hp) dX8_save_12
  | some q_3 =>
    refine J.callV (pc := 2) C (m_X8_slotAt h_1) hk wyX8_slotAt tvX8_slotAt_i tvX8_slotAt_s tw_642 kcX8 rfl hk [.int x1] [] rfl rfl (Nat.le_of_ble_eq_true rfl) (Nat.le_of_ble_eq_true rfl) (Nat.le_of_ble_eq_true rfl) (stk' := [.ref (Xad X q_3)]) rfl dX8_save_2 rfl ?_
    obtain ⟨q_3_ok, hf⟩ := chk_some (mtc_some hf)
    refine J.astore_n (pc := 5) C (loc' := [(2, .ref (Xad X q_3)), (0, .ref (Xad X k)), (1, .int x1)]) dX8_save_5 rfl (by decide) rfl ?_
    refine J.aload_n (pc := 6) C dX8_save_6 rfl 0 rfl ?_
    refine J.ifnonnull (pc := 7) C (tgt := 13) dX8_save_7 (by decide) ?_
    refine J.aload_n (pc := 13) C dX8_save_13 rfl 0 rfl ?_
    refine J.getR (pc := 14) C kcX6 (ok_slot hcl hk q_3_ok) 0 rfl tw_257 rfl dX8_save_14 ?_
    refine J.aload_n (pc := 17) C dX8_save_17 rfl 1 rfl ?_
    refine J.getR (pc := 18) C kcX8 hk 0 rfl tw_298 rfl dX8_save_18 ?_
    obtain ⟨σ_6, h_4, hf⟩ := bnd_some hf
    refine J.callV (pc := 21) C (m_X5_copy h_4) ⟨(ok_6_0 hcl (ok_slot hcl hk q_3_ok)), (ok_8_0 hcl hk)⟩ wyX5_copy tvX5_copy_i tvX5_copy_s tw_580 kcX5 rfl (ok_6_0 hcl (ok_slot hcl hk q_3_ok)) [.ref (Xad X (ptr k 0))] [] rfl rfl (Nat.le_of_ble_eq_true rfl) (Nat.le_of_ble_eq_true rfl) (Nat.le_of_ble_eq_true rfl) (stk' := []) rfl dX8_save_21 rfl ?_
    refine J.aload_n (pc := 24) C dX8_save_24 rfl 0 rfl ?_
    refine J.iconst (pc := 25) C (v := 1) dX8_save_25 (by decide) ?_
    refine J.putM (pc := 26) C kcX6 (ok_slot hcl hk q_3_ok) 1 rfl tw_259 rfl rfl rfl rfl hf dX8_save_26 (fun σ_7 hf => ?_)
    refine J.aload_n (pc := 29) C dX8_save_29 rfl 1 rfl ?_
    refine J.getR (pc := 30) C kcX8 hk 0 rfl tw_298 rfl dX8_save_30 ?_
    refine J.getI (pc := 33) C kcX5 (ok_8_0 hcl hk) 5 rfl tw_230 rfl dX8_save_33 ?_
    exact J.iretM (pc := 36) C hR ((Option.some.inj hf).trans hp) dX8_save_36
set_option maxHeartbeats 4000000 in
set_option maxRecDepth 100000 in
theorem m_X8_restore {l : Launch} {σ : Mem} {k : Nat} {x1 : Int32} {t0 : (Int32 × Mem)} (hf : f_X8_restore σ k x1 = some t0) : Ct l yX8_restore cX8_restore 3 (some FieldType.int) 5 102 (fun ks => Ok ks k 8) (fun ad => [.ref (ad k), .int x1]) σ (fun _ => some (.int t0.1)) t0.2 := by
  refine Ct.of (plainFor_of_name (by decide)) (fun _ => Nat.le_of_ble_eq_true rfl) ?_
  intro X C _ hk hcl hR
  have C : Cx X RX8 cX8_restore 3 (some FieldType.int) 5 102 := C
  have hp : t0 = t0 := rfl
  show J X 0 [(0, .ref (Xad X k)), (1, .int x1)] [] σ
  unfold f_X8_restore at hf
  refine J.aload_n (pc := 0) C dX8_restore_0 rfl 0 rfl ?_
  refine J.iload_n (pc := 1) C dX8_restore_1 rfl 1 rfl ?_
  obtain ⟨r_2, h_1, hf⟩ := bnd_some hf
  cases r_2 with
  | none =>
    refine J.callV (pc := 2) C (m_X8_slotAt h_1) hk wyX8_slotAt tvX8_slotAt_i tvX8_slotAt_s tw_642 kcX8 rfl hk [.int x1] [] rfl rfl (Nat.le_of_ble_eq_true rfl) (Nat.le_of_ble_eq_true rfl) (Nat.le_of_ble_eq_true rfl) (stk' := [.null]) rfl dX8_restore_2 rfl ?_
    replace hf := mtc_none hf
    refine J.astoreN_n (pc := 5) C (loc' := [(2, .null), (0, .ref (Xad X k)), (1, .int x1)]) dX8_restore_5 rfl (by decide) rfl ?_
    refine J.aloadN_n (pc := 6) C dX8_restore_6 rfl 0 rfl ?_
    refine J.ifnonnullN (pc := 7) C dX8_restore_7 ?_
    refine J.bipush (pc := 10) C (v := (-2)) dX8_restore_10 (by decide) ?_
    exact J.iretM (pc := 12) C hR ((Option.some.inj hf).trans hp) dX8_restore_12
  | some q_3 =>
    refine J.callV (pc := 2) C (m_X8_slotAt h_1) hk wyX8_slotAt tvX8_slotAt_i tvX8_slotAt_s tw_642 kcX8 rfl hk [.int x1] [] rfl rfl (Nat.le_of_ble_eq_true rfl) (Nat.le_of_ble_eq_true rfl) (Nat.le_of_ble_eq_true rfl) (stk' := [.ref (Xad X q_3)]) rfl dX8_restore_2 rfl ?_
    obtain ⟨q_3_ok, hf⟩ := chk_some (mtc_some hf)
    refine J.astore_n (pc := 5) C (loc' := [(2, .ref (Xad X q_3)), (0, .ref (Xad X k)), (1, .int x1)]) dX8_restore_5 rfl (by decide) rfl ?_
    refine J.aload_n (pc := 6) C dX8_restore_6 rfl 0 rfl ?_
    refine J.ifnonnull (pc := 7) C (tgt := 13) dX8_restore_7 (by decide) ?_
    refine J.aload_n (pc := 13) C dX8_restore_13 rfl 0 rfl ?_
    refine J.getI (pc := 14) C kcX6 (ok_slot hcl hk q_3_ok) 1 rfl tw_259 rfl dX8_restore_14 ?_
    refine J.if_ne (pc := 17) C (tgt := 23) dX8_restore_17 (by decide) hf (fun hf => ?_) (fun hf => ?_)
    · refine J.aload_n (pc := 23) C dX8_restore_23 rfl 1 rfl ?_
      refine J.getR (pc := 24) C kcX8 hk 0 rfl tw_298 rfl dX8_restore_24 ?_
      refine J.aload_n (pc := 27) C dX8_restore_27 rfl 0 rfl ?_
      refine J.getR (pc := 28) C kcX6 (ok_slot hcl hk q_3_ok) 0 rfl tw_257 rfl dX8_restore_28 ?_
      obtain ⟨σ_6, h_4, hf⟩ := bnd_some hf
      refine J.callV (pc := 31) C (m_X5_copy h_4) ⟨(ok_8_0 hcl hk), (ok_6_0 hcl (ok_slot hcl hk q_3_ok))⟩ wyX5_copy tvX5_copy_i tvX5_copy_s tw_580 kcX5 rfl (ok_8_0 hcl hk) [.ref (Xad X (ptr q_3 0))] [] rfl rfl (Nat.le_of_ble_eq_true rfl) (Nat.le_of_ble_eq_true rfl) (Nat.le_of_ble_eq_true rfl) (stk' := []) rfl dX8_restore_31 rfl ?_
      refine J.aload_n (pc := 34) C dX8_restore_34 rfl 1 rfl ?_
      refine J.getR (pc := 35) C kcX8 hk 0 rfl tw_298 rfl dX8_restore_35 ?_
      refine J.getI (pc := 38) C kcX5 (ok_8_0 hcl hk) 5 rfl tw_230 rfl dX8_restore_38 ?_
      exact J.iretM (pc := 41) C hR ((Option.some.inj hf).trans hp) dX8_restore_41
    · refine J.bipush (pc := 20) C (v := (-5)) dX8_restore_20 (by decide) ?_
      exact J.iretM (pc := 22) C hR ((Option.some.inj hf).trans hp) dX8_restore_22
end
section
/-! METHODS THAT MAKE ROWS: the law's own rows are the cells 105 .. 109; where one is made, the context is another -/
theorem ptr_gap (k j : Nat) : ptr k j < 105 ∨ 112 ≤ ptr k j := by
  have e : ∀ k, k < 121 → ∀ j, j < 10 → ptr k j < 105 ∨ 112 ≤ ptr k j := by decide +kernel
  have hl : ∀ k, (ptrL.getD k []).length ≤ 9 := by
    intro k
    rcases Nat.lt_or_ge k 121 with h | h
    · have : ∀ k, k < 121 → (ptrL.getD k []).length ≤ 9 := by decide +kernel
      exact this k h
    · rw [List.getD_eq_getElem?_getD, List.getElem?_eq_none (show ptrL.length ≤ k from Nat.le_trans (by decide +kernel) h)]
      decide
  rcases Nat.lt_or_ge k 121 with h | h
  · rcases Nat.lt_or_ge j 10 with h2 | h2
    · exact e k h j h2
    · left
      unfold ptr
      rw [List.getD_eq_getElem?_getD, List.getElem?_eq_none (show (ptrL.getD k []).length ≤ j from Nat.le_trans (hl k) (by omega))]
      decide
  · left
    unfold ptr
    rw [List.getD_eq_getElem?_getD, List.getD_eq_getElem?_getD, List.getElem?_eq_none (show ptrL.length ≤ k from Nat.le_trans (by decide +kernel) h)]
    simp
theorem ce_ad {cI : Nat → ClassId} {ad ad' : Nat → Nat} {σ σ' : Mem} {k : Nat} (h : ∀ a, ¬ (105 ≤ a ∧ a < 110) → ad' a = ad a) (hs : σ' k = σ k) : ce cI ad' σ' k = ce cI ad σ k := by
  have : (fun j => ad' (ptr k j)) = (fun j => ad (ptr k j)) := funext fun j => h _ (by have := ptr_gap k j; omega)
  unfold ce
  rw [this, hs]
/-- apart, by cells -/
theorem wlD {cI : Nat → ClassId} {ad : Nat → Nat} {σ : Mem} {ks : List Nat} {A : Nat → Prop} : va_D A (wl cI ad σ ks) ↔ (∀ (i j : Nat) (k k' : Nat), ks[i]? = some k → ks[j]? = some k' → ad k = ad k' → i = j) ∧ ∀ k, k ∈ ks → A (ad k) := by
  constructor
  · rintro ⟨h1, h2⟩
    refine ⟨?_, ?_⟩
    · intro i j k k' hi hj e
      exact h1 i j (ad k, ce cI ad σ k) (ad k', ce cI ad σ k') (by simp [wl, hi]) (by simp [wl, hj]) e
    · intro k hk
      obtain ⟨q, hq⟩ := List.getElem?_of_mem hk
      exact h2 q (ad k, ce cI ad σ k) (by simp [wl, hq])
  · rintro ⟨h1, h2⟩
    refine ⟨?_, ?_⟩
    · intro i j p q hi hj e
      simp only [wl, List.getElem?_map, Option.map_eq_some_iff] at hi hj
      obtain ⟨k, hk, rfl⟩ := hi
      obtain ⟨k', hk', rfl⟩ := hj
      exact h1 i j k k' hk hk' e
    · intro i q hi
      simp only [wl, List.getElem?_map, Option.map_eq_some_iff] at hi
      obtain ⟨k, hk, rfl⟩ := hi
      exact h2 k (List.mem_of_getElem? hk)
theorem wl_mem {cI : Nat → ClassId} {ad : Nat → Nat} {σ : Mem} {ks : List Nat} {D : va_G} {H : Heap} : va_P D vwCl (wl cI ad σ ks) H ↔ ∀ k, k ∈ ks → va_at D vwCl (ad k, ce cI ad σ k) H := by
  constructor
  · intro h k hk
    obtain ⟨q, hq⟩ := List.getElem?_of_mem hk
    exact h q (ad k, ce cI ad σ k) (by simp [wl, hq])
  · intro h i q hi
    simp only [wl, List.getElem?_map, Option.map_eq_some_iff] at hi
    obtain ⟨k, hk, rfl⟩ := hi
    exact h k (List.mem_of_getElem? hk)
theorem drop_D {ks : List Nat} {ad ad' : Nat → Nat} {A : Nat → Prop} {c q : Nat} (h : (∀ (i j : Nat) (k k' : Nat), ks[i]? = some k → ks[j]? = some k' → ad k = ad k' → i = j) ∧ ∀ k, k ∈ ks → A (ad k)) (hq : ∀ k, k ∈ ks → ad k ≠ q) (hA : A q) (he : ∀ k, k ≠ c → ad' k = ad k) (hc : ad' c = q) : (∀ (i j : Nat) (k k' : Nat), (ks.filter (fun k => !decide (k = c)) ++ [c])[i]? = some k → (ks.filter (fun k => !decide (k = c)) ++ [c])[j]? = some k' → ad' k = ad' k' → i = j) ∧ ∀ k, k ∈ ks.filter (fun k => !decide (k = c)) ++ [c] → A (ad' k) := by
  obtain ⟨h1, h2⟩ := h
  have nd : ks.Nodup := by
    rw [List.nodup_iff_pairwise_ne, List.pairwise_iff_getElem]
    intro i j hi hj hij e
    have := h1 i j ks[i] ks[j] (List.getElem?_eq_getElem hi) (List.getElem?_eq_getElem hj) (by rw [e])
    omega
  have nd2 : (ks.filter (fun k => !decide (k = c)) ++ [c]).Nodup := by
    rw [List.nodup_append]
    refine ⟨nd.filter _, by simp, ?_⟩
    intro a ha b hb e
    simp at ha hb
    exact ha.2 (e.trans hb)
  have mm : ∀ k, k ∈ ks.filter (fun k => !decide (k = c)) ++ [c] → (k ∈ ks ∧ k ≠ c) ∨ k = c := by
    intro k hk
    simp at hk
    exact hk
  have inj : ∀ k k', k ∈ ks → k' ∈ ks → ad k = ad k' → k = k' := by
    intro k k' hk hk' e
    obtain ⟨i, hi⟩ := List.getElem?_of_mem hk
    obtain ⟨j, hj⟩ := List.getElem?_of_mem hk'
    have := h1 i j k k' hi hj e
    subst this
    rw [hi] at hj
    exact Option.some.inj hj
  refine ⟨?_, ?_⟩
  · intro i j k k' hi hj e
    have hk : k = k' := by
      rcases mm k (List.mem_of_getElem? hi) with ⟨a, b⟩ | a
      · rcases mm k' (List.mem_of_getElem? hj) with ⟨a', b'⟩ | a'
        · exact inj k k' a a' (by rw [← he k b, ← he k' b']; exact e)
        · exfalso
          rw [a', hc, he k b] at e
          exact hq k a e
      · rcases mm k' (List.mem_of_getElem? hj) with ⟨a', b'⟩ | a'
        · exfalso
          rw [a, hc, he k' b'] at e
          exact hq k' a' e.symm
        · rw [a, a']
    subst hk
    obtain ⟨hil, hie⟩ := List.getElem?_eq_some_iff.mp hi
    obtain ⟨hjl, hje⟩ := List.getElem?_eq_some_iff.mp hj
    rw [List.nodup_iff_pairwise_ne, List.pairwise_iff_getElem] at nd2
    rcases Nat.lt_trichotomy i j with z | z | z
    · exact (nd2 i j hil hjl z (hie.trans hje.symm)).elim
    · exact z
    · exact (nd2 j i hjl hil z (hje.trans hie.symm)).elim
  · intro k hk
    rcases mm k hk with ⟨a, b⟩ | a
    · rw [he k b]; exact h2 k a
    · rw [a, hc]; exact hA
/-- a contract of a method that may make mc cells of ms slots -/
def CtA (l : Launch) (y : MethodName) (cc : ByteArray) (nL : Nat) (ret : Option FieldType) (fr lo mc ms : Nat) (ok : List Nat → Prop) (as : (Nat → Nat) → List Value) (σ : Mem) (o : (Nat → Nat) → Option Value) (σ' : Mem) : Prop :=
  ∀ (D : va_G) (cI : Nat → ClassId) (ad : Nat → Nat) (A0 : Nat → Prop) (ks : List Nat), Cl ks → (∀ k, k ∈ ks → k < 105) → ok ks → Met l y (Cond.code y cc nL ret :: lw_g) ({ frames := fr, cells := mc, slots := ms, locals := lo }) (va_Pc (as ad) (fun U => (Wx D cI ad A0 ks σ U ∧ Nw U) ∧ ∀ q : Nat, U.heap.size ≤ q → A0 q)) (QcOf D cI ad A0 ks (o ad) σ') mc ms A0
/-- what is left to do, and to make -/
def RtE (X : Ctx) (a b : Nat) (o : (Nat → Nat) → Option Value) (σ' : Mem) : Prop := match X with
  | (_, _, _, R, s, _, args, below, _, _, D, cI, ad, A, ks, _, mc, ms, Q) => ∃ (ad0 : Nat → Nat) (ks0 : List Nat) (mc0 ms0 : Nat), Q = MQ below (QcOf D cI ad0 A ks0 (o ad0) σ') args s mc0 ms0 A ∧ (∀ q, s.heap.size ≤ q → A q) ∧ mc + a ≤ mc0 ∧ ms + b ≤ ms0 ∧ mc0 ≤ R.cells ∧ ms0 ≤ R.slots ∧ va_D A (wl cI ad0 (fun _ _ => 0) ks0) ∧ (∀ k, k ∈ ks0 → k ∈ ks ∧ k < 105) ∧ (∀ k, ¬ (105 ≤ k ∧ k < 110) → ad k = ad0 k)
theorem RtE.mono {X : Ctx} {a b a' b' : Nat} {o : (Nat → Nat) → Option Value} {σ' : Mem} (h : RtE X a b o σ') (h1 : a' ≤ a) (h2 : b' ≤ b) : RtE X a' b' o σ' := by
  obtain ⟨p, l, e, R, s, m, args, below, meth, c, D, cI, ad, A0, ks, nL, mc, ms, Q⟩ := X
  obtain ⟨ad0, ks0, mc0, ms0, e1, e2, e3, e4, e5, e6, e7⟩ := h
  exact ⟨ad0, ks0, mc0, ms0, e1, e2, by omega, by omega, e5, e6, e7⟩
/-- the context with another row -/
def Xnew (X : Ctx) (c q N : Nat) : Ctx := match X with
  | (p, l, e, R, s, m, args, below, meth, cc, D, cI, ad, A0, ks, nL, mc, ms, Q) => (p, l, e, R, s, m, args, below, meth, cc, D, cI, (fun k => if k = c then q else ad k), A0, ks.filter (fun k => !decide (k = c)) ++ [c], nL, mc + 1, ms + N, Q)
/-- with some cells more made -/
def Xadd (X : Ctx) (mc' ms' : Nat) : Ctx := match X with
  | (p, l, e, R, s, m, args, below, meth, cc, D, cI, ad, A0, ks, nL, mc, ms, Q) => (p, l, e, R, s, m, args, below, meth, cc, D, cI, ad, A0, ks, nL, mc + mc', ms + ms', Q)
theorem Xadd_ad (X : Ctx) (a b : Nat) : Xad (Xadd X a b) = Xad X := by
  obtain ⟨p, l, e, R, s, m, args, below, meth, c, D, cI, ad, A0, ks, nL, mc, ms, Q⟩ := X
  show ad = ad
  rfl
theorem Xadd_ks (X : Ctx) (a b : Nat) : Xks (Xadd X a b) = Xks X := by
  obtain ⟨p, l, e, R, s, m, args, below, meth, c, D, cI, ad, A0, ks, nL, mc, ms, Q⟩ := X
  show ks = ks
  rfl
theorem RtE.add {X : Ctx} {a b mc' ms' : Nat} {o : (Nat → Nat) → Option Value} {σ' : Mem} (h : RtE X (a + mc') (b + ms') o σ') : RtE (Xadd X mc' ms') a b o σ' := by
  obtain ⟨p, l, e, R, s, m, args, below, meth, c, D, cI, ad, A0, ks, nL, mc, ms, Q⟩ := X
  obtain ⟨ad0, ks0, mc0, ms0, e1, e2, e3, e4, e5, e6, e7⟩ := h
  exact ⟨ad0, ks0, mc0, ms0, e1, e2, by omega, by omega, e5, e6, e7⟩
/-- room for mc' cells of ms' slots, and the addresses behind the start are free -/
def Rm (X : Ctx) (mc' ms' : Nat) : Prop := match X with
  | (_, _, _, R, s, _, _, _, _, _, _, _, _, A, _, _, mc, ms, _) => mc + mc' ≤ R.cells ∧ ms + ms' ≤ R.slots ∧ ∀ q, s.heap.size ≤ q → A q
theorem RtE.rm {X : Ctx} {a b mc' ms' : Nat} {o : (Nat → Nat) → Option Value} {σ' : Mem} (h : RtE X a b o σ') (h1 : mc' ≤ a) (h2 : ms' ≤ b) : Rm X mc' ms' := by
  obtain ⟨p, l, e, R, s, m, args, below, meth, c, D, cI, ad, A0, ks, nL, mc, ms, Q⟩ := X
  obtain ⟨ad0, ks0, mc0, ms0, e1, e2, e3, e4, e5, e6, e7⟩ := h
  exact ⟨by omega, by omega, e2⟩
theorem Cx.add {X : Ctx} {own : String} {cc : ByteArray} {n0 : Nat} {ret : Option FieldType} {fr lo mc' ms' : Nat} (C : Cx X own cc n0 ret fr lo) (h : Rm X mc' ms') : Cx (Xadd X mc' ms') own cc n0 ret fr lo := by
  obtain ⟨p, l, e, R, s, m, args, below, meth, c, D, cI, ad, A0, ks, nL, mc, ms, Q⟩ := X
  obtain ⟨hx, hb, hml, hn0, hr, hown, hts, hlocks, hK, hcl, hfr, hlo, hmc, hms, hnw⟩ := C
  obtain ⟨r1, r2, -⟩ := h
  exact ⟨hx, hb, hml, hn0, hr, hown, hts, hlocks, hK, hcl, hfr, hlo, r1, r2, hnw⟩
theorem CtA.of {l : Launch} {y : MethodName} {cc : ByteArray} {nL : Nat} {ret : Option FieldType} {fr lo mc ms : Nat} {ok : List Nat → Prop} {as : (Nat → Nat) → List Value} {σ : Mem} {o : (Nat → Nat) → Option Value} {σ' : Mem} (hy : plainFor y = true) (hlen : ∀ ad, (lg_sl (as ad)).length ≤ nL)
    (body : ∀ X : Ctx, Cx X y.cls cc nL ret fr lo → Cl (Xks X) → (∀ k, k ∈ Xks X → k < 105) → ok (Xks X) → RtE X mc ms o σ' → J X 0 (lv_args 0 (as (Xad X))) [] σ) : CtA l y cc nL ret fr lo mc ms ok as σ o σ' := by
  intro D cI ad A0 ks hcl hlow hok
  refine Met.ofWF (cc := cc) (maxL := nL) (ret := ret) hy rfl ?_
  intro p e s m args below meth c s₁ B hml hv
  obtain ⟨rfl, ⟨⟨hK, hP, hD, hT⟩, hnw⟩, hA⟩ := hv
  have hts := atoms_spec (ws := Cond.code y cc nL ret :: lw_g) B.pre
  have K := body (p, l, e, (headSpec (Cond.code y cc nL ret :: lw_g) ({ frames := fr, cells := mc, slots := ms, locals := lo })).room, s, m, (as ad).toArray, below, meth, c, D, cI, ad, A0, ks, nL, 0, 0, MQ below (QcOf D cI ad A0 ks (o ad) σ') (as ad).toArray s mc ms A0)
    ⟨B.exec, B.bytes, hml, rfl, B.returns, findClass_of_methodNamed B.named, fun w hw => hts w (List.mem_cons_of_mem _ hw), B.notSynchronized, hK, hcl, Nat.le_refl _, Nat.le_refl _, Nat.zero_le _, Nat.zero_le _, hnw⟩ hcl hlow hok ⟨ad, ks, mc, ms, rfl, hA, by omega, by omega, Nat.le_refl _, Nat.le_refl _, wlD.mpr (wlD.mp hD), fun k hk => ⟨hk, hlow k hk⟩, fun _ _ => rfl⟩
  have hl := lv_entry (as ad) (n := nL) (hlen ad)
  rw [lg_entry_eq]
  exact K s.heap [] _ hP hD hT va_S.rf hl
theorem J_iterN {S R : Type} {body : S → Option (R ⊕ S)} {JJ : Nat → S → Prop} {Ps : R → Prop} (hb : ∀ m s t, body s = some t → (∀ r, t = .inl r → Ps r) → (∀ s', t = .inr s' → JJ m s') → JJ (m + 1) s) : ∀ (n : Nat) (s : S) (r : R), iter body n s = some r → Ps r → JJ n s := by
  intro n
  induction n with
  | zero => intro s r h; simp [iter] at h
  | succ n ih =>
    intro s r h hp
    rw [iter] at h
    cases hbs : body s with
    | none => rw [hbs] at h; cases h
    | some t =>
      rw [hbs] at h
      refine hb n s t hbs ?_ ?_
      · intro r' e
        subst e
        cases h
        exact hp
      · intro s' e
        subst e
        exact ih s' r h hp
theorem ok_ne {ks : List Nat} {k c d : Nat} (h : Ok ks k d) (hc : ¬ clsOf c = d) : k ≠ c := fun e => hc (by rw [← e]; exact h.2)
theorem tbl_in {y : MethodName} {cc : ByteArray} {nL : Nat} {ret : Option FieldType} (h : Cond.code y cc nL ret ∈ lw_g) : GoodIn lw_g (Cond.code y cc nL ret :: lw_g) := tblIn h
section JE
variable {X : Ctx} {own : String} {cc : ByteArray} {n0 : Nat} {ret : Option FieldType} {fr lo pc : Nat} {loc : List (Nat × Value)} {stk rest : List Value} {σ : Mem}
theorem J.lastM (C : Cx X own cc n0 ret fr lo) {τ : Type} {f : Mem → Option τ} {t : τ} {k : Nat} (hok : Ok (Xks X) k 104) {i : Int32} {x : Int64} (hf : chk (ckI i (alen k)) (chk (fit32 x) (nm (gst σ k (ix i) x.toInt32) f)) = some t) (hdg : decode cc pc = .ok (.lastore, 1)) (K : ∀ σ', f σ' = some t → J X (pc + 1) loc rest σ') : J X pc loc (.long x :: .int i :: .ref (Xad X k) :: rest) σ :=
  J.last C hok hf hdg (fun h => K _ h)
/-- a new row, the cell c from now on -/
theorem J.newE (C : Cx X own cc n0 ret fr lo) (hcl : Cl (Xks X)) {a b a0 b0 c N : Nat} {o : (Nat → Nat) → Option Value} {σf : Mem} (hR : RtE X a0 b0 o σf) (ha : a + 1 ≤ a0) (hb0 : b + N ≤ b0) {atype : ArrayType} {ty : FieldType} (hc : (clsOf c = 100 ∧ ty = .int) ∨ (clsOf c = 104 ∧ ty = .long)) (h105 : 105 ≤ c ∧ c < 110) (hN : alen c = N) (hN2 : N ≤ 12) (hty : newarray.typeOf atype = ty) (harr : Cond.arrayClass (newarray.typeOf atype) ∈ lw_g) {n : Int32} (hn : n = Int32.ofNat N) {τ : Type} {f : Mem → Option τ} {t : τ} (hf : nm (gput σ c (fun _ => 0)) f = some t) (hdg : decode cc pc = .ok (.newarray atype, 2))
    (K : ∀ X' : Ctx, Cx X' own cc n0 ret fr lo → Cl (Xks X') → (∀ k d, k ≠ c → Ok (Xks X) k d → Ok (Xks X') k d) → Ok (Xks X') c (clsOf c) → (∀ k, k ≠ c → Xad X' k = Xad X k) → RtE X' a b o σf → ∀ σ', f σ' = some t → J X' (pc + 2) loc (.ref (Xad X' c) :: rest) σ') : J X pc loc (.int n :: rest) σ := by
  obtain ⟨p, l, e, R, s, m, args, below, meth, c0, D, cI, ad, A0, ks, nL, mc, ms, Q⟩ := X
  obtain ⟨hx, hb, hml, hn0, hr, hown, hts, hlocks, hK, hcl0, hfr, hlo, hmc, hms, hnw⟩ := id C
  obtain ⟨ad0, ks0, mc0, ms0, e1, e2, e3, e4, e5, e6, e7, e8, e9⟩ := hR
  intro H locs ls hP hD hT hS hl
  have hn31 : N < 2 ^ 31 := by omega
  have hclc : ¬ clsOf c = 103 := by rcases hc with ⟨q, -⟩ | ⟨q, -⟩ <;> rw [q] <;> decide
  have hnn : ¬ n < 0 := by rw [hn]; exact nI_pos hn31
  have hNc : n.toNatClampNeg = N := by rw [hn]; exact nI_clamp hn31
  have hlast : ∀ (q : Nat) (cA : ClassId) (H1 : Heap) (E : va_E), E = ce cI (fun k => if k = c then q else ad k) (gput σ c (fun _ => 0)) c → va_P D vwCl (wl cI ad σ ks ++ [(q, E)]) H1 → va_D A0 (wl cI ad σ ks ++ [(q, E)]) → va_S A0 s.heap H1 locs → W p l e R s m args below meth c0 H1 locs (mc + 1) (ms + N) Q (F0 m (pc + 2) ls (.ref q :: rest)) := by
    intro q cA H1 E hE hP1 hD1 hS1
    have hPk : ∀ k, k ∈ ks → va_at D vwCl (ad k, ce cI ad σ k) H1 := fun k hk => by
      obtain ⟨i, hi⟩ := List.getElem?_of_mem hk
      have hi' : (wl cI ad σ ks)[i]? = some (ad k, ce cI ad σ k) := by simp [wl, hi]
      exact hP1 i _ (by rw [List.getElem?_append_left (List.getElem?_eq_some_iff.mp hi').1]; exact hi')
    have hPq : va_at D vwCl (q, E) H1 := hP1 (wl cI ad σ ks).length _ (by simp)
    have hDs : (∀ (i j : Nat) (k k' : Nat), ks[i]? = some k → ks[j]? = some k' → ad k = ad k' → i = j) ∧ ∀ k, k ∈ ks → A0 (ad k) := wlD.mp hD
    have hq : ∀ k, k ∈ ks → ad k ≠ q := fun k hk e => by
      obtain ⟨i, hi⟩ := List.getElem?_of_mem hk
      have hi' : (wl cI ad σ ks)[i]? = some (ad k, ce cI ad σ k) := by simp [wl, hi]
      have hlt := (List.getElem?_eq_some_iff.mp hi').1
      have := hD1.1 i (wl cI ad σ ks).length (ad k, ce cI ad σ k) (q, E) (by rw [List.getElem?_append_left hlt]; exact hi') (by simp) e
      omega
    have hAq : A0 q := hD1.2 (wl cI ad σ ks).length (q, E) (by simp)
    have hdd := drop_D (c := c) (q := q) (ad' := fun k => if k = c then q else ad k) hDs hq hAq (fun k hk => if_neg hk) (if_pos rfl)
    have hcl2 : Cl (ks.filter (fun k => !decide (k = c)) ++ [c]) := by
      intro k hk j hj hc2
      simp at hk
      rcases hk with ⟨hk, hkc⟩ | hk
      · rcases hcl0 k hk j hj hc2 with z | z
        · left
          have := ptr_gap k j
          simp
          exact Or.inl ⟨z, by omega⟩
        · exact Or.inr z
      · rw [hk] at hc2
        rcases hc with ⟨z, -⟩ | ⟨z, -⟩ <;> rw [z] at hc2 <;> exact absurd hc2 (by decide)
    have C' : Cx (Xnew (p, l, e, R, s, m, args, below, meth, c0, D, cI, ad, A0, ks, nL, mc, ms, Q) c q N) own cc n0 ret fr lo := ⟨hx, hb, hml, hn0, hr, hown, hts, hlocks, hK, hcl2, hfr, hlo, Nat.le_trans (by omega) e5, Nat.le_trans (by omega) e6, hnw⟩
    have hgap : ∀ a : Nat, ¬ (105 ≤ a ∧ a < 110) → (if a = c then q else ad a) = ad a := fun a ha => if_neg (fun z => ha (by rw [z]; exact h105))
    have key := K (Xnew (p, l, e, R, s, m, args, below, meth, c0, D, cI, ad, A0, ks, nL, mc, ms, Q) c q N) C' hcl2 (fun k d hk h => ⟨by show k ∈ ks.filter (fun k => !decide (k = c)) ++ [c]; simp; exact Or.inl ⟨h.1, hk⟩, h.2⟩) ⟨by show c ∈ ks.filter (fun k => !decide (k = c)) ++ [c]; simp, rfl⟩ (fun k hk => if_neg hk)
      ⟨ad0, ks0, mc0, ms0, e1, e2, by omega, by omega, e5, e6, e7, fun k hk => ⟨by simp; exact Or.inl ⟨(e8 k hk).1, by have := (e8 k hk).2; omega⟩, (e8 k hk).2⟩, fun k hk => (hgap k hk).trans (e9 k hk)⟩ _ hf
    have hadc : Xad (Xnew (p, l, e, R, s, m, args, below, meth, c0, D, cI, ad, A0, ks, nL, mc, ms, Q) c q N) c = q := if_pos rfl
    rw [hadc] at key
    refine key H1 locs ls (wl_mem.mpr ?_) (wlD.mpr hdd) ?_ hS1 hl
    · intro k hk
      simp at hk
      rcases hk with ⟨hk, hkc⟩ | hk
      · rw [ce_ad (ad := ad) (σ := σ) hgap (gput_n hkc), if_neg hkc]
        exact hPk k hk
      · rw [hk, if_pos rfl, ← hE]
        exact hPq
    · intro k hk
      have hkc : k ≠ c := fun z => hclc (by rw [← z]; exact hk)
      show va_T .int (if k = c then q else ad k) (alen k) (fun j => .int (gput σ c (fun _ => 0) k j)) A0 s s.heap
      rw [if_neg hkc, gput_n hkc]
      exact hT k hk
  rcases hc with ⟨hcc, rfl⟩ | ⟨hcc, rfl⟩
  · refine va_newa (N' := N) (a0 := (N, .inl (fun _ => 0))) hx hb (hts _ harr) hty hK hP hD hS e2 (fun cA => rfl) hnn hNc (Nat.le_trans (Nat.mul_le_mul hN2 (Nat.le_refl _)) (by decide)) (by omega) (by omega) hdg (fun q cA H1 hK1 hP1 hD1 hS1 => ?_)
    have hcA : cA = cI 100 := by
      have h1 := (hK1.2 3 (cA, .int) rfl).2
      have h2 := (hK1.2 0 (cI 100, .int) rfl).2
      exact Option.some.inj (h1.symm.trans h2)
    subst hcA
    exact hlast q (cI 100) H1 _ (by rw [ce_arr hcc (by decide) (by decide), gput_s, hN]) hP1 hD1 hS1
  · refine va_newa (N' := N) (a0 := (N, .inr (.inl (fun _ => 0)))) hx hb (hts _ harr) hty hK hP hD hS e2 (fun cA => rfl) hnn hNc (Nat.le_trans (Nat.mul_le_mul hN2 (Nat.le_refl _)) (by decide)) (by omega) (by omega) hdg (fun q cA H1 hK1 hP1 hD1 hS1 => ?_)
    have hcA : cA = cI 104 := by
      have h1 := (hK1.2 3 (cA, .long) rfl).2
      have h2 := (hK1.2 2 (cI 104, .long) rfl).2
      exact Option.some.inj (h1.symm.trans h2)
    subst hcA
    exact hlast q (cI 104) H1 _ (by rw [ce_lng hcc, gput_s, hN]; rfl) hP1 hD1 hS1
/-- the end -/
theorem J.zretE {rt : FieldType} (C : Cx X own cc n0 (some rt) fr lo) {v : Int32} (hn : narrow rt (.int v) = .int v) {a b : Nat} {t0 : Int32 × Mem} (hR : RtE X a b (fun _ => some (.int t0.1)) t0.2) (h : (v, σ) = t0) (hdg : decode cc pc = .ok (.ireturn, 1)) : J X pc loc [.int v] σ := by
  subst h
  obtain ⟨p, l, e, R, s, m, args, below, meth, c0, D, cI, ad, A0, ks, nL, mc, ms, Q⟩ := X
  obtain ⟨hx, hb, hml, hn0, hr, hown, hts, hlocks, hK, hcl0, hfr, hlo, hmc, hms, hnw⟩ := C
  obtain ⟨ad0, ks0, mc0, ms0, e1, e2, e3, e4, e5, e6, e7, e8, e9⟩ := hR
  intro H locs ls hP hD hT hS hl
  rw [e1]
  refine W.widen (k := mc0) (n := ms0) (by omega) (by omega) ?_
  refine W.zret hx hb hr hn (fun t ht hW => ⟨rfl, ⟨va_K.moved hW.alike hK, ?_, wlD.mpr (wlD.mp e7), ?_⟩, hS.F ht⟩) hS.2.2 hdg hlocks
  · rw [ht]
    refine wl_mem.mpr (fun k hk => ?_)
    have e9' : ∀ a, ¬ (105 ≤ a ∧ a < 110) → ad0 a = ad a := fun a ha => (e9 a ha).symm
    rw [ce_ad (ad := ad) (σ := σ) e9' rfl, e9' k (by have := (e8 k hk).2; omega)]
    exact wl_mem.mp hP k (e8 k hk).1
  · intro k hk
    rw [← e9 k (fun z => absurd hk ((show ∀ k, 105 ≤ k ∧ k < 110 → clsOf k ≠ 103 by
      intro k h
      have : k = 105 ∨ k = 106 ∨ k = 107 ∨ k = 108 ∨ k = 109 := by omega
      rcases this with q | q | q | q | q <;> rw [q] <;> decide) k z))]
    exact hT.out hS ht hW.alike k hk
theorem J_runA {p : Program} {l : Launch} {e : Env} {R : Room} {s : State} {m : MethodId} {args : Array Value} {below : List Frame} {meth : Method} {c : Code} {D : va_G} {cI : Nat → ClassId} {ad : Nat → Nat} {A0 : Nat → Prop} {ks : List Nat} {nL mc ms mc' ms' : Nat} {Q : State → Prop} {H : Heap} {locs : List Loc} {ls : Array Slot} {o : Option Value} {σ' : Mem} {a : Array Value} {stk' : List Value}
    (hr : va_Run p l e R s m args below meth c H locs mc ms mc' ms' (F0 m pc ls stk) rest (QcOf D cI ad A0 ks o σ' a) A0) (hT : Ws ad A0 σ s) (hS : va_S A0 s.heap H locs) (hl : lv_has ls nL loc) (hst : o.toList ++ rest = stk')
    (K : J (p, l, e, R, s, m, args, below, meth, c, D, cI, ad, A0, ks, nL, mc + mc', ms + ms', Q) (pc + 3) loc stk' σ') : W p l e R s m args below meth c H locs mc ms Q (F0 m pc ls stk) := by
  intro T hTT X
  obtain ⟨v, st₀, t, T', L, h0, X', hL, e1, e2, ⟨hv, ⟨-, hP1, hD1, hT1⟩, hz, hk⟩, st⟩ := hr T hTT X
  cases hv
  rw [h0] at hz hk
  subst hst
  have hT' : Ws ad A0 σ' s := hT.back hT1 (fun q h1 h2 => by rw [hk q (Nat.lt_of_lt_of_le h1 hS.1) h2]; exact hS.2.1 q h1 h2)
  obtain ⟨t2, a1, b1⟩ := K T'.heap (locs ++ L) ls (by rw [e1]; exact hP1) hD1 hT' ⟨Nat.le_trans hS.1 (by rw [e1]; exact hz), fun q h1 h2 => by rw [e1, hk q (Nat.lt_of_lt_of_le h1 hS.1) h2]; exact hS.2.1 q h1 h2, fun q hq => by
      rcases List.mem_append.mp hq with h | h
      · exact hS.2.2 q h
      · exact hL q h⟩ hl T' rfl X'
  exact ⟨t2, st t2 a1, b1⟩
theorem PcBlindA {D : va_G} {cI : Nat → ClassId} {ad : Nat → Nat} {A0 : Nat → Prop} {ks : List Nat} {σ : Mem} {av : List Value} : FrameBlind (va_Pc av (fun U => (Wx D cI ad A0 ks σ U ∧ Nw U) ∧ ∀ q : Nat, U.heap.size ≤ q → A0 q)) := fun a U g mk h => ⟨h.1, ⟨Wx.moved (u := U) (U := U.calling g mk a) (Vm.Alike.refl U.vm) rfl h.2.1.1, Nw.same (u := U) (U := U.calling g mk a) rfl h.2.1.2⟩, h.2.2⟩
/-- a call of one that makes rows -/
theorem J.callSA (C : Cx X own cc n0 ret fr lo) {y : MethodName} {cc' : ByteArray} {nL' fr' lo' mc' ms' n : Nat} {ret' : Option FieldType} {ok : List Nat → Prop} {as : (Nat → Nat) → List Value} {o : (Nat → Nat) → Option Value} {σ' : Mem} (hM : CtA (Xl X) y cc' nL' ret' fr' lo' mc' ms' ok as σ o σ') (hlow : ∀ k, k ∈ Xks X → k < 105) (hok : ok (Xks X)) (hRm : Rm X mc' ms') (wy : Wy y cc' nL' ret' n) (hin : Cond.static y ∈ lw_g) {idx : Nat} (hlink : Cond.methodLink own idx y ∈ lw_g) (As rest : List Value) (has : as (Xad X) = As) (hn : As.length = n) (hcat : (rest.map fun v => v.category).sum ≤ 8) (hfr' : fr' + 1 ≤ fr) (hlo' : 8 + (nL' + 11) + lo' ≤ lo) {stk stk' : List Value} (hst : stk = As.reverse ++ rest) (hdg : decode cc pc = .ok (.invokestatic idx, 3)) (hst' : (o (Xad X)).toList ++ rest = stk') (K : J (Xadd X mc' ms') (pc + 3) loc stk' σ') : J X pc loc stk σ := by
  obtain ⟨p, l, e, R, s, m, args, below, meth, c, D, cI, ad, A0, ks, nL, mc, ms, Q⟩ := X
  obtain ⟨hx, hb, hml, hn0, hr, hown, hts, hlocks, hK, hcl, hfr, hlo, hmc, hms, hnw⟩ := C
  obtain ⟨r1, r2, r3⟩ := hRm
  intro H locs ls hP hD hT hS hl
  exact J_runA (va_runS ⟨hx, hb, hml, hown, hts⟩ (hM D cI ad A0 ks hcl hlow hok) ⟨⟨rfl, rfl, Nat.le_trans hfr' hfr, Nat.le_trans hlo' hlo, pay_in hts (tbl_in wy.1), List.mem_cons_self, hts _ wy.1, hts _ wy.2.1, ⟨wy.2.2.1, wy.2.2.2.1⟩, fun sig h => by have h2 := wy.2.2.2.2; rw [h] at h2; exact (Option.some.inj h2).symm, hts _ hlink⟩, hts _ hin⟩ ⟨PcBlindA, fun U hU hW => ⟨by have := has; dsimp only [Xad] at this; rw [this], ⟨⟨va_K.moved hW.alike hK, by rw [hU]; exact hP, hD, hT.out hS hU hW.alike⟩, hnw.warm hW⟩, fun q hq => r3 q (Nat.le_trans hS.1 (by rw [← hU]; exact hq))⟩⟩ rfl hn hl.1 hst (lv_room hcat) hdg ⟨r1, r2⟩) hT hS hl hst' K
end JE
end
