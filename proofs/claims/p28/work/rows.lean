section
-- ===== PART A: goes FIRST, ahead of the names: the tables' words, and 'selects' of the private methods out of them =====
/-- a private method of a class that the tables say can be made, by its rows of tables_1 -/
def lw_okq (q : MethodName × Nat) : Prop := (q.1.cls ≠ "java/lang/invoke/MethodHandle" ∧ q.1.cls ≠ "java/lang/invoke/VarHandle") ∧ Cond.instantiable q.1.cls q.2 ∈ tables_1 ∧ Cond.privateMethod q.1 ∈ tables_1 ∧ Cond.instanceMethod q.1 ∈ tables_1
theorem lw_p0 : lw_okq (⟨"java/lang/Throwable", "fillInStackTrace", "(I)Ljava/lang/Throwable;"⟩, 6) := ⟨⟨by decide +kernel, by decide +kernel⟩, List.mem_of_getElem? (i := 283) (by decide +kernel), List.mem_of_getElem? (i := 281) (by decide +kernel), List.mem_of_getElem? (i := 282) (by decide +kernel)⟩
theorem lw_p1 : lw_okq (⟨"LateThermometers", "checkThermometer", "(I)V"⟩, 6) := ⟨⟨by decide +kernel, by decide +kernel⟩, List.mem_of_getElem? (i := 17) (by decide +kernel), List.mem_of_getElem? (i := 362) (by decide +kernel), List.mem_of_getElem? (i := 363) (by decide +kernel)⟩
theorem lw_p2 : lw_okq (⟨"LateThermometers$Place", "countAheadOf", "(II)I"⟩, 13) := ⟨⟨by decide +kernel, by decide +kernel⟩, List.mem_of_getElem? (i := 25) (by decide +kernel), List.mem_of_getElem? (i := 496) (by decide +kernel), List.mem_of_getElem? (i := 497) (by decide +kernel)⟩
theorem lw_p3 : lw_okq (⟨"LateThermometers$Place", "sortKey", "(II)I"⟩, 13) := ⟨⟨by decide +kernel, by decide +kernel⟩, List.mem_of_getElem? (i := 25) (by decide +kernel), List.mem_of_getElem? (i := 500) (by decide +kernel), List.mem_of_getElem? (i := 501) (by decide +kernel)⟩
theorem lw_p4 : lw_okq (⟨"LateThermometers$Thermometer", "stepFrom", "(II)I"⟩, 12) := ⟨⟨by decide +kernel, by decide +kernel⟩, List.mem_of_getElem? (i := 32) (by decide +kernel), List.mem_of_getElem? (i := 559) (by decide +kernel), List.mem_of_getElem? (i := 560) (by decide +kernel)⟩
theorem lw_p5 : lw_okq (⟨"LateThermometers$Place", "readRows", "()V"⟩, 13) := ⟨⟨by decide +kernel, by decide +kernel⟩, List.mem_of_getElem? (i := 25) (by decide +kernel), List.mem_of_getElem? (i := 564) (by decide +kernel), List.mem_of_getElem? (i := 565) (by decide +kernel)⟩
theorem lw_p6 : lw_okq (⟨"LateThermometers$Place", "isReadNow", "(I)Z"⟩, 13) := ⟨⟨by decide +kernel, by decide +kernel⟩, List.mem_of_getElem? (i := 25) (by decide +kernel), List.mem_of_getElem? (i := 568) (by decide +kernel), List.mem_of_getElem? (i := 569) (by decide +kernel)⟩
theorem lw_p7 : lw_okq (⟨"LateThermometers$Place", "lookForSpikes", "()V"⟩, 13) := ⟨⟨by decide +kernel, by decide +kernel⟩, List.mem_of_getElem? (i := 25) (by decide +kernel), List.mem_of_getElem? (i := 584) (by decide +kernel), List.mem_of_getElem? (i := 585) (by decide +kernel)⟩
theorem lw_p8 : lw_okq (⟨"LateThermometers$Place", "compareWithOthers", "(I)V"⟩, 13) := ⟨⟨by decide +kernel, by decide +kernel⟩, List.mem_of_getElem? (i := 25) (by decide +kernel), List.mem_of_getElem? (i := 601) (by decide +kernel), List.mem_of_getElem? (i := 602) (by decide +kernel)⟩
theorem lw_p9 : lw_okq (⟨"LateThermometers$History", "stateAt", "(I)LLateThermometers$Place;"⟩, 4) := ⟨⟨by decide +kernel, by decide +kernel⟩, List.mem_of_getElem? (i := 145) (by decide +kernel), List.mem_of_getElem? (i := 679) (by decide +kernel), List.mem_of_getElem? (i := 680) (by decide +kernel)⟩
theorem lw_p10 : lw_okq (⟨"LateThermometers", "checkHoursLeft", "(I)V"⟩, 6) := ⟨⟨by decide +kernel, by decide +kernel⟩, List.mem_of_getElem? (i := 17) (by decide +kernel), List.mem_of_getElem? (i := 729) (by decide +kernel), List.mem_of_getElem? (i := 730) (by decide +kernel)⟩
def lw_privs_1 : List (MethodName × Nat) := [(⟨"java/lang/Throwable", "fillInStackTrace", "(I)Ljava/lang/Throwable;"⟩, 6), (⟨"LateThermometers", "checkThermometer", "(I)V"⟩, 6), (⟨"LateThermometers$Place", "countAheadOf", "(II)I"⟩, 13), (⟨"LateThermometers$Place", "sortKey", "(II)I"⟩, 13), (⟨"LateThermometers$Thermometer", "stepFrom", "(II)I"⟩, 12), (⟨"LateThermometers$Place", "readRows", "()V"⟩, 13), (⟨"LateThermometers$Place", "isReadNow", "(I)Z"⟩, 13), (⟨"LateThermometers$Place", "lookForSpikes", "()V"⟩, 13), (⟨"LateThermometers$Place", "compareWithOthers", "(I)V"⟩, 13), (⟨"LateThermometers$History", "stateAt", "(I)LLateThermometers$Place;"⟩, 4), (⟨"LateThermometers", "checkHoursLeft", "(I)V"⟩, 6)]
theorem lw_r1 : ∀ q ∈ lw_privs_1, lw_okq q := List.forall_mem_cons.mpr ⟨lw_p0, List.forall_mem_cons.mpr ⟨lw_p1, List.forall_mem_cons.mpr ⟨lw_p2, List.forall_mem_cons.mpr ⟨lw_p3, List.forall_mem_cons.mpr ⟨lw_p4, List.forall_mem_cons.mpr ⟨lw_p5, List.forall_mem_cons.mpr ⟨lw_p6, List.forall_mem_cons.mpr ⟨lw_p7, List.forall_mem_cons.mpr ⟨lw_p8, List.forall_mem_cons.mpr ⟨lw_p9, List.forall_mem_cons.mpr ⟨lw_p10, fun _ h => absurd h List.not_mem_nil⟩⟩⟩⟩⟩⟩⟩⟩⟩⟩⟩
def lw_privs : List (MethodName × Nat) := lw_privs_1
def lw_tbl : List Cond := k2_sels lw_privs ++ tables_1
theorem lw_privs_ok : ∀ q ∈ lw_privs, lw_okq q := lw_r1
/-- the streams that the claim lets the run draw from -/
abbrev lw_cs : List Choice := [Jvm.Choice.named "NaN.bits"]
theorem lw_bits : nanBits ∈ lw_cs := by first | decide | exact List.mem_cons_self | simp [lw_cs, nanBits]

def RX0 : String := "LateThermometers$Ascending"
def TX0 : u_T := fun k => match k with
  | 0 => ("LateThermometers$Ascending", "numbers", "[I", true)
  | _ => ("LateThermometers$Ascending", "size", "I", false)
def tyX0 : Nat → FieldType := fun k => match k with
  | 0 => .array .int
  | _ => .int
theorem nmX0 : ∀ a, a < 2 → ∀ b, b < 2 → a ≠ b → (TX0 a).2.1 ≠ (TX0 b).2.1 := by decide +kernel
theorem tyX0_ok : ∀ k, k < 2 → parseFieldDescriptor (TX0 k).2.2.1 = some (tyX0 k) := by decide +kernel
abbrev cX0_init : ByteArray := prog_2_method_1_code
def yX0_init : MethodName := ⟨RX0, "<init>", "()V"⟩
abbrev cX0_clear : ByteArray := prog_2_method_2_code
def yX0_clear : MethodName := ⟨RX0, "clear", "()V"⟩
abbrev cX0_insert : ByteArray := prog_2_method_3_code
def yX0_insert : MethodName := ⟨RX0, "insert", "(I)V"⟩
abbrev cX0_middle : ByteArray := prog_2_method_4_code
def yX0_middle : MethodName := ⟨RX0, "middle", "()I"⟩
def RX1 : String := "LateThermometers$History"
def TX1 : u_T := fun k => match k with
  | 0 => ("LateThermometers$History", "states", "[LLateThermometers$Place;", true)
  | 1 => ("LateThermometers$History", "spare", "LLateThermometers$Place;", true)
  | 2 => ("LateThermometers$History", "next", "I", false)
  | _ => ("LateThermometers$History", "size", "I", false)
def tyX1 : Nat → FieldType := fun k => match k with
  | 0 => .array (.object "LateThermometers$Place")
  | 1 => .object "LateThermometers$Place"
  | 2 => .int
  | _ => .int
theorem nmX1 : ∀ a, a < 4 → ∀ b, b < 4 → a ≠ b → (TX1 a).2.1 ≠ (TX1 b).2.1 := by decide +kernel
theorem tyX1_ok : ∀ k, k < 4 → parseFieldDescriptor (TX1 k).2.2.1 = some (tyX1 k) := by decide +kernel
abbrev cX1_init : ByteArray := prog_3_method_1_code
def yX1_init : MethodName := ⟨RX1, "<init>", "()V"⟩
abbrev cX1_save : ByteArray := prog_3_method_2_code
def yX1_save : MethodName := ⟨RX1, "save", "(LLateThermometers$Place;)V"⟩
abbrev cX1_stateAt : ByteArray := prog_3_method_4_code
def yX1_stateAt : MethodName := ⟨RX1, "stateAt", "(I)LLateThermometers$Place;"⟩
def RX2 : String := "LateThermometers$OrderText"
def TX2 : u_T := fun k => match k with
  | 0 => ("LateThermometers$OrderText", "characters", "[C", true)
  | 1 => ("LateThermometers$OrderText", "position", "I", false)
  | 2 => ("LateThermometers$OrderText", "digit", "I", false)
  | 3 => ("LateThermometers$OrderText", "length", "I", false)
  | 4 => ("LateThermometers$OrderText", "kind", "I", false)
  | 5 => ("LateThermometers$OrderText", "row", "I", false)
  | 6 => ("LateThermometers$OrderText", "number", "I", false)
  | _ => ("LateThermometers$OrderText", "weight", "I", false)
def tyX2 : Nat → FieldType := fun k => match k with
  | 0 => .array .char
  | 1 => .int
  | 2 => .int
  | 3 => .int
  | 4 => .int
  | 5 => .int
  | 6 => .int
  | _ => .int
theorem nmX2 : ∀ a, a < 8 → ∀ b, b < 8 → a ≠ b → (TX2 a).2.1 ≠ (TX2 b).2.1 := by decide +kernel
theorem tyX2_ok : ∀ k, k < 8 → parseFieldDescriptor (TX2 k).2.2.1 = some (tyX2 k) := by decide +kernel
abbrev cX2_init : ByteArray := prog_4_method_1_code
def yX2_init : MethodName := ⟨RX2, "<init>", "()V"⟩
def RX3 : String := "LateThermometers$Place"
def TX3 : u_T := fun k => match k with
  | 0 => ("LateThermometers$Place", "thermometers", "[LLateThermometers$Thermometer;", true)
  | 1 => ("LateThermometers$Place", "spare", "LLateThermometers$Thermometer;", true)
  | 2 => ("LateThermometers$Place", "periods", "[I", true)
  | 3 => ("LateThermometers$Place", "timesRead", "[I", true)
  | 4 => ("LateThermometers$Place", "sorted", "LLateThermometers$Ascending;", true)
  | 5 => ("LateThermometers$Place", "meanBefore", "I", false)
  | 6 => ("LateThermometers$Place", "size", "I", false)
  | 7 => ("LateThermometers$Place", "hour", "I", false)
  | 8 => ("LateThermometers$Place", "temperature", "I", false)
  | 9 => ("LateThermometers$Place", "readings", "I", false)
  | 10 => ("LateThermometers$Place", "spikes", "I", false)
  | 11 => ("LateThermometers$Place", "difference", "I", false)
  | _ => ("LateThermometers$Place", "strikesToShutOut", "I", false)
def tyX3 : Nat → FieldType := fun k => match k with
  | 0 => .array (.object "LateThermometers$Thermometer")
  | 1 => .object "LateThermometers$Thermometer"
  | 2 => .array .int
  | 3 => .array .int
  | 4 => .object "LateThermometers$Ascending"
  | 5 => .int
  | 6 => .int
  | 7 => .int
  | 8 => .int
  | 9 => .int
  | 10 => .int
  | 11 => .int
  | _ => .int
theorem nmX3 : ∀ a, a < 13 → ∀ b, b < 13 → a ≠ b → (TX3 a).2.1 ≠ (TX3 b).2.1 := by decide +kernel
theorem tyX3_ok : ∀ k, k < 13 → parseFieldDescriptor (TX3 k).2.2.1 = some (tyX3 k) := by decide +kernel
abbrev cX3_init : ByteArray := prog_5_method_1_code
def yX3_init : MethodName := ⟨RX3, "<init>", "()V"⟩
abbrev cX3_copyFrom : ByteArray := prog_5_method_2_code
def yX3_copyFrom : MethodName := ⟨RX3, "copyFrom", "(LLateThermometers$Place;)V"⟩
abbrev cX3_has : ByteArray := prog_5_method_3_code
def yX3_has : MethodName := ⟨RX3, "has", "(I)Z"⟩
abbrev cX3_hasRoom : ByteArray := prog_5_method_4_code
def yX3_hasRoom : MethodName := ⟨RX3, "hasRoom", "()Z"⟩
abbrev cX3_hasHoursLeft : ByteArray := prog_5_method_5_code
def yX3_hasHoursLeft : MethodName := ⟨RX3, "hasHoursLeft", "(I)Z"⟩
abbrev cX3_at : ByteArray := prog_5_method_6_code
def yX3_at : MethodName := ⟨RX3, "at", "(I)LLateThermometers$Thermometer;"⟩
abbrev cX3_add : ByteArray := prog_5_method_7_code
def yX3_add : MethodName := ⟨RX3, "add", "(IIII)I"⟩
abbrev cX3_changePeriod : ByteArray := prog_5_method_8_code
def yX3_changePeriod : MethodName := ⟨RX3, "changePeriod", "(II)V"⟩
abbrev cX3_periodOf : ByteArray := prog_5_method_9_code
def yX3_periodOf : MethodName := ⟨RX3, "periodOf", "(I)I"⟩
abbrev cX3_timesReadOf : ByteArray := prog_5_method_10_code
def yX3_timesReadOf : MethodName := ⟨RX3, "timesReadOf", "(I)I"⟩
abbrev cX3_hoursUntilRead : ByteArray := prog_5_method_11_code
def yX3_hoursUntilRead : MethodName := ⟨RX3, "hoursUntilRead", "(I)I"⟩
abbrev cX3_countInRow : ByteArray := prog_5_method_12_code
def yX3_countInRow : MethodName := ⟨RX3, "countInRow", "(I)I"⟩
abbrev cX3_passHours : ByteArray := prog_5_method_13_code
def yX3_passHours : MethodName := ⟨RX3, "passHours", "(II)V"⟩
abbrev cX3_passHour : ByteArray := prog_5_method_14_code
def yX3_passHour : MethodName := ⟨RX3, "passHour", "(I)I"⟩
abbrev cX3_readRows : ByteArray := prog_5_method_15_code
def yX3_readRows : MethodName := ⟨RX3, "readRows", "()V"⟩
abbrev cX3_isReadNow : ByteArray := prog_5_method_16_code
def yX3_isReadNow : MethodName := ⟨RX3, "isReadNow", "(I)Z"⟩
abbrev cX3_lookForSpikes : ByteArray := prog_5_method_17_code
def yX3_lookForSpikes : MethodName := ⟨RX3, "lookForSpikes", "()V"⟩
abbrev cX3_compareWithOthers : ByteArray := prog_5_method_18_code
def yX3_compareWithOthers : MethodName := ⟨RX3, "compareWithOthers", "(I)V"⟩
abbrev cX3_middleWithout : ByteArray := prog_5_method_19_code
def yX3_middleWithout : MethodName := ⟨RX3, "middleWithout", "(I)I"⟩
abbrev cX3_maskOfAsked : ByteArray := prog_5_method_20_code
def yX3_maskOfAsked : MethodName := ⟨RX3, "maskOfAsked", "()I"⟩
abbrev cX3_maskOfShutOut : ByteArray := prog_5_method_21_code
def yX3_maskOfShutOut : MethodName := ⟨RX3, "maskOfShutOut", "()I"⟩
abbrev cX3_mean : ByteArray := prog_5_method_22_code
def yX3_mean : MethodName := ⟨RX3, "mean", "()I"⟩
abbrev cX3_slope : ByteArray := prog_5_method_23_code
def yX3_slope : MethodName := ⟨RX3, "slope", "()I"⟩
abbrev cX3_atRank : ByteArray := prog_5_method_24_code
def yX3_atRank : MethodName := ⟨RX3, "atRank", "(II)I"⟩
abbrev cX3_countAheadOf : ByteArray := prog_5_method_25_code
def yX3_countAheadOf : MethodName := ⟨RX3, "countAheadOf", "(II)I"⟩
abbrev cX3_sortKey : ByteArray := prog_5_method_26_code
def yX3_sortKey : MethodName := ⟨RX3, "sortKey", "(II)I"⟩
abbrev cX3_countMended : ByteArray := prog_5_method_27_code
def yX3_countMended : MethodName := ⟨RX3, "countMended", "()I"⟩
abbrev cX3_countMendedIn : ByteArray := prog_5_method_28_code
def yX3_countMendedIn : MethodName := ⟨RX3, "countMendedIn", "(II)I"⟩
abbrev cX3_sumOfErrors : ByteArray := prog_5_method_29_code
def yX3_sumOfErrors : MethodName := ⟨RX3, "sumOfErrors", "()I"⟩
abbrev cX3_greatestDistance : ByteArray := prog_5_method_30_code
def yX3_greatestDistance : MethodName := ⟨RX3, "greatestDistance", "()I"⟩
def RX4 : String := "LateThermometers$Snapshot"
def TX4 : u_T := fun k => match k with
  | 0 => ("LateThermometers$Snapshot", "place", "LLateThermometers$Place;", true)
  | _ => ("LateThermometers$Snapshot", "taken", "Z", false)
def tyX4 : Nat → FieldType := fun k => match k with
  | 0 => .object "LateThermometers$Place"
  | _ => .boolean
theorem nmX4 : ∀ a, a < 2 → ∀ b, b < 2 → a ≠ b → (TX4 a).2.1 ≠ (TX4 b).2.1 := by decide +kernel
theorem tyX4_ok : ∀ k, k < 2 → parseFieldDescriptor (TX4 k).2.2.1 = some (tyX4 k) := by decide +kernel
abbrev cX4_init : ByteArray := prog_6_method_1_code
def yX4_init : MethodName := ⟨RX4, "<init>", "()V"⟩
def RX5 : String := "LateThermometers$Thermometer"
def TX5 : u_T := fun k => match k with
  | 0 => ("LateThermometers$Thermometer", "readingHours", "[I", true)
  | 1 => ("LateThermometers$Thermometer", "readingValues", "[I", true)
  | 2 => ("LateThermometers$Thermometer", "kept", "I", false)
  | 3 => ("LateThermometers$Thermometer", "lag", "I", false)
  | 4 => ("LateThermometers$Thermometer", "offset", "I", false)
  | 5 => ("LateThermometers$Thermometer", "row", "I", false)
  | 6 => ("LateThermometers$Thermometer", "weight", "I", false)
  | 7 => ("LateThermometers$Thermometer", "shown", "I", false)
  | 8 => ("LateThermometers$Thermometer", "strikes", "I", false)
  | 9 => ("LateThermometers$Thermometer", "spikes", "I", false)
  | 10 => ("LateThermometers$Thermometer", "shutOut", "Z", false)
  | _ => ("LateThermometers$Thermometer", "mended", "I", false)
def tyX5 : Nat → FieldType := fun k => match k with
  | 0 => .array .int
  | 1 => .array .int
  | 2 => .int
  | 3 => .int
  | 4 => .int
  | 5 => .int
  | 6 => .int
  | 7 => .int
  | 8 => .int
  | 9 => .int
  | 10 => .boolean
  | _ => .int
theorem nmX5 : ∀ a, a < 12 → ∀ b, b < 12 → a ≠ b → (TX5 a).2.1 ≠ (TX5 b).2.1 := by decide +kernel
theorem tyX5_ok : ∀ k, k < 12 → parseFieldDescriptor (TX5 k).2.2.1 = some (tyX5 k) := by decide +kernel
abbrev cX5_init : ByteArray := prog_7_method_1_code
def yX5_init : MethodName := ⟨RX5, "<init>", "()V"⟩
abbrev cX5_begin : ByteArray := prog_7_method_2_code
def yX5_begin : MethodName := ⟨RX5, "begin", "(IIIII)V"⟩
abbrev cX5_startAfresh : ByteArray := prog_7_method_3_code
def yX5_startAfresh : MethodName := ⟨RX5, "startAfresh", "(I)V"⟩
abbrev cX5_copyFrom : ByteArray := prog_7_method_4_code
def yX5_copyFrom : MethodName := ⟨RX5, "copyFrom", "(LLateThermometers$Thermometer;)V"⟩
abbrev cX5_follow : ByteArray := prog_7_method_5_code
def yX5_follow : MethodName := ⟨RX5, "follow", "(I)V"⟩
abbrev cX5_stepFrom : ByteArray := prog_7_method_6_code
def yX5_stepFrom : MethodName := ⟨RX5, "stepFrom", "(II)I"⟩
abbrev cX5_hoursUntilStill : ByteArray := prog_7_method_7_code
def yX5_hoursUntilStill : MethodName := ⟨RX5, "hoursUntilStill", "(I)I"⟩
abbrev cX5_takeReading : ByteArray := prog_7_method_8_code
def yX5_takeReading : MethodName := ⟨RX5, "takeReading", "(I)V"⟩
abbrev cX5_hourAgo : ByteArray := prog_7_method_9_code
def yX5_hourAgo : MethodName := ⟨RX5, "hourAgo", "(I)I"⟩
abbrev cX5_valueAgo : ByteArray := prog_7_method_10_code
def yX5_valueAgo : MethodName := ⟨RX5, "valueAgo", "(I)I"⟩
abbrev cX5_hasMended : ByteArray := prog_7_method_11_code
def yX5_hasMended : MethodName := ⟨RX5, "hasMended", "()Z"⟩
abbrev cX5_isAsked : ByteArray := prog_7_method_12_code
def yX5_isAsked : MethodName := ⟨RX5, "isAsked", "()Z"⟩
abbrev cX5_isAskedAndReadIn : ByteArray := prog_7_method_13_code
def yX5_isAskedAndReadIn : MethodName := ⟨RX5, "isAskedAndReadIn", "(I)Z"⟩
abbrev cX5_mendedWith : ByteArray := prog_7_method_14_code
def yX5_mendedWith : MethodName := ⟨RX5, "mendedWith", "(I)I"⟩
abbrev cX5_lagNearestTo : ByteArray := prog_7_method_15_code
def yX5_lagNearestTo : MethodName := ⟨RX5, "lagNearestTo", "(I)I"⟩
abbrev cX5_error : ByteArray := prog_7_method_16_code
def yX5_error : MethodName := ⟨RX5, "error", "(I)I"⟩
abbrev cX5_distance : ByteArray := prog_7_method_17_code
def yX5_distance : MethodName := ⟨RX5, "distance", "(I)I"⟩
abbrev cX5_compareWith : ByteArray := prog_7_method_18_code
def yX5_compareWith : MethodName := ⟨RX5, "compareWith", "(II)V"⟩
abbrev cX5_shutOutFrom : ByteArray := prog_7_method_19_code
def yX5_shutOutFrom : MethodName := ⟨RX5, "shutOutFrom", "(I)V"⟩
abbrev cX5_numberOf : ByteArray := prog_7_method_20_code
def yX5_numberOf : MethodName := ⟨RX5, "numberOf", "(I)I"⟩
def RX6 : String := "LateThermometers"
def TX6 : u_T := fun k => match k with
  | 0 => ("LateThermometers", "now", "LLateThermometers$Place;", true)
  | 1 => ("LateThermometers", "trial", "LLateThermometers$Place;", true)
  | 2 => ("LateThermometers", "history", "LLateThermometers$History;", true)
  | 3 => ("LateThermometers", "firstSnapshot", "LLateThermometers$Snapshot;", true)
  | 4 => ("LateThermometers", "secondSnapshot", "LLateThermometers$Snapshot;", true)
  | _ => ("LateThermometers", "text", "LLateThermometers$OrderText;", true)
def tyX6 : Nat → FieldType := fun k => match k with
  | 0 => .object "LateThermometers$Place"
  | 1 => .object "LateThermometers$Place"
  | 2 => .object "LateThermometers$History"
  | 3 => .object "LateThermometers$Snapshot"
  | 4 => .object "LateThermometers$Snapshot"
  | _ => .object "LateThermometers$OrderText"
theorem nmX6 : ∀ a, a < 6 → ∀ b, b < 6 → a ≠ b → (TX6 a).2.1 ≠ (TX6 b).2.1 := by decide +kernel
theorem tyX6_ok : ∀ k, k < 6 → parseFieldDescriptor (TX6 k).2.2.1 = some (tyX6 k) := by decide +kernel
abbrev cX6_init : ByteArray := prog_1_method_1_code
def yX6_init : MethodName := ⟨RX6, "<init>", "()V"⟩
abbrev cX6_thermometer : ByteArray := prog_1_method_2_code
def yX6_thermometer : MethodName := ⟨RX6, "thermometer", "(IIII)I"⟩
abbrev cX6_hour : ByteArray := prog_1_method_3_code
def yX6_hour : MethodName := ⟨RX6, "hour", "(I)I"⟩
abbrev cX6_hours : ByteArray := prog_1_method_4_code
def yX6_hours : MethodName := ⟨RX6, "hours", "(II)I"⟩
abbrev cX6_period : ByteArray := prog_1_method_5_code
def yX6_period : MethodName := ⟨RX6, "period", "(II)I"⟩
abbrev cX6_calibrate : ByteArray := prog_1_method_6_code
def yX6_calibrate : MethodName := ⟨RX6, "calibrate", "(I)I"⟩
abbrev cX6_knock : ByteArray := prog_1_method_7_code
def yX6_knock : MethodName := ⟨RX6, "knock", "(II)I"⟩
abbrev cX6_set : ByteArray := prog_1_method_8_code
def yX6_set : MethodName := ⟨RX6, "set", "(II)I"⟩
abbrev cX6_ofThermometer : ByteArray := prog_1_method_16_code
def yX6_ofThermometer : MethodName := ⟨RX6, "ofThermometer", "(II)I"⟩
abbrev cX6_reading : ByteArray := prog_1_method_17_code
def yX6_reading : MethodName := ⟨RX6, "reading", "(III)I"⟩
abbrev cX6_row : ByteArray := prog_1_method_18_code
def yX6_row : MethodName := ⟨RX6, "row", "(II)I"⟩
abbrev cX6_count : ByteArray := prog_1_method_19_code
def yX6_count : MethodName := ⟨RX6, "count", "(I)I"⟩
abbrev cX6_ranked : ByteArray := prog_1_method_20_code
def yX6_ranked : MethodName := ⟨RX6, "ranked", "(II)I"⟩
abbrev cX6_between : ByteArray := prog_1_method_21_code
def yX6_between : MethodName := ⟨RX6, "between", "(II)I"⟩
abbrev cX6_ifLag : ByteArray := prog_1_method_22_code
def yX6_ifLag : MethodName := ⟨RX6, "ifLag", "(II)I"⟩
abbrev cX6_bestLag : ByteArray := prog_1_method_23_code
def yX6_bestLag : MethodName := ⟨RX6, "bestLag", "(I)I"⟩
abbrev cX6_ifStill : ByteArray := prog_1_method_24_code
def yX6_ifStill : MethodName := ⟨RX6, "ifStill", "(II)I"⟩
abbrev cX6_stillIn : ByteArray := prog_1_method_25_code
def yX6_stillIn : MethodName := ⟨RX6, "stillIn", "(I)I"⟩
abbrev cX6_meanError : ByteArray := prog_1_method_26_code
def yX6_meanError : MethodName := ⟨RX6, "meanError", "()D"⟩
abbrev cX6_checkRow : ByteArray := prog_1_method_27_code
def yX6_checkRow : MethodName := ⟨RX6, "checkRow", "(I)V"⟩
abbrev cX6_checkRange : ByteArray := prog_1_method_28_code
def yX6_checkRange : MethodName := ⟨RX6, "checkRange", "(III)V"⟩
abbrev cX6_checkNotNegative : ByteArray := prog_1_method_29_code
def yX6_checkNotNegative : MethodName := ⟨RX6, "checkNotNegative", "(I)V"⟩
abbrev cX6_checkThermometer : ByteArray := prog_1_method_30_code
def yX6_checkThermometer : MethodName := ⟨RX6, "checkThermometer", "(I)V"⟩
abbrev cX6_checkHoursLeft : ByteArray := prog_1_method_31_code
def yX6_checkHoursLeft : MethodName := ⟨RX6, "checkHoursLeft", "(I)V"⟩
abbrev cX6_quotient : ByteArray := prog_1_method_34_code
def yX6_quotient : MethodName := ⟨RX6, "quotient", "(II)I"⟩
abbrev cX6_remainder : ByteArray := prog_1_method_35_code
def yX6_remainder : MethodName := ⟨RX6, "remainder", "(II)I"⟩
abbrev cX6_entry : ByteArray := prog_1_method_36_code
def yX6_entry : MethodName := ⟨RX6, "entry", "([II)I"⟩
abbrev cX6_copyInto : ByteArray := prog_1_method_37_code
def yX6_copyInto : MethodName := ⟨RX6, "copyInto", "([I[I)V"⟩
abbrev cX6_putFirst : ByteArray := prog_1_method_38_code
def yX6_putFirst : MethodName := ⟨RX6, "putFirst", "([II)V"⟩
def RX7 : String := "LateThermometersModel"
def TX7 : u_T := fun k => match k with
  | _ => ("", "", "", false)
def tyX7 : Nat → FieldType := fun k => match k with
  | _ => .int
theorem nmX7 : ∀ a, a < 0 → ∀ b, b < 0 → a ≠ b → (TX7 a).2.1 ≠ (TX7 b).2.1 := by decide +kernel
theorem tyX7_ok : ∀ k, k < 0 → parseFieldDescriptor (TX7 k).2.2.1 = some (tyX7 k) := by decide +kernel
def RJ6 : String := "java/lang/Integer"
abbrev cJ6_bitCount_0f7a4 : ByteArray := prog_14_method_49_code
def yJ6_bitCount_0f7a4 : MethodName := ⟨RJ6, "bitCount", "(I)I"⟩
def RJ9 : String := "java/lang/Math"
abbrev cJ9_abs_0f7a4 : ByteArray := prog_15_method_59_code
def yJ9_abs_0f7a4 : MethodName := ⟨RJ9, "abs", "(I)I"⟩
abbrev cJ9_max_7cf53 : ByteArray := prog_15_method_65_code
def yJ9_max_7cf53 : MethodName := ⟨RJ9, "max", "(II)I"⟩
abbrev cJ9_min_7cf53 : ByteArray := prog_15_method_69_code
def yJ9_min_7cf53 : MethodName := ⟨RJ9, "min", "(II)I"⟩
def RJ0 : String := "java/lang/String"
def RL : String := "LateThermometersLaw"
abbrev cL_cell : ByteArray := method_2_code
def yL_cell : MethodName := ⟨RL, "cell", "([II)I"⟩
abbrev cL_low : ByteArray := method_3_code
def yL_low : MethodName := ⟨RL, "low", "(II)I"⟩
abbrev cL_mended : ByteArray := method_4_code
def yL_mended : MethodName := ⟨RL, "mended", "([I[I[III)I"⟩
abbrev cL_own : ByteArray := method_5_code
def yL_own : MethodName := ⟨RL, "own", "([I[I[II)I"⟩
abbrev cL_asked : ByteArray := method_6_code
def yL_asked : MethodName := ⟨RL, "asked", "([II)Z"⟩
abbrev cL_middle : ByteArray := method_7_code
def yL_middle : MethodName := ⟨RL, "middle", "([I[I[I[II)I"⟩
abbrev cL_mean : ByteArray := method_8_code
def yL_mean : MethodName := ⟨RL, "mean", "([I[I[I[I)I"⟩
abbrev cL_size : ByteArray := method_9_code
def yL_size : MethodName := ⟨RL, "size", "(I)I"⟩
abbrev cL_change : ByteArray := method_10_code
def yL_change : MethodName := ⟨RL, "change", "([I[II)I"⟩
abbrev cL_hour : ByteArray := method_11_code
def yL_hour : MethodName := ⟨RL, "hour", "([I[I[I[II)I"⟩
abbrev cL_areThermometers : ByteArray := method_12_code
def yL_areThermometers : MethodName := ⟨RL, "areThermometers", "(LLateThermometers;[I[I[I[I)Z"⟩
abbrev cL_areNumbers : ByteArray := method_13_code
def yL_areNumbers : MethodName := ⟨RL, "areNumbers", "(LLateThermometers;[I[I[I[I)Z"⟩
abbrev cL_areRanked : ByteArray := method_14_code
def yL_areRanked : MethodName := ⟨RL, "areRanked", "(LLateThermometers;[I[I[I[IIII)Z"⟩
abbrev cL_copy : ByteArray := method_15_code
def yL_copy : MethodName := ⟨RL, "copy", "([I[I)V"⟩
abbrev cL_would : ByteArray := method_16_code
def yL_would : MethodName := ⟨RL, "would", "(LLateThermometers;[I[I[I[II)Z"⟩
abbrev cL_wouldOne : ByteArray := method_17_code
def yL_wouldOne : MethodName := ⟨RL, "wouldOne", "(LLateThermometers;[I[I[I[II)Z"⟩
abbrev cL_adds : ByteArray := method_18_code
def yL_adds : MethodName := ⟨RL, "adds", "(LLateThermometers;[I[II)Z"⟩
abbrev cL_acts : ByteArray := method_19_code
def yL_acts : MethodName := ⟨RL, "acts", "(LLateThermometers;[I[I[I[III)Z"⟩
abbrev cL_law : ByteArray := code
def yL_law : MethodName := ⟨RL, "law", "([I)Z"⟩
end
section
theorem dX0_init_0 : decode cX0_init 0 = .ok (.aload_n 0, 1) := by decide +kernel
theorem dX0_init_1 : decode cX0_init 1 = .ok (.invokespecial 3, 3) := by decide +kernel
theorem dX0_init_4 : decode cX0_init 4 = .ok (.aload_n 0, 1) := by decide +kernel
theorem dX0_init_5 : decode cX0_init 5 = .ok (.bipush 10, 2) := by decide +kernel
theorem dX0_init_7 : decode cX0_init 7 = .ok (.newarray .int, 2) := by decide +kernel
theorem dX0_init_9 : decode cX0_init 9 = .ok (.putfield 9, 3) := by decide +kernel
theorem dX0_init_12 : decode cX0_init 12 = .ok (.return_, 1) := by decide +kernel
theorem dX0_clear_0 : decode cX0_clear 0 = .ok (.aload_n 0, 1) := by decide +kernel
theorem dX0_clear_1 : decode cX0_clear 1 = .ok (.iconst 0, 1) := by decide +kernel
theorem dX0_clear_2 : decode cX0_clear 2 = .ok (.putfield 15, 3) := by decide +kernel
theorem dX0_clear_5 : decode cX0_clear 5 = .ok (.return_, 1) := by decide +kernel
theorem dX0_insert_0 : decode cX0_insert 0 = .ok (.aload_n 0, 1) := by decide +kernel
theorem dX0_insert_1 : decode cX0_insert 1 = .ok (.getfield 15, 3) := by decide +kernel
theorem dX0_insert_4 : decode cX0_insert 4 = .ok (.aload_n 0, 1) := by decide +kernel
theorem dX0_insert_5 : decode cX0_insert 5 = .ok (.getfield 9, 3) := by decide +kernel
theorem dX0_insert_8 : decode cX0_insert 8 = .ok (.arraylength, 1) := by decide +kernel
theorem dX0_insert_9 : decode cX0_insert 9 = .ok (.if_icmp .lt 4, 3) := by decide +kernel
theorem dX0_insert_12 : decode cX0_insert 12 = .ok (.return_, 1) := by decide +kernel
theorem dX0_insert_13 : decode cX0_insert 13 = .ok (.aload_n 0, 1) := by decide +kernel
theorem dX0_insert_14 : decode cX0_insert 14 = .ok (.getfield 15, 3) := by decide +kernel
theorem dX0_insert_17 : decode cX0_insert 17 = .ok (.istore_n 2, 1) := by decide +kernel
theorem dX0_insert_18 : decode cX0_insert 18 = .ok (.iload_n 2, 1) := by decide +kernel
theorem dX0_insert_19 : decode cX0_insert 19 = .ok (.ifCond .le 35, 3) := by decide +kernel
theorem dX0_insert_22 : decode cX0_insert 22 = .ok (.aload_n 0, 1) := by decide +kernel
theorem dX0_insert_23 : decode cX0_insert 23 = .ok (.getfield 9, 3) := by decide +kernel
theorem dX0_insert_26 : decode cX0_insert 26 = .ok (.iload_n 2, 1) := by decide +kernel
theorem dX0_insert_27 : decode cX0_insert 27 = .ok (.iconst 1, 1) := by decide +kernel
theorem dX0_insert_28 : decode cX0_insert 28 = .ok (.isub, 1) := by decide +kernel
theorem dX0_insert_29 : decode cX0_insert 29 = .ok (.iaload, 1) := by decide +kernel
theorem dX0_insert_30 : decode cX0_insert 30 = .ok (.iload_n 1, 1) := by decide +kernel
theorem dX0_insert_31 : decode cX0_insert 31 = .ok (.if_icmp .le 23, 3) := by decide +kernel
theorem dX0_insert_34 : decode cX0_insert 34 = .ok (.aload_n 0, 1) := by decide +kernel
theorem dX0_insert_35 : decode cX0_insert 35 = .ok (.getfield 9, 3) := by decide +kernel
theorem dX0_insert_38 : decode cX0_insert 38 = .ok (.iload_n 2, 1) := by decide +kernel
theorem dX0_insert_39 : decode cX0_insert 39 = .ok (.aload_n 0, 1) := by decide +kernel
theorem dX0_insert_40 : decode cX0_insert 40 = .ok (.getfield 9, 3) := by decide +kernel
theorem dX0_insert_43 : decode cX0_insert 43 = .ok (.iload_n 2, 1) := by decide +kernel
theorem dX0_insert_44 : decode cX0_insert 44 = .ok (.iconst 1, 1) := by decide +kernel
theorem dX0_insert_45 : decode cX0_insert 45 = .ok (.isub, 1) := by decide +kernel
theorem dX0_insert_46 : decode cX0_insert 46 = .ok (.iaload, 1) := by decide +kernel
theorem dX0_insert_47 : decode cX0_insert 47 = .ok (.iastore, 1) := by decide +kernel
theorem dX0_insert_48 : decode cX0_insert 48 = .ok (.iinc 2 (-1), 3) := by decide +kernel
theorem dX0_insert_51 : decode cX0_insert 51 = .ok (.goto (-33), 3) := by decide +kernel
theorem dX0_insert_54 : decode cX0_insert 54 = .ok (.aload_n 0, 1) := by decide +kernel
theorem dX0_insert_55 : decode cX0_insert 55 = .ok (.getfield 9, 3) := by decide +kernel
theorem dX0_insert_58 : decode cX0_insert 58 = .ok (.iload_n 2, 1) := by decide +kernel
theorem dX0_insert_59 : decode cX0_insert 59 = .ok (.iload_n 1, 1) := by decide +kernel
theorem dX0_insert_60 : decode cX0_insert 60 = .ok (.iastore, 1) := by decide +kernel
theorem dX0_insert_61 : decode cX0_insert 61 = .ok (.aload_n 0, 1) := by decide +kernel
theorem dX0_insert_62 : decode cX0_insert 62 = .ok (.dup, 1) := by decide +kernel
theorem dX0_insert_63 : decode cX0_insert 63 = .ok (.getfield 15, 3) := by decide +kernel
theorem dX0_insert_66 : decode cX0_insert 66 = .ok (.iconst 1, 1) := by decide +kernel
theorem dX0_insert_67 : decode cX0_insert 67 = .ok (.iadd, 1) := by decide +kernel
theorem dX0_insert_68 : decode cX0_insert 68 = .ok (.putfield 15, 3) := by decide +kernel
theorem dX0_insert_71 : decode cX0_insert 71 = .ok (.return_, 1) := by decide +kernel
theorem dX0_middle_0 : decode cX0_middle 0 = .ok (.aload_n 0, 1) := by decide +kernel
theorem dX0_middle_1 : decode cX0_middle 1 = .ok (.getfield 15, 3) := by decide +kernel
theorem dX0_middle_4 : decode cX0_middle 4 = .ok (.iconst 1, 1) := by decide +kernel
theorem dX0_middle_5 : decode cX0_middle 5 = .ok (.isub, 1) := by decide +kernel
theorem dX0_middle_6 : decode cX0_middle 6 = .ok (.iconst 2, 1) := by decide +kernel
theorem dX0_middle_7 : decode cX0_middle 7 = .ok (.idiv, 1) := by decide +kernel
theorem dX0_middle_8 : decode cX0_middle 8 = .ok (.istore_n 1, 1) := by decide +kernel
theorem dX0_middle_9 : decode cX0_middle 9 = .ok (.aload_n 0, 1) := by decide +kernel
theorem dX0_middle_10 : decode cX0_middle 10 = .ok (.getfield 15, 3) := by decide +kernel
theorem dX0_middle_13 : decode cX0_middle 13 = .ok (.ifCond .le 21, 3) := by decide +kernel
theorem dX0_middle_16 : decode cX0_middle 16 = .ok (.iload_n 1, 1) := by decide +kernel
theorem dX0_middle_17 : decode cX0_middle 17 = .ok (.aload_n 0, 1) := by decide +kernel
theorem dX0_middle_18 : decode cX0_middle 18 = .ok (.getfield 9, 3) := by decide +kernel
theorem dX0_middle_21 : decode cX0_middle 21 = .ok (.arraylength, 1) := by decide +kernel
theorem dX0_middle_22 : decode cX0_middle 22 = .ok (.if_icmp .ge 12, 3) := by decide +kernel
theorem dX0_middle_25 : decode cX0_middle 25 = .ok (.aload_n 0, 1) := by decide +kernel
theorem dX0_middle_26 : decode cX0_middle 26 = .ok (.getfield 9, 3) := by decide +kernel
theorem dX0_middle_29 : decode cX0_middle 29 = .ok (.iload_n 1, 1) := by decide +kernel
theorem dX0_middle_30 : decode cX0_middle 30 = .ok (.iaload, 1) := by decide +kernel
theorem dX0_middle_31 : decode cX0_middle 31 = .ok (.goto 5, 3) := by decide +kernel
theorem dX0_middle_34 : decode cX0_middle 34 = .ok (.ldc 19, 2) := by decide +kernel
theorem dX0_middle_36 : decode cX0_middle 36 = .ok (.ireturn, 1) := by decide +kernel
theorem dX1_init_0 : decode cX1_init 0 = .ok (.aload_n 0, 1) := by decide +kernel
theorem dX1_init_1 : decode cX1_init 1 = .ok (.invokespecial 3, 3) := by decide +kernel
theorem dX1_init_4 : decode cX1_init 4 = .ok (.aload_n 0, 1) := by decide +kernel
theorem dX1_init_5 : decode cX1_init 5 = .ok (.bipush 6, 2) := by decide +kernel
theorem dX1_init_7 : decode cX1_init 7 = .ok (.anewarray 9, 3) := by decide +kernel
theorem dX1_init_10 : decode cX1_init 10 = .ok (.putfield 11, 3) := by decide +kernel
theorem dX1_init_13 : decode cX1_init 13 = .ok (.aload_n 0, 1) := by decide +kernel
theorem dX1_init_14 : decode cX1_init 14 = .ok (.new 9, 3) := by decide +kernel
theorem dX1_init_17 : decode cX1_init 17 = .ok (.dup, 1) := by decide +kernel
theorem dX1_init_18 : decode cX1_init 18 = .ok (.invokespecial 17, 3) := by decide +kernel
theorem dX1_init_21 : decode cX1_init 21 = .ok (.putfield 18, 3) := by decide +kernel
theorem dX1_init_24 : decode cX1_init 24 = .ok (.iconst 0, 1) := by decide +kernel
theorem dX1_init_25 : decode cX1_init 25 = .ok (.istore_n 1, 1) := by decide +kernel
theorem dX1_init_26 : decode cX1_init 26 = .ok (.iload_n 1, 1) := by decide +kernel
theorem dX1_init_27 : decode cX1_init 27 = .ok (.aload_n 0, 1) := by decide +kernel
theorem dX1_init_28 : decode cX1_init 28 = .ok (.getfield 11, 3) := by decide +kernel
theorem dX1_init_31 : decode cX1_init 31 = .ok (.arraylength, 1) := by decide +kernel
theorem dX1_init_32 : decode cX1_init 32 = .ok (.if_icmp .ge 22, 3) := by decide +kernel
theorem dX1_init_35 : decode cX1_init 35 = .ok (.aload_n 0, 1) := by decide +kernel
theorem dX1_init_36 : decode cX1_init 36 = .ok (.getfield 11, 3) := by decide +kernel
theorem dX1_init_39 : decode cX1_init 39 = .ok (.iload_n 1, 1) := by decide +kernel
theorem dX1_init_40 : decode cX1_init 40 = .ok (.new 9, 3) := by decide +kernel
theorem dX1_init_43 : decode cX1_init 43 = .ok (.dup, 1) := by decide +kernel
theorem dX1_init_44 : decode cX1_init 44 = .ok (.invokespecial 17, 3) := by decide +kernel
theorem dX1_init_47 : decode cX1_init 47 = .ok (.aastore, 1) := by decide +kernel
theorem dX1_init_48 : decode cX1_init 48 = .ok (.iinc 1 1, 3) := by decide +kernel
theorem dX1_init_51 : decode cX1_init 51 = .ok (.goto (-25), 3) := by decide +kernel
theorem dX1_init_54 : decode cX1_init 54 = .ok (.return_, 1) := by decide +kernel
theorem dX1_save_0 : decode cX1_save 0 = .ok (.aload_n 0, 1) := by decide +kernel
theorem dX1_save_1 : decode cX1_save 1 = .ok (.aload_n 0, 1) := by decide +kernel
theorem dX1_save_2 : decode cX1_save 2 = .ok (.getfield 22, 3) := by decide +kernel
theorem dX1_save_5 : decode cX1_save 5 = .ok (.invokevirtual 26, 3) := by decide +kernel
theorem dX1_save_8 : decode cX1_save 8 = .ok (.aload_n 1, 1) := by decide +kernel
theorem dX1_save_9 : decode cX1_save 9 = .ok (.invokevirtual 30, 3) := by decide +kernel
theorem dX1_save_12 : decode cX1_save 12 = .ok (.aload_n 0, 1) := by decide +kernel
theorem dX1_save_13 : decode cX1_save 13 = .ok (.aload_n 0, 1) := by decide +kernel
theorem dX1_save_14 : decode cX1_save 14 = .ok (.getfield 22, 3) := by decide +kernel
theorem dX1_save_17 : decode cX1_save 17 = .ok (.iconst 1, 1) := by decide +kernel
theorem dX1_save_18 : decode cX1_save 18 = .ok (.iadd, 1) := by decide +kernel
theorem dX1_save_19 : decode cX1_save 19 = .ok (.bipush 6, 2) := by decide +kernel
theorem dX1_save_21 : decode cX1_save 21 = .ok (.irem, 1) := by decide +kernel
theorem dX1_save_22 : decode cX1_save 22 = .ok (.putfield 22, 3) := by decide +kernel
theorem dX1_save_25 : decode cX1_save 25 = .ok (.aload_n 0, 1) := by decide +kernel
theorem dX1_save_26 : decode cX1_save 26 = .ok (.aload_n 0, 1) := by decide +kernel
theorem dX1_save_27 : decode cX1_save 27 = .ok (.getfield 34, 3) := by decide +kernel
theorem dX1_save_30 : decode cX1_save 30 = .ok (.iconst 1, 1) := by decide +kernel
theorem dX1_save_31 : decode cX1_save 31 = .ok (.iadd, 1) := by decide +kernel
theorem dX1_save_32 : decode cX1_save 32 = .ok (.bipush 6, 2) := by decide +kernel
theorem dX1_save_34 : decode cX1_save 34 = .ok (.invokestatic 37, 3) := by decide +kernel
theorem dX1_save_37 : decode cX1_save 37 = .ok (.putfield 34, 3) := by decide +kernel
theorem dX1_save_40 : decode cX1_save 40 = .ok (.return_, 1) := by decide +kernel
theorem dX1_stateAt_0 : decode cX1_stateAt 0 = .ok (.iload_n 1, 1) := by decide +kernel
theorem dX1_stateAt_1 : decode cX1_stateAt 1 = .ok (.ifCond .lt 12, 3) := by decide +kernel
theorem dX1_stateAt_4 : decode cX1_stateAt 4 = .ok (.iload_n 1, 1) := by decide +kernel
theorem dX1_stateAt_5 : decode cX1_stateAt 5 = .ok (.aload_n 0, 1) := by decide +kernel
theorem dX1_stateAt_6 : decode cX1_stateAt 6 = .ok (.getfield 11, 3) := by decide +kernel
theorem dX1_stateAt_9 : decode cX1_stateAt 9 = .ok (.arraylength, 1) := by decide +kernel
theorem dX1_stateAt_10 : decode cX1_stateAt 10 = .ok (.if_icmp .lt 8, 3) := by decide +kernel
theorem dX1_stateAt_13 : decode cX1_stateAt 13 = .ok (.aload_n 0, 1) := by decide +kernel
theorem dX1_stateAt_14 : decode cX1_stateAt 14 = .ok (.getfield 18, 3) := by decide +kernel
theorem dX1_stateAt_17 : decode cX1_stateAt 17 = .ok (.areturn, 1) := by decide +kernel
theorem dX1_stateAt_18 : decode cX1_stateAt 18 = .ok (.aload_n 0, 1) := by decide +kernel
theorem dX1_stateAt_19 : decode cX1_stateAt 19 = .ok (.getfield 11, 3) := by decide +kernel
theorem dX1_stateAt_22 : decode cX1_stateAt 22 = .ok (.iload_n 1, 1) := by decide +kernel
theorem dX1_stateAt_23 : decode cX1_stateAt 23 = .ok (.aaload, 1) := by decide +kernel
theorem dX1_stateAt_24 : decode cX1_stateAt 24 = .ok (.astore_n 2, 1) := by decide +kernel
theorem dX1_stateAt_25 : decode cX1_stateAt 25 = .ok (.aload_n 2, 1) := by decide +kernel
theorem dX1_stateAt_26 : decode cX1_stateAt 26 = .ok (.ifnonnull 10, 3) := by decide +kernel
theorem dX1_stateAt_29 : decode cX1_stateAt 29 = .ok (.aload_n 0, 1) := by decide +kernel
theorem dX1_stateAt_30 : decode cX1_stateAt 30 = .ok (.getfield 18, 3) := by decide +kernel
theorem dX1_stateAt_33 : decode cX1_stateAt 33 = .ok (.goto 4, 3) := by decide +kernel
theorem dX1_stateAt_36 : decode cX1_stateAt 36 = .ok (.aload_n 2, 1) := by decide +kernel
theorem dX1_stateAt_37 : decode cX1_stateAt 37 = .ok (.areturn, 1) := by decide +kernel
theorem dX2_init_0 : decode cX2_init 0 = .ok (.aload_n 0, 1) := by decide +kernel
theorem dX2_init_1 : decode cX2_init 1 = .ok (.invokespecial 3, 3) := by decide +kernel
theorem dX2_init_4 : decode cX2_init 4 = .ok (.aload_n 0, 1) := by decide +kernel
theorem dX2_init_5 : decode cX2_init 5 = .ok (.bipush 60, 2) := by decide +kernel
theorem dX2_init_7 : decode cX2_init 7 = .ok (.newarray .char, 2) := by decide +kernel
theorem dX2_init_9 : decode cX2_init 9 = .ok (.putfield 9, 3) := by decide +kernel
theorem dX2_init_12 : decode cX2_init 12 = .ok (.return_, 1) := by decide +kernel
theorem dX3_init_0 : decode cX3_init 0 = .ok (.aload_n 0, 1) := by decide +kernel
theorem dX3_init_1 : decode cX3_init 1 = .ok (.invokespecial 3, 3) := by decide +kernel
theorem dX3_init_4 : decode cX3_init 4 = .ok (.aload_n 0, 1) := by decide +kernel
theorem dX3_init_5 : decode cX3_init 5 = .ok (.bipush 10, 2) := by decide +kernel
theorem dX3_init_7 : decode cX3_init 7 = .ok (.anewarray 9, 3) := by decide +kernel
theorem dX3_init_10 : decode cX3_init 10 = .ok (.putfield 11, 3) := by decide +kernel
theorem dX3_init_13 : decode cX3_init 13 = .ok (.aload_n 0, 1) := by decide +kernel
theorem dX3_init_14 : decode cX3_init 14 = .ok (.new 9, 3) := by decide +kernel
theorem dX3_init_17 : decode cX3_init 17 = .ok (.dup, 1) := by decide +kernel
theorem dX3_init_18 : decode cX3_init 18 = .ok (.invokespecial 17, 3) := by decide +kernel
theorem dX3_init_21 : decode cX3_init 21 = .ok (.putfield 18, 3) := by decide +kernel
theorem dX3_init_24 : decode cX3_init 24 = .ok (.aload_n 0, 1) := by decide +kernel
theorem dX3_init_25 : decode cX3_init 25 = .ok (.iconst 4, 1) := by decide +kernel
theorem dX3_init_26 : decode cX3_init 26 = .ok (.newarray .int, 2) := by decide +kernel
theorem dX3_init_28 : decode cX3_init 28 = .ok (.putfield 22, 3) := by decide +kernel
theorem dX3_init_31 : decode cX3_init 31 = .ok (.aload_n 0, 1) := by decide +kernel
theorem dX3_init_32 : decode cX3_init 32 = .ok (.iconst 4, 1) := by decide +kernel
theorem dX3_init_33 : decode cX3_init 33 = .ok (.newarray .int, 2) := by decide +kernel
theorem dX3_init_35 : decode cX3_init 35 = .ok (.putfield 26, 3) := by decide +kernel
theorem dX3_init_38 : decode cX3_init 38 = .ok (.aload_n 0, 1) := by decide +kernel
theorem dX3_init_39 : decode cX3_init 39 = .ok (.new 29, 3) := by decide +kernel
theorem dX3_init_42 : decode cX3_init 42 = .ok (.dup, 1) := by decide +kernel
theorem dX3_init_43 : decode cX3_init 43 = .ok (.invokespecial 31, 3) := by decide +kernel
theorem dX3_init_46 : decode cX3_init 46 = .ok (.putfield 32, 3) := by decide +kernel
theorem dX3_init_49 : decode cX3_init 49 = .ok (.aload_n 0, 1) := by decide +kernel
theorem dX3_init_50 : decode cX3_init 50 = .ok (.ldc 36, 2) := by decide +kernel
theorem dX3_init_52 : decode cX3_init 52 = .ok (.putfield 37, 3) := by decide +kernel
theorem dX3_init_55 : decode cX3_init 55 = .ok (.aload_n 0, 1) := by decide +kernel
theorem dX3_init_56 : decode cX3_init 56 = .ok (.sipush 1000, 3) := by decide +kernel
theorem dX3_init_59 : decode cX3_init 59 = .ok (.putfield 41, 3) := by decide +kernel
theorem dX3_init_62 : decode cX3_init 62 = .ok (.aload_n 0, 1) := by decide +kernel
theorem dX3_init_63 : decode cX3_init 63 = .ok (.sipush 300, 3) := by decide +kernel
theorem dX3_init_66 : decode cX3_init 66 = .ok (.putfield 44, 3) := by decide +kernel
theorem dX3_init_69 : decode cX3_init 69 = .ok (.aload_n 0, 1) := by decide +kernel
theorem dX3_init_70 : decode cX3_init 70 = .ok (.iconst 2, 1) := by decide +kernel
theorem dX3_init_71 : decode cX3_init 71 = .ok (.putfield 47, 3) := by decide +kernel
theorem dX3_init_74 : decode cX3_init 74 = .ok (.iconst 0, 1) := by decide +kernel
theorem dX3_init_75 : decode cX3_init 75 = .ok (.istore_n 1, 1) := by decide +kernel
theorem dX3_init_76 : decode cX3_init 76 = .ok (.iload_n 1, 1) := by decide +kernel
theorem dX3_init_77 : decode cX3_init 77 = .ok (.aload_n 0, 1) := by decide +kernel
theorem dX3_init_78 : decode cX3_init 78 = .ok (.getfield 11, 3) := by decide +kernel
theorem dX3_init_81 : decode cX3_init 81 = .ok (.arraylength, 1) := by decide +kernel
theorem dX3_init_82 : decode cX3_init 82 = .ok (.if_icmp .ge 22, 3) := by decide +kernel
theorem dX3_init_85 : decode cX3_init 85 = .ok (.aload_n 0, 1) := by decide +kernel
theorem dX3_init_86 : decode cX3_init 86 = .ok (.getfield 11, 3) := by decide +kernel
theorem dX3_init_89 : decode cX3_init 89 = .ok (.iload_n 1, 1) := by decide +kernel
theorem dX3_init_90 : decode cX3_init 90 = .ok (.new 9, 3) := by decide +kernel
theorem dX3_init_93 : decode cX3_init 93 = .ok (.dup, 1) := by decide +kernel
theorem dX3_init_94 : decode cX3_init 94 = .ok (.invokespecial 17, 3) := by decide +kernel
theorem dX3_init_97 : decode cX3_init 97 = .ok (.aastore, 1) := by decide +kernel
theorem dX3_init_98 : decode cX3_init 98 = .ok (.iinc 1 1, 3) := by decide +kernel
theorem dX3_init_101 : decode cX3_init 101 = .ok (.goto (-25), 3) := by decide +kernel
theorem dX3_init_104 : decode cX3_init 104 = .ok (.iconst 0, 1) := by decide +kernel
theorem dX3_init_105 : decode cX3_init 105 = .ok (.istore_n 1, 1) := by decide +kernel
theorem dX3_init_106 : decode cX3_init 106 = .ok (.iload_n 1, 1) := by decide +kernel
theorem dX3_init_107 : decode cX3_init 107 = .ok (.aload_n 0, 1) := by decide +kernel
theorem dX3_init_108 : decode cX3_init 108 = .ok (.getfield 22, 3) := by decide +kernel
theorem dX3_init_111 : decode cX3_init 111 = .ok (.arraylength, 1) := by decide +kernel
theorem dX3_init_112 : decode cX3_init 112 = .ok (.if_icmp .ge 16, 3) := by decide +kernel
theorem dX3_init_115 : decode cX3_init 115 = .ok (.aload_n 0, 1) := by decide +kernel
theorem dX3_init_116 : decode cX3_init 116 = .ok (.getfield 22, 3) := by decide +kernel
theorem dX3_init_119 : decode cX3_init 119 = .ok (.iload_n 1, 1) := by decide +kernel
theorem dX3_init_120 : decode cX3_init 120 = .ok (.iconst 1, 1) := by decide +kernel
theorem dX3_init_121 : decode cX3_init 121 = .ok (.iastore, 1) := by decide +kernel
theorem dX3_init_122 : decode cX3_init 122 = .ok (.iinc 1 1, 3) := by decide +kernel
theorem dX3_init_125 : decode cX3_init 125 = .ok (.goto (-19), 3) := by decide +kernel
theorem dX3_init_128 : decode cX3_init 128 = .ok (.return_, 1) := by decide +kernel
theorem dX3_copyFrom_0 : decode cX3_copyFrom 0 = .ok (.iconst 0, 1) := by decide +kernel
theorem dX3_copyFrom_1 : decode cX3_copyFrom 1 = .ok (.istore_n 2, 1) := by decide +kernel
theorem dX3_copyFrom_2 : decode cX3_copyFrom 2 = .ok (.iload_n 2, 1) := by decide +kernel
theorem dX3_copyFrom_3 : decode cX3_copyFrom 3 = .ok (.aload_n 1, 1) := by decide +kernel
theorem dX3_copyFrom_4 : decode cX3_copyFrom 4 = .ok (.getfield 50, 3) := by decide +kernel
theorem dX3_copyFrom_7 : decode cX3_copyFrom 7 = .ok (.if_icmp .ge 22, 3) := by decide +kernel
theorem dX3_copyFrom_10 : decode cX3_copyFrom 10 = .ok (.aload_n 0, 1) := by decide +kernel
theorem dX3_copyFrom_11 : decode cX3_copyFrom 11 = .ok (.iload_n 2, 1) := by decide +kernel
theorem dX3_copyFrom_12 : decode cX3_copyFrom 12 = .ok (.invokevirtual 53, 3) := by decide +kernel
theorem dX3_copyFrom_15 : decode cX3_copyFrom 15 = .ok (.aload_n 1, 1) := by decide +kernel
theorem dX3_copyFrom_16 : decode cX3_copyFrom 16 = .ok (.iload_n 2, 1) := by decide +kernel
theorem dX3_copyFrom_17 : decode cX3_copyFrom 17 = .ok (.invokevirtual 53, 3) := by decide +kernel
theorem dX3_copyFrom_20 : decode cX3_copyFrom 20 = .ok (.invokevirtual 57, 3) := by decide +kernel
theorem dX3_copyFrom_23 : decode cX3_copyFrom 23 = .ok (.iinc 2 1, 3) := by decide +kernel
theorem dX3_copyFrom_26 : decode cX3_copyFrom 26 = .ok (.goto (-24), 3) := by decide +kernel
theorem dX3_copyFrom_29 : decode cX3_copyFrom 29 = .ok (.aload_n 0, 1) := by decide +kernel
theorem dX3_copyFrom_30 : decode cX3_copyFrom 30 = .ok (.getfield 22, 3) := by decide +kernel
theorem dX3_copyFrom_33 : decode cX3_copyFrom 33 = .ok (.aload_n 1, 1) := by decide +kernel
theorem dX3_copyFrom_34 : decode cX3_copyFrom 34 = .ok (.getfield 22, 3) := by decide +kernel
theorem dX3_copyFrom_37 : decode cX3_copyFrom 37 = .ok (.invokestatic 61, 3) := by decide +kernel
theorem dX3_copyFrom_40 : decode cX3_copyFrom 40 = .ok (.aload_n 0, 1) := by decide +kernel
theorem dX3_copyFrom_41 : decode cX3_copyFrom 41 = .ok (.getfield 26, 3) := by decide +kernel
theorem dX3_copyFrom_44 : decode cX3_copyFrom 44 = .ok (.aload_n 1, 1) := by decide +kernel
theorem dX3_copyFrom_45 : decode cX3_copyFrom 45 = .ok (.getfield 26, 3) := by decide +kernel
theorem dX3_copyFrom_48 : decode cX3_copyFrom 48 = .ok (.invokestatic 61, 3) := by decide +kernel
theorem dX3_copyFrom_51 : decode cX3_copyFrom 51 = .ok (.aload_n 0, 1) := by decide +kernel
theorem dX3_copyFrom_52 : decode cX3_copyFrom 52 = .ok (.aload_n 1, 1) := by decide +kernel
theorem dX3_copyFrom_53 : decode cX3_copyFrom 53 = .ok (.getfield 37, 3) := by decide +kernel
theorem dX3_copyFrom_56 : decode cX3_copyFrom 56 = .ok (.putfield 37, 3) := by decide +kernel
theorem dX3_copyFrom_59 : decode cX3_copyFrom 59 = .ok (.aload_n 0, 1) := by decide +kernel
theorem dX3_copyFrom_60 : decode cX3_copyFrom 60 = .ok (.aload_n 1, 1) := by decide +kernel
theorem dX3_copyFrom_61 : decode cX3_copyFrom 61 = .ok (.getfield 50, 3) := by decide +kernel
theorem dX3_copyFrom_64 : decode cX3_copyFrom 64 = .ok (.putfield 50, 3) := by decide +kernel
theorem dX3_copyFrom_67 : decode cX3_copyFrom 67 = .ok (.aload_n 0, 1) := by decide +kernel
theorem dX3_copyFrom_68 : decode cX3_copyFrom 68 = .ok (.aload_n 1, 1) := by decide +kernel
theorem dX3_copyFrom_69 : decode cX3_copyFrom 69 = .ok (.getfield 65, 3) := by decide +kernel
theorem dX3_copyFrom_72 : decode cX3_copyFrom 72 = .ok (.putfield 65, 3) := by decide +kernel
theorem dX3_copyFrom_75 : decode cX3_copyFrom 75 = .ok (.aload_n 0, 1) := by decide +kernel
theorem dX3_copyFrom_76 : decode cX3_copyFrom 76 = .ok (.aload_n 1, 1) := by decide +kernel
theorem dX3_copyFrom_77 : decode cX3_copyFrom 77 = .ok (.getfield 41, 3) := by decide +kernel
theorem dX3_copyFrom_80 : decode cX3_copyFrom 80 = .ok (.putfield 41, 3) := by decide +kernel
theorem dX3_copyFrom_83 : decode cX3_copyFrom 83 = .ok (.aload_n 0, 1) := by decide +kernel
theorem dX3_copyFrom_84 : decode cX3_copyFrom 84 = .ok (.aload_n 1, 1) := by decide +kernel
theorem dX3_copyFrom_85 : decode cX3_copyFrom 85 = .ok (.getfield 68, 3) := by decide +kernel
theorem dX3_copyFrom_88 : decode cX3_copyFrom 88 = .ok (.putfield 68, 3) := by decide +kernel
theorem dX3_copyFrom_91 : decode cX3_copyFrom 91 = .ok (.aload_n 0, 1) := by decide +kernel
theorem dX3_copyFrom_92 : decode cX3_copyFrom 92 = .ok (.aload_n 1, 1) := by decide +kernel
theorem dX3_copyFrom_93 : decode cX3_copyFrom 93 = .ok (.getfield 71, 3) := by decide +kernel
theorem dX3_copyFrom_96 : decode cX3_copyFrom 96 = .ok (.putfield 71, 3) := by decide +kernel
theorem dX3_copyFrom_99 : decode cX3_copyFrom 99 = .ok (.aload_n 0, 1) := by decide +kernel
theorem dX3_copyFrom_100 : decode cX3_copyFrom 100 = .ok (.aload_n 1, 1) := by decide +kernel
theorem dX3_copyFrom_101 : decode cX3_copyFrom 101 = .ok (.getfield 44, 3) := by decide +kernel
theorem dX3_copyFrom_104 : decode cX3_copyFrom 104 = .ok (.putfield 44, 3) := by decide +kernel
theorem dX3_copyFrom_107 : decode cX3_copyFrom 107 = .ok (.aload_n 0, 1) := by decide +kernel
theorem dX3_copyFrom_108 : decode cX3_copyFrom 108 = .ok (.aload_n 1, 1) := by decide +kernel
theorem dX3_copyFrom_109 : decode cX3_copyFrom 109 = .ok (.getfield 47, 3) := by decide +kernel
theorem dX3_copyFrom_112 : decode cX3_copyFrom 112 = .ok (.putfield 47, 3) := by decide +kernel
theorem dX3_copyFrom_115 : decode cX3_copyFrom 115 = .ok (.return_, 1) := by decide +kernel
theorem dX3_has_0 : decode cX3_has 0 = .ok (.iload_n 1, 1) := by decide +kernel
theorem dX3_has_1 : decode cX3_has 1 = .ok (.ifCond .lt 15, 3) := by decide +kernel
theorem dX3_has_4 : decode cX3_has 4 = .ok (.iload_n 1, 1) := by decide +kernel
theorem dX3_has_5 : decode cX3_has 5 = .ok (.aload_n 0, 1) := by decide +kernel
theorem dX3_has_6 : decode cX3_has 6 = .ok (.getfield 50, 3) := by decide +kernel
theorem dX3_has_9 : decode cX3_has 9 = .ok (.if_icmp .ge 7, 3) := by decide +kernel
theorem dX3_has_12 : decode cX3_has 12 = .ok (.iconst 1, 1) := by decide +kernel
theorem dX3_has_13 : decode cX3_has 13 = .ok (.goto 4, 3) := by decide +kernel
theorem dX3_has_16 : decode cX3_has 16 = .ok (.iconst 0, 1) := by decide +kernel
theorem dX3_has_17 : decode cX3_has 17 = .ok (.ireturn, 1) := by decide +kernel
theorem dX3_hasRoom_0 : decode cX3_hasRoom 0 = .ok (.aload_n 0, 1) := by decide +kernel
theorem dX3_hasRoom_1 : decode cX3_hasRoom 1 = .ok (.getfield 50, 3) := by decide +kernel
theorem dX3_hasRoom_4 : decode cX3_hasRoom 4 = .ok (.bipush 10, 2) := by decide +kernel
theorem dX3_hasRoom_6 : decode cX3_hasRoom 6 = .ok (.if_icmp .ge 7, 3) := by decide +kernel
theorem dX3_hasRoom_9 : decode cX3_hasRoom 9 = .ok (.iconst 1, 1) := by decide +kernel
theorem dX3_hasRoom_10 : decode cX3_hasRoom 10 = .ok (.goto 4, 3) := by decide +kernel
theorem dX3_hasRoom_13 : decode cX3_hasRoom 13 = .ok (.iconst 0, 1) := by decide +kernel
theorem dX3_hasRoom_14 : decode cX3_hasRoom 14 = .ok (.ireturn, 1) := by decide +kernel
theorem dX3_hasHoursLeft_0 : decode cX3_hasHoursLeft 0 = .ok (.aload_n 0, 1) := by decide +kernel
theorem dX3_hasHoursLeft_1 : decode cX3_hasHoursLeft 1 = .ok (.getfield 65, 3) := by decide +kernel
theorem dX3_hasHoursLeft_4 : decode cX3_hasHoursLeft 4 = .ok (.sipush 9999, 3) := by decide +kernel
theorem dX3_hasHoursLeft_7 : decode cX3_hasHoursLeft 7 = .ok (.iload_n 1, 1) := by decide +kernel
theorem dX3_hasHoursLeft_8 : decode cX3_hasHoursLeft 8 = .ok (.isub, 1) := by decide +kernel
theorem dX3_hasHoursLeft_9 : decode cX3_hasHoursLeft 9 = .ok (.if_icmp .gt 7, 3) := by decide +kernel
theorem dX3_hasHoursLeft_12 : decode cX3_hasHoursLeft 12 = .ok (.iconst 1, 1) := by decide +kernel
theorem dX3_hasHoursLeft_13 : decode cX3_hasHoursLeft 13 = .ok (.goto 4, 3) := by decide +kernel
theorem dX3_hasHoursLeft_16 : decode cX3_hasHoursLeft 16 = .ok (.iconst 0, 1) := by decide +kernel
theorem dX3_hasHoursLeft_17 : decode cX3_hasHoursLeft 17 = .ok (.ireturn, 1) := by decide +kernel
theorem dX3_at_0 : decode cX3_at 0 = .ok (.iload_n 1, 1) := by decide +kernel
theorem dX3_at_1 : decode cX3_at 1 = .ok (.ifCond .lt 12, 3) := by decide +kernel
theorem dX3_at_4 : decode cX3_at 4 = .ok (.iload_n 1, 1) := by decide +kernel
theorem dX3_at_5 : decode cX3_at 5 = .ok (.aload_n 0, 1) := by decide +kernel
theorem dX3_at_6 : decode cX3_at 6 = .ok (.getfield 11, 3) := by decide +kernel
theorem dX3_at_9 : decode cX3_at 9 = .ok (.arraylength, 1) := by decide +kernel
theorem dX3_at_10 : decode cX3_at 10 = .ok (.if_icmp .lt 8, 3) := by decide +kernel
theorem dX3_at_13 : decode cX3_at 13 = .ok (.aload_n 0, 1) := by decide +kernel
theorem dX3_at_14 : decode cX3_at 14 = .ok (.getfield 18, 3) := by decide +kernel
theorem dX3_at_17 : decode cX3_at 17 = .ok (.areturn, 1) := by decide +kernel
theorem dX3_at_18 : decode cX3_at 18 = .ok (.aload_n 0, 1) := by decide +kernel
theorem dX3_at_19 : decode cX3_at 19 = .ok (.getfield 11, 3) := by decide +kernel
theorem dX3_at_22 : decode cX3_at 22 = .ok (.iload_n 1, 1) := by decide +kernel
theorem dX3_at_23 : decode cX3_at 23 = .ok (.aaload, 1) := by decide +kernel
theorem dX3_at_24 : decode cX3_at 24 = .ok (.astore_n 2, 1) := by decide +kernel
theorem dX3_at_25 : decode cX3_at 25 = .ok (.aload_n 2, 1) := by decide +kernel
theorem dX3_at_26 : decode cX3_at 26 = .ok (.ifnonnull 10, 3) := by decide +kernel
theorem dX3_at_29 : decode cX3_at 29 = .ok (.aload_n 0, 1) := by decide +kernel
theorem dX3_at_30 : decode cX3_at 30 = .ok (.getfield 18, 3) := by decide +kernel
theorem dX3_at_33 : decode cX3_at 33 = .ok (.goto 4, 3) := by decide +kernel
theorem dX3_at_36 : decode cX3_at 36 = .ok (.aload_n 2, 1) := by decide +kernel
theorem dX3_at_37 : decode cX3_at 37 = .ok (.areturn, 1) := by decide +kernel
theorem dX3_add_0 : decode cX3_add 0 = .ok (.aload_n 0, 1) := by decide +kernel
theorem dX3_add_1 : decode cX3_add 1 = .ok (.getfield 50, 3) := by decide +kernel
theorem dX3_add_4 : decode cX3_add 4 = .ok (.istore 5, 2) := by decide +kernel
theorem dX3_add_6 : decode cX3_add 6 = .ok (.aload_n 0, 1) := by decide +kernel
theorem dX3_add_7 : decode cX3_add 7 = .ok (.iload 5, 2) := by decide +kernel
theorem dX3_add_9 : decode cX3_add 9 = .ok (.invokevirtual 53, 3) := by decide +kernel
theorem dX3_add_12 : decode cX3_add 12 = .ok (.iload_n 1, 1) := by decide +kernel
theorem dX3_add_13 : decode cX3_add 13 = .ok (.iload_n 2, 1) := by decide +kernel
theorem dX3_add_14 : decode cX3_add 14 = .ok (.iload_n 3, 1) := by decide +kernel
theorem dX3_add_15 : decode cX3_add 15 = .ok (.iload 4, 2) := by decide +kernel
theorem dX3_add_17 : decode cX3_add 17 = .ok (.aload_n 0, 1) := by decide +kernel
theorem dX3_add_18 : decode cX3_add 18 = .ok (.getfield 41, 3) := by decide +kernel
theorem dX3_add_21 : decode cX3_add 21 = .ok (.invokevirtual 74, 3) := by decide +kernel
theorem dX3_add_24 : decode cX3_add 24 = .ok (.aload_n 0, 1) := by decide +kernel
theorem dX3_add_25 : decode cX3_add 25 = .ok (.dup, 1) := by decide +kernel
theorem dX3_add_26 : decode cX3_add 26 = .ok (.getfield 50, 3) := by decide +kernel
theorem dX3_add_29 : decode cX3_add 29 = .ok (.iconst 1, 1) := by decide +kernel
theorem dX3_add_30 : decode cX3_add 30 = .ok (.iadd, 1) := by decide +kernel
theorem dX3_add_31 : decode cX3_add 31 = .ok (.putfield 50, 3) := by decide +kernel
theorem dX3_add_34 : decode cX3_add 34 = .ok (.iload 5, 2) := by decide +kernel
theorem dX3_add_36 : decode cX3_add 36 = .ok (.ireturn, 1) := by decide +kernel
theorem dX3_changePeriod_0 : decode cX3_changePeriod 0 = .ok (.iload_n 1, 1) := by decide +kernel
theorem dX3_changePeriod_1 : decode cX3_changePeriod 1 = .ok (.ifCond .lt 19, 3) := by decide +kernel
theorem dX3_changePeriod_4 : decode cX3_changePeriod 4 = .ok (.iload_n 1, 1) := by decide +kernel
theorem dX3_changePeriod_5 : decode cX3_changePeriod 5 = .ok (.aload_n 0, 1) := by decide +kernel
theorem dX3_changePeriod_6 : decode cX3_changePeriod 6 = .ok (.getfield 22, 3) := by decide +kernel
theorem dX3_changePeriod_9 : decode cX3_changePeriod 9 = .ok (.arraylength, 1) := by decide +kernel
theorem dX3_changePeriod_10 : decode cX3_changePeriod 10 = .ok (.if_icmp .ge 10, 3) := by decide +kernel
theorem dX3_changePeriod_13 : decode cX3_changePeriod 13 = .ok (.aload_n 0, 1) := by decide +kernel
theorem dX3_changePeriod_14 : decode cX3_changePeriod 14 = .ok (.getfield 22, 3) := by decide +kernel
theorem dX3_changePeriod_17 : decode cX3_changePeriod 17 = .ok (.iload_n 1, 1) := by decide +kernel
theorem dX3_changePeriod_18 : decode cX3_changePeriod 18 = .ok (.iload_n 2, 1) := by decide +kernel
theorem dX3_changePeriod_19 : decode cX3_changePeriod 19 = .ok (.iastore, 1) := by decide +kernel
theorem dX3_changePeriod_20 : decode cX3_changePeriod 20 = .ok (.return_, 1) := by decide +kernel
theorem dX3_periodOf_0 : decode cX3_periodOf 0 = .ok (.aload_n 0, 1) := by decide +kernel
theorem dX3_periodOf_1 : decode cX3_periodOf 1 = .ok (.getfield 22, 3) := by decide +kernel
theorem dX3_periodOf_4 : decode cX3_periodOf 4 = .ok (.iload_n 1, 1) := by decide +kernel
theorem dX3_periodOf_5 : decode cX3_periodOf 5 = .ok (.invokestatic 78, 3) := by decide +kernel
theorem dX3_periodOf_8 : decode cX3_periodOf 8 = .ok (.ireturn, 1) := by decide +kernel
theorem dX3_timesReadOf_0 : decode cX3_timesReadOf 0 = .ok (.aload_n 0, 1) := by decide +kernel
theorem dX3_timesReadOf_1 : decode cX3_timesReadOf 1 = .ok (.getfield 26, 3) := by decide +kernel
theorem dX3_timesReadOf_4 : decode cX3_timesReadOf 4 = .ok (.iload_n 1, 1) := by decide +kernel
theorem dX3_timesReadOf_5 : decode cX3_timesReadOf 5 = .ok (.invokestatic 78, 3) := by decide +kernel
theorem dX3_timesReadOf_8 : decode cX3_timesReadOf 8 = .ok (.ireturn, 1) := by decide +kernel
theorem dX3_hoursUntilRead_0 : decode cX3_hoursUntilRead 0 = .ok (.aload_n 0, 1) := by decide +kernel
theorem dX3_hoursUntilRead_1 : decode cX3_hoursUntilRead 1 = .ok (.iload_n 1, 1) := by decide +kernel
theorem dX3_hoursUntilRead_2 : decode cX3_hoursUntilRead 2 = .ok (.invokevirtual 82, 3) := by decide +kernel
theorem dX3_hoursUntilRead_5 : decode cX3_hoursUntilRead 5 = .ok (.aload_n 0, 1) := by decide +kernel
theorem dX3_hoursUntilRead_6 : decode cX3_hoursUntilRead 6 = .ok (.getfield 65, 3) := by decide +kernel
theorem dX3_hoursUntilRead_9 : decode cX3_hoursUntilRead 9 = .ok (.aload_n 0, 1) := by decide +kernel
theorem dX3_hoursUntilRead_10 : decode cX3_hoursUntilRead 10 = .ok (.iload_n 1, 1) := by decide +kernel
theorem dX3_hoursUntilRead_11 : decode cX3_hoursUntilRead 11 = .ok (.invokevirtual 82, 3) := by decide +kernel
theorem dX3_hoursUntilRead_14 : decode cX3_hoursUntilRead 14 = .ok (.invokestatic 86, 3) := by decide +kernel
theorem dX3_hoursUntilRead_17 : decode cX3_hoursUntilRead 17 = .ok (.isub, 1) := by decide +kernel
theorem dX3_hoursUntilRead_18 : decode cX3_hoursUntilRead 18 = .ok (.ireturn, 1) := by decide +kernel
theorem dX3_countInRow_0 : decode cX3_countInRow 0 = .ok (.iconst 0, 1) := by decide +kernel
theorem dX3_countInRow_1 : decode cX3_countInRow 1 = .ok (.istore_n 2, 1) := by decide +kernel
theorem dX3_countInRow_2 : decode cX3_countInRow 2 = .ok (.iconst 0, 1) := by decide +kernel
theorem dX3_countInRow_3 : decode cX3_countInRow 3 = .ok (.istore_n 3, 1) := by decide +kernel
theorem dX3_countInRow_4 : decode cX3_countInRow 4 = .ok (.iload_n 3, 1) := by decide +kernel
theorem dX3_countInRow_5 : decode cX3_countInRow 5 = .ok (.aload_n 0, 1) := by decide +kernel
theorem dX3_countInRow_6 : decode cX3_countInRow 6 = .ok (.getfield 50, 3) := by decide +kernel
theorem dX3_countInRow_9 : decode cX3_countInRow 9 = .ok (.if_icmp .ge 24, 3) := by decide +kernel
theorem dX3_countInRow_12 : decode cX3_countInRow 12 = .ok (.aload_n 0, 1) := by decide +kernel
theorem dX3_countInRow_13 : decode cX3_countInRow 13 = .ok (.iload_n 3, 1) := by decide +kernel
theorem dX3_countInRow_14 : decode cX3_countInRow 14 = .ok (.invokevirtual 53, 3) := by decide +kernel
theorem dX3_countInRow_17 : decode cX3_countInRow 17 = .ok (.getfield 90, 3) := by decide +kernel
theorem dX3_countInRow_20 : decode cX3_countInRow 20 = .ok (.iload_n 1, 1) := by decide +kernel
theorem dX3_countInRow_21 : decode cX3_countInRow 21 = .ok (.if_icmp .ne 6, 3) := by decide +kernel
theorem dX3_countInRow_24 : decode cX3_countInRow 24 = .ok (.iinc 2 1, 3) := by decide +kernel
theorem dX3_countInRow_27 : decode cX3_countInRow 27 = .ok (.iinc 3 1, 3) := by decide +kernel
theorem dX3_countInRow_30 : decode cX3_countInRow 30 = .ok (.goto (-26), 3) := by decide +kernel
theorem dX3_countInRow_33 : decode cX3_countInRow 33 = .ok (.iload_n 2, 1) := by decide +kernel
theorem dX3_countInRow_34 : decode cX3_countInRow 34 = .ok (.ireturn, 1) := by decide +kernel
theorem dX3_passHours_0 : decode cX3_passHours 0 = .ok (.iconst 0, 1) := by decide +kernel
theorem dX3_passHours_1 : decode cX3_passHours 1 = .ok (.istore_n 3, 1) := by decide +kernel
theorem dX3_passHours_2 : decode cX3_passHours 2 = .ok (.iload_n 3, 1) := by decide +kernel
theorem dX3_passHours_3 : decode cX3_passHours 3 = .ok (.iload_n 1, 1) := by decide +kernel
theorem dX3_passHours_4 : decode cX3_passHours 4 = .ok (.if_icmp .ge 36, 3) := by decide +kernel
theorem dX3_passHours_7 : decode cX3_passHours 7 = .ok (.aload_n 0, 1) := by decide +kernel
theorem dX3_passHours_8 : decode cX3_passHours 8 = .ok (.getfield 41, 3) := by decide +kernel
theorem dX3_passHours_11 : decode cX3_passHours 11 = .ok (.iload_n 2, 1) := by decide +kernel
theorem dX3_passHours_12 : decode cX3_passHours 12 = .ok (.iadd, 1) := by decide +kernel
theorem dX3_passHours_13 : decode cX3_passHours 13 = .ok (.istore 4, 2) := by decide +kernel
theorem dX3_passHours_15 : decode cX3_passHours 15 = .ok (.aload_n 0, 1) := by decide +kernel
theorem dX3_passHours_16 : decode cX3_passHours 16 = .ok (.sipush (-5000), 3) := by decide +kernel
theorem dX3_passHours_19 : decode cX3_passHours 19 = .ok (.sipush 5000, 3) := by decide +kernel
theorem dX3_passHours_22 : decode cX3_passHours 22 = .ok (.iload 4, 2) := by decide +kernel
theorem dX3_passHours_24 : decode cX3_passHours 24 = .ok (.invokestatic 93, 3) := by decide +kernel
theorem dX3_passHours_27 : decode cX3_passHours 27 = .ok (.invokestatic 98, 3) := by decide +kernel
theorem dX3_passHours_30 : decode cX3_passHours 30 = .ok (.invokevirtual 101, 3) := by decide +kernel
theorem dX3_passHours_33 : decode cX3_passHours 33 = .ok (.pop, 1) := by decide +kernel
theorem dX3_passHours_34 : decode cX3_passHours 34 = .ok (.iinc 3 1, 3) := by decide +kernel
theorem dX3_passHours_37 : decode cX3_passHours 37 = .ok (.goto (-35), 3) := by decide +kernel
theorem dX3_passHours_40 : decode cX3_passHours 40 = .ok (.return_, 1) := by decide +kernel
theorem dX3_passHour_0 : decode cX3_passHour 0 = .ok (.aload_n 0, 1) := by decide +kernel
theorem dX3_passHour_1 : decode cX3_passHour 1 = .ok (.aload_n 0, 1) := by decide +kernel
theorem dX3_passHour_2 : decode cX3_passHour 2 = .ok (.invokevirtual 104, 3) := by decide +kernel
theorem dX3_passHour_5 : decode cX3_passHour 5 = .ok (.putfield 37, 3) := by decide +kernel
theorem dX3_passHour_8 : decode cX3_passHour 8 = .ok (.aload_n 0, 1) := by decide +kernel
theorem dX3_passHour_9 : decode cX3_passHour 9 = .ok (.dup, 1) := by decide +kernel
theorem dX3_passHour_10 : decode cX3_passHour 10 = .ok (.getfield 65, 3) := by decide +kernel
theorem dX3_passHour_13 : decode cX3_passHour 13 = .ok (.iconst 1, 1) := by decide +kernel
theorem dX3_passHour_14 : decode cX3_passHour 14 = .ok (.iadd, 1) := by decide +kernel
theorem dX3_passHour_15 : decode cX3_passHour 15 = .ok (.putfield 65, 3) := by decide +kernel
theorem dX3_passHour_18 : decode cX3_passHour 18 = .ok (.aload_n 0, 1) := by decide +kernel
theorem dX3_passHour_19 : decode cX3_passHour 19 = .ok (.iload_n 1, 1) := by decide +kernel
theorem dX3_passHour_20 : decode cX3_passHour 20 = .ok (.putfield 41, 3) := by decide +kernel
theorem dX3_passHour_23 : decode cX3_passHour 23 = .ok (.iconst 0, 1) := by decide +kernel
theorem dX3_passHour_24 : decode cX3_passHour 24 = .ok (.istore_n 2, 1) := by decide +kernel
theorem dX3_passHour_25 : decode cX3_passHour 25 = .ok (.iload_n 2, 1) := by decide +kernel
theorem dX3_passHour_26 : decode cX3_passHour 26 = .ok (.aload_n 0, 1) := by decide +kernel
theorem dX3_passHour_27 : decode cX3_passHour 27 = .ok (.getfield 50, 3) := by decide +kernel
theorem dX3_passHour_30 : decode cX3_passHour 30 = .ok (.if_icmp .ge 21, 3) := by decide +kernel
theorem dX3_passHour_33 : decode cX3_passHour 33 = .ok (.aload_n 0, 1) := by decide +kernel
theorem dX3_passHour_34 : decode cX3_passHour 34 = .ok (.iload_n 2, 1) := by decide +kernel
theorem dX3_passHour_35 : decode cX3_passHour 35 = .ok (.invokevirtual 53, 3) := by decide +kernel
theorem dX3_passHour_38 : decode cX3_passHour 38 = .ok (.aload_n 0, 1) := by decide +kernel
theorem dX3_passHour_39 : decode cX3_passHour 39 = .ok (.getfield 41, 3) := by decide +kernel
theorem dX3_passHour_42 : decode cX3_passHour 42 = .ok (.invokevirtual 108, 3) := by decide +kernel
theorem dX3_passHour_45 : decode cX3_passHour 45 = .ok (.iinc 2 1, 3) := by decide +kernel
theorem dX3_passHour_48 : decode cX3_passHour 48 = .ok (.goto (-23), 3) := by decide +kernel
theorem dX3_passHour_51 : decode cX3_passHour 51 = .ok (.aload_n 0, 1) := by decide +kernel
theorem dX3_passHour_52 : decode cX3_passHour 52 = .ok (.getfield 68, 3) := by decide +kernel
theorem dX3_passHour_55 : decode cX3_passHour 55 = .ok (.istore_n 2, 1) := by decide +kernel
theorem dX3_passHour_56 : decode cX3_passHour 56 = .ok (.aload_n 0, 1) := by decide +kernel
theorem dX3_passHour_57 : decode cX3_passHour 57 = .ok (.invokevirtual 112, 3) := by decide +kernel
theorem dX3_passHour_60 : decode cX3_passHour 60 = .ok (.aload_n 0, 1) := by decide +kernel
theorem dX3_passHour_61 : decode cX3_passHour 61 = .ok (.getfield 68, 3) := by decide +kernel
theorem dX3_passHour_64 : decode cX3_passHour 64 = .ok (.iload_n 2, 1) := by decide +kernel
theorem dX3_passHour_65 : decode cX3_passHour 65 = .ok (.if_icmp .le 7, 3) := by decide +kernel
theorem dX3_passHour_68 : decode cX3_passHour 68 = .ok (.aload_n 0, 1) := by decide +kernel
theorem dX3_passHour_69 : decode cX3_passHour 69 = .ok (.invokevirtual 115, 3) := by decide +kernel
theorem dX3_passHour_72 : decode cX3_passHour 72 = .ok (.aload_n 0, 1) := by decide +kernel
theorem dX3_passHour_73 : decode cX3_passHour 73 = .ok (.getfield 68, 3) := by decide +kernel
theorem dX3_passHour_76 : decode cX3_passHour 76 = .ok (.iload_n 2, 1) := by decide +kernel
theorem dX3_passHour_77 : decode cX3_passHour 77 = .ok (.isub, 1) := by decide +kernel
theorem dX3_passHour_78 : decode cX3_passHour 78 = .ok (.ireturn, 1) := by decide +kernel
theorem dX3_readRows_0 : decode cX3_readRows 0 = .ok (.iconst 0, 1) := by decide +kernel
theorem dX3_readRows_1 : decode cX3_readRows 1 = .ok (.istore_n 1, 1) := by decide +kernel
theorem dX3_readRows_2 : decode cX3_readRows 2 = .ok (.iload_n 1, 1) := by decide +kernel
theorem dX3_readRows_3 : decode cX3_readRows 3 = .ok (.aload_n 0, 1) := by decide +kernel
theorem dX3_readRows_4 : decode cX3_readRows 4 = .ok (.getfield 26, 3) := by decide +kernel
theorem dX3_readRows_7 : decode cX3_readRows 7 = .ok (.arraylength, 1) := by decide +kernel
theorem dX3_readRows_8 : decode cX3_readRows 8 = .ok (.if_icmp .ge 27, 3) := by decide +kernel
theorem dX3_readRows_11 : decode cX3_readRows 11 = .ok (.aload_n 0, 1) := by decide +kernel
theorem dX3_readRows_12 : decode cX3_readRows 12 = .ok (.iload_n 1, 1) := by decide +kernel
theorem dX3_readRows_13 : decode cX3_readRows 13 = .ok (.invokevirtual 118, 3) := by decide +kernel
theorem dX3_readRows_16 : decode cX3_readRows 16 = .ok (.ifCond .eq 13, 3) := by decide +kernel
theorem dX3_readRows_19 : decode cX3_readRows 19 = .ok (.aload_n 0, 1) := by decide +kernel
theorem dX3_readRows_20 : decode cX3_readRows 20 = .ok (.getfield 26, 3) := by decide +kernel
theorem dX3_readRows_23 : decode cX3_readRows 23 = .ok (.iload_n 1, 1) := by decide +kernel
theorem dX3_readRows_24 : decode cX3_readRows 24 = .ok (.dup2, 1) := by decide +kernel
theorem dX3_readRows_25 : decode cX3_readRows 25 = .ok (.iaload, 1) := by decide +kernel
theorem dX3_readRows_26 : decode cX3_readRows 26 = .ok (.iconst 1, 1) := by decide +kernel
theorem dX3_readRows_27 : decode cX3_readRows 27 = .ok (.iadd, 1) := by decide +kernel
theorem dX3_readRows_28 : decode cX3_readRows 28 = .ok (.iastore, 1) := by decide +kernel
theorem dX3_readRows_29 : decode cX3_readRows 29 = .ok (.iinc 1 1, 3) := by decide +kernel
theorem dX3_readRows_32 : decode cX3_readRows 32 = .ok (.goto (-30), 3) := by decide +kernel
theorem dX3_readRows_35 : decode cX3_readRows 35 = .ok (.iconst 0, 1) := by decide +kernel
theorem dX3_readRows_36 : decode cX3_readRows 36 = .ok (.istore_n 1, 1) := by decide +kernel
theorem dX3_readRows_37 : decode cX3_readRows 37 = .ok (.iload_n 1, 1) := by decide +kernel
theorem dX3_readRows_38 : decode cX3_readRows 38 = .ok (.aload_n 0, 1) := by decide +kernel
theorem dX3_readRows_39 : decode cX3_readRows 39 = .ok (.getfield 50, 3) := by decide +kernel
theorem dX3_readRows_42 : decode cX3_readRows 42 = .ok (.if_icmp .ge 46, 3) := by decide +kernel
theorem dX3_readRows_45 : decode cX3_readRows 45 = .ok (.aload_n 0, 1) := by decide +kernel
theorem dX3_readRows_46 : decode cX3_readRows 46 = .ok (.aload_n 0, 1) := by decide +kernel
theorem dX3_readRows_47 : decode cX3_readRows 47 = .ok (.iload_n 1, 1) := by decide +kernel
theorem dX3_readRows_48 : decode cX3_readRows 48 = .ok (.invokevirtual 53, 3) := by decide +kernel
theorem dX3_readRows_51 : decode cX3_readRows 51 = .ok (.getfield 90, 3) := by decide +kernel
theorem dX3_readRows_54 : decode cX3_readRows 54 = .ok (.invokevirtual 118, 3) := by decide +kernel
theorem dX3_readRows_57 : decode cX3_readRows 57 = .ok (.ifCond .eq 25, 3) := by decide +kernel
theorem dX3_readRows_60 : decode cX3_readRows 60 = .ok (.aload_n 0, 1) := by decide +kernel
theorem dX3_readRows_61 : decode cX3_readRows 61 = .ok (.iload_n 1, 1) := by decide +kernel
theorem dX3_readRows_62 : decode cX3_readRows 62 = .ok (.invokevirtual 53, 3) := by decide +kernel
theorem dX3_readRows_65 : decode cX3_readRows 65 = .ok (.aload_n 0, 1) := by decide +kernel
theorem dX3_readRows_66 : decode cX3_readRows 66 = .ok (.getfield 65, 3) := by decide +kernel
theorem dX3_readRows_69 : decode cX3_readRows 69 = .ok (.invokevirtual 122, 3) := by decide +kernel
theorem dX3_readRows_72 : decode cX3_readRows 72 = .ok (.aload_n 0, 1) := by decide +kernel
theorem dX3_readRows_73 : decode cX3_readRows 73 = .ok (.dup, 1) := by decide +kernel
theorem dX3_readRows_74 : decode cX3_readRows 74 = .ok (.getfield 68, 3) := by decide +kernel
theorem dX3_readRows_77 : decode cX3_readRows 77 = .ok (.iconst 1, 1) := by decide +kernel
theorem dX3_readRows_78 : decode cX3_readRows 78 = .ok (.iadd, 1) := by decide +kernel
theorem dX3_readRows_79 : decode cX3_readRows 79 = .ok (.putfield 68, 3) := by decide +kernel
theorem dX3_readRows_82 : decode cX3_readRows 82 = .ok (.iinc 1 1, 3) := by decide +kernel
theorem dX3_readRows_85 : decode cX3_readRows 85 = .ok (.goto (-48), 3) := by decide +kernel
theorem dX3_readRows_88 : decode cX3_readRows 88 = .ok (.return_, 1) := by decide +kernel
theorem dX3_isReadNow_0 : decode cX3_isReadNow 0 = .ok (.aload_n 0, 1) := by decide +kernel
theorem dX3_isReadNow_1 : decode cX3_isReadNow 1 = .ok (.getfield 65, 3) := by decide +kernel
theorem dX3_isReadNow_4 : decode cX3_isReadNow 4 = .ok (.aload_n 0, 1) := by decide +kernel
theorem dX3_isReadNow_5 : decode cX3_isReadNow 5 = .ok (.iload_n 1, 1) := by decide +kernel
theorem dX3_isReadNow_6 : decode cX3_isReadNow 6 = .ok (.invokevirtual 82, 3) := by decide +kernel
theorem dX3_isReadNow_9 : decode cX3_isReadNow 9 = .ok (.invokestatic 86, 3) := by decide +kernel
theorem dX3_isReadNow_12 : decode cX3_isReadNow 12 = .ok (.ifCond .ne 7, 3) := by decide +kernel
theorem dX3_isReadNow_15 : decode cX3_isReadNow 15 = .ok (.iconst 1, 1) := by decide +kernel
theorem dX3_isReadNow_16 : decode cX3_isReadNow 16 = .ok (.goto 4, 3) := by decide +kernel
theorem dX3_isReadNow_19 : decode cX3_isReadNow 19 = .ok (.iconst 0, 1) := by decide +kernel
theorem dX3_isReadNow_20 : decode cX3_isReadNow 20 = .ok (.ireturn, 1) := by decide +kernel
theorem dX3_lookForSpikes_0 : decode cX3_lookForSpikes 0 = .ok (.aload_n 0, 1) := by decide +kernel
theorem dX3_lookForSpikes_1 : decode cX3_lookForSpikes 1 = .ok (.invokevirtual 125, 3) := by decide +kernel
theorem dX3_lookForSpikes_4 : decode cX3_lookForSpikes 4 = .ok (.invokestatic 128, 3) := by decide +kernel
theorem dX3_lookForSpikes_7 : decode cX3_lookForSpikes 7 = .ok (.iconst 2, 1) := by decide +kernel
theorem dX3_lookForSpikes_8 : decode cX3_lookForSpikes 8 = .ok (.if_icmp .ge 4, 3) := by decide +kernel
theorem dX3_lookForSpikes_11 : decode cX3_lookForSpikes 11 = .ok (.return_, 1) := by decide +kernel
theorem dX3_lookForSpikes_12 : decode cX3_lookForSpikes 12 = .ok (.iconst 0, 1) := by decide +kernel
theorem dX3_lookForSpikes_13 : decode cX3_lookForSpikes 13 = .ok (.istore_n 1, 1) := by decide +kernel
theorem dX3_lookForSpikes_14 : decode cX3_lookForSpikes 14 = .ok (.iload_n 1, 1) := by decide +kernel
theorem dX3_lookForSpikes_15 : decode cX3_lookForSpikes 15 = .ok (.aload_n 0, 1) := by decide +kernel
theorem dX3_lookForSpikes_16 : decode cX3_lookForSpikes 16 = .ok (.getfield 50, 3) := by decide +kernel
theorem dX3_lookForSpikes_19 : decode cX3_lookForSpikes 19 = .ok (.if_icmp .ge 29, 3) := by decide +kernel
theorem dX3_lookForSpikes_22 : decode cX3_lookForSpikes 22 = .ok (.aload_n 0, 1) := by decide +kernel
theorem dX3_lookForSpikes_23 : decode cX3_lookForSpikes 23 = .ok (.iload_n 1, 1) := by decide +kernel
theorem dX3_lookForSpikes_24 : decode cX3_lookForSpikes 24 = .ok (.invokevirtual 53, 3) := by decide +kernel
theorem dX3_lookForSpikes_27 : decode cX3_lookForSpikes 27 = .ok (.aload_n 0, 1) := by decide +kernel
theorem dX3_lookForSpikes_28 : decode cX3_lookForSpikes 28 = .ok (.getfield 65, 3) := by decide +kernel
theorem dX3_lookForSpikes_31 : decode cX3_lookForSpikes 31 = .ok (.invokevirtual 133, 3) := by decide +kernel
theorem dX3_lookForSpikes_34 : decode cX3_lookForSpikes 34 = .ok (.ifCond .eq 8, 3) := by decide +kernel
theorem dX3_lookForSpikes_37 : decode cX3_lookForSpikes 37 = .ok (.aload_n 0, 1) := by decide +kernel
theorem dX3_lookForSpikes_38 : decode cX3_lookForSpikes 38 = .ok (.iload_n 1, 1) := by decide +kernel
theorem dX3_lookForSpikes_39 : decode cX3_lookForSpikes 39 = .ok (.invokevirtual 136, 3) := by decide +kernel
theorem dX3_lookForSpikes_42 : decode cX3_lookForSpikes 42 = .ok (.iinc 1 1, 3) := by decide +kernel
theorem dX3_lookForSpikes_45 : decode cX3_lookForSpikes 45 = .ok (.goto (-31), 3) := by decide +kernel
theorem dX3_lookForSpikes_48 : decode cX3_lookForSpikes 48 = .ok (.iconst 0, 1) := by decide +kernel
theorem dX3_lookForSpikes_49 : decode cX3_lookForSpikes 49 = .ok (.istore_n 1, 1) := by decide +kernel
theorem dX3_lookForSpikes_50 : decode cX3_lookForSpikes 50 = .ok (.iload_n 1, 1) := by decide +kernel
theorem dX3_lookForSpikes_51 : decode cX3_lookForSpikes 51 = .ok (.aload_n 0, 1) := by decide +kernel
theorem dX3_lookForSpikes_52 : decode cX3_lookForSpikes 52 = .ok (.getfield 50, 3) := by decide +kernel
theorem dX3_lookForSpikes_55 : decode cX3_lookForSpikes 55 = .ok (.if_icmp .ge 36, 3) := by decide +kernel
theorem dX3_lookForSpikes_58 : decode cX3_lookForSpikes 58 = .ok (.aload_n 0, 1) := by decide +kernel
theorem dX3_lookForSpikes_59 : decode cX3_lookForSpikes 59 = .ok (.iload_n 1, 1) := by decide +kernel
theorem dX3_lookForSpikes_60 : decode cX3_lookForSpikes 60 = .ok (.invokevirtual 53, 3) := by decide +kernel
theorem dX3_lookForSpikes_63 : decode cX3_lookForSpikes 63 = .ok (.aload_n 0, 1) := by decide +kernel
theorem dX3_lookForSpikes_64 : decode cX3_lookForSpikes 64 = .ok (.getfield 65, 3) := by decide +kernel
theorem dX3_lookForSpikes_67 : decode cX3_lookForSpikes 67 = .ok (.invokevirtual 133, 3) := by decide +kernel
theorem dX3_lookForSpikes_70 : decode cX3_lookForSpikes 70 = .ok (.ifCond .eq 15, 3) := by decide +kernel
theorem dX3_lookForSpikes_73 : decode cX3_lookForSpikes 73 = .ok (.aload_n 0, 1) := by decide +kernel
theorem dX3_lookForSpikes_74 : decode cX3_lookForSpikes 74 = .ok (.iload_n 1, 1) := by decide +kernel
theorem dX3_lookForSpikes_75 : decode cX3_lookForSpikes 75 = .ok (.invokevirtual 53, 3) := by decide +kernel
theorem dX3_lookForSpikes_78 : decode cX3_lookForSpikes 78 = .ok (.aload_n 0, 1) := by decide +kernel
theorem dX3_lookForSpikes_79 : decode cX3_lookForSpikes 79 = .ok (.getfield 47, 3) := by decide +kernel
theorem dX3_lookForSpikes_82 : decode cX3_lookForSpikes 82 = .ok (.invokevirtual 139, 3) := by decide +kernel
theorem dX3_lookForSpikes_85 : decode cX3_lookForSpikes 85 = .ok (.iinc 1 1, 3) := by decide +kernel
theorem dX3_lookForSpikes_88 : decode cX3_lookForSpikes 88 = .ok (.goto (-38), 3) := by decide +kernel
theorem dX3_lookForSpikes_91 : decode cX3_lookForSpikes 91 = .ok (.return_, 1) := by decide +kernel
theorem dX3_compareWithOthers_0 : decode cX3_compareWithOthers 0 = .ok (.aload_n 0, 1) := by decide +kernel
theorem dX3_compareWithOthers_1 : decode cX3_compareWithOthers 1 = .ok (.iload_n 1, 1) := by decide +kernel
theorem dX3_compareWithOthers_2 : decode cX3_compareWithOthers 2 = .ok (.invokevirtual 53, 3) := by decide +kernel
theorem dX3_compareWithOthers_5 : decode cX3_compareWithOthers 5 = .ok (.getfield 142, 3) := by decide +kernel
theorem dX3_compareWithOthers_8 : decode cX3_compareWithOthers 8 = .ok (.istore_n 2, 1) := by decide +kernel
theorem dX3_compareWithOthers_9 : decode cX3_compareWithOthers 9 = .ok (.aload_n 0, 1) := by decide +kernel
theorem dX3_compareWithOthers_10 : decode cX3_compareWithOthers 10 = .ok (.iload_n 1, 1) := by decide +kernel
theorem dX3_compareWithOthers_11 : decode cX3_compareWithOthers 11 = .ok (.invokevirtual 53, 3) := by decide +kernel
theorem dX3_compareWithOthers_14 : decode cX3_compareWithOthers 14 = .ok (.aload_n 0, 1) := by decide +kernel
theorem dX3_compareWithOthers_15 : decode cX3_compareWithOthers 15 = .ok (.iload_n 1, 1) := by decide +kernel
theorem dX3_compareWithOthers_16 : decode cX3_compareWithOthers 16 = .ok (.invokevirtual 143, 3) := by decide +kernel
theorem dX3_compareWithOthers_19 : decode cX3_compareWithOthers 19 = .ok (.aload_n 0, 1) := by decide +kernel
theorem dX3_compareWithOthers_20 : decode cX3_compareWithOthers 20 = .ok (.getfield 44, 3) := by decide +kernel
theorem dX3_compareWithOthers_23 : decode cX3_compareWithOthers 23 = .ok (.invokevirtual 146, 3) := by decide +kernel
theorem dX3_compareWithOthers_26 : decode cX3_compareWithOthers 26 = .ok (.aload_n 0, 1) := by decide +kernel
theorem dX3_compareWithOthers_27 : decode cX3_compareWithOthers 27 = .ok (.dup, 1) := by decide +kernel
theorem dX3_compareWithOthers_28 : decode cX3_compareWithOthers 28 = .ok (.getfield 71, 3) := by decide +kernel
theorem dX3_compareWithOthers_31 : decode cX3_compareWithOthers 31 = .ok (.aload_n 0, 1) := by decide +kernel
theorem dX3_compareWithOthers_32 : decode cX3_compareWithOthers 32 = .ok (.iload_n 1, 1) := by decide +kernel
theorem dX3_compareWithOthers_33 : decode cX3_compareWithOthers 33 = .ok (.invokevirtual 53, 3) := by decide +kernel
theorem dX3_compareWithOthers_36 : decode cX3_compareWithOthers 36 = .ok (.getfield 142, 3) := by decide +kernel
theorem dX3_compareWithOthers_39 : decode cX3_compareWithOthers 39 = .ok (.iload_n 2, 1) := by decide +kernel
theorem dX3_compareWithOthers_40 : decode cX3_compareWithOthers 40 = .ok (.isub, 1) := by decide +kernel
theorem dX3_compareWithOthers_41 : decode cX3_compareWithOthers 41 = .ok (.iadd, 1) := by decide +kernel
theorem dX3_compareWithOthers_42 : decode cX3_compareWithOthers 42 = .ok (.putfield 71, 3) := by decide +kernel
theorem dX3_compareWithOthers_45 : decode cX3_compareWithOthers 45 = .ok (.return_, 1) := by decide +kernel
theorem dX3_middleWithout_0 : decode cX3_middleWithout 0 = .ok (.aload_n 0, 1) := by decide +kernel
theorem dX3_middleWithout_1 : decode cX3_middleWithout 1 = .ok (.getfield 32, 3) := by decide +kernel
theorem dX3_middleWithout_4 : decode cX3_middleWithout 4 = .ok (.invokevirtual 150, 3) := by decide +kernel
theorem dX3_middleWithout_7 : decode cX3_middleWithout 7 = .ok (.iconst 0, 1) := by decide +kernel
theorem dX3_middleWithout_8 : decode cX3_middleWithout 8 = .ok (.istore_n 2, 1) := by decide +kernel
theorem dX3_middleWithout_9 : decode cX3_middleWithout 9 = .ok (.iload_n 2, 1) := by decide +kernel
theorem dX3_middleWithout_10 : decode cX3_middleWithout 10 = .ok (.aload_n 0, 1) := by decide +kernel
theorem dX3_middleWithout_11 : decode cX3_middleWithout 11 = .ok (.getfield 50, 3) := by decide +kernel
theorem dX3_middleWithout_14 : decode cX3_middleWithout 14 = .ok (.if_icmp .ge 40, 3) := by decide +kernel
theorem dX3_middleWithout_17 : decode cX3_middleWithout 17 = .ok (.iload_n 2, 1) := by decide +kernel
theorem dX3_middleWithout_18 : decode cX3_middleWithout 18 = .ok (.iload_n 1, 1) := by decide +kernel
theorem dX3_middleWithout_19 : decode cX3_middleWithout 19 = .ok (.if_icmp .eq 29, 3) := by decide +kernel
theorem dX3_middleWithout_22 : decode cX3_middleWithout 22 = .ok (.aload_n 0, 1) := by decide +kernel
theorem dX3_middleWithout_23 : decode cX3_middleWithout 23 = .ok (.iload_n 2, 1) := by decide +kernel
theorem dX3_middleWithout_24 : decode cX3_middleWithout 24 = .ok (.invokevirtual 53, 3) := by decide +kernel
theorem dX3_middleWithout_27 : decode cX3_middleWithout 27 = .ok (.invokevirtual 153, 3) := by decide +kernel
theorem dX3_middleWithout_30 : decode cX3_middleWithout 30 = .ok (.ifCond .eq 18, 3) := by decide +kernel
theorem dX3_middleWithout_33 : decode cX3_middleWithout 33 = .ok (.aload_n 0, 1) := by decide +kernel
theorem dX3_middleWithout_34 : decode cX3_middleWithout 34 = .ok (.getfield 32, 3) := by decide +kernel
theorem dX3_middleWithout_37 : decode cX3_middleWithout 37 = .ok (.aload_n 0, 1) := by decide +kernel
theorem dX3_middleWithout_38 : decode cX3_middleWithout 38 = .ok (.iload_n 2, 1) := by decide +kernel
theorem dX3_middleWithout_39 : decode cX3_middleWithout 39 = .ok (.invokevirtual 53, 3) := by decide +kernel
theorem dX3_middleWithout_42 : decode cX3_middleWithout 42 = .ok (.getfield 157, 3) := by decide +kernel
theorem dX3_middleWithout_45 : decode cX3_middleWithout 45 = .ok (.invokevirtual 160, 3) := by decide +kernel
theorem dX3_middleWithout_48 : decode cX3_middleWithout 48 = .ok (.iinc 2 1, 3) := by decide +kernel
theorem dX3_middleWithout_51 : decode cX3_middleWithout 51 = .ok (.goto (-42), 3) := by decide +kernel
theorem dX3_middleWithout_54 : decode cX3_middleWithout 54 = .ok (.aload_n 0, 1) := by decide +kernel
theorem dX3_middleWithout_55 : decode cX3_middleWithout 55 = .ok (.getfield 32, 3) := by decide +kernel
theorem dX3_middleWithout_58 : decode cX3_middleWithout 58 = .ok (.invokevirtual 163, 3) := by decide +kernel
theorem dX3_middleWithout_61 : decode cX3_middleWithout 61 = .ok (.ireturn, 1) := by decide +kernel
theorem dX3_maskOfAsked_0 : decode cX3_maskOfAsked 0 = .ok (.iconst 0, 1) := by decide +kernel
theorem dX3_maskOfAsked_1 : decode cX3_maskOfAsked 1 = .ok (.istore_n 1, 1) := by decide +kernel
theorem dX3_maskOfAsked_2 : decode cX3_maskOfAsked 2 = .ok (.iconst 0, 1) := by decide +kernel
theorem dX3_maskOfAsked_3 : decode cX3_maskOfAsked 3 = .ok (.istore_n 2, 1) := by decide +kernel
theorem dX3_maskOfAsked_4 : decode cX3_maskOfAsked 4 = .ok (.iload_n 2, 1) := by decide +kernel
theorem dX3_maskOfAsked_5 : decode cX3_maskOfAsked 5 = .ok (.aload_n 0, 1) := by decide +kernel
theorem dX3_maskOfAsked_6 : decode cX3_maskOfAsked 6 = .ok (.getfield 50, 3) := by decide +kernel
theorem dX3_maskOfAsked_9 : decode cX3_maskOfAsked 9 = .ok (.if_icmp .ge 26, 3) := by decide +kernel
theorem dX3_maskOfAsked_12 : decode cX3_maskOfAsked 12 = .ok (.aload_n 0, 1) := by decide +kernel
theorem dX3_maskOfAsked_13 : decode cX3_maskOfAsked 13 = .ok (.iload_n 2, 1) := by decide +kernel
theorem dX3_maskOfAsked_14 : decode cX3_maskOfAsked 14 = .ok (.invokevirtual 53, 3) := by decide +kernel
theorem dX3_maskOfAsked_17 : decode cX3_maskOfAsked 17 = .ok (.invokevirtual 153, 3) := by decide +kernel
theorem dX3_maskOfAsked_20 : decode cX3_maskOfAsked 20 = .ok (.ifCond .eq 9, 3) := by decide +kernel
theorem dX3_maskOfAsked_23 : decode cX3_maskOfAsked 23 = .ok (.iload_n 1, 1) := by decide +kernel
theorem dX3_maskOfAsked_24 : decode cX3_maskOfAsked 24 = .ok (.iconst 1, 1) := by decide +kernel
theorem dX3_maskOfAsked_25 : decode cX3_maskOfAsked 25 = .ok (.iload_n 2, 1) := by decide +kernel
theorem dX3_maskOfAsked_26 : decode cX3_maskOfAsked 26 = .ok (.ishl, 1) := by decide +kernel
theorem dX3_maskOfAsked_27 : decode cX3_maskOfAsked 27 = .ok (.ior, 1) := by decide +kernel
theorem dX3_maskOfAsked_28 : decode cX3_maskOfAsked 28 = .ok (.istore_n 1, 1) := by decide +kernel
theorem dX3_maskOfAsked_29 : decode cX3_maskOfAsked 29 = .ok (.iinc 2 1, 3) := by decide +kernel
theorem dX3_maskOfAsked_32 : decode cX3_maskOfAsked 32 = .ok (.goto (-28), 3) := by decide +kernel
theorem dX3_maskOfAsked_35 : decode cX3_maskOfAsked 35 = .ok (.iload_n 1, 1) := by decide +kernel
theorem dX3_maskOfAsked_36 : decode cX3_maskOfAsked 36 = .ok (.ireturn, 1) := by decide +kernel
theorem dX3_maskOfShutOut_0 : decode cX3_maskOfShutOut 0 = .ok (.iconst 0, 1) := by decide +kernel
theorem dX3_maskOfShutOut_1 : decode cX3_maskOfShutOut 1 = .ok (.istore_n 1, 1) := by decide +kernel
theorem dX3_maskOfShutOut_2 : decode cX3_maskOfShutOut 2 = .ok (.iconst 0, 1) := by decide +kernel
theorem dX3_maskOfShutOut_3 : decode cX3_maskOfShutOut 3 = .ok (.istore_n 2, 1) := by decide +kernel
theorem dX3_maskOfShutOut_4 : decode cX3_maskOfShutOut 4 = .ok (.iload_n 2, 1) := by decide +kernel
theorem dX3_maskOfShutOut_5 : decode cX3_maskOfShutOut 5 = .ok (.aload_n 0, 1) := by decide +kernel
theorem dX3_maskOfShutOut_6 : decode cX3_maskOfShutOut 6 = .ok (.getfield 50, 3) := by decide +kernel
theorem dX3_maskOfShutOut_9 : decode cX3_maskOfShutOut 9 = .ok (.if_icmp .ge 26, 3) := by decide +kernel
theorem dX3_maskOfShutOut_12 : decode cX3_maskOfShutOut 12 = .ok (.aload_n 0, 1) := by decide +kernel
theorem dX3_maskOfShutOut_13 : decode cX3_maskOfShutOut 13 = .ok (.iload_n 2, 1) := by decide +kernel
theorem dX3_maskOfShutOut_14 : decode cX3_maskOfShutOut 14 = .ok (.invokevirtual 53, 3) := by decide +kernel
theorem dX3_maskOfShutOut_17 : decode cX3_maskOfShutOut 17 = .ok (.getfield 166, 3) := by decide +kernel
theorem dX3_maskOfShutOut_20 : decode cX3_maskOfShutOut 20 = .ok (.ifCond .eq 9, 3) := by decide +kernel
theorem dX3_maskOfShutOut_23 : decode cX3_maskOfShutOut 23 = .ok (.iload_n 1, 1) := by decide +kernel
theorem dX3_maskOfShutOut_24 : decode cX3_maskOfShutOut 24 = .ok (.iconst 1, 1) := by decide +kernel
theorem dX3_maskOfShutOut_25 : decode cX3_maskOfShutOut 25 = .ok (.iload_n 2, 1) := by decide +kernel
theorem dX3_maskOfShutOut_26 : decode cX3_maskOfShutOut 26 = .ok (.ishl, 1) := by decide +kernel
theorem dX3_maskOfShutOut_27 : decode cX3_maskOfShutOut 27 = .ok (.ior, 1) := by decide +kernel
theorem dX3_maskOfShutOut_28 : decode cX3_maskOfShutOut 28 = .ok (.istore_n 1, 1) := by decide +kernel
theorem dX3_maskOfShutOut_29 : decode cX3_maskOfShutOut 29 = .ok (.iinc 2 1, 3) := by decide +kernel
theorem dX3_maskOfShutOut_32 : decode cX3_maskOfShutOut 32 = .ok (.goto (-28), 3) := by decide +kernel
theorem dX3_maskOfShutOut_35 : decode cX3_maskOfShutOut 35 = .ok (.iload_n 1, 1) := by decide +kernel
theorem dX3_maskOfShutOut_36 : decode cX3_maskOfShutOut 36 = .ok (.ireturn, 1) := by decide +kernel
theorem dX3_mean_0 : decode cX3_mean 0 = .ok (.iconst 0, 1) := by decide +kernel
theorem dX3_mean_1 : decode cX3_mean 1 = .ok (.istore_n 1, 1) := by decide +kernel
theorem dX3_mean_2 : decode cX3_mean 2 = .ok (.iconst 0, 1) := by decide +kernel
theorem dX3_mean_3 : decode cX3_mean 3 = .ok (.istore_n 2, 1) := by decide +kernel
theorem dX3_mean_4 : decode cX3_mean 4 = .ok (.iconst 0, 1) := by decide +kernel
theorem dX3_mean_5 : decode cX3_mean 5 = .ok (.istore_n 3, 1) := by decide +kernel
theorem dX3_mean_6 : decode cX3_mean 6 = .ok (.iload_n 3, 1) := by decide +kernel
theorem dX3_mean_7 : decode cX3_mean 7 = .ok (.aload_n 0, 1) := by decide +kernel
theorem dX3_mean_8 : decode cX3_mean 8 = .ok (.getfield 50, 3) := by decide +kernel
theorem dX3_mean_11 : decode cX3_mean 11 = .ok (.if_icmp .ge 51, 3) := by decide +kernel
theorem dX3_mean_14 : decode cX3_mean 14 = .ok (.aload_n 0, 1) := by decide +kernel
theorem dX3_mean_15 : decode cX3_mean 15 = .ok (.iload_n 3, 1) := by decide +kernel
theorem dX3_mean_16 : decode cX3_mean 16 = .ok (.invokevirtual 53, 3) := by decide +kernel
theorem dX3_mean_19 : decode cX3_mean 19 = .ok (.invokevirtual 153, 3) := by decide +kernel
theorem dX3_mean_22 : decode cX3_mean 22 = .ok (.ifCond .eq 34, 3) := by decide +kernel
theorem dX3_mean_25 : decode cX3_mean 25 = .ok (.iload_n 1, 1) := by decide +kernel
theorem dX3_mean_26 : decode cX3_mean 26 = .ok (.aload_n 0, 1) := by decide +kernel
theorem dX3_mean_27 : decode cX3_mean 27 = .ok (.iload_n 3, 1) := by decide +kernel
theorem dX3_mean_28 : decode cX3_mean 28 = .ok (.invokevirtual 53, 3) := by decide +kernel
theorem dX3_mean_31 : decode cX3_mean 31 = .ok (.getfield 157, 3) := by decide +kernel
theorem dX3_mean_34 : decode cX3_mean 34 = .ok (.aload_n 0, 1) := by decide +kernel
theorem dX3_mean_35 : decode cX3_mean 35 = .ok (.iload_n 3, 1) := by decide +kernel
theorem dX3_mean_36 : decode cX3_mean 36 = .ok (.invokevirtual 53, 3) := by decide +kernel
theorem dX3_mean_39 : decode cX3_mean 39 = .ok (.getfield 170, 3) := by decide +kernel
theorem dX3_mean_42 : decode cX3_mean 42 = .ok (.imul, 1) := by decide +kernel
theorem dX3_mean_43 : decode cX3_mean 43 = .ok (.iadd, 1) := by decide +kernel
theorem dX3_mean_44 : decode cX3_mean 44 = .ok (.istore_n 1, 1) := by decide +kernel
theorem dX3_mean_45 : decode cX3_mean 45 = .ok (.iload_n 2, 1) := by decide +kernel
theorem dX3_mean_46 : decode cX3_mean 46 = .ok (.aload_n 0, 1) := by decide +kernel
theorem dX3_mean_47 : decode cX3_mean 47 = .ok (.iload_n 3, 1) := by decide +kernel
theorem dX3_mean_48 : decode cX3_mean 48 = .ok (.invokevirtual 53, 3) := by decide +kernel
theorem dX3_mean_51 : decode cX3_mean 51 = .ok (.getfield 170, 3) := by decide +kernel
theorem dX3_mean_54 : decode cX3_mean 54 = .ok (.iadd, 1) := by decide +kernel
theorem dX3_mean_55 : decode cX3_mean 55 = .ok (.istore_n 2, 1) := by decide +kernel
theorem dX3_mean_56 : decode cX3_mean 56 = .ok (.iinc 3 1, 3) := by decide +kernel
theorem dX3_mean_59 : decode cX3_mean 59 = .ok (.goto (-53), 3) := by decide +kernel
theorem dX3_mean_62 : decode cX3_mean 62 = .ok (.iload_n 2, 1) := by decide +kernel
theorem dX3_mean_63 : decode cX3_mean 63 = .ok (.ifCond .ne 8, 3) := by decide +kernel
theorem dX3_mean_66 : decode cX3_mean 66 = .ok (.ldc 36, 2) := by decide +kernel
theorem dX3_mean_68 : decode cX3_mean 68 = .ok (.goto 8, 3) := by decide +kernel
theorem dX3_mean_71 : decode cX3_mean 71 = .ok (.iload_n 1, 1) := by decide +kernel
theorem dX3_mean_72 : decode cX3_mean 72 = .ok (.iload_n 2, 1) := by decide +kernel
theorem dX3_mean_73 : decode cX3_mean 73 = .ok (.invokestatic 173, 3) := by decide +kernel
theorem dX3_mean_76 : decode cX3_mean 76 = .ok (.ireturn, 1) := by decide +kernel
theorem dX3_slope_0 : decode cX3_slope 0 = .ok (.aload_n 0, 1) := by decide +kernel
theorem dX3_slope_1 : decode cX3_slope 1 = .ok (.invokevirtual 104, 3) := by decide +kernel
theorem dX3_slope_4 : decode cX3_slope 4 = .ok (.istore_n 1, 1) := by decide +kernel
theorem dX3_slope_5 : decode cX3_slope 5 = .ok (.iload_n 1, 1) := by decide +kernel
theorem dX3_slope_6 : decode cX3_slope 6 = .ok (.ldc 36, 2) := by decide +kernel
theorem dX3_slope_8 : decode cX3_slope 8 = .ok (.if_icmp .eq 12, 3) := by decide +kernel
theorem dX3_slope_11 : decode cX3_slope 11 = .ok (.aload_n 0, 1) := by decide +kernel
theorem dX3_slope_12 : decode cX3_slope 12 = .ok (.getfield 37, 3) := by decide +kernel
theorem dX3_slope_15 : decode cX3_slope 15 = .ok (.ldc 36, 2) := by decide +kernel
theorem dX3_slope_17 : decode cX3_slope 17 = .ok (.if_icmp .ne 8, 3) := by decide +kernel
theorem dX3_slope_20 : decode cX3_slope 20 = .ok (.ldc 36, 2) := by decide +kernel
theorem dX3_slope_22 : decode cX3_slope 22 = .ok (.goto 9, 3) := by decide +kernel
theorem dX3_slope_25 : decode cX3_slope 25 = .ok (.iload_n 1, 1) := by decide +kernel
theorem dX3_slope_26 : decode cX3_slope 26 = .ok (.aload_n 0, 1) := by decide +kernel
theorem dX3_slope_27 : decode cX3_slope 27 = .ok (.getfield 37, 3) := by decide +kernel
theorem dX3_slope_30 : decode cX3_slope 30 = .ok (.isub, 1) := by decide +kernel
theorem dX3_slope_31 : decode cX3_slope 31 = .ok (.ireturn, 1) := by decide +kernel
theorem dX3_atRank_0 : decode cX3_atRank 0 = .ok (.iconst 0, 1) := by decide +kernel
theorem dX3_atRank_1 : decode cX3_atRank 1 = .ok (.istore_n 3, 1) := by decide +kernel
theorem dX3_atRank_2 : decode cX3_atRank 2 = .ok (.iload_n 3, 1) := by decide +kernel
theorem dX3_atRank_3 : decode cX3_atRank 3 = .ok (.aload_n 0, 1) := by decide +kernel
theorem dX3_atRank_4 : decode cX3_atRank 4 = .ok (.getfield 50, 3) := by decide +kernel
theorem dX3_atRank_7 : decode cX3_atRank 7 = .ok (.if_icmp .ge 32, 3) := by decide +kernel
theorem dX3_atRank_10 : decode cX3_atRank 10 = .ok (.aload_n 0, 1) := by decide +kernel
theorem dX3_atRank_11 : decode cX3_atRank 11 = .ok (.iload_n 3, 1) := by decide +kernel
theorem dX3_atRank_12 : decode cX3_atRank 12 = .ok (.invokevirtual 53, 3) := by decide +kernel
theorem dX3_atRank_15 : decode cX3_atRank 15 = .ok (.invokevirtual 176, 3) := by decide +kernel
theorem dX3_atRank_18 : decode cX3_atRank 18 = .ok (.ifCond .eq 15, 3) := by decide +kernel
theorem dX3_atRank_21 : decode cX3_atRank 21 = .ok (.aload_n 0, 1) := by decide +kernel
theorem dX3_atRank_22 : decode cX3_atRank 22 = .ok (.iload_n 3, 1) := by decide +kernel
theorem dX3_atRank_23 : decode cX3_atRank 23 = .ok (.iload_n 1, 1) := by decide +kernel
theorem dX3_atRank_24 : decode cX3_atRank 24 = .ok (.invokevirtual 179, 3) := by decide +kernel
theorem dX3_atRank_27 : decode cX3_atRank 27 = .ok (.iload_n 2, 1) := by decide +kernel
theorem dX3_atRank_28 : decode cX3_atRank 28 = .ok (.if_icmp .ne 5, 3) := by decide +kernel
theorem dX3_atRank_31 : decode cX3_atRank 31 = .ok (.iload_n 3, 1) := by decide +kernel
theorem dX3_atRank_32 : decode cX3_atRank 32 = .ok (.ireturn, 1) := by decide +kernel
theorem dX3_atRank_33 : decode cX3_atRank 33 = .ok (.iinc 3 1, 3) := by decide +kernel
theorem dX3_atRank_36 : decode cX3_atRank 36 = .ok (.goto (-34), 3) := by decide +kernel
theorem dX3_atRank_39 : decode cX3_atRank 39 = .ok (.ldc 36, 2) := by decide +kernel
theorem dX3_atRank_41 : decode cX3_atRank 41 = .ok (.ireturn, 1) := by decide +kernel
theorem dX3_countAheadOf_0 : decode cX3_countAheadOf 0 = .ok (.aload_n 0, 1) := by decide +kernel
theorem dX3_countAheadOf_1 : decode cX3_countAheadOf 1 = .ok (.iload_n 1, 1) := by decide +kernel
theorem dX3_countAheadOf_2 : decode cX3_countAheadOf 2 = .ok (.iload_n 2, 1) := by decide +kernel
theorem dX3_countAheadOf_3 : decode cX3_countAheadOf 3 = .ok (.invokevirtual 182, 3) := by decide +kernel
theorem dX3_countAheadOf_6 : decode cX3_countAheadOf 6 = .ok (.istore_n 3, 1) := by decide +kernel
theorem dX3_countAheadOf_7 : decode cX3_countAheadOf 7 = .ok (.iconst 0, 1) := by decide +kernel
theorem dX3_countAheadOf_8 : decode cX3_countAheadOf 8 = .ok (.istore 4, 2) := by decide +kernel
theorem dX3_countAheadOf_10 : decode cX3_countAheadOf 10 = .ok (.iconst 0, 1) := by decide +kernel
theorem dX3_countAheadOf_11 : decode cX3_countAheadOf 11 = .ok (.istore 5, 2) := by decide +kernel
theorem dX3_countAheadOf_13 : decode cX3_countAheadOf 13 = .ok (.iload 5, 2) := by decide +kernel
theorem dX3_countAheadOf_15 : decode cX3_countAheadOf 15 = .ok (.aload_n 0, 1) := by decide +kernel
theorem dX3_countAheadOf_16 : decode cX3_countAheadOf 16 = .ok (.getfield 50, 3) := by decide +kernel
theorem dX3_countAheadOf_19 : decode cX3_countAheadOf 19 = .ok (.if_icmp .ge 51, 3) := by decide +kernel
theorem dX3_countAheadOf_22 : decode cX3_countAheadOf 22 = .ok (.aload_n 0, 1) := by decide +kernel
theorem dX3_countAheadOf_23 : decode cX3_countAheadOf 23 = .ok (.iload 5, 2) := by decide +kernel
theorem dX3_countAheadOf_25 : decode cX3_countAheadOf 25 = .ok (.iload_n 2, 1) := by decide +kernel
theorem dX3_countAheadOf_26 : decode cX3_countAheadOf 26 = .ok (.invokevirtual 182, 3) := by decide +kernel
theorem dX3_countAheadOf_29 : decode cX3_countAheadOf 29 = .ok (.istore 6, 2) := by decide +kernel
theorem dX3_countAheadOf_31 : decode cX3_countAheadOf 31 = .ok (.aload_n 0, 1) := by decide +kernel
theorem dX3_countAheadOf_32 : decode cX3_countAheadOf 32 = .ok (.iload 5, 2) := by decide +kernel
theorem dX3_countAheadOf_34 : decode cX3_countAheadOf 34 = .ok (.invokevirtual 53, 3) := by decide +kernel
theorem dX3_countAheadOf_37 : decode cX3_countAheadOf 37 = .ok (.invokevirtual 176, 3) := by decide +kernel
theorem dX3_countAheadOf_40 : decode cX3_countAheadOf 40 = .ok (.ifCond .eq 24, 3) := by decide +kernel
theorem dX3_countAheadOf_43 : decode cX3_countAheadOf 43 = .ok (.iload 6, 2) := by decide +kernel
theorem dX3_countAheadOf_45 : decode cX3_countAheadOf 45 = .ok (.iload_n 3, 1) := by decide +kernel
theorem dX3_countAheadOf_46 : decode cX3_countAheadOf 46 = .ok (.if_icmp .lt 15, 3) := by decide +kernel
theorem dX3_countAheadOf_49 : decode cX3_countAheadOf 49 = .ok (.iload 6, 2) := by decide +kernel
theorem dX3_countAheadOf_51 : decode cX3_countAheadOf 51 = .ok (.iload_n 3, 1) := by decide +kernel
theorem dX3_countAheadOf_52 : decode cX3_countAheadOf 52 = .ok (.if_icmp .ne 12, 3) := by decide +kernel
theorem dX3_countAheadOf_55 : decode cX3_countAheadOf 55 = .ok (.iload 5, 2) := by decide +kernel
theorem dX3_countAheadOf_57 : decode cX3_countAheadOf 57 = .ok (.iload_n 1, 1) := by decide +kernel
theorem dX3_countAheadOf_58 : decode cX3_countAheadOf 58 = .ok (.if_icmp .ge 6, 3) := by decide +kernel
theorem dX3_countAheadOf_61 : decode cX3_countAheadOf 61 = .ok (.iinc 4 1, 3) := by decide +kernel
theorem dX3_countAheadOf_64 : decode cX3_countAheadOf 64 = .ok (.iinc 5 1, 3) := by decide +kernel
theorem dX3_countAheadOf_67 : decode cX3_countAheadOf 67 = .ok (.goto (-54), 3) := by decide +kernel
theorem dX3_countAheadOf_70 : decode cX3_countAheadOf 70 = .ok (.iload 4, 2) := by decide +kernel
theorem dX3_countAheadOf_72 : decode cX3_countAheadOf 72 = .ok (.ireturn, 1) := by decide +kernel
theorem dX3_sortKey_0 : decode cX3_sortKey 0 = .ok (.iload_n 2, 1) := by decide +kernel
theorem dX3_sortKey_1 : decode cX3_sortKey 1 = .ok (.iconst 1, 1) := by decide +kernel
theorem dX3_sortKey_2 : decode cX3_sortKey 2 = .ok (.if_icmp .ne 19, 3) := by decide +kernel
theorem dX3_sortKey_5 : decode cX3_sortKey 5 = .ok (.aload_n 0, 1) := by decide +kernel
theorem dX3_sortKey_6 : decode cX3_sortKey 6 = .ok (.iload_n 1, 1) := by decide +kernel
theorem dX3_sortKey_7 : decode cX3_sortKey 7 = .ok (.invokevirtual 53, 3) := by decide +kernel
theorem dX3_sortKey_10 : decode cX3_sortKey 10 = .ok (.aload_n 0, 1) := by decide +kernel
theorem dX3_sortKey_11 : decode cX3_sortKey 11 = .ok (.getfield 41, 3) := by decide +kernel
theorem dX3_sortKey_14 : decode cX3_sortKey 14 = .ok (.invokevirtual 185, 3) := by decide +kernel
theorem dX3_sortKey_17 : decode cX3_sortKey 17 = .ok (.ineg, 1) := by decide +kernel
theorem dX3_sortKey_18 : decode cX3_sortKey 18 = .ok (.goto 11, 3) := by decide +kernel
theorem dX3_sortKey_21 : decode cX3_sortKey 21 = .ok (.aload_n 0, 1) := by decide +kernel
theorem dX3_sortKey_22 : decode cX3_sortKey 22 = .ok (.iload_n 1, 1) := by decide +kernel
theorem dX3_sortKey_23 : decode cX3_sortKey 23 = .ok (.invokevirtual 53, 3) := by decide +kernel
theorem dX3_sortKey_26 : decode cX3_sortKey 26 = .ok (.getfield 157, 3) := by decide +kernel
theorem dX3_sortKey_29 : decode cX3_sortKey 29 = .ok (.ireturn, 1) := by decide +kernel
theorem dX3_countMended_0 : decode cX3_countMended 0 = .ok (.iconst 0, 1) := by decide +kernel
theorem dX3_countMended_1 : decode cX3_countMended 1 = .ok (.istore_n 1, 1) := by decide +kernel
theorem dX3_countMended_2 : decode cX3_countMended 2 = .ok (.iconst 0, 1) := by decide +kernel
theorem dX3_countMended_3 : decode cX3_countMended 3 = .ok (.istore_n 2, 1) := by decide +kernel
theorem dX3_countMended_4 : decode cX3_countMended 4 = .ok (.iload_n 2, 1) := by decide +kernel
theorem dX3_countMended_5 : decode cX3_countMended 5 = .ok (.aload_n 0, 1) := by decide +kernel
theorem dX3_countMended_6 : decode cX3_countMended 6 = .ok (.getfield 50, 3) := by decide +kernel
theorem dX3_countMended_9 : decode cX3_countMended 9 = .ok (.if_icmp .ge 23, 3) := by decide +kernel
theorem dX3_countMended_12 : decode cX3_countMended 12 = .ok (.aload_n 0, 1) := by decide +kernel
theorem dX3_countMended_13 : decode cX3_countMended 13 = .ok (.iload_n 2, 1) := by decide +kernel
theorem dX3_countMended_14 : decode cX3_countMended 14 = .ok (.invokevirtual 53, 3) := by decide +kernel
theorem dX3_countMended_17 : decode cX3_countMended 17 = .ok (.invokevirtual 176, 3) := by decide +kernel
theorem dX3_countMended_20 : decode cX3_countMended 20 = .ok (.ifCond .eq 6, 3) := by decide +kernel
theorem dX3_countMended_23 : decode cX3_countMended 23 = .ok (.iinc 1 1, 3) := by decide +kernel
theorem dX3_countMended_26 : decode cX3_countMended 26 = .ok (.iinc 2 1, 3) := by decide +kernel
theorem dX3_countMended_29 : decode cX3_countMended 29 = .ok (.goto (-25), 3) := by decide +kernel
theorem dX3_countMended_32 : decode cX3_countMended 32 = .ok (.iload_n 1, 1) := by decide +kernel
theorem dX3_countMended_33 : decode cX3_countMended 33 = .ok (.ireturn, 1) := by decide +kernel
theorem dX3_countMendedIn_0 : decode cX3_countMendedIn 0 = .ok (.iconst 0, 1) := by decide +kernel
theorem dX3_countMendedIn_1 : decode cX3_countMendedIn 1 = .ok (.istore_n 3, 1) := by decide +kernel
theorem dX3_countMendedIn_2 : decode cX3_countMendedIn 2 = .ok (.iconst 0, 1) := by decide +kernel
theorem dX3_countMendedIn_3 : decode cX3_countMendedIn 3 = .ok (.istore 4, 2) := by decide +kernel
theorem dX3_countMendedIn_5 : decode cX3_countMendedIn 5 = .ok (.iload 4, 2) := by decide +kernel
theorem dX3_countMendedIn_7 : decode cX3_countMendedIn 7 = .ok (.aload_n 0, 1) := by decide +kernel
theorem dX3_countMendedIn_8 : decode cX3_countMendedIn 8 = .ok (.getfield 50, 3) := by decide +kernel
theorem dX3_countMendedIn_11 : decode cX3_countMendedIn 11 = .ok (.if_icmp .ge 50, 3) := by decide +kernel
theorem dX3_countMendedIn_14 : decode cX3_countMendedIn 14 = .ok (.aload_n 0, 1) := by decide +kernel
theorem dX3_countMendedIn_15 : decode cX3_countMendedIn 15 = .ok (.iload 4, 2) := by decide +kernel
theorem dX3_countMendedIn_17 : decode cX3_countMendedIn 17 = .ok (.invokevirtual 53, 3) := by decide +kernel
theorem dX3_countMendedIn_20 : decode cX3_countMendedIn 20 = .ok (.invokevirtual 176, 3) := by decide +kernel
theorem dX3_countMendedIn_23 : decode cX3_countMendedIn 23 = .ok (.ifCond .eq 32, 3) := by decide +kernel
theorem dX3_countMendedIn_26 : decode cX3_countMendedIn 26 = .ok (.aload_n 0, 1) := by decide +kernel
theorem dX3_countMendedIn_27 : decode cX3_countMendedIn 27 = .ok (.iload 4, 2) := by decide +kernel
theorem dX3_countMendedIn_29 : decode cX3_countMendedIn 29 = .ok (.invokevirtual 53, 3) := by decide +kernel
theorem dX3_countMendedIn_32 : decode cX3_countMendedIn 32 = .ok (.getfield 157, 3) := by decide +kernel
theorem dX3_countMendedIn_35 : decode cX3_countMendedIn 35 = .ok (.iload_n 1, 1) := by decide +kernel
theorem dX3_countMendedIn_36 : decode cX3_countMendedIn 36 = .ok (.if_icmp .lt 19, 3) := by decide +kernel
theorem dX3_countMendedIn_39 : decode cX3_countMendedIn 39 = .ok (.aload_n 0, 1) := by decide +kernel
theorem dX3_countMendedIn_40 : decode cX3_countMendedIn 40 = .ok (.iload 4, 2) := by decide +kernel
theorem dX3_countMendedIn_42 : decode cX3_countMendedIn 42 = .ok (.invokevirtual 53, 3) := by decide +kernel
theorem dX3_countMendedIn_45 : decode cX3_countMendedIn 45 = .ok (.getfield 157, 3) := by decide +kernel
theorem dX3_countMendedIn_48 : decode cX3_countMendedIn 48 = .ok (.iload_n 2, 1) := by decide +kernel
theorem dX3_countMendedIn_49 : decode cX3_countMendedIn 49 = .ok (.if_icmp .gt 6, 3) := by decide +kernel
theorem dX3_countMendedIn_52 : decode cX3_countMendedIn 52 = .ok (.iinc 3 1, 3) := by decide +kernel
theorem dX3_countMendedIn_55 : decode cX3_countMendedIn 55 = .ok (.iinc 4 1, 3) := by decide +kernel
theorem dX3_countMendedIn_58 : decode cX3_countMendedIn 58 = .ok (.goto (-53), 3) := by decide +kernel
theorem dX3_countMendedIn_61 : decode cX3_countMendedIn 61 = .ok (.iload_n 3, 1) := by decide +kernel
theorem dX3_countMendedIn_62 : decode cX3_countMendedIn 62 = .ok (.ireturn, 1) := by decide +kernel
theorem dX3_sumOfErrors_0 : decode cX3_sumOfErrors 0 = .ok (.iconst 0, 1) := by decide +kernel
theorem dX3_sumOfErrors_1 : decode cX3_sumOfErrors 1 = .ok (.istore_n 1, 1) := by decide +kernel
theorem dX3_sumOfErrors_2 : decode cX3_sumOfErrors 2 = .ok (.iconst 0, 1) := by decide +kernel
theorem dX3_sumOfErrors_3 : decode cX3_sumOfErrors 3 = .ok (.istore_n 2, 1) := by decide +kernel
theorem dX3_sumOfErrors_4 : decode cX3_sumOfErrors 4 = .ok (.iload_n 2, 1) := by decide +kernel
theorem dX3_sumOfErrors_5 : decode cX3_sumOfErrors 5 = .ok (.aload_n 0, 1) := by decide +kernel
theorem dX3_sumOfErrors_6 : decode cX3_sumOfErrors 6 = .ok (.getfield 50, 3) := by decide +kernel
theorem dX3_sumOfErrors_9 : decode cX3_sumOfErrors 9 = .ok (.if_icmp .ge 35, 3) := by decide +kernel
theorem dX3_sumOfErrors_12 : decode cX3_sumOfErrors 12 = .ok (.aload_n 0, 1) := by decide +kernel
theorem dX3_sumOfErrors_13 : decode cX3_sumOfErrors 13 = .ok (.iload_n 2, 1) := by decide +kernel
theorem dX3_sumOfErrors_14 : decode cX3_sumOfErrors 14 = .ok (.invokevirtual 53, 3) := by decide +kernel
theorem dX3_sumOfErrors_17 : decode cX3_sumOfErrors 17 = .ok (.invokevirtual 176, 3) := by decide +kernel
theorem dX3_sumOfErrors_20 : decode cX3_sumOfErrors 20 = .ok (.ifCond .eq 18, 3) := by decide +kernel
theorem dX3_sumOfErrors_23 : decode cX3_sumOfErrors 23 = .ok (.iload_n 1, 1) := by decide +kernel
theorem dX3_sumOfErrors_24 : decode cX3_sumOfErrors 24 = .ok (.aload_n 0, 1) := by decide +kernel
theorem dX3_sumOfErrors_25 : decode cX3_sumOfErrors 25 = .ok (.iload_n 2, 1) := by decide +kernel
theorem dX3_sumOfErrors_26 : decode cX3_sumOfErrors 26 = .ok (.invokevirtual 53, 3) := by decide +kernel
theorem dX3_sumOfErrors_29 : decode cX3_sumOfErrors 29 = .ok (.aload_n 0, 1) := by decide +kernel
theorem dX3_sumOfErrors_30 : decode cX3_sumOfErrors 30 = .ok (.getfield 41, 3) := by decide +kernel
theorem dX3_sumOfErrors_33 : decode cX3_sumOfErrors 33 = .ok (.invokevirtual 185, 3) := by decide +kernel
theorem dX3_sumOfErrors_36 : decode cX3_sumOfErrors 36 = .ok (.iadd, 1) := by decide +kernel
theorem dX3_sumOfErrors_37 : decode cX3_sumOfErrors 37 = .ok (.istore_n 1, 1) := by decide +kernel
theorem dX3_sumOfErrors_38 : decode cX3_sumOfErrors 38 = .ok (.iinc 2 1, 3) := by decide +kernel
theorem dX3_sumOfErrors_41 : decode cX3_sumOfErrors 41 = .ok (.goto (-37), 3) := by decide +kernel
theorem dX3_sumOfErrors_44 : decode cX3_sumOfErrors 44 = .ok (.iload_n 1, 1) := by decide +kernel
theorem dX3_sumOfErrors_45 : decode cX3_sumOfErrors 45 = .ok (.ireturn, 1) := by decide +kernel
theorem dX3_greatestDistance_0 : decode cX3_greatestDistance 0 = .ok (.iconst 0, 1) := by decide +kernel
theorem dX3_greatestDistance_1 : decode cX3_greatestDistance 1 = .ok (.istore_n 1, 1) := by decide +kernel
theorem dX3_greatestDistance_2 : decode cX3_greatestDistance 2 = .ok (.iconst 0, 1) := by decide +kernel
theorem dX3_greatestDistance_3 : decode cX3_greatestDistance 3 = .ok (.istore_n 2, 1) := by decide +kernel
theorem dX3_greatestDistance_4 : decode cX3_greatestDistance 4 = .ok (.iload_n 2, 1) := by decide +kernel
theorem dX3_greatestDistance_5 : decode cX3_greatestDistance 5 = .ok (.aload_n 0, 1) := by decide +kernel
theorem dX3_greatestDistance_6 : decode cX3_greatestDistance 6 = .ok (.getfield 50, 3) := by decide +kernel
theorem dX3_greatestDistance_9 : decode cX3_greatestDistance 9 = .ok (.if_icmp .ge 26, 3) := by decide +kernel
theorem dX3_greatestDistance_12 : decode cX3_greatestDistance 12 = .ok (.iload_n 1, 1) := by decide +kernel
theorem dX3_greatestDistance_13 : decode cX3_greatestDistance 13 = .ok (.aload_n 0, 1) := by decide +kernel
theorem dX3_greatestDistance_14 : decode cX3_greatestDistance 14 = .ok (.iload_n 2, 1) := by decide +kernel
theorem dX3_greatestDistance_15 : decode cX3_greatestDistance 15 = .ok (.invokevirtual 53, 3) := by decide +kernel
theorem dX3_greatestDistance_18 : decode cX3_greatestDistance 18 = .ok (.aload_n 0, 1) := by decide +kernel
theorem dX3_greatestDistance_19 : decode cX3_greatestDistance 19 = .ok (.getfield 41, 3) := by decide +kernel
theorem dX3_greatestDistance_22 : decode cX3_greatestDistance 22 = .ok (.invokevirtual 188, 3) := by decide +kernel
theorem dX3_greatestDistance_25 : decode cX3_greatestDistance 25 = .ok (.invokestatic 98, 3) := by decide +kernel
theorem dX3_greatestDistance_28 : decode cX3_greatestDistance 28 = .ok (.istore_n 1, 1) := by decide +kernel
theorem dX3_greatestDistance_29 : decode cX3_greatestDistance 29 = .ok (.iinc 2 1, 3) := by decide +kernel
theorem dX3_greatestDistance_32 : decode cX3_greatestDistance 32 = .ok (.goto (-28), 3) := by decide +kernel
theorem dX3_greatestDistance_35 : decode cX3_greatestDistance 35 = .ok (.iload_n 1, 1) := by decide +kernel
theorem dX3_greatestDistance_36 : decode cX3_greatestDistance 36 = .ok (.ireturn, 1) := by decide +kernel
theorem dX4_init_0 : decode cX4_init 0 = .ok (.aload_n 0, 1) := by decide +kernel
theorem dX4_init_1 : decode cX4_init 1 = .ok (.invokespecial 1, 3) := by decide +kernel
theorem dX4_init_4 : decode cX4_init 4 = .ok (.aload_n 0, 1) := by decide +kernel
theorem dX4_init_5 : decode cX4_init 5 = .ok (.new 7, 3) := by decide +kernel
theorem dX4_init_8 : decode cX4_init 8 = .ok (.dup, 1) := by decide +kernel
theorem dX4_init_9 : decode cX4_init 9 = .ok (.invokespecial 9, 3) := by decide +kernel
theorem dX4_init_12 : decode cX4_init 12 = .ok (.putfield 10, 3) := by decide +kernel
theorem dX4_init_15 : decode cX4_init 15 = .ok (.return_, 1) := by decide +kernel
theorem dX5_init_0 : decode cX5_init 0 = .ok (.aload_n 0, 1) := by decide +kernel
theorem dX5_init_1 : decode cX5_init 1 = .ok (.invokespecial 3, 3) := by decide +kernel
theorem dX5_init_4 : decode cX5_init 4 = .ok (.aload_n 0, 1) := by decide +kernel
theorem dX5_init_5 : decode cX5_init 5 = .ok (.bipush 6, 2) := by decide +kernel
theorem dX5_init_7 : decode cX5_init 7 = .ok (.newarray .int, 2) := by decide +kernel
theorem dX5_init_9 : decode cX5_init 9 = .ok (.putfield 9, 3) := by decide +kernel
theorem dX5_init_12 : decode cX5_init 12 = .ok (.aload_n 0, 1) := by decide +kernel
theorem dX5_init_13 : decode cX5_init 13 = .ok (.bipush 6, 2) := by decide +kernel
theorem dX5_init_15 : decode cX5_init 15 = .ok (.newarray .int, 2) := by decide +kernel
theorem dX5_init_17 : decode cX5_init 17 = .ok (.putfield 15, 3) := by decide +kernel
theorem dX5_init_20 : decode cX5_init 20 = .ok (.aload_n 0, 1) := by decide +kernel
theorem dX5_init_21 : decode cX5_init 21 = .ok (.iconst 1, 1) := by decide +kernel
theorem dX5_init_22 : decode cX5_init 22 = .ok (.putfield 18, 3) := by decide +kernel
theorem dX5_init_25 : decode cX5_init 25 = .ok (.aload_n 0, 1) := by decide +kernel
theorem dX5_init_26 : decode cX5_init 26 = .ok (.iconst 1, 1) := by decide +kernel
theorem dX5_init_27 : decode cX5_init 27 = .ok (.putfield 22, 3) := by decide +kernel
theorem dX5_init_30 : decode cX5_init 30 = .ok (.aload_n 0, 1) := by decide +kernel
theorem dX5_init_31 : decode cX5_init 31 = .ok (.ldc 25, 2) := by decide +kernel
theorem dX5_init_33 : decode cX5_init 33 = .ok (.putfield 26, 3) := by decide +kernel
theorem dX5_init_36 : decode cX5_init 36 = .ok (.return_, 1) := by decide +kernel
theorem dX5_begin_0 : decode cX5_begin 0 = .ok (.aload_n 0, 1) := by decide +kernel
theorem dX5_begin_1 : decode cX5_begin 1 = .ok (.iload_n 1, 1) := by decide +kernel
theorem dX5_begin_2 : decode cX5_begin 2 = .ok (.putfield 29, 3) := by decide +kernel
theorem dX5_begin_5 : decode cX5_begin 5 = .ok (.aload_n 0, 1) := by decide +kernel
theorem dX5_begin_6 : decode cX5_begin 6 = .ok (.iload_n 2, 1) := by decide +kernel
theorem dX5_begin_7 : decode cX5_begin 7 = .ok (.putfield 18, 3) := by decide +kernel
theorem dX5_begin_10 : decode cX5_begin 10 = .ok (.aload_n 0, 1) := by decide +kernel
theorem dX5_begin_11 : decode cX5_begin 11 = .ok (.iload_n 3, 1) := by decide +kernel
theorem dX5_begin_12 : decode cX5_begin 12 = .ok (.putfield 32, 3) := by decide +kernel
theorem dX5_begin_15 : decode cX5_begin 15 = .ok (.aload_n 0, 1) := by decide +kernel
theorem dX5_begin_16 : decode cX5_begin 16 = .ok (.iload 4, 2) := by decide +kernel
theorem dX5_begin_18 : decode cX5_begin 18 = .ok (.putfield 22, 3) := by decide +kernel
theorem dX5_begin_21 : decode cX5_begin 21 = .ok (.aload_n 0, 1) := by decide +kernel
theorem dX5_begin_22 : decode cX5_begin 22 = .ok (.iconst 0, 1) := by decide +kernel
theorem dX5_begin_23 : decode cX5_begin 23 = .ok (.putfield 35, 3) := by decide +kernel
theorem dX5_begin_26 : decode cX5_begin 26 = .ok (.aload_n 0, 1) := by decide +kernel
theorem dX5_begin_27 : decode cX5_begin 27 = .ok (.iload 5, 2) := by decide +kernel
theorem dX5_begin_29 : decode cX5_begin 29 = .ok (.invokevirtual 38, 3) := by decide +kernel
theorem dX5_begin_32 : decode cX5_begin 32 = .ok (.return_, 1) := by decide +kernel
theorem dX5_startAfresh_0 : decode cX5_startAfresh 0 = .ok (.aload_n 0, 1) := by decide +kernel
theorem dX5_startAfresh_1 : decode cX5_startAfresh 1 = .ok (.iload_n 1, 1) := by decide +kernel
theorem dX5_startAfresh_2 : decode cX5_startAfresh 2 = .ok (.aload_n 0, 1) := by decide +kernel
theorem dX5_startAfresh_3 : decode cX5_startAfresh 3 = .ok (.getfield 32, 3) := by decide +kernel
theorem dX5_startAfresh_6 : decode cX5_startAfresh 6 = .ok (.iadd, 1) := by decide +kernel
theorem dX5_startAfresh_7 : decode cX5_startAfresh 7 = .ok (.putfield 42, 3) := by decide +kernel
theorem dX5_startAfresh_10 : decode cX5_startAfresh 10 = .ok (.aload_n 0, 1) := by decide +kernel
theorem dX5_startAfresh_11 : decode cX5_startAfresh 11 = .ok (.iconst 0, 1) := by decide +kernel
theorem dX5_startAfresh_12 : decode cX5_startAfresh 12 = .ok (.putfield 45, 3) := by decide +kernel
theorem dX5_startAfresh_15 : decode cX5_startAfresh 15 = .ok (.aload_n 0, 1) := by decide +kernel
theorem dX5_startAfresh_16 : decode cX5_startAfresh 16 = .ok (.ldc 25, 2) := by decide +kernel
theorem dX5_startAfresh_18 : decode cX5_startAfresh 18 = .ok (.putfield 26, 3) := by decide +kernel
theorem dX5_startAfresh_21 : decode cX5_startAfresh 21 = .ok (.aload_n 0, 1) := by decide +kernel
theorem dX5_startAfresh_22 : decode cX5_startAfresh 22 = .ok (.iconst 0, 1) := by decide +kernel
theorem dX5_startAfresh_23 : decode cX5_startAfresh 23 = .ok (.putfield 48, 3) := by decide +kernel
theorem dX5_startAfresh_26 : decode cX5_startAfresh 26 = .ok (.aload_n 0, 1) := by decide +kernel
theorem dX5_startAfresh_27 : decode cX5_startAfresh 27 = .ok (.iconst 0, 1) := by decide +kernel
theorem dX5_startAfresh_28 : decode cX5_startAfresh 28 = .ok (.putfield 51, 3) := by decide +kernel
theorem dX5_startAfresh_31 : decode cX5_startAfresh 31 = .ok (.return_, 1) := by decide +kernel
theorem dX5_copyFrom_0 : decode cX5_copyFrom 0 = .ok (.aload_n 0, 1) := by decide +kernel
theorem dX5_copyFrom_1 : decode cX5_copyFrom 1 = .ok (.getfield 9, 3) := by decide +kernel
theorem dX5_copyFrom_4 : decode cX5_copyFrom 4 = .ok (.aload_n 1, 1) := by decide +kernel
theorem dX5_copyFrom_5 : decode cX5_copyFrom 5 = .ok (.getfield 9, 3) := by decide +kernel
theorem dX5_copyFrom_8 : decode cX5_copyFrom 8 = .ok (.invokestatic 55, 3) := by decide +kernel
theorem dX5_copyFrom_11 : decode cX5_copyFrom 11 = .ok (.aload_n 0, 1) := by decide +kernel
theorem dX5_copyFrom_12 : decode cX5_copyFrom 12 = .ok (.getfield 15, 3) := by decide +kernel
theorem dX5_copyFrom_15 : decode cX5_copyFrom 15 = .ok (.aload_n 1, 1) := by decide +kernel
theorem dX5_copyFrom_16 : decode cX5_copyFrom 16 = .ok (.getfield 15, 3) := by decide +kernel
theorem dX5_copyFrom_19 : decode cX5_copyFrom 19 = .ok (.invokestatic 55, 3) := by decide +kernel
theorem dX5_copyFrom_22 : decode cX5_copyFrom 22 = .ok (.aload_n 0, 1) := by decide +kernel
theorem dX5_copyFrom_23 : decode cX5_copyFrom 23 = .ok (.aload_n 1, 1) := by decide +kernel
theorem dX5_copyFrom_24 : decode cX5_copyFrom 24 = .ok (.getfield 45, 3) := by decide +kernel
theorem dX5_copyFrom_27 : decode cX5_copyFrom 27 = .ok (.putfield 45, 3) := by decide +kernel
theorem dX5_copyFrom_30 : decode cX5_copyFrom 30 = .ok (.aload_n 0, 1) := by decide +kernel
theorem dX5_copyFrom_31 : decode cX5_copyFrom 31 = .ok (.aload_n 1, 1) := by decide +kernel
theorem dX5_copyFrom_32 : decode cX5_copyFrom 32 = .ok (.getfield 18, 3) := by decide +kernel
theorem dX5_copyFrom_35 : decode cX5_copyFrom 35 = .ok (.putfield 18, 3) := by decide +kernel
theorem dX5_copyFrom_38 : decode cX5_copyFrom 38 = .ok (.aload_n 0, 1) := by decide +kernel
theorem dX5_copyFrom_39 : decode cX5_copyFrom 39 = .ok (.aload_n 1, 1) := by decide +kernel
theorem dX5_copyFrom_40 : decode cX5_copyFrom 40 = .ok (.getfield 32, 3) := by decide +kernel
theorem dX5_copyFrom_43 : decode cX5_copyFrom 43 = .ok (.putfield 32, 3) := by decide +kernel
theorem dX5_copyFrom_46 : decode cX5_copyFrom 46 = .ok (.aload_n 0, 1) := by decide +kernel
theorem dX5_copyFrom_47 : decode cX5_copyFrom 47 = .ok (.aload_n 1, 1) := by decide +kernel
theorem dX5_copyFrom_48 : decode cX5_copyFrom 48 = .ok (.getfield 51, 3) := by decide +kernel
theorem dX5_copyFrom_51 : decode cX5_copyFrom 51 = .ok (.putfield 51, 3) := by decide +kernel
theorem dX5_copyFrom_54 : decode cX5_copyFrom 54 = .ok (.aload_n 0, 1) := by decide +kernel
theorem dX5_copyFrom_55 : decode cX5_copyFrom 55 = .ok (.aload_n 1, 1) := by decide +kernel
theorem dX5_copyFrom_56 : decode cX5_copyFrom 56 = .ok (.getfield 29, 3) := by decide +kernel
theorem dX5_copyFrom_59 : decode cX5_copyFrom 59 = .ok (.putfield 29, 3) := by decide +kernel
theorem dX5_copyFrom_62 : decode cX5_copyFrom 62 = .ok (.aload_n 0, 1) := by decide +kernel
theorem dX5_copyFrom_63 : decode cX5_copyFrom 63 = .ok (.aload_n 1, 1) := by decide +kernel
theorem dX5_copyFrom_64 : decode cX5_copyFrom 64 = .ok (.getfield 22, 3) := by decide +kernel
theorem dX5_copyFrom_67 : decode cX5_copyFrom 67 = .ok (.putfield 22, 3) := by decide +kernel
theorem dX5_copyFrom_70 : decode cX5_copyFrom 70 = .ok (.aload_n 0, 1) := by decide +kernel
theorem dX5_copyFrom_71 : decode cX5_copyFrom 71 = .ok (.aload_n 1, 1) := by decide +kernel
theorem dX5_copyFrom_72 : decode cX5_copyFrom 72 = .ok (.getfield 42, 3) := by decide +kernel
theorem dX5_copyFrom_75 : decode cX5_copyFrom 75 = .ok (.putfield 42, 3) := by decide +kernel
theorem dX5_copyFrom_78 : decode cX5_copyFrom 78 = .ok (.aload_n 0, 1) := by decide +kernel
theorem dX5_copyFrom_79 : decode cX5_copyFrom 79 = .ok (.aload_n 1, 1) := by decide +kernel
theorem dX5_copyFrom_80 : decode cX5_copyFrom 80 = .ok (.getfield 48, 3) := by decide +kernel
theorem dX5_copyFrom_83 : decode cX5_copyFrom 83 = .ok (.putfield 48, 3) := by decide +kernel
theorem dX5_copyFrom_86 : decode cX5_copyFrom 86 = .ok (.aload_n 0, 1) := by decide +kernel
theorem dX5_copyFrom_87 : decode cX5_copyFrom 87 = .ok (.aload_n 1, 1) := by decide +kernel
theorem dX5_copyFrom_88 : decode cX5_copyFrom 88 = .ok (.getfield 35, 3) := by decide +kernel
theorem dX5_copyFrom_91 : decode cX5_copyFrom 91 = .ok (.putfield 35, 3) := by decide +kernel
theorem dX5_copyFrom_94 : decode cX5_copyFrom 94 = .ok (.aload_n 0, 1) := by decide +kernel
theorem dX5_copyFrom_95 : decode cX5_copyFrom 95 = .ok (.aload_n 1, 1) := by decide +kernel
theorem dX5_copyFrom_96 : decode cX5_copyFrom 96 = .ok (.getfield 26, 3) := by decide +kernel
theorem dX5_copyFrom_99 : decode cX5_copyFrom 99 = .ok (.putfield 26, 3) := by decide +kernel
theorem dX5_copyFrom_102 : decode cX5_copyFrom 102 = .ok (.return_, 1) := by decide +kernel
theorem dX5_follow_0 : decode cX5_follow 0 = .ok (.aload_n 0, 1) := by decide +kernel
theorem dX5_follow_1 : decode cX5_follow 1 = .ok (.dup, 1) := by decide +kernel
theorem dX5_follow_2 : decode cX5_follow 2 = .ok (.getfield 42, 3) := by decide +kernel
theorem dX5_follow_5 : decode cX5_follow 5 = .ok (.aload_n 0, 1) := by decide +kernel
theorem dX5_follow_6 : decode cX5_follow 6 = .ok (.aload_n 0, 1) := by decide +kernel
theorem dX5_follow_7 : decode cX5_follow 7 = .ok (.getfield 42, 3) := by decide +kernel
theorem dX5_follow_10 : decode cX5_follow 10 = .ok (.iload_n 1, 1) := by decide +kernel
theorem dX5_follow_11 : decode cX5_follow 11 = .ok (.invokevirtual 59, 3) := by decide +kernel
theorem dX5_follow_14 : decode cX5_follow 14 = .ok (.iadd, 1) := by decide +kernel
theorem dX5_follow_15 : decode cX5_follow 15 = .ok (.putfield 42, 3) := by decide +kernel
theorem dX5_follow_18 : decode cX5_follow 18 = .ok (.return_, 1) := by decide +kernel
theorem dX5_stepFrom_0 : decode cX5_stepFrom 0 = .ok (.iload_n 2, 1) := by decide +kernel
theorem dX5_stepFrom_1 : decode cX5_stepFrom 1 = .ok (.aload_n 0, 1) := by decide +kernel
theorem dX5_stepFrom_2 : decode cX5_stepFrom 2 = .ok (.getfield 32, 3) := by decide +kernel
theorem dX5_stepFrom_5 : decode cX5_stepFrom 5 = .ok (.iadd, 1) := by decide +kernel
theorem dX5_stepFrom_6 : decode cX5_stepFrom 6 = .ok (.iload_n 1, 1) := by decide +kernel
theorem dX5_stepFrom_7 : decode cX5_stepFrom 7 = .ok (.isub, 1) := by decide +kernel
theorem dX5_stepFrom_8 : decode cX5_stepFrom 8 = .ok (.aload_n 0, 1) := by decide +kernel
theorem dX5_stepFrom_9 : decode cX5_stepFrom 9 = .ok (.getfield 18, 3) := by decide +kernel
theorem dX5_stepFrom_12 : decode cX5_stepFrom 12 = .ok (.invokestatic 63, 3) := by decide +kernel
theorem dX5_stepFrom_15 : decode cX5_stepFrom 15 = .ok (.ireturn, 1) := by decide +kernel
theorem dX5_hoursUntilStill_0 : decode cX5_hoursUntilStill 0 = .ok (.aload_n 0, 1) := by decide +kernel
theorem dX5_hoursUntilStill_1 : decode cX5_hoursUntilStill 1 = .ok (.getfield 42, 3) := by decide +kernel
theorem dX5_hoursUntilStill_4 : decode cX5_hoursUntilStill 4 = .ok (.istore_n 2, 1) := by decide +kernel
theorem dX5_hoursUntilStill_5 : decode cX5_hoursUntilStill 5 = .ok (.iconst 0, 1) := by decide +kernel
theorem dX5_hoursUntilStill_6 : decode cX5_hoursUntilStill 6 = .ok (.istore_n 3, 1) := by decide +kernel
theorem dX5_hoursUntilStill_7 : decode cX5_hoursUntilStill 7 = .ok (.iload_n 3, 1) := by decide +kernel
theorem dX5_hoursUntilStill_8 : decode cX5_hoursUntilStill 8 = .ok (.ldc 66, 2) := by decide +kernel
theorem dX5_hoursUntilStill_10 : decode cX5_hoursUntilStill 10 = .ok (.if_icmp .ge 29, 3) := by decide +kernel
theorem dX5_hoursUntilStill_13 : decode cX5_hoursUntilStill 13 = .ok (.aload_n 0, 1) := by decide +kernel
theorem dX5_hoursUntilStill_14 : decode cX5_hoursUntilStill 14 = .ok (.iload_n 2, 1) := by decide +kernel
theorem dX5_hoursUntilStill_15 : decode cX5_hoursUntilStill 15 = .ok (.iload_n 1, 1) := by decide +kernel
theorem dX5_hoursUntilStill_16 : decode cX5_hoursUntilStill 16 = .ok (.invokevirtual 59, 3) := by decide +kernel
theorem dX5_hoursUntilStill_19 : decode cX5_hoursUntilStill 19 = .ok (.istore 4, 2) := by decide +kernel
theorem dX5_hoursUntilStill_21 : decode cX5_hoursUntilStill 21 = .ok (.iload 4, 2) := by decide +kernel
theorem dX5_hoursUntilStill_23 : decode cX5_hoursUntilStill 23 = .ok (.ifCond .ne 5, 3) := by decide +kernel
theorem dX5_hoursUntilStill_26 : decode cX5_hoursUntilStill 26 = .ok (.iload_n 3, 1) := by decide +kernel
theorem dX5_hoursUntilStill_27 : decode cX5_hoursUntilStill 27 = .ok (.ireturn, 1) := by decide +kernel
theorem dX5_hoursUntilStill_28 : decode cX5_hoursUntilStill 28 = .ok (.iload_n 2, 1) := by decide +kernel
theorem dX5_hoursUntilStill_29 : decode cX5_hoursUntilStill 29 = .ok (.iload 4, 2) := by decide +kernel
theorem dX5_hoursUntilStill_31 : decode cX5_hoursUntilStill 31 = .ok (.iadd, 1) := by decide +kernel
theorem dX5_hoursUntilStill_32 : decode cX5_hoursUntilStill 32 = .ok (.istore_n 2, 1) := by decide +kernel
theorem dX5_hoursUntilStill_33 : decode cX5_hoursUntilStill 33 = .ok (.iinc 3 1, 3) := by decide +kernel
theorem dX5_hoursUntilStill_36 : decode cX5_hoursUntilStill 36 = .ok (.goto (-29), 3) := by decide +kernel
theorem dX5_hoursUntilStill_39 : decode cX5_hoursUntilStill 39 = .ok (.ldc 66, 2) := by decide +kernel
theorem dX5_hoursUntilStill_41 : decode cX5_hoursUntilStill 41 = .ok (.ireturn, 1) := by decide +kernel
theorem dX5_takeReading_0 : decode cX5_takeReading 0 = .ok (.aload_n 0, 1) := by decide +kernel
theorem dX5_takeReading_1 : decode cX5_takeReading 1 = .ok (.getfield 9, 3) := by decide +kernel
theorem dX5_takeReading_4 : decode cX5_takeReading 4 = .ok (.iload_n 1, 1) := by decide +kernel
theorem dX5_takeReading_5 : decode cX5_takeReading 5 = .ok (.invokestatic 67, 3) := by decide +kernel
theorem dX5_takeReading_8 : decode cX5_takeReading 8 = .ok (.aload_n 0, 1) := by decide +kernel
theorem dX5_takeReading_9 : decode cX5_takeReading 9 = .ok (.getfield 15, 3) := by decide +kernel
theorem dX5_takeReading_12 : decode cX5_takeReading 12 = .ok (.aload_n 0, 1) := by decide +kernel
theorem dX5_takeReading_13 : decode cX5_takeReading 13 = .ok (.getfield 42, 3) := by decide +kernel
theorem dX5_takeReading_16 : decode cX5_takeReading 16 = .ok (.invokestatic 67, 3) := by decide +kernel
theorem dX5_takeReading_19 : decode cX5_takeReading 19 = .ok (.aload_n 0, 1) := by decide +kernel
theorem dX5_takeReading_20 : decode cX5_takeReading 20 = .ok (.aload_n 0, 1) := by decide +kernel
theorem dX5_takeReading_21 : decode cX5_takeReading 21 = .ok (.getfield 45, 3) := by decide +kernel
theorem dX5_takeReading_24 : decode cX5_takeReading 24 = .ok (.iconst 1, 1) := by decide +kernel
theorem dX5_takeReading_25 : decode cX5_takeReading 25 = .ok (.iadd, 1) := by decide +kernel
theorem dX5_takeReading_26 : decode cX5_takeReading 26 = .ok (.bipush 6, 2) := by decide +kernel
theorem dX5_takeReading_28 : decode cX5_takeReading 28 = .ok (.invokestatic 71, 3) := by decide +kernel
theorem dX5_takeReading_31 : decode cX5_takeReading 31 = .ok (.putfield 45, 3) := by decide +kernel
theorem dX5_takeReading_34 : decode cX5_takeReading 34 = .ok (.aload_n 0, 1) := by decide +kernel
theorem dX5_takeReading_35 : decode cX5_takeReading 35 = .ok (.aload_n 0, 1) := by decide +kernel
theorem dX5_takeReading_36 : decode cX5_takeReading 36 = .ok (.aload_n 0, 1) := by decide +kernel
theorem dX5_takeReading_37 : decode cX5_takeReading 37 = .ok (.getfield 18, 3) := by decide +kernel
theorem dX5_takeReading_40 : decode cX5_takeReading 40 = .ok (.invokevirtual 76, 3) := by decide +kernel
theorem dX5_takeReading_43 : decode cX5_takeReading 43 = .ok (.putfield 26, 3) := by decide +kernel
theorem dX5_takeReading_46 : decode cX5_takeReading 46 = .ok (.return_, 1) := by decide +kernel
theorem dX5_hourAgo_0 : decode cX5_hourAgo 0 = .ok (.iload_n 1, 1) := by decide +kernel
theorem dX5_hourAgo_1 : decode cX5_hourAgo 1 = .ok (.aload_n 0, 1) := by decide +kernel
theorem dX5_hourAgo_2 : decode cX5_hourAgo 2 = .ok (.getfield 45, 3) := by decide +kernel
theorem dX5_hourAgo_5 : decode cX5_hourAgo 5 = .ok (.if_icmp .ge 14, 3) := by decide +kernel
theorem dX5_hourAgo_8 : decode cX5_hourAgo 8 = .ok (.aload_n 0, 1) := by decide +kernel
theorem dX5_hourAgo_9 : decode cX5_hourAgo 9 = .ok (.getfield 9, 3) := by decide +kernel
theorem dX5_hourAgo_12 : decode cX5_hourAgo 12 = .ok (.iload_n 1, 1) := by decide +kernel
theorem dX5_hourAgo_13 : decode cX5_hourAgo 13 = .ok (.invokestatic 80, 3) := by decide +kernel
theorem dX5_hourAgo_16 : decode cX5_hourAgo 16 = .ok (.goto 5, 3) := by decide +kernel
theorem dX5_hourAgo_19 : decode cX5_hourAgo 19 = .ok (.ldc 25, 2) := by decide +kernel
theorem dX5_hourAgo_21 : decode cX5_hourAgo 21 = .ok (.ireturn, 1) := by decide +kernel
theorem dX5_valueAgo_0 : decode cX5_valueAgo 0 = .ok (.iload_n 1, 1) := by decide +kernel
theorem dX5_valueAgo_1 : decode cX5_valueAgo 1 = .ok (.aload_n 0, 1) := by decide +kernel
theorem dX5_valueAgo_2 : decode cX5_valueAgo 2 = .ok (.getfield 45, 3) := by decide +kernel
theorem dX5_valueAgo_5 : decode cX5_valueAgo 5 = .ok (.if_icmp .ge 14, 3) := by decide +kernel
theorem dX5_valueAgo_8 : decode cX5_valueAgo 8 = .ok (.aload_n 0, 1) := by decide +kernel
theorem dX5_valueAgo_9 : decode cX5_valueAgo 9 = .ok (.getfield 15, 3) := by decide +kernel
theorem dX5_valueAgo_12 : decode cX5_valueAgo 12 = .ok (.iload_n 1, 1) := by decide +kernel
theorem dX5_valueAgo_13 : decode cX5_valueAgo 13 = .ok (.invokestatic 80, 3) := by decide +kernel
theorem dX5_valueAgo_16 : decode cX5_valueAgo 16 = .ok (.goto 5, 3) := by decide +kernel
theorem dX5_valueAgo_19 : decode cX5_valueAgo 19 = .ok (.ldc 25, 2) := by decide +kernel
theorem dX5_valueAgo_21 : decode cX5_valueAgo 21 = .ok (.ireturn, 1) := by decide +kernel
theorem dX5_hasMended_0 : decode cX5_hasMended 0 = .ok (.aload_n 0, 1) := by decide +kernel
theorem dX5_hasMended_1 : decode cX5_hasMended 1 = .ok (.getfield 45, 3) := by decide +kernel
theorem dX5_hasMended_4 : decode cX5_hasMended 4 = .ok (.ifCond .le 7, 3) := by decide +kernel
theorem dX5_hasMended_7 : decode cX5_hasMended 7 = .ok (.iconst 1, 1) := by decide +kernel
theorem dX5_hasMended_8 : decode cX5_hasMended 8 = .ok (.goto 4, 3) := by decide +kernel
theorem dX5_hasMended_11 : decode cX5_hasMended 11 = .ok (.iconst 0, 1) := by decide +kernel
theorem dX5_hasMended_12 : decode cX5_hasMended 12 = .ok (.ireturn, 1) := by decide +kernel
theorem dX5_isAsked_0 : decode cX5_isAsked 0 = .ok (.aload_n 0, 1) := by decide +kernel
theorem dX5_isAsked_1 : decode cX5_isAsked 1 = .ok (.getfield 45, 3) := by decide +kernel
theorem dX5_isAsked_4 : decode cX5_isAsked 4 = .ok (.ifCond .le 14, 3) := by decide +kernel
theorem dX5_isAsked_7 : decode cX5_isAsked 7 = .ok (.aload_n 0, 1) := by decide +kernel
theorem dX5_isAsked_8 : decode cX5_isAsked 8 = .ok (.getfield 51, 3) := by decide +kernel
theorem dX5_isAsked_11 : decode cX5_isAsked 11 = .ok (.ifCond .ne 7, 3) := by decide +kernel
theorem dX5_isAsked_14 : decode cX5_isAsked 14 = .ok (.iconst 1, 1) := by decide +kernel
theorem dX5_isAsked_15 : decode cX5_isAsked 15 = .ok (.goto 4, 3) := by decide +kernel
theorem dX5_isAsked_18 : decode cX5_isAsked 18 = .ok (.iconst 0, 1) := by decide +kernel
theorem dX5_isAsked_19 : decode cX5_isAsked 19 = .ok (.ireturn, 1) := by decide +kernel
theorem dX5_isAskedAndReadIn_0 : decode cX5_isAskedAndReadIn 0 = .ok (.aload_n 0, 1) := by decide +kernel
theorem dX5_isAskedAndReadIn_1 : decode cX5_isAskedAndReadIn 1 = .ok (.invokevirtual 84, 3) := by decide +kernel
theorem dX5_isAskedAndReadIn_4 : decode cX5_isAskedAndReadIn 4 = .ok (.ifCond .eq 16, 3) := by decide +kernel
theorem dX5_isAskedAndReadIn_7 : decode cX5_isAskedAndReadIn 7 = .ok (.aload_n 0, 1) := by decide +kernel
theorem dX5_isAskedAndReadIn_8 : decode cX5_isAskedAndReadIn 8 = .ok (.iconst 0, 1) := by decide +kernel
theorem dX5_isAskedAndReadIn_9 : decode cX5_isAskedAndReadIn 9 = .ok (.invokevirtual 88, 3) := by decide +kernel
theorem dX5_isAskedAndReadIn_12 : decode cX5_isAskedAndReadIn 12 = .ok (.iload_n 1, 1) := by decide +kernel
theorem dX5_isAskedAndReadIn_13 : decode cX5_isAskedAndReadIn 13 = .ok (.if_icmp .ne 7, 3) := by decide +kernel
theorem dX5_isAskedAndReadIn_16 : decode cX5_isAskedAndReadIn 16 = .ok (.iconst 1, 1) := by decide +kernel
theorem dX5_isAskedAndReadIn_17 : decode cX5_isAskedAndReadIn 17 = .ok (.goto 4, 3) := by decide +kernel
theorem dX5_isAskedAndReadIn_20 : decode cX5_isAskedAndReadIn 20 = .ok (.iconst 0, 1) := by decide +kernel
theorem dX5_isAskedAndReadIn_21 : decode cX5_isAskedAndReadIn 21 = .ok (.ireturn, 1) := by decide +kernel
theorem dX5_mendedWith_0 : decode cX5_mendedWith 0 = .ok (.aload_n 0, 1) := by decide +kernel
theorem dX5_mendedWith_1 : decode cX5_mendedWith 1 = .ok (.getfield 45, 3) := by decide +kernel
theorem dX5_mendedWith_4 : decode cX5_mendedWith 4 = .ok (.ifCond .ne 6, 3) := by decide +kernel
theorem dX5_mendedWith_7 : decode cX5_mendedWith 7 = .ok (.ldc 25, 2) := by decide +kernel
theorem dX5_mendedWith_9 : decode cX5_mendedWith 9 = .ok (.ireturn, 1) := by decide +kernel
theorem dX5_mendedWith_10 : decode cX5_mendedWith 10 = .ok (.aload_n 0, 1) := by decide +kernel
theorem dX5_mendedWith_11 : decode cX5_mendedWith 11 = .ok (.getfield 15, 3) := by decide +kernel
theorem dX5_mendedWith_14 : decode cX5_mendedWith 14 = .ok (.iconst 0, 1) := by decide +kernel
theorem dX5_mendedWith_15 : decode cX5_mendedWith 15 = .ok (.invokestatic 80, 3) := by decide +kernel
theorem dX5_mendedWith_18 : decode cX5_mendedWith 18 = .ok (.istore_n 2, 1) := by decide +kernel
theorem dX5_mendedWith_19 : decode cX5_mendedWith 19 = .ok (.aload_n 0, 1) := by decide +kernel
theorem dX5_mendedWith_20 : decode cX5_mendedWith 20 = .ok (.getfield 45, 3) := by decide +kernel
theorem dX5_mendedWith_23 : decode cX5_mendedWith 23 = .ok (.iconst 1, 1) := by decide +kernel
theorem dX5_mendedWith_24 : decode cX5_mendedWith 24 = .ok (.if_icmp .ne 10, 3) := by decide +kernel
theorem dX5_mendedWith_27 : decode cX5_mendedWith 27 = .ok (.iload_n 2, 1) := by decide +kernel
theorem dX5_mendedWith_28 : decode cX5_mendedWith 28 = .ok (.aload_n 0, 1) := by decide +kernel
theorem dX5_mendedWith_29 : decode cX5_mendedWith 29 = .ok (.getfield 32, 3) := by decide +kernel
theorem dX5_mendedWith_32 : decode cX5_mendedWith 32 = .ok (.isub, 1) := by decide +kernel
theorem dX5_mendedWith_33 : decode cX5_mendedWith 33 = .ok (.ireturn, 1) := by decide +kernel
theorem dX5_mendedWith_34 : decode cX5_mendedWith 34 = .ok (.iload_n 2, 1) := by decide +kernel
theorem dX5_mendedWith_35 : decode cX5_mendedWith 35 = .ok (.aload_n 0, 1) := by decide +kernel
theorem dX5_mendedWith_36 : decode cX5_mendedWith 36 = .ok (.getfield 15, 3) := by decide +kernel
theorem dX5_mendedWith_39 : decode cX5_mendedWith 39 = .ok (.iconst 1, 1) := by decide +kernel
theorem dX5_mendedWith_40 : decode cX5_mendedWith 40 = .ok (.invokestatic 80, 3) := by decide +kernel
theorem dX5_mendedWith_43 : decode cX5_mendedWith 43 = .ok (.isub, 1) := by decide +kernel
theorem dX5_mendedWith_44 : decode cX5_mendedWith 44 = .ok (.istore_n 3, 1) := by decide +kernel
theorem dX5_mendedWith_45 : decode cX5_mendedWith 45 = .ok (.aload_n 0, 1) := by decide +kernel
theorem dX5_mendedWith_46 : decode cX5_mendedWith 46 = .ok (.getfield 9, 3) := by decide +kernel
theorem dX5_mendedWith_49 : decode cX5_mendedWith 49 = .ok (.iconst 0, 1) := by decide +kernel
theorem dX5_mendedWith_50 : decode cX5_mendedWith 50 = .ok (.invokestatic 80, 3) := by decide +kernel
theorem dX5_mendedWith_53 : decode cX5_mendedWith 53 = .ok (.aload_n 0, 1) := by decide +kernel
theorem dX5_mendedWith_54 : decode cX5_mendedWith 54 = .ok (.getfield 9, 3) := by decide +kernel
theorem dX5_mendedWith_57 : decode cX5_mendedWith 57 = .ok (.iconst 1, 1) := by decide +kernel
theorem dX5_mendedWith_58 : decode cX5_mendedWith 58 = .ok (.invokestatic 80, 3) := by decide +kernel
theorem dX5_mendedWith_61 : decode cX5_mendedWith 61 = .ok (.isub, 1) := by decide +kernel
theorem dX5_mendedWith_62 : decode cX5_mendedWith 62 = .ok (.istore 4, 2) := by decide +kernel
theorem dX5_mendedWith_64 : decode cX5_mendedWith 64 = .ok (.iload_n 2, 1) := by decide +kernel
theorem dX5_mendedWith_65 : decode cX5_mendedWith 65 = .ok (.iload_n 3, 1) := by decide +kernel
theorem dX5_mendedWith_66 : decode cX5_mendedWith 66 = .ok (.iload_n 1, 1) := by decide +kernel
theorem dX5_mendedWith_67 : decode cX5_mendedWith 67 = .ok (.iconst 1, 1) := by decide +kernel
theorem dX5_mendedWith_68 : decode cX5_mendedWith 68 = .ok (.isub, 1) := by decide +kernel
theorem dX5_mendedWith_69 : decode cX5_mendedWith 69 = .ok (.imul, 1) := by decide +kernel
theorem dX5_mendedWith_70 : decode cX5_mendedWith 70 = .ok (.iload 4, 2) := by decide +kernel
theorem dX5_mendedWith_72 : decode cX5_mendedWith 72 = .ok (.invokestatic 63, 3) := by decide +kernel
theorem dX5_mendedWith_75 : decode cX5_mendedWith 75 = .ok (.iadd, 1) := by decide +kernel
theorem dX5_mendedWith_76 : decode cX5_mendedWith 76 = .ok (.aload_n 0, 1) := by decide +kernel
theorem dX5_mendedWith_77 : decode cX5_mendedWith 77 = .ok (.getfield 32, 3) := by decide +kernel
theorem dX5_mendedWith_80 : decode cX5_mendedWith 80 = .ok (.isub, 1) := by decide +kernel
theorem dX5_mendedWith_81 : decode cX5_mendedWith 81 = .ok (.ireturn, 1) := by decide +kernel
theorem dX5_lagNearestTo_0 : decode cX5_lagNearestTo 0 = .ok (.aload_n 0, 1) := by decide +kernel
theorem dX5_lagNearestTo_1 : decode cX5_lagNearestTo 1 = .ok (.invokevirtual 91, 3) := by decide +kernel
theorem dX5_lagNearestTo_4 : decode cX5_lagNearestTo 4 = .ok (.ifCond .ne 6, 3) := by decide +kernel
theorem dX5_lagNearestTo_7 : decode cX5_lagNearestTo 7 = .ok (.ldc 25, 2) := by decide +kernel
theorem dX5_lagNearestTo_9 : decode cX5_lagNearestTo 9 = .ok (.ireturn, 1) := by decide +kernel
theorem dX5_lagNearestTo_10 : decode cX5_lagNearestTo 10 = .ok (.iconst 1, 1) := by decide +kernel
theorem dX5_lagNearestTo_11 : decode cX5_lagNearestTo 11 = .ok (.istore_n 2, 1) := by decide +kernel
theorem dX5_lagNearestTo_12 : decode cX5_lagNearestTo 12 = .ok (.aload_n 0, 1) := by decide +kernel
theorem dX5_lagNearestTo_13 : decode cX5_lagNearestTo 13 = .ok (.iload_n 2, 1) := by decide +kernel
theorem dX5_lagNearestTo_14 : decode cX5_lagNearestTo 14 = .ok (.invokevirtual 76, 3) := by decide +kernel
theorem dX5_lagNearestTo_17 : decode cX5_lagNearestTo 17 = .ok (.iload_n 1, 1) := by decide +kernel
theorem dX5_lagNearestTo_18 : decode cX5_lagNearestTo 18 = .ok (.isub, 1) := by decide +kernel
theorem dX5_lagNearestTo_19 : decode cX5_lagNearestTo 19 = .ok (.invokestatic 94, 3) := by decide +kernel
theorem dX5_lagNearestTo_22 : decode cX5_lagNearestTo 22 = .ok (.istore_n 3, 1) := by decide +kernel
theorem dX5_lagNearestTo_23 : decode cX5_lagNearestTo 23 = .ok (.iconst 2, 1) := by decide +kernel
theorem dX5_lagNearestTo_24 : decode cX5_lagNearestTo 24 = .ok (.istore 4, 2) := by decide +kernel
theorem dX5_lagNearestTo_26 : decode cX5_lagNearestTo 26 = .ok (.iload 4, 2) := by decide +kernel
theorem dX5_lagNearestTo_28 : decode cX5_lagNearestTo 28 = .ok (.bipush 9, 2) := by decide +kernel
theorem dX5_lagNearestTo_30 : decode cX5_lagNearestTo 30 = .ok (.if_icmp .gt 34, 3) := by decide +kernel
theorem dX5_lagNearestTo_33 : decode cX5_lagNearestTo 33 = .ok (.aload_n 0, 1) := by decide +kernel
theorem dX5_lagNearestTo_34 : decode cX5_lagNearestTo 34 = .ok (.iload 4, 2) := by decide +kernel
theorem dX5_lagNearestTo_36 : decode cX5_lagNearestTo 36 = .ok (.invokevirtual 76, 3) := by decide +kernel
theorem dX5_lagNearestTo_39 : decode cX5_lagNearestTo 39 = .ok (.iload_n 1, 1) := by decide +kernel
theorem dX5_lagNearestTo_40 : decode cX5_lagNearestTo 40 = .ok (.isub, 1) := by decide +kernel
theorem dX5_lagNearestTo_41 : decode cX5_lagNearestTo 41 = .ok (.invokestatic 94, 3) := by decide +kernel
theorem dX5_lagNearestTo_44 : decode cX5_lagNearestTo 44 = .ok (.istore 5, 2) := by decide +kernel
theorem dX5_lagNearestTo_46 : decode cX5_lagNearestTo 46 = .ok (.iload 5, 2) := by decide +kernel
theorem dX5_lagNearestTo_48 : decode cX5_lagNearestTo 48 = .ok (.iload_n 3, 1) := by decide +kernel
theorem dX5_lagNearestTo_49 : decode cX5_lagNearestTo 49 = .ok (.if_icmp .ge 9, 3) := by decide +kernel
theorem dX5_lagNearestTo_52 : decode cX5_lagNearestTo 52 = .ok (.iload 4, 2) := by decide +kernel
theorem dX5_lagNearestTo_54 : decode cX5_lagNearestTo 54 = .ok (.istore_n 2, 1) := by decide +kernel
theorem dX5_lagNearestTo_55 : decode cX5_lagNearestTo 55 = .ok (.iload 5, 2) := by decide +kernel
theorem dX5_lagNearestTo_57 : decode cX5_lagNearestTo 57 = .ok (.istore_n 3, 1) := by decide +kernel
theorem dX5_lagNearestTo_58 : decode cX5_lagNearestTo 58 = .ok (.iinc 4 1, 3) := by decide +kernel
theorem dX5_lagNearestTo_61 : decode cX5_lagNearestTo 61 = .ok (.goto (-35), 3) := by decide +kernel
theorem dX5_lagNearestTo_64 : decode cX5_lagNearestTo 64 = .ok (.iload_n 2, 1) := by decide +kernel
theorem dX5_lagNearestTo_65 : decode cX5_lagNearestTo 65 = .ok (.ireturn, 1) := by decide +kernel
theorem dX5_error_0 : decode cX5_error 0 = .ok (.aload_n 0, 1) := by decide +kernel
theorem dX5_error_1 : decode cX5_error 1 = .ok (.getfield 26, 3) := by decide +kernel
theorem dX5_error_4 : decode cX5_error 4 = .ok (.iload_n 1, 1) := by decide +kernel
theorem dX5_error_5 : decode cX5_error 5 = .ok (.isub, 1) := by decide +kernel
theorem dX5_error_6 : decode cX5_error 6 = .ok (.invokestatic 94, 3) := by decide +kernel
theorem dX5_error_9 : decode cX5_error 9 = .ok (.ireturn, 1) := by decide +kernel
theorem dX5_distance_0 : decode cX5_distance 0 = .ok (.aload_n 0, 1) := by decide +kernel
theorem dX5_distance_1 : decode cX5_distance 1 = .ok (.getfield 42, 3) := by decide +kernel
theorem dX5_distance_4 : decode cX5_distance 4 = .ok (.aload_n 0, 1) := by decide +kernel
theorem dX5_distance_5 : decode cX5_distance 5 = .ok (.getfield 32, 3) := by decide +kernel
theorem dX5_distance_8 : decode cX5_distance 8 = .ok (.isub, 1) := by decide +kernel
theorem dX5_distance_9 : decode cX5_distance 9 = .ok (.iload_n 1, 1) := by decide +kernel
theorem dX5_distance_10 : decode cX5_distance 10 = .ok (.isub, 1) := by decide +kernel
theorem dX5_distance_11 : decode cX5_distance 11 = .ok (.invokestatic 94, 3) := by decide +kernel
theorem dX5_distance_14 : decode cX5_distance 14 = .ok (.ireturn, 1) := by decide +kernel
theorem dX5_compareWith_0 : decode cX5_compareWith 0 = .ok (.aload_n 0, 1) := by decide +kernel
theorem dX5_compareWith_1 : decode cX5_compareWith 1 = .ok (.getfield 26, 3) := by decide +kernel
theorem dX5_compareWith_4 : decode cX5_compareWith 4 = .ok (.iload_n 1, 1) := by decide +kernel
theorem dX5_compareWith_5 : decode cX5_compareWith 5 = .ok (.isub, 1) := by decide +kernel
theorem dX5_compareWith_6 : decode cX5_compareWith 6 = .ok (.invokestatic 94, 3) := by decide +kernel
theorem dX5_compareWith_9 : decode cX5_compareWith 9 = .ok (.iload_n 2, 1) := by decide +kernel
theorem dX5_compareWith_10 : decode cX5_compareWith 10 = .ok (.if_icmp .le 26, 3) := by decide +kernel
theorem dX5_compareWith_13 : decode cX5_compareWith 13 = .ok (.aload_n 0, 1) := by decide +kernel
theorem dX5_compareWith_14 : decode cX5_compareWith 14 = .ok (.dup, 1) := by decide +kernel
theorem dX5_compareWith_15 : decode cX5_compareWith 15 = .ok (.getfield 35, 3) := by decide +kernel
theorem dX5_compareWith_18 : decode cX5_compareWith 18 = .ok (.iconst 1, 1) := by decide +kernel
theorem dX5_compareWith_19 : decode cX5_compareWith 19 = .ok (.iadd, 1) := by decide +kernel
theorem dX5_compareWith_20 : decode cX5_compareWith 20 = .ok (.putfield 35, 3) := by decide +kernel
theorem dX5_compareWith_23 : decode cX5_compareWith 23 = .ok (.aload_n 0, 1) := by decide +kernel
theorem dX5_compareWith_24 : decode cX5_compareWith 24 = .ok (.dup, 1) := by decide +kernel
theorem dX5_compareWith_25 : decode cX5_compareWith 25 = .ok (.getfield 48, 3) := by decide +kernel
theorem dX5_compareWith_28 : decode cX5_compareWith 28 = .ok (.iconst 1, 1) := by decide +kernel
theorem dX5_compareWith_29 : decode cX5_compareWith 29 = .ok (.iadd, 1) := by decide +kernel
theorem dX5_compareWith_30 : decode cX5_compareWith 30 = .ok (.putfield 48, 3) := by decide +kernel
theorem dX5_compareWith_33 : decode cX5_compareWith 33 = .ok (.goto 8, 3) := by decide +kernel
theorem dX5_compareWith_36 : decode cX5_compareWith 36 = .ok (.aload_n 0, 1) := by decide +kernel
theorem dX5_compareWith_37 : decode cX5_compareWith 37 = .ok (.iconst 0, 1) := by decide +kernel
theorem dX5_compareWith_38 : decode cX5_compareWith 38 = .ok (.putfield 48, 3) := by decide +kernel
theorem dX5_compareWith_41 : decode cX5_compareWith 41 = .ok (.return_, 1) := by decide +kernel
theorem dX5_shutOutFrom_0 : decode cX5_shutOutFrom 0 = .ok (.aload_n 0, 1) := by decide +kernel
theorem dX5_shutOutFrom_1 : decode cX5_shutOutFrom 1 = .ok (.getfield 48, 3) := by decide +kernel
theorem dX5_shutOutFrom_4 : decode cX5_shutOutFrom 4 = .ok (.iload_n 1, 1) := by decide +kernel
theorem dX5_shutOutFrom_5 : decode cX5_shutOutFrom 5 = .ok (.if_icmp .lt 8, 3) := by decide +kernel
theorem dX5_shutOutFrom_8 : decode cX5_shutOutFrom 8 = .ok (.aload_n 0, 1) := by decide +kernel
theorem dX5_shutOutFrom_9 : decode cX5_shutOutFrom 9 = .ok (.iconst 1, 1) := by decide +kernel
theorem dX5_shutOutFrom_10 : decode cX5_shutOutFrom 10 = .ok (.putfield 51, 3) := by decide +kernel
theorem dX5_shutOutFrom_13 : decode cX5_shutOutFrom 13 = .ok (.return_, 1) := by decide +kernel
theorem dX5_numberOf_0 : decode cX5_numberOf 0 = .ok (.iload_n 1, 1) := by decide +kernel
theorem dX5_numberOf_1 : decode cX5_numberOf 1 = .ok (.tableswitch 104 0 8 #[51, 56, 61, 66, 71, 76, 81, 94, 99], 51) := by decide +kernel
theorem dX5_numberOf_52 : decode cX5_numberOf 52 = .ok (.aload_n 0, 1) := by decide +kernel
theorem dX5_numberOf_53 : decode cX5_numberOf 53 = .ok (.getfield 29, 3) := by decide +kernel
theorem dX5_numberOf_56 : decode cX5_numberOf 56 = .ok (.ireturn, 1) := by decide +kernel
theorem dX5_numberOf_57 : decode cX5_numberOf 57 = .ok (.aload_n 0, 1) := by decide +kernel
theorem dX5_numberOf_58 : decode cX5_numberOf 58 = .ok (.getfield 18, 3) := by decide +kernel
theorem dX5_numberOf_61 : decode cX5_numberOf 61 = .ok (.ireturn, 1) := by decide +kernel
theorem dX5_numberOf_62 : decode cX5_numberOf 62 = .ok (.aload_n 0, 1) := by decide +kernel
theorem dX5_numberOf_63 : decode cX5_numberOf 63 = .ok (.getfield 32, 3) := by decide +kernel
theorem dX5_numberOf_66 : decode cX5_numberOf 66 = .ok (.ireturn, 1) := by decide +kernel
theorem dX5_numberOf_67 : decode cX5_numberOf 67 = .ok (.aload_n 0, 1) := by decide +kernel
theorem dX5_numberOf_68 : decode cX5_numberOf 68 = .ok (.getfield 22, 3) := by decide +kernel
theorem dX5_numberOf_71 : decode cX5_numberOf 71 = .ok (.ireturn, 1) := by decide +kernel
theorem dX5_numberOf_72 : decode cX5_numberOf 72 = .ok (.aload_n 0, 1) := by decide +kernel
theorem dX5_numberOf_73 : decode cX5_numberOf 73 = .ok (.getfield 42, 3) := by decide +kernel
theorem dX5_numberOf_76 : decode cX5_numberOf 76 = .ok (.ireturn, 1) := by decide +kernel
theorem dX5_numberOf_77 : decode cX5_numberOf 77 = .ok (.aload_n 0, 1) := by decide +kernel
theorem dX5_numberOf_78 : decode cX5_numberOf 78 = .ok (.getfield 48, 3) := by decide +kernel
theorem dX5_numberOf_81 : decode cX5_numberOf 81 = .ok (.ireturn, 1) := by decide +kernel
theorem dX5_numberOf_82 : decode cX5_numberOf 82 = .ok (.aload_n 0, 1) := by decide +kernel
theorem dX5_numberOf_83 : decode cX5_numberOf 83 = .ok (.getfield 51, 3) := by decide +kernel
theorem dX5_numberOf_86 : decode cX5_numberOf 86 = .ok (.ifCond .eq 7, 3) := by decide +kernel
theorem dX5_numberOf_89 : decode cX5_numberOf 89 = .ok (.iconst 1, 1) := by decide +kernel
theorem dX5_numberOf_90 : decode cX5_numberOf 90 = .ok (.goto 4, 3) := by decide +kernel
theorem dX5_numberOf_93 : decode cX5_numberOf 93 = .ok (.iconst 0, 1) := by decide +kernel
theorem dX5_numberOf_94 : decode cX5_numberOf 94 = .ok (.ireturn, 1) := by decide +kernel
theorem dX5_numberOf_95 : decode cX5_numberOf 95 = .ok (.aload_n 0, 1) := by decide +kernel
theorem dX5_numberOf_96 : decode cX5_numberOf 96 = .ok (.getfield 45, 3) := by decide +kernel
theorem dX5_numberOf_99 : decode cX5_numberOf 99 = .ok (.ireturn, 1) := by decide +kernel
theorem dX5_numberOf_100 : decode cX5_numberOf 100 = .ok (.aload_n 0, 1) := by decide +kernel
theorem dX5_numberOf_101 : decode cX5_numberOf 101 = .ok (.getfield 35, 3) := by decide +kernel
theorem dX5_numberOf_104 : decode cX5_numberOf 104 = .ok (.ireturn, 1) := by decide +kernel
theorem dX5_numberOf_105 : decode cX5_numberOf 105 = .ok (.aload_n 0, 1) := by decide +kernel
theorem dX5_numberOf_106 : decode cX5_numberOf 106 = .ok (.getfield 26, 3) := by decide +kernel
theorem dX5_numberOf_109 : decode cX5_numberOf 109 = .ok (.ireturn, 1) := by decide +kernel
theorem dX6_init_0 : decode cX6_init 0 = .ok (.aload_n 0, 1) := by decide +kernel
theorem dX6_init_1 : decode cX6_init 1 = .ok (.invokespecial 1, 3) := by decide +kernel
theorem dX6_init_4 : decode cX6_init 4 = .ok (.aload_n 0, 1) := by decide +kernel
theorem dX6_init_5 : decode cX6_init 5 = .ok (.new 7, 3) := by decide +kernel
theorem dX6_init_8 : decode cX6_init 8 = .ok (.dup, 1) := by decide +kernel
theorem dX6_init_9 : decode cX6_init 9 = .ok (.invokespecial 9, 3) := by decide +kernel
theorem dX6_init_12 : decode cX6_init 12 = .ok (.putfield 10, 3) := by decide +kernel
theorem dX6_init_15 : decode cX6_init 15 = .ok (.aload_n 0, 1) := by decide +kernel
theorem dX6_init_16 : decode cX6_init 16 = .ok (.new 7, 3) := by decide +kernel
theorem dX6_init_19 : decode cX6_init 19 = .ok (.dup, 1) := by decide +kernel
theorem dX6_init_20 : decode cX6_init 20 = .ok (.invokespecial 9, 3) := by decide +kernel
theorem dX6_init_23 : decode cX6_init 23 = .ok (.putfield 16, 3) := by decide +kernel
theorem dX6_init_26 : decode cX6_init 26 = .ok (.aload_n 0, 1) := by decide +kernel
theorem dX6_init_27 : decode cX6_init 27 = .ok (.new 19, 3) := by decide +kernel
theorem dX6_init_30 : decode cX6_init 30 = .ok (.dup, 1) := by decide +kernel
theorem dX6_init_31 : decode cX6_init 31 = .ok (.invokespecial 21, 3) := by decide +kernel
theorem dX6_init_34 : decode cX6_init 34 = .ok (.putfield 22, 3) := by decide +kernel
theorem dX6_init_37 : decode cX6_init 37 = .ok (.aload_n 0, 1) := by decide +kernel
theorem dX6_init_38 : decode cX6_init 38 = .ok (.new 26, 3) := by decide +kernel
theorem dX6_init_41 : decode cX6_init 41 = .ok (.dup, 1) := by decide +kernel
theorem dX6_init_42 : decode cX6_init 42 = .ok (.invokespecial 28, 3) := by decide +kernel
theorem dX6_init_45 : decode cX6_init 45 = .ok (.putfield 29, 3) := by decide +kernel
theorem dX6_init_48 : decode cX6_init 48 = .ok (.aload_n 0, 1) := by decide +kernel
theorem dX6_init_49 : decode cX6_init 49 = .ok (.new 26, 3) := by decide +kernel
theorem dX6_init_52 : decode cX6_init 52 = .ok (.dup, 1) := by decide +kernel
theorem dX6_init_53 : decode cX6_init 53 = .ok (.invokespecial 28, 3) := by decide +kernel
theorem dX6_init_56 : decode cX6_init 56 = .ok (.putfield 33, 3) := by decide +kernel
theorem dX6_init_59 : decode cX6_init 59 = .ok (.aload_n 0, 1) := by decide +kernel
theorem dX6_init_60 : decode cX6_init 60 = .ok (.new 36, 3) := by decide +kernel
theorem dX6_init_63 : decode cX6_init 63 = .ok (.dup, 1) := by decide +kernel
theorem dX6_init_64 : decode cX6_init 64 = .ok (.invokespecial 38, 3) := by decide +kernel
theorem dX6_init_67 : decode cX6_init 67 = .ok (.putfield 39, 3) := by decide +kernel
theorem dX6_init_70 : decode cX6_init 70 = .ok (.return_, 1) := by decide +kernel
theorem dX6_thermometer_0 : decode cX6_thermometer 0 = .ok (.iload_n 1, 1) := by decide +kernel
theorem dX6_thermometer_1 : decode cX6_thermometer 1 = .ok (.invokestatic 43, 3) := by decide +kernel
theorem dX6_thermometer_4 : decode cX6_thermometer 4 = .ok (.iload_n 2, 1) := by decide +kernel
theorem dX6_thermometer_5 : decode cX6_thermometer 5 = .ok (.iconst 1, 1) := by decide +kernel
theorem dX6_thermometer_6 : decode cX6_thermometer 6 = .ok (.bipush 9, 2) := by decide +kernel
theorem dX6_thermometer_8 : decode cX6_thermometer 8 = .ok (.invokestatic 47, 3) := by decide +kernel
theorem dX6_thermometer_11 : decode cX6_thermometer 11 = .ok (.iload_n 3, 1) := by decide +kernel
theorem dX6_thermometer_12 : decode cX6_thermometer 12 = .ok (.sipush (-200), 3) := by decide +kernel
theorem dX6_thermometer_15 : decode cX6_thermometer 15 = .ok (.sipush 200, 3) := by decide +kernel
theorem dX6_thermometer_18 : decode cX6_thermometer 18 = .ok (.invokestatic 47, 3) := by decide +kernel
theorem dX6_thermometer_21 : decode cX6_thermometer 21 = .ok (.iload 4, 2) := by decide +kernel
theorem dX6_thermometer_23 : decode cX6_thermometer 23 = .ok (.iconst 1, 1) := by decide +kernel
theorem dX6_thermometer_24 : decode cX6_thermometer 24 = .ok (.iconst 5, 1) := by decide +kernel
theorem dX6_thermometer_25 : decode cX6_thermometer 25 = .ok (.invokestatic 47, 3) := by decide +kernel
theorem dX6_thermometer_28 : decode cX6_thermometer 28 = .ok (.aload_n 0, 1) := by decide +kernel
theorem dX6_thermometer_29 : decode cX6_thermometer 29 = .ok (.getfield 10, 3) := by decide +kernel
theorem dX6_thermometer_32 : decode cX6_thermometer 32 = .ok (.invokevirtual 51, 3) := by decide +kernel
theorem dX6_thermometer_35 : decode cX6_thermometer 35 = .ok (.ifCond .ne 13, 3) := by decide +kernel
theorem dX6_thermometer_38 : decode cX6_thermometer 38 = .ok (.new 55, 3) := by decide +kernel
theorem dX6_thermometer_41 : decode cX6_thermometer 41 = .ok (.dup, 1) := by decide +kernel
theorem dX6_thermometer_42 : decode cX6_thermometer 42 = .ok (.ldc 57, 2) := by decide +kernel
theorem dX6_thermometer_44 : decode cX6_thermometer 44 = .ok (.invokespecial 59, 3) := by decide +kernel
theorem dX6_thermometer_47 : decode cX6_thermometer 47 = .ok (.athrow, 1) := by decide +kernel
theorem dX6_thermometer_48 : decode cX6_thermometer 48 = .ok (.aload_n 0, 1) := by decide +kernel
theorem dX6_thermometer_49 : decode cX6_thermometer 49 = .ok (.getfield 22, 3) := by decide +kernel
theorem dX6_thermometer_52 : decode cX6_thermometer 52 = .ok (.aload_n 0, 1) := by decide +kernel
theorem dX6_thermometer_53 : decode cX6_thermometer 53 = .ok (.getfield 10, 3) := by decide +kernel
theorem dX6_thermometer_56 : decode cX6_thermometer 56 = .ok (.invokevirtual 62, 3) := by decide +kernel
theorem dX6_thermometer_59 : decode cX6_thermometer 59 = .ok (.aload_n 0, 1) := by decide +kernel
theorem dX6_thermometer_60 : decode cX6_thermometer 60 = .ok (.getfield 10, 3) := by decide +kernel
theorem dX6_thermometer_63 : decode cX6_thermometer 63 = .ok (.iload_n 1, 1) := by decide +kernel
theorem dX6_thermometer_64 : decode cX6_thermometer 64 = .ok (.iload_n 2, 1) := by decide +kernel
theorem dX6_thermometer_65 : decode cX6_thermometer 65 = .ok (.iload_n 3, 1) := by decide +kernel
theorem dX6_thermometer_66 : decode cX6_thermometer 66 = .ok (.iload 4, 2) := by decide +kernel
theorem dX6_thermometer_68 : decode cX6_thermometer 68 = .ok (.invokevirtual 66, 3) := by decide +kernel
theorem dX6_thermometer_71 : decode cX6_thermometer 71 = .ok (.ireturn, 1) := by decide +kernel
theorem dX6_hour_0 : decode cX6_hour 0 = .ok (.iload_n 1, 1) := by decide +kernel
theorem dX6_hour_1 : decode cX6_hour 1 = .ok (.sipush (-5000), 3) := by decide +kernel
theorem dX6_hour_4 : decode cX6_hour 4 = .ok (.sipush 5000, 3) := by decide +kernel
theorem dX6_hour_7 : decode cX6_hour 7 = .ok (.invokestatic 47, 3) := by decide +kernel
theorem dX6_hour_10 : decode cX6_hour 10 = .ok (.aload_n 0, 1) := by decide +kernel
theorem dX6_hour_11 : decode cX6_hour 11 = .ok (.iconst 1, 1) := by decide +kernel
theorem dX6_hour_12 : decode cX6_hour 12 = .ok (.invokevirtual 70, 3) := by decide +kernel
theorem dX6_hour_15 : decode cX6_hour 15 = .ok (.aload_n 0, 1) := by decide +kernel
theorem dX6_hour_16 : decode cX6_hour 16 = .ok (.getfield 22, 3) := by decide +kernel
theorem dX6_hour_19 : decode cX6_hour 19 = .ok (.aload_n 0, 1) := by decide +kernel
theorem dX6_hour_20 : decode cX6_hour 20 = .ok (.getfield 10, 3) := by decide +kernel
theorem dX6_hour_23 : decode cX6_hour 23 = .ok (.invokevirtual 62, 3) := by decide +kernel
theorem dX6_hour_26 : decode cX6_hour 26 = .ok (.aload_n 0, 1) := by decide +kernel
theorem dX6_hour_27 : decode cX6_hour 27 = .ok (.getfield 10, 3) := by decide +kernel
theorem dX6_hour_30 : decode cX6_hour 30 = .ok (.iload_n 1, 1) := by decide +kernel
theorem dX6_hour_31 : decode cX6_hour 31 = .ok (.invokevirtual 73, 3) := by decide +kernel
theorem dX6_hour_34 : decode cX6_hour 34 = .ok (.ireturn, 1) := by decide +kernel
theorem dX6_hours_0 : decode cX6_hours 0 = .ok (.iload_n 1, 1) := by decide +kernel
theorem dX6_hours_1 : decode cX6_hours 1 = .ok (.iconst 1, 1) := by decide +kernel
theorem dX6_hours_2 : decode cX6_hours 2 = .ok (.bipush 24, 2) := by decide +kernel
theorem dX6_hours_4 : decode cX6_hours 4 = .ok (.invokestatic 47, 3) := by decide +kernel
theorem dX6_hours_7 : decode cX6_hours 7 = .ok (.iload_n 2, 1) := by decide +kernel
theorem dX6_hours_8 : decode cX6_hours 8 = .ok (.sipush (-500), 3) := by decide +kernel
theorem dX6_hours_11 : decode cX6_hours 11 = .ok (.sipush 500, 3) := by decide +kernel
theorem dX6_hours_14 : decode cX6_hours 14 = .ok (.invokestatic 47, 3) := by decide +kernel
theorem dX6_hours_17 : decode cX6_hours 17 = .ok (.aload_n 0, 1) := by decide +kernel
theorem dX6_hours_18 : decode cX6_hours 18 = .ok (.iload_n 1, 1) := by decide +kernel
theorem dX6_hours_19 : decode cX6_hours 19 = .ok (.invokevirtual 70, 3) := by decide +kernel
theorem dX6_hours_22 : decode cX6_hours 22 = .ok (.aload_n 0, 1) := by decide +kernel
theorem dX6_hours_23 : decode cX6_hours 23 = .ok (.getfield 22, 3) := by decide +kernel
theorem dX6_hours_26 : decode cX6_hours 26 = .ok (.aload_n 0, 1) := by decide +kernel
theorem dX6_hours_27 : decode cX6_hours 27 = .ok (.getfield 10, 3) := by decide +kernel
theorem dX6_hours_30 : decode cX6_hours 30 = .ok (.invokevirtual 62, 3) := by decide +kernel
theorem dX6_hours_33 : decode cX6_hours 33 = .ok (.aload_n 0, 1) := by decide +kernel
theorem dX6_hours_34 : decode cX6_hours 34 = .ok (.getfield 10, 3) := by decide +kernel
theorem dX6_hours_37 : decode cX6_hours 37 = .ok (.iload_n 1, 1) := by decide +kernel
theorem dX6_hours_38 : decode cX6_hours 38 = .ok (.iload_n 2, 1) := by decide +kernel
theorem dX6_hours_39 : decode cX6_hours 39 = .ok (.invokevirtual 77, 3) := by decide +kernel
theorem dX6_hours_42 : decode cX6_hours 42 = .ok (.aload_n 0, 1) := by decide +kernel
theorem dX6_hours_43 : decode cX6_hours 43 = .ok (.getfield 10, 3) := by decide +kernel
theorem dX6_hours_46 : decode cX6_hours 46 = .ok (.getfield 81, 3) := by decide +kernel
theorem dX6_hours_49 : decode cX6_hours 49 = .ok (.ireturn, 1) := by decide +kernel
theorem dX6_period_0 : decode cX6_period 0 = .ok (.iload_n 1, 1) := by decide +kernel
theorem dX6_period_1 : decode cX6_period 1 = .ok (.invokestatic 43, 3) := by decide +kernel
theorem dX6_period_4 : decode cX6_period 4 = .ok (.iload_n 2, 1) := by decide +kernel
theorem dX6_period_5 : decode cX6_period 5 = .ok (.iconst 1, 1) := by decide +kernel
theorem dX6_period_6 : decode cX6_period 6 = .ok (.bipush 6, 2) := by decide +kernel
theorem dX6_period_8 : decode cX6_period 8 = .ok (.invokestatic 47, 3) := by decide +kernel
theorem dX6_period_11 : decode cX6_period 11 = .ok (.aload_n 0, 1) := by decide +kernel
theorem dX6_period_12 : decode cX6_period 12 = .ok (.getfield 22, 3) := by decide +kernel
theorem dX6_period_15 : decode cX6_period 15 = .ok (.aload_n 0, 1) := by decide +kernel
theorem dX6_period_16 : decode cX6_period 16 = .ok (.getfield 10, 3) := by decide +kernel
theorem dX6_period_19 : decode cX6_period 19 = .ok (.invokevirtual 62, 3) := by decide +kernel
theorem dX6_period_22 : decode cX6_period 22 = .ok (.aload_n 0, 1) := by decide +kernel
theorem dX6_period_23 : decode cX6_period 23 = .ok (.getfield 10, 3) := by decide +kernel
theorem dX6_period_26 : decode cX6_period 26 = .ok (.iload_n 1, 1) := by decide +kernel
theorem dX6_period_27 : decode cX6_period 27 = .ok (.invokevirtual 85, 3) := by decide +kernel
theorem dX6_period_30 : decode cX6_period 30 = .ok (.istore_n 3, 1) := by decide +kernel
theorem dX6_period_31 : decode cX6_period 31 = .ok (.aload_n 0, 1) := by decide +kernel
theorem dX6_period_32 : decode cX6_period 32 = .ok (.getfield 10, 3) := by decide +kernel
theorem dX6_period_35 : decode cX6_period 35 = .ok (.iload_n 1, 1) := by decide +kernel
theorem dX6_period_36 : decode cX6_period 36 = .ok (.iload_n 2, 1) := by decide +kernel
theorem dX6_period_37 : decode cX6_period 37 = .ok (.invokevirtual 88, 3) := by decide +kernel
theorem dX6_period_40 : decode cX6_period 40 = .ok (.iload_n 3, 1) := by decide +kernel
theorem dX6_period_41 : decode cX6_period 41 = .ok (.ireturn, 1) := by decide +kernel
theorem dX6_calibrate_0 : decode cX6_calibrate 0 = .ok (.aload_n 0, 1) := by decide +kernel
theorem dX6_calibrate_1 : decode cX6_calibrate 1 = .ok (.iload_n 1, 1) := by decide +kernel
theorem dX6_calibrate_2 : decode cX6_calibrate 2 = .ok (.invokevirtual 91, 3) := by decide +kernel
theorem dX6_calibrate_5 : decode cX6_calibrate 5 = .ok (.aload_n 0, 1) := by decide +kernel
theorem dX6_calibrate_6 : decode cX6_calibrate 6 = .ok (.getfield 22, 3) := by decide +kernel
theorem dX6_calibrate_9 : decode cX6_calibrate 9 = .ok (.aload_n 0, 1) := by decide +kernel
theorem dX6_calibrate_10 : decode cX6_calibrate 10 = .ok (.getfield 10, 3) := by decide +kernel
theorem dX6_calibrate_13 : decode cX6_calibrate 13 = .ok (.invokevirtual 62, 3) := by decide +kernel
theorem dX6_calibrate_16 : decode cX6_calibrate 16 = .ok (.aload_n 0, 1) := by decide +kernel
theorem dX6_calibrate_17 : decode cX6_calibrate 17 = .ok (.getfield 10, 3) := by decide +kernel
theorem dX6_calibrate_20 : decode cX6_calibrate 20 = .ok (.iload_n 1, 1) := by decide +kernel
theorem dX6_calibrate_21 : decode cX6_calibrate 21 = .ok (.invokevirtual 94, 3) := by decide +kernel
theorem dX6_calibrate_24 : decode cX6_calibrate 24 = .ok (.getfield 98, 3) := by decide +kernel
theorem dX6_calibrate_27 : decode cX6_calibrate 27 = .ok (.istore_n 2, 1) := by decide +kernel
theorem dX6_calibrate_28 : decode cX6_calibrate 28 = .ok (.aload_n 0, 1) := by decide +kernel
theorem dX6_calibrate_29 : decode cX6_calibrate 29 = .ok (.getfield 10, 3) := by decide +kernel
theorem dX6_calibrate_32 : decode cX6_calibrate 32 = .ok (.iload_n 1, 1) := by decide +kernel
theorem dX6_calibrate_33 : decode cX6_calibrate 33 = .ok (.invokevirtual 94, 3) := by decide +kernel
theorem dX6_calibrate_36 : decode cX6_calibrate 36 = .ok (.aload_n 0, 1) := by decide +kernel
theorem dX6_calibrate_37 : decode cX6_calibrate 37 = .ok (.getfield 10, 3) := by decide +kernel
theorem dX6_calibrate_40 : decode cX6_calibrate 40 = .ok (.getfield 81, 3) := by decide +kernel
theorem dX6_calibrate_43 : decode cX6_calibrate 43 = .ok (.invokevirtual 103, 3) := by decide +kernel
theorem dX6_calibrate_46 : decode cX6_calibrate 46 = .ok (.iload_n 2, 1) := by decide +kernel
theorem dX6_calibrate_47 : decode cX6_calibrate 47 = .ok (.ireturn, 1) := by decide +kernel
theorem dX6_knock_0 : decode cX6_knock 0 = .ok (.aload_n 0, 1) := by decide +kernel
theorem dX6_knock_1 : decode cX6_knock 1 = .ok (.iload_n 1, 1) := by decide +kernel
theorem dX6_knock_2 : decode cX6_knock 2 = .ok (.invokevirtual 91, 3) := by decide +kernel
theorem dX6_knock_5 : decode cX6_knock 5 = .ok (.iload_n 2, 1) := by decide +kernel
theorem dX6_knock_6 : decode cX6_knock 6 = .ok (.sipush (-3000), 3) := by decide +kernel
theorem dX6_knock_9 : decode cX6_knock 9 = .ok (.sipush 3000, 3) := by decide +kernel
theorem dX6_knock_12 : decode cX6_knock 12 = .ok (.invokestatic 47, 3) := by decide +kernel
theorem dX6_knock_15 : decode cX6_knock 15 = .ok (.aload_n 0, 1) := by decide +kernel
theorem dX6_knock_16 : decode cX6_knock 16 = .ok (.getfield 10, 3) := by decide +kernel
theorem dX6_knock_19 : decode cX6_knock 19 = .ok (.iload_n 1, 1) := by decide +kernel
theorem dX6_knock_20 : decode cX6_knock 20 = .ok (.invokevirtual 94, 3) := by decide +kernel
theorem dX6_knock_23 : decode cX6_knock 23 = .ok (.getfield 106, 3) := by decide +kernel
theorem dX6_knock_26 : decode cX6_knock 26 = .ok (.iload_n 2, 1) := by decide +kernel
theorem dX6_knock_27 : decode cX6_knock 27 = .ok (.iadd, 1) := by decide +kernel
theorem dX6_knock_28 : decode cX6_knock 28 = .ok (.istore_n 3, 1) := by decide +kernel
theorem dX6_knock_29 : decode cX6_knock 29 = .ok (.iload_n 3, 1) := by decide +kernel
theorem dX6_knock_30 : decode cX6_knock 30 = .ok (.sipush (-20000), 3) := by decide +kernel
theorem dX6_knock_33 : decode cX6_knock 33 = .ok (.if_icmp .lt 10, 3) := by decide +kernel
theorem dX6_knock_36 : decode cX6_knock 36 = .ok (.iload_n 3, 1) := by decide +kernel
theorem dX6_knock_37 : decode cX6_knock 37 = .ok (.sipush 20000, 3) := by decide +kernel
theorem dX6_knock_40 : decode cX6_knock 40 = .ok (.if_icmp .le 13, 3) := by decide +kernel
theorem dX6_knock_43 : decode cX6_knock 43 = .ok (.new 55, 3) := by decide +kernel
theorem dX6_knock_46 : decode cX6_knock 46 = .ok (.dup, 1) := by decide +kernel
theorem dX6_knock_47 : decode cX6_knock 47 = .ok (.ldc 109, 2) := by decide +kernel
theorem dX6_knock_49 : decode cX6_knock 49 = .ok (.invokespecial 59, 3) := by decide +kernel
theorem dX6_knock_52 : decode cX6_knock 52 = .ok (.athrow, 1) := by decide +kernel
theorem dX6_knock_53 : decode cX6_knock 53 = .ok (.aload_n 0, 1) := by decide +kernel
theorem dX6_knock_54 : decode cX6_knock 54 = .ok (.getfield 22, 3) := by decide +kernel
theorem dX6_knock_57 : decode cX6_knock 57 = .ok (.aload_n 0, 1) := by decide +kernel
theorem dX6_knock_58 : decode cX6_knock 58 = .ok (.getfield 10, 3) := by decide +kernel
theorem dX6_knock_61 : decode cX6_knock 61 = .ok (.invokevirtual 62, 3) := by decide +kernel
theorem dX6_knock_64 : decode cX6_knock 64 = .ok (.aload_n 0, 1) := by decide +kernel
theorem dX6_knock_65 : decode cX6_knock 65 = .ok (.getfield 10, 3) := by decide +kernel
theorem dX6_knock_68 : decode cX6_knock 68 = .ok (.iload_n 1, 1) := by decide +kernel
theorem dX6_knock_69 : decode cX6_knock 69 = .ok (.invokevirtual 94, 3) := by decide +kernel
theorem dX6_knock_72 : decode cX6_knock 72 = .ok (.iload_n 3, 1) := by decide +kernel
theorem dX6_knock_73 : decode cX6_knock 73 = .ok (.putfield 106, 3) := by decide +kernel
theorem dX6_knock_76 : decode cX6_knock 76 = .ok (.iload_n 3, 1) := by decide +kernel
theorem dX6_knock_77 : decode cX6_knock 77 = .ok (.ldc 111, 2) := by decide +kernel
theorem dX6_knock_79 : decode cX6_knock 79 = .ok (.iadd, 1) := by decide +kernel
theorem dX6_knock_80 : decode cX6_knock 80 = .ok (.ireturn, 1) := by decide +kernel
theorem dX6_set_0 : decode cX6_set 0 = .ok (.iload_n 1, 1) := by decide +kernel
theorem dX6_set_1 : decode cX6_set 1 = .ok (.ifCond .eq 18, 3) := by decide +kernel
theorem dX6_set_4 : decode cX6_set 4 = .ok (.iload_n 1, 1) := by decide +kernel
theorem dX6_set_5 : decode cX6_set 5 = .ok (.iconst 1, 1) := by decide +kernel
theorem dX6_set_6 : decode cX6_set 6 = .ok (.if_icmp .eq 13, 3) := by decide +kernel
theorem dX6_set_9 : decode cX6_set 9 = .ok (.new 112, 3) := by decide +kernel
theorem dX6_set_12 : decode cX6_set 12 = .ok (.dup, 1) := by decide +kernel
theorem dX6_set_13 : decode cX6_set 13 = .ok (.ldc 114, 2) := by decide +kernel
theorem dX6_set_15 : decode cX6_set 15 = .ok (.invokespecial 116, 3) := by decide +kernel
theorem dX6_set_18 : decode cX6_set 18 = .ok (.athrow, 1) := by decide +kernel
theorem dX6_set_19 : decode cX6_set 19 = .ok (.iload_n 2, 1) := by decide +kernel
theorem dX6_set_20 : decode cX6_set 20 = .ok (.iload_n 1, 1) := by decide +kernel
theorem dX6_set_21 : decode cX6_set 21 = .ok (.ifCond .ne 8, 3) := by decide +kernel
theorem dX6_set_24 : decode cX6_set 24 = .ok (.bipush 10, 2) := by decide +kernel
theorem dX6_set_26 : decode cX6_set 26 = .ok (.goto 4, 3) := by decide +kernel
theorem dX6_set_29 : decode cX6_set 29 = .ok (.iconst 1, 1) := by decide +kernel
theorem dX6_set_30 : decode cX6_set 30 = .ok (.iload_n 1, 1) := by decide +kernel
theorem dX6_set_31 : decode cX6_set 31 = .ok (.ifCond .ne 9, 3) := by decide +kernel
theorem dX6_set_34 : decode cX6_set 34 = .ok (.sipush 2000, 3) := by decide +kernel
theorem dX6_set_37 : decode cX6_set 37 = .ok (.goto 4, 3) := by decide +kernel
theorem dX6_set_40 : decode cX6_set 40 = .ok (.iconst 5, 1) := by decide +kernel
theorem dX6_set_41 : decode cX6_set 41 = .ok (.invokestatic 47, 3) := by decide +kernel
theorem dX6_set_44 : decode cX6_set 44 = .ok (.aload_n 0, 1) := by decide +kernel
theorem dX6_set_45 : decode cX6_set 45 = .ok (.getfield 22, 3) := by decide +kernel
theorem dX6_set_48 : decode cX6_set 48 = .ok (.aload_n 0, 1) := by decide +kernel
theorem dX6_set_49 : decode cX6_set 49 = .ok (.getfield 10, 3) := by decide +kernel
theorem dX6_set_52 : decode cX6_set 52 = .ok (.invokevirtual 62, 3) := by decide +kernel
theorem dX6_set_55 : decode cX6_set 55 = .ok (.iload_n 1, 1) := by decide +kernel
theorem dX6_set_56 : decode cX6_set 56 = .ok (.ifCond .ne 13, 3) := by decide +kernel
theorem dX6_set_59 : decode cX6_set 59 = .ok (.aload_n 0, 1) := by decide +kernel
theorem dX6_set_60 : decode cX6_set 60 = .ok (.getfield 10, 3) := by decide +kernel
theorem dX6_set_63 : decode cX6_set 63 = .ok (.getfield 117, 3) := by decide +kernel
theorem dX6_set_66 : decode cX6_set 66 = .ok (.goto 10, 3) := by decide +kernel
theorem dX6_set_69 : decode cX6_set 69 = .ok (.aload_n 0, 1) := by decide +kernel
theorem dX6_set_70 : decode cX6_set 70 = .ok (.getfield 10, 3) := by decide +kernel
theorem dX6_set_73 : decode cX6_set 73 = .ok (.getfield 120, 3) := by decide +kernel
theorem dX6_set_76 : decode cX6_set 76 = .ok (.istore_n 3, 1) := by decide +kernel
theorem dX6_set_77 : decode cX6_set 77 = .ok (.iload_n 1, 1) := by decide +kernel
theorem dX6_set_78 : decode cX6_set 78 = .ok (.ifCond .ne 14, 3) := by decide +kernel
theorem dX6_set_81 : decode cX6_set 81 = .ok (.aload_n 0, 1) := by decide +kernel
theorem dX6_set_82 : decode cX6_set 82 = .ok (.getfield 10, 3) := by decide +kernel
theorem dX6_set_85 : decode cX6_set 85 = .ok (.iload_n 2, 1) := by decide +kernel
theorem dX6_set_86 : decode cX6_set 86 = .ok (.putfield 117, 3) := by decide +kernel
theorem dX6_set_89 : decode cX6_set 89 = .ok (.goto 11, 3) := by decide +kernel
theorem dX6_set_92 : decode cX6_set 92 = .ok (.aload_n 0, 1) := by decide +kernel
theorem dX6_set_93 : decode cX6_set 93 = .ok (.getfield 10, 3) := by decide +kernel
theorem dX6_set_96 : decode cX6_set 96 = .ok (.iload_n 2, 1) := by decide +kernel
theorem dX6_set_97 : decode cX6_set 97 = .ok (.putfield 120, 3) := by decide +kernel
theorem dX6_set_100 : decode cX6_set 100 = .ok (.iload_n 3, 1) := by decide +kernel
theorem dX6_set_101 : decode cX6_set 101 = .ok (.ireturn, 1) := by decide +kernel
theorem dX6_ofThermometer_0 : decode cX6_ofThermometer 0 = .ok (.aload_n 0, 1) := by decide +kernel
theorem dX6_ofThermometer_1 : decode cX6_ofThermometer 1 = .ok (.iload_n 1, 1) := by decide +kernel
theorem dX6_ofThermometer_2 : decode cX6_ofThermometer 2 = .ok (.invokevirtual 91, 3) := by decide +kernel
theorem dX6_ofThermometer_5 : decode cX6_ofThermometer 5 = .ok (.iload_n 2, 1) := by decide +kernel
theorem dX6_ofThermometer_6 : decode cX6_ofThermometer 6 = .ok (.iconst 0, 1) := by decide +kernel
theorem dX6_ofThermometer_7 : decode cX6_ofThermometer 7 = .ok (.bipush 9, 2) := by decide +kernel
theorem dX6_ofThermometer_9 : decode cX6_ofThermometer 9 = .ok (.invokestatic 47, 3) := by decide +kernel
theorem dX6_ofThermometer_12 : decode cX6_ofThermometer 12 = .ok (.aload_n 0, 1) := by decide +kernel
theorem dX6_ofThermometer_13 : decode cX6_ofThermometer 13 = .ok (.getfield 10, 3) := by decide +kernel
theorem dX6_ofThermometer_16 : decode cX6_ofThermometer 16 = .ok (.iload_n 1, 1) := by decide +kernel
theorem dX6_ofThermometer_17 : decode cX6_ofThermometer 17 = .ok (.invokevirtual 94, 3) := by decide +kernel
theorem dX6_ofThermometer_20 : decode cX6_ofThermometer 20 = .ok (.iload_n 2, 1) := by decide +kernel
theorem dX6_ofThermometer_21 : decode cX6_ofThermometer 21 = .ok (.invokevirtual 186, 3) := by decide +kernel
theorem dX6_ofThermometer_24 : decode cX6_ofThermometer 24 = .ok (.ireturn, 1) := by decide +kernel
theorem dX6_reading_0 : decode cX6_reading 0 = .ok (.aload_n 0, 1) := by decide +kernel
theorem dX6_reading_1 : decode cX6_reading 1 = .ok (.iload_n 1, 1) := by decide +kernel
theorem dX6_reading_2 : decode cX6_reading 2 = .ok (.invokevirtual 91, 3) := by decide +kernel
theorem dX6_reading_5 : decode cX6_reading 5 = .ok (.iload_n 2, 1) := by decide +kernel
theorem dX6_reading_6 : decode cX6_reading 6 = .ok (.invokestatic 189, 3) := by decide +kernel
theorem dX6_reading_9 : decode cX6_reading 9 = .ok (.iload_n 3, 1) := by decide +kernel
theorem dX6_reading_10 : decode cX6_reading 10 = .ok (.iconst 0, 1) := by decide +kernel
theorem dX6_reading_11 : decode cX6_reading 11 = .ok (.iconst 1, 1) := by decide +kernel
theorem dX6_reading_12 : decode cX6_reading 12 = .ok (.invokestatic 47, 3) := by decide +kernel
theorem dX6_reading_15 : decode cX6_reading 15 = .ok (.aload_n 0, 1) := by decide +kernel
theorem dX6_reading_16 : decode cX6_reading 16 = .ok (.getfield 10, 3) := by decide +kernel
theorem dX6_reading_19 : decode cX6_reading 19 = .ok (.iload_n 1, 1) := by decide +kernel
theorem dX6_reading_20 : decode cX6_reading 20 = .ok (.invokevirtual 94, 3) := by decide +kernel
theorem dX6_reading_23 : decode cX6_reading 23 = .ok (.astore 4, 2) := by decide +kernel
theorem dX6_reading_25 : decode cX6_reading 25 = .ok (.iload_n 3, 1) := by decide +kernel
theorem dX6_reading_26 : decode cX6_reading 26 = .ok (.ifCond .ne 12, 3) := by decide +kernel
theorem dX6_reading_29 : decode cX6_reading 29 = .ok (.aload 4, 2) := by decide +kernel
theorem dX6_reading_31 : decode cX6_reading 31 = .ok (.iload_n 2, 1) := by decide +kernel
theorem dX6_reading_32 : decode cX6_reading 32 = .ok (.invokevirtual 192, 3) := by decide +kernel
theorem dX6_reading_35 : decode cX6_reading 35 = .ok (.goto 9, 3) := by decide +kernel
theorem dX6_reading_38 : decode cX6_reading 38 = .ok (.aload 4, 2) := by decide +kernel
theorem dX6_reading_40 : decode cX6_reading 40 = .ok (.iload_n 2, 1) := by decide +kernel
theorem dX6_reading_41 : decode cX6_reading 41 = .ok (.invokevirtual 195, 3) := by decide +kernel
theorem dX6_reading_44 : decode cX6_reading 44 = .ok (.ireturn, 1) := by decide +kernel
theorem dX6_row_0 : decode cX6_row 0 = .ok (.iload_n 1, 1) := by decide +kernel
theorem dX6_row_1 : decode cX6_row 1 = .ok (.invokestatic 43, 3) := by decide +kernel
theorem dX6_row_4 : decode cX6_row 4 = .ok (.iload_n 2, 1) := by decide +kernel
theorem dX6_row_5 : decode cX6_row 5 = .ok (.iconst 0, 1) := by decide +kernel
theorem dX6_row_6 : decode cX6_row 6 = .ok (.iconst 3, 1) := by decide +kernel
theorem dX6_row_7 : decode cX6_row 7 = .ok (.invokestatic 47, 3) := by decide +kernel
theorem dX6_row_10 : decode cX6_row 10 = .ok (.iload_n 2, 1) := by decide +kernel
theorem dX6_row_11 : decode cX6_row 11 = .ok (.tableswitch 52 0 2 #[25, 34, 43], 25) := by decide +kernel
theorem dX6_row_36 : decode cX6_row 36 = .ok (.aload_n 0, 1) := by decide +kernel
theorem dX6_row_37 : decode cX6_row 37 = .ok (.getfield 10, 3) := by decide +kernel
theorem dX6_row_40 : decode cX6_row 40 = .ok (.iload_n 1, 1) := by decide +kernel
theorem dX6_row_41 : decode cX6_row 41 = .ok (.invokevirtual 85, 3) := by decide +kernel
theorem dX6_row_44 : decode cX6_row 44 = .ok (.ireturn, 1) := by decide +kernel
theorem dX6_row_45 : decode cX6_row 45 = .ok (.aload_n 0, 1) := by decide +kernel
theorem dX6_row_46 : decode cX6_row 46 = .ok (.getfield 10, 3) := by decide +kernel
theorem dX6_row_49 : decode cX6_row 49 = .ok (.iload_n 1, 1) := by decide +kernel
theorem dX6_row_50 : decode cX6_row 50 = .ok (.invokevirtual 198, 3) := by decide +kernel
theorem dX6_row_53 : decode cX6_row 53 = .ok (.ireturn, 1) := by decide +kernel
theorem dX6_row_54 : decode cX6_row 54 = .ok (.aload_n 0, 1) := by decide +kernel
theorem dX6_row_55 : decode cX6_row 55 = .ok (.getfield 10, 3) := by decide +kernel
theorem dX6_row_58 : decode cX6_row 58 = .ok (.iload_n 1, 1) := by decide +kernel
theorem dX6_row_59 : decode cX6_row 59 = .ok (.invokevirtual 201, 3) := by decide +kernel
theorem dX6_row_62 : decode cX6_row 62 = .ok (.ireturn, 1) := by decide +kernel
theorem dX6_row_63 : decode cX6_row 63 = .ok (.aload_n 0, 1) := by decide +kernel
theorem dX6_row_64 : decode cX6_row 64 = .ok (.getfield 10, 3) := by decide +kernel
theorem dX6_row_67 : decode cX6_row 67 = .ok (.iload_n 1, 1) := by decide +kernel
theorem dX6_row_68 : decode cX6_row 68 = .ok (.invokevirtual 204, 3) := by decide +kernel
theorem dX6_row_71 : decode cX6_row 71 = .ok (.ireturn, 1) := by decide +kernel
theorem dX6_count_0 : decode cX6_count 0 = .ok (.iload_n 1, 1) := by decide +kernel
theorem dX6_count_1 : decode cX6_count 1 = .ok (.iconst 0, 1) := by decide +kernel
theorem dX6_count_2 : decode cX6_count 2 = .ok (.bipush 13, 2) := by decide +kernel
theorem dX6_count_4 : decode cX6_count 4 = .ok (.invokestatic 47, 3) := by decide +kernel
theorem dX6_count_7 : decode cX6_count 7 = .ok (.iload_n 1, 1) := by decide +kernel
theorem dX6_count_8 : decode cX6_count 8 = .ok (.tableswitch 173 0 12 #[68, 76, 84, 92, 100, 108, 116, 124, 133, 141, 149, 157, 165], 68) := by decide +kernel
theorem dX6_count_76 : decode cX6_count 76 = .ok (.aload_n 0, 1) := by decide +kernel
theorem dX6_count_77 : decode cX6_count 77 = .ok (.getfield 10, 3) := by decide +kernel
theorem dX6_count_80 : decode cX6_count 80 = .ok (.getfield 171, 3) := by decide +kernel
theorem dX6_count_83 : decode cX6_count 83 = .ok (.ireturn, 1) := by decide +kernel
theorem dX6_count_84 : decode cX6_count 84 = .ok (.aload_n 0, 1) := by decide +kernel
theorem dX6_count_85 : decode cX6_count 85 = .ok (.getfield 10, 3) := by decide +kernel
theorem dX6_count_88 : decode cX6_count 88 = .ok (.getfield 207, 3) := by decide +kernel
theorem dX6_count_91 : decode cX6_count 91 = .ok (.ireturn, 1) := by decide +kernel
theorem dX6_count_92 : decode cX6_count 92 = .ok (.aload_n 0, 1) := by decide +kernel
theorem dX6_count_93 : decode cX6_count 93 = .ok (.getfield 10, 3) := by decide +kernel
theorem dX6_count_96 : decode cX6_count 96 = .ok (.getfield 81, 3) := by decide +kernel
theorem dX6_count_99 : decode cX6_count 99 = .ok (.ireturn, 1) := by decide +kernel
theorem dX6_count_100 : decode cX6_count 100 = .ok (.aload_n 0, 1) := by decide +kernel
theorem dX6_count_101 : decode cX6_count 101 = .ok (.getfield 10, 3) := by decide +kernel
theorem dX6_count_104 : decode cX6_count 104 = .ok (.invokevirtual 208, 3) := by decide +kernel
theorem dX6_count_107 : decode cX6_count 107 = .ok (.ireturn, 1) := by decide +kernel
theorem dX6_count_108 : decode cX6_count 108 = .ok (.aload_n 0, 1) := by decide +kernel
theorem dX6_count_109 : decode cX6_count 109 = .ok (.getfield 10, 3) := by decide +kernel
theorem dX6_count_112 : decode cX6_count 112 = .ok (.invokevirtual 211, 3) := by decide +kernel
theorem dX6_count_115 : decode cX6_count 115 = .ok (.ireturn, 1) := by decide +kernel
theorem dX6_count_116 : decode cX6_count 116 = .ok (.aload_n 0, 1) := by decide +kernel
theorem dX6_count_117 : decode cX6_count 117 = .ok (.getfield 10, 3) := by decide +kernel
theorem dX6_count_120 : decode cX6_count 120 = .ok (.invokevirtual 214, 3) := by decide +kernel
theorem dX6_count_123 : decode cX6_count 123 = .ok (.ireturn, 1) := by decide +kernel
theorem dX6_count_124 : decode cX6_count 124 = .ok (.aload_n 0, 1) := by decide +kernel
theorem dX6_count_125 : decode cX6_count 125 = .ok (.getfield 10, 3) := by decide +kernel
theorem dX6_count_128 : decode cX6_count 128 = .ok (.invokevirtual 217, 3) := by decide +kernel
theorem dX6_count_131 : decode cX6_count 131 = .ok (.ireturn, 1) := by decide +kernel
theorem dX6_count_132 : decode cX6_count 132 = .ok (.aload_n 0, 1) := by decide +kernel
theorem dX6_count_133 : decode cX6_count 133 = .ok (.getfield 10, 3) := by decide +kernel
theorem dX6_count_136 : decode cX6_count 136 = .ok (.iconst (-1), 1) := by decide +kernel
theorem dX6_count_137 : decode cX6_count 137 = .ok (.invokevirtual 220, 3) := by decide +kernel
theorem dX6_count_140 : decode cX6_count 140 = .ok (.ireturn, 1) := by decide +kernel
theorem dX6_count_141 : decode cX6_count 141 = .ok (.aload_n 0, 1) := by decide +kernel
theorem dX6_count_142 : decode cX6_count 142 = .ok (.getfield 10, 3) := by decide +kernel
theorem dX6_count_145 : decode cX6_count 145 = .ok (.getfield 223, 3) := by decide +kernel
theorem dX6_count_148 : decode cX6_count 148 = .ok (.ireturn, 1) := by decide +kernel
theorem dX6_count_149 : decode cX6_count 149 = .ok (.aload_n 0, 1) := by decide +kernel
theorem dX6_count_150 : decode cX6_count 150 = .ok (.getfield 10, 3) := by decide +kernel
theorem dX6_count_153 : decode cX6_count 153 = .ok (.getfield 226, 3) := by decide +kernel
theorem dX6_count_156 : decode cX6_count 156 = .ok (.ireturn, 1) := by decide +kernel
theorem dX6_count_157 : decode cX6_count 157 = .ok (.aload_n 0, 1) := by decide +kernel
theorem dX6_count_158 : decode cX6_count 158 = .ok (.getfield 22, 3) := by decide +kernel
theorem dX6_count_161 : decode cX6_count 161 = .ok (.getfield 156, 3) := by decide +kernel
theorem dX6_count_164 : decode cX6_count 164 = .ok (.ireturn, 1) := by decide +kernel
theorem dX6_count_165 : decode cX6_count 165 = .ok (.aload_n 0, 1) := by decide +kernel
theorem dX6_count_166 : decode cX6_count 166 = .ok (.getfield 39, 3) := by decide +kernel
theorem dX6_count_169 : decode cX6_count 169 = .ok (.getfield 132, 3) := by decide +kernel
theorem dX6_count_172 : decode cX6_count 172 = .ok (.ireturn, 1) := by decide +kernel
theorem dX6_count_173 : decode cX6_count 173 = .ok (.aload_n 0, 1) := by decide +kernel
theorem dX6_count_174 : decode cX6_count 174 = .ok (.getfield 10, 3) := by decide +kernel
theorem dX6_count_177 : decode cX6_count 177 = .ok (.getfield 117, 3) := by decide +kernel
theorem dX6_count_180 : decode cX6_count 180 = .ok (.ireturn, 1) := by decide +kernel
theorem dX6_count_181 : decode cX6_count 181 = .ok (.aload_n 0, 1) := by decide +kernel
theorem dX6_count_182 : decode cX6_count 182 = .ok (.getfield 10, 3) := by decide +kernel
theorem dX6_count_185 : decode cX6_count 185 = .ok (.getfield 120, 3) := by decide +kernel
theorem dX6_count_188 : decode cX6_count 188 = .ok (.ireturn, 1) := by decide +kernel
theorem dX6_ranked_0 : decode cX6_ranked 0 = .ok (.iload_n 1, 1) := by decide +kernel
theorem dX6_ranked_1 : decode cX6_ranked 1 = .ok (.iconst 0, 1) := by decide +kernel
theorem dX6_ranked_2 : decode cX6_ranked 2 = .ok (.iconst 1, 1) := by decide +kernel
theorem dX6_ranked_3 : decode cX6_ranked 3 = .ok (.invokestatic 47, 3) := by decide +kernel
theorem dX6_ranked_6 : decode cX6_ranked 6 = .ok (.iload_n 2, 1) := by decide +kernel
theorem dX6_ranked_7 : decode cX6_ranked 7 = .ok (.invokestatic 189, 3) := by decide +kernel
theorem dX6_ranked_10 : decode cX6_ranked 10 = .ok (.aload_n 0, 1) := by decide +kernel
theorem dX6_ranked_11 : decode cX6_ranked 11 = .ok (.getfield 10, 3) := by decide +kernel
theorem dX6_ranked_14 : decode cX6_ranked 14 = .ok (.iload_n 1, 1) := by decide +kernel
theorem dX6_ranked_15 : decode cX6_ranked 15 = .ok (.iload_n 2, 1) := by decide +kernel
theorem dX6_ranked_16 : decode cX6_ranked 16 = .ok (.invokevirtual 229, 3) := by decide +kernel
theorem dX6_ranked_19 : decode cX6_ranked 19 = .ok (.ireturn, 1) := by decide +kernel
theorem dX6_between_0 : decode cX6_between 0 = .ok (.aload_n 0, 1) := by decide +kernel
theorem dX6_between_1 : decode cX6_between 1 = .ok (.getfield 10, 3) := by decide +kernel
theorem dX6_between_4 : decode cX6_between 4 = .ok (.iload_n 1, 1) := by decide +kernel
theorem dX6_between_5 : decode cX6_between 5 = .ok (.iload_n 2, 1) := by decide +kernel
theorem dX6_between_6 : decode cX6_between 6 = .ok (.invokevirtual 233, 3) := by decide +kernel
theorem dX6_between_9 : decode cX6_between 9 = .ok (.ireturn, 1) := by decide +kernel
theorem dX6_ifLag_0 : decode cX6_ifLag 0 = .ok (.aload_n 0, 1) := by decide +kernel
theorem dX6_ifLag_1 : decode cX6_ifLag 1 = .ok (.iload_n 1, 1) := by decide +kernel
theorem dX6_ifLag_2 : decode cX6_ifLag 2 = .ok (.invokevirtual 91, 3) := by decide +kernel
theorem dX6_ifLag_5 : decode cX6_ifLag 5 = .ok (.iload_n 2, 1) := by decide +kernel
theorem dX6_ifLag_6 : decode cX6_ifLag 6 = .ok (.iconst 1, 1) := by decide +kernel
theorem dX6_ifLag_7 : decode cX6_ifLag 7 = .ok (.bipush 9, 2) := by decide +kernel
theorem dX6_ifLag_9 : decode cX6_ifLag 9 = .ok (.invokestatic 47, 3) := by decide +kernel
theorem dX6_ifLag_12 : decode cX6_ifLag 12 = .ok (.aload_n 0, 1) := by decide +kernel
theorem dX6_ifLag_13 : decode cX6_ifLag 13 = .ok (.getfield 10, 3) := by decide +kernel
theorem dX6_ifLag_16 : decode cX6_ifLag 16 = .ok (.iload_n 1, 1) := by decide +kernel
theorem dX6_ifLag_17 : decode cX6_ifLag 17 = .ok (.invokevirtual 94, 3) := by decide +kernel
theorem dX6_ifLag_20 : decode cX6_ifLag 20 = .ok (.iload_n 2, 1) := by decide +kernel
theorem dX6_ifLag_21 : decode cX6_ifLag 21 = .ok (.invokevirtual 236, 3) := by decide +kernel
theorem dX6_ifLag_24 : decode cX6_ifLag 24 = .ok (.ireturn, 1) := by decide +kernel
theorem dX6_bestLag_0 : decode cX6_bestLag 0 = .ok (.aload_n 0, 1) := by decide +kernel
theorem dX6_bestLag_1 : decode cX6_bestLag 1 = .ok (.iload_n 1, 1) := by decide +kernel
theorem dX6_bestLag_2 : decode cX6_bestLag 2 = .ok (.invokevirtual 91, 3) := by decide +kernel
theorem dX6_bestLag_5 : decode cX6_bestLag 5 = .ok (.aload_n 0, 1) := by decide +kernel
theorem dX6_bestLag_6 : decode cX6_bestLag 6 = .ok (.getfield 10, 3) := by decide +kernel
theorem dX6_bestLag_9 : decode cX6_bestLag 9 = .ok (.iload_n 1, 1) := by decide +kernel
theorem dX6_bestLag_10 : decode cX6_bestLag 10 = .ok (.invokevirtual 94, 3) := by decide +kernel
theorem dX6_bestLag_13 : decode cX6_bestLag 13 = .ok (.aload_n 0, 1) := by decide +kernel
theorem dX6_bestLag_14 : decode cX6_bestLag 14 = .ok (.getfield 10, 3) := by decide +kernel
theorem dX6_bestLag_17 : decode cX6_bestLag 17 = .ok (.getfield 81, 3) := by decide +kernel
theorem dX6_bestLag_20 : decode cX6_bestLag 20 = .ok (.invokevirtual 239, 3) := by decide +kernel
theorem dX6_bestLag_23 : decode cX6_bestLag 23 = .ok (.ireturn, 1) := by decide +kernel
theorem dX6_ifStill_0 : decode cX6_ifStill 0 = .ok (.iload_n 1, 1) := by decide +kernel
theorem dX6_ifStill_1 : decode cX6_ifStill 1 = .ok (.iconst 1, 1) := by decide +kernel
theorem dX6_ifStill_2 : decode cX6_ifStill 2 = .ok (.bipush 48, 2) := by decide +kernel
theorem dX6_ifStill_4 : decode cX6_ifStill 4 = .ok (.invokestatic 47, 3) := by decide +kernel
theorem dX6_ifStill_7 : decode cX6_ifStill 7 = .ok (.iload_n 2, 1) := by decide +kernel
theorem dX6_ifStill_8 : decode cX6_ifStill 8 = .ok (.iconst 0, 1) := by decide +kernel
theorem dX6_ifStill_9 : decode cX6_ifStill 9 = .ok (.iconst 3, 1) := by decide +kernel
theorem dX6_ifStill_10 : decode cX6_ifStill 10 = .ok (.invokestatic 47, 3) := by decide +kernel
theorem dX6_ifStill_13 : decode cX6_ifStill 13 = .ok (.aload_n 0, 1) := by decide +kernel
theorem dX6_ifStill_14 : decode cX6_ifStill 14 = .ok (.getfield 16, 3) := by decide +kernel
theorem dX6_ifStill_17 : decode cX6_ifStill 17 = .ok (.aload_n 0, 1) := by decide +kernel
theorem dX6_ifStill_18 : decode cX6_ifStill 18 = .ok (.getfield 10, 3) := by decide +kernel
theorem dX6_ifStill_21 : decode cX6_ifStill 21 = .ok (.invokevirtual 183, 3) := by decide +kernel
theorem dX6_ifStill_24 : decode cX6_ifStill 24 = .ok (.aload_n 0, 1) := by decide +kernel
theorem dX6_ifStill_25 : decode cX6_ifStill 25 = .ok (.getfield 16, 3) := by decide +kernel
theorem dX6_ifStill_28 : decode cX6_ifStill 28 = .ok (.iload_n 1, 1) := by decide +kernel
theorem dX6_ifStill_29 : decode cX6_ifStill 29 = .ok (.iconst 0, 1) := by decide +kernel
theorem dX6_ifStill_30 : decode cX6_ifStill 30 = .ok (.invokevirtual 77, 3) := by decide +kernel
theorem dX6_ifStill_33 : decode cX6_ifStill 33 = .ok (.iload_n 2, 1) := by decide +kernel
theorem dX6_ifStill_34 : decode cX6_ifStill 34 = .ok (.tableswitch 58 0 2 #[26, 34, 42], 26) := by decide +kernel
theorem dX6_ifStill_60 : decode cX6_ifStill 60 = .ok (.aload_n 0, 1) := by decide +kernel
theorem dX6_ifStill_61 : decode cX6_ifStill 61 = .ok (.getfield 16, 3) := by decide +kernel
theorem dX6_ifStill_64 : decode cX6_ifStill 64 = .ok (.invokevirtual 214, 3) := by decide +kernel
theorem dX6_ifStill_67 : decode cX6_ifStill 67 = .ok (.ireturn, 1) := by decide +kernel
theorem dX6_ifStill_68 : decode cX6_ifStill 68 = .ok (.aload_n 0, 1) := by decide +kernel
theorem dX6_ifStill_69 : decode cX6_ifStill 69 = .ok (.getfield 16, 3) := by decide +kernel
theorem dX6_ifStill_72 : decode cX6_ifStill 72 = .ok (.invokevirtual 211, 3) := by decide +kernel
theorem dX6_ifStill_75 : decode cX6_ifStill 75 = .ok (.ireturn, 1) := by decide +kernel
theorem dX6_ifStill_76 : decode cX6_ifStill 76 = .ok (.aload_n 0, 1) := by decide +kernel
theorem dX6_ifStill_77 : decode cX6_ifStill 77 = .ok (.getfield 16, 3) := by decide +kernel
theorem dX6_ifStill_80 : decode cX6_ifStill 80 = .ok (.getfield 226, 3) := by decide +kernel
theorem dX6_ifStill_83 : decode cX6_ifStill 83 = .ok (.aload_n 0, 1) := by decide +kernel
theorem dX6_ifStill_84 : decode cX6_ifStill 84 = .ok (.getfield 10, 3) := by decide +kernel
theorem dX6_ifStill_87 : decode cX6_ifStill 87 = .ok (.getfield 226, 3) := by decide +kernel
theorem dX6_ifStill_90 : decode cX6_ifStill 90 = .ok (.isub, 1) := by decide +kernel
theorem dX6_ifStill_91 : decode cX6_ifStill 91 = .ok (.ireturn, 1) := by decide +kernel
theorem dX6_ifStill_92 : decode cX6_ifStill 92 = .ok (.aload_n 0, 1) := by decide +kernel
theorem dX6_ifStill_93 : decode cX6_ifStill 93 = .ok (.getfield 16, 3) := by decide +kernel
theorem dX6_ifStill_96 : decode cX6_ifStill 96 = .ok (.invokevirtual 242, 3) := by decide +kernel
theorem dX6_ifStill_99 : decode cX6_ifStill 99 = .ok (.ireturn, 1) := by decide +kernel
theorem dX6_stillIn_0 : decode cX6_stillIn 0 = .ok (.aload_n 0, 1) := by decide +kernel
theorem dX6_stillIn_1 : decode cX6_stillIn 1 = .ok (.iload_n 1, 1) := by decide +kernel
theorem dX6_stillIn_2 : decode cX6_stillIn 2 = .ok (.invokevirtual 91, 3) := by decide +kernel
theorem dX6_stillIn_5 : decode cX6_stillIn 5 = .ok (.aload_n 0, 1) := by decide +kernel
theorem dX6_stillIn_6 : decode cX6_stillIn 6 = .ok (.getfield 10, 3) := by decide +kernel
theorem dX6_stillIn_9 : decode cX6_stillIn 9 = .ok (.iload_n 1, 1) := by decide +kernel
theorem dX6_stillIn_10 : decode cX6_stillIn 10 = .ok (.invokevirtual 94, 3) := by decide +kernel
theorem dX6_stillIn_13 : decode cX6_stillIn 13 = .ok (.aload_n 0, 1) := by decide +kernel
theorem dX6_stillIn_14 : decode cX6_stillIn 14 = .ok (.getfield 10, 3) := by decide +kernel
theorem dX6_stillIn_17 : decode cX6_stillIn 17 = .ok (.getfield 81, 3) := by decide +kernel
theorem dX6_stillIn_20 : decode cX6_stillIn 20 = .ok (.invokevirtual 245, 3) := by decide +kernel
theorem dX6_stillIn_23 : decode cX6_stillIn 23 = .ok (.ireturn, 1) := by decide +kernel
theorem dX6_meanError_0 : decode cX6_meanError 0 = .ok (.aload_n 0, 1) := by decide +kernel
theorem dX6_meanError_1 : decode cX6_meanError 1 = .ok (.getfield 10, 3) := by decide +kernel
theorem dX6_meanError_4 : decode cX6_meanError 4 = .ok (.invokevirtual 248, 3) := by decide +kernel
theorem dX6_meanError_7 : decode cX6_meanError 7 = .ok (.istore_n 1, 1) := by decide +kernel
theorem dX6_meanError_8 : decode cX6_meanError 8 = .ok (.iload_n 1, 1) := by decide +kernel
theorem dX6_meanError_9 : decode cX6_meanError 9 = .ok (.ifCond .ne 7, 3) := by decide +kernel
theorem dX6_meanError_12 : decode cX6_meanError 12 = .ok (.dconst 0, 1) := by decide +kernel
theorem dX6_meanError_13 : decode cX6_meanError 13 = .ok (.goto 14, 3) := by decide +kernel
theorem dX6_meanError_16 : decode cX6_meanError 16 = .ok (.aload_n 0, 1) := by decide +kernel
theorem dX6_meanError_17 : decode cX6_meanError 17 = .ok (.getfield 10, 3) := by decide +kernel
theorem dX6_meanError_20 : decode cX6_meanError 20 = .ok (.invokevirtual 251, 3) := by decide +kernel
theorem dX6_meanError_23 : decode cX6_meanError 23 = .ok (.i2d, 1) := by decide +kernel
theorem dX6_meanError_24 : decode cX6_meanError 24 = .ok (.iload_n 1, 1) := by decide +kernel
theorem dX6_meanError_25 : decode cX6_meanError 25 = .ok (.i2d, 1) := by decide +kernel
theorem dX6_meanError_26 : decode cX6_meanError 26 = .ok (.ddiv, 1) := by decide +kernel
theorem dX6_meanError_27 : decode cX6_meanError 27 = .ok (.dreturn, 1) := by decide +kernel
theorem dX6_checkRow_0 : decode cX6_checkRow 0 = .ok (.iload_n 0, 1) := by decide +kernel
theorem dX6_checkRow_1 : decode cX6_checkRow 1 = .ok (.ifCond .lt 8, 3) := by decide +kernel
theorem dX6_checkRow_4 : decode cX6_checkRow 4 = .ok (.iload_n 0, 1) := by decide +kernel
theorem dX6_checkRow_5 : decode cX6_checkRow 5 = .ok (.iconst 4, 1) := by decide +kernel
theorem dX6_checkRow_6 : decode cX6_checkRow 6 = .ok (.if_icmp .lt 13, 3) := by decide +kernel
theorem dX6_checkRow_9 : decode cX6_checkRow 9 = .ok (.new 112, 3) := by decide +kernel
theorem dX6_checkRow_12 : decode cX6_checkRow 12 = .ok (.dup, 1) := by decide +kernel
theorem dX6_checkRow_13 : decode cX6_checkRow 13 = .ok (.ldc 254, 2) := by decide +kernel
theorem dX6_checkRow_15 : decode cX6_checkRow 15 = .ok (.invokespecial 116, 3) := by decide +kernel
theorem dX6_checkRow_18 : decode cX6_checkRow 18 = .ok (.athrow, 1) := by decide +kernel
theorem dX6_checkRow_19 : decode cX6_checkRow 19 = .ok (.return_, 1) := by decide +kernel
theorem dX6_checkRange_0 : decode cX6_checkRange 0 = .ok (.iload_n 0, 1) := by decide +kernel
theorem dX6_checkRange_1 : decode cX6_checkRange 1 = .ok (.iload_n 1, 1) := by decide +kernel
theorem dX6_checkRange_2 : decode cX6_checkRange 2 = .ok (.if_icmp .lt 8, 3) := by decide +kernel
theorem dX6_checkRange_5 : decode cX6_checkRange 5 = .ok (.iload_n 0, 1) := by decide +kernel
theorem dX6_checkRange_6 : decode cX6_checkRange 6 = .ok (.iload_n 2, 1) := by decide +kernel
theorem dX6_checkRange_7 : decode cX6_checkRange 7 = .ok (.if_icmp .le 14, 3) := by decide +kernel
theorem dX6_checkRange_10 : decode cX6_checkRange 10 = .ok (.new 142, 3) := by decide +kernel
theorem dX6_checkRange_13 : decode cX6_checkRange 13 = .ok (.dup, 1) := by decide +kernel
theorem dX6_checkRange_14 : decode cX6_checkRange 14 = .ok (.ldc_w 256, 3) := by decide +kernel
theorem dX6_checkRange_17 : decode cX6_checkRange 17 = .ok (.invokespecial 146, 3) := by decide +kernel
theorem dX6_checkRange_20 : decode cX6_checkRange 20 = .ok (.athrow, 1) := by decide +kernel
theorem dX6_checkRange_21 : decode cX6_checkRange 21 = .ok (.return_, 1) := by decide +kernel
theorem dX6_checkNotNegative_0 : decode cX6_checkNotNegative 0 = .ok (.iload_n 0, 1) := by decide +kernel
theorem dX6_checkNotNegative_1 : decode cX6_checkNotNegative 1 = .ok (.ifCond .ge 14, 3) := by decide +kernel
theorem dX6_checkNotNegative_4 : decode cX6_checkNotNegative 4 = .ok (.new 142, 3) := by decide +kernel
theorem dX6_checkNotNegative_7 : decode cX6_checkNotNegative 7 = .ok (.dup, 1) := by decide +kernel
theorem dX6_checkNotNegative_8 : decode cX6_checkNotNegative 8 = .ok (.ldc_w 258, 3) := by decide +kernel
theorem dX6_checkNotNegative_11 : decode cX6_checkNotNegative 11 = .ok (.invokespecial 146, 3) := by decide +kernel
theorem dX6_checkNotNegative_14 : decode cX6_checkNotNegative 14 = .ok (.athrow, 1) := by decide +kernel
theorem dX6_checkNotNegative_15 : decode cX6_checkNotNegative 15 = .ok (.return_, 1) := by decide +kernel
theorem dX6_checkThermometer_0 : decode cX6_checkThermometer 0 = .ok (.aload_n 0, 1) := by decide +kernel
theorem dX6_checkThermometer_1 : decode cX6_checkThermometer 1 = .ok (.getfield 10, 3) := by decide +kernel
theorem dX6_checkThermometer_4 : decode cX6_checkThermometer 4 = .ok (.iload_n 1, 1) := by decide +kernel
theorem dX6_checkThermometer_5 : decode cX6_checkThermometer 5 = .ok (.invokevirtual 260, 3) := by decide +kernel
theorem dX6_checkThermometer_8 : decode cX6_checkThermometer 8 = .ok (.ifCond .ne 14, 3) := by decide +kernel
theorem dX6_checkThermometer_11 : decode cX6_checkThermometer 11 = .ok (.new 112, 3) := by decide +kernel
theorem dX6_checkThermometer_14 : decode cX6_checkThermometer 14 = .ok (.dup, 1) := by decide +kernel
theorem dX6_checkThermometer_15 : decode cX6_checkThermometer 15 = .ok (.ldc_w 264, 3) := by decide +kernel
theorem dX6_checkThermometer_18 : decode cX6_checkThermometer 18 = .ok (.invokespecial 116, 3) := by decide +kernel
theorem dX6_checkThermometer_21 : decode cX6_checkThermometer 21 = .ok (.athrow, 1) := by decide +kernel
theorem dX6_checkThermometer_22 : decode cX6_checkThermometer 22 = .ok (.return_, 1) := by decide +kernel
theorem dX6_checkHoursLeft_0 : decode cX6_checkHoursLeft 0 = .ok (.aload_n 0, 1) := by decide +kernel
theorem dX6_checkHoursLeft_1 : decode cX6_checkHoursLeft 1 = .ok (.getfield 10, 3) := by decide +kernel
theorem dX6_checkHoursLeft_4 : decode cX6_checkHoursLeft 4 = .ok (.iload_n 1, 1) := by decide +kernel
theorem dX6_checkHoursLeft_5 : decode cX6_checkHoursLeft 5 = .ok (.invokevirtual 266, 3) := by decide +kernel
theorem dX6_checkHoursLeft_8 : decode cX6_checkHoursLeft 8 = .ok (.ifCond .ne 14, 3) := by decide +kernel
theorem dX6_checkHoursLeft_11 : decode cX6_checkHoursLeft 11 = .ok (.new 55, 3) := by decide +kernel
theorem dX6_checkHoursLeft_14 : decode cX6_checkHoursLeft 14 = .ok (.dup, 1) := by decide +kernel
theorem dX6_checkHoursLeft_15 : decode cX6_checkHoursLeft 15 = .ok (.ldc_w 269, 3) := by decide +kernel
theorem dX6_checkHoursLeft_18 : decode cX6_checkHoursLeft 18 = .ok (.invokespecial 59, 3) := by decide +kernel
theorem dX6_checkHoursLeft_21 : decode cX6_checkHoursLeft 21 = .ok (.athrow, 1) := by decide +kernel
theorem dX6_checkHoursLeft_22 : decode cX6_checkHoursLeft 22 = .ok (.return_, 1) := by decide +kernel
theorem dX6_quotient_0 : decode cX6_quotient 0 = .ok (.iload_n 1, 1) := by decide +kernel
theorem dX6_quotient_1 : decode cX6_quotient 1 = .ok (.ifCond .ne 7, 3) := by decide +kernel
theorem dX6_quotient_4 : decode cX6_quotient 4 = .ok (.iconst 0, 1) := by decide +kernel
theorem dX6_quotient_5 : decode cX6_quotient 5 = .ok (.goto 6, 3) := by decide +kernel
theorem dX6_quotient_8 : decode cX6_quotient 8 = .ok (.iload_n 0, 1) := by decide +kernel
theorem dX6_quotient_9 : decode cX6_quotient 9 = .ok (.iload_n 1, 1) := by decide +kernel
theorem dX6_quotient_10 : decode cX6_quotient 10 = .ok (.idiv, 1) := by decide +kernel
theorem dX6_quotient_11 : decode cX6_quotient 11 = .ok (.ireturn, 1) := by decide +kernel
theorem dX6_remainder_0 : decode cX6_remainder 0 = .ok (.iload_n 1, 1) := by decide +kernel
theorem dX6_remainder_1 : decode cX6_remainder 1 = .ok (.ifCond .ne 7, 3) := by decide +kernel
theorem dX6_remainder_4 : decode cX6_remainder 4 = .ok (.iconst 0, 1) := by decide +kernel
theorem dX6_remainder_5 : decode cX6_remainder 5 = .ok (.goto 6, 3) := by decide +kernel
theorem dX6_remainder_8 : decode cX6_remainder 8 = .ok (.iload_n 0, 1) := by decide +kernel
theorem dX6_remainder_9 : decode cX6_remainder 9 = .ok (.iload_n 1, 1) := by decide +kernel
theorem dX6_remainder_10 : decode cX6_remainder 10 = .ok (.irem, 1) := by decide +kernel
theorem dX6_remainder_11 : decode cX6_remainder 11 = .ok (.ireturn, 1) := by decide +kernel
theorem dX6_entry_0 : decode cX6_entry 0 = .ok (.iload_n 1, 1) := by decide +kernel
theorem dX6_entry_1 : decode cX6_entry 1 = .ok (.ifCond .lt 15, 3) := by decide +kernel
theorem dX6_entry_4 : decode cX6_entry 4 = .ok (.iload_n 1, 1) := by decide +kernel
theorem dX6_entry_5 : decode cX6_entry 5 = .ok (.aload_n 0, 1) := by decide +kernel
theorem dX6_entry_6 : decode cX6_entry 6 = .ok (.arraylength, 1) := by decide +kernel
theorem dX6_entry_7 : decode cX6_entry 7 = .ok (.if_icmp .ge 9, 3) := by decide +kernel
theorem dX6_entry_10 : decode cX6_entry 10 = .ok (.aload_n 0, 1) := by decide +kernel
theorem dX6_entry_11 : decode cX6_entry 11 = .ok (.iload_n 1, 1) := by decide +kernel
theorem dX6_entry_12 : decode cX6_entry 12 = .ok (.iaload, 1) := by decide +kernel
theorem dX6_entry_13 : decode cX6_entry 13 = .ok (.goto 6, 3) := by decide +kernel
theorem dX6_entry_16 : decode cX6_entry 16 = .ok (.ldc_w 283, 3) := by decide +kernel
theorem dX6_entry_19 : decode cX6_entry 19 = .ok (.ireturn, 1) := by decide +kernel
theorem dX6_copyInto_0 : decode cX6_copyInto 0 = .ok (.iconst 0, 1) := by decide +kernel
theorem dX6_copyInto_1 : decode cX6_copyInto 1 = .ok (.istore_n 2, 1) := by decide +kernel
theorem dX6_copyInto_2 : decode cX6_copyInto 2 = .ok (.iload_n 2, 1) := by decide +kernel
theorem dX6_copyInto_3 : decode cX6_copyInto 3 = .ok (.aload_n 0, 1) := by decide +kernel
theorem dX6_copyInto_4 : decode cX6_copyInto 4 = .ok (.arraylength, 1) := by decide +kernel
theorem dX6_copyInto_5 : decode cX6_copyInto 5 = .ok (.if_icmp .ge 21, 3) := by decide +kernel
theorem dX6_copyInto_8 : decode cX6_copyInto 8 = .ok (.iload_n 2, 1) := by decide +kernel
theorem dX6_copyInto_9 : decode cX6_copyInto 9 = .ok (.aload_n 1, 1) := by decide +kernel
theorem dX6_copyInto_10 : decode cX6_copyInto 10 = .ok (.arraylength, 1) := by decide +kernel
theorem dX6_copyInto_11 : decode cX6_copyInto 11 = .ok (.if_icmp .ge 15, 3) := by decide +kernel
theorem dX6_copyInto_14 : decode cX6_copyInto 14 = .ok (.aload_n 0, 1) := by decide +kernel
theorem dX6_copyInto_15 : decode cX6_copyInto 15 = .ok (.iload_n 2, 1) := by decide +kernel
theorem dX6_copyInto_16 : decode cX6_copyInto 16 = .ok (.aload_n 1, 1) := by decide +kernel
theorem dX6_copyInto_17 : decode cX6_copyInto 17 = .ok (.iload_n 2, 1) := by decide +kernel
theorem dX6_copyInto_18 : decode cX6_copyInto 18 = .ok (.iaload, 1) := by decide +kernel
theorem dX6_copyInto_19 : decode cX6_copyInto 19 = .ok (.iastore, 1) := by decide +kernel
theorem dX6_copyInto_20 : decode cX6_copyInto 20 = .ok (.iinc 2 1, 3) := by decide +kernel
theorem dX6_copyInto_23 : decode cX6_copyInto 23 = .ok (.goto (-21), 3) := by decide +kernel
theorem dX6_copyInto_26 : decode cX6_copyInto 26 = .ok (.return_, 1) := by decide +kernel
theorem dX6_putFirst_0 : decode cX6_putFirst 0 = .ok (.aload_n 0, 1) := by decide +kernel
theorem dX6_putFirst_1 : decode cX6_putFirst 1 = .ok (.arraylength, 1) := by decide +kernel
theorem dX6_putFirst_2 : decode cX6_putFirst 2 = .ok (.iconst 1, 1) := by decide +kernel
theorem dX6_putFirst_3 : decode cX6_putFirst 3 = .ok (.isub, 1) := by decide +kernel
theorem dX6_putFirst_4 : decode cX6_putFirst 4 = .ok (.istore_n 2, 1) := by decide +kernel
theorem dX6_putFirst_5 : decode cX6_putFirst 5 = .ok (.iload_n 2, 1) := by decide +kernel
theorem dX6_putFirst_6 : decode cX6_putFirst 6 = .ok (.ifCond .le 17, 3) := by decide +kernel
theorem dX6_putFirst_9 : decode cX6_putFirst 9 = .ok (.aload_n 0, 1) := by decide +kernel
theorem dX6_putFirst_10 : decode cX6_putFirst 10 = .ok (.iload_n 2, 1) := by decide +kernel
theorem dX6_putFirst_11 : decode cX6_putFirst 11 = .ok (.aload_n 0, 1) := by decide +kernel
theorem dX6_putFirst_12 : decode cX6_putFirst 12 = .ok (.iload_n 2, 1) := by decide +kernel
theorem dX6_putFirst_13 : decode cX6_putFirst 13 = .ok (.iconst 1, 1) := by decide +kernel
theorem dX6_putFirst_14 : decode cX6_putFirst 14 = .ok (.isub, 1) := by decide +kernel
theorem dX6_putFirst_15 : decode cX6_putFirst 15 = .ok (.iaload, 1) := by decide +kernel
theorem dX6_putFirst_16 : decode cX6_putFirst 16 = .ok (.iastore, 1) := by decide +kernel
theorem dX6_putFirst_17 : decode cX6_putFirst 17 = .ok (.iinc 2 (-1), 3) := by decide +kernel
theorem dX6_putFirst_20 : decode cX6_putFirst 20 = .ok (.goto (-15), 3) := by decide +kernel
theorem dX6_putFirst_23 : decode cX6_putFirst 23 = .ok (.aload_n 0, 1) := by decide +kernel
theorem dX6_putFirst_24 : decode cX6_putFirst 24 = .ok (.arraylength, 1) := by decide +kernel
theorem dX6_putFirst_25 : decode cX6_putFirst 25 = .ok (.ifCond .le 7, 3) := by decide +kernel
theorem dX6_putFirst_28 : decode cX6_putFirst 28 = .ok (.aload_n 0, 1) := by decide +kernel
theorem dX6_putFirst_29 : decode cX6_putFirst 29 = .ok (.iconst 0, 1) := by decide +kernel
theorem dX6_putFirst_30 : decode cX6_putFirst 30 = .ok (.iload_n 1, 1) := by decide +kernel
theorem dX6_putFirst_31 : decode cX6_putFirst 31 = .ok (.iastore, 1) := by decide +kernel
theorem dX6_putFirst_32 : decode cX6_putFirst 32 = .ok (.return_, 1) := by decide +kernel
theorem dJ6_bitCount_0f7a4_0 : decode cJ6_bitCount_0f7a4 0 = .ok (.iload_n 0, 1) := by decide +kernel
theorem dJ6_bitCount_0f7a4_1 : decode cJ6_bitCount_0f7a4 1 = .ok (.iload_n 0, 1) := by decide +kernel
theorem dJ6_bitCount_0f7a4_2 : decode cJ6_bitCount_0f7a4 2 = .ok (.iconst 1, 1) := by decide +kernel
theorem dJ6_bitCount_0f7a4_3 : decode cJ6_bitCount_0f7a4 3 = .ok (.iushr, 1) := by decide +kernel
theorem dJ6_bitCount_0f7a4_4 : decode cJ6_bitCount_0f7a4 4 = .ok (.ldc_w 265, 3) := by decide +kernel
theorem dJ6_bitCount_0f7a4_7 : decode cJ6_bitCount_0f7a4 7 = .ok (.iand, 1) := by decide +kernel
theorem dJ6_bitCount_0f7a4_8 : decode cJ6_bitCount_0f7a4 8 = .ok (.isub, 1) := by decide +kernel
theorem dJ6_bitCount_0f7a4_9 : decode cJ6_bitCount_0f7a4 9 = .ok (.istore_n 0, 1) := by decide +kernel
theorem dJ6_bitCount_0f7a4_10 : decode cJ6_bitCount_0f7a4 10 = .ok (.iload_n 0, 1) := by decide +kernel
theorem dJ6_bitCount_0f7a4_11 : decode cJ6_bitCount_0f7a4 11 = .ok (.ldc_w 266, 3) := by decide +kernel
theorem dJ6_bitCount_0f7a4_14 : decode cJ6_bitCount_0f7a4 14 = .ok (.iand, 1) := by decide +kernel
theorem dJ6_bitCount_0f7a4_15 : decode cJ6_bitCount_0f7a4 15 = .ok (.iload_n 0, 1) := by decide +kernel
theorem dJ6_bitCount_0f7a4_16 : decode cJ6_bitCount_0f7a4 16 = .ok (.iconst 2, 1) := by decide +kernel
theorem dJ6_bitCount_0f7a4_17 : decode cJ6_bitCount_0f7a4 17 = .ok (.iushr, 1) := by decide +kernel
theorem dJ6_bitCount_0f7a4_18 : decode cJ6_bitCount_0f7a4 18 = .ok (.ldc_w 266, 3) := by decide +kernel
theorem dJ6_bitCount_0f7a4_21 : decode cJ6_bitCount_0f7a4 21 = .ok (.iand, 1) := by decide +kernel
theorem dJ6_bitCount_0f7a4_22 : decode cJ6_bitCount_0f7a4 22 = .ok (.iadd, 1) := by decide +kernel
theorem dJ6_bitCount_0f7a4_23 : decode cJ6_bitCount_0f7a4 23 = .ok (.istore_n 0, 1) := by decide +kernel
theorem dJ6_bitCount_0f7a4_24 : decode cJ6_bitCount_0f7a4 24 = .ok (.iload_n 0, 1) := by decide +kernel
theorem dJ6_bitCount_0f7a4_25 : decode cJ6_bitCount_0f7a4 25 = .ok (.iload_n 0, 1) := by decide +kernel
theorem dJ6_bitCount_0f7a4_26 : decode cJ6_bitCount_0f7a4 26 = .ok (.iconst 4, 1) := by decide +kernel
theorem dJ6_bitCount_0f7a4_27 : decode cJ6_bitCount_0f7a4 27 = .ok (.iushr, 1) := by decide +kernel
theorem dJ6_bitCount_0f7a4_28 : decode cJ6_bitCount_0f7a4 28 = .ok (.iadd, 1) := by decide +kernel
theorem dJ6_bitCount_0f7a4_29 : decode cJ6_bitCount_0f7a4 29 = .ok (.ldc_w 267, 3) := by decide +kernel
theorem dJ6_bitCount_0f7a4_32 : decode cJ6_bitCount_0f7a4 32 = .ok (.iand, 1) := by decide +kernel
theorem dJ6_bitCount_0f7a4_33 : decode cJ6_bitCount_0f7a4 33 = .ok (.istore_n 0, 1) := by decide +kernel
theorem dJ6_bitCount_0f7a4_34 : decode cJ6_bitCount_0f7a4 34 = .ok (.iload_n 0, 1) := by decide +kernel
theorem dJ6_bitCount_0f7a4_35 : decode cJ6_bitCount_0f7a4 35 = .ok (.iload_n 0, 1) := by decide +kernel
theorem dJ6_bitCount_0f7a4_36 : decode cJ6_bitCount_0f7a4 36 = .ok (.bipush 8, 2) := by decide +kernel
theorem dJ6_bitCount_0f7a4_38 : decode cJ6_bitCount_0f7a4 38 = .ok (.iushr, 1) := by decide +kernel
theorem dJ6_bitCount_0f7a4_39 : decode cJ6_bitCount_0f7a4 39 = .ok (.iadd, 1) := by decide +kernel
theorem dJ6_bitCount_0f7a4_40 : decode cJ6_bitCount_0f7a4 40 = .ok (.istore_n 0, 1) := by decide +kernel
theorem dJ6_bitCount_0f7a4_41 : decode cJ6_bitCount_0f7a4 41 = .ok (.iload_n 0, 1) := by decide +kernel
theorem dJ6_bitCount_0f7a4_42 : decode cJ6_bitCount_0f7a4 42 = .ok (.iload_n 0, 1) := by decide +kernel
theorem dJ6_bitCount_0f7a4_43 : decode cJ6_bitCount_0f7a4 43 = .ok (.bipush 16, 2) := by decide +kernel
theorem dJ6_bitCount_0f7a4_45 : decode cJ6_bitCount_0f7a4 45 = .ok (.iushr, 1) := by decide +kernel
theorem dJ6_bitCount_0f7a4_46 : decode cJ6_bitCount_0f7a4 46 = .ok (.iadd, 1) := by decide +kernel
theorem dJ6_bitCount_0f7a4_47 : decode cJ6_bitCount_0f7a4 47 = .ok (.istore_n 0, 1) := by decide +kernel
theorem dJ6_bitCount_0f7a4_48 : decode cJ6_bitCount_0f7a4 48 = .ok (.iload_n 0, 1) := by decide +kernel
theorem dJ6_bitCount_0f7a4_49 : decode cJ6_bitCount_0f7a4 49 = .ok (.bipush 63, 2) := by decide +kernel
theorem dJ6_bitCount_0f7a4_51 : decode cJ6_bitCount_0f7a4 51 = .ok (.iand, 1) := by decide +kernel
theorem dJ6_bitCount_0f7a4_52 : decode cJ6_bitCount_0f7a4 52 = .ok (.ireturn, 1) := by decide +kernel
theorem dJ9_abs_0f7a4_0 : decode cJ9_abs_0f7a4 0 = .ok (.iload_n 0, 1) := by decide +kernel
theorem dJ9_abs_0f7a4_1 : decode cJ9_abs_0f7a4 1 = .ok (.ifCond .ge 8, 3) := by decide +kernel
theorem dJ9_abs_0f7a4_4 : decode cJ9_abs_0f7a4 4 = .ok (.iload_n 0, 1) := by decide +kernel
theorem dJ9_abs_0f7a4_5 : decode cJ9_abs_0f7a4 5 = .ok (.ineg, 1) := by decide +kernel
theorem dJ9_abs_0f7a4_6 : decode cJ9_abs_0f7a4 6 = .ok (.goto 4, 3) := by decide +kernel
theorem dJ9_abs_0f7a4_9 : decode cJ9_abs_0f7a4 9 = .ok (.iload_n 0, 1) := by decide +kernel
theorem dJ9_abs_0f7a4_10 : decode cJ9_abs_0f7a4 10 = .ok (.ireturn, 1) := by decide +kernel
theorem dJ9_max_7cf53_0 : decode cJ9_max_7cf53 0 = .ok (.iload_n 0, 1) := by decide +kernel
theorem dJ9_max_7cf53_1 : decode cJ9_max_7cf53 1 = .ok (.iload_n 1, 1) := by decide +kernel
theorem dJ9_max_7cf53_2 : decode cJ9_max_7cf53 2 = .ok (.if_icmp .lt 7, 3) := by decide +kernel
theorem dJ9_max_7cf53_5 : decode cJ9_max_7cf53 5 = .ok (.iload_n 0, 1) := by decide +kernel
theorem dJ9_max_7cf53_6 : decode cJ9_max_7cf53 6 = .ok (.goto 4, 3) := by decide +kernel
theorem dJ9_max_7cf53_9 : decode cJ9_max_7cf53 9 = .ok (.iload_n 1, 1) := by decide +kernel
theorem dJ9_max_7cf53_10 : decode cJ9_max_7cf53 10 = .ok (.ireturn, 1) := by decide +kernel
theorem dJ9_min_7cf53_0 : decode cJ9_min_7cf53 0 = .ok (.iload_n 0, 1) := by decide +kernel
theorem dJ9_min_7cf53_1 : decode cJ9_min_7cf53 1 = .ok (.iload_n 1, 1) := by decide +kernel
theorem dJ9_min_7cf53_2 : decode cJ9_min_7cf53 2 = .ok (.if_icmp .gt 7, 3) := by decide +kernel
theorem dJ9_min_7cf53_5 : decode cJ9_min_7cf53 5 = .ok (.iload_n 0, 1) := by decide +kernel
theorem dJ9_min_7cf53_6 : decode cJ9_min_7cf53 6 = .ok (.goto 4, 3) := by decide +kernel
theorem dJ9_min_7cf53_9 : decode cJ9_min_7cf53 9 = .ok (.iload_n 1, 1) := by decide +kernel
theorem dJ9_min_7cf53_10 : decode cJ9_min_7cf53 10 = .ok (.ireturn, 1) := by decide +kernel
end
section
theorem dL_cell_0 : decode cL_cell 0 = .ok (.iload_n 1, 1) := by decide +kernel
theorem dL_cell_1 : decode cL_cell 1 = .ok (.aload_n 0, 1) := by decide +kernel
theorem dL_cell_2 : decode cL_cell 2 = .ok (.arraylength, 1) := by decide +kernel
theorem dL_cell_3 : decode cL_cell 3 = .ok (.if_icmp .ge 9, 3) := by decide +kernel
theorem dL_cell_6 : decode cL_cell 6 = .ok (.aload_n 0, 1) := by decide +kernel
theorem dL_cell_7 : decode cL_cell 7 = .ok (.iload_n 1, 1) := by decide +kernel
theorem dL_cell_8 : decode cL_cell 8 = .ok (.iaload, 1) := by decide +kernel
theorem dL_cell_9 : decode cL_cell 9 = .ok (.goto 9, 3) := by decide +kernel
theorem dL_cell_12 : decode cL_cell 12 = .ok (.ldc 7, 2) := by decide +kernel
theorem dL_cell_14 : decode cL_cell 14 = .ok (.iload_n 1, 1) := by decide +kernel
theorem dL_cell_15 : decode cL_cell 15 = .ok (.iconst 1, 1) := by decide +kernel
theorem dL_cell_16 : decode cL_cell 16 = .ok (.iadd, 1) := by decide +kernel
theorem dL_cell_17 : decode cL_cell 17 = .ok (.imul, 1) := by decide +kernel
theorem dL_cell_18 : decode cL_cell 18 = .ok (.ireturn, 1) := by decide +kernel
theorem dL_low_0 : decode cL_low 0 = .ok (.iload_n 0, 1) := by decide +kernel
theorem dL_low_1 : decode cL_low 1 = .ok (.ldc 8, 2) := by decide +kernel
theorem dL_low_3 : decode cL_low 3 = .ok (.iand, 1) := by decide +kernel
theorem dL_low_4 : decode cL_low 4 = .ok (.iload_n 1, 1) := by decide +kernel
theorem dL_low_5 : decode cL_low 5 = .ok (.irem, 1) := by decide +kernel
theorem dL_low_6 : decode cL_low 6 = .ok (.ireturn, 1) := by decide +kernel
theorem dL_mended_0 : decode cL_mended 0 = .ok (.aload_n 0, 1) := by decide +kernel
theorem dL_mended_1 : decode cL_mended 1 = .ok (.bipush 10, 2) := by decide +kernel
theorem dL_mended_3 : decode cL_mended 3 = .ok (.iload_n 3, 1) := by decide +kernel
theorem dL_mended_4 : decode cL_mended 4 = .ok (.imul, 1) := by decide +kernel
theorem dL_mended_5 : decode cL_mended 5 = .ok (.bipush 7, 2) := by decide +kernel
theorem dL_mended_7 : decode cL_mended 7 = .ok (.iadd, 1) := by decide +kernel
theorem dL_mended_8 : decode cL_mended 8 = .ok (.iaload, 1) := by decide +kernel
theorem dL_mended_9 : decode cL_mended 9 = .ok (.istore 5, 2) := by decide +kernel
theorem dL_mended_11 : decode cL_mended 11 = .ok (.iload 5, 2) := by decide +kernel
theorem dL_mended_13 : decode cL_mended 13 = .ok (.iconst 1, 1) := by decide +kernel
theorem dL_mended_14 : decode cL_mended 14 = .ok (.if_icmp .ge 6, 3) := by decide +kernel
theorem dL_mended_17 : decode cL_mended 17 = .ok (.ldc 11, 2) := by decide +kernel
theorem dL_mended_19 : decode cL_mended 19 = .ok (.ireturn, 1) := by decide +kernel
theorem dL_mended_20 : decode cL_mended 20 = .ok (.iload 5, 2) := by decide +kernel
theorem dL_mended_22 : decode cL_mended 22 = .ok (.iconst 2, 1) := by decide +kernel
theorem dL_mended_23 : decode cL_mended 23 = .ok (.if_icmp .ge 7, 3) := by decide +kernel
theorem dL_mended_26 : decode cL_mended 26 = .ok (.iconst 0, 1) := by decide +kernel
theorem dL_mended_27 : decode cL_mended 27 = .ok (.goto 39, 3) := by decide +kernel
theorem dL_mended_30 : decode cL_mended 30 = .ok (.aload_n 2, 1) := by decide +kernel
theorem dL_mended_31 : decode cL_mended 31 = .ok (.bipush 6, 2) := by decide +kernel
theorem dL_mended_33 : decode cL_mended 33 = .ok (.iload_n 3, 1) := by decide +kernel
theorem dL_mended_34 : decode cL_mended 34 = .ok (.imul, 1) := by decide +kernel
theorem dL_mended_35 : decode cL_mended 35 = .ok (.iaload, 1) := by decide +kernel
theorem dL_mended_36 : decode cL_mended 36 = .ok (.aload_n 2, 1) := by decide +kernel
theorem dL_mended_37 : decode cL_mended 37 = .ok (.bipush 6, 2) := by decide +kernel
theorem dL_mended_39 : decode cL_mended 39 = .ok (.iload_n 3, 1) := by decide +kernel
theorem dL_mended_40 : decode cL_mended 40 = .ok (.imul, 1) := by decide +kernel
theorem dL_mended_41 : decode cL_mended 41 = .ok (.iconst 1, 1) := by decide +kernel
theorem dL_mended_42 : decode cL_mended 42 = .ok (.iadd, 1) := by decide +kernel
theorem dL_mended_43 : decode cL_mended 43 = .ok (.iaload, 1) := by decide +kernel
theorem dL_mended_44 : decode cL_mended 44 = .ok (.isub, 1) := by decide +kernel
theorem dL_mended_45 : decode cL_mended 45 = .ok (.iload 4, 2) := by decide +kernel
theorem dL_mended_47 : decode cL_mended 47 = .ok (.iconst 1, 1) := by decide +kernel
theorem dL_mended_48 : decode cL_mended 48 = .ok (.isub, 1) := by decide +kernel
theorem dL_mended_49 : decode cL_mended 49 = .ok (.imul, 1) := by decide +kernel
theorem dL_mended_50 : decode cL_mended 50 = .ok (.aload_n 1, 1) := by decide +kernel
theorem dL_mended_51 : decode cL_mended 51 = .ok (.bipush 6, 2) := by decide +kernel
theorem dL_mended_53 : decode cL_mended 53 = .ok (.iload_n 3, 1) := by decide +kernel
theorem dL_mended_54 : decode cL_mended 54 = .ok (.imul, 1) := by decide +kernel
theorem dL_mended_55 : decode cL_mended 55 = .ok (.iaload, 1) := by decide +kernel
theorem dL_mended_56 : decode cL_mended 56 = .ok (.aload_n 1, 1) := by decide +kernel
theorem dL_mended_57 : decode cL_mended 57 = .ok (.bipush 6, 2) := by decide +kernel
theorem dL_mended_59 : decode cL_mended 59 = .ok (.iload_n 3, 1) := by decide +kernel
theorem dL_mended_60 : decode cL_mended 60 = .ok (.imul, 1) := by decide +kernel
theorem dL_mended_61 : decode cL_mended 61 = .ok (.iconst 1, 1) := by decide +kernel
theorem dL_mended_62 : decode cL_mended 62 = .ok (.iadd, 1) := by decide +kernel
theorem dL_mended_63 : decode cL_mended 63 = .ok (.iaload, 1) := by decide +kernel
theorem dL_mended_64 : decode cL_mended 64 = .ok (.isub, 1) := by decide +kernel
theorem dL_mended_65 : decode cL_mended 65 = .ok (.idiv, 1) := by decide +kernel
theorem dL_mended_66 : decode cL_mended 66 = .ok (.istore 6, 2) := by decide +kernel
theorem dL_mended_68 : decode cL_mended 68 = .ok (.aload_n 2, 1) := by decide +kernel
theorem dL_mended_69 : decode cL_mended 69 = .ok (.bipush 6, 2) := by decide +kernel
theorem dL_mended_71 : decode cL_mended 71 = .ok (.iload_n 3, 1) := by decide +kernel
theorem dL_mended_72 : decode cL_mended 72 = .ok (.imul, 1) := by decide +kernel
theorem dL_mended_73 : decode cL_mended 73 = .ok (.iaload, 1) := by decide +kernel
theorem dL_mended_74 : decode cL_mended 74 = .ok (.iload 6, 2) := by decide +kernel
theorem dL_mended_76 : decode cL_mended 76 = .ok (.iadd, 1) := by decide +kernel
theorem dL_mended_77 : decode cL_mended 77 = .ok (.aload_n 0, 1) := by decide +kernel
theorem dL_mended_78 : decode cL_mended 78 = .ok (.bipush 10, 2) := by decide +kernel
theorem dL_mended_80 : decode cL_mended 80 = .ok (.iload_n 3, 1) := by decide +kernel
theorem dL_mended_81 : decode cL_mended 81 = .ok (.imul, 1) := by decide +kernel
theorem dL_mended_82 : decode cL_mended 82 = .ok (.iconst 2, 1) := by decide +kernel
theorem dL_mended_83 : decode cL_mended 83 = .ok (.iadd, 1) := by decide +kernel
theorem dL_mended_84 : decode cL_mended 84 = .ok (.iaload, 1) := by decide +kernel
theorem dL_mended_85 : decode cL_mended 85 = .ok (.isub, 1) := by decide +kernel
theorem dL_mended_86 : decode cL_mended 86 = .ok (.ireturn, 1) := by decide +kernel
theorem dL_own_0 : decode cL_own 0 = .ok (.aload_n 0, 1) := by decide +kernel
theorem dL_own_1 : decode cL_own 1 = .ok (.aload_n 1, 1) := by decide +kernel
theorem dL_own_2 : decode cL_own 2 = .ok (.aload_n 2, 1) := by decide +kernel
theorem dL_own_3 : decode cL_own 3 = .ok (.iload_n 3, 1) := by decide +kernel
theorem dL_own_4 : decode cL_own 4 = .ok (.aload_n 0, 1) := by decide +kernel
theorem dL_own_5 : decode cL_own 5 = .ok (.bipush 10, 2) := by decide +kernel
theorem dL_own_7 : decode cL_own 7 = .ok (.iload_n 3, 1) := by decide +kernel
theorem dL_own_8 : decode cL_own 8 = .ok (.imul, 1) := by decide +kernel
theorem dL_own_9 : decode cL_own 9 = .ok (.iconst 1, 1) := by decide +kernel
theorem dL_own_10 : decode cL_own 10 = .ok (.iadd, 1) := by decide +kernel
theorem dL_own_11 : decode cL_own 11 = .ok (.iaload, 1) := by decide +kernel
theorem dL_own_12 : decode cL_own 12 = .ok (.invokestatic 12, 3) := by decide +kernel
theorem dL_own_15 : decode cL_own 15 = .ok (.ireturn, 1) := by decide +kernel
theorem dL_asked_0 : decode cL_asked 0 = .ok (.aload_n 0, 1) := by decide +kernel
theorem dL_asked_1 : decode cL_asked 1 = .ok (.bipush 10, 2) := by decide +kernel
theorem dL_asked_3 : decode cL_asked 3 = .ok (.iload_n 1, 1) := by decide +kernel
theorem dL_asked_4 : decode cL_asked 4 = .ok (.imul, 1) := by decide +kernel
theorem dL_asked_5 : decode cL_asked 5 = .ok (.bipush 7, 2) := by decide +kernel
theorem dL_asked_7 : decode cL_asked 7 = .ok (.iadd, 1) := by decide +kernel
theorem dL_asked_8 : decode cL_asked 8 = .ok (.iaload, 1) := by decide +kernel
theorem dL_asked_9 : decode cL_asked 9 = .ok (.ifCond .le 19, 3) := by decide +kernel
theorem dL_asked_12 : decode cL_asked 12 = .ok (.aload_n 0, 1) := by decide +kernel
theorem dL_asked_13 : decode cL_asked 13 = .ok (.bipush 10, 2) := by decide +kernel
theorem dL_asked_15 : decode cL_asked 15 = .ok (.iload_n 1, 1) := by decide +kernel
theorem dL_asked_16 : decode cL_asked 16 = .ok (.imul, 1) := by decide +kernel
theorem dL_asked_17 : decode cL_asked 17 = .ok (.bipush 6, 2) := by decide +kernel
theorem dL_asked_19 : decode cL_asked 19 = .ok (.iadd, 1) := by decide +kernel
theorem dL_asked_20 : decode cL_asked 20 = .ok (.iaload, 1) := by decide +kernel
theorem dL_asked_21 : decode cL_asked 21 = .ok (.ifCond .ne 7, 3) := by decide +kernel
theorem dL_asked_24 : decode cL_asked 24 = .ok (.iconst 1, 1) := by decide +kernel
theorem dL_asked_25 : decode cL_asked 25 = .ok (.goto 4, 3) := by decide +kernel
theorem dL_asked_28 : decode cL_asked 28 = .ok (.iconst 0, 1) := by decide +kernel
theorem dL_asked_29 : decode cL_asked 29 = .ok (.ireturn, 1) := by decide +kernel
theorem dL_middle_0 : decode cL_middle 0 = .ok (.iconst 0, 1) := by decide +kernel
theorem dL_middle_1 : decode cL_middle 1 = .ok (.istore 5, 2) := by decide +kernel
theorem dL_middle_3 : decode cL_middle 3 = .ok (.iconst 0, 1) := by decide +kernel
theorem dL_middle_4 : decode cL_middle 4 = .ok (.istore 6, 2) := by decide +kernel
theorem dL_middle_6 : decode cL_middle 6 = .ok (.iload 6, 2) := by decide +kernel
theorem dL_middle_8 : decode cL_middle 8 = .ok (.aload_n 3, 1) := by decide +kernel
theorem dL_middle_9 : decode cL_middle 9 = .ok (.bipush 15, 2) := by decide +kernel
theorem dL_middle_11 : decode cL_middle 11 = .ok (.iaload, 1) := by decide +kernel
theorem dL_middle_12 : decode cL_middle 12 = .ok (.if_icmp .ge 35, 3) := by decide +kernel
theorem dL_middle_15 : decode cL_middle 15 = .ok (.iload 5, 2) := by decide +kernel
theorem dL_middle_17 : decode cL_middle 17 = .ok (.iload 6, 2) := by decide +kernel
theorem dL_middle_19 : decode cL_middle 19 = .ok (.iload 4, 2) := by decide +kernel
theorem dL_middle_21 : decode cL_middle 21 = .ok (.if_icmp .eq 16, 3) := by decide +kernel
theorem dL_middle_24 : decode cL_middle 24 = .ok (.aload_n 0, 1) := by decide +kernel
theorem dL_middle_25 : decode cL_middle 25 = .ok (.iload 6, 2) := by decide +kernel
theorem dL_middle_27 : decode cL_middle 27 = .ok (.invokestatic 16, 3) := by decide +kernel
theorem dL_middle_30 : decode cL_middle 30 = .ok (.ifCond .eq 7, 3) := by decide +kernel
theorem dL_middle_33 : decode cL_middle 33 = .ok (.iconst 1, 1) := by decide +kernel
theorem dL_middle_34 : decode cL_middle 34 = .ok (.goto 4, 3) := by decide +kernel
theorem dL_middle_37 : decode cL_middle 37 = .ok (.iconst 0, 1) := by decide +kernel
theorem dL_middle_38 : decode cL_middle 38 = .ok (.iadd, 1) := by decide +kernel
theorem dL_middle_39 : decode cL_middle 39 = .ok (.istore 5, 2) := by decide +kernel
theorem dL_middle_41 : decode cL_middle 41 = .ok (.iinc 6 1, 3) := by decide +kernel
theorem dL_middle_44 : decode cL_middle 44 = .ok (.goto (-38), 3) := by decide +kernel
theorem dL_middle_47 : decode cL_middle 47 = .ok (.iconst 0, 1) := by decide +kernel
theorem dL_middle_48 : decode cL_middle 48 = .ok (.istore 6, 2) := by decide +kernel
theorem dL_middle_50 : decode cL_middle 50 = .ok (.iload 6, 2) := by decide +kernel
theorem dL_middle_52 : decode cL_middle 52 = .ok (.aload_n 3, 1) := by decide +kernel
theorem dL_middle_53 : decode cL_middle 53 = .ok (.bipush 15, 2) := by decide +kernel
theorem dL_middle_55 : decode cL_middle 55 = .ok (.iaload, 1) := by decide +kernel
theorem dL_middle_56 : decode cL_middle 56 = .ok (.if_icmp .ge 149, 3) := by decide +kernel
theorem dL_middle_59 : decode cL_middle 59 = .ok (.iload 6, 2) := by decide +kernel
theorem dL_middle_61 : decode cL_middle 61 = .ok (.iload 4, 2) := by decide +kernel
theorem dL_middle_63 : decode cL_middle 63 = .ok (.if_icmp .eq 136, 3) := by decide +kernel
theorem dL_middle_66 : decode cL_middle 66 = .ok (.aload_n 0, 1) := by decide +kernel
theorem dL_middle_67 : decode cL_middle 67 = .ok (.iload 6, 2) := by decide +kernel
theorem dL_middle_69 : decode cL_middle 69 = .ok (.invokestatic 16, 3) := by decide +kernel
theorem dL_middle_72 : decode cL_middle 72 = .ok (.ifCond .eq 127, 3) := by decide +kernel
theorem dL_middle_75 : decode cL_middle 75 = .ok (.iconst 0, 1) := by decide +kernel
theorem dL_middle_76 : decode cL_middle 76 = .ok (.istore 7, 2) := by decide +kernel
theorem dL_middle_78 : decode cL_middle 78 = .ok (.iconst 0, 1) := by decide +kernel
theorem dL_middle_79 : decode cL_middle 79 = .ok (.istore 8, 2) := by decide +kernel
theorem dL_middle_81 : decode cL_middle 81 = .ok (.iload 8, 2) := by decide +kernel
theorem dL_middle_83 : decode cL_middle 83 = .ok (.aload_n 3, 1) := by decide +kernel
theorem dL_middle_84 : decode cL_middle 84 = .ok (.bipush 15, 2) := by decide +kernel
theorem dL_middle_86 : decode cL_middle 86 = .ok (.iaload, 1) := by decide +kernel
theorem dL_middle_87 : decode cL_middle 87 = .ok (.if_icmp .ge 92, 3) := by decide +kernel
theorem dL_middle_90 : decode cL_middle 90 = .ok (.aload_n 0, 1) := by decide +kernel
theorem dL_middle_91 : decode cL_middle 91 = .ok (.aload_n 1, 1) := by decide +kernel
theorem dL_middle_92 : decode cL_middle 92 = .ok (.aload_n 2, 1) := by decide +kernel
theorem dL_middle_93 : decode cL_middle 93 = .ok (.iload 8, 2) := by decide +kernel
theorem dL_middle_95 : decode cL_middle 95 = .ok (.invokestatic 20, 3) := by decide +kernel
theorem dL_middle_98 : decode cL_middle 98 = .ok (.aload_n 0, 1) := by decide +kernel
theorem dL_middle_99 : decode cL_middle 99 = .ok (.aload_n 1, 1) := by decide +kernel
theorem dL_middle_100 : decode cL_middle 100 = .ok (.aload_n 2, 1) := by decide +kernel
theorem dL_middle_101 : decode cL_middle 101 = .ok (.iload 6, 2) := by decide +kernel
theorem dL_middle_103 : decode cL_middle 103 = .ok (.invokestatic 20, 3) := by decide +kernel
theorem dL_middle_106 : decode cL_middle 106 = .ok (.if_icmp .lt 29, 3) := by decide +kernel
theorem dL_middle_109 : decode cL_middle 109 = .ok (.aload_n 0, 1) := by decide +kernel
theorem dL_middle_110 : decode cL_middle 110 = .ok (.aload_n 1, 1) := by decide +kernel
theorem dL_middle_111 : decode cL_middle 111 = .ok (.aload_n 2, 1) := by decide +kernel
theorem dL_middle_112 : decode cL_middle 112 = .ok (.iload 8, 2) := by decide +kernel
theorem dL_middle_114 : decode cL_middle 114 = .ok (.invokestatic 20, 3) := by decide +kernel
theorem dL_middle_117 : decode cL_middle 117 = .ok (.aload_n 0, 1) := by decide +kernel
theorem dL_middle_118 : decode cL_middle 118 = .ok (.aload_n 1, 1) := by decide +kernel
theorem dL_middle_119 : decode cL_middle 119 = .ok (.aload_n 2, 1) := by decide +kernel
theorem dL_middle_120 : decode cL_middle 120 = .ok (.iload 6, 2) := by decide +kernel
theorem dL_middle_122 : decode cL_middle 122 = .ok (.invokestatic 20, 3) := by decide +kernel
theorem dL_middle_125 : decode cL_middle 125 = .ok (.if_icmp .ne 14, 3) := by decide +kernel
theorem dL_middle_128 : decode cL_middle 128 = .ok (.iload 8, 2) := by decide +kernel
theorem dL_middle_130 : decode cL_middle 130 = .ok (.iload 6, 2) := by decide +kernel
theorem dL_middle_132 : decode cL_middle 132 = .ok (.if_icmp .ge 7, 3) := by decide +kernel
theorem dL_middle_135 : decode cL_middle 135 = .ok (.iconst 1, 1) := by decide +kernel
theorem dL_middle_136 : decode cL_middle 136 = .ok (.goto 4, 3) := by decide +kernel
theorem dL_middle_139 : decode cL_middle 139 = .ok (.iconst 0, 1) := by decide +kernel
theorem dL_middle_140 : decode cL_middle 140 = .ok (.istore 9, 2) := by decide +kernel
theorem dL_middle_142 : decode cL_middle 142 = .ok (.iload 7, 2) := by decide +kernel
theorem dL_middle_144 : decode cL_middle 144 = .ok (.iload 8, 2) := by decide +kernel
theorem dL_middle_146 : decode cL_middle 146 = .ok (.iload 4, 2) := by decide +kernel
theorem dL_middle_148 : decode cL_middle 148 = .ok (.if_icmp .eq 21, 3) := by decide +kernel
theorem dL_middle_151 : decode cL_middle 151 = .ok (.aload_n 0, 1) := by decide +kernel
theorem dL_middle_152 : decode cL_middle 152 = .ok (.iload 8, 2) := by decide +kernel
theorem dL_middle_154 : decode cL_middle 154 = .ok (.invokestatic 16, 3) := by decide +kernel
theorem dL_middle_157 : decode cL_middle 157 = .ok (.ifCond .eq 12, 3) := by decide +kernel
theorem dL_middle_160 : decode cL_middle 160 = .ok (.iload 9, 2) := by decide +kernel
theorem dL_middle_162 : decode cL_middle 162 = .ok (.ifCond .eq 7, 3) := by decide +kernel
theorem dL_middle_165 : decode cL_middle 165 = .ok (.iconst 1, 1) := by decide +kernel
theorem dL_middle_166 : decode cL_middle 166 = .ok (.goto 4, 3) := by decide +kernel
theorem dL_middle_169 : decode cL_middle 169 = .ok (.iconst 0, 1) := by decide +kernel
theorem dL_middle_170 : decode cL_middle 170 = .ok (.iadd, 1) := by decide +kernel
theorem dL_middle_171 : decode cL_middle 171 = .ok (.istore 7, 2) := by decide +kernel
theorem dL_middle_173 : decode cL_middle 173 = .ok (.iinc 8 1, 3) := by decide +kernel
theorem dL_middle_176 : decode cL_middle 176 = .ok (.goto (-95), 3) := by decide +kernel
theorem dL_middle_179 : decode cL_middle 179 = .ok (.iload 7, 2) := by decide +kernel
theorem dL_middle_181 : decode cL_middle 181 = .ok (.iload 5, 2) := by decide +kernel
theorem dL_middle_183 : decode cL_middle 183 = .ok (.iconst 1, 1) := by decide +kernel
theorem dL_middle_184 : decode cL_middle 184 = .ok (.isub, 1) := by decide +kernel
theorem dL_middle_185 : decode cL_middle 185 = .ok (.iconst 2, 1) := by decide +kernel
theorem dL_middle_186 : decode cL_middle 186 = .ok (.idiv, 1) := by decide +kernel
theorem dL_middle_187 : decode cL_middle 187 = .ok (.if_icmp .ne 12, 3) := by decide +kernel
theorem dL_middle_190 : decode cL_middle 190 = .ok (.aload_n 0, 1) := by decide +kernel
theorem dL_middle_191 : decode cL_middle 191 = .ok (.aload_n 1, 1) := by decide +kernel
theorem dL_middle_192 : decode cL_middle 192 = .ok (.aload_n 2, 1) := by decide +kernel
theorem dL_middle_193 : decode cL_middle 193 = .ok (.iload 6, 2) := by decide +kernel
theorem dL_middle_195 : decode cL_middle 195 = .ok (.invokestatic 20, 3) := by decide +kernel
theorem dL_middle_198 : decode cL_middle 198 = .ok (.ireturn, 1) := by decide +kernel
theorem dL_middle_199 : decode cL_middle 199 = .ok (.iinc 6 1, 3) := by decide +kernel
theorem dL_middle_202 : decode cL_middle 202 = .ok (.goto (-152), 3) := by decide +kernel
theorem dL_middle_205 : decode cL_middle 205 = .ok (.ldc 11, 2) := by decide +kernel
theorem dL_middle_207 : decode cL_middle 207 = .ok (.ireturn, 1) := by decide +kernel
theorem dL_mean_0 : decode cL_mean 0 = .ok (.iconst 0, 1) := by decide +kernel
theorem dL_mean_1 : decode cL_mean 1 = .ok (.istore 4, 2) := by decide +kernel
theorem dL_mean_3 : decode cL_mean 3 = .ok (.iconst 0, 1) := by decide +kernel
theorem dL_mean_4 : decode cL_mean 4 = .ok (.istore 5, 2) := by decide +kernel
theorem dL_mean_6 : decode cL_mean 6 = .ok (.iconst 0, 1) := by decide +kernel
theorem dL_mean_7 : decode cL_mean 7 = .ok (.istore 6, 2) := by decide +kernel
theorem dL_mean_9 : decode cL_mean 9 = .ok (.iload 6, 2) := by decide +kernel
theorem dL_mean_11 : decode cL_mean 11 = .ok (.aload_n 3, 1) := by decide +kernel
theorem dL_mean_12 : decode cL_mean 12 = .ok (.bipush 15, 2) := by decide +kernel
theorem dL_mean_14 : decode cL_mean 14 = .ok (.iaload, 1) := by decide +kernel
theorem dL_mean_15 : decode cL_mean 15 = .ok (.if_icmp .ge 72, 3) := by decide +kernel
theorem dL_mean_18 : decode cL_mean 18 = .ok (.iload 4, 2) := by decide +kernel
theorem dL_mean_20 : decode cL_mean 20 = .ok (.aload_n 0, 1) := by decide +kernel
theorem dL_mean_21 : decode cL_mean 21 = .ok (.iload 6, 2) := by decide +kernel
theorem dL_mean_23 : decode cL_mean 23 = .ok (.invokestatic 16, 3) := by decide +kernel
theorem dL_mean_26 : decode cL_mean 26 = .ok (.ifCond .eq 24, 3) := by decide +kernel
theorem dL_mean_29 : decode cL_mean 29 = .ok (.aload_n 0, 1) := by decide +kernel
theorem dL_mean_30 : decode cL_mean 30 = .ok (.bipush 10, 2) := by decide +kernel
theorem dL_mean_32 : decode cL_mean 32 = .ok (.iload 6, 2) := by decide +kernel
theorem dL_mean_34 : decode cL_mean 34 = .ok (.imul, 1) := by decide +kernel
theorem dL_mean_35 : decode cL_mean 35 = .ok (.iconst 3, 1) := by decide +kernel
theorem dL_mean_36 : decode cL_mean 36 = .ok (.iadd, 1) := by decide +kernel
theorem dL_mean_37 : decode cL_mean 37 = .ok (.iaload, 1) := by decide +kernel
theorem dL_mean_38 : decode cL_mean 38 = .ok (.aload_n 0, 1) := by decide +kernel
theorem dL_mean_39 : decode cL_mean 39 = .ok (.aload_n 1, 1) := by decide +kernel
theorem dL_mean_40 : decode cL_mean 40 = .ok (.aload_n 2, 1) := by decide +kernel
theorem dL_mean_41 : decode cL_mean 41 = .ok (.iload 6, 2) := by decide +kernel
theorem dL_mean_43 : decode cL_mean 43 = .ok (.invokestatic 20, 3) := by decide +kernel
theorem dL_mean_46 : decode cL_mean 46 = .ok (.imul, 1) := by decide +kernel
theorem dL_mean_47 : decode cL_mean 47 = .ok (.goto 4, 3) := by decide +kernel
theorem dL_mean_50 : decode cL_mean 50 = .ok (.iconst 0, 1) := by decide +kernel
theorem dL_mean_51 : decode cL_mean 51 = .ok (.iadd, 1) := by decide +kernel
theorem dL_mean_52 : decode cL_mean 52 = .ok (.istore 4, 2) := by decide +kernel
theorem dL_mean_54 : decode cL_mean 54 = .ok (.iload 5, 2) := by decide +kernel
theorem dL_mean_56 : decode cL_mean 56 = .ok (.aload_n 0, 1) := by decide +kernel
theorem dL_mean_57 : decode cL_mean 57 = .ok (.iload 6, 2) := by decide +kernel
theorem dL_mean_59 : decode cL_mean 59 = .ok (.invokestatic 16, 3) := by decide +kernel
theorem dL_mean_62 : decode cL_mean 62 = .ok (.ifCond .eq 15, 3) := by decide +kernel
theorem dL_mean_65 : decode cL_mean 65 = .ok (.aload_n 0, 1) := by decide +kernel
theorem dL_mean_66 : decode cL_mean 66 = .ok (.bipush 10, 2) := by decide +kernel
theorem dL_mean_68 : decode cL_mean 68 = .ok (.iload 6, 2) := by decide +kernel
theorem dL_mean_70 : decode cL_mean 70 = .ok (.imul, 1) := by decide +kernel
theorem dL_mean_71 : decode cL_mean 71 = .ok (.iconst 3, 1) := by decide +kernel
theorem dL_mean_72 : decode cL_mean 72 = .ok (.iadd, 1) := by decide +kernel
theorem dL_mean_73 : decode cL_mean 73 = .ok (.iaload, 1) := by decide +kernel
theorem dL_mean_74 : decode cL_mean 74 = .ok (.goto 4, 3) := by decide +kernel
theorem dL_mean_77 : decode cL_mean 77 = .ok (.iconst 0, 1) := by decide +kernel
theorem dL_mean_78 : decode cL_mean 78 = .ok (.iadd, 1) := by decide +kernel
theorem dL_mean_79 : decode cL_mean 79 = .ok (.istore 5, 2) := by decide +kernel
theorem dL_mean_81 : decode cL_mean 81 = .ok (.iinc 6 1, 3) := by decide +kernel
theorem dL_mean_84 : decode cL_mean 84 = .ok (.goto (-75), 3) := by decide +kernel
theorem dL_mean_87 : decode cL_mean 87 = .ok (.iload 5, 2) := by decide +kernel
theorem dL_mean_89 : decode cL_mean 89 = .ok (.ifCond .le 11, 3) := by decide +kernel
theorem dL_mean_92 : decode cL_mean 92 = .ok (.iload 4, 2) := by decide +kernel
theorem dL_mean_94 : decode cL_mean 94 = .ok (.iload 5, 2) := by decide +kernel
theorem dL_mean_96 : decode cL_mean 96 = .ok (.idiv, 1) := by decide +kernel
theorem dL_mean_97 : decode cL_mean 97 = .ok (.goto 5, 3) := by decide +kernel
theorem dL_mean_100 : decode cL_mean 100 = .ok (.ldc 11, 2) := by decide +kernel
theorem dL_mean_102 : decode cL_mean 102 = .ok (.ireturn, 1) := by decide +kernel
theorem dL_size_0 : decode cL_size 0 = .ok (.iload_n 0, 1) := by decide +kernel
theorem dL_size_1 : decode cL_size 1 = .ok (.ifCond .ge 8, 3) := by decide +kernel
theorem dL_size_4 : decode cL_size 4 = .ok (.iload_n 0, 1) := by decide +kernel
theorem dL_size_5 : decode cL_size 5 = .ok (.ineg, 1) := by decide +kernel
theorem dL_size_6 : decode cL_size 6 = .ok (.goto 4, 3) := by decide +kernel
theorem dL_size_9 : decode cL_size 9 = .ok (.iload_n 0, 1) := by decide +kernel
theorem dL_size_10 : decode cL_size 10 = .ok (.ireturn, 1) := by decide +kernel
theorem dL_change_0 : decode cL_change 0 = .ok (.aload_n 1, 1) := by decide +kernel
theorem dL_change_1 : decode cL_change 1 = .ok (.iconst 1, 1) := by decide +kernel
theorem dL_change_2 : decode cL_change 2 = .ok (.iaload, 1) := by decide +kernel
theorem dL_change_3 : decode cL_change 3 = .ok (.aload_n 0, 1) := by decide +kernel
theorem dL_change_4 : decode cL_change 4 = .ok (.bipush 10, 2) := by decide +kernel
theorem dL_change_6 : decode cL_change 6 = .ok (.iload_n 2, 1) := by decide +kernel
theorem dL_change_7 : decode cL_change 7 = .ok (.imul, 1) := by decide +kernel
theorem dL_change_8 : decode cL_change 8 = .ok (.iconst 2, 1) := by decide +kernel
theorem dL_change_9 : decode cL_change 9 = .ok (.iadd, 1) := by decide +kernel
theorem dL_change_10 : decode cL_change 10 = .ok (.iaload, 1) := by decide +kernel
theorem dL_change_11 : decode cL_change 11 = .ok (.iadd, 1) := by decide +kernel
theorem dL_change_12 : decode cL_change 12 = .ok (.aload_n 0, 1) := by decide +kernel
theorem dL_change_13 : decode cL_change 13 = .ok (.bipush 10, 2) := by decide +kernel
theorem dL_change_15 : decode cL_change 15 = .ok (.iload_n 2, 1) := by decide +kernel
theorem dL_change_16 : decode cL_change 16 = .ok (.imul, 1) := by decide +kernel
theorem dL_change_17 : decode cL_change 17 = .ok (.iconst 4, 1) := by decide +kernel
theorem dL_change_18 : decode cL_change 18 = .ok (.iadd, 1) := by decide +kernel
theorem dL_change_19 : decode cL_change 19 = .ok (.iaload, 1) := by decide +kernel
theorem dL_change_20 : decode cL_change 20 = .ok (.isub, 1) := by decide +kernel
theorem dL_change_21 : decode cL_change 21 = .ok (.aload_n 0, 1) := by decide +kernel
theorem dL_change_22 : decode cL_change 22 = .ok (.bipush 10, 2) := by decide +kernel
theorem dL_change_24 : decode cL_change 24 = .ok (.iload_n 2, 1) := by decide +kernel
theorem dL_change_25 : decode cL_change 25 = .ok (.imul, 1) := by decide +kernel
theorem dL_change_26 : decode cL_change 26 = .ok (.iconst 1, 1) := by decide +kernel
theorem dL_change_27 : decode cL_change 27 = .ok (.iadd, 1) := by decide +kernel
theorem dL_change_28 : decode cL_change 28 = .ok (.iaload, 1) := by decide +kernel
theorem dL_change_29 : decode cL_change 29 = .ok (.idiv, 1) := by decide +kernel
theorem dL_change_30 : decode cL_change 30 = .ok (.ireturn, 1) := by decide +kernel
theorem dL_hour_0 : decode cL_hour 0 = .ok (.aload_n 3, 1) := by decide +kernel
theorem dL_hour_1 : decode cL_hour 1 = .ok (.bipush 14, 2) := by decide +kernel
theorem dL_hour_3 : decode cL_hour 3 = .ok (.aload_n 0, 1) := by decide +kernel
theorem dL_hour_4 : decode cL_hour 4 = .ok (.aload_n 1, 1) := by decide +kernel
theorem dL_hour_5 : decode cL_hour 5 = .ok (.aload_n 2, 1) := by decide +kernel
theorem dL_hour_6 : decode cL_hour 6 = .ok (.aload_n 3, 1) := by decide +kernel
theorem dL_hour_7 : decode cL_hour 7 = .ok (.invokestatic 24, 3) := by decide +kernel
theorem dL_hour_10 : decode cL_hour 10 = .ok (.iastore, 1) := by decide +kernel
theorem dL_hour_11 : decode cL_hour 11 = .ok (.aload_n 3, 1) := by decide +kernel
theorem dL_hour_12 : decode cL_hour 12 = .ok (.iconst 0, 1) := by decide +kernel
theorem dL_hour_13 : decode cL_hour 13 = .ok (.dup2, 1) := by decide +kernel
theorem dL_hour_14 : decode cL_hour 14 = .ok (.iaload, 1) := by decide +kernel
theorem dL_hour_15 : decode cL_hour 15 = .ok (.iconst 1, 1) := by decide +kernel
theorem dL_hour_16 : decode cL_hour 16 = .ok (.iadd, 1) := by decide +kernel
theorem dL_hour_17 : decode cL_hour 17 = .ok (.iastore, 1) := by decide +kernel
theorem dL_hour_18 : decode cL_hour 18 = .ok (.aload_n 3, 1) := by decide +kernel
theorem dL_hour_19 : decode cL_hour 19 = .ok (.iconst 1, 1) := by decide +kernel
theorem dL_hour_20 : decode cL_hour 20 = .ok (.iload 4, 2) := by decide +kernel
theorem dL_hour_22 : decode cL_hour 22 = .ok (.iastore, 1) := by decide +kernel
theorem dL_hour_23 : decode cL_hour 23 = .ok (.iconst 0, 1) := by decide +kernel
theorem dL_hour_24 : decode cL_hour 24 = .ok (.istore 5, 2) := by decide +kernel
theorem dL_hour_26 : decode cL_hour 26 = .ok (.iconst 0, 1) := by decide +kernel
theorem dL_hour_27 : decode cL_hour 27 = .ok (.istore 6, 2) := by decide +kernel
theorem dL_hour_29 : decode cL_hour 29 = .ok (.iload 6, 2) := by decide +kernel
theorem dL_hour_31 : decode cL_hour 31 = .ok (.iconst 4, 1) := by decide +kernel
theorem dL_hour_32 : decode cL_hour 32 = .ok (.if_icmp .ge 37, 3) := by decide +kernel
theorem dL_hour_35 : decode cL_hour 35 = .ok (.aload_n 3, 1) := by decide +kernel
theorem dL_hour_36 : decode cL_hour 36 = .ok (.bipush 8, 2) := by decide +kernel
theorem dL_hour_38 : decode cL_hour 38 = .ok (.iload 6, 2) := by decide +kernel
theorem dL_hour_40 : decode cL_hour 40 = .ok (.iadd, 1) := by decide +kernel
theorem dL_hour_41 : decode cL_hour 41 = .ok (.dup2, 1) := by decide +kernel
theorem dL_hour_42 : decode cL_hour 42 = .ok (.iaload, 1) := by decide +kernel
theorem dL_hour_43 : decode cL_hour 43 = .ok (.aload_n 3, 1) := by decide +kernel
theorem dL_hour_44 : decode cL_hour 44 = .ok (.iconst 0, 1) := by decide +kernel
theorem dL_hour_45 : decode cL_hour 45 = .ok (.iaload, 1) := by decide +kernel
theorem dL_hour_46 : decode cL_hour 46 = .ok (.aload_n 3, 1) := by decide +kernel
theorem dL_hour_47 : decode cL_hour 47 = .ok (.iconst 4, 1) := by decide +kernel
theorem dL_hour_48 : decode cL_hour 48 = .ok (.iload 6, 2) := by decide +kernel
theorem dL_hour_50 : decode cL_hour 50 = .ok (.iadd, 1) := by decide +kernel
theorem dL_hour_51 : decode cL_hour 51 = .ok (.iaload, 1) := by decide +kernel
theorem dL_hour_52 : decode cL_hour 52 = .ok (.irem, 1) := by decide +kernel
theorem dL_hour_53 : decode cL_hour 53 = .ok (.ifCond .ne 7, 3) := by decide +kernel
theorem dL_hour_56 : decode cL_hour 56 = .ok (.iconst 1, 1) := by decide +kernel
theorem dL_hour_57 : decode cL_hour 57 = .ok (.goto 4, 3) := by decide +kernel
theorem dL_hour_60 : decode cL_hour 60 = .ok (.iconst 0, 1) := by decide +kernel
theorem dL_hour_61 : decode cL_hour 61 = .ok (.iadd, 1) := by decide +kernel
theorem dL_hour_62 : decode cL_hour 62 = .ok (.iastore, 1) := by decide +kernel
theorem dL_hour_63 : decode cL_hour 63 = .ok (.iinc 6 1, 3) := by decide +kernel
theorem dL_hour_66 : decode cL_hour 66 = .ok (.goto (-37), 3) := by decide +kernel
theorem dL_hour_69 : decode cL_hour 69 = .ok (.iconst 0, 1) := by decide +kernel
theorem dL_hour_70 : decode cL_hour 70 = .ok (.istore 6, 2) := by decide +kernel
theorem dL_hour_72 : decode cL_hour 72 = .ok (.iload 6, 2) := by decide +kernel
theorem dL_hour_74 : decode cL_hour 74 = .ok (.aload_n 3, 1) := by decide +kernel
theorem dL_hour_75 : decode cL_hour 75 = .ok (.bipush 15, 2) := by decide +kernel
theorem dL_hour_77 : decode cL_hour 77 = .ok (.iaload, 1) := by decide +kernel
theorem dL_hour_78 : decode cL_hour 78 = .ok (.if_icmp .ge 158, 3) := by decide +kernel
theorem dL_hour_81 : decode cL_hour 81 = .ok (.bipush 10, 2) := by decide +kernel
theorem dL_hour_83 : decode cL_hour 83 = .ok (.iload 6, 2) := by decide +kernel
theorem dL_hour_85 : decode cL_hour 85 = .ok (.imul, 1) := by decide +kernel
theorem dL_hour_86 : decode cL_hour 86 = .ok (.istore 7, 2) := by decide +kernel
theorem dL_hour_88 : decode cL_hour 88 = .ok (.aload_n 0, 1) := by decide +kernel
theorem dL_hour_89 : decode cL_hour 89 = .ok (.iload 7, 2) := by decide +kernel
theorem dL_hour_91 : decode cL_hour 91 = .ok (.iconst 4, 1) := by decide +kernel
theorem dL_hour_92 : decode cL_hour 92 = .ok (.iadd, 1) := by decide +kernel
theorem dL_hour_93 : decode cL_hour 93 = .ok (.dup2, 1) := by decide +kernel
theorem dL_hour_94 : decode cL_hour 94 = .ok (.iaload, 1) := by decide +kernel
theorem dL_hour_95 : decode cL_hour 95 = .ok (.aload_n 0, 1) := by decide +kernel
theorem dL_hour_96 : decode cL_hour 96 = .ok (.aload_n 3, 1) := by decide +kernel
theorem dL_hour_97 : decode cL_hour 97 = .ok (.iload 6, 2) := by decide +kernel
theorem dL_hour_99 : decode cL_hour 99 = .ok (.invokestatic 28, 3) := by decide +kernel
theorem dL_hour_102 : decode cL_hour 102 = .ok (.iadd, 1) := by decide +kernel
theorem dL_hour_103 : decode cL_hour 103 = .ok (.iastore, 1) := by decide +kernel
theorem dL_hour_104 : decode cL_hour 104 = .ok (.aload_n 3, 1) := by decide +kernel
theorem dL_hour_105 : decode cL_hour 105 = .ok (.iconst 0, 1) := by decide +kernel
theorem dL_hour_106 : decode cL_hour 106 = .ok (.iaload, 1) := by decide +kernel
theorem dL_hour_107 : decode cL_hour 107 = .ok (.aload_n 3, 1) := by decide +kernel
theorem dL_hour_108 : decode cL_hour 108 = .ok (.iconst 4, 1) := by decide +kernel
theorem dL_hour_109 : decode cL_hour 109 = .ok (.aload_n 0, 1) := by decide +kernel
theorem dL_hour_110 : decode cL_hour 110 = .ok (.iload 7, 2) := by decide +kernel
theorem dL_hour_112 : decode cL_hour 112 = .ok (.iaload, 1) := by decide +kernel
theorem dL_hour_113 : decode cL_hour 113 = .ok (.iadd, 1) := by decide +kernel
theorem dL_hour_114 : decode cL_hour 114 = .ok (.iaload, 1) := by decide +kernel
theorem dL_hour_115 : decode cL_hour 115 = .ok (.irem, 1) := by decide +kernel
theorem dL_hour_116 : decode cL_hour 116 = .ok (.ifCond .ne 114, 3) := by decide +kernel
theorem dL_hour_119 : decode cL_hour 119 = .ok (.iconst 5, 1) := by decide +kernel
theorem dL_hour_120 : decode cL_hour 120 = .ok (.istore 8, 2) := by decide +kernel
theorem dL_hour_122 : decode cL_hour 122 = .ok (.iload 8, 2) := by decide +kernel
theorem dL_hour_124 : decode cL_hour 124 = .ok (.ifCond .le 53, 3) := by decide +kernel
theorem dL_hour_127 : decode cL_hour 127 = .ok (.aload_n 1, 1) := by decide +kernel
theorem dL_hour_128 : decode cL_hour 128 = .ok (.bipush 6, 2) := by decide +kernel
theorem dL_hour_130 : decode cL_hour 130 = .ok (.iload 6, 2) := by decide +kernel
theorem dL_hour_132 : decode cL_hour 132 = .ok (.imul, 1) := by decide +kernel
theorem dL_hour_133 : decode cL_hour 133 = .ok (.iload 8, 2) := by decide +kernel
theorem dL_hour_135 : decode cL_hour 135 = .ok (.iadd, 1) := by decide +kernel
theorem dL_hour_136 : decode cL_hour 136 = .ok (.aload_n 1, 1) := by decide +kernel
theorem dL_hour_137 : decode cL_hour 137 = .ok (.bipush 6, 2) := by decide +kernel
theorem dL_hour_139 : decode cL_hour 139 = .ok (.iload 6, 2) := by decide +kernel
theorem dL_hour_141 : decode cL_hour 141 = .ok (.imul, 1) := by decide +kernel
theorem dL_hour_142 : decode cL_hour 142 = .ok (.iload 8, 2) := by decide +kernel
theorem dL_hour_144 : decode cL_hour 144 = .ok (.iadd, 1) := by decide +kernel
theorem dL_hour_145 : decode cL_hour 145 = .ok (.iconst 1, 1) := by decide +kernel
theorem dL_hour_146 : decode cL_hour 146 = .ok (.isub, 1) := by decide +kernel
theorem dL_hour_147 : decode cL_hour 147 = .ok (.iaload, 1) := by decide +kernel
theorem dL_hour_148 : decode cL_hour 148 = .ok (.iastore, 1) := by decide +kernel
theorem dL_hour_149 : decode cL_hour 149 = .ok (.aload_n 2, 1) := by decide +kernel
theorem dL_hour_150 : decode cL_hour 150 = .ok (.bipush 6, 2) := by decide +kernel
theorem dL_hour_152 : decode cL_hour 152 = .ok (.iload 6, 2) := by decide +kernel
theorem dL_hour_154 : decode cL_hour 154 = .ok (.imul, 1) := by decide +kernel
theorem dL_hour_155 : decode cL_hour 155 = .ok (.iload 8, 2) := by decide +kernel
theorem dL_hour_157 : decode cL_hour 157 = .ok (.iadd, 1) := by decide +kernel
theorem dL_hour_158 : decode cL_hour 158 = .ok (.aload_n 2, 1) := by decide +kernel
theorem dL_hour_159 : decode cL_hour 159 = .ok (.bipush 6, 2) := by decide +kernel
theorem dL_hour_161 : decode cL_hour 161 = .ok (.iload 6, 2) := by decide +kernel
theorem dL_hour_163 : decode cL_hour 163 = .ok (.imul, 1) := by decide +kernel
theorem dL_hour_164 : decode cL_hour 164 = .ok (.iload 8, 2) := by decide +kernel
theorem dL_hour_166 : decode cL_hour 166 = .ok (.iadd, 1) := by decide +kernel
theorem dL_hour_167 : decode cL_hour 167 = .ok (.iconst 1, 1) := by decide +kernel
theorem dL_hour_168 : decode cL_hour 168 = .ok (.isub, 1) := by decide +kernel
theorem dL_hour_169 : decode cL_hour 169 = .ok (.iaload, 1) := by decide +kernel
theorem dL_hour_170 : decode cL_hour 170 = .ok (.iastore, 1) := by decide +kernel
theorem dL_hour_171 : decode cL_hour 171 = .ok (.iinc 8 (-1), 3) := by decide +kernel
theorem dL_hour_174 : decode cL_hour 174 = .ok (.goto (-52), 3) := by decide +kernel
theorem dL_hour_177 : decode cL_hour 177 = .ok (.aload_n 1, 1) := by decide +kernel
theorem dL_hour_178 : decode cL_hour 178 = .ok (.bipush 6, 2) := by decide +kernel
theorem dL_hour_180 : decode cL_hour 180 = .ok (.iload 6, 2) := by decide +kernel
theorem dL_hour_182 : decode cL_hour 182 = .ok (.imul, 1) := by decide +kernel
theorem dL_hour_183 : decode cL_hour 183 = .ok (.aload_n 3, 1) := by decide +kernel
theorem dL_hour_184 : decode cL_hour 184 = .ok (.iconst 0, 1) := by decide +kernel
theorem dL_hour_185 : decode cL_hour 185 = .ok (.iaload, 1) := by decide +kernel
theorem dL_hour_186 : decode cL_hour 186 = .ok (.iastore, 1) := by decide +kernel
theorem dL_hour_187 : decode cL_hour 187 = .ok (.aload_n 2, 1) := by decide +kernel
theorem dL_hour_188 : decode cL_hour 188 = .ok (.bipush 6, 2) := by decide +kernel
theorem dL_hour_190 : decode cL_hour 190 = .ok (.iload 6, 2) := by decide +kernel
theorem dL_hour_192 : decode cL_hour 192 = .ok (.imul, 1) := by decide +kernel
theorem dL_hour_193 : decode cL_hour 193 = .ok (.aload_n 0, 1) := by decide +kernel
theorem dL_hour_194 : decode cL_hour 194 = .ok (.iload 7, 2) := by decide +kernel
theorem dL_hour_196 : decode cL_hour 196 = .ok (.iconst 4, 1) := by decide +kernel
theorem dL_hour_197 : decode cL_hour 197 = .ok (.iadd, 1) := by decide +kernel
theorem dL_hour_198 : decode cL_hour 198 = .ok (.iaload, 1) := by decide +kernel
theorem dL_hour_199 : decode cL_hour 199 = .ok (.iastore, 1) := by decide +kernel
theorem dL_hour_200 : decode cL_hour 200 = .ok (.aload_n 0, 1) := by decide +kernel
theorem dL_hour_201 : decode cL_hour 201 = .ok (.iload 7, 2) := by decide +kernel
theorem dL_hour_203 : decode cL_hour 203 = .ok (.bipush 7, 2) := by decide +kernel
theorem dL_hour_205 : decode cL_hour 205 = .ok (.iadd, 1) := by decide +kernel
theorem dL_hour_206 : decode cL_hour 206 = .ok (.dup2, 1) := by decide +kernel
theorem dL_hour_207 : decode cL_hour 207 = .ok (.iaload, 1) := by decide +kernel
theorem dL_hour_208 : decode cL_hour 208 = .ok (.aload_n 0, 1) := by decide +kernel
theorem dL_hour_209 : decode cL_hour 209 = .ok (.iload 7, 2) := by decide +kernel
theorem dL_hour_211 : decode cL_hour 211 = .ok (.bipush 7, 2) := by decide +kernel
theorem dL_hour_213 : decode cL_hour 213 = .ok (.iadd, 1) := by decide +kernel
theorem dL_hour_214 : decode cL_hour 214 = .ok (.iaload, 1) := by decide +kernel
theorem dL_hour_215 : decode cL_hour 215 = .ok (.bipush 6, 2) := by decide +kernel
theorem dL_hour_217 : decode cL_hour 217 = .ok (.if_icmp .ge 7, 3) := by decide +kernel
theorem dL_hour_220 : decode cL_hour 220 = .ok (.iconst 1, 1) := by decide +kernel
theorem dL_hour_221 : decode cL_hour 221 = .ok (.goto 4, 3) := by decide +kernel
theorem dL_hour_224 : decode cL_hour 224 = .ok (.iconst 0, 1) := by decide +kernel
theorem dL_hour_225 : decode cL_hour 225 = .ok (.iadd, 1) := by decide +kernel
theorem dL_hour_226 : decode cL_hour 226 = .ok (.iastore, 1) := by decide +kernel
theorem dL_hour_227 : decode cL_hour 227 = .ok (.iinc 5 1, 3) := by decide +kernel
theorem dL_hour_230 : decode cL_hour 230 = .ok (.iinc 6 1, 3) := by decide +kernel
theorem dL_hour_233 : decode cL_hour 233 = .ok (.goto (-161), 3) := by decide +kernel
theorem dL_hour_236 : decode cL_hour 236 = .ok (.aload_n 3, 1) := by decide +kernel
theorem dL_hour_237 : decode cL_hour 237 = .ok (.bipush 12, 2) := by decide +kernel
theorem dL_hour_239 : decode cL_hour 239 = .ok (.dup2, 1) := by decide +kernel
theorem dL_hour_240 : decode cL_hour 240 = .ok (.iaload, 1) := by decide +kernel
theorem dL_hour_241 : decode cL_hour 241 = .ok (.iload 5, 2) := by decide +kernel
theorem dL_hour_243 : decode cL_hour 243 = .ok (.iadd, 1) := by decide +kernel
theorem dL_hour_244 : decode cL_hour 244 = .ok (.iastore, 1) := by decide +kernel
theorem dL_hour_245 : decode cL_hour 245 = .ok (.iconst 0, 1) := by decide +kernel
theorem dL_hour_246 : decode cL_hour 246 = .ok (.istore 6, 2) := by decide +kernel
theorem dL_hour_248 : decode cL_hour 248 = .ok (.iload 6, 2) := by decide +kernel
theorem dL_hour_250 : decode cL_hour 250 = .ok (.aload_n 3, 1) := by decide +kernel
theorem dL_hour_251 : decode cL_hour 251 = .ok (.bipush 15, 2) := by decide +kernel
theorem dL_hour_253 : decode cL_hour 253 = .ok (.iaload, 1) := by decide +kernel
theorem dL_hour_254 : decode cL_hour 254 = .ok (.if_icmp .ge 188, 3) := by decide +kernel
theorem dL_hour_257 : decode cL_hour 257 = .ok (.bipush 10, 2) := by decide +kernel
theorem dL_hour_259 : decode cL_hour 259 = .ok (.iload 6, 2) := by decide +kernel
theorem dL_hour_261 : decode cL_hour 261 = .ok (.imul, 1) := by decide +kernel
theorem dL_hour_262 : decode cL_hour 262 = .ok (.istore 7, 2) := by decide +kernel
theorem dL_hour_264 : decode cL_hour 264 = .ok (.aload_n 0, 1) := by decide +kernel
theorem dL_hour_265 : decode cL_hour 265 = .ok (.aload_n 1, 1) := by decide +kernel
theorem dL_hour_266 : decode cL_hour 266 = .ok (.aload_n 2, 1) := by decide +kernel
theorem dL_hour_267 : decode cL_hour 267 = .ok (.aload_n 3, 1) := by decide +kernel
theorem dL_hour_268 : decode cL_hour 268 = .ok (.iload 6, 2) := by decide +kernel
theorem dL_hour_270 : decode cL_hour 270 = .ok (.invokestatic 32, 3) := by decide +kernel
theorem dL_hour_273 : decode cL_hour 273 = .ok (.istore 8, 2) := by decide +kernel
theorem dL_hour_275 : decode cL_hour 275 = .ok (.aload_n 0, 1) := by decide +kernel
theorem dL_hour_276 : decode cL_hour 276 = .ok (.iload 7, 2) := by decide +kernel
theorem dL_hour_278 : decode cL_hour 278 = .ok (.bipush 9, 2) := by decide +kernel
theorem dL_hour_280 : decode cL_hour 280 = .ok (.iadd, 1) := by decide +kernel
theorem dL_hour_281 : decode cL_hour 281 = .ok (.aload_n 0, 1) := by decide +kernel
theorem dL_hour_282 : decode cL_hour 282 = .ok (.iload 6, 2) := by decide +kernel
theorem dL_hour_284 : decode cL_hour 284 = .ok (.invokestatic 16, 3) := by decide +kernel
theorem dL_hour_287 : decode cL_hour 287 = .ok (.ifCond .eq 29, 3) := by decide +kernel
theorem dL_hour_290 : decode cL_hour 290 = .ok (.aload_n 3, 1) := by decide +kernel
theorem dL_hour_291 : decode cL_hour 291 = .ok (.iconst 0, 1) := by decide +kernel
theorem dL_hour_292 : decode cL_hour 292 = .ok (.iaload, 1) := by decide +kernel
theorem dL_hour_293 : decode cL_hour 293 = .ok (.aload_n 3, 1) := by decide +kernel
theorem dL_hour_294 : decode cL_hour 294 = .ok (.iconst 4, 1) := by decide +kernel
theorem dL_hour_295 : decode cL_hour 295 = .ok (.aload_n 0, 1) := by decide +kernel
theorem dL_hour_296 : decode cL_hour 296 = .ok (.iload 7, 2) := by decide +kernel
theorem dL_hour_298 : decode cL_hour 298 = .ok (.iaload, 1) := by decide +kernel
theorem dL_hour_299 : decode cL_hour 299 = .ok (.iadd, 1) := by decide +kernel
theorem dL_hour_300 : decode cL_hour 300 = .ok (.iaload, 1) := by decide +kernel
theorem dL_hour_301 : decode cL_hour 301 = .ok (.irem, 1) := by decide +kernel
theorem dL_hour_302 : decode cL_hour 302 = .ok (.ifCond .ne 14, 3) := by decide +kernel
theorem dL_hour_305 : decode cL_hour 305 = .ok (.iload 8, 2) := by decide +kernel
theorem dL_hour_307 : decode cL_hour 307 = .ok (.ldc 11, 2) := by decide +kernel
theorem dL_hour_309 : decode cL_hour 309 = .ok (.if_icmp .eq 7, 3) := by decide +kernel
theorem dL_hour_312 : decode cL_hour 312 = .ok (.iconst 1, 1) := by decide +kernel
theorem dL_hour_313 : decode cL_hour 313 = .ok (.goto 4, 3) := by decide +kernel
theorem dL_hour_316 : decode cL_hour 316 = .ok (.iconst 0, 1) := by decide +kernel
theorem dL_hour_317 : decode cL_hour 317 = .ok (.iastore, 1) := by decide +kernel
theorem dL_hour_318 : decode cL_hour 318 = .ok (.aload_n 0, 1) := by decide +kernel
theorem dL_hour_319 : decode cL_hour 319 = .ok (.iload 7, 2) := by decide +kernel
theorem dL_hour_321 : decode cL_hour 321 = .ok (.bipush 9, 2) := by decide +kernel
theorem dL_hour_323 : decode cL_hour 323 = .ok (.iadd, 1) := by decide +kernel
theorem dL_hour_324 : decode cL_hour 324 = .ok (.iaload, 1) := by decide +kernel
theorem dL_hour_325 : decode cL_hour 325 = .ok (.iconst 1, 1) := by decide +kernel
theorem dL_hour_326 : decode cL_hour 326 = .ok (.if_icmp .ne 27, 3) := by decide +kernel
theorem dL_hour_329 : decode cL_hour 329 = .ok (.aload_n 0, 1) := by decide +kernel
theorem dL_hour_330 : decode cL_hour 330 = .ok (.aload_n 1, 1) := by decide +kernel
theorem dL_hour_331 : decode cL_hour 331 = .ok (.aload_n 2, 1) := by decide +kernel
theorem dL_hour_332 : decode cL_hour 332 = .ok (.iload 6, 2) := by decide +kernel
theorem dL_hour_334 : decode cL_hour 334 = .ok (.invokestatic 20, 3) := by decide +kernel
theorem dL_hour_337 : decode cL_hour 337 = .ok (.iload 8, 2) := by decide +kernel
theorem dL_hour_339 : decode cL_hour 339 = .ok (.isub, 1) := by decide +kernel
theorem dL_hour_340 : decode cL_hour 340 = .ok (.invokestatic 36, 3) := by decide +kernel
theorem dL_hour_343 : decode cL_hour 343 = .ok (.aload_n 3, 1) := by decide +kernel
theorem dL_hour_344 : decode cL_hour 344 = .ok (.iconst 2, 1) := by decide +kernel
theorem dL_hour_345 : decode cL_hour 345 = .ok (.iaload, 1) := by decide +kernel
theorem dL_hour_346 : decode cL_hour 346 = .ok (.if_icmp .le 7, 3) := by decide +kernel
theorem dL_hour_349 : decode cL_hour 349 = .ok (.iconst 1, 1) := by decide +kernel
theorem dL_hour_350 : decode cL_hour 350 = .ok (.goto 4, 3) := by decide +kernel
theorem dL_hour_353 : decode cL_hour 353 = .ok (.iconst 0, 1) := by decide +kernel
theorem dL_hour_354 : decode cL_hour 354 = .ok (.istore 9, 2) := by decide +kernel
theorem dL_hour_356 : decode cL_hour 356 = .ok (.aload_n 0, 1) := by decide +kernel
theorem dL_hour_357 : decode cL_hour 357 = .ok (.iload 7, 2) := by decide +kernel
theorem dL_hour_359 : decode cL_hour 359 = .ok (.iconst 5, 1) := by decide +kernel
theorem dL_hour_360 : decode cL_hour 360 = .ok (.iadd, 1) := by decide +kernel
theorem dL_hour_361 : decode cL_hour 361 = .ok (.iload 9, 2) := by decide +kernel
theorem dL_hour_363 : decode cL_hour 363 = .ok (.ifCond .eq 14, 3) := by decide +kernel
theorem dL_hour_366 : decode cL_hour 366 = .ok (.aload_n 0, 1) := by decide +kernel
theorem dL_hour_367 : decode cL_hour 367 = .ok (.iload 7, 2) := by decide +kernel
theorem dL_hour_369 : decode cL_hour 369 = .ok (.iconst 5, 1) := by decide +kernel
theorem dL_hour_370 : decode cL_hour 370 = .ok (.iadd, 1) := by decide +kernel
theorem dL_hour_371 : decode cL_hour 371 = .ok (.iaload, 1) := by decide +kernel
theorem dL_hour_372 : decode cL_hour 372 = .ok (.iconst 1, 1) := by decide +kernel
theorem dL_hour_373 : decode cL_hour 373 = .ok (.iadd, 1) := by decide +kernel
theorem dL_hour_374 : decode cL_hour 374 = .ok (.goto 24, 3) := by decide +kernel
theorem dL_hour_377 : decode cL_hour 377 = .ok (.aload_n 0, 1) := by decide +kernel
theorem dL_hour_378 : decode cL_hour 378 = .ok (.iload 7, 2) := by decide +kernel
theorem dL_hour_380 : decode cL_hour 380 = .ok (.bipush 9, 2) := by decide +kernel
theorem dL_hour_382 : decode cL_hour 382 = .ok (.iadd, 1) := by decide +kernel
theorem dL_hour_383 : decode cL_hour 383 = .ok (.iaload, 1) := by decide +kernel
theorem dL_hour_384 : decode cL_hour 384 = .ok (.iconst 1, 1) := by decide +kernel
theorem dL_hour_385 : decode cL_hour 385 = .ok (.if_icmp .ne 7, 3) := by decide +kernel
theorem dL_hour_388 : decode cL_hour 388 = .ok (.iconst 0, 1) := by decide +kernel
theorem dL_hour_389 : decode cL_hour 389 = .ok (.goto 9, 3) := by decide +kernel
theorem dL_hour_392 : decode cL_hour 392 = .ok (.aload_n 0, 1) := by decide +kernel
theorem dL_hour_393 : decode cL_hour 393 = .ok (.iload 7, 2) := by decide +kernel
theorem dL_hour_395 : decode cL_hour 395 = .ok (.iconst 5, 1) := by decide +kernel
theorem dL_hour_396 : decode cL_hour 396 = .ok (.iadd, 1) := by decide +kernel
theorem dL_hour_397 : decode cL_hour 397 = .ok (.iaload, 1) := by decide +kernel
theorem dL_hour_398 : decode cL_hour 398 = .ok (.iastore, 1) := by decide +kernel
theorem dL_hour_399 : decode cL_hour 399 = .ok (.aload_n 0, 1) := by decide +kernel
theorem dL_hour_400 : decode cL_hour 400 = .ok (.iload 7, 2) := by decide +kernel
theorem dL_hour_402 : decode cL_hour 402 = .ok (.bipush 8, 2) := by decide +kernel
theorem dL_hour_404 : decode cL_hour 404 = .ok (.iadd, 1) := by decide +kernel
theorem dL_hour_405 : decode cL_hour 405 = .ok (.dup2, 1) := by decide +kernel
theorem dL_hour_406 : decode cL_hour 406 = .ok (.iaload, 1) := by decide +kernel
theorem dL_hour_407 : decode cL_hour 407 = .ok (.iload 9, 2) := by decide +kernel
theorem dL_hour_409 : decode cL_hour 409 = .ok (.ifCond .eq 7, 3) := by decide +kernel
theorem dL_hour_412 : decode cL_hour 412 = .ok (.iconst 1, 1) := by decide +kernel
theorem dL_hour_413 : decode cL_hour 413 = .ok (.goto 4, 3) := by decide +kernel
theorem dL_hour_416 : decode cL_hour 416 = .ok (.iconst 0, 1) := by decide +kernel
theorem dL_hour_417 : decode cL_hour 417 = .ok (.iadd, 1) := by decide +kernel
theorem dL_hour_418 : decode cL_hour 418 = .ok (.iastore, 1) := by decide +kernel
theorem dL_hour_419 : decode cL_hour 419 = .ok (.aload_n 3, 1) := by decide +kernel
theorem dL_hour_420 : decode cL_hour 420 = .ok (.bipush 13, 2) := by decide +kernel
theorem dL_hour_422 : decode cL_hour 422 = .ok (.dup2, 1) := by decide +kernel
theorem dL_hour_423 : decode cL_hour 423 = .ok (.iaload, 1) := by decide +kernel
theorem dL_hour_424 : decode cL_hour 424 = .ok (.iload 9, 2) := by decide +kernel
theorem dL_hour_426 : decode cL_hour 426 = .ok (.ifCond .eq 7, 3) := by decide +kernel
theorem dL_hour_429 : decode cL_hour 429 = .ok (.iconst 1, 1) := by decide +kernel
theorem dL_hour_430 : decode cL_hour 430 = .ok (.goto 4, 3) := by decide +kernel
theorem dL_hour_433 : decode cL_hour 433 = .ok (.iconst 0, 1) := by decide +kernel
theorem dL_hour_434 : decode cL_hour 434 = .ok (.iadd, 1) := by decide +kernel
theorem dL_hour_435 : decode cL_hour 435 = .ok (.iastore, 1) := by decide +kernel
theorem dL_hour_436 : decode cL_hour 436 = .ok (.iinc 6 1, 3) := by decide +kernel
theorem dL_hour_439 : decode cL_hour 439 = .ok (.goto (-191), 3) := by decide +kernel
theorem dL_hour_442 : decode cL_hour 442 = .ok (.iconst 0, 1) := by decide +kernel
theorem dL_hour_443 : decode cL_hour 443 = .ok (.istore 6, 2) := by decide +kernel
theorem dL_hour_445 : decode cL_hour 445 = .ok (.iload 6, 2) := by decide +kernel
theorem dL_hour_447 : decode cL_hour 447 = .ok (.aload_n 3, 1) := by decide +kernel
theorem dL_hour_448 : decode cL_hour 448 = .ok (.bipush 15, 2) := by decide +kernel
theorem dL_hour_450 : decode cL_hour 450 = .ok (.iaload, 1) := by decide +kernel
theorem dL_hour_451 : decode cL_hour 451 = .ok (.if_icmp .ge 62, 3) := by decide +kernel
theorem dL_hour_454 : decode cL_hour 454 = .ok (.aload_n 0, 1) := by decide +kernel
theorem dL_hour_455 : decode cL_hour 455 = .ok (.bipush 10, 2) := by decide +kernel
theorem dL_hour_457 : decode cL_hour 457 = .ok (.iload 6, 2) := by decide +kernel
theorem dL_hour_459 : decode cL_hour 459 = .ok (.imul, 1) := by decide +kernel
theorem dL_hour_460 : decode cL_hour 460 = .ok (.bipush 6, 2) := by decide +kernel
theorem dL_hour_462 : decode cL_hour 462 = .ok (.iadd, 1) := by decide +kernel
theorem dL_hour_463 : decode cL_hour 463 = .ok (.aload_n 0, 1) := by decide +kernel
theorem dL_hour_464 : decode cL_hour 464 = .ok (.bipush 10, 2) := by decide +kernel
theorem dL_hour_466 : decode cL_hour 466 = .ok (.iload 6, 2) := by decide +kernel
theorem dL_hour_468 : decode cL_hour 468 = .ok (.imul, 1) := by decide +kernel
theorem dL_hour_469 : decode cL_hour 469 = .ok (.bipush 9, 2) := by decide +kernel
theorem dL_hour_471 : decode cL_hour 471 = .ok (.iadd, 1) := by decide +kernel
theorem dL_hour_472 : decode cL_hour 472 = .ok (.iaload, 1) := by decide +kernel
theorem dL_hour_473 : decode cL_hour 473 = .ok (.iconst 1, 1) := by decide +kernel
theorem dL_hour_474 : decode cL_hour 474 = .ok (.if_icmp .ne 22, 3) := by decide +kernel
theorem dL_hour_477 : decode cL_hour 477 = .ok (.aload_n 0, 1) := by decide +kernel
theorem dL_hour_478 : decode cL_hour 478 = .ok (.bipush 10, 2) := by decide +kernel
theorem dL_hour_480 : decode cL_hour 480 = .ok (.iload 6, 2) := by decide +kernel
theorem dL_hour_482 : decode cL_hour 482 = .ok (.imul, 1) := by decide +kernel
theorem dL_hour_483 : decode cL_hour 483 = .ok (.iconst 5, 1) := by decide +kernel
theorem dL_hour_484 : decode cL_hour 484 = .ok (.iadd, 1) := by decide +kernel
theorem dL_hour_485 : decode cL_hour 485 = .ok (.iaload, 1) := by decide +kernel
theorem dL_hour_486 : decode cL_hour 486 = .ok (.aload_n 3, 1) := by decide +kernel
theorem dL_hour_487 : decode cL_hour 487 = .ok (.iconst 3, 1) := by decide +kernel
theorem dL_hour_488 : decode cL_hour 488 = .ok (.iaload, 1) := by decide +kernel
theorem dL_hour_489 : decode cL_hour 489 = .ok (.if_icmp .lt 7, 3) := by decide +kernel
theorem dL_hour_492 : decode cL_hour 492 = .ok (.iconst 1, 1) := by decide +kernel
theorem dL_hour_493 : decode cL_hour 493 = .ok (.goto 13, 3) := by decide +kernel
theorem dL_hour_496 : decode cL_hour 496 = .ok (.aload_n 0, 1) := by decide +kernel
theorem dL_hour_497 : decode cL_hour 497 = .ok (.bipush 10, 2) := by decide +kernel
theorem dL_hour_499 : decode cL_hour 499 = .ok (.iload 6, 2) := by decide +kernel
theorem dL_hour_501 : decode cL_hour 501 = .ok (.imul, 1) := by decide +kernel
theorem dL_hour_502 : decode cL_hour 502 = .ok (.bipush 6, 2) := by decide +kernel
theorem dL_hour_504 : decode cL_hour 504 = .ok (.iadd, 1) := by decide +kernel
theorem dL_hour_505 : decode cL_hour 505 = .ok (.iaload, 1) := by decide +kernel
theorem dL_hour_506 : decode cL_hour 506 = .ok (.iastore, 1) := by decide +kernel
theorem dL_hour_507 : decode cL_hour 507 = .ok (.iinc 6 1, 3) := by decide +kernel
theorem dL_hour_510 : decode cL_hour 510 = .ok (.goto (-65), 3) := by decide +kernel
theorem dL_hour_513 : decode cL_hour 513 = .ok (.iload 5, 2) := by decide +kernel
theorem dL_hour_515 : decode cL_hour 515 = .ok (.ireturn, 1) := by decide +kernel
theorem dL_areThermometers_0 : decode cL_areThermometers 0 = .ok (.iconst 0, 1) := by decide +kernel
theorem dL_areThermometers_1 : decode cL_areThermometers 1 = .ok (.istore 5, 2) := by decide +kernel
theorem dL_areThermometers_3 : decode cL_areThermometers 3 = .ok (.iconst 0, 1) := by decide +kernel
theorem dL_areThermometers_4 : decode cL_areThermometers 4 = .ok (.istore 6, 2) := by decide +kernel
theorem dL_areThermometers_6 : decode cL_areThermometers 6 = .ok (.iconst 0, 1) := by decide +kernel
theorem dL_areThermometers_7 : decode cL_areThermometers 7 = .ok (.istore 7, 2) := by decide +kernel
theorem dL_areThermometers_9 : decode cL_areThermometers 9 = .ok (.iconst 0, 1) := by decide +kernel
theorem dL_areThermometers_10 : decode cL_areThermometers 10 = .ok (.istore 8, 2) := by decide +kernel
theorem dL_areThermometers_12 : decode cL_areThermometers 12 = .ok (.aload_n 0, 1) := by decide +kernel
theorem dL_areThermometers_13 : decode cL_areThermometers 13 = .ok (.iconst 1, 1) := by decide +kernel
theorem dL_areThermometers_14 : decode cL_areThermometers 14 = .ok (.invokevirtual 40, 3) := by decide +kernel
theorem dL_areThermometers_17 : decode cL_areThermometers 17 = .ok (.aload 4, 2) := by decide +kernel
theorem dL_areThermometers_19 : decode cL_areThermometers 19 = .ok (.bipush 15, 2) := by decide +kernel
theorem dL_areThermometers_21 : decode cL_areThermometers 21 = .ok (.iaload, 1) := by decide +kernel
theorem dL_areThermometers_22 : decode cL_areThermometers 22 = .ok (.if_icmp .ne 7, 3) := by decide +kernel
theorem dL_areThermometers_25 : decode cL_areThermometers 25 = .ok (.iconst 1, 1) := by decide +kernel
theorem dL_areThermometers_26 : decode cL_areThermometers 26 = .ok (.goto 4, 3) := by decide +kernel
theorem dL_areThermometers_29 : decode cL_areThermometers 29 = .ok (.iconst 0, 1) := by decide +kernel
theorem dL_areThermometers_30 : decode cL_areThermometers 30 = .ok (.istore 9, 2) := by decide +kernel
theorem dL_areThermometers_32 : decode cL_areThermometers 32 = .ok (.iconst 0, 1) := by decide +kernel
theorem dL_areThermometers_33 : decode cL_areThermometers 33 = .ok (.istore 10, 2) := by decide +kernel
theorem dL_areThermometers_35 : decode cL_areThermometers 35 = .ok (.iload 10, 2) := by decide +kernel
theorem dL_areThermometers_37 : decode cL_areThermometers 37 = .ok (.aload 4, 2) := by decide +kernel
theorem dL_areThermometers_39 : decode cL_areThermometers 39 = .ok (.bipush 15, 2) := by decide +kernel
theorem dL_areThermometers_41 : decode cL_areThermometers 41 = .ok (.iaload, 1) := by decide +kernel
theorem dL_areThermometers_42 : decode cL_areThermometers 42 = .ok (.if_icmp .ge 286, 3) := by decide +kernel
theorem dL_areThermometers_45 : decode cL_areThermometers 45 = .ok (.iload 9, 2) := by decide +kernel
theorem dL_areThermometers_47 : decode cL_areThermometers 47 = .ok (.ifCond .eq 281, 3) := by decide +kernel
theorem dL_areThermometers_50 : decode cL_areThermometers 50 = .ok (.bipush 10, 2) := by decide +kernel
theorem dL_areThermometers_52 : decode cL_areThermometers 52 = .ok (.iload 10, 2) := by decide +kernel
theorem dL_areThermometers_54 : decode cL_areThermometers 54 = .ok (.imul, 1) := by decide +kernel
theorem dL_areThermometers_55 : decode cL_areThermometers 55 = .ok (.istore 11, 2) := by decide +kernel
theorem dL_areThermometers_57 : decode cL_areThermometers 57 = .ok (.iconst 0, 1) := by decide +kernel
theorem dL_areThermometers_58 : decode cL_areThermometers 58 = .ok (.istore 12, 2) := by decide +kernel
theorem dL_areThermometers_60 : decode cL_areThermometers 60 = .ok (.iload 12, 2) := by decide +kernel
theorem dL_areThermometers_62 : decode cL_areThermometers 62 = .ok (.bipush 9, 2) := by decide +kernel
theorem dL_areThermometers_64 : decode cL_areThermometers 64 = .ok (.if_icmp .ge 39, 3) := by decide +kernel
theorem dL_areThermometers_67 : decode cL_areThermometers 67 = .ok (.iload 9, 2) := by decide +kernel
theorem dL_areThermometers_69 : decode cL_areThermometers 69 = .ok (.ifCond .eq 25, 3) := by decide +kernel
theorem dL_areThermometers_72 : decode cL_areThermometers 72 = .ok (.aload_n 0, 1) := by decide +kernel
theorem dL_areThermometers_73 : decode cL_areThermometers 73 = .ok (.iload 10, 2) := by decide +kernel
theorem dL_areThermometers_75 : decode cL_areThermometers 75 = .ok (.iload 12, 2) := by decide +kernel
theorem dL_areThermometers_77 : decode cL_areThermometers 77 = .ok (.invokevirtual 45, 3) := by decide +kernel
theorem dL_areThermometers_80 : decode cL_areThermometers 80 = .ok (.aload_n 1, 1) := by decide +kernel
theorem dL_areThermometers_81 : decode cL_areThermometers 81 = .ok (.iload 11, 2) := by decide +kernel
theorem dL_areThermometers_83 : decode cL_areThermometers 83 = .ok (.iload 12, 2) := by decide +kernel
theorem dL_areThermometers_85 : decode cL_areThermometers 85 = .ok (.iadd, 1) := by decide +kernel
theorem dL_areThermometers_86 : decode cL_areThermometers 86 = .ok (.iaload, 1) := by decide +kernel
theorem dL_areThermometers_87 : decode cL_areThermometers 87 = .ok (.if_icmp .ne 7, 3) := by decide +kernel
theorem dL_areThermometers_90 : decode cL_areThermometers 90 = .ok (.iconst 1, 1) := by decide +kernel
theorem dL_areThermometers_91 : decode cL_areThermometers 91 = .ok (.goto 4, 3) := by decide +kernel
theorem dL_areThermometers_94 : decode cL_areThermometers 94 = .ok (.iconst 0, 1) := by decide +kernel
theorem dL_areThermometers_95 : decode cL_areThermometers 95 = .ok (.istore 9, 2) := by decide +kernel
theorem dL_areThermometers_97 : decode cL_areThermometers 97 = .ok (.iinc 12 1, 3) := by decide +kernel
theorem dL_areThermometers_100 : decode cL_areThermometers 100 = .ok (.goto (-40), 3) := by decide +kernel
theorem dL_areThermometers_103 : decode cL_areThermometers 103 = .ok (.iload 9, 2) := by decide +kernel
theorem dL_areThermometers_105 : decode cL_areThermometers 105 = .ok (.ifCond .eq 45, 3) := by decide +kernel
theorem dL_areThermometers_108 : decode cL_areThermometers 108 = .ok (.aload_n 0, 1) := by decide +kernel
theorem dL_areThermometers_109 : decode cL_areThermometers 109 = .ok (.iload 10, 2) := by decide +kernel
theorem dL_areThermometers_111 : decode cL_areThermometers 111 = .ok (.bipush 9, 2) := by decide +kernel
theorem dL_areThermometers_113 : decode cL_areThermometers 113 = .ok (.invokevirtual 45, 3) := by decide +kernel
theorem dL_areThermometers_116 : decode cL_areThermometers 116 = .ok (.aload_n 1, 1) := by decide +kernel
theorem dL_areThermometers_117 : decode cL_areThermometers 117 = .ok (.aload_n 2, 1) := by decide +kernel
theorem dL_areThermometers_118 : decode cL_areThermometers 118 = .ok (.aload_n 3, 1) := by decide +kernel
theorem dL_areThermometers_119 : decode cL_areThermometers 119 = .ok (.iload 10, 2) := by decide +kernel
theorem dL_areThermometers_121 : decode cL_areThermometers 121 = .ok (.invokestatic 20, 3) := by decide +kernel
theorem dL_areThermometers_124 : decode cL_areThermometers 124 = .ok (.if_icmp .ne 26, 3) := by decide +kernel
theorem dL_areThermometers_127 : decode cL_areThermometers 127 = .ok (.aload_n 0, 1) := by decide +kernel
theorem dL_areThermometers_128 : decode cL_areThermometers 128 = .ok (.iload 10, 2) := by decide +kernel
theorem dL_areThermometers_130 : decode cL_areThermometers 130 = .ok (.aload_n 1, 1) := by decide +kernel
theorem dL_areThermometers_131 : decode cL_areThermometers 131 = .ok (.iload 11, 2) := by decide +kernel
theorem dL_areThermometers_133 : decode cL_areThermometers 133 = .ok (.bipush 7, 2) := by decide +kernel
theorem dL_areThermometers_135 : decode cL_areThermometers 135 = .ok (.iadd, 1) := by decide +kernel
theorem dL_areThermometers_136 : decode cL_areThermometers 136 = .ok (.iaload, 1) := by decide +kernel
theorem dL_areThermometers_137 : decode cL_areThermometers 137 = .ok (.iconst 0, 1) := by decide +kernel
theorem dL_areThermometers_138 : decode cL_areThermometers 138 = .ok (.invokevirtual 49, 3) := by decide +kernel
theorem dL_areThermometers_141 : decode cL_areThermometers 141 = .ok (.ldc 11, 2) := by decide +kernel
theorem dL_areThermometers_143 : decode cL_areThermometers 143 = .ok (.if_icmp .ne 7, 3) := by decide +kernel
theorem dL_areThermometers_146 : decode cL_areThermometers 146 = .ok (.iconst 1, 1) := by decide +kernel
theorem dL_areThermometers_147 : decode cL_areThermometers 147 = .ok (.goto 4, 3) := by decide +kernel
theorem dL_areThermometers_150 : decode cL_areThermometers 150 = .ok (.iconst 0, 1) := by decide +kernel
theorem dL_areThermometers_151 : decode cL_areThermometers 151 = .ok (.istore 9, 2) := by decide +kernel
theorem dL_areThermometers_153 : decode cL_areThermometers 153 = .ok (.iconst 0, 1) := by decide +kernel
theorem dL_areThermometers_154 : decode cL_areThermometers 154 = .ok (.istore 12, 2) := by decide +kernel
theorem dL_areThermometers_156 : decode cL_areThermometers 156 = .ok (.iload 12, 2) := by decide +kernel
theorem dL_areThermometers_158 : decode cL_areThermometers 158 = .ok (.aload_n 1, 1) := by decide +kernel
theorem dL_areThermometers_159 : decode cL_areThermometers 159 = .ok (.iload 11, 2) := by decide +kernel
theorem dL_areThermometers_161 : decode cL_areThermometers 161 = .ok (.bipush 7, 2) := by decide +kernel
theorem dL_areThermometers_163 : decode cL_areThermometers 163 = .ok (.iadd, 1) := by decide +kernel
theorem dL_areThermometers_164 : decode cL_areThermometers 164 = .ok (.iaload, 1) := by decide +kernel
theorem dL_areThermometers_165 : decode cL_areThermometers 165 = .ok (.if_icmp .ge 65, 3) := by decide +kernel
theorem dL_areThermometers_168 : decode cL_areThermometers 168 = .ok (.iload 9, 2) := by decide +kernel
theorem dL_areThermometers_170 : decode cL_areThermometers 170 = .ok (.ifCond .eq 51, 3) := by decide +kernel
theorem dL_areThermometers_173 : decode cL_areThermometers 173 = .ok (.aload_n 0, 1) := by decide +kernel
theorem dL_areThermometers_174 : decode cL_areThermometers 174 = .ok (.iload 10, 2) := by decide +kernel
theorem dL_areThermometers_176 : decode cL_areThermometers 176 = .ok (.iload 12, 2) := by decide +kernel
theorem dL_areThermometers_178 : decode cL_areThermometers 178 = .ok (.iconst 0, 1) := by decide +kernel
theorem dL_areThermometers_179 : decode cL_areThermometers 179 = .ok (.invokevirtual 49, 3) := by decide +kernel
theorem dL_areThermometers_182 : decode cL_areThermometers 182 = .ok (.aload_n 2, 1) := by decide +kernel
theorem dL_areThermometers_183 : decode cL_areThermometers 183 = .ok (.bipush 6, 2) := by decide +kernel
theorem dL_areThermometers_185 : decode cL_areThermometers 185 = .ok (.iload 10, 2) := by decide +kernel
theorem dL_areThermometers_187 : decode cL_areThermometers 187 = .ok (.imul, 1) := by decide +kernel
theorem dL_areThermometers_188 : decode cL_areThermometers 188 = .ok (.iload 12, 2) := by decide +kernel
theorem dL_areThermometers_190 : decode cL_areThermometers 190 = .ok (.iadd, 1) := by decide +kernel
theorem dL_areThermometers_191 : decode cL_areThermometers 191 = .ok (.iaload, 1) := by decide +kernel
theorem dL_areThermometers_192 : decode cL_areThermometers 192 = .ok (.if_icmp .ne 29, 3) := by decide +kernel
theorem dL_areThermometers_195 : decode cL_areThermometers 195 = .ok (.aload_n 0, 1) := by decide +kernel
theorem dL_areThermometers_196 : decode cL_areThermometers 196 = .ok (.iload 10, 2) := by decide +kernel
theorem dL_areThermometers_198 : decode cL_areThermometers 198 = .ok (.iload 12, 2) := by decide +kernel
theorem dL_areThermometers_200 : decode cL_areThermometers 200 = .ok (.iconst 1, 1) := by decide +kernel
theorem dL_areThermometers_201 : decode cL_areThermometers 201 = .ok (.invokevirtual 49, 3) := by decide +kernel
theorem dL_areThermometers_204 : decode cL_areThermometers 204 = .ok (.aload_n 3, 1) := by decide +kernel
theorem dL_areThermometers_205 : decode cL_areThermometers 205 = .ok (.bipush 6, 2) := by decide +kernel
theorem dL_areThermometers_207 : decode cL_areThermometers 207 = .ok (.iload 10, 2) := by decide +kernel
theorem dL_areThermometers_209 : decode cL_areThermometers 209 = .ok (.imul, 1) := by decide +kernel
theorem dL_areThermometers_210 : decode cL_areThermometers 210 = .ok (.iload 12, 2) := by decide +kernel
theorem dL_areThermometers_212 : decode cL_areThermometers 212 = .ok (.iadd, 1) := by decide +kernel
theorem dL_areThermometers_213 : decode cL_areThermometers 213 = .ok (.iaload, 1) := by decide +kernel
theorem dL_areThermometers_214 : decode cL_areThermometers 214 = .ok (.if_icmp .ne 7, 3) := by decide +kernel
theorem dL_areThermometers_217 : decode cL_areThermometers 217 = .ok (.iconst 1, 1) := by decide +kernel
theorem dL_areThermometers_218 : decode cL_areThermometers 218 = .ok (.goto 4, 3) := by decide +kernel
theorem dL_areThermometers_221 : decode cL_areThermometers 221 = .ok (.iconst 0, 1) := by decide +kernel
theorem dL_areThermometers_222 : decode cL_areThermometers 222 = .ok (.istore 9, 2) := by decide +kernel
theorem dL_areThermometers_224 : decode cL_areThermometers 224 = .ok (.iinc 12 1, 3) := by decide +kernel
theorem dL_areThermometers_227 : decode cL_areThermometers 227 = .ok (.goto (-71), 3) := by decide +kernel
theorem dL_areThermometers_230 : decode cL_areThermometers 230 = .ok (.iload 5, 2) := by decide +kernel
theorem dL_areThermometers_232 : decode cL_areThermometers 232 = .ok (.aload_n 1, 1) := by decide +kernel
theorem dL_areThermometers_233 : decode cL_areThermometers 233 = .ok (.iload 10, 2) := by decide +kernel
theorem dL_areThermometers_235 : decode cL_areThermometers 235 = .ok (.invokestatic 16, 3) := by decide +kernel
theorem dL_areThermometers_238 : decode cL_areThermometers 238 = .ok (.ifCond .eq 10, 3) := by decide +kernel
theorem dL_areThermometers_241 : decode cL_areThermometers 241 = .ok (.iconst 1, 1) := by decide +kernel
theorem dL_areThermometers_242 : decode cL_areThermometers 242 = .ok (.iload 10, 2) := by decide +kernel
theorem dL_areThermometers_244 : decode cL_areThermometers 244 = .ok (.ishl, 1) := by decide +kernel
theorem dL_areThermometers_245 : decode cL_areThermometers 245 = .ok (.goto 4, 3) := by decide +kernel
theorem dL_areThermometers_248 : decode cL_areThermometers 248 = .ok (.iconst 0, 1) := by decide +kernel
theorem dL_areThermometers_249 : decode cL_areThermometers 249 = .ok (.ior, 1) := by decide +kernel
theorem dL_areThermometers_250 : decode cL_areThermometers 250 = .ok (.istore 5, 2) := by decide +kernel
theorem dL_areThermometers_252 : decode cL_areThermometers 252 = .ok (.iload 6, 2) := by decide +kernel
theorem dL_areThermometers_254 : decode cL_areThermometers 254 = .ok (.aload_n 1, 1) := by decide +kernel
theorem dL_areThermometers_255 : decode cL_areThermometers 255 = .ok (.iload 11, 2) := by decide +kernel
theorem dL_areThermometers_257 : decode cL_areThermometers 257 = .ok (.bipush 6, 2) := by decide +kernel
theorem dL_areThermometers_259 : decode cL_areThermometers 259 = .ok (.iadd, 1) := by decide +kernel
theorem dL_areThermometers_260 : decode cL_areThermometers 260 = .ok (.iaload, 1) := by decide +kernel
theorem dL_areThermometers_261 : decode cL_areThermometers 261 = .ok (.iload 10, 2) := by decide +kernel
theorem dL_areThermometers_263 : decode cL_areThermometers 263 = .ok (.ishl, 1) := by decide +kernel
theorem dL_areThermometers_264 : decode cL_areThermometers 264 = .ok (.ior, 1) := by decide +kernel
theorem dL_areThermometers_265 : decode cL_areThermometers 265 = .ok (.istore 6, 2) := by decide +kernel
theorem dL_areThermometers_267 : decode cL_areThermometers 267 = .ok (.iload 7, 2) := by decide +kernel
theorem dL_areThermometers_269 : decode cL_areThermometers 269 = .ok (.aload_n 1, 1) := by decide +kernel
theorem dL_areThermometers_270 : decode cL_areThermometers 270 = .ok (.iload 11, 2) := by decide +kernel
theorem dL_areThermometers_272 : decode cL_areThermometers 272 = .ok (.bipush 7, 2) := by decide +kernel
theorem dL_areThermometers_274 : decode cL_areThermometers 274 = .ok (.iadd, 1) := by decide +kernel
theorem dL_areThermometers_275 : decode cL_areThermometers 275 = .ok (.iaload, 1) := by decide +kernel
theorem dL_areThermometers_276 : decode cL_areThermometers 276 = .ok (.ifCond .le 22, 3) := by decide +kernel
theorem dL_areThermometers_279 : decode cL_areThermometers 279 = .ok (.aload_n 1, 1) := by decide +kernel
theorem dL_areThermometers_280 : decode cL_areThermometers 280 = .ok (.aload_n 2, 1) := by decide +kernel
theorem dL_areThermometers_281 : decode cL_areThermometers 281 = .ok (.aload_n 3, 1) := by decide +kernel
theorem dL_areThermometers_282 : decode cL_areThermometers 282 = .ok (.iload 10, 2) := by decide +kernel
theorem dL_areThermometers_284 : decode cL_areThermometers 284 = .ok (.invokestatic 20, 3) := by decide +kernel
theorem dL_areThermometers_287 : decode cL_areThermometers 287 = .ok (.aload 4, 2) := by decide +kernel
theorem dL_areThermometers_289 : decode cL_areThermometers 289 = .ok (.iconst 1, 1) := by decide +kernel
theorem dL_areThermometers_290 : decode cL_areThermometers 290 = .ok (.iaload, 1) := by decide +kernel
theorem dL_areThermometers_291 : decode cL_areThermometers 291 = .ok (.isub, 1) := by decide +kernel
theorem dL_areThermometers_292 : decode cL_areThermometers 292 = .ok (.invokestatic 36, 3) := by decide +kernel
theorem dL_areThermometers_295 : decode cL_areThermometers 295 = .ok (.goto 4, 3) := by decide +kernel
theorem dL_areThermometers_298 : decode cL_areThermometers 298 = .ok (.iconst 0, 1) := by decide +kernel
theorem dL_areThermometers_299 : decode cL_areThermometers 299 = .ok (.iadd, 1) := by decide +kernel
theorem dL_areThermometers_300 : decode cL_areThermometers 300 = .ok (.istore 7, 2) := by decide +kernel
theorem dL_areThermometers_302 : decode cL_areThermometers 302 = .ok (.iload 8, 2) := by decide +kernel
theorem dL_areThermometers_304 : decode cL_areThermometers 304 = .ok (.aload_n 1, 1) := by decide +kernel
theorem dL_areThermometers_305 : decode cL_areThermometers 305 = .ok (.iload 11, 2) := by decide +kernel
theorem dL_areThermometers_307 : decode cL_areThermometers 307 = .ok (.bipush 7, 2) := by decide +kernel
theorem dL_areThermometers_309 : decode cL_areThermometers 309 = .ok (.iadd, 1) := by decide +kernel
theorem dL_areThermometers_310 : decode cL_areThermometers 310 = .ok (.iaload, 1) := by decide +kernel
theorem dL_areThermometers_311 : decode cL_areThermometers 311 = .ok (.ifCond .le 7, 3) := by decide +kernel
theorem dL_areThermometers_314 : decode cL_areThermometers 314 = .ok (.iconst 1, 1) := by decide +kernel
theorem dL_areThermometers_315 : decode cL_areThermometers 315 = .ok (.goto 4, 3) := by decide +kernel
theorem dL_areThermometers_318 : decode cL_areThermometers 318 = .ok (.iconst 0, 1) := by decide +kernel
theorem dL_areThermometers_319 : decode cL_areThermometers 319 = .ok (.iadd, 1) := by decide +kernel
theorem dL_areThermometers_320 : decode cL_areThermometers 320 = .ok (.istore 8, 2) := by decide +kernel
theorem dL_areThermometers_322 : decode cL_areThermometers 322 = .ok (.iinc 10 1, 3) := by decide +kernel
theorem dL_areThermometers_325 : decode cL_areThermometers 325 = .ok (.goto (-290), 3) := by decide +kernel
theorem dL_areThermometers_328 : decode cL_areThermometers 328 = .ok (.iload 9, 2) := by decide +kernel
theorem dL_areThermometers_330 : decode cL_areThermometers 330 = .ok (.ifCond .eq 51, 3) := by decide +kernel
theorem dL_areThermometers_333 : decode cL_areThermometers 333 = .ok (.aload_n 0, 1) := by decide +kernel
theorem dL_areThermometers_334 : decode cL_areThermometers 334 = .ok (.iconst 3, 1) := by decide +kernel
theorem dL_areThermometers_335 : decode cL_areThermometers 335 = .ok (.invokevirtual 40, 3) := by decide +kernel
theorem dL_areThermometers_338 : decode cL_areThermometers 338 = .ok (.iload 5, 2) := by decide +kernel
theorem dL_areThermometers_340 : decode cL_areThermometers 340 = .ok (.if_icmp .ne 41, 3) := by decide +kernel
theorem dL_areThermometers_343 : decode cL_areThermometers 343 = .ok (.aload_n 0, 1) := by decide +kernel
theorem dL_areThermometers_344 : decode cL_areThermometers 344 = .ok (.iconst 4, 1) := by decide +kernel
theorem dL_areThermometers_345 : decode cL_areThermometers 345 = .ok (.invokevirtual 40, 3) := by decide +kernel
theorem dL_areThermometers_348 : decode cL_areThermometers 348 = .ok (.iload 6, 2) := by decide +kernel
theorem dL_areThermometers_350 : decode cL_areThermometers 350 = .ok (.if_icmp .ne 31, 3) := by decide +kernel
theorem dL_areThermometers_353 : decode cL_areThermometers 353 = .ok (.aload_n 0, 1) := by decide +kernel
theorem dL_areThermometers_354 : decode cL_areThermometers 354 = .ok (.invokevirtual 53, 3) := by decide +kernel
theorem dL_areThermometers_357 : decode cL_areThermometers 357 = .ok (.iload 8, 2) := by decide +kernel
theorem dL_areThermometers_359 : decode cL_areThermometers 359 = .ok (.ifCond .ne 7, 3) := by decide +kernel
theorem dL_areThermometers_362 : decode cL_areThermometers 362 = .ok (.dconst 0, 1) := by decide +kernel
theorem dL_areThermometers_363 : decode cL_areThermometers 363 = .ok (.goto 10, 3) := by decide +kernel
theorem dL_areThermometers_366 : decode cL_areThermometers 366 = .ok (.iload 7, 2) := by decide +kernel
theorem dL_areThermometers_368 : decode cL_areThermometers 368 = .ok (.i2d, 1) := by decide +kernel
theorem dL_areThermometers_369 : decode cL_areThermometers 369 = .ok (.iload 8, 2) := by decide +kernel
theorem dL_areThermometers_371 : decode cL_areThermometers 371 = .ok (.i2d, 1) := by decide +kernel
theorem dL_areThermometers_372 : decode cL_areThermometers 372 = .ok (.ddiv, 1) := by decide +kernel
theorem dL_areThermometers_373 : decode cL_areThermometers 373 = .ok (.dcmp .l, 1) := by decide +kernel
theorem dL_areThermometers_374 : decode cL_areThermometers 374 = .ok (.ifCond .ne 7, 3) := by decide +kernel
theorem dL_areThermometers_377 : decode cL_areThermometers 377 = .ok (.iconst 1, 1) := by decide +kernel
theorem dL_areThermometers_378 : decode cL_areThermometers 378 = .ok (.goto 4, 3) := by decide +kernel
theorem dL_areThermometers_381 : decode cL_areThermometers 381 = .ok (.iconst 0, 1) := by decide +kernel
theorem dL_areThermometers_382 : decode cL_areThermometers 382 = .ok (.ireturn, 1) := by decide +kernel
theorem dL_areNumbers_0 : decode cL_areNumbers 0 = .ok (.aload_n 1, 1) := by decide +kernel
theorem dL_areNumbers_1 : decode cL_areNumbers 1 = .ok (.aload_n 2, 1) := by decide +kernel
theorem dL_areNumbers_2 : decode cL_areNumbers 2 = .ok (.aload_n 3, 1) := by decide +kernel
theorem dL_areNumbers_3 : decode cL_areNumbers 3 = .ok (.aload 4, 2) := by decide +kernel
theorem dL_areNumbers_5 : decode cL_areNumbers 5 = .ok (.invokestatic 24, 3) := by decide +kernel
theorem dL_areNumbers_8 : decode cL_areNumbers 8 = .ok (.istore 5, 2) := by decide +kernel
theorem dL_areNumbers_10 : decode cL_areNumbers 10 = .ok (.aload_n 0, 1) := by decide +kernel
theorem dL_areNumbers_11 : decode cL_areNumbers 11 = .ok (.iconst 0, 1) := by decide +kernel
theorem dL_areNumbers_12 : decode cL_areNumbers 12 = .ok (.invokevirtual 40, 3) := by decide +kernel
theorem dL_areNumbers_15 : decode cL_areNumbers 15 = .ok (.aload 4, 2) := by decide +kernel
theorem dL_areNumbers_17 : decode cL_areNumbers 17 = .ok (.iconst 0, 1) := by decide +kernel
theorem dL_areNumbers_18 : decode cL_areNumbers 18 = .ok (.iaload, 1) := by decide +kernel
theorem dL_areNumbers_19 : decode cL_areNumbers 19 = .ok (.if_icmp .ne 140, 3) := by decide +kernel
theorem dL_areNumbers_22 : decode cL_areNumbers 22 = .ok (.aload_n 0, 1) := by decide +kernel
theorem dL_areNumbers_23 : decode cL_areNumbers 23 = .ok (.iconst 2, 1) := by decide +kernel
theorem dL_areNumbers_24 : decode cL_areNumbers 24 = .ok (.invokevirtual 40, 3) := by decide +kernel
theorem dL_areNumbers_27 : decode cL_areNumbers 27 = .ok (.aload 4, 2) := by decide +kernel
theorem dL_areNumbers_29 : decode cL_areNumbers 29 = .ok (.iconst 1, 1) := by decide +kernel
theorem dL_areNumbers_30 : decode cL_areNumbers 30 = .ok (.iaload, 1) := by decide +kernel
theorem dL_areNumbers_31 : decode cL_areNumbers 31 = .ok (.if_icmp .ne 128, 3) := by decide +kernel
theorem dL_areNumbers_34 : decode cL_areNumbers 34 = .ok (.aload_n 0, 1) := by decide +kernel
theorem dL_areNumbers_35 : decode cL_areNumbers 35 = .ok (.iconst 5, 1) := by decide +kernel
theorem dL_areNumbers_36 : decode cL_areNumbers 36 = .ok (.invokevirtual 40, 3) := by decide +kernel
theorem dL_areNumbers_39 : decode cL_areNumbers 39 = .ok (.iload 5, 2) := by decide +kernel
theorem dL_areNumbers_41 : decode cL_areNumbers 41 = .ok (.if_icmp .ne 118, 3) := by decide +kernel
theorem dL_areNumbers_44 : decode cL_areNumbers 44 = .ok (.aload_n 0, 1) := by decide +kernel
theorem dL_areNumbers_45 : decode cL_areNumbers 45 = .ok (.bipush 6, 2) := by decide +kernel
theorem dL_areNumbers_47 : decode cL_areNumbers 47 = .ok (.invokevirtual 40, 3) := by decide +kernel
theorem dL_areNumbers_50 : decode cL_areNumbers 50 = .ok (.iload 5, 2) := by decide +kernel
theorem dL_areNumbers_52 : decode cL_areNumbers 52 = .ok (.ldc 11, 2) := by decide +kernel
theorem dL_areNumbers_54 : decode cL_areNumbers 54 = .ok (.if_icmp .eq 13, 3) := by decide +kernel
theorem dL_areNumbers_57 : decode cL_areNumbers 57 = .ok (.aload 4, 2) := by decide +kernel
theorem dL_areNumbers_59 : decode cL_areNumbers 59 = .ok (.bipush 14, 2) := by decide +kernel
theorem dL_areNumbers_61 : decode cL_areNumbers 61 = .ok (.iaload, 1) := by decide +kernel
theorem dL_areNumbers_62 : decode cL_areNumbers 62 = .ok (.ldc 11, 2) := by decide +kernel
theorem dL_areNumbers_64 : decode cL_areNumbers 64 = .ok (.if_icmp .ne 8, 3) := by decide +kernel
theorem dL_areNumbers_67 : decode cL_areNumbers 67 = .ok (.ldc 11, 2) := by decide +kernel
theorem dL_areNumbers_69 : decode cL_areNumbers 69 = .ok (.goto 11, 3) := by decide +kernel
theorem dL_areNumbers_72 : decode cL_areNumbers 72 = .ok (.iload 5, 2) := by decide +kernel
theorem dL_areNumbers_74 : decode cL_areNumbers 74 = .ok (.aload 4, 2) := by decide +kernel
theorem dL_areNumbers_76 : decode cL_areNumbers 76 = .ok (.bipush 14, 2) := by decide +kernel
theorem dL_areNumbers_78 : decode cL_areNumbers 78 = .ok (.iaload, 1) := by decide +kernel
theorem dL_areNumbers_79 : decode cL_areNumbers 79 = .ok (.isub, 1) := by decide +kernel
theorem dL_areNumbers_80 : decode cL_areNumbers 80 = .ok (.if_icmp .ne 79, 3) := by decide +kernel
theorem dL_areNumbers_83 : decode cL_areNumbers 83 = .ok (.aload_n 0, 1) := by decide +kernel
theorem dL_areNumbers_84 : decode cL_areNumbers 84 = .ok (.bipush 7, 2) := by decide +kernel
theorem dL_areNumbers_86 : decode cL_areNumbers 86 = .ok (.invokevirtual 40, 3) := by decide +kernel
theorem dL_areNumbers_89 : decode cL_areNumbers 89 = .ok (.aload_n 1, 1) := by decide +kernel
theorem dL_areNumbers_90 : decode cL_areNumbers 90 = .ok (.aload_n 2, 1) := by decide +kernel
theorem dL_areNumbers_91 : decode cL_areNumbers 91 = .ok (.aload_n 3, 1) := by decide +kernel
theorem dL_areNumbers_92 : decode cL_areNumbers 92 = .ok (.aload 4, 2) := by decide +kernel
theorem dL_areNumbers_94 : decode cL_areNumbers 94 = .ok (.iconst (-1), 1) := by decide +kernel
theorem dL_areNumbers_95 : decode cL_areNumbers 95 = .ok (.invokestatic 32, 3) := by decide +kernel
theorem dL_areNumbers_98 : decode cL_areNumbers 98 = .ok (.if_icmp .ne 61, 3) := by decide +kernel
theorem dL_areNumbers_101 : decode cL_areNumbers 101 = .ok (.aload_n 0, 1) := by decide +kernel
theorem dL_areNumbers_102 : decode cL_areNumbers 102 = .ok (.bipush 8, 2) := by decide +kernel
theorem dL_areNumbers_104 : decode cL_areNumbers 104 = .ok (.invokevirtual 40, 3) := by decide +kernel
theorem dL_areNumbers_107 : decode cL_areNumbers 107 = .ok (.aload 4, 2) := by decide +kernel
theorem dL_areNumbers_109 : decode cL_areNumbers 109 = .ok (.bipush 12, 2) := by decide +kernel
theorem dL_areNumbers_111 : decode cL_areNumbers 111 = .ok (.iaload, 1) := by decide +kernel
theorem dL_areNumbers_112 : decode cL_areNumbers 112 = .ok (.if_icmp .ne 47, 3) := by decide +kernel
theorem dL_areNumbers_115 : decode cL_areNumbers 115 = .ok (.aload_n 0, 1) := by decide +kernel
theorem dL_areNumbers_116 : decode cL_areNumbers 116 = .ok (.bipush 9, 2) := by decide +kernel
theorem dL_areNumbers_118 : decode cL_areNumbers 118 = .ok (.invokevirtual 40, 3) := by decide +kernel
theorem dL_areNumbers_121 : decode cL_areNumbers 121 = .ok (.aload 4, 2) := by decide +kernel
theorem dL_areNumbers_123 : decode cL_areNumbers 123 = .ok (.bipush 13, 2) := by decide +kernel
theorem dL_areNumbers_125 : decode cL_areNumbers 125 = .ok (.iaload, 1) := by decide +kernel
theorem dL_areNumbers_126 : decode cL_areNumbers 126 = .ok (.if_icmp .ne 33, 3) := by decide +kernel
theorem dL_areNumbers_129 : decode cL_areNumbers 129 = .ok (.aload_n 0, 1) := by decide +kernel
theorem dL_areNumbers_130 : decode cL_areNumbers 130 = .ok (.bipush 12, 2) := by decide +kernel
theorem dL_areNumbers_132 : decode cL_areNumbers 132 = .ok (.invokevirtual 40, 3) := by decide +kernel
theorem dL_areNumbers_135 : decode cL_areNumbers 135 = .ok (.aload 4, 2) := by decide +kernel
theorem dL_areNumbers_137 : decode cL_areNumbers 137 = .ok (.iconst 2, 1) := by decide +kernel
theorem dL_areNumbers_138 : decode cL_areNumbers 138 = .ok (.iaload, 1) := by decide +kernel
theorem dL_areNumbers_139 : decode cL_areNumbers 139 = .ok (.if_icmp .ne 20, 3) := by decide +kernel
theorem dL_areNumbers_142 : decode cL_areNumbers 142 = .ok (.aload_n 0, 1) := by decide +kernel
theorem dL_areNumbers_143 : decode cL_areNumbers 143 = .ok (.bipush 13, 2) := by decide +kernel
theorem dL_areNumbers_145 : decode cL_areNumbers 145 = .ok (.invokevirtual 40, 3) := by decide +kernel
theorem dL_areNumbers_148 : decode cL_areNumbers 148 = .ok (.aload 4, 2) := by decide +kernel
theorem dL_areNumbers_150 : decode cL_areNumbers 150 = .ok (.iconst 3, 1) := by decide +kernel
theorem dL_areNumbers_151 : decode cL_areNumbers 151 = .ok (.iaload, 1) := by decide +kernel
theorem dL_areNumbers_152 : decode cL_areNumbers 152 = .ok (.if_icmp .ne 7, 3) := by decide +kernel
theorem dL_areNumbers_155 : decode cL_areNumbers 155 = .ok (.iconst 1, 1) := by decide +kernel
theorem dL_areNumbers_156 : decode cL_areNumbers 156 = .ok (.goto 4, 3) := by decide +kernel
theorem dL_areNumbers_159 : decode cL_areNumbers 159 = .ok (.iconst 0, 1) := by decide +kernel
theorem dL_areNumbers_160 : decode cL_areNumbers 160 = .ok (.istore 6, 2) := by decide +kernel
theorem dL_areNumbers_162 : decode cL_areNumbers 162 = .ok (.iconst 0, 1) := by decide +kernel
theorem dL_areNumbers_163 : decode cL_areNumbers 163 = .ok (.istore 7, 2) := by decide +kernel
theorem dL_areNumbers_165 : decode cL_areNumbers 165 = .ok (.iload 7, 2) := by decide +kernel
theorem dL_areNumbers_167 : decode cL_areNumbers 167 = .ok (.iconst 4, 1) := by decide +kernel
theorem dL_areNumbers_168 : decode cL_areNumbers 168 = .ok (.if_icmp .ge 151, 3) := by decide +kernel
theorem dL_areNumbers_171 : decode cL_areNumbers 171 = .ok (.iconst 0, 1) := by decide +kernel
theorem dL_areNumbers_172 : decode cL_areNumbers 172 = .ok (.istore 8, 2) := by decide +kernel
theorem dL_areNumbers_174 : decode cL_areNumbers 174 = .ok (.iconst 1, 1) := by decide +kernel
theorem dL_areNumbers_175 : decode cL_areNumbers 175 = .ok (.istore 9, 2) := by decide +kernel
theorem dL_areNumbers_177 : decode cL_areNumbers 177 = .ok (.aload 4, 2) := by decide +kernel
theorem dL_areNumbers_179 : decode cL_areNumbers 179 = .ok (.iconst 0, 1) := by decide +kernel
theorem dL_areNumbers_180 : decode cL_areNumbers 180 = .ok (.iaload, 1) := by decide +kernel
theorem dL_areNumbers_181 : decode cL_areNumbers 181 = .ok (.iload 9, 2) := by decide +kernel
theorem dL_areNumbers_183 : decode cL_areNumbers 183 = .ok (.iadd, 1) := by decide +kernel
theorem dL_areNumbers_184 : decode cL_areNumbers 184 = .ok (.aload 4, 2) := by decide +kernel
theorem dL_areNumbers_186 : decode cL_areNumbers 186 = .ok (.iconst 4, 1) := by decide +kernel
theorem dL_areNumbers_187 : decode cL_areNumbers 187 = .ok (.iload 7, 2) := by decide +kernel
theorem dL_areNumbers_189 : decode cL_areNumbers 189 = .ok (.iadd, 1) := by decide +kernel
theorem dL_areNumbers_190 : decode cL_areNumbers 190 = .ok (.iaload, 1) := by decide +kernel
theorem dL_areNumbers_191 : decode cL_areNumbers 191 = .ok (.irem, 1) := by decide +kernel
theorem dL_areNumbers_192 : decode cL_areNumbers 192 = .ok (.ifCond .le 9, 3) := by decide +kernel
theorem dL_areNumbers_195 : decode cL_areNumbers 195 = .ok (.iinc 9 1, 3) := by decide +kernel
theorem dL_areNumbers_198 : decode cL_areNumbers 198 = .ok (.goto (-21), 3) := by decide +kernel
theorem dL_areNumbers_201 : decode cL_areNumbers 201 = .ok (.iconst 0, 1) := by decide +kernel
theorem dL_areNumbers_202 : decode cL_areNumbers 202 = .ok (.istore 10, 2) := by decide +kernel
theorem dL_areNumbers_204 : decode cL_areNumbers 204 = .ok (.iload 10, 2) := by decide +kernel
theorem dL_areNumbers_206 : decode cL_areNumbers 206 = .ok (.aload 4, 2) := by decide +kernel
theorem dL_areNumbers_208 : decode cL_areNumbers 208 = .ok (.bipush 15, 2) := by decide +kernel
theorem dL_areNumbers_210 : decode cL_areNumbers 210 = .ok (.iaload, 1) := by decide +kernel
theorem dL_areNumbers_211 : decode cL_areNumbers 211 = .ok (.if_icmp .ge 31, 3) := by decide +kernel
theorem dL_areNumbers_214 : decode cL_areNumbers 214 = .ok (.iload 8, 2) := by decide +kernel
theorem dL_areNumbers_216 : decode cL_areNumbers 216 = .ok (.aload_n 1, 1) := by decide +kernel
theorem dL_areNumbers_217 : decode cL_areNumbers 217 = .ok (.bipush 10, 2) := by decide +kernel
theorem dL_areNumbers_219 : decode cL_areNumbers 219 = .ok (.iload 10, 2) := by decide +kernel
theorem dL_areNumbers_221 : decode cL_areNumbers 221 = .ok (.imul, 1) := by decide +kernel
theorem dL_areNumbers_222 : decode cL_areNumbers 222 = .ok (.iaload, 1) := by decide +kernel
theorem dL_areNumbers_223 : decode cL_areNumbers 223 = .ok (.iload 7, 2) := by decide +kernel
theorem dL_areNumbers_225 : decode cL_areNumbers 225 = .ok (.if_icmp .ne 7, 3) := by decide +kernel
theorem dL_areNumbers_228 : decode cL_areNumbers 228 = .ok (.iconst 1, 1) := by decide +kernel
theorem dL_areNumbers_229 : decode cL_areNumbers 229 = .ok (.goto 4, 3) := by decide +kernel
theorem dL_areNumbers_232 : decode cL_areNumbers 232 = .ok (.iconst 0, 1) := by decide +kernel
theorem dL_areNumbers_233 : decode cL_areNumbers 233 = .ok (.iadd, 1) := by decide +kernel
theorem dL_areNumbers_234 : decode cL_areNumbers 234 = .ok (.istore 8, 2) := by decide +kernel
theorem dL_areNumbers_236 : decode cL_areNumbers 236 = .ok (.iinc 10 1, 3) := by decide +kernel
theorem dL_areNumbers_239 : decode cL_areNumbers 239 = .ok (.goto (-35), 3) := by decide +kernel
theorem dL_areNumbers_242 : decode cL_areNumbers 242 = .ok (.iload 6, 2) := by decide +kernel
theorem dL_areNumbers_244 : decode cL_areNumbers 244 = .ok (.ifCond .eq 66, 3) := by decide +kernel
theorem dL_areNumbers_247 : decode cL_areNumbers 247 = .ok (.aload_n 0, 1) := by decide +kernel
theorem dL_areNumbers_248 : decode cL_areNumbers 248 = .ok (.iload 7, 2) := by decide +kernel
theorem dL_areNumbers_250 : decode cL_areNumbers 250 = .ok (.iconst 0, 1) := by decide +kernel
theorem dL_areNumbers_251 : decode cL_areNumbers 251 = .ok (.invokevirtual 57, 3) := by decide +kernel
theorem dL_areNumbers_254 : decode cL_areNumbers 254 = .ok (.aload 4, 2) := by decide +kernel
theorem dL_areNumbers_256 : decode cL_areNumbers 256 = .ok (.iconst 4, 1) := by decide +kernel
theorem dL_areNumbers_257 : decode cL_areNumbers 257 = .ok (.iload 7, 2) := by decide +kernel
theorem dL_areNumbers_259 : decode cL_areNumbers 259 = .ok (.iadd, 1) := by decide +kernel
theorem dL_areNumbers_260 : decode cL_areNumbers 260 = .ok (.iaload, 1) := by decide +kernel
theorem dL_areNumbers_261 : decode cL_areNumbers 261 = .ok (.if_icmp .ne 49, 3) := by decide +kernel
theorem dL_areNumbers_264 : decode cL_areNumbers 264 = .ok (.aload_n 0, 1) := by decide +kernel
theorem dL_areNumbers_265 : decode cL_areNumbers 265 = .ok (.iload 7, 2) := by decide +kernel
theorem dL_areNumbers_267 : decode cL_areNumbers 267 = .ok (.iconst 1, 1) := by decide +kernel
theorem dL_areNumbers_268 : decode cL_areNumbers 268 = .ok (.invokevirtual 57, 3) := by decide +kernel
theorem dL_areNumbers_271 : decode cL_areNumbers 271 = .ok (.iload 8, 2) := by decide +kernel
theorem dL_areNumbers_273 : decode cL_areNumbers 273 = .ok (.if_icmp .ne 37, 3) := by decide +kernel
theorem dL_areNumbers_276 : decode cL_areNumbers 276 = .ok (.aload_n 0, 1) := by decide +kernel
theorem dL_areNumbers_277 : decode cL_areNumbers 277 = .ok (.iload 7, 2) := by decide +kernel
theorem dL_areNumbers_279 : decode cL_areNumbers 279 = .ok (.iconst 2, 1) := by decide +kernel
theorem dL_areNumbers_280 : decode cL_areNumbers 280 = .ok (.invokevirtual 57, 3) := by decide +kernel
theorem dL_areNumbers_283 : decode cL_areNumbers 283 = .ok (.iload 9, 2) := by decide +kernel
theorem dL_areNumbers_285 : decode cL_areNumbers 285 = .ok (.if_icmp .ne 25, 3) := by decide +kernel
theorem dL_areNumbers_288 : decode cL_areNumbers 288 = .ok (.aload_n 0, 1) := by decide +kernel
theorem dL_areNumbers_289 : decode cL_areNumbers 289 = .ok (.iload 7, 2) := by decide +kernel
theorem dL_areNumbers_291 : decode cL_areNumbers 291 = .ok (.iconst 3, 1) := by decide +kernel
theorem dL_areNumbers_292 : decode cL_areNumbers 292 = .ok (.invokevirtual 57, 3) := by decide +kernel
theorem dL_areNumbers_295 : decode cL_areNumbers 295 = .ok (.aload 4, 2) := by decide +kernel
theorem dL_areNumbers_297 : decode cL_areNumbers 297 = .ok (.bipush 8, 2) := by decide +kernel
theorem dL_areNumbers_299 : decode cL_areNumbers 299 = .ok (.iload 7, 2) := by decide +kernel
theorem dL_areNumbers_301 : decode cL_areNumbers 301 = .ok (.iadd, 1) := by decide +kernel
theorem dL_areNumbers_302 : decode cL_areNumbers 302 = .ok (.iaload, 1) := by decide +kernel
theorem dL_areNumbers_303 : decode cL_areNumbers 303 = .ok (.if_icmp .ne 7, 3) := by decide +kernel
theorem dL_areNumbers_306 : decode cL_areNumbers 306 = .ok (.iconst 1, 1) := by decide +kernel
theorem dL_areNumbers_307 : decode cL_areNumbers 307 = .ok (.goto 4, 3) := by decide +kernel
theorem dL_areNumbers_310 : decode cL_areNumbers 310 = .ok (.iconst 0, 1) := by decide +kernel
theorem dL_areNumbers_311 : decode cL_areNumbers 311 = .ok (.istore 6, 2) := by decide +kernel
theorem dL_areNumbers_313 : decode cL_areNumbers 313 = .ok (.iinc 7 1, 3) := by decide +kernel
theorem dL_areNumbers_316 : decode cL_areNumbers 316 = .ok (.goto (-151), 3) := by decide +kernel
theorem dL_areNumbers_319 : decode cL_areNumbers 319 = .ok (.iload 6, 2) := by decide +kernel
theorem dL_areNumbers_321 : decode cL_areNumbers 321 = .ok (.ireturn, 1) := by decide +kernel
theorem dL_areRanked_0 : decode cL_areRanked 0 = .ok (.iconst 0, 1) := by decide +kernel
theorem dL_areRanked_1 : decode cL_areRanked 1 = .ok (.istore 8, 2) := by decide +kernel
theorem dL_areRanked_3 : decode cL_areRanked 3 = .ok (.iconst 0, 1) := by decide +kernel
theorem dL_areRanked_4 : decode cL_areRanked 4 = .ok (.istore 9, 2) := by decide +kernel
theorem dL_areRanked_6 : decode cL_areRanked 6 = .ok (.iconst 0, 1) := by decide +kernel
theorem dL_areRanked_7 : decode cL_areRanked 7 = .ok (.istore 10, 2) := by decide +kernel
theorem dL_areRanked_9 : decode cL_areRanked 9 = .ok (.iload 10, 2) := by decide +kernel
theorem dL_areRanked_11 : decode cL_areRanked 11 = .ok (.aload 4, 2) := by decide +kernel
theorem dL_areRanked_13 : decode cL_areRanked 13 = .ok (.bipush 15, 2) := by decide +kernel
theorem dL_areRanked_15 : decode cL_areRanked 15 = .ok (.iaload, 1) := by decide +kernel
theorem dL_areRanked_16 : decode cL_areRanked 16 = .ok (.if_icmp .ge 81, 3) := by decide +kernel
theorem dL_areRanked_19 : decode cL_areRanked 19 = .ok (.iload 8, 2) := by decide +kernel
theorem dL_areRanked_21 : decode cL_areRanked 21 = .ok (.aload_n 1, 1) := by decide +kernel
theorem dL_areRanked_22 : decode cL_areRanked 22 = .ok (.bipush 10, 2) := by decide +kernel
theorem dL_areRanked_24 : decode cL_areRanked 24 = .ok (.iload 10, 2) := by decide +kernel
theorem dL_areRanked_26 : decode cL_areRanked 26 = .ok (.imul, 1) := by decide +kernel
theorem dL_areRanked_27 : decode cL_areRanked 27 = .ok (.bipush 7, 2) := by decide +kernel
theorem dL_areRanked_29 : decode cL_areRanked 29 = .ok (.iadd, 1) := by decide +kernel
theorem dL_areRanked_30 : decode cL_areRanked 30 = .ok (.iaload, 1) := by decide +kernel
theorem dL_areRanked_31 : decode cL_areRanked 31 = .ok (.ifCond .le 7, 3) := by decide +kernel
theorem dL_areRanked_34 : decode cL_areRanked 34 = .ok (.iconst 1, 1) := by decide +kernel
theorem dL_areRanked_35 : decode cL_areRanked 35 = .ok (.goto 4, 3) := by decide +kernel
theorem dL_areRanked_38 : decode cL_areRanked 38 = .ok (.iconst 0, 1) := by decide +kernel
theorem dL_areRanked_39 : decode cL_areRanked 39 = .ok (.iadd, 1) := by decide +kernel
theorem dL_areRanked_40 : decode cL_areRanked 40 = .ok (.istore 8, 2) := by decide +kernel
theorem dL_areRanked_42 : decode cL_areRanked 42 = .ok (.iload 9, 2) := by decide +kernel
theorem dL_areRanked_44 : decode cL_areRanked 44 = .ok (.aload_n 1, 1) := by decide +kernel
theorem dL_areRanked_45 : decode cL_areRanked 45 = .ok (.bipush 10, 2) := by decide +kernel
theorem dL_areRanked_47 : decode cL_areRanked 47 = .ok (.iload 10, 2) := by decide +kernel
theorem dL_areRanked_49 : decode cL_areRanked 49 = .ok (.imul, 1) := by decide +kernel
theorem dL_areRanked_50 : decode cL_areRanked 50 = .ok (.bipush 7, 2) := by decide +kernel
theorem dL_areRanked_52 : decode cL_areRanked 52 = .ok (.iadd, 1) := by decide +kernel
theorem dL_areRanked_53 : decode cL_areRanked 53 = .ok (.iaload, 1) := by decide +kernel
theorem dL_areRanked_54 : decode cL_areRanked 54 = .ok (.ifCond .le 33, 3) := by decide +kernel
theorem dL_areRanked_57 : decode cL_areRanked 57 = .ok (.aload_n 1, 1) := by decide +kernel
theorem dL_areRanked_58 : decode cL_areRanked 58 = .ok (.aload_n 2, 1) := by decide +kernel
theorem dL_areRanked_59 : decode cL_areRanked 59 = .ok (.aload_n 3, 1) := by decide +kernel
theorem dL_areRanked_60 : decode cL_areRanked 60 = .ok (.iload 10, 2) := by decide +kernel
theorem dL_areRanked_62 : decode cL_areRanked 62 = .ok (.invokestatic 20, 3) := by decide +kernel
theorem dL_areRanked_65 : decode cL_areRanked 65 = .ok (.iload 6, 2) := by decide +kernel
theorem dL_areRanked_67 : decode cL_areRanked 67 = .ok (.if_icmp .lt 20, 3) := by decide +kernel
theorem dL_areRanked_70 : decode cL_areRanked 70 = .ok (.aload_n 1, 1) := by decide +kernel
theorem dL_areRanked_71 : decode cL_areRanked 71 = .ok (.aload_n 2, 1) := by decide +kernel
theorem dL_areRanked_72 : decode cL_areRanked 72 = .ok (.aload_n 3, 1) := by decide +kernel
theorem dL_areRanked_73 : decode cL_areRanked 73 = .ok (.iload 10, 2) := by decide +kernel
theorem dL_areRanked_75 : decode cL_areRanked 75 = .ok (.invokestatic 20, 3) := by decide +kernel
theorem dL_areRanked_78 : decode cL_areRanked 78 = .ok (.iload 7, 2) := by decide +kernel
theorem dL_areRanked_80 : decode cL_areRanked 80 = .ok (.if_icmp .gt 7, 3) := by decide +kernel
theorem dL_areRanked_83 : decode cL_areRanked 83 = .ok (.iconst 1, 1) := by decide +kernel
theorem dL_areRanked_84 : decode cL_areRanked 84 = .ok (.goto 4, 3) := by decide +kernel
theorem dL_areRanked_87 : decode cL_areRanked 87 = .ok (.iconst 0, 1) := by decide +kernel
theorem dL_areRanked_88 : decode cL_areRanked 88 = .ok (.iadd, 1) := by decide +kernel
theorem dL_areRanked_89 : decode cL_areRanked 89 = .ok (.istore 9, 2) := by decide +kernel
theorem dL_areRanked_91 : decode cL_areRanked 91 = .ok (.iinc 10 1, 3) := by decide +kernel
theorem dL_areRanked_94 : decode cL_areRanked 94 = .ok (.goto (-85), 3) := by decide +kernel
theorem dL_areRanked_97 : decode cL_areRanked 97 = .ok (.aload_n 0, 1) := by decide +kernel
theorem dL_areRanked_98 : decode cL_areRanked 98 = .ok (.iload 5, 2) := by decide +kernel
theorem dL_areRanked_100 : decode cL_areRanked 100 = .ok (.iload 8, 2) := by decide +kernel
theorem dL_areRanked_102 : decode cL_areRanked 102 = .ok (.invokevirtual 60, 3) := by decide +kernel
theorem dL_areRanked_105 : decode cL_areRanked 105 = .ok (.ldc 11, 2) := by decide +kernel
theorem dL_areRanked_107 : decode cL_areRanked 107 = .ok (.if_icmp .ne 20, 3) := by decide +kernel
theorem dL_areRanked_110 : decode cL_areRanked 110 = .ok (.aload_n 0, 1) := by decide +kernel
theorem dL_areRanked_111 : decode cL_areRanked 111 = .ok (.iload 6, 2) := by decide +kernel
theorem dL_areRanked_113 : decode cL_areRanked 113 = .ok (.iload 7, 2) := by decide +kernel
theorem dL_areRanked_115 : decode cL_areRanked 115 = .ok (.invokevirtual 63, 3) := by decide +kernel
theorem dL_areRanked_118 : decode cL_areRanked 118 = .ok (.iload 9, 2) := by decide +kernel
theorem dL_areRanked_120 : decode cL_areRanked 120 = .ok (.if_icmp .ne 7, 3) := by decide +kernel
theorem dL_areRanked_123 : decode cL_areRanked 123 = .ok (.iconst 1, 1) := by decide +kernel
theorem dL_areRanked_124 : decode cL_areRanked 124 = .ok (.goto 4, 3) := by decide +kernel
theorem dL_areRanked_127 : decode cL_areRanked 127 = .ok (.iconst 0, 1) := by decide +kernel
theorem dL_areRanked_128 : decode cL_areRanked 128 = .ok (.istore 10, 2) := by decide +kernel
theorem dL_areRanked_130 : decode cL_areRanked 130 = .ok (.ldc 66, 2) := by decide +kernel
theorem dL_areRanked_132 : decode cL_areRanked 132 = .ok (.istore 11, 2) := by decide +kernel
theorem dL_areRanked_134 : decode cL_areRanked 134 = .ok (.iconst (-1), 1) := by decide +kernel
theorem dL_areRanked_135 : decode cL_areRanked 135 = .ok (.istore 12, 2) := by decide +kernel
theorem dL_areRanked_137 : decode cL_areRanked 137 = .ok (.iconst 0, 1) := by decide +kernel
theorem dL_areRanked_138 : decode cL_areRanked 138 = .ok (.istore 13, 2) := by decide +kernel
theorem dL_areRanked_140 : decode cL_areRanked 140 = .ok (.iload 13, 2) := by decide +kernel
theorem dL_areRanked_142 : decode cL_areRanked 142 = .ok (.iload 8, 2) := by decide +kernel
theorem dL_areRanked_144 : decode cL_areRanked 144 = .ok (.if_icmp .ge 144, 3) := by decide +kernel
theorem dL_areRanked_147 : decode cL_areRanked 147 = .ok (.iload 10, 2) := by decide +kernel
theorem dL_areRanked_149 : decode cL_areRanked 149 = .ok (.ifCond .eq 139, 3) := by decide +kernel
theorem dL_areRanked_152 : decode cL_areRanked 152 = .ok (.aload_n 0, 1) := by decide +kernel
theorem dL_areRanked_153 : decode cL_areRanked 153 = .ok (.iload 5, 2) := by decide +kernel
theorem dL_areRanked_155 : decode cL_areRanked 155 = .ok (.iload 13, 2) := by decide +kernel
theorem dL_areRanked_157 : decode cL_areRanked 157 = .ok (.invokevirtual 60, 3) := by decide +kernel
theorem dL_areRanked_160 : decode cL_areRanked 160 = .ok (.istore 14, 2) := by decide +kernel
theorem dL_areRanked_162 : decode cL_areRanked 162 = .ok (.iload 14, 2) := by decide +kernel
theorem dL_areRanked_164 : decode cL_areRanked 164 = .ok (.ifCond .lt 30, 3) := by decide +kernel
theorem dL_areRanked_167 : decode cL_areRanked 167 = .ok (.iload 14, 2) := by decide +kernel
theorem dL_areRanked_169 : decode cL_areRanked 169 = .ok (.aload 4, 2) := by decide +kernel
theorem dL_areRanked_171 : decode cL_areRanked 171 = .ok (.bipush 15, 2) := by decide +kernel
theorem dL_areRanked_173 : decode cL_areRanked 173 = .ok (.iaload, 1) := by decide +kernel
theorem dL_areRanked_174 : decode cL_areRanked 174 = .ok (.if_icmp .ge 20, 3) := by decide +kernel
theorem dL_areRanked_177 : decode cL_areRanked 177 = .ok (.aload_n 1, 1) := by decide +kernel
theorem dL_areRanked_178 : decode cL_areRanked 178 = .ok (.bipush 10, 2) := by decide +kernel
theorem dL_areRanked_180 : decode cL_areRanked 180 = .ok (.iload 14, 2) := by decide +kernel
theorem dL_areRanked_182 : decode cL_areRanked 182 = .ok (.imul, 1) := by decide +kernel
theorem dL_areRanked_183 : decode cL_areRanked 183 = .ok (.bipush 7, 2) := by decide +kernel
theorem dL_areRanked_185 : decode cL_areRanked 185 = .ok (.iadd, 1) := by decide +kernel
theorem dL_areRanked_186 : decode cL_areRanked 186 = .ok (.iaload, 1) := by decide +kernel
theorem dL_areRanked_187 : decode cL_areRanked 187 = .ok (.ifCond .le 7, 3) := by decide +kernel
theorem dL_areRanked_190 : decode cL_areRanked 190 = .ok (.iconst 1, 1) := by decide +kernel
theorem dL_areRanked_191 : decode cL_areRanked 191 = .ok (.goto 4, 3) := by decide +kernel
theorem dL_areRanked_194 : decode cL_areRanked 194 = .ok (.iconst 0, 1) := by decide +kernel
theorem dL_areRanked_195 : decode cL_areRanked 195 = .ok (.istore 10, 2) := by decide +kernel
theorem dL_areRanked_197 : decode cL_areRanked 197 = .ok (.iload 10, 2) := by decide +kernel
theorem dL_areRanked_199 : decode cL_areRanked 199 = .ok (.ifCond .ne 7, 3) := by decide +kernel
theorem dL_areRanked_202 : decode cL_areRanked 202 = .ok (.iconst 0, 1) := by decide +kernel
theorem dL_areRanked_203 : decode cL_areRanked 203 = .ok (.goto 36, 3) := by decide +kernel
theorem dL_areRanked_206 : decode cL_areRanked 206 = .ok (.iload 5, 2) := by decide +kernel
theorem dL_areRanked_208 : decode cL_areRanked 208 = .ok (.ifCond .ne 14, 3) := by decide +kernel
theorem dL_areRanked_211 : decode cL_areRanked 211 = .ok (.aload_n 1, 1) := by decide +kernel
theorem dL_areRanked_212 : decode cL_areRanked 212 = .ok (.aload_n 2, 1) := by decide +kernel
theorem dL_areRanked_213 : decode cL_areRanked 213 = .ok (.aload_n 3, 1) := by decide +kernel
theorem dL_areRanked_214 : decode cL_areRanked 214 = .ok (.iload 14, 2) := by decide +kernel
theorem dL_areRanked_216 : decode cL_areRanked 216 = .ok (.invokestatic 20, 3) := by decide +kernel
theorem dL_areRanked_219 : decode cL_areRanked 219 = .ok (.goto 20, 3) := by decide +kernel
theorem dL_areRanked_222 : decode cL_areRanked 222 = .ok (.aload_n 1, 1) := by decide +kernel
theorem dL_areRanked_223 : decode cL_areRanked 223 = .ok (.aload_n 2, 1) := by decide +kernel
theorem dL_areRanked_224 : decode cL_areRanked 224 = .ok (.aload_n 3, 1) := by decide +kernel
theorem dL_areRanked_225 : decode cL_areRanked 225 = .ok (.iload 14, 2) := by decide +kernel
theorem dL_areRanked_227 : decode cL_areRanked 227 = .ok (.invokestatic 20, 3) := by decide +kernel
theorem dL_areRanked_230 : decode cL_areRanked 230 = .ok (.aload 4, 2) := by decide +kernel
theorem dL_areRanked_232 : decode cL_areRanked 232 = .ok (.iconst 1, 1) := by decide +kernel
theorem dL_areRanked_233 : decode cL_areRanked 233 = .ok (.iaload, 1) := by decide +kernel
theorem dL_areRanked_234 : decode cL_areRanked 234 = .ok (.isub, 1) := by decide +kernel
theorem dL_areRanked_235 : decode cL_areRanked 235 = .ok (.invokestatic 36, 3) := by decide +kernel
theorem dL_areRanked_238 : decode cL_areRanked 238 = .ok (.ineg, 1) := by decide +kernel
theorem dL_areRanked_239 : decode cL_areRanked 239 = .ok (.istore 15, 2) := by decide +kernel
theorem dL_areRanked_241 : decode cL_areRanked 241 = .ok (.iload 10, 2) := by decide +kernel
theorem dL_areRanked_243 : decode cL_areRanked 243 = .ok (.ifCond .eq 28, 3) := by decide +kernel
theorem dL_areRanked_246 : decode cL_areRanked 246 = .ok (.iload 15, 2) := by decide +kernel
theorem dL_areRanked_248 : decode cL_areRanked 248 = .ok (.iload 11, 2) := by decide +kernel
theorem dL_areRanked_250 : decode cL_areRanked 250 = .ok (.if_icmp .gt 17, 3) := by decide +kernel
theorem dL_areRanked_253 : decode cL_areRanked 253 = .ok (.iload 15, 2) := by decide +kernel
theorem dL_areRanked_255 : decode cL_areRanked 255 = .ok (.iload 11, 2) := by decide +kernel
theorem dL_areRanked_257 : decode cL_areRanked 257 = .ok (.if_icmp .ne 14, 3) := by decide +kernel
theorem dL_areRanked_260 : decode cL_areRanked 260 = .ok (.iload 14, 2) := by decide +kernel
theorem dL_areRanked_262 : decode cL_areRanked 262 = .ok (.iload 12, 2) := by decide +kernel
theorem dL_areRanked_264 : decode cL_areRanked 264 = .ok (.if_icmp .le 7, 3) := by decide +kernel
theorem dL_areRanked_267 : decode cL_areRanked 267 = .ok (.iconst 1, 1) := by decide +kernel
theorem dL_areRanked_268 : decode cL_areRanked 268 = .ok (.goto 4, 3) := by decide +kernel
theorem dL_areRanked_271 : decode cL_areRanked 271 = .ok (.iconst 0, 1) := by decide +kernel
theorem dL_areRanked_272 : decode cL_areRanked 272 = .ok (.istore 10, 2) := by decide +kernel
theorem dL_areRanked_274 : decode cL_areRanked 274 = .ok (.iload 15, 2) := by decide +kernel
theorem dL_areRanked_276 : decode cL_areRanked 276 = .ok (.istore 11, 2) := by decide +kernel
theorem dL_areRanked_278 : decode cL_areRanked 278 = .ok (.iload 14, 2) := by decide +kernel
theorem dL_areRanked_280 : decode cL_areRanked 280 = .ok (.istore 12, 2) := by decide +kernel
theorem dL_areRanked_282 : decode cL_areRanked 282 = .ok (.iinc 13 1, 3) := by decide +kernel
theorem dL_areRanked_285 : decode cL_areRanked 285 = .ok (.goto (-145), 3) := by decide +kernel
theorem dL_areRanked_288 : decode cL_areRanked 288 = .ok (.iload 10, 2) := by decide +kernel
theorem dL_areRanked_290 : decode cL_areRanked 290 = .ok (.ireturn, 1) := by decide +kernel
theorem dL_copy_0 : decode cL_copy 0 = .ok (.iconst 0, 1) := by decide +kernel
theorem dL_copy_1 : decode cL_copy 1 = .ok (.istore_n 2, 1) := by decide +kernel
theorem dL_copy_2 : decode cL_copy 2 = .ok (.iload_n 2, 1) := by decide +kernel
theorem dL_copy_3 : decode cL_copy 3 = .ok (.aload_n 0, 1) := by decide +kernel
theorem dL_copy_4 : decode cL_copy 4 = .ok (.arraylength, 1) := by decide +kernel
theorem dL_copy_5 : decode cL_copy 5 = .ok (.if_icmp .ge 15, 3) := by decide +kernel
theorem dL_copy_8 : decode cL_copy 8 = .ok (.aload_n 1, 1) := by decide +kernel
theorem dL_copy_9 : decode cL_copy 9 = .ok (.iload_n 2, 1) := by decide +kernel
theorem dL_copy_10 : decode cL_copy 10 = .ok (.aload_n 0, 1) := by decide +kernel
theorem dL_copy_11 : decode cL_copy 11 = .ok (.iload_n 2, 1) := by decide +kernel
theorem dL_copy_12 : decode cL_copy 12 = .ok (.iaload, 1) := by decide +kernel
theorem dL_copy_13 : decode cL_copy 13 = .ok (.iastore, 1) := by decide +kernel
theorem dL_copy_14 : decode cL_copy 14 = .ok (.iinc 2 1, 3) := by decide +kernel
theorem dL_copy_17 : decode cL_copy 17 = .ok (.goto (-15), 3) := by decide +kernel
theorem dL_copy_20 : decode cL_copy 20 = .ok (.return_, 1) := by decide +kernel
theorem dL_would_0 : decode cL_would 0 = .ok (.bipush 60, 2) := by decide +kernel
theorem dL_would_2 : decode cL_would 2 = .ok (.newarray .int, 2) := by decide +kernel
theorem dL_would_4 : decode cL_would 4 = .ok (.astore 6, 2) := by decide +kernel
theorem dL_would_6 : decode cL_would 6 = .ok (.bipush 36, 2) := by decide +kernel
theorem dL_would_8 : decode cL_would 8 = .ok (.newarray .int, 2) := by decide +kernel
theorem dL_would_10 : decode cL_would 10 = .ok (.astore 7, 2) := by decide +kernel
theorem dL_would_12 : decode cL_would 12 = .ok (.bipush 36, 2) := by decide +kernel
theorem dL_would_14 : decode cL_would 14 = .ok (.newarray .int, 2) := by decide +kernel
theorem dL_would_16 : decode cL_would 16 = .ok (.astore 8, 2) := by decide +kernel
theorem dL_would_18 : decode cL_would 18 = .ok (.bipush 16, 2) := by decide +kernel
theorem dL_would_20 : decode cL_would 20 = .ok (.newarray .int, 2) := by decide +kernel
theorem dL_would_22 : decode cL_would 22 = .ok (.astore 9, 2) := by decide +kernel
theorem dL_would_24 : decode cL_would 24 = .ok (.aload_n 1, 1) := by decide +kernel
theorem dL_would_25 : decode cL_would 25 = .ok (.aload 6, 2) := by decide +kernel
theorem dL_would_27 : decode cL_would 27 = .ok (.invokestatic 67, 3) := by decide +kernel
theorem dL_would_30 : decode cL_would 30 = .ok (.aload_n 2, 1) := by decide +kernel
theorem dL_would_31 : decode cL_would 31 = .ok (.aload 7, 2) := by decide +kernel
theorem dL_would_33 : decode cL_would 33 = .ok (.invokestatic 67, 3) := by decide +kernel
theorem dL_would_36 : decode cL_would 36 = .ok (.aload_n 3, 1) := by decide +kernel
theorem dL_would_37 : decode cL_would 37 = .ok (.aload 8, 2) := by decide +kernel
theorem dL_would_39 : decode cL_would 39 = .ok (.invokestatic 67, 3) := by decide +kernel
theorem dL_would_42 : decode cL_would 42 = .ok (.aload 4, 2) := by decide +kernel
theorem dL_would_44 : decode cL_would 44 = .ok (.aload 9, 2) := by decide +kernel
theorem dL_would_46 : decode cL_would 46 = .ok (.invokestatic 67, 3) := by decide +kernel
theorem dL_would_49 : decode cL_would 49 = .ok (.iconst 0, 1) := by decide +kernel
theorem dL_would_50 : decode cL_would 50 = .ok (.istore 10, 2) := by decide +kernel
theorem dL_would_52 : decode cL_would 52 = .ok (.iload 10, 2) := by decide +kernel
theorem dL_would_54 : decode cL_would 54 = .ok (.iload 5, 2) := by decide +kernel
theorem dL_would_56 : decode cL_would 56 = .ok (.if_icmp .ge 26, 3) := by decide +kernel
theorem dL_would_59 : decode cL_would 59 = .ok (.aload 6, 2) := by decide +kernel
theorem dL_would_61 : decode cL_would 61 = .ok (.aload 7, 2) := by decide +kernel
theorem dL_would_63 : decode cL_would 63 = .ok (.aload 8, 2) := by decide +kernel
theorem dL_would_65 : decode cL_would 65 = .ok (.aload 9, 2) := by decide +kernel
theorem dL_would_67 : decode cL_would 67 = .ok (.aload 9, 2) := by decide +kernel
theorem dL_would_69 : decode cL_would 69 = .ok (.iconst 1, 1) := by decide +kernel
theorem dL_would_70 : decode cL_would 70 = .ok (.iaload, 1) := by decide +kernel
theorem dL_would_71 : decode cL_would 71 = .ok (.invokestatic 71, 3) := by decide +kernel
theorem dL_would_74 : decode cL_would 74 = .ok (.istore 11, 2) := by decide +kernel
theorem dL_would_76 : decode cL_would 76 = .ok (.iinc 10 1, 3) := by decide +kernel
theorem dL_would_79 : decode cL_would 79 = .ok (.goto (-27), 3) := by decide +kernel
theorem dL_would_82 : decode cL_would 82 = .ok (.iconst 0, 1) := by decide +kernel
theorem dL_would_83 : decode cL_would 83 = .ok (.istore 10, 2) := by decide +kernel
theorem dL_would_85 : decode cL_would 85 = .ok (.iconst 0, 1) := by decide +kernel
theorem dL_would_86 : decode cL_would 86 = .ok (.istore 11, 2) := by decide +kernel
theorem dL_would_88 : decode cL_would 88 = .ok (.iconst 0, 1) := by decide +kernel
theorem dL_would_89 : decode cL_would 89 = .ok (.istore 12, 2) := by decide +kernel
theorem dL_would_91 : decode cL_would 91 = .ok (.iload 12, 2) := by decide +kernel
theorem dL_would_93 : decode cL_would 93 = .ok (.aload 4, 2) := by decide +kernel
theorem dL_would_95 : decode cL_would 95 = .ok (.bipush 15, 2) := by decide +kernel
theorem dL_would_97 : decode cL_would 97 = .ok (.iaload, 1) := by decide +kernel
theorem dL_would_98 : decode cL_would 98 = .ok (.if_icmp .ge 75, 3) := by decide +kernel
theorem dL_would_101 : decode cL_would 101 = .ok (.iload 10, 2) := by decide +kernel
theorem dL_would_103 : decode cL_would 103 = .ok (.aload 6, 2) := by decide +kernel
theorem dL_would_105 : decode cL_would 105 = .ok (.bipush 10, 2) := by decide +kernel
theorem dL_would_107 : decode cL_would 107 = .ok (.iload 12, 2) := by decide +kernel
theorem dL_would_109 : decode cL_would 109 = .ok (.imul, 1) := by decide +kernel
theorem dL_would_110 : decode cL_would 110 = .ok (.bipush 6, 2) := by decide +kernel
theorem dL_would_112 : decode cL_would 112 = .ok (.iadd, 1) := by decide +kernel
theorem dL_would_113 : decode cL_would 113 = .ok (.iaload, 1) := by decide +kernel
theorem dL_would_114 : decode cL_would 114 = .ok (.iload 12, 2) := by decide +kernel
theorem dL_would_116 : decode cL_would 116 = .ok (.ishl, 1) := by decide +kernel
theorem dL_would_117 : decode cL_would 117 = .ok (.ior, 1) := by decide +kernel
theorem dL_would_118 : decode cL_would 118 = .ok (.istore 10, 2) := by decide +kernel
theorem dL_would_120 : decode cL_would 120 = .ok (.aload 6, 2) := by decide +kernel
theorem dL_would_122 : decode cL_would 122 = .ok (.bipush 10, 2) := by decide +kernel
theorem dL_would_124 : decode cL_would 124 = .ok (.iload 12, 2) := by decide +kernel
theorem dL_would_126 : decode cL_would 126 = .ok (.imul, 1) := by decide +kernel
theorem dL_would_127 : decode cL_would 127 = .ok (.iconst 4, 1) := by decide +kernel
theorem dL_would_128 : decode cL_would 128 = .ok (.iadd, 1) := by decide +kernel
theorem dL_would_129 : decode cL_would 129 = .ok (.iaload, 1) := by decide +kernel
theorem dL_would_130 : decode cL_would 130 = .ok (.aload 6, 2) := by decide +kernel
theorem dL_would_132 : decode cL_would 132 = .ok (.bipush 10, 2) := by decide +kernel
theorem dL_would_134 : decode cL_would 134 = .ok (.iload 12, 2) := by decide +kernel
theorem dL_would_136 : decode cL_would 136 = .ok (.imul, 1) := by decide +kernel
theorem dL_would_137 : decode cL_would 137 = .ok (.iconst 2, 1) := by decide +kernel
theorem dL_would_138 : decode cL_would 138 = .ok (.iadd, 1) := by decide +kernel
theorem dL_would_139 : decode cL_would 139 = .ok (.iaload, 1) := by decide +kernel
theorem dL_would_140 : decode cL_would 140 = .ok (.isub, 1) := by decide +kernel
theorem dL_would_141 : decode cL_would 141 = .ok (.aload 4, 2) := by decide +kernel
theorem dL_would_143 : decode cL_would 143 = .ok (.iconst 1, 1) := by decide +kernel
theorem dL_would_144 : decode cL_would 144 = .ok (.iaload, 1) := by decide +kernel
theorem dL_would_145 : decode cL_would 145 = .ok (.isub, 1) := by decide +kernel
theorem dL_would_146 : decode cL_would 146 = .ok (.invokestatic 36, 3) := by decide +kernel
theorem dL_would_149 : decode cL_would 149 = .ok (.istore 13, 2) := by decide +kernel
theorem dL_would_151 : decode cL_would 151 = .ok (.iload 13, 2) := by decide +kernel
theorem dL_would_153 : decode cL_would 153 = .ok (.iload 11, 2) := by decide +kernel
theorem dL_would_155 : decode cL_would 155 = .ok (.if_icmp .le 8, 3) := by decide +kernel
theorem dL_would_158 : decode cL_would 158 = .ok (.iload 13, 2) := by decide +kernel
theorem dL_would_160 : decode cL_would 160 = .ok (.goto 5, 3) := by decide +kernel
theorem dL_would_163 : decode cL_would 163 = .ok (.iload 11, 2) := by decide +kernel
theorem dL_would_165 : decode cL_would 165 = .ok (.istore 11, 2) := by decide +kernel
theorem dL_would_167 : decode cL_would 167 = .ok (.iinc 12 1, 3) := by decide +kernel
theorem dL_would_170 : decode cL_would 170 = .ok (.goto (-79), 3) := by decide +kernel
theorem dL_would_173 : decode cL_would 173 = .ok (.aload_n 0, 1) := by decide +kernel
theorem dL_would_174 : decode cL_would 174 = .ok (.iload 5, 2) := by decide +kernel
theorem dL_would_176 : decode cL_would 176 = .ok (.iconst 0, 1) := by decide +kernel
theorem dL_would_177 : decode cL_would 177 = .ok (.invokevirtual 74, 3) := by decide +kernel
theorem dL_would_180 : decode cL_would 180 = .ok (.aload 6, 2) := by decide +kernel
theorem dL_would_182 : decode cL_would 182 = .ok (.aload 7, 2) := by decide +kernel
theorem dL_would_184 : decode cL_would 184 = .ok (.aload 8, 2) := by decide +kernel
theorem dL_would_186 : decode cL_would 186 = .ok (.aload 9, 2) := by decide +kernel
theorem dL_would_188 : decode cL_would 188 = .ok (.invokestatic 24, 3) := by decide +kernel
theorem dL_would_191 : decode cL_would 191 = .ok (.if_icmp .ne 52, 3) := by decide +kernel
theorem dL_would_194 : decode cL_would 194 = .ok (.aload_n 0, 1) := by decide +kernel
theorem dL_would_195 : decode cL_would 195 = .ok (.iload 5, 2) := by decide +kernel
theorem dL_would_197 : decode cL_would 197 = .ok (.iconst 1, 1) := by decide +kernel
theorem dL_would_198 : decode cL_would 198 = .ok (.invokevirtual 74, 3) := by decide +kernel
theorem dL_would_201 : decode cL_would 201 = .ok (.iload 10, 2) := by decide +kernel
theorem dL_would_203 : decode cL_would 203 = .ok (.if_icmp .ne 40, 3) := by decide +kernel
theorem dL_would_206 : decode cL_would 206 = .ok (.aload_n 0, 1) := by decide +kernel
theorem dL_would_207 : decode cL_would 207 = .ok (.iload 5, 2) := by decide +kernel
theorem dL_would_209 : decode cL_would 209 = .ok (.iconst 2, 1) := by decide +kernel
theorem dL_would_210 : decode cL_would 210 = .ok (.invokevirtual 74, 3) := by decide +kernel
theorem dL_would_213 : decode cL_would 213 = .ok (.aload 9, 2) := by decide +kernel
theorem dL_would_215 : decode cL_would 215 = .ok (.bipush 13, 2) := by decide +kernel
theorem dL_would_217 : decode cL_would 217 = .ok (.iaload, 1) := by decide +kernel
theorem dL_would_218 : decode cL_would 218 = .ok (.aload 4, 2) := by decide +kernel
theorem dL_would_220 : decode cL_would 220 = .ok (.bipush 13, 2) := by decide +kernel
theorem dL_would_222 : decode cL_would 222 = .ok (.iaload, 1) := by decide +kernel
theorem dL_would_223 : decode cL_would 223 = .ok (.isub, 1) := by decide +kernel
theorem dL_would_224 : decode cL_would 224 = .ok (.if_icmp .ne 19, 3) := by decide +kernel
theorem dL_would_227 : decode cL_would 227 = .ok (.aload_n 0, 1) := by decide +kernel
theorem dL_would_228 : decode cL_would 228 = .ok (.iload 5, 2) := by decide +kernel
theorem dL_would_230 : decode cL_would 230 = .ok (.iconst 3, 1) := by decide +kernel
theorem dL_would_231 : decode cL_would 231 = .ok (.invokevirtual 74, 3) := by decide +kernel
theorem dL_would_234 : decode cL_would 234 = .ok (.iload 11, 2) := by decide +kernel
theorem dL_would_236 : decode cL_would 236 = .ok (.if_icmp .ne 7, 3) := by decide +kernel
theorem dL_would_239 : decode cL_would 239 = .ok (.iconst 1, 1) := by decide +kernel
theorem dL_would_240 : decode cL_would 240 = .ok (.goto 4, 3) := by decide +kernel
theorem dL_would_243 : decode cL_would 243 = .ok (.iconst 0, 1) := by decide +kernel
theorem dL_would_244 : decode cL_would 244 = .ok (.ireturn, 1) := by decide +kernel
theorem dL_wouldOne_0 : decode cL_wouldOne 0 = .ok (.ldc 11, 2) := by decide +kernel
theorem dL_wouldOne_2 : decode cL_wouldOne 2 = .ok (.istore 6, 2) := by decide +kernel
theorem dL_wouldOne_4 : decode cL_wouldOne 4 = .ok (.iconst 0, 1) := by decide +kernel
theorem dL_wouldOne_5 : decode cL_wouldOne 5 = .ok (.istore 7, 2) := by decide +kernel
theorem dL_wouldOne_7 : decode cL_wouldOne 7 = .ok (.iconst 1, 1) := by decide +kernel
theorem dL_wouldOne_8 : decode cL_wouldOne 8 = .ok (.istore 8, 2) := by decide +kernel
theorem dL_wouldOne_10 : decode cL_wouldOne 10 = .ok (.bipush 9, 2) := by decide +kernel
theorem dL_wouldOne_12 : decode cL_wouldOne 12 = .ok (.istore 9, 2) := by decide +kernel
theorem dL_wouldOne_14 : decode cL_wouldOne 14 = .ok (.iload 9, 2) := by decide +kernel
theorem dL_wouldOne_16 : decode cL_wouldOne 16 = .ok (.ifCond .le 104, 3) := by decide +kernel
theorem dL_wouldOne_19 : decode cL_wouldOne 19 = .ok (.aload_n 1, 1) := by decide +kernel
theorem dL_wouldOne_20 : decode cL_wouldOne 20 = .ok (.aload_n 2, 1) := by decide +kernel
theorem dL_wouldOne_21 : decode cL_wouldOne 21 = .ok (.aload_n 3, 1) := by decide +kernel
theorem dL_wouldOne_22 : decode cL_wouldOne 22 = .ok (.iload 5, 2) := by decide +kernel
theorem dL_wouldOne_24 : decode cL_wouldOne 24 = .ok (.iload 9, 2) := by decide +kernel
theorem dL_wouldOne_26 : decode cL_wouldOne 26 = .ok (.invokestatic 12, 3) := by decide +kernel
theorem dL_wouldOne_29 : decode cL_wouldOne 29 = .ok (.istore 10, 2) := by decide +kernel
theorem dL_wouldOne_31 : decode cL_wouldOne 31 = .ok (.iload 8, 2) := by decide +kernel
theorem dL_wouldOne_33 : decode cL_wouldOne 33 = .ok (.ifCond .eq 20, 3) := by decide +kernel
theorem dL_wouldOne_36 : decode cL_wouldOne 36 = .ok (.aload_n 0, 1) := by decide +kernel
theorem dL_wouldOne_37 : decode cL_wouldOne 37 = .ok (.iload 5, 2) := by decide +kernel
theorem dL_wouldOne_39 : decode cL_wouldOne 39 = .ok (.iload 9, 2) := by decide +kernel
theorem dL_wouldOne_41 : decode cL_wouldOne 41 = .ok (.invokevirtual 77, 3) := by decide +kernel
theorem dL_wouldOne_44 : decode cL_wouldOne 44 = .ok (.iload 10, 2) := by decide +kernel
theorem dL_wouldOne_46 : decode cL_wouldOne 46 = .ok (.if_icmp .ne 7, 3) := by decide +kernel
theorem dL_wouldOne_49 : decode cL_wouldOne 49 = .ok (.iconst 1, 1) := by decide +kernel
theorem dL_wouldOne_50 : decode cL_wouldOne 50 = .ok (.goto 4, 3) := by decide +kernel
theorem dL_wouldOne_53 : decode cL_wouldOne 53 = .ok (.iconst 0, 1) := by decide +kernel
theorem dL_wouldOne_54 : decode cL_wouldOne 54 = .ok (.istore 8, 2) := by decide +kernel
theorem dL_wouldOne_56 : decode cL_wouldOne 56 = .ok (.iload 10, 2) := by decide +kernel
theorem dL_wouldOne_58 : decode cL_wouldOne 58 = .ok (.aload 4, 2) := by decide +kernel
theorem dL_wouldOne_60 : decode cL_wouldOne 60 = .ok (.iconst 1, 1) := by decide +kernel
theorem dL_wouldOne_61 : decode cL_wouldOne 61 = .ok (.iaload, 1) := by decide +kernel
theorem dL_wouldOne_62 : decode cL_wouldOne 62 = .ok (.isub, 1) := by decide +kernel
theorem dL_wouldOne_63 : decode cL_wouldOne 63 = .ok (.invokestatic 36, 3) := by decide +kernel
theorem dL_wouldOne_66 : decode cL_wouldOne 66 = .ok (.istore 11, 2) := by decide +kernel
theorem dL_wouldOne_68 : decode cL_wouldOne 68 = .ok (.iload 10, 2) := by decide +kernel
theorem dL_wouldOne_70 : decode cL_wouldOne 70 = .ok (.ldc 11, 2) := by decide +kernel
theorem dL_wouldOne_72 : decode cL_wouldOne 72 = .ok (.if_icmp .eq 22, 3) := by decide +kernel
theorem dL_wouldOne_75 : decode cL_wouldOne 75 = .ok (.iload 6, 2) := by decide +kernel
theorem dL_wouldOne_77 : decode cL_wouldOne 77 = .ok (.ldc 11, 2) := by decide +kernel
theorem dL_wouldOne_79 : decode cL_wouldOne 79 = .ok (.if_icmp .eq 10, 3) := by decide +kernel
theorem dL_wouldOne_82 : decode cL_wouldOne 82 = .ok (.iload 11, 2) := by decide +kernel
theorem dL_wouldOne_84 : decode cL_wouldOne 84 = .ok (.iload 7, 2) := by decide +kernel
theorem dL_wouldOne_86 : decode cL_wouldOne 86 = .ok (.if_icmp .gt 8, 3) := by decide +kernel
theorem dL_wouldOne_89 : decode cL_wouldOne 89 = .ok (.iload 9, 2) := by decide +kernel
theorem dL_wouldOne_91 : decode cL_wouldOne 91 = .ok (.goto 5, 3) := by decide +kernel
theorem dL_wouldOne_94 : decode cL_wouldOne 94 = .ok (.iload 6, 2) := by decide +kernel
theorem dL_wouldOne_96 : decode cL_wouldOne 96 = .ok (.istore 6, 2) := by decide +kernel
theorem dL_wouldOne_98 : decode cL_wouldOne 98 = .ok (.iload 6, 2) := by decide +kernel
theorem dL_wouldOne_100 : decode cL_wouldOne 100 = .ok (.iload 9, 2) := by decide +kernel
theorem dL_wouldOne_102 : decode cL_wouldOne 102 = .ok (.if_icmp .ne 8, 3) := by decide +kernel
theorem dL_wouldOne_105 : decode cL_wouldOne 105 = .ok (.iload 11, 2) := by decide +kernel
theorem dL_wouldOne_107 : decode cL_wouldOne 107 = .ok (.goto 5, 3) := by decide +kernel
theorem dL_wouldOne_110 : decode cL_wouldOne 110 = .ok (.iload 7, 2) := by decide +kernel
theorem dL_wouldOne_112 : decode cL_wouldOne 112 = .ok (.istore 7, 2) := by decide +kernel
theorem dL_wouldOne_114 : decode cL_wouldOne 114 = .ok (.iinc 9 (-1), 3) := by decide +kernel
theorem dL_wouldOne_117 : decode cL_wouldOne 117 = .ok (.goto (-103), 3) := by decide +kernel
theorem dL_wouldOne_120 : decode cL_wouldOne 120 = .ok (.bipush 10, 2) := by decide +kernel
theorem dL_wouldOne_122 : decode cL_wouldOne 122 = .ok (.iload 5, 2) := by decide +kernel
theorem dL_wouldOne_124 : decode cL_wouldOne 124 = .ok (.imul, 1) := by decide +kernel
theorem dL_wouldOne_125 : decode cL_wouldOne 125 = .ok (.istore 9, 2) := by decide +kernel
theorem dL_wouldOne_127 : decode cL_wouldOne 127 = .ok (.aload_n 1, 1) := by decide +kernel
theorem dL_wouldOne_128 : decode cL_wouldOne 128 = .ok (.iload 9, 2) := by decide +kernel
theorem dL_wouldOne_130 : decode cL_wouldOne 130 = .ok (.iconst 4, 1) := by decide +kernel
theorem dL_wouldOne_131 : decode cL_wouldOne 131 = .ok (.iadd, 1) := by decide +kernel
theorem dL_wouldOne_132 : decode cL_wouldOne 132 = .ok (.iaload, 1) := by decide +kernel
theorem dL_wouldOne_133 : decode cL_wouldOne 133 = .ok (.istore 10, 2) := by decide +kernel
theorem dL_wouldOne_135 : decode cL_wouldOne 135 = .ok (.iconst 0, 1) := by decide +kernel
theorem dL_wouldOne_136 : decode cL_wouldOne 136 = .ok (.istore 11, 2) := by decide +kernel
theorem dL_wouldOne_138 : decode cL_wouldOne 138 = .ok (.aload 4, 2) := by decide +kernel
theorem dL_wouldOne_140 : decode cL_wouldOne 140 = .ok (.iconst 1, 1) := by decide +kernel
theorem dL_wouldOne_141 : decode cL_wouldOne 141 = .ok (.iaload, 1) := by decide +kernel
theorem dL_wouldOne_142 : decode cL_wouldOne 142 = .ok (.aload_n 1, 1) := by decide +kernel
theorem dL_wouldOne_143 : decode cL_wouldOne 143 = .ok (.iload 9, 2) := by decide +kernel
theorem dL_wouldOne_145 : decode cL_wouldOne 145 = .ok (.iconst 2, 1) := by decide +kernel
theorem dL_wouldOne_146 : decode cL_wouldOne 146 = .ok (.iadd, 1) := by decide +kernel
theorem dL_wouldOne_147 : decode cL_wouldOne 147 = .ok (.iaload, 1) := by decide +kernel
theorem dL_wouldOne_148 : decode cL_wouldOne 148 = .ok (.iadd, 1) := by decide +kernel
theorem dL_wouldOne_149 : decode cL_wouldOne 149 = .ok (.iload 10, 2) := by decide +kernel
theorem dL_wouldOne_151 : decode cL_wouldOne 151 = .ok (.isub, 1) := by decide +kernel
theorem dL_wouldOne_152 : decode cL_wouldOne 152 = .ok (.invokestatic 36, 3) := by decide +kernel
theorem dL_wouldOne_155 : decode cL_wouldOne 155 = .ok (.aload_n 1, 1) := by decide +kernel
theorem dL_wouldOne_156 : decode cL_wouldOne 156 = .ok (.iload 9, 2) := by decide +kernel
theorem dL_wouldOne_158 : decode cL_wouldOne 158 = .ok (.iconst 1, 1) := by decide +kernel
theorem dL_wouldOne_159 : decode cL_wouldOne 159 = .ok (.iadd, 1) := by decide +kernel
theorem dL_wouldOne_160 : decode cL_wouldOne 160 = .ok (.iaload, 1) := by decide +kernel
theorem dL_wouldOne_161 : decode cL_wouldOne 161 = .ok (.if_icmp .lt 35, 3) := by decide +kernel
theorem dL_wouldOne_164 : decode cL_wouldOne 164 = .ok (.iload 10, 2) := by decide +kernel
theorem dL_wouldOne_166 : decode cL_wouldOne 166 = .ok (.aload 4, 2) := by decide +kernel
theorem dL_wouldOne_168 : decode cL_wouldOne 168 = .ok (.iconst 1, 1) := by decide +kernel
theorem dL_wouldOne_169 : decode cL_wouldOne 169 = .ok (.iaload, 1) := by decide +kernel
theorem dL_wouldOne_170 : decode cL_wouldOne 170 = .ok (.aload_n 1, 1) := by decide +kernel
theorem dL_wouldOne_171 : decode cL_wouldOne 171 = .ok (.iload 9, 2) := by decide +kernel
theorem dL_wouldOne_173 : decode cL_wouldOne 173 = .ok (.iconst 2, 1) := by decide +kernel
theorem dL_wouldOne_174 : decode cL_wouldOne 174 = .ok (.iadd, 1) := by decide +kernel
theorem dL_wouldOne_175 : decode cL_wouldOne 175 = .ok (.iaload, 1) := by decide +kernel
theorem dL_wouldOne_176 : decode cL_wouldOne 176 = .ok (.iadd, 1) := by decide +kernel
theorem dL_wouldOne_177 : decode cL_wouldOne 177 = .ok (.iload 10, 2) := by decide +kernel
theorem dL_wouldOne_179 : decode cL_wouldOne 179 = .ok (.isub, 1) := by decide +kernel
theorem dL_wouldOne_180 : decode cL_wouldOne 180 = .ok (.aload_n 1, 1) := by decide +kernel
theorem dL_wouldOne_181 : decode cL_wouldOne 181 = .ok (.iload 9, 2) := by decide +kernel
theorem dL_wouldOne_183 : decode cL_wouldOne 183 = .ok (.iconst 1, 1) := by decide +kernel
theorem dL_wouldOne_184 : decode cL_wouldOne 184 = .ok (.iadd, 1) := by decide +kernel
theorem dL_wouldOne_185 : decode cL_wouldOne 185 = .ok (.iaload, 1) := by decide +kernel
theorem dL_wouldOne_186 : decode cL_wouldOne 186 = .ok (.idiv, 1) := by decide +kernel
theorem dL_wouldOne_187 : decode cL_wouldOne 187 = .ok (.iadd, 1) := by decide +kernel
theorem dL_wouldOne_188 : decode cL_wouldOne 188 = .ok (.istore 10, 2) := by decide +kernel
theorem dL_wouldOne_190 : decode cL_wouldOne 190 = .ok (.iinc 11 1, 3) := by decide +kernel
theorem dL_wouldOne_193 : decode cL_wouldOne 193 = .ok (.goto (-55), 3) := by decide +kernel
theorem dL_wouldOne_196 : decode cL_wouldOne 196 = .ok (.iload 8, 2) := by decide +kernel
theorem dL_wouldOne_198 : decode cL_wouldOne 198 = .ok (.ifCond .eq 29, 3) := by decide +kernel
theorem dL_wouldOne_201 : decode cL_wouldOne 201 = .ok (.aload_n 0, 1) := by decide +kernel
theorem dL_wouldOne_202 : decode cL_wouldOne 202 = .ok (.iload 5, 2) := by decide +kernel
theorem dL_wouldOne_204 : decode cL_wouldOne 204 = .ok (.invokevirtual 80, 3) := by decide +kernel
theorem dL_wouldOne_207 : decode cL_wouldOne 207 = .ok (.iload 6, 2) := by decide +kernel
theorem dL_wouldOne_209 : decode cL_wouldOne 209 = .ok (.if_icmp .ne 18, 3) := by decide +kernel
theorem dL_wouldOne_212 : decode cL_wouldOne 212 = .ok (.aload_n 0, 1) := by decide +kernel
theorem dL_wouldOne_213 : decode cL_wouldOne 213 = .ok (.iload 5, 2) := by decide +kernel
theorem dL_wouldOne_215 : decode cL_wouldOne 215 = .ok (.invokevirtual 83, 3) := by decide +kernel
theorem dL_wouldOne_218 : decode cL_wouldOne 218 = .ok (.iload 11, 2) := by decide +kernel
theorem dL_wouldOne_220 : decode cL_wouldOne 220 = .ok (.if_icmp .ne 7, 3) := by decide +kernel
theorem dL_wouldOne_223 : decode cL_wouldOne 223 = .ok (.iconst 1, 1) := by decide +kernel
theorem dL_wouldOne_224 : decode cL_wouldOne 224 = .ok (.goto 4, 3) := by decide +kernel
theorem dL_wouldOne_227 : decode cL_wouldOne 227 = .ok (.iconst 0, 1) := by decide +kernel
theorem dL_wouldOne_228 : decode cL_wouldOne 228 = .ok (.ireturn, 1) := by decide +kernel
theorem dL_adds_0 : decode cL_adds 0 = .ok (.aload_n 2, 1) := by decide +kernel
theorem dL_adds_1 : decode cL_adds 1 = .ok (.bipush 15, 2) := by decide +kernel
theorem dL_adds_3 : decode cL_adds 3 = .ok (.iaload, 1) := by decide +kernel
theorem dL_adds_4 : decode cL_adds 4 = .ok (.bipush 6, 2) := by decide +kernel
theorem dL_adds_6 : decode cL_adds 6 = .ok (.if_icmp .ne 19, 3) := by decide +kernel
theorem dL_adds_9 : decode cL_adds 9 = .ok (.aload_n 0, 1) := by decide +kernel
theorem dL_adds_10 : decode cL_adds 10 = .ok (.iconst 1, 1) := by decide +kernel
theorem dL_adds_11 : decode cL_adds 11 = .ok (.invokevirtual 40, 3) := by decide +kernel
theorem dL_adds_14 : decode cL_adds 14 = .ok (.bipush 6, 2) := by decide +kernel
theorem dL_adds_16 : decode cL_adds 16 = .ok (.if_icmp .ne 7, 3) := by decide +kernel
theorem dL_adds_19 : decode cL_adds 19 = .ok (.iconst 1, 1) := by decide +kernel
theorem dL_adds_20 : decode cL_adds 20 = .ok (.goto 4, 3) := by decide +kernel
theorem dL_adds_23 : decode cL_adds 23 = .ok (.iconst 0, 1) := by decide +kernel
theorem dL_adds_24 : decode cL_adds 24 = .ok (.ireturn, 1) := by decide +kernel
theorem dL_adds_25 : decode cL_adds 25 = .ok (.bipush 10, 2) := by decide +kernel
theorem dL_adds_27 : decode cL_adds 27 = .ok (.aload_n 2, 1) := by decide +kernel
theorem dL_adds_28 : decode cL_adds 28 = .ok (.bipush 15, 2) := by decide +kernel
theorem dL_adds_30 : decode cL_adds 30 = .ok (.iaload, 1) := by decide +kernel
theorem dL_adds_31 : decode cL_adds 31 = .ok (.imul, 1) := by decide +kernel
theorem dL_adds_32 : decode cL_adds 32 = .ok (.istore 4, 2) := by decide +kernel
theorem dL_adds_34 : decode cL_adds 34 = .ok (.iconst 0, 1) := by decide +kernel
theorem dL_adds_35 : decode cL_adds 35 = .ok (.istore 5, 2) := by decide +kernel
theorem dL_adds_37 : decode cL_adds 37 = .ok (.iload 5, 2) := by decide +kernel
theorem dL_adds_39 : decode cL_adds 39 = .ok (.bipush 10, 2) := by decide +kernel
theorem dL_adds_41 : decode cL_adds 41 = .ok (.if_icmp .ge 17, 3) := by decide +kernel
theorem dL_adds_44 : decode cL_adds 44 = .ok (.aload_n 1, 1) := by decide +kernel
theorem dL_adds_45 : decode cL_adds 45 = .ok (.iload 4, 2) := by decide +kernel
theorem dL_adds_47 : decode cL_adds 47 = .ok (.iload 5, 2) := by decide +kernel
theorem dL_adds_49 : decode cL_adds 49 = .ok (.iadd, 1) := by decide +kernel
theorem dL_adds_50 : decode cL_adds 50 = .ok (.iconst 0, 1) := by decide +kernel
theorem dL_adds_51 : decode cL_adds 51 = .ok (.iastore, 1) := by decide +kernel
theorem dL_adds_52 : decode cL_adds 52 = .ok (.iinc 5 1, 3) := by decide +kernel
theorem dL_adds_55 : decode cL_adds 55 = .ok (.goto (-18), 3) := by decide +kernel
theorem dL_adds_58 : decode cL_adds 58 = .ok (.aload_n 1, 1) := by decide +kernel
theorem dL_adds_59 : decode cL_adds 59 = .ok (.iload 4, 2) := by decide +kernel
theorem dL_adds_61 : decode cL_adds 61 = .ok (.iload_n 3, 1) := by decide +kernel
theorem dL_adds_62 : decode cL_adds 62 = .ok (.iconst 5, 1) := by decide +kernel
theorem dL_adds_63 : decode cL_adds 63 = .ok (.invokestatic 86, 3) := by decide +kernel
theorem dL_adds_66 : decode cL_adds 66 = .ok (.iconst 4, 1) := by decide +kernel
theorem dL_adds_67 : decode cL_adds 67 = .ok (.irem, 1) := by decide +kernel
theorem dL_adds_68 : decode cL_adds 68 = .ok (.iastore, 1) := by decide +kernel
theorem dL_adds_69 : decode cL_adds 69 = .ok (.aload_n 1, 1) := by decide +kernel
theorem dL_adds_70 : decode cL_adds 70 = .ok (.iload 4, 2) := by decide +kernel
theorem dL_adds_72 : decode cL_adds 72 = .ok (.iconst 1, 1) := by decide +kernel
theorem dL_adds_73 : decode cL_adds 73 = .ok (.iadd, 1) := by decide +kernel
theorem dL_adds_74 : decode cL_adds 74 = .ok (.iconst 1, 1) := by decide +kernel
theorem dL_adds_75 : decode cL_adds 75 = .ok (.iload_n 3, 1) := by decide +kernel
theorem dL_adds_76 : decode cL_adds 76 = .ok (.iconst 3, 1) := by decide +kernel
theorem dL_adds_77 : decode cL_adds 77 = .ok (.ishr, 1) := by decide +kernel
theorem dL_adds_78 : decode cL_adds 78 = .ok (.bipush 9, 2) := by decide +kernel
theorem dL_adds_80 : decode cL_adds 80 = .ok (.invokestatic 86, 3) := by decide +kernel
theorem dL_adds_83 : decode cL_adds 83 = .ok (.iadd, 1) := by decide +kernel
theorem dL_adds_84 : decode cL_adds 84 = .ok (.iastore, 1) := by decide +kernel
theorem dL_adds_85 : decode cL_adds 85 = .ok (.aload_n 1, 1) := by decide +kernel
theorem dL_adds_86 : decode cL_adds 86 = .ok (.iload 4, 2) := by decide +kernel
theorem dL_adds_88 : decode cL_adds 88 = .ok (.iconst 2, 1) := by decide +kernel
theorem dL_adds_89 : decode cL_adds 89 = .ok (.iadd, 1) := by decide +kernel
theorem dL_adds_90 : decode cL_adds 90 = .ok (.iload_n 3, 1) := by decide +kernel
theorem dL_adds_91 : decode cL_adds 91 = .ok (.bipush 7, 2) := by decide +kernel
theorem dL_adds_93 : decode cL_adds 93 = .ok (.ishr, 1) := by decide +kernel
theorem dL_adds_94 : decode cL_adds 94 = .ok (.sipush 401, 3) := by decide +kernel
theorem dL_adds_97 : decode cL_adds 97 = .ok (.invokestatic 86, 3) := by decide +kernel
theorem dL_adds_100 : decode cL_adds 100 = .ok (.sipush 200, 3) := by decide +kernel
theorem dL_adds_103 : decode cL_adds 103 = .ok (.isub, 1) := by decide +kernel
theorem dL_adds_104 : decode cL_adds 104 = .ok (.iastore, 1) := by decide +kernel
theorem dL_adds_105 : decode cL_adds 105 = .ok (.aload_n 1, 1) := by decide +kernel
theorem dL_adds_106 : decode cL_adds 106 = .ok (.iload 4, 2) := by decide +kernel
theorem dL_adds_108 : decode cL_adds 108 = .ok (.iconst 3, 1) := by decide +kernel
theorem dL_adds_109 : decode cL_adds 109 = .ok (.iadd, 1) := by decide +kernel
theorem dL_adds_110 : decode cL_adds 110 = .ok (.iconst 1, 1) := by decide +kernel
theorem dL_adds_111 : decode cL_adds 111 = .ok (.iload_n 3, 1) := by decide +kernel
theorem dL_adds_112 : decode cL_adds 112 = .ok (.bipush 12, 2) := by decide +kernel
theorem dL_adds_114 : decode cL_adds 114 = .ok (.ishr, 1) := by decide +kernel
theorem dL_adds_115 : decode cL_adds 115 = .ok (.iconst 5, 1) := by decide +kernel
theorem dL_adds_116 : decode cL_adds 116 = .ok (.invokestatic 86, 3) := by decide +kernel
theorem dL_adds_119 : decode cL_adds 119 = .ok (.iadd, 1) := by decide +kernel
theorem dL_adds_120 : decode cL_adds 120 = .ok (.iastore, 1) := by decide +kernel
theorem dL_adds_121 : decode cL_adds 121 = .ok (.aload_n 1, 1) := by decide +kernel
theorem dL_adds_122 : decode cL_adds 122 = .ok (.iload 4, 2) := by decide +kernel
theorem dL_adds_124 : decode cL_adds 124 = .ok (.iconst 4, 1) := by decide +kernel
theorem dL_adds_125 : decode cL_adds 125 = .ok (.iadd, 1) := by decide +kernel
theorem dL_adds_126 : decode cL_adds 126 = .ok (.aload_n 2, 1) := by decide +kernel
theorem dL_adds_127 : decode cL_adds 127 = .ok (.iconst 1, 1) := by decide +kernel
theorem dL_adds_128 : decode cL_adds 128 = .ok (.iaload, 1) := by decide +kernel
theorem dL_adds_129 : decode cL_adds 129 = .ok (.aload_n 1, 1) := by decide +kernel
theorem dL_adds_130 : decode cL_adds 130 = .ok (.iload 4, 2) := by decide +kernel
theorem dL_adds_132 : decode cL_adds 132 = .ok (.iconst 2, 1) := by decide +kernel
theorem dL_adds_133 : decode cL_adds 133 = .ok (.iadd, 1) := by decide +kernel
theorem dL_adds_134 : decode cL_adds 134 = .ok (.iaload, 1) := by decide +kernel
theorem dL_adds_135 : decode cL_adds 135 = .ok (.iadd, 1) := by decide +kernel
theorem dL_adds_136 : decode cL_adds 136 = .ok (.iastore, 1) := by decide +kernel
theorem dL_adds_137 : decode cL_adds 137 = .ok (.aload_n 2, 1) := by decide +kernel
theorem dL_adds_138 : decode cL_adds 138 = .ok (.bipush 15, 2) := by decide +kernel
theorem dL_adds_140 : decode cL_adds 140 = .ok (.dup2, 1) := by decide +kernel
theorem dL_adds_141 : decode cL_adds 141 = .ok (.iaload, 1) := by decide +kernel
theorem dL_adds_142 : decode cL_adds 142 = .ok (.iconst 1, 1) := by decide +kernel
theorem dL_adds_143 : decode cL_adds 143 = .ok (.iadd, 1) := by decide +kernel
theorem dL_adds_144 : decode cL_adds 144 = .ok (.iastore, 1) := by decide +kernel
theorem dL_adds_145 : decode cL_adds 145 = .ok (.aload_n 0, 1) := by decide +kernel
theorem dL_adds_146 : decode cL_adds 146 = .ok (.aload_n 1, 1) := by decide +kernel
theorem dL_adds_147 : decode cL_adds 147 = .ok (.iload 4, 2) := by decide +kernel
theorem dL_adds_149 : decode cL_adds 149 = .ok (.iaload, 1) := by decide +kernel
theorem dL_adds_150 : decode cL_adds 150 = .ok (.aload_n 1, 1) := by decide +kernel
theorem dL_adds_151 : decode cL_adds 151 = .ok (.iload 4, 2) := by decide +kernel
theorem dL_adds_153 : decode cL_adds 153 = .ok (.iconst 1, 1) := by decide +kernel
theorem dL_adds_154 : decode cL_adds 154 = .ok (.iadd, 1) := by decide +kernel
theorem dL_adds_155 : decode cL_adds 155 = .ok (.iaload, 1) := by decide +kernel
theorem dL_adds_156 : decode cL_adds 156 = .ok (.aload_n 1, 1) := by decide +kernel
theorem dL_adds_157 : decode cL_adds 157 = .ok (.iload 4, 2) := by decide +kernel
theorem dL_adds_159 : decode cL_adds 159 = .ok (.iconst 2, 1) := by decide +kernel
theorem dL_adds_160 : decode cL_adds 160 = .ok (.iadd, 1) := by decide +kernel
theorem dL_adds_161 : decode cL_adds 161 = .ok (.iaload, 1) := by decide +kernel
theorem dL_adds_162 : decode cL_adds 162 = .ok (.aload_n 1, 1) := by decide +kernel
theorem dL_adds_163 : decode cL_adds 163 = .ok (.iload 4, 2) := by decide +kernel
theorem dL_adds_165 : decode cL_adds 165 = .ok (.iconst 3, 1) := by decide +kernel
theorem dL_adds_166 : decode cL_adds 166 = .ok (.iadd, 1) := by decide +kernel
theorem dL_adds_167 : decode cL_adds 167 = .ok (.iaload, 1) := by decide +kernel
theorem dL_adds_168 : decode cL_adds 168 = .ok (.invokevirtual 89, 3) := by decide +kernel
theorem dL_adds_171 : decode cL_adds 171 = .ok (.aload_n 2, 1) := by decide +kernel
theorem dL_adds_172 : decode cL_adds 172 = .ok (.bipush 15, 2) := by decide +kernel
theorem dL_adds_174 : decode cL_adds 174 = .ok (.iaload, 1) := by decide +kernel
theorem dL_adds_175 : decode cL_adds 175 = .ok (.iconst 1, 1) := by decide +kernel
theorem dL_adds_176 : decode cL_adds 176 = .ok (.isub, 1) := by decide +kernel
theorem dL_adds_177 : decode cL_adds 177 = .ok (.if_icmp .ne 7, 3) := by decide +kernel
theorem dL_adds_180 : decode cL_adds 180 = .ok (.iconst 1, 1) := by decide +kernel
theorem dL_adds_181 : decode cL_adds 181 = .ok (.goto 4, 3) := by decide +kernel
theorem dL_adds_184 : decode cL_adds 184 = .ok (.iconst 0, 1) := by decide +kernel
theorem dL_adds_185 : decode cL_adds 185 = .ok (.ireturn, 1) := by decide +kernel
theorem dL_acts_0 : decode cL_acts 0 = .ok (.aload 4, 2) := by decide +kernel
theorem dL_acts_2 : decode cL_acts 2 = .ok (.bipush 15, 2) := by decide +kernel
theorem dL_acts_4 : decode cL_acts 4 = .ok (.iaload, 1) := by decide +kernel
theorem dL_acts_5 : decode cL_acts 5 = .ok (.ifCond .ne 7, 3) := by decide +kernel
theorem dL_acts_8 : decode cL_acts 8 = .ok (.iconst 0, 1) := by decide +kernel
theorem dL_acts_9 : decode cL_acts 9 = .ok (.goto 13, 3) := by decide +kernel
theorem dL_acts_12 : decode cL_acts 12 = .ok (.iload 6, 2) := by decide +kernel
theorem dL_acts_14 : decode cL_acts 14 = .ok (.aload 4, 2) := by decide +kernel
theorem dL_acts_16 : decode cL_acts 16 = .ok (.bipush 15, 2) := by decide +kernel
theorem dL_acts_18 : decode cL_acts 18 = .ok (.iaload, 1) := by decide +kernel
theorem dL_acts_19 : decode cL_acts 19 = .ok (.invokestatic 86, 3) := by decide +kernel
theorem dL_acts_22 : decode cL_acts 22 = .ok (.istore 7, 2) := by decide +kernel
theorem dL_acts_24 : decode cL_acts 24 = .ok (.iload 5, 2) := by decide +kernel
theorem dL_acts_26 : decode cL_acts 26 = .ok (.tableswitch 546 0 8 #[50, 60, 119, 202, 202, 202, 337, 434, 434], 50) := by decide +kernel
theorem dL_acts_76 : decode cL_acts 76 = .ok (.aload_n 0, 1) := by decide +kernel
theorem dL_acts_77 : decode cL_acts 77 = .ok (.aload_n 1, 1) := by decide +kernel
theorem dL_acts_78 : decode cL_acts 78 = .ok (.aload 4, 2) := by decide +kernel
theorem dL_acts_80 : decode cL_acts 80 = .ok (.iload 6, 2) := by decide +kernel
theorem dL_acts_82 : decode cL_acts 82 = .ok (.invokestatic 93, 3) := by decide +kernel
theorem dL_acts_85 : decode cL_acts 85 = .ok (.ireturn, 1) := by decide +kernel
theorem dL_acts_86 : decode cL_acts 86 = .ok (.iload 6, 2) := by decide +kernel
theorem dL_acts_88 : decode cL_acts 88 = .ok (.iconst 4, 1) := by decide +kernel
theorem dL_acts_89 : decode cL_acts 89 = .ok (.invokestatic 86, 3) := by decide +kernel
theorem dL_acts_92 : decode cL_acts 92 = .ok (.istore 8, 2) := by decide +kernel
theorem dL_acts_94 : decode cL_acts 94 = .ok (.aload 4, 2) := by decide +kernel
theorem dL_acts_96 : decode cL_acts 96 = .ok (.iconst 4, 1) := by decide +kernel
theorem dL_acts_97 : decode cL_acts 97 = .ok (.iload 8, 2) := by decide +kernel
theorem dL_acts_99 : decode cL_acts 99 = .ok (.iadd, 1) := by decide +kernel
theorem dL_acts_100 : decode cL_acts 100 = .ok (.iaload, 1) := by decide +kernel
theorem dL_acts_101 : decode cL_acts 101 = .ok (.istore 9, 2) := by decide +kernel
theorem dL_acts_103 : decode cL_acts 103 = .ok (.aload 4, 2) := by decide +kernel
theorem dL_acts_105 : decode cL_acts 105 = .ok (.iconst 4, 1) := by decide +kernel
theorem dL_acts_106 : decode cL_acts 106 = .ok (.iload 8, 2) := by decide +kernel
theorem dL_acts_108 : decode cL_acts 108 = .ok (.iadd, 1) := by decide +kernel
theorem dL_acts_109 : decode cL_acts 109 = .ok (.iconst 1, 1) := by decide +kernel
theorem dL_acts_110 : decode cL_acts 110 = .ok (.iload 6, 2) := by decide +kernel
theorem dL_acts_112 : decode cL_acts 112 = .ok (.iconst 2, 1) := by decide +kernel
theorem dL_acts_113 : decode cL_acts 113 = .ok (.ishr, 1) := by decide +kernel
theorem dL_acts_114 : decode cL_acts 114 = .ok (.bipush 6, 2) := by decide +kernel
theorem dL_acts_116 : decode cL_acts 116 = .ok (.invokestatic 86, 3) := by decide +kernel
theorem dL_acts_119 : decode cL_acts 119 = .ok (.iadd, 1) := by decide +kernel
theorem dL_acts_120 : decode cL_acts 120 = .ok (.iastore, 1) := by decide +kernel
theorem dL_acts_121 : decode cL_acts 121 = .ok (.aload_n 0, 1) := by decide +kernel
theorem dL_acts_122 : decode cL_acts 122 = .ok (.iload 8, 2) := by decide +kernel
theorem dL_acts_124 : decode cL_acts 124 = .ok (.aload 4, 2) := by decide +kernel
theorem dL_acts_126 : decode cL_acts 126 = .ok (.iconst 4, 1) := by decide +kernel
theorem dL_acts_127 : decode cL_acts 127 = .ok (.iload 8, 2) := by decide +kernel
theorem dL_acts_129 : decode cL_acts 129 = .ok (.iadd, 1) := by decide +kernel
theorem dL_acts_130 : decode cL_acts 130 = .ok (.iaload, 1) := by decide +kernel
theorem dL_acts_131 : decode cL_acts 131 = .ok (.invokevirtual 97, 3) := by decide +kernel
theorem dL_acts_134 : decode cL_acts 134 = .ok (.iload 9, 2) := by decide +kernel
theorem dL_acts_136 : decode cL_acts 136 = .ok (.if_icmp .ne 7, 3) := by decide +kernel
theorem dL_acts_139 : decode cL_acts 139 = .ok (.iconst 1, 1) := by decide +kernel
theorem dL_acts_140 : decode cL_acts 140 = .ok (.goto 4, 3) := by decide +kernel
theorem dL_acts_143 : decode cL_acts 143 = .ok (.iconst 0, 1) := by decide +kernel
theorem dL_acts_144 : decode cL_acts 144 = .ok (.ireturn, 1) := by decide +kernel
theorem dL_acts_145 : decode cL_acts 145 = .ok (.aload_n 1, 1) := by decide +kernel
theorem dL_acts_146 : decode cL_acts 146 = .ok (.bipush 10, 2) := by decide +kernel
theorem dL_acts_148 : decode cL_acts 148 = .ok (.iload 7, 2) := by decide +kernel
theorem dL_acts_150 : decode cL_acts 150 = .ok (.imul, 1) := by decide +kernel
theorem dL_acts_151 : decode cL_acts 151 = .ok (.iconst 5, 1) := by decide +kernel
theorem dL_acts_152 : decode cL_acts 152 = .ok (.iadd, 1) := by decide +kernel
theorem dL_acts_153 : decode cL_acts 153 = .ok (.iaload, 1) := by decide +kernel
theorem dL_acts_154 : decode cL_acts 154 = .ok (.istore 10, 2) := by decide +kernel
theorem dL_acts_156 : decode cL_acts 156 = .ok (.aload_n 1, 1) := by decide +kernel
theorem dL_acts_157 : decode cL_acts 157 = .ok (.bipush 10, 2) := by decide +kernel
theorem dL_acts_159 : decode cL_acts 159 = .ok (.iload 7, 2) := by decide +kernel
theorem dL_acts_161 : decode cL_acts 161 = .ok (.imul, 1) := by decide +kernel
theorem dL_acts_162 : decode cL_acts 162 = .ok (.iconst 4, 1) := by decide +kernel
theorem dL_acts_163 : decode cL_acts 163 = .ok (.iadd, 1) := by decide +kernel
theorem dL_acts_164 : decode cL_acts 164 = .ok (.aload 4, 2) := by decide +kernel
theorem dL_acts_166 : decode cL_acts 166 = .ok (.iconst 1, 1) := by decide +kernel
theorem dL_acts_167 : decode cL_acts 167 = .ok (.iaload, 1) := by decide +kernel
theorem dL_acts_168 : decode cL_acts 168 = .ok (.aload_n 1, 1) := by decide +kernel
theorem dL_acts_169 : decode cL_acts 169 = .ok (.bipush 10, 2) := by decide +kernel
theorem dL_acts_171 : decode cL_acts 171 = .ok (.iload 7, 2) := by decide +kernel
theorem dL_acts_173 : decode cL_acts 173 = .ok (.imul, 1) := by decide +kernel
theorem dL_acts_174 : decode cL_acts 174 = .ok (.iconst 2, 1) := by decide +kernel
theorem dL_acts_175 : decode cL_acts 175 = .ok (.iadd, 1) := by decide +kernel
theorem dL_acts_176 : decode cL_acts 176 = .ok (.iaload, 1) := by decide +kernel
theorem dL_acts_177 : decode cL_acts 177 = .ok (.iadd, 1) := by decide +kernel
theorem dL_acts_178 : decode cL_acts 178 = .ok (.iastore, 1) := by decide +kernel
theorem dL_acts_179 : decode cL_acts 179 = .ok (.aload_n 1, 1) := by decide +kernel
theorem dL_acts_180 : decode cL_acts 180 = .ok (.bipush 10, 2) := by decide +kernel
theorem dL_acts_182 : decode cL_acts 182 = .ok (.iload 7, 2) := by decide +kernel
theorem dL_acts_184 : decode cL_acts 184 = .ok (.imul, 1) := by decide +kernel
theorem dL_acts_185 : decode cL_acts 185 = .ok (.iconst 5, 1) := by decide +kernel
theorem dL_acts_186 : decode cL_acts 186 = .ok (.iadd, 1) := by decide +kernel
theorem dL_acts_187 : decode cL_acts 187 = .ok (.iconst 0, 1) := by decide +kernel
theorem dL_acts_188 : decode cL_acts 188 = .ok (.iastore, 1) := by decide +kernel
theorem dL_acts_189 : decode cL_acts 189 = .ok (.aload_n 1, 1) := by decide +kernel
theorem dL_acts_190 : decode cL_acts 190 = .ok (.bipush 10, 2) := by decide +kernel
theorem dL_acts_192 : decode cL_acts 192 = .ok (.iload 7, 2) := by decide +kernel
theorem dL_acts_194 : decode cL_acts 194 = .ok (.imul, 1) := by decide +kernel
theorem dL_acts_195 : decode cL_acts 195 = .ok (.bipush 6, 2) := by decide +kernel
theorem dL_acts_197 : decode cL_acts 197 = .ok (.iadd, 1) := by decide +kernel
theorem dL_acts_198 : decode cL_acts 198 = .ok (.iconst 0, 1) := by decide +kernel
theorem dL_acts_199 : decode cL_acts 199 = .ok (.iastore, 1) := by decide +kernel
theorem dL_acts_200 : decode cL_acts 200 = .ok (.aload_n 1, 1) := by decide +kernel
theorem dL_acts_201 : decode cL_acts 201 = .ok (.bipush 10, 2) := by decide +kernel
theorem dL_acts_203 : decode cL_acts 203 = .ok (.iload 7, 2) := by decide +kernel
theorem dL_acts_205 : decode cL_acts 205 = .ok (.imul, 1) := by decide +kernel
theorem dL_acts_206 : decode cL_acts 206 = .ok (.bipush 7, 2) := by decide +kernel
theorem dL_acts_208 : decode cL_acts 208 = .ok (.iadd, 1) := by decide +kernel
theorem dL_acts_209 : decode cL_acts 209 = .ok (.iconst 0, 1) := by decide +kernel
theorem dL_acts_210 : decode cL_acts 210 = .ok (.iastore, 1) := by decide +kernel
theorem dL_acts_211 : decode cL_acts 211 = .ok (.aload_n 0, 1) := by decide +kernel
theorem dL_acts_212 : decode cL_acts 212 = .ok (.iload 7, 2) := by decide +kernel
theorem dL_acts_214 : decode cL_acts 214 = .ok (.invokevirtual 100, 3) := by decide +kernel
theorem dL_acts_217 : decode cL_acts 217 = .ok (.iload 10, 2) := by decide +kernel
theorem dL_acts_219 : decode cL_acts 219 = .ok (.if_icmp .ne 7, 3) := by decide +kernel
theorem dL_acts_222 : decode cL_acts 222 = .ok (.iconst 1, 1) := by decide +kernel
theorem dL_acts_223 : decode cL_acts 223 = .ok (.goto 4, 3) := by decide +kernel
theorem dL_acts_226 : decode cL_acts 226 = .ok (.iconst 0, 1) := by decide +kernel
theorem dL_acts_227 : decode cL_acts 227 = .ok (.ireturn, 1) := by decide +kernel
theorem dL_acts_228 : decode cL_acts 228 = .ok (.iload 6, 2) := by decide +kernel
theorem dL_acts_230 : decode cL_acts 230 = .ok (.iconst 4, 1) := by decide +kernel
theorem dL_acts_231 : decode cL_acts 231 = .ok (.ishr, 1) := by decide +kernel
theorem dL_acts_232 : decode cL_acts 232 = .ok (.iconst 3, 1) := by decide +kernel
theorem dL_acts_233 : decode cL_acts 233 = .ok (.invokestatic 86, 3) := by decide +kernel
theorem dL_acts_236 : decode cL_acts 236 = .ok (.ifCond .ne 21, 3) := by decide +kernel
theorem dL_acts_239 : decode cL_acts 239 = .ok (.iload 6, 2) := by decide +kernel
theorem dL_acts_241 : decode cL_acts 241 = .ok (.bipush 6, 2) := by decide +kernel
theorem dL_acts_243 : decode cL_acts 243 = .ok (.ishr, 1) := by decide +kernel
theorem dL_acts_244 : decode cL_acts 244 = .ok (.sipush 6001, 3) := by decide +kernel
theorem dL_acts_247 : decode cL_acts 247 = .ok (.invokestatic 86, 3) := by decide +kernel
theorem dL_acts_250 : decode cL_acts 250 = .ok (.sipush 3000, 3) := by decide +kernel
theorem dL_acts_253 : decode cL_acts 253 = .ok (.isub, 1) := by decide +kernel
theorem dL_acts_254 : decode cL_acts 254 = .ok (.goto 18, 3) := by decide +kernel
theorem dL_acts_257 : decode cL_acts 257 = .ok (.iload 6, 2) := by decide +kernel
theorem dL_acts_259 : decode cL_acts 259 = .ok (.bipush 6, 2) := by decide +kernel
theorem dL_acts_261 : decode cL_acts 261 = .ok (.ishr, 1) := by decide +kernel
theorem dL_acts_262 : decode cL_acts 262 = .ok (.sipush 800, 3) := by decide +kernel
theorem dL_acts_265 : decode cL_acts 265 = .ok (.invokestatic 86, 3) := by decide +kernel
theorem dL_acts_268 : decode cL_acts 268 = .ok (.sipush 400, 3) := by decide +kernel
theorem dL_acts_271 : decode cL_acts 271 = .ok (.isub, 1) := by decide +kernel
theorem dL_acts_272 : decode cL_acts 272 = .ok (.istore 11, 2) := by decide +kernel
theorem dL_acts_274 : decode cL_acts 274 = .ok (.aload_n 1, 1) := by decide +kernel
theorem dL_acts_275 : decode cL_acts 275 = .ok (.bipush 10, 2) := by decide +kernel
theorem dL_acts_277 : decode cL_acts 277 = .ok (.iload 7, 2) := by decide +kernel
theorem dL_acts_279 : decode cL_acts 279 = .ok (.imul, 1) := by decide +kernel
theorem dL_acts_280 : decode cL_acts 280 = .ok (.iconst 4, 1) := by decide +kernel
theorem dL_acts_281 : decode cL_acts 281 = .ok (.iadd, 1) := by decide +kernel
theorem dL_acts_282 : decode cL_acts 282 = .ok (.iaload, 1) := by decide +kernel
theorem dL_acts_283 : decode cL_acts 283 = .ok (.iload 11, 2) := by decide +kernel
theorem dL_acts_285 : decode cL_acts 285 = .ok (.iadd, 1) := by decide +kernel
theorem dL_acts_286 : decode cL_acts 286 = .ok (.invokestatic 36, 3) := by decide +kernel
theorem dL_acts_289 : decode cL_acts 289 = .ok (.sipush 20000, 3) := by decide +kernel
theorem dL_acts_292 : decode cL_acts 292 = .ok (.if_icmp .le 28, 3) := by decide +kernel
theorem dL_acts_295 : decode cL_acts 295 = .ok (.aload_n 0, 1) := by decide +kernel
theorem dL_acts_296 : decode cL_acts 296 = .ok (.iload 7, 2) := by decide +kernel
theorem dL_acts_298 : decode cL_acts 298 = .ok (.iconst 4, 1) := by decide +kernel
theorem dL_acts_299 : decode cL_acts 299 = .ok (.invokevirtual 45, 3) := by decide +kernel
theorem dL_acts_302 : decode cL_acts 302 = .ok (.aload_n 1, 1) := by decide +kernel
theorem dL_acts_303 : decode cL_acts 303 = .ok (.bipush 10, 2) := by decide +kernel
theorem dL_acts_305 : decode cL_acts 305 = .ok (.iload 7, 2) := by decide +kernel
theorem dL_acts_307 : decode cL_acts 307 = .ok (.imul, 1) := by decide +kernel
theorem dL_acts_308 : decode cL_acts 308 = .ok (.iconst 4, 1) := by decide +kernel
theorem dL_acts_309 : decode cL_acts 309 = .ok (.iadd, 1) := by decide +kernel
theorem dL_acts_310 : decode cL_acts 310 = .ok (.iaload, 1) := by decide +kernel
theorem dL_acts_311 : decode cL_acts 311 = .ok (.if_icmp .ne 7, 3) := by decide +kernel
theorem dL_acts_314 : decode cL_acts 314 = .ok (.iconst 1, 1) := by decide +kernel
theorem dL_acts_315 : decode cL_acts 315 = .ok (.goto 4, 3) := by decide +kernel
theorem dL_acts_318 : decode cL_acts 318 = .ok (.iconst 0, 1) := by decide +kernel
theorem dL_acts_319 : decode cL_acts 319 = .ok (.ireturn, 1) := by decide +kernel
theorem dL_acts_320 : decode cL_acts 320 = .ok (.aload_n 1, 1) := by decide +kernel
theorem dL_acts_321 : decode cL_acts 321 = .ok (.bipush 10, 2) := by decide +kernel
theorem dL_acts_323 : decode cL_acts 323 = .ok (.iload 7, 2) := by decide +kernel
theorem dL_acts_325 : decode cL_acts 325 = .ok (.imul, 1) := by decide +kernel
theorem dL_acts_326 : decode cL_acts 326 = .ok (.iconst 4, 1) := by decide +kernel
theorem dL_acts_327 : decode cL_acts 327 = .ok (.iadd, 1) := by decide +kernel
theorem dL_acts_328 : decode cL_acts 328 = .ok (.dup2, 1) := by decide +kernel
theorem dL_acts_329 : decode cL_acts 329 = .ok (.iaload, 1) := by decide +kernel
theorem dL_acts_330 : decode cL_acts 330 = .ok (.iload 11, 2) := by decide +kernel
theorem dL_acts_332 : decode cL_acts 332 = .ok (.iadd, 1) := by decide +kernel
theorem dL_acts_333 : decode cL_acts 333 = .ok (.iastore, 1) := by decide +kernel
theorem dL_acts_334 : decode cL_acts 334 = .ok (.aload_n 0, 1) := by decide +kernel
theorem dL_acts_335 : decode cL_acts 335 = .ok (.iload 7, 2) := by decide +kernel
theorem dL_acts_337 : decode cL_acts 337 = .ok (.iload 11, 2) := by decide +kernel
theorem dL_acts_339 : decode cL_acts 339 = .ok (.invokevirtual 103, 3) := by decide +kernel
theorem dL_acts_342 : decode cL_acts 342 = .ok (.aload_n 1, 1) := by decide +kernel
theorem dL_acts_343 : decode cL_acts 343 = .ok (.bipush 10, 2) := by decide +kernel
theorem dL_acts_345 : decode cL_acts 345 = .ok (.iload 7, 2) := by decide +kernel
theorem dL_acts_347 : decode cL_acts 347 = .ok (.imul, 1) := by decide +kernel
theorem dL_acts_348 : decode cL_acts 348 = .ok (.iconst 4, 1) := by decide +kernel
theorem dL_acts_349 : decode cL_acts 349 = .ok (.iadd, 1) := by decide +kernel
theorem dL_acts_350 : decode cL_acts 350 = .ok (.iaload, 1) := by decide +kernel
theorem dL_acts_351 : decode cL_acts 351 = .ok (.ldc 106, 2) := by decide +kernel
theorem dL_acts_353 : decode cL_acts 353 = .ok (.iadd, 1) := by decide +kernel
theorem dL_acts_354 : decode cL_acts 354 = .ok (.if_icmp .ne 7, 3) := by decide +kernel
theorem dL_acts_357 : decode cL_acts 357 = .ok (.iconst 1, 1) := by decide +kernel
theorem dL_acts_358 : decode cL_acts 358 = .ok (.goto 4, 3) := by decide +kernel
theorem dL_acts_361 : decode cL_acts 361 = .ok (.iconst 0, 1) := by decide +kernel
theorem dL_acts_362 : decode cL_acts 362 = .ok (.ireturn, 1) := by decide +kernel
theorem dL_acts_363 : decode cL_acts 363 = .ok (.iload 6, 2) := by decide +kernel
theorem dL_acts_365 : decode cL_acts 365 = .ok (.iconst 2, 1) := by decide +kernel
theorem dL_acts_366 : decode cL_acts 366 = .ok (.invokestatic 86, 3) := by decide +kernel
theorem dL_acts_369 : decode cL_acts 369 = .ok (.istore 12, 2) := by decide +kernel
theorem dL_acts_371 : decode cL_acts 371 = .ok (.aload 4, 2) := by decide +kernel
theorem dL_acts_373 : decode cL_acts 373 = .ok (.iconst 2, 1) := by decide +kernel
theorem dL_acts_374 : decode cL_acts 374 = .ok (.iload 12, 2) := by decide +kernel
theorem dL_acts_376 : decode cL_acts 376 = .ok (.iadd, 1) := by decide +kernel
theorem dL_acts_377 : decode cL_acts 377 = .ok (.iaload, 1) := by decide +kernel
theorem dL_acts_378 : decode cL_acts 378 = .ok (.istore 13, 2) := by decide +kernel
theorem dL_acts_380 : decode cL_acts 380 = .ok (.aload 4, 2) := by decide +kernel
theorem dL_acts_382 : decode cL_acts 382 = .ok (.iconst 2, 1) := by decide +kernel
theorem dL_acts_383 : decode cL_acts 383 = .ok (.iload 12, 2) := by decide +kernel
theorem dL_acts_385 : decode cL_acts 385 = .ok (.iadd, 1) := by decide +kernel
theorem dL_acts_386 : decode cL_acts 386 = .ok (.iload 12, 2) := by decide +kernel
theorem dL_acts_388 : decode cL_acts 388 = .ok (.ifCond .ne 37, 3) := by decide +kernel
theorem dL_acts_391 : decode cL_acts 391 = .ok (.bipush 10, 2) := by decide +kernel
theorem dL_acts_393 : decode cL_acts 393 = .ok (.iload 6, 2) := by decide +kernel
theorem dL_acts_395 : decode cL_acts 395 = .ok (.iconst 1, 1) := by decide +kernel
theorem dL_acts_396 : decode cL_acts 396 = .ok (.ishr, 1) := by decide +kernel
theorem dL_acts_397 : decode cL_acts 397 = .ok (.iload 6, 2) := by decide +kernel
theorem dL_acts_399 : decode cL_acts 399 = .ok (.bipush 12, 2) := by decide +kernel
theorem dL_acts_401 : decode cL_acts 401 = .ok (.ishr, 1) := by decide +kernel
theorem dL_acts_402 : decode cL_acts 402 = .ok (.iconst 2, 1) := by decide +kernel
theorem dL_acts_403 : decode cL_acts 403 = .ok (.invokestatic 86, 3) := by decide +kernel
theorem dL_acts_406 : decode cL_acts 406 = .ok (.ifCond .ne 9, 3) := by decide +kernel
theorem dL_acts_409 : decode cL_acts 409 = .ok (.sipush 1991, 3) := by decide +kernel
theorem dL_acts_412 : decode cL_acts 412 = .ok (.goto 6, 3) := by decide +kernel
theorem dL_acts_415 : decode cL_acts 415 = .ok (.sipush 200, 3) := by decide +kernel
theorem dL_acts_418 : decode cL_acts 418 = .ok (.invokestatic 86, 3) := by decide +kernel
theorem dL_acts_421 : decode cL_acts 421 = .ok (.iadd, 1) := by decide +kernel
theorem dL_acts_422 : decode cL_acts 422 = .ok (.goto 13, 3) := by decide +kernel
theorem dL_acts_425 : decode cL_acts 425 = .ok (.iconst 1, 1) := by decide +kernel
theorem dL_acts_426 : decode cL_acts 426 = .ok (.iload 6, 2) := by decide +kernel
theorem dL_acts_428 : decode cL_acts 428 = .ok (.iconst 1, 1) := by decide +kernel
theorem dL_acts_429 : decode cL_acts 429 = .ok (.ishr, 1) := by decide +kernel
theorem dL_acts_430 : decode cL_acts 430 = .ok (.iconst 5, 1) := by decide +kernel
theorem dL_acts_431 : decode cL_acts 431 = .ok (.invokestatic 86, 3) := by decide +kernel
theorem dL_acts_434 : decode cL_acts 434 = .ok (.iadd, 1) := by decide +kernel
theorem dL_acts_435 : decode cL_acts 435 = .ok (.iastore, 1) := by decide +kernel
theorem dL_acts_436 : decode cL_acts 436 = .ok (.aload_n 0, 1) := by decide +kernel
theorem dL_acts_437 : decode cL_acts 437 = .ok (.iload 12, 2) := by decide +kernel
theorem dL_acts_439 : decode cL_acts 439 = .ok (.aload 4, 2) := by decide +kernel
theorem dL_acts_441 : decode cL_acts 441 = .ok (.iconst 2, 1) := by decide +kernel
theorem dL_acts_442 : decode cL_acts 442 = .ok (.iload 12, 2) := by decide +kernel
theorem dL_acts_444 : decode cL_acts 444 = .ok (.iadd, 1) := by decide +kernel
theorem dL_acts_445 : decode cL_acts 445 = .ok (.iaload, 1) := by decide +kernel
theorem dL_acts_446 : decode cL_acts 446 = .ok (.invokevirtual 107, 3) := by decide +kernel
theorem dL_acts_449 : decode cL_acts 449 = .ok (.iload 13, 2) := by decide +kernel
theorem dL_acts_451 : decode cL_acts 451 = .ok (.if_icmp .ne 7, 3) := by decide +kernel
theorem dL_acts_454 : decode cL_acts 454 = .ok (.iconst 1, 1) := by decide +kernel
theorem dL_acts_455 : decode cL_acts 455 = .ok (.goto 4, 3) := by decide +kernel
theorem dL_acts_458 : decode cL_acts 458 = .ok (.iconst 0, 1) := by decide +kernel
theorem dL_acts_459 : decode cL_acts 459 = .ok (.ireturn, 1) := by decide +kernel
theorem dL_acts_460 : decode cL_acts 460 = .ok (.iconst 1, 1) := by decide +kernel
theorem dL_acts_461 : decode cL_acts 461 = .ok (.iload 6, 2) := by decide +kernel
theorem dL_acts_463 : decode cL_acts 463 = .ok (.bipush 24, 2) := by decide +kernel
theorem dL_acts_465 : decode cL_acts 465 = .ok (.invokestatic 86, 3) := by decide +kernel
theorem dL_acts_468 : decode cL_acts 468 = .ok (.iadd, 1) := by decide +kernel
theorem dL_acts_469 : decode cL_acts 469 = .ok (.istore 14, 2) := by decide +kernel
theorem dL_acts_471 : decode cL_acts 471 = .ok (.iload 6, 2) := by decide +kernel
theorem dL_acts_473 : decode cL_acts 473 = .ok (.iconst 5, 1) := by decide +kernel
theorem dL_acts_474 : decode cL_acts 474 = .ok (.ishr, 1) := by decide +kernel
theorem dL_acts_475 : decode cL_acts 475 = .ok (.sipush 201, 3) := by decide +kernel
theorem dL_acts_478 : decode cL_acts 478 = .ok (.invokestatic 86, 3) := by decide +kernel
theorem dL_acts_481 : decode cL_acts 481 = .ok (.bipush 100, 2) := by decide +kernel
theorem dL_acts_483 : decode cL_acts 483 = .ok (.isub, 1) := by decide +kernel
theorem dL_acts_484 : decode cL_acts 484 = .ok (.istore 15, 2) := by decide +kernel
theorem dL_acts_486 : decode cL_acts 486 = .ok (.iconst 0, 1) := by decide +kernel
theorem dL_acts_487 : decode cL_acts 487 = .ok (.istore 16, 2) := by decide +kernel
theorem dL_acts_489 : decode cL_acts 489 = .ok (.iload 16, 2) := by decide +kernel
theorem dL_acts_491 : decode cL_acts 491 = .ok (.iload 14, 2) := by decide +kernel
theorem dL_acts_493 : decode cL_acts 493 = .ok (.if_icmp .ge 58, 3) := by decide +kernel
theorem dL_acts_496 : decode cL_acts 496 = .ok (.aload 4, 2) := by decide +kernel
theorem dL_acts_498 : decode cL_acts 498 = .ok (.iconst 1, 1) := by decide +kernel
theorem dL_acts_499 : decode cL_acts 499 = .ok (.iaload, 1) := by decide +kernel
theorem dL_acts_500 : decode cL_acts 500 = .ok (.iload 15, 2) := by decide +kernel
theorem dL_acts_502 : decode cL_acts 502 = .ok (.iadd, 1) := by decide +kernel
theorem dL_acts_503 : decode cL_acts 503 = .ok (.istore 17, 2) := by decide +kernel
theorem dL_acts_505 : decode cL_acts 505 = .ok (.aload_n 1, 1) := by decide +kernel
theorem dL_acts_506 : decode cL_acts 506 = .ok (.aload_n 2, 1) := by decide +kernel
theorem dL_acts_507 : decode cL_acts 507 = .ok (.aload_n 3, 1) := by decide +kernel
theorem dL_acts_508 : decode cL_acts 508 = .ok (.aload 4, 2) := by decide +kernel
theorem dL_acts_510 : decode cL_acts 510 = .ok (.iload 17, 2) := by decide +kernel
theorem dL_acts_512 : decode cL_acts 512 = .ok (.sipush 5000, 3) := by decide +kernel
theorem dL_acts_515 : decode cL_acts 515 = .ok (.if_icmp .le 9, 3) := by decide +kernel
theorem dL_acts_518 : decode cL_acts 518 = .ok (.sipush 5000, 3) := by decide +kernel
theorem dL_acts_521 : decode cL_acts 521 = .ok (.goto 19, 3) := by decide +kernel
theorem dL_acts_524 : decode cL_acts 524 = .ok (.iload 17, 2) := by decide +kernel
theorem dL_acts_526 : decode cL_acts 526 = .ok (.sipush (-5000), 3) := by decide +kernel
theorem dL_acts_529 : decode cL_acts 529 = .ok (.if_icmp .ge 9, 3) := by decide +kernel
theorem dL_acts_532 : decode cL_acts 532 = .ok (.sipush (-5000), 3) := by decide +kernel
theorem dL_acts_535 : decode cL_acts 535 = .ok (.goto 5, 3) := by decide +kernel
theorem dL_acts_538 : decode cL_acts 538 = .ok (.iload 17, 2) := by decide +kernel
theorem dL_acts_540 : decode cL_acts 540 = .ok (.invokestatic 71, 3) := by decide +kernel
theorem dL_acts_543 : decode cL_acts 543 = .ok (.istore 18, 2) := by decide +kernel
theorem dL_acts_545 : decode cL_acts 545 = .ok (.iinc 16 1, 3) := by decide +kernel
theorem dL_acts_548 : decode cL_acts 548 = .ok (.goto (-59), 3) := by decide +kernel
theorem dL_acts_551 : decode cL_acts 551 = .ok (.aload_n 0, 1) := by decide +kernel
theorem dL_acts_552 : decode cL_acts 552 = .ok (.iload 14, 2) := by decide +kernel
theorem dL_acts_554 : decode cL_acts 554 = .ok (.iload 15, 2) := by decide +kernel
theorem dL_acts_556 : decode cL_acts 556 = .ok (.invokevirtual 110, 3) := by decide +kernel
theorem dL_acts_559 : decode cL_acts 559 = .ok (.aload 4, 2) := by decide +kernel
theorem dL_acts_561 : decode cL_acts 561 = .ok (.iconst 1, 1) := by decide +kernel
theorem dL_acts_562 : decode cL_acts 562 = .ok (.iaload, 1) := by decide +kernel
theorem dL_acts_563 : decode cL_acts 563 = .ok (.if_icmp .ne 7, 3) := by decide +kernel
theorem dL_acts_566 : decode cL_acts 566 = .ok (.iconst 1, 1) := by decide +kernel
theorem dL_acts_567 : decode cL_acts 567 = .ok (.goto 4, 3) := by decide +kernel
theorem dL_acts_570 : decode cL_acts 570 = .ok (.iconst 0, 1) := by decide +kernel
theorem dL_acts_571 : decode cL_acts 571 = .ok (.ireturn, 1) := by decide +kernel
theorem dL_acts_572 : decode cL_acts 572 = .ok (.iload 6, 2) := by decide +kernel
theorem dL_acts_574 : decode cL_acts 574 = .ok (.iconst 3, 1) := by decide +kernel
theorem dL_acts_575 : decode cL_acts 575 = .ok (.invokestatic 86, 3) := by decide +kernel
theorem dL_acts_578 : decode cL_acts 578 = .ok (.ifCond .ne 20, 3) := by decide +kernel
theorem dL_acts_581 : decode cL_acts 581 = .ok (.iload 6, 2) := by decide +kernel
theorem dL_acts_583 : decode cL_acts 583 = .ok (.iconst 2, 1) := by decide +kernel
theorem dL_acts_584 : decode cL_acts 584 = .ok (.ishr, 1) := by decide +kernel
theorem dL_acts_585 : decode cL_acts 585 = .ok (.sipush 10001, 3) := by decide +kernel
theorem dL_acts_588 : decode cL_acts 588 = .ok (.invokestatic 86, 3) := by decide +kernel
theorem dL_acts_591 : decode cL_acts 591 = .ok (.sipush 5000, 3) := by decide +kernel
theorem dL_acts_594 : decode cL_acts 594 = .ok (.isub, 1) := by decide +kernel
theorem dL_acts_595 : decode cL_acts 595 = .ok (.goto 21, 3) := by decide +kernel
theorem dL_acts_598 : decode cL_acts 598 = .ok (.aload 4, 2) := by decide +kernel
theorem dL_acts_600 : decode cL_acts 600 = .ok (.iconst 1, 1) := by decide +kernel
theorem dL_acts_601 : decode cL_acts 601 = .ok (.iaload, 1) := by decide +kernel
theorem dL_acts_602 : decode cL_acts 602 = .ok (.iload 6, 2) := by decide +kernel
theorem dL_acts_604 : decode cL_acts 604 = .ok (.iconst 2, 1) := by decide +kernel
theorem dL_acts_605 : decode cL_acts 605 = .ok (.ishr, 1) := by decide +kernel
theorem dL_acts_606 : decode cL_acts 606 = .ok (.sipush 201, 3) := by decide +kernel
theorem dL_acts_609 : decode cL_acts 609 = .ok (.invokestatic 86, 3) := by decide +kernel
theorem dL_acts_612 : decode cL_acts 612 = .ok (.iadd, 1) := by decide +kernel
theorem dL_acts_613 : decode cL_acts 613 = .ok (.bipush 100, 2) := by decide +kernel
theorem dL_acts_615 : decode cL_acts 615 = .ok (.isub, 1) := by decide +kernel
theorem dL_acts_616 : decode cL_acts 616 = .ok (.istore 16, 2) := by decide +kernel
theorem dL_acts_618 : decode cL_acts 618 = .ok (.iload 16, 2) := by decide +kernel
theorem dL_acts_620 : decode cL_acts 620 = .ok (.sipush 5000, 3) := by decide +kernel
theorem dL_acts_623 : decode cL_acts 623 = .ok (.if_icmp .le 9, 3) := by decide +kernel
theorem dL_acts_626 : decode cL_acts 626 = .ok (.sipush 5000, 3) := by decide +kernel
theorem dL_acts_629 : decode cL_acts 629 = .ok (.goto 19, 3) := by decide +kernel
theorem dL_acts_632 : decode cL_acts 632 = .ok (.iload 16, 2) := by decide +kernel
theorem dL_acts_634 : decode cL_acts 634 = .ok (.sipush (-5000), 3) := by decide +kernel
theorem dL_acts_637 : decode cL_acts 637 = .ok (.if_icmp .ge 9, 3) := by decide +kernel
theorem dL_acts_640 : decode cL_acts 640 = .ok (.sipush (-5000), 3) := by decide +kernel
theorem dL_acts_643 : decode cL_acts 643 = .ok (.goto 5, 3) := by decide +kernel
theorem dL_acts_646 : decode cL_acts 646 = .ok (.iload 16, 2) := by decide +kernel
theorem dL_acts_648 : decode cL_acts 648 = .ok (.istore 16, 2) := by decide +kernel
theorem dL_acts_650 : decode cL_acts 650 = .ok (.aload_n 0, 1) := by decide +kernel
theorem dL_acts_651 : decode cL_acts 651 = .ok (.iload 16, 2) := by decide +kernel
theorem dL_acts_653 : decode cL_acts 653 = .ok (.invokevirtual 113, 3) := by decide +kernel
theorem dL_acts_656 : decode cL_acts 656 = .ok (.istore 17, 2) := by decide +kernel
theorem dL_acts_658 : decode cL_acts 658 = .ok (.iload 17, 2) := by decide +kernel
theorem dL_acts_660 : decode cL_acts 660 = .ok (.aload_n 1, 1) := by decide +kernel
theorem dL_acts_661 : decode cL_acts 661 = .ok (.aload_n 2, 1) := by decide +kernel
theorem dL_acts_662 : decode cL_acts 662 = .ok (.aload_n 3, 1) := by decide +kernel
theorem dL_acts_663 : decode cL_acts 663 = .ok (.aload 4, 2) := by decide +kernel
theorem dL_acts_665 : decode cL_acts 665 = .ok (.iload 16, 2) := by decide +kernel
theorem dL_acts_667 : decode cL_acts 667 = .ok (.invokestatic 71, 3) := by decide +kernel
theorem dL_acts_670 : decode cL_acts 670 = .ok (.if_icmp .ne 7, 3) := by decide +kernel
theorem dL_acts_673 : decode cL_acts 673 = .ok (.iconst 1, 1) := by decide +kernel
theorem dL_acts_674 : decode cL_acts 674 = .ok (.goto 4, 3) := by decide +kernel
theorem dL_acts_677 : decode cL_acts 677 = .ok (.iconst 0, 1) := by decide +kernel
theorem dL_acts_678 : decode cL_acts 678 = .ok (.ireturn, 1) := by decide +kernel
theorem dL_law_0 : decode cL_law 0 = .ok (.new 41, 3) := by decide +kernel
theorem dL_law_3 : decode cL_law 3 = .ok (.dup, 1) := by decide +kernel
theorem dL_law_4 : decode cL_law 4 = .ok (.invokespecial 115, 3) := by decide +kernel
theorem dL_law_7 : decode cL_law 7 = .ok (.astore_n 1, 1) := by decide +kernel
theorem dL_law_8 : decode cL_law 8 = .ok (.bipush 60, 2) := by decide +kernel
theorem dL_law_10 : decode cL_law 10 = .ok (.newarray .int, 2) := by decide +kernel
theorem dL_law_12 : decode cL_law 12 = .ok (.astore_n 2, 1) := by decide +kernel
theorem dL_law_13 : decode cL_law 13 = .ok (.bipush 36, 2) := by decide +kernel
theorem dL_law_15 : decode cL_law 15 = .ok (.newarray .int, 2) := by decide +kernel
theorem dL_law_17 : decode cL_law 17 = .ok (.astore_n 3, 1) := by decide +kernel
theorem dL_law_18 : decode cL_law 18 = .ok (.bipush 36, 2) := by decide +kernel
theorem dL_law_20 : decode cL_law 20 = .ok (.newarray .int, 2) := by decide +kernel
theorem dL_law_22 : decode cL_law 22 = .ok (.astore 4, 2) := by decide +kernel
theorem dL_law_24 : decode cL_law 24 = .ok (.bipush 16, 2) := by decide +kernel
theorem dL_law_26 : decode cL_law 26 = .ok (.newarray .int, 2) := by decide +kernel
theorem dL_law_28 : decode cL_law 28 = .ok (.astore 5, 2) := by decide +kernel
theorem dL_law_30 : decode cL_law 30 = .ok (.aload 5, 2) := by decide +kernel
theorem dL_law_32 : decode cL_law 32 = .ok (.iconst 1, 1) := by decide +kernel
theorem dL_law_33 : decode cL_law 33 = .ok (.sipush 1000, 3) := by decide +kernel
theorem dL_law_36 : decode cL_law 36 = .ok (.iastore, 1) := by decide +kernel
theorem dL_law_37 : decode cL_law 37 = .ok (.aload 5, 2) := by decide +kernel
theorem dL_law_39 : decode cL_law 39 = .ok (.iconst 2, 1) := by decide +kernel
theorem dL_law_40 : decode cL_law 40 = .ok (.sipush 300, 3) := by decide +kernel
theorem dL_law_43 : decode cL_law 43 = .ok (.iastore, 1) := by decide +kernel
theorem dL_law_44 : decode cL_law 44 = .ok (.aload 5, 2) := by decide +kernel
theorem dL_law_46 : decode cL_law 46 = .ok (.iconst 3, 1) := by decide +kernel
theorem dL_law_47 : decode cL_law 47 = .ok (.iconst 2, 1) := by decide +kernel
theorem dL_law_48 : decode cL_law 48 = .ok (.iastore, 1) := by decide +kernel
theorem dL_law_49 : decode cL_law 49 = .ok (.aload 5, 2) := by decide +kernel
theorem dL_law_51 : decode cL_law 51 = .ok (.bipush 14, 2) := by decide +kernel
theorem dL_law_53 : decode cL_law 53 = .ok (.ldc 11, 2) := by decide +kernel
theorem dL_law_55 : decode cL_law 55 = .ok (.iastore, 1) := by decide +kernel
theorem dL_law_56 : decode cL_law 56 = .ok (.iconst 0, 1) := by decide +kernel
theorem dL_law_57 : decode cL_law 57 = .ok (.istore 6, 2) := by decide +kernel
theorem dL_law_59 : decode cL_law 59 = .ok (.iload 6, 2) := by decide +kernel
theorem dL_law_61 : decode cL_law 61 = .ok (.iconst 4, 1) := by decide +kernel
theorem dL_law_62 : decode cL_law 62 = .ok (.if_icmp .ge 17, 3) := by decide +kernel
theorem dL_law_65 : decode cL_law 65 = .ok (.aload 5, 2) := by decide +kernel
theorem dL_law_67 : decode cL_law 67 = .ok (.iconst 4, 1) := by decide +kernel
theorem dL_law_68 : decode cL_law 68 = .ok (.iload 6, 2) := by decide +kernel
theorem dL_law_70 : decode cL_law 70 = .ok (.iadd, 1) := by decide +kernel
theorem dL_law_71 : decode cL_law 71 = .ok (.iconst 1, 1) := by decide +kernel
theorem dL_law_72 : decode cL_law 72 = .ok (.iastore, 1) := by decide +kernel
theorem dL_law_73 : decode cL_law 73 = .ok (.iinc 6 1, 3) := by decide +kernel
theorem dL_law_76 : decode cL_law 76 = .ok (.goto (-17), 3) := by decide +kernel
theorem dL_law_79 : decode cL_law 79 = .ok (.aload_n 1, 1) := by decide +kernel
theorem dL_law_80 : decode cL_law 80 = .ok (.aload_n 2, 1) := by decide +kernel
theorem dL_law_81 : decode cL_law 81 = .ok (.aload_n 3, 1) := by decide +kernel
theorem dL_law_82 : decode cL_law 82 = .ok (.aload 4, 2) := by decide +kernel
theorem dL_law_84 : decode cL_law 84 = .ok (.aload 5, 2) := by decide +kernel
theorem dL_law_86 : decode cL_law 86 = .ok (.invokestatic 116, 3) := by decide +kernel
theorem dL_law_89 : decode cL_law 89 = .ok (.ifCond .eq 35, 3) := by decide +kernel
theorem dL_law_92 : decode cL_law 92 = .ok (.aload_n 1, 1) := by decide +kernel
theorem dL_law_93 : decode cL_law 93 = .ok (.aload_n 2, 1) := by decide +kernel
theorem dL_law_94 : decode cL_law 94 = .ok (.aload_n 3, 1) := by decide +kernel
theorem dL_law_95 : decode cL_law 95 = .ok (.aload 4, 2) := by decide +kernel
theorem dL_law_97 : decode cL_law 97 = .ok (.aload 5, 2) := by decide +kernel
theorem dL_law_99 : decode cL_law 99 = .ok (.invokestatic 120, 3) := by decide +kernel
theorem dL_law_102 : decode cL_law 102 = .ok (.ifCond .eq 22, 3) := by decide +kernel
theorem dL_law_105 : decode cL_law 105 = .ok (.aload_n 1, 1) := by decide +kernel
theorem dL_law_106 : decode cL_law 106 = .ok (.aload_n 2, 1) := by decide +kernel
theorem dL_law_107 : decode cL_law 107 = .ok (.aload 5, 2) := by decide +kernel
theorem dL_law_109 : decode cL_law 109 = .ok (.aload_n 0, 1) := by decide +kernel
theorem dL_law_110 : decode cL_law 110 = .ok (.iconst 0, 1) := by decide +kernel
theorem dL_law_111 : decode cL_law 111 = .ok (.invokestatic 123, 3) := by decide +kernel
theorem dL_law_114 : decode cL_law 114 = .ok (.invokestatic 93, 3) := by decide +kernel
theorem dL_law_117 : decode cL_law 117 = .ok (.ifCond .eq 7, 3) := by decide +kernel
theorem dL_law_120 : decode cL_law 120 = .ok (.iconst 1, 1) := by decide +kernel
theorem dL_law_121 : decode cL_law 121 = .ok (.goto 4, 3) := by decide +kernel
theorem dL_law_124 : decode cL_law 124 = .ok (.iconst 0, 1) := by decide +kernel
theorem dL_law_125 : decode cL_law 125 = .ok (.istore 6, 2) := by decide +kernel
theorem dL_law_127 : decode cL_law 127 = .ok (.iconst 0, 1) := by decide +kernel
theorem dL_law_128 : decode cL_law 128 = .ok (.istore 7, 2) := by decide +kernel
theorem dL_law_130 : decode cL_law 130 = .ok (.iload 7, 2) := by decide +kernel
theorem dL_law_132 : decode cL_law 132 = .ok (.bipush 40, 2) := by decide +kernel
theorem dL_law_134 : decode cL_law 134 = .ok (.if_icmp .ge 199, 3) := by decide +kernel
theorem dL_law_137 : decode cL_law 137 = .ok (.iload 6, 2) := by decide +kernel
theorem dL_law_139 : decode cL_law 139 = .ok (.ifCond .eq 194, 3) := by decide +kernel
theorem dL_law_142 : decode cL_law 142 = .ok (.aload_n 0, 1) := by decide +kernel
theorem dL_law_143 : decode cL_law 143 = .ok (.iconst 1, 1) := by decide +kernel
theorem dL_law_144 : decode cL_law 144 = .ok (.iload 7, 2) := by decide +kernel
theorem dL_law_146 : decode cL_law 146 = .ok (.iadd, 1) := by decide +kernel
theorem dL_law_147 : decode cL_law 147 = .ok (.invokestatic 123, 3) := by decide +kernel
theorem dL_law_150 : decode cL_law 150 = .ok (.istore 8, 2) := by decide +kernel
theorem dL_law_152 : decode cL_law 152 = .ok (.aload_n 1, 1) := by decide +kernel
theorem dL_law_153 : decode cL_law 153 = .ok (.aload_n 2, 1) := by decide +kernel
theorem dL_law_154 : decode cL_law 154 = .ok (.aload_n 3, 1) := by decide +kernel
theorem dL_law_155 : decode cL_law 155 = .ok (.aload 4, 2) := by decide +kernel
theorem dL_law_157 : decode cL_law 157 = .ok (.aload 5, 2) := by decide +kernel
theorem dL_law_159 : decode cL_law 159 = .ok (.iload 7, 2) := by decide +kernel
theorem dL_law_161 : decode cL_law 161 = .ok (.iconst 4, 1) := by decide +kernel
theorem dL_law_162 : decode cL_law 162 = .ok (.if_icmp .ge 7, 3) := by decide +kernel
theorem dL_law_165 : decode cL_law 165 = .ok (.iconst 0, 1) := by decide +kernel
theorem dL_law_166 : decode cL_law 166 = .ok (.goto 13, 3) := by decide +kernel
theorem dL_law_169 : decode cL_law 169 = .ok (.iload 8, 2) := by decide +kernel
theorem dL_law_171 : decode cL_law 171 = .ok (.bipush 18, 2) := by decide +kernel
theorem dL_law_173 : decode cL_law 173 = .ok (.ishr, 1) := by decide +kernel
theorem dL_law_174 : decode cL_law 174 = .ok (.bipush 15, 2) := by decide +kernel
theorem dL_law_176 : decode cL_law 176 = .ok (.invokestatic 86, 3) := by decide +kernel
theorem dL_law_179 : decode cL_law 179 = .ok (.iload 8, 2) := by decide +kernel
theorem dL_law_181 : decode cL_law 181 = .ok (.invokestatic 127, 3) := by decide +kernel
theorem dL_law_184 : decode cL_law 184 = .ok (.ifCond .eq 140, 3) := by decide +kernel
theorem dL_law_187 : decode cL_law 187 = .ok (.aload_n 1, 1) := by decide +kernel
theorem dL_law_188 : decode cL_law 188 = .ok (.aload_n 2, 1) := by decide +kernel
theorem dL_law_189 : decode cL_law 189 = .ok (.aload_n 3, 1) := by decide +kernel
theorem dL_law_190 : decode cL_law 190 = .ok (.aload 4, 2) := by decide +kernel
theorem dL_law_192 : decode cL_law 192 = .ok (.aload 5, 2) := by decide +kernel
theorem dL_law_194 : decode cL_law 194 = .ok (.invokestatic 116, 3) := by decide +kernel
theorem dL_law_197 : decode cL_law 197 = .ok (.ifCond .eq 127, 3) := by decide +kernel
theorem dL_law_200 : decode cL_law 200 = .ok (.aload_n 1, 1) := by decide +kernel
theorem dL_law_201 : decode cL_law 201 = .ok (.aload_n 2, 1) := by decide +kernel
theorem dL_law_202 : decode cL_law 202 = .ok (.aload_n 3, 1) := by decide +kernel
theorem dL_law_203 : decode cL_law 203 = .ok (.aload 4, 2) := by decide +kernel
theorem dL_law_205 : decode cL_law 205 = .ok (.aload 5, 2) := by decide +kernel
theorem dL_law_207 : decode cL_law 207 = .ok (.invokestatic 120, 3) := by decide +kernel
theorem dL_law_210 : decode cL_law 210 = .ok (.ifCond .eq 114, 3) := by decide +kernel
theorem dL_law_213 : decode cL_law 213 = .ok (.aload_n 1, 1) := by decide +kernel
theorem dL_law_214 : decode cL_law 214 = .ok (.aload_n 2, 1) := by decide +kernel
theorem dL_law_215 : decode cL_law 215 = .ok (.aload_n 3, 1) := by decide +kernel
theorem dL_law_216 : decode cL_law 216 = .ok (.aload 4, 2) := by decide +kernel
theorem dL_law_218 : decode cL_law 218 = .ok (.aload 5, 2) := by decide +kernel
theorem dL_law_220 : decode cL_law 220 = .ok (.iload 8, 2) := by decide +kernel
theorem dL_law_222 : decode cL_law 222 = .ok (.iconst 3, 1) := by decide +kernel
theorem dL_law_223 : decode cL_law 223 = .ok (.ishr, 1) := by decide +kernel
theorem dL_law_224 : decode cL_law 224 = .ok (.iconst 2, 1) := by decide +kernel
theorem dL_law_225 : decode cL_law 225 = .ok (.invokestatic 86, 3) := by decide +kernel
theorem dL_law_228 : decode cL_law 228 = .ok (.iload 8, 2) := by decide +kernel
theorem dL_law_230 : decode cL_law 230 = .ok (.iconst 5, 1) := by decide +kernel
theorem dL_law_231 : decode cL_law 231 = .ok (.ishr, 1) := by decide +kernel
theorem dL_law_232 : decode cL_law 232 = .ok (.sipush 6000, 3) := by decide +kernel
theorem dL_law_235 : decode cL_law 235 = .ok (.invokestatic 86, 3) := by decide +kernel
theorem dL_law_238 : decode cL_law 238 = .ok (.sipush 3000, 3) := by decide +kernel
theorem dL_law_241 : decode cL_law 241 = .ok (.isub, 1) := by decide +kernel
theorem dL_law_242 : decode cL_law 242 = .ok (.iload 8, 2) := by decide +kernel
theorem dL_law_244 : decode cL_law 244 = .ok (.bipush 8, 2) := by decide +kernel
theorem dL_law_246 : decode cL_law 246 = .ok (.ishr, 1) := by decide +kernel
theorem dL_law_247 : decode cL_law 247 = .ok (.sipush 6000, 3) := by decide +kernel
theorem dL_law_250 : decode cL_law 250 = .ok (.invokestatic 86, 3) := by decide +kernel
theorem dL_law_253 : decode cL_law 253 = .ok (.sipush 1000, 3) := by decide +kernel
theorem dL_law_256 : decode cL_law 256 = .ok (.isub, 1) := by decide +kernel
theorem dL_law_257 : decode cL_law 257 = .ok (.invokestatic 131, 3) := by decide +kernel
theorem dL_law_260 : decode cL_law 260 = .ok (.ifCond .eq 64, 3) := by decide +kernel
theorem dL_law_263 : decode cL_law 263 = .ok (.aload_n 1, 1) := by decide +kernel
theorem dL_law_264 : decode cL_law 264 = .ok (.aload_n 2, 1) := by decide +kernel
theorem dL_law_265 : decode cL_law 265 = .ok (.aload_n 3, 1) := by decide +kernel
theorem dL_law_266 : decode cL_law 266 = .ok (.aload 4, 2) := by decide +kernel
theorem dL_law_268 : decode cL_law 268 = .ok (.aload 5, 2) := by decide +kernel
theorem dL_law_270 : decode cL_law 270 = .ok (.iload 8, 2) := by decide +kernel
theorem dL_law_272 : decode cL_law 272 = .ok (.iconst 4, 1) := by decide +kernel
theorem dL_law_273 : decode cL_law 273 = .ok (.ishr, 1) := by decide +kernel
theorem dL_law_274 : decode cL_law 274 = .ok (.aload 5, 2) := by decide +kernel
theorem dL_law_276 : decode cL_law 276 = .ok (.bipush 15, 2) := by decide +kernel
theorem dL_law_278 : decode cL_law 278 = .ok (.iaload, 1) := by decide +kernel
theorem dL_law_279 : decode cL_law 279 = .ok (.invokestatic 86, 3) := by decide +kernel
theorem dL_law_282 : decode cL_law 282 = .ok (.invokestatic 135, 3) := by decide +kernel
theorem dL_law_285 : decode cL_law 285 = .ok (.ifCond .eq 39, 3) := by decide +kernel
theorem dL_law_288 : decode cL_law 288 = .ok (.iload 7, 2) := by decide +kernel
theorem dL_law_290 : decode cL_law 290 = .ok (.iconst 2, 1) := by decide +kernel
theorem dL_law_291 : decode cL_law 291 = .ok (.irem, 1) := by decide +kernel
theorem dL_law_292 : decode cL_law 292 = .ok (.ifCond .eq 28, 3) := by decide +kernel
theorem dL_law_295 : decode cL_law 295 = .ok (.aload_n 1, 1) := by decide +kernel
theorem dL_law_296 : decode cL_law 296 = .ok (.aload_n 2, 1) := by decide +kernel
theorem dL_law_297 : decode cL_law 297 = .ok (.aload_n 3, 1) := by decide +kernel
theorem dL_law_298 : decode cL_law 298 = .ok (.aload 4, 2) := by decide +kernel
theorem dL_law_300 : decode cL_law 300 = .ok (.aload 5, 2) := by decide +kernel
theorem dL_law_302 : decode cL_law 302 = .ok (.iconst 1, 1) := by decide +kernel
theorem dL_law_303 : decode cL_law 303 = .ok (.iload 8, 2) := by decide +kernel
theorem dL_law_305 : decode cL_law 305 = .ok (.bipush 7, 2) := by decide +kernel
theorem dL_law_307 : decode cL_law 307 = .ok (.ishr, 1) := by decide +kernel
theorem dL_law_308 : decode cL_law 308 = .ok (.bipush 48, 2) := by decide +kernel
theorem dL_law_310 : decode cL_law 310 = .ok (.invokestatic 86, 3) := by decide +kernel
theorem dL_law_313 : decode cL_law 313 = .ok (.iadd, 1) := by decide +kernel
theorem dL_law_314 : decode cL_law 314 = .ok (.invokestatic 139, 3) := by decide +kernel
theorem dL_law_317 : decode cL_law 317 = .ok (.ifCond .eq 7, 3) := by decide +kernel
theorem dL_law_320 : decode cL_law 320 = .ok (.iconst 1, 1) := by decide +kernel
theorem dL_law_321 : decode cL_law 321 = .ok (.goto 4, 3) := by decide +kernel
theorem dL_law_324 : decode cL_law 324 = .ok (.iconst 0, 1) := by decide +kernel
theorem dL_law_325 : decode cL_law 325 = .ok (.istore 6, 2) := by decide +kernel
theorem dL_law_327 : decode cL_law 327 = .ok (.iinc 7 1, 3) := by decide +kernel
theorem dL_law_330 : decode cL_law 330 = .ok (.goto (-200), 3) := by decide +kernel
theorem dL_law_333 : decode cL_law 333 = .ok (.iload 6, 2) := by decide +kernel
theorem dL_law_335 : decode cL_law 335 = .ok (.ireturn, 1) := by decide +kernel
end
section
def lw_all : List Cond := lw_tbl.filter goodWord
theorem lw_good : ∀ w ∈ lw_all, w ∈ lw_tbl ∧ goodWord w = true := fun w h => List.mem_filter.mp h
theorem lw_mem {w : Cond} (h : w ∈ lw_tbl) (g : goodWord w = true) : w ∈ lw_all := List.mem_filter.mpr ⟨h, g⟩
theorem lw_t0 {w : Cond} (h : w ∈ tables_1) (g : goodWord w = true) : w ∈ lw_all := lw_mem (List.mem_append_right _ h) g
theorem lw_n0 {w : Cond} (h : w ∈ tables_1_1) : w ∈ lw_tbl := List.mem_append_right _ (List.mem_append_left _ h)
theorem lw_c0 {w : Cond} (h : w ∈ tables_1_1) (g : goodWord w = true) : w ∈ lw_all := lw_t0 (List.mem_append_left _ h) g
theorem lw_n1 {w : Cond} (h : w ∈ tables_1_2) : w ∈ lw_tbl := List.mem_append_right _ (List.mem_append_right _ (List.mem_append_left _ h))
theorem lw_c1 {w : Cond} (h : w ∈ tables_1_2) (g : goodWord w = true) : w ∈ lw_all := lw_t0 (List.mem_append_right _ (List.mem_append_left _ h)) g
theorem lw_n2 {w : Cond} (h : w ∈ tables_1_3) : w ∈ lw_tbl := List.mem_append_right _ (List.mem_append_right _ (List.mem_append_right _ (List.mem_append_left _ h)))
theorem lw_c2 {w : Cond} (h : w ∈ tables_1_3) (g : goodWord w = true) : w ∈ lw_all := lw_t0 (List.mem_append_right _ (List.mem_append_right _ (List.mem_append_left _ h))) g
theorem lw_n3 {w : Cond} (h : w ∈ tables_1_4) : w ∈ lw_tbl := List.mem_append_right _ (List.mem_append_right _ (List.mem_append_right _ (List.mem_append_right _ (h))))
theorem lw_c3 {w : Cond} (h : w ∈ tables_1_4) (g : goodWord w = true) : w ∈ lw_all := lw_t0 (List.mem_append_right _ (List.mem_append_right _ (List.mem_append_right _ (h)))) g
theorem lw_sel {y : MethodName} {n : Nat} (h : (y, n) ∈ lw_privs) : Cond.selects y.cls y y ∈ lw_all := lw_mem (List.mem_append_left _ (List.mem_map.mpr ⟨(y, n), h, rfl⟩)) rfl
theorem qi_RL : Cond.initialized RL ∈ lw_all := lw_c0 (List.mem_of_getElem? (i := 0) (by decide +kernel)) rfl
theorem qi_RX6 : Cond.initialized RX6 ∈ lw_all := lw_c0 (List.mem_of_getElem? (i := 1) (by decide +kernel)) rfl
theorem qi_RX3 : Cond.initialized RX3 ∈ lw_all := lw_c0 (List.mem_of_getElem? (i := 2) (by decide +kernel)) rfl
theorem qi_RX5 : Cond.initialized RX5 ∈ lw_all := lw_c0 (List.mem_of_getElem? (i := 3) (by decide +kernel)) rfl
theorem qi_RX0 : Cond.initialized RX0 ∈ lw_all := lw_c0 (List.mem_of_getElem? (i := 4) (by decide +kernel)) rfl
theorem qi_RX1 : Cond.initialized RX1 ∈ lw_all := lw_c0 (List.mem_of_getElem? (i := 5) (by decide +kernel)) rfl
theorem qi_RX4 : Cond.initialized RX4 ∈ lw_all := lw_c0 (List.mem_of_getElem? (i := 6) (by decide +kernel)) rfl
theorem qi_RX2 : Cond.initialized RX2 ∈ lw_all := lw_c0 (List.mem_of_getElem? (i := 7) (by decide +kernel)) rfl
theorem qi_java_lang_Throwable : Cond.initialized "java/lang/Throwable" ∈ lw_all := lw_c0 (List.mem_of_getElem? (i := 8) (by decide +kernel)) rfl
theorem qi_java_lang_Exception : Cond.initialized "java/lang/Exception" ∈ lw_all := lw_c0 (List.mem_of_getElem? (i := 9) (by decide +kernel)) rfl
theorem qi_java_lang_RuntimeException : Cond.initialized "java/lang/RuntimeException" ∈ lw_all := lw_c0 (List.mem_of_getElem? (i := 10) (by decide +kernel)) rfl
theorem qi_java_lang_IllegalArgumentException : Cond.initialized "java/lang/IllegalArgumentException" ∈ lw_all := lw_c0 (List.mem_of_getElem? (i := 11) (by decide +kernel)) rfl
theorem qi_java_lang_IndexOutOfBoundsException : Cond.initialized "java/lang/IndexOutOfBoundsException" ∈ lw_all := lw_c0 (List.mem_of_getElem? (i := 12) (by decide +kernel)) rfl
theorem qi_RJ9 : Cond.initialized RJ9 ∈ lw_all := lw_c0 (List.mem_of_getElem? (i := 13) (by decide +kernel)) rfl
theorem qi_java_lang_IllegalStateException : Cond.initialized "java/lang/IllegalStateException" ∈ lw_all := lw_c0 (List.mem_of_getElem? (i := 14) (by decide +kernel)) rfl
theorem qi_RJ6 : Cond.initialized RJ6 ∈ lw_all := lw_c0 (List.mem_of_getElem? (i := 15) (by decide +kernel)) rfl
theorem qk_RL_41 : Cond.classLink RL 41 RX6 ∈ lw_all := lw_c0 (List.mem_of_getElem? (i := 16) (by decide +kernel)) rfl
theorem qa_RX6 : Cond.instantiable RX6 6 ∈ lw_all := lw_c0 (List.mem_of_getElem? (i := 17) (by decide +kernel)) rfl
theorem ql_RL_115 : Cond.methodLink RL 115 yX6_init ∈ lw_all := lw_c0 (List.mem_of_getElem? (i := 18) (by decide +kernel)) rfl
theorem qm_yX6_init : Cond.instanceMethod yX6_init ∈ lw_all := lw_c0 (List.mem_of_getElem? (i := 19) (by decide +kernel)) rfl
theorem qc_yX6_init : Cond.code yX6_init cX6_init 1 none ∈ lw_all := lw_c0 (List.mem_of_getElem? (i := 20) (by decide +kernel)) rfl
theorem ql_RX6_1 : Cond.methodLink RX6 1 objectInit ∈ lw_all := lw_c0 (List.mem_of_getElem? (i := 21) (by decide +kernel)) rfl
theorem qm_objectInit : Cond.instanceMethod objectInit ∈ lw_all := lw_c0 (List.mem_of_getElem? (i := 22) (by decide +kernel)) rfl
theorem qc_objectInit : Cond.code objectInit ⟨#[0xb1]⟩ 1 none ∈ lw_all := lw_c0 (List.mem_of_getElem? (i := 23) (by decide +kernel)) rfl
theorem qk_RX6_7 : Cond.classLink RX6 7 RX3 ∈ lw_all := lw_c0 (List.mem_of_getElem? (i := 24) (by decide +kernel)) rfl
theorem qa_RX3 : Cond.instantiable RX3 13 ∈ lw_all := lw_c0 (List.mem_of_getElem? (i := 25) (by decide +kernel)) rfl
theorem ql_RX6_9 : Cond.methodLink RX6 9 yX3_init ∈ lw_all := lw_c0 (List.mem_of_getElem? (i := 26) (by decide +kernel)) rfl
theorem qm_yX3_init : Cond.instanceMethod yX3_init ∈ lw_all := lw_c0 (List.mem_of_getElem? (i := 27) (by decide +kernel)) rfl
theorem qc_yX3_init : Cond.code yX3_init cX3_init 2 none ∈ lw_all := lw_c0 (List.mem_of_getElem? (i := 28) (by decide +kernel)) rfl
theorem ql_RX3_3 : Cond.methodLink RX3 3 objectInit ∈ lw_all := lw_c0 (List.mem_of_getElem? (i := 29) (by decide +kernel)) rfl
theorem qk_RX3_9 : Cond.classLink RX3 9 RX5 ∈ lw_all := lw_c0 (List.mem_of_getElem? (i := 30) (by decide +kernel)) rfl
theorem qo_RX5 : Cond.arrayOver (.object "LateThermometers$Thermometer") ∈ lw_tbl := lw_n0 (List.mem_of_getElem? (i := 31) (by decide +kernel))
theorem qa_RX5 : Cond.instantiable RX5 12 ∈ lw_all := lw_c0 (List.mem_of_getElem? (i := 32) (by decide +kernel)) rfl
theorem qm_yX5_init : Cond.instanceMethod yX5_init ∈ lw_all := lw_c0 (List.mem_of_getElem? (i := 34) (by decide +kernel)) rfl
theorem qc_yX5_init : Cond.code yX5_init cX5_init 1 none ∈ lw_all := lw_c0 (List.mem_of_getElem? (i := 35) (by decide +kernel)) rfl
theorem ql_RX5_3 : Cond.methodLink RX5 3 objectInit ∈ lw_all := lw_c0 (List.mem_of_getElem? (i := 36) (by decide +kernel)) rfl
theorem qn_RX5_25 : Cond.constant RX5 25 (-999999) ∈ lw_all := lw_c0 (List.mem_of_getElem? (i := 37) (by decide +kernel)) rfl
theorem qf_RX5_9 : Cond.fieldLink RX5 9 "LateThermometers$Thermometer" "readingHours" "[I" ∈ lw_all := lw_c0 (List.mem_of_getElem? (i := 38) (by decide +kernel)) rfl
theorem qf_RX5_15 : Cond.fieldLink RX5 15 "LateThermometers$Thermometer" "readingValues" "[I" ∈ lw_all := lw_c0 (List.mem_of_getElem? (i := 39) (by decide +kernel)) rfl
theorem qf_RX5_45 : Cond.fieldLink RX5 45 "LateThermometers$Thermometer" "kept" "I" ∈ lw_all := lw_c0 (List.mem_of_getElem? (i := 40) (by decide +kernel)) rfl
theorem qf_RX5_18 : Cond.fieldLink RX5 18 "LateThermometers$Thermometer" "lag" "I" ∈ lw_all := lw_c0 (List.mem_of_getElem? (i := 41) (by decide +kernel)) rfl
theorem qf_RX5_32 : Cond.fieldLink RX5 32 "LateThermometers$Thermometer" "offset" "I" ∈ lw_all := lw_c0 (List.mem_of_getElem? (i := 42) (by decide +kernel)) rfl
theorem qf_RX5_29 : Cond.fieldLink RX5 29 "LateThermometers$Thermometer" "row" "I" ∈ lw_all := lw_c0 (List.mem_of_getElem? (i := 43) (by decide +kernel)) rfl
theorem qf_RX3_90 : Cond.fieldLink RX3 90 "LateThermometers$Thermometer" "row" "I" ∈ lw_all := lw_c0 (List.mem_of_getElem? (i := 44) (by decide +kernel)) rfl
theorem qf_RX5_22 : Cond.fieldLink RX5 22 "LateThermometers$Thermometer" "weight" "I" ∈ lw_all := lw_c0 (List.mem_of_getElem? (i := 45) (by decide +kernel)) rfl
theorem qf_RX3_170 : Cond.fieldLink RX3 170 "LateThermometers$Thermometer" "weight" "I" ∈ lw_all := lw_c0 (List.mem_of_getElem? (i := 46) (by decide +kernel)) rfl
theorem qf_RX5_42 : Cond.fieldLink RX5 42 "LateThermometers$Thermometer" "shown" "I" ∈ lw_all := lw_c0 (List.mem_of_getElem? (i := 47) (by decide +kernel)) rfl
theorem qf_RX6_106 : Cond.fieldLink RX6 106 "LateThermometers$Thermometer" "shown" "I" ∈ lw_all := lw_c0 (List.mem_of_getElem? (i := 48) (by decide +kernel)) rfl
theorem qf_RX5_48 : Cond.fieldLink RX5 48 "LateThermometers$Thermometer" "strikes" "I" ∈ lw_all := lw_c0 (List.mem_of_getElem? (i := 49) (by decide +kernel)) rfl
theorem qf_RX6_98 : Cond.fieldLink RX6 98 "LateThermometers$Thermometer" "strikes" "I" ∈ lw_all := lw_c0 (List.mem_of_getElem? (i := 50) (by decide +kernel)) rfl
theorem qf_RX5_35 : Cond.fieldLink RX5 35 "LateThermometers$Thermometer" "spikes" "I" ∈ lw_all := lw_c0 (List.mem_of_getElem? (i := 51) (by decide +kernel)) rfl
theorem qf_RX3_142 : Cond.fieldLink RX3 142 "LateThermometers$Thermometer" "spikes" "I" ∈ lw_all := lw_c0 (List.mem_of_getElem? (i := 52) (by decide +kernel)) rfl
theorem qf_RX5_51 : Cond.fieldLink RX5 51 "LateThermometers$Thermometer" "shutOut" "Z" ∈ lw_all := lw_c0 (List.mem_of_getElem? (i := 53) (by decide +kernel)) rfl
theorem qf_RX3_166 : Cond.fieldLink RX3 166 "LateThermometers$Thermometer" "shutOut" "Z" ∈ lw_all := lw_c0 (List.mem_of_getElem? (i := 54) (by decide +kernel)) rfl
theorem qf_RX5_26 : Cond.fieldLink RX5 26 "LateThermometers$Thermometer" "mended" "I" ∈ lw_all := lw_c0 (List.mem_of_getElem? (i := 55) (by decide +kernel)) rfl
theorem qf_RX3_157 : Cond.fieldLink RX3 157 "LateThermometers$Thermometer" "mended" "I" ∈ lw_all := lw_c0 (List.mem_of_getElem? (i := 56) (by decide +kernel)) rfl
theorem qy_0 : Cond.arrayClass Jvm.ClassFile.FieldType.int ∈ lw_all := lw_c0 (List.mem_of_getElem? (i := 82) (by decide +kernel)) rfl
theorem qk_RX3_29 : Cond.classLink RX3 29 RX0 ∈ lw_all := lw_c0 (List.mem_of_getElem? (i := 83) (by decide +kernel)) rfl
theorem qa_RX0 : Cond.instantiable RX0 2 ∈ lw_all := lw_c0 (List.mem_of_getElem? (i := 84) (by decide +kernel)) rfl
theorem qm_yX0_init : Cond.instanceMethod yX0_init ∈ lw_all := lw_c0 (List.mem_of_getElem? (i := 86) (by decide +kernel)) rfl
theorem qc_yX0_init : Cond.code yX0_init cX0_init 1 none ∈ lw_all := lw_c0 (List.mem_of_getElem? (i := 87) (by decide +kernel)) rfl
theorem ql_RX0_3 : Cond.methodLink RX0 3 objectInit ∈ lw_all := lw_c0 (List.mem_of_getElem? (i := 88) (by decide +kernel)) rfl
theorem qf_RX0_9 : Cond.fieldLink RX0 9 "LateThermometers$Ascending" "numbers" "[I" ∈ lw_all := lw_c0 (List.mem_of_getElem? (i := 89) (by decide +kernel)) rfl
theorem qf_RX0_15 : Cond.fieldLink RX0 15 "LateThermometers$Ascending" "size" "I" ∈ lw_all := lw_c0 (List.mem_of_getElem? (i := 90) (by decide +kernel)) rfl
theorem qn_RX3_36 : Cond.constant RX3 36 (-999999) ∈ lw_all := lw_c0 (List.mem_of_getElem? (i := 96) (by decide +kernel)) rfl
theorem qf_RX3_11 : Cond.fieldLink RX3 11 "LateThermometers$Place" "thermometers" "[LLateThermometers$Thermometer;" ∈ lw_all := lw_c0 (List.mem_of_getElem? (i := 97) (by decide +kernel)) rfl
theorem qf_RX3_18 : Cond.fieldLink RX3 18 "LateThermometers$Place" "spare" "LLateThermometers$Thermometer;" ∈ lw_all := lw_c0 (List.mem_of_getElem? (i := 98) (by decide +kernel)) rfl
theorem qf_RX3_22 : Cond.fieldLink RX3 22 "LateThermometers$Place" "periods" "[I" ∈ lw_all := lw_c0 (List.mem_of_getElem? (i := 99) (by decide +kernel)) rfl
theorem qf_RX3_26 : Cond.fieldLink RX3 26 "LateThermometers$Place" "timesRead" "[I" ∈ lw_all := lw_c0 (List.mem_of_getElem? (i := 100) (by decide +kernel)) rfl
theorem qf_RX3_32 : Cond.fieldLink RX3 32 "LateThermometers$Place" "sorted" "LLateThermometers$Ascending;" ∈ lw_all := lw_c0 (List.mem_of_getElem? (i := 101) (by decide +kernel)) rfl
theorem qf_RX3_37 : Cond.fieldLink RX3 37 "LateThermometers$Place" "meanBefore" "I" ∈ lw_all := lw_c0 (List.mem_of_getElem? (i := 102) (by decide +kernel)) rfl
theorem qf_RX3_50 : Cond.fieldLink RX3 50 "LateThermometers$Place" "size" "I" ∈ lw_all := lw_c0 (List.mem_of_getElem? (i := 103) (by decide +kernel)) rfl
theorem qf_RX6_207 : Cond.fieldLink RX6 207 "LateThermometers$Place" "size" "I" ∈ lw_all := lw_c0 (List.mem_of_getElem? (i := 104) (by decide +kernel)) rfl
theorem qf_RX3_65 : Cond.fieldLink RX3 65 "LateThermometers$Place" "hour" "I" ∈ lw_all := lw_c0 (List.mem_of_getElem? (i := 105) (by decide +kernel)) rfl
theorem qf_RX6_171 : Cond.fieldLink RX6 171 "LateThermometers$Place" "hour" "I" ∈ lw_all := lw_c0 (List.mem_of_getElem? (i := 106) (by decide +kernel)) rfl
theorem qf_RX3_41 : Cond.fieldLink RX3 41 "LateThermometers$Place" "temperature" "I" ∈ lw_all := lw_c0 (List.mem_of_getElem? (i := 107) (by decide +kernel)) rfl
theorem qf_RX6_81 : Cond.fieldLink RX6 81 "LateThermometers$Place" "temperature" "I" ∈ lw_all := lw_c0 (List.mem_of_getElem? (i := 108) (by decide +kernel)) rfl
theorem qf_RX3_68 : Cond.fieldLink RX3 68 "LateThermometers$Place" "readings" "I" ∈ lw_all := lw_c0 (List.mem_of_getElem? (i := 109) (by decide +kernel)) rfl
theorem qf_RX6_223 : Cond.fieldLink RX6 223 "LateThermometers$Place" "readings" "I" ∈ lw_all := lw_c0 (List.mem_of_getElem? (i := 110) (by decide +kernel)) rfl
theorem qf_RX3_71 : Cond.fieldLink RX3 71 "LateThermometers$Place" "spikes" "I" ∈ lw_all := lw_c0 (List.mem_of_getElem? (i := 111) (by decide +kernel)) rfl
theorem qf_RX6_226 : Cond.fieldLink RX6 226 "LateThermometers$Place" "spikes" "I" ∈ lw_all := lw_c0 (List.mem_of_getElem? (i := 112) (by decide +kernel)) rfl
theorem qf_RX3_44 : Cond.fieldLink RX3 44 "LateThermometers$Place" "difference" "I" ∈ lw_all := lw_c0 (List.mem_of_getElem? (i := 113) (by decide +kernel)) rfl
theorem qf_RX6_117 : Cond.fieldLink RX6 117 "LateThermometers$Place" "difference" "I" ∈ lw_all := lw_c0 (List.mem_of_getElem? (i := 114) (by decide +kernel)) rfl
theorem qf_RX3_47 : Cond.fieldLink RX3 47 "LateThermometers$Place" "strikesToShutOut" "I" ∈ lw_all := lw_c0 (List.mem_of_getElem? (i := 115) (by decide +kernel)) rfl
theorem qf_RX6_120 : Cond.fieldLink RX6 120 "LateThermometers$Place" "strikesToShutOut" "I" ∈ lw_all := lw_c0 (List.mem_of_getElem? (i := 116) (by decide +kernel)) rfl
theorem qk_RX6_19 : Cond.classLink RX6 19 RX1 ∈ lw_all := lw_c0 (List.mem_of_getElem? (i := 144) (by decide +kernel)) rfl
theorem qa_RX1 : Cond.instantiable RX1 4 ∈ lw_all := lw_c0 (List.mem_of_getElem? (i := 145) (by decide +kernel)) rfl
theorem ql_RX6_21 : Cond.methodLink RX6 21 yX1_init ∈ lw_all := lw_c0 (List.mem_of_getElem? (i := 146) (by decide +kernel)) rfl
theorem qm_yX1_init : Cond.instanceMethod yX1_init ∈ lw_all := lw_c0 (List.mem_of_getElem? (i := 147) (by decide +kernel)) rfl
theorem qc_yX1_init : Cond.code yX1_init cX1_init 2 none ∈ lw_all := lw_c0 (List.mem_of_getElem? (i := 148) (by decide +kernel)) rfl
theorem ql_RX1_3 : Cond.methodLink RX1 3 objectInit ∈ lw_all := lw_c0 (List.mem_of_getElem? (i := 149) (by decide +kernel)) rfl
theorem qk_RX1_9 : Cond.classLink RX1 9 RX3 ∈ lw_all := lw_c0 (List.mem_of_getElem? (i := 150) (by decide +kernel)) rfl
theorem qo_RX3 : Cond.arrayOver (.object "LateThermometers$Place") ∈ lw_tbl := lw_n0 (List.mem_of_getElem? (i := 151) (by decide +kernel))
theorem ql_RX1_17 : Cond.methodLink RX1 17 yX3_init ∈ lw_all := lw_c0 (List.mem_of_getElem? (i := 152) (by decide +kernel)) rfl
theorem qf_RX1_11 : Cond.fieldLink RX1 11 "LateThermometers$History" "states" "[LLateThermometers$Place;" ∈ lw_all := lw_c0 (List.mem_of_getElem? (i := 153) (by decide +kernel)) rfl
theorem qf_RX1_18 : Cond.fieldLink RX1 18 "LateThermometers$History" "spare" "LLateThermometers$Place;" ∈ lw_all := lw_c0 (List.mem_of_getElem? (i := 154) (by decide +kernel)) rfl
theorem qf_RX1_22 : Cond.fieldLink RX1 22 "LateThermometers$History" "next" "I" ∈ lw_all := lw_c0 (List.mem_of_getElem? (i := 155) (by decide +kernel)) rfl
theorem qf_RX1_34 : Cond.fieldLink RX1 34 "LateThermometers$History" "size" "I" ∈ lw_all := lw_c0 (List.mem_of_getElem? (i := 156) (by decide +kernel)) rfl
theorem qf_RX6_156 : Cond.fieldLink RX6 156 "LateThermometers$History" "size" "I" ∈ lw_all := lw_c0 (List.mem_of_getElem? (i := 157) (by decide +kernel)) rfl
theorem qk_RX6_26 : Cond.classLink RX6 26 RX4 ∈ lw_all := lw_c0 (List.mem_of_getElem? (i := 167) (by decide +kernel)) rfl
theorem qa_RX4 : Cond.instantiable RX4 2 ∈ lw_all := lw_c0 (List.mem_of_getElem? (i := 168) (by decide +kernel)) rfl
theorem qm_yX4_init : Cond.instanceMethod yX4_init ∈ lw_all := lw_c0 (List.mem_of_getElem? (i := 170) (by decide +kernel)) rfl
theorem qc_yX4_init : Cond.code yX4_init cX4_init 1 none ∈ lw_all := lw_c0 (List.mem_of_getElem? (i := 171) (by decide +kernel)) rfl
theorem ql_RX4_1 : Cond.methodLink RX4 1 objectInit ∈ lw_all := lw_c0 (List.mem_of_getElem? (i := 172) (by decide +kernel)) rfl
theorem qk_RX4_7 : Cond.classLink RX4 7 RX3 ∈ lw_all := lw_c0 (List.mem_of_getElem? (i := 173) (by decide +kernel)) rfl
theorem ql_RX4_9 : Cond.methodLink RX4 9 yX3_init ∈ lw_all := lw_c0 (List.mem_of_getElem? (i := 174) (by decide +kernel)) rfl
theorem qf_RX4_10 : Cond.fieldLink RX4 10 "LateThermometers$Snapshot" "place" "LLateThermometers$Place;" ∈ lw_all := lw_c0 (List.mem_of_getElem? (i := 175) (by decide +kernel)) rfl
theorem qk_RX6_36 : Cond.classLink RX6 36 RX2 ∈ lw_all := lw_c0 (List.mem_of_getElem? (i := 181) (by decide +kernel)) rfl
theorem qa_RX2 : Cond.instantiable RX2 8 ∈ lw_all := lw_c0 (List.mem_of_getElem? (i := 182) (by decide +kernel)) rfl
theorem qm_yX2_init : Cond.instanceMethod yX2_init ∈ lw_all := lw_c0 (List.mem_of_getElem? (i := 184) (by decide +kernel)) rfl
theorem qc_yX2_init : Cond.code yX2_init cX2_init 1 none ∈ lw_all := lw_c0 (List.mem_of_getElem? (i := 185) (by decide +kernel)) rfl
theorem ql_RX2_3 : Cond.methodLink RX2 3 objectInit ∈ lw_all := lw_c0 (List.mem_of_getElem? (i := 186) (by decide +kernel)) rfl
theorem qf_RX2_9 : Cond.fieldLink RX2 9 "LateThermometers$OrderText" "characters" "[C" ∈ lw_all := lw_c0 (List.mem_of_getElem? (i := 187) (by decide +kernel)) rfl
theorem qf_RX6_132 : Cond.fieldLink RX6 132 "LateThermometers$OrderText" "length" "I" ∈ lw_all := lw_c0 (List.mem_of_getElem? (i := 188) (by decide +kernel)) rfl
theorem qy_1 : Cond.arrayClass Jvm.ClassFile.FieldType.char ∈ lw_all := lw_c0 (List.mem_of_getElem? (i := 206) (by decide +kernel)) rfl
theorem qf_RX6_10 : Cond.fieldLink RX6 10 "LateThermometers" "now" "LLateThermometers$Place;" ∈ lw_all := lw_c0 (List.mem_of_getElem? (i := 207) (by decide +kernel)) rfl
theorem qf_RX6_16 : Cond.fieldLink RX6 16 "LateThermometers" "trial" "LLateThermometers$Place;" ∈ lw_all := lw_c0 (List.mem_of_getElem? (i := 208) (by decide +kernel)) rfl
theorem qf_RX6_22 : Cond.fieldLink RX6 22 "LateThermometers" "history" "LLateThermometers$History;" ∈ lw_all := lw_c0 (List.mem_of_getElem? (i := 209) (by decide +kernel)) rfl
theorem qf_RX6_29 : Cond.fieldLink RX6 29 "LateThermometers" "firstSnapshot" "LLateThermometers$Snapshot;" ∈ lw_all := lw_c0 (List.mem_of_getElem? (i := 210) (by decide +kernel)) rfl
theorem qf_RX6_33 : Cond.fieldLink RX6 33 "LateThermometers" "secondSnapshot" "LLateThermometers$Snapshot;" ∈ lw_all := lw_c0 (List.mem_of_getElem? (i := 211) (by decide +kernel)) rfl
theorem qf_RX6_39 : Cond.fieldLink RX6 39 "LateThermometers" "text" "LLateThermometers$OrderText;" ∈ lw_all := lw_c0 (List.mem_of_getElem? (i := 212) (by decide +kernel)) rfl
theorem ql_RL_123 : Cond.methodLink RL 123 yL_cell ∈ lw_all := lw_c0 (List.mem_of_getElem? (i := 226) (by decide +kernel)) rfl
theorem qt_yL_cell : Cond.static yL_cell ∈ lw_all := lw_c0 (List.mem_of_getElem? (i := 227) (by decide +kernel)) rfl
theorem qc_yL_cell : Cond.code yL_cell cL_cell 2 (some Jvm.ClassFile.FieldType.int) ∈ lw_all := lw_c0 (List.mem_of_getElem? (i := 228) (by decide +kernel)) rfl
theorem qn_RL_7 : Cond.constant RL 7 (1028477387) ∈ lw_all := lw_c0 (List.mem_of_getElem? (i := 229) (by decide +kernel)) rfl
theorem ql_RL_86 : Cond.methodLink RL 86 yL_low ∈ lw_all := lw_c0 (List.mem_of_getElem? (i := 230) (by decide +kernel)) rfl
theorem qt_yL_low : Cond.static yL_low ∈ lw_all := lw_c0 (List.mem_of_getElem? (i := 231) (by decide +kernel)) rfl
theorem qc_yL_low : Cond.code yL_low cL_low 2 (some Jvm.ClassFile.FieldType.int) ∈ lw_all := lw_c0 (List.mem_of_getElem? (i := 232) (by decide +kernel)) rfl
theorem qn_RL_8 : Cond.constant RL 8 (2147483647) ∈ lw_all := lw_c0 (List.mem_of_getElem? (i := 233) (by decide +kernel)) rfl
theorem ql_RL_116 : Cond.methodLink RL 116 yL_areThermometers ∈ lw_all := lw_c0 (List.mem_of_getElem? (i := 234) (by decide +kernel)) rfl
theorem qt_yL_areThermometers : Cond.static yL_areThermometers ∈ lw_all := lw_c0 (List.mem_of_getElem? (i := 235) (by decide +kernel)) rfl
theorem qc_yL_areThermometers : Cond.code yL_areThermometers cL_areThermometers 13 (some Jvm.ClassFile.FieldType.boolean) ∈ lw_all := lw_c0 (List.mem_of_getElem? (i := 236) (by decide +kernel)) rfl
theorem ql_RL_40 : Cond.methodLink RL 40 yX6_count ∈ lw_all := lw_c0 (List.mem_of_getElem? (i := 237) (by decide +kernel)) rfl
theorem qm_yX6_count : Cond.instanceMethod yX6_count ∈ lw_all := lw_c0 (List.mem_of_getElem? (i := 238) (by decide +kernel)) rfl
theorem qs_yX6_count : Cond.selects RX6 yX6_count yX6_count ∈ lw_all := lw_c0 (List.mem_of_getElem? (i := 239) (by decide +kernel)) rfl
theorem qc_yX6_count : Cond.code yX6_count cX6_count 2 (some Jvm.ClassFile.FieldType.int) ∈ lw_all := lw_c1 (List.mem_of_getElem? (i := 0) (by decide +kernel)) rfl
theorem ql_RX6_47 : Cond.methodLink RX6 47 yX6_checkRange ∈ lw_all := lw_c1 (List.mem_of_getElem? (i := 1) (by decide +kernel)) rfl
theorem qt_yX6_checkRange : Cond.static yX6_checkRange ∈ lw_all := lw_c1 (List.mem_of_getElem? (i := 2) (by decide +kernel)) rfl
theorem qc_yX6_checkRange : Cond.code yX6_checkRange cX6_checkRange 3 none ∈ lw_all := lw_c1 (List.mem_of_getElem? (i := 3) (by decide +kernel)) rfl
theorem qk_RX6_142 : Cond.classLink RX6 142 "java/lang/IllegalArgumentException" ∈ lw_all := lw_c1 (List.mem_of_getElem? (i := 4) (by decide +kernel)) rfl
theorem qz_UNASSIGNED_STACK : Cond.laysStatic "java/lang/Throwable" "UNASSIGNED_STACK" "[Ljava/lang/StackTraceElement;" ∈ lw_tbl := lw_n1 (List.mem_of_getElem? (i := 31) (by decide +kernel))
theorem qz_SUPPRESSED_SENTINEL : Cond.laysStatic "java/lang/Throwable" "SUPPRESSED_SENTINEL" "Ljava/util/List;" ∈ lw_tbl := lw_n1 (List.mem_of_getElem? (i := 33) (by decide +kernel))
theorem qr_RX6_256 : Cond.stringRef RX6 256 "an argument is out of range" ∈ lw_tbl := lw_n1 (List.mem_of_getElem? (i := 45) (by decide +kernel))
theorem qy_2 : Cond.arrayClass Jvm.ClassFile.FieldType.byte ∈ lw_all := lw_c1 (List.mem_of_getElem? (i := 71) (by decide +kernel)) rfl
theorem ql_RX6_208 : Cond.methodLink RX6 208 yX3_maskOfAsked ∈ lw_all := lw_c1 (List.mem_of_getElem? (i := 72) (by decide +kernel)) rfl
theorem qm_yX3_maskOfAsked : Cond.instanceMethod yX3_maskOfAsked ∈ lw_all := lw_c1 (List.mem_of_getElem? (i := 73) (by decide +kernel)) rfl
theorem qs_yX3_maskOfAsked : Cond.selects RX3 yX3_maskOfAsked yX3_maskOfAsked ∈ lw_all := lw_c1 (List.mem_of_getElem? (i := 74) (by decide +kernel)) rfl
theorem qc_yX3_maskOfAsked : Cond.code yX3_maskOfAsked cX3_maskOfAsked 3 (some Jvm.ClassFile.FieldType.int) ∈ lw_all := lw_c1 (List.mem_of_getElem? (i := 75) (by decide +kernel)) rfl
theorem ql_RX3_53 : Cond.methodLink RX3 53 yX3_at ∈ lw_all := lw_c1 (List.mem_of_getElem? (i := 76) (by decide +kernel)) rfl
theorem qm_yX3_at : Cond.instanceMethod yX3_at ∈ lw_all := lw_c1 (List.mem_of_getElem? (i := 77) (by decide +kernel)) rfl
theorem qs_yX3_at : Cond.selects RX3 yX3_at yX3_at ∈ lw_all := lw_c1 (List.mem_of_getElem? (i := 78) (by decide +kernel)) rfl
theorem qc_yX3_at : Cond.code yX3_at cX3_at 3 (some (Jvm.ClassFile.FieldType.object "LateThermometers$Thermometer")) ∈ lw_all := lw_c1 (List.mem_of_getElem? (i := 79) (by decide +kernel)) rfl
theorem ql_RX3_153 : Cond.methodLink RX3 153 yX5_isAsked ∈ lw_all := lw_c1 (List.mem_of_getElem? (i := 80) (by decide +kernel)) rfl
theorem qm_yX5_isAsked : Cond.instanceMethod yX5_isAsked ∈ lw_all := lw_c1 (List.mem_of_getElem? (i := 81) (by decide +kernel)) rfl
theorem qs_yX5_isAsked : Cond.selects RX5 yX5_isAsked yX5_isAsked ∈ lw_all := lw_c1 (List.mem_of_getElem? (i := 82) (by decide +kernel)) rfl
theorem qc_yX5_isAsked : Cond.code yX5_isAsked cX5_isAsked 1 (some Jvm.ClassFile.FieldType.boolean) ∈ lw_all := lw_c1 (List.mem_of_getElem? (i := 83) (by decide +kernel)) rfl
theorem ql_RX6_211 : Cond.methodLink RX6 211 yX3_maskOfShutOut ∈ lw_all := lw_c1 (List.mem_of_getElem? (i := 84) (by decide +kernel)) rfl
theorem qm_yX3_maskOfShutOut : Cond.instanceMethod yX3_maskOfShutOut ∈ lw_all := lw_c1 (List.mem_of_getElem? (i := 85) (by decide +kernel)) rfl
theorem qs_yX3_maskOfShutOut : Cond.selects RX3 yX3_maskOfShutOut yX3_maskOfShutOut ∈ lw_all := lw_c1 (List.mem_of_getElem? (i := 86) (by decide +kernel)) rfl
theorem qc_yX3_maskOfShutOut : Cond.code yX3_maskOfShutOut cX3_maskOfShutOut 3 (some Jvm.ClassFile.FieldType.int) ∈ lw_all := lw_c1 (List.mem_of_getElem? (i := 87) (by decide +kernel)) rfl
theorem ql_RX6_214 : Cond.methodLink RX6 214 yX3_mean ∈ lw_all := lw_c1 (List.mem_of_getElem? (i := 88) (by decide +kernel)) rfl
theorem qm_yX3_mean : Cond.instanceMethod yX3_mean ∈ lw_all := lw_c1 (List.mem_of_getElem? (i := 89) (by decide +kernel)) rfl
theorem qs_yX3_mean : Cond.selects RX3 yX3_mean yX3_mean ∈ lw_all := lw_c1 (List.mem_of_getElem? (i := 90) (by decide +kernel)) rfl
theorem qc_yX3_mean : Cond.code yX3_mean cX3_mean 4 (some Jvm.ClassFile.FieldType.int) ∈ lw_all := lw_c1 (List.mem_of_getElem? (i := 91) (by decide +kernel)) rfl
theorem qt_yX6_quotient : Cond.static yX6_quotient ∈ lw_all := lw_c1 (List.mem_of_getElem? (i := 93) (by decide +kernel)) rfl
theorem qc_yX6_quotient : Cond.code yX6_quotient cX6_quotient 2 (some Jvm.ClassFile.FieldType.int) ∈ lw_all := lw_c1 (List.mem_of_getElem? (i := 94) (by decide +kernel)) rfl
theorem ql_RX6_217 : Cond.methodLink RX6 217 yX3_slope ∈ lw_all := lw_c1 (List.mem_of_getElem? (i := 95) (by decide +kernel)) rfl
theorem qm_yX3_slope : Cond.instanceMethod yX3_slope ∈ lw_all := lw_c1 (List.mem_of_getElem? (i := 96) (by decide +kernel)) rfl
theorem qs_yX3_slope : Cond.selects RX3 yX3_slope yX3_slope ∈ lw_all := lw_c1 (List.mem_of_getElem? (i := 97) (by decide +kernel)) rfl
theorem qc_yX3_slope : Cond.code yX3_slope cX3_slope 2 (some Jvm.ClassFile.FieldType.int) ∈ lw_all := lw_c1 (List.mem_of_getElem? (i := 98) (by decide +kernel)) rfl
theorem ql_RX3_104 : Cond.methodLink RX3 104 yX3_mean ∈ lw_all := lw_c1 (List.mem_of_getElem? (i := 99) (by decide +kernel)) rfl
theorem ql_RX6_220 : Cond.methodLink RX6 220 yX3_middleWithout ∈ lw_all := lw_c1 (List.mem_of_getElem? (i := 100) (by decide +kernel)) rfl
theorem qm_yX3_middleWithout : Cond.instanceMethod yX3_middleWithout ∈ lw_all := lw_c1 (List.mem_of_getElem? (i := 101) (by decide +kernel)) rfl
theorem qs_yX3_middleWithout : Cond.selects RX3 yX3_middleWithout yX3_middleWithout ∈ lw_all := lw_c1 (List.mem_of_getElem? (i := 102) (by decide +kernel)) rfl
theorem qc_yX3_middleWithout : Cond.code yX3_middleWithout cX3_middleWithout 3 (some Jvm.ClassFile.FieldType.int) ∈ lw_all := lw_c1 (List.mem_of_getElem? (i := 103) (by decide +kernel)) rfl
theorem ql_RX3_150 : Cond.methodLink RX3 150 yX0_clear ∈ lw_all := lw_c1 (List.mem_of_getElem? (i := 104) (by decide +kernel)) rfl
theorem qm_yX0_clear : Cond.instanceMethod yX0_clear ∈ lw_all := lw_c1 (List.mem_of_getElem? (i := 105) (by decide +kernel)) rfl
theorem qs_yX0_clear : Cond.selects RX0 yX0_clear yX0_clear ∈ lw_all := lw_c1 (List.mem_of_getElem? (i := 106) (by decide +kernel)) rfl
theorem qc_yX0_clear : Cond.code yX0_clear cX0_clear 1 none ∈ lw_all := lw_c1 (List.mem_of_getElem? (i := 107) (by decide +kernel)) rfl
theorem ql_RX3_160 : Cond.methodLink RX3 160 yX0_insert ∈ lw_all := lw_c1 (List.mem_of_getElem? (i := 108) (by decide +kernel)) rfl
theorem qm_yX0_insert : Cond.instanceMethod yX0_insert ∈ lw_all := lw_c1 (List.mem_of_getElem? (i := 109) (by decide +kernel)) rfl
theorem qs_yX0_insert : Cond.selects RX0 yX0_insert yX0_insert ∈ lw_all := lw_c1 (List.mem_of_getElem? (i := 110) (by decide +kernel)) rfl
theorem qc_yX0_insert : Cond.code yX0_insert cX0_insert 3 none ∈ lw_all := lw_c1 (List.mem_of_getElem? (i := 111) (by decide +kernel)) rfl
theorem ql_RX3_163 : Cond.methodLink RX3 163 yX0_middle ∈ lw_all := lw_c1 (List.mem_of_getElem? (i := 112) (by decide +kernel)) rfl
theorem qm_yX0_middle : Cond.instanceMethod yX0_middle ∈ lw_all := lw_c1 (List.mem_of_getElem? (i := 113) (by decide +kernel)) rfl
theorem qs_yX0_middle : Cond.selects RX0 yX0_middle yX0_middle ∈ lw_all := lw_c1 (List.mem_of_getElem? (i := 114) (by decide +kernel)) rfl
theorem qc_yX0_middle : Cond.code yX0_middle cX0_middle 2 (some Jvm.ClassFile.FieldType.int) ∈ lw_all := lw_c1 (List.mem_of_getElem? (i := 115) (by decide +kernel)) rfl
theorem qn_RX0_19 : Cond.constant RX0 19 (-999999) ∈ lw_all := lw_c1 (List.mem_of_getElem? (i := 116) (by decide +kernel)) rfl
theorem ql_RL_45 : Cond.methodLink RL 45 yX6_ofThermometer ∈ lw_all := lw_c1 (List.mem_of_getElem? (i := 117) (by decide +kernel)) rfl
theorem qm_yX6_ofThermometer : Cond.instanceMethod yX6_ofThermometer ∈ lw_all := lw_c1 (List.mem_of_getElem? (i := 118) (by decide +kernel)) rfl
theorem qs_yX6_ofThermometer : Cond.selects RX6 yX6_ofThermometer yX6_ofThermometer ∈ lw_all := lw_c1 (List.mem_of_getElem? (i := 119) (by decide +kernel)) rfl
theorem qc_yX6_ofThermometer : Cond.code yX6_ofThermometer cX6_ofThermometer 3 (some Jvm.ClassFile.FieldType.int) ∈ lw_all := lw_c1 (List.mem_of_getElem? (i := 120) (by decide +kernel)) rfl
theorem ql_RX6_91 : Cond.methodLink RX6 91 yX6_checkThermometer ∈ lw_all := lw_c1 (List.mem_of_getElem? (i := 121) (by decide +kernel)) rfl
theorem qm_yX6_checkThermometer : Cond.instanceMethod yX6_checkThermometer ∈ lw_all := lw_c1 (List.mem_of_getElem? (i := 123) (by decide +kernel)) rfl
theorem qc_yX6_checkThermometer : Cond.code yX6_checkThermometer cX6_checkThermometer 2 none ∈ lw_all := lw_c1 (List.mem_of_getElem? (i := 124) (by decide +kernel)) rfl
theorem ql_RX6_260 : Cond.methodLink RX6 260 yX3_has ∈ lw_all := lw_c1 (List.mem_of_getElem? (i := 125) (by decide +kernel)) rfl
theorem qm_yX3_has : Cond.instanceMethod yX3_has ∈ lw_all := lw_c1 (List.mem_of_getElem? (i := 126) (by decide +kernel)) rfl
theorem qs_yX3_has : Cond.selects RX3 yX3_has yX3_has ∈ lw_all := lw_c1 (List.mem_of_getElem? (i := 127) (by decide +kernel)) rfl
theorem qc_yX3_has : Cond.code yX3_has cX3_has 2 (some Jvm.ClassFile.FieldType.boolean) ∈ lw_all := lw_c1 (List.mem_of_getElem? (i := 128) (by decide +kernel)) rfl
theorem qk_RX6_112 : Cond.classLink RX6 112 "java/lang/IndexOutOfBoundsException" ∈ lw_all := lw_c1 (List.mem_of_getElem? (i := 129) (by decide +kernel)) rfl
theorem qr_RX6_264 : Cond.stringRef RX6 264 "there is no such thermometer" ∈ lw_tbl := lw_n1 (List.mem_of_getElem? (i := 138) (by decide +kernel))
theorem ql_RX6_94 : Cond.methodLink RX6 94 yX3_at ∈ lw_all := lw_c1 (List.mem_of_getElem? (i := 145) (by decide +kernel)) rfl
end
section
theorem ql_RX6_186 : Cond.methodLink RX6 186 yX5_numberOf ∈ lw_all := lw_c1 (List.mem_of_getElem? (i := 146) (by decide +kernel)) rfl
theorem qm_yX5_numberOf : Cond.instanceMethod yX5_numberOf ∈ lw_all := lw_c1 (List.mem_of_getElem? (i := 147) (by decide +kernel)) rfl
theorem qs_yX5_numberOf : Cond.selects RX5 yX5_numberOf yX5_numberOf ∈ lw_all := lw_c1 (List.mem_of_getElem? (i := 148) (by decide +kernel)) rfl
theorem qc_yX5_numberOf : Cond.code yX5_numberOf cX5_numberOf 2 (some Jvm.ClassFile.FieldType.int) ∈ lw_all := lw_c1 (List.mem_of_getElem? (i := 149) (by decide +kernel)) rfl
theorem ql_RL_20 : Cond.methodLink RL 20 yL_own ∈ lw_all := lw_c1 (List.mem_of_getElem? (i := 150) (by decide +kernel)) rfl
theorem qt_yL_own : Cond.static yL_own ∈ lw_all := lw_c1 (List.mem_of_getElem? (i := 151) (by decide +kernel)) rfl
theorem qc_yL_own : Cond.code yL_own cL_own 4 (some Jvm.ClassFile.FieldType.int) ∈ lw_all := lw_c1 (List.mem_of_getElem? (i := 152) (by decide +kernel)) rfl
theorem ql_RL_12 : Cond.methodLink RL 12 yL_mended ∈ lw_all := lw_c1 (List.mem_of_getElem? (i := 153) (by decide +kernel)) rfl
theorem qt_yL_mended : Cond.static yL_mended ∈ lw_all := lw_c1 (List.mem_of_getElem? (i := 154) (by decide +kernel)) rfl
theorem qc_yL_mended : Cond.code yL_mended cL_mended 7 (some Jvm.ClassFile.FieldType.int) ∈ lw_all := lw_c1 (List.mem_of_getElem? (i := 155) (by decide +kernel)) rfl
theorem qn_RL_11 : Cond.constant RL 11 (-999999) ∈ lw_all := lw_c1 (List.mem_of_getElem? (i := 156) (by decide +kernel)) rfl
theorem ql_RL_49 : Cond.methodLink RL 49 yX6_reading ∈ lw_all := lw_c1 (List.mem_of_getElem? (i := 157) (by decide +kernel)) rfl
theorem qm_yX6_reading : Cond.instanceMethod yX6_reading ∈ lw_all := lw_c1 (List.mem_of_getElem? (i := 158) (by decide +kernel)) rfl
theorem qs_yX6_reading : Cond.selects RX6 yX6_reading yX6_reading ∈ lw_all := lw_c1 (List.mem_of_getElem? (i := 159) (by decide +kernel)) rfl
theorem qc_yX6_reading : Cond.code yX6_reading cX6_reading 5 (some Jvm.ClassFile.FieldType.int) ∈ lw_all := lw_c1 (List.mem_of_getElem? (i := 160) (by decide +kernel)) rfl
theorem ql_RX6_189 : Cond.methodLink RX6 189 yX6_checkNotNegative ∈ lw_all := lw_c1 (List.mem_of_getElem? (i := 161) (by decide +kernel)) rfl
theorem qt_yX6_checkNotNegative : Cond.static yX6_checkNotNegative ∈ lw_all := lw_c1 (List.mem_of_getElem? (i := 162) (by decide +kernel)) rfl
theorem qc_yX6_checkNotNegative : Cond.code yX6_checkNotNegative cX6_checkNotNegative 1 none ∈ lw_all := lw_c1 (List.mem_of_getElem? (i := 163) (by decide +kernel)) rfl
theorem qr_RX6_258 : Cond.stringRef RX6 258 "an argument is negative" ∈ lw_tbl := lw_n1 (List.mem_of_getElem? (i := 164) (by decide +kernel))
theorem ql_RX6_192 : Cond.methodLink RX6 192 yX5_hourAgo ∈ lw_all := lw_c1 (List.mem_of_getElem? (i := 165) (by decide +kernel)) rfl
theorem qm_yX5_hourAgo : Cond.instanceMethod yX5_hourAgo ∈ lw_all := lw_c1 (List.mem_of_getElem? (i := 166) (by decide +kernel)) rfl
theorem qs_yX5_hourAgo : Cond.selects RX5 yX5_hourAgo yX5_hourAgo ∈ lw_all := lw_c1 (List.mem_of_getElem? (i := 167) (by decide +kernel)) rfl
theorem qc_yX5_hourAgo : Cond.code yX5_hourAgo cX5_hourAgo 2 (some Jvm.ClassFile.FieldType.int) ∈ lw_all := lw_c1 (List.mem_of_getElem? (i := 168) (by decide +kernel)) rfl
theorem qt_yX6_entry : Cond.static yX6_entry ∈ lw_all := lw_c1 (List.mem_of_getElem? (i := 170) (by decide +kernel)) rfl
theorem qc_yX6_entry : Cond.code yX6_entry cX6_entry 2 (some Jvm.ClassFile.FieldType.int) ∈ lw_all := lw_c1 (List.mem_of_getElem? (i := 171) (by decide +kernel)) rfl
theorem qn_RX6_283 : Cond.constant RX6 283 (-999999) ∈ lw_all := lw_c1 (List.mem_of_getElem? (i := 172) (by decide +kernel)) rfl
theorem ql_RX6_195 : Cond.methodLink RX6 195 yX5_valueAgo ∈ lw_all := lw_c1 (List.mem_of_getElem? (i := 173) (by decide +kernel)) rfl
theorem qm_yX5_valueAgo : Cond.instanceMethod yX5_valueAgo ∈ lw_all := lw_c1 (List.mem_of_getElem? (i := 174) (by decide +kernel)) rfl
theorem qs_yX5_valueAgo : Cond.selects RX5 yX5_valueAgo yX5_valueAgo ∈ lw_all := lw_c1 (List.mem_of_getElem? (i := 175) (by decide +kernel)) rfl
theorem qc_yX5_valueAgo : Cond.code yX5_valueAgo cX5_valueAgo 2 (some Jvm.ClassFile.FieldType.int) ∈ lw_all := lw_c1 (List.mem_of_getElem? (i := 176) (by decide +kernel)) rfl
theorem ql_RL_16 : Cond.methodLink RL 16 yL_asked ∈ lw_all := lw_c1 (List.mem_of_getElem? (i := 177) (by decide +kernel)) rfl
theorem qt_yL_asked : Cond.static yL_asked ∈ lw_all := lw_c1 (List.mem_of_getElem? (i := 178) (by decide +kernel)) rfl
theorem qc_yL_asked : Cond.code yL_asked cL_asked 2 (some Jvm.ClassFile.FieldType.boolean) ∈ lw_all := lw_c1 (List.mem_of_getElem? (i := 179) (by decide +kernel)) rfl
theorem ql_RL_36 : Cond.methodLink RL 36 yL_size ∈ lw_all := lw_c1 (List.mem_of_getElem? (i := 180) (by decide +kernel)) rfl
theorem qt_yL_size : Cond.static yL_size ∈ lw_all := lw_c1 (List.mem_of_getElem? (i := 181) (by decide +kernel)) rfl
theorem qc_yL_size : Cond.code yL_size cL_size 1 (some Jvm.ClassFile.FieldType.int) ∈ lw_all := lw_c1 (List.mem_of_getElem? (i := 182) (by decide +kernel)) rfl
theorem ql_RL_53 : Cond.methodLink RL 53 yX6_meanError ∈ lw_all := lw_c1 (List.mem_of_getElem? (i := 183) (by decide +kernel)) rfl
theorem qm_yX6_meanError : Cond.instanceMethod yX6_meanError ∈ lw_all := lw_c1 (List.mem_of_getElem? (i := 184) (by decide +kernel)) rfl
theorem qs_yX6_meanError : Cond.selects RX6 yX6_meanError yX6_meanError ∈ lw_all := lw_c1 (List.mem_of_getElem? (i := 185) (by decide +kernel)) rfl
theorem qc_yX6_meanError : Cond.code yX6_meanError cX6_meanError 2 (some Jvm.ClassFile.FieldType.double) ∈ lw_all := lw_c1 (List.mem_of_getElem? (i := 186) (by decide +kernel)) rfl
theorem ql_RX6_248 : Cond.methodLink RX6 248 yX3_countMended ∈ lw_all := lw_c1 (List.mem_of_getElem? (i := 187) (by decide +kernel)) rfl
theorem qm_yX3_countMended : Cond.instanceMethod yX3_countMended ∈ lw_all := lw_c1 (List.mem_of_getElem? (i := 188) (by decide +kernel)) rfl
theorem qs_yX3_countMended : Cond.selects RX3 yX3_countMended yX3_countMended ∈ lw_all := lw_c1 (List.mem_of_getElem? (i := 189) (by decide +kernel)) rfl
theorem qc_yX3_countMended : Cond.code yX3_countMended cX3_countMended 3 (some Jvm.ClassFile.FieldType.int) ∈ lw_all := lw_c1 (List.mem_of_getElem? (i := 190) (by decide +kernel)) rfl
theorem ql_RX3_176 : Cond.methodLink RX3 176 yX5_hasMended ∈ lw_all := lw_c1 (List.mem_of_getElem? (i := 191) (by decide +kernel)) rfl
theorem qm_yX5_hasMended : Cond.instanceMethod yX5_hasMended ∈ lw_all := lw_c1 (List.mem_of_getElem? (i := 192) (by decide +kernel)) rfl
theorem qs_yX5_hasMended : Cond.selects RX5 yX5_hasMended yX5_hasMended ∈ lw_all := lw_c1 (List.mem_of_getElem? (i := 193) (by decide +kernel)) rfl
theorem qc_yX5_hasMended : Cond.code yX5_hasMended cX5_hasMended 1 (some Jvm.ClassFile.FieldType.boolean) ∈ lw_all := lw_c1 (List.mem_of_getElem? (i := 194) (by decide +kernel)) rfl
theorem ql_RX6_251 : Cond.methodLink RX6 251 yX3_sumOfErrors ∈ lw_all := lw_c1 (List.mem_of_getElem? (i := 195) (by decide +kernel)) rfl
theorem qm_yX3_sumOfErrors : Cond.instanceMethod yX3_sumOfErrors ∈ lw_all := lw_c1 (List.mem_of_getElem? (i := 196) (by decide +kernel)) rfl
theorem qs_yX3_sumOfErrors : Cond.selects RX3 yX3_sumOfErrors yX3_sumOfErrors ∈ lw_all := lw_c1 (List.mem_of_getElem? (i := 197) (by decide +kernel)) rfl
theorem qc_yX3_sumOfErrors : Cond.code yX3_sumOfErrors cX3_sumOfErrors 3 (some Jvm.ClassFile.FieldType.int) ∈ lw_all := lw_c1 (List.mem_of_getElem? (i := 198) (by decide +kernel)) rfl
theorem ql_RX3_185 : Cond.methodLink RX3 185 yX5_error ∈ lw_all := lw_c1 (List.mem_of_getElem? (i := 199) (by decide +kernel)) rfl
theorem qm_yX5_error : Cond.instanceMethod yX5_error ∈ lw_all := lw_c1 (List.mem_of_getElem? (i := 200) (by decide +kernel)) rfl
theorem qs_yX5_error : Cond.selects RX5 yX5_error yX5_error ∈ lw_all := lw_c1 (List.mem_of_getElem? (i := 201) (by decide +kernel)) rfl
theorem qc_yX5_error : Cond.code yX5_error cX5_error 2 (some Jvm.ClassFile.FieldType.int) ∈ lw_all := lw_c1 (List.mem_of_getElem? (i := 202) (by decide +kernel)) rfl
theorem ql_RX5_94 : Cond.methodLink RX5 94 yJ9_abs_0f7a4 ∈ lw_all := lw_c1 (List.mem_of_getElem? (i := 203) (by decide +kernel)) rfl
theorem qt_yJ9_abs_0f7a4 : Cond.static yJ9_abs_0f7a4 ∈ lw_all := lw_c1 (List.mem_of_getElem? (i := 204) (by decide +kernel)) rfl
theorem qc_yJ9_abs_0f7a4 : Cond.code yJ9_abs_0f7a4 cJ9_abs_0f7a4 1 (some Jvm.ClassFile.FieldType.int) ∈ lw_all := lw_c1 (List.mem_of_getElem? (i := 205) (by decide +kernel)) rfl
theorem ql_RL_120 : Cond.methodLink RL 120 yL_areNumbers ∈ lw_all := lw_c1 (List.mem_of_getElem? (i := 206) (by decide +kernel)) rfl
theorem qt_yL_areNumbers : Cond.static yL_areNumbers ∈ lw_all := lw_c1 (List.mem_of_getElem? (i := 207) (by decide +kernel)) rfl
theorem qc_yL_areNumbers : Cond.code yL_areNumbers cL_areNumbers 11 (some Jvm.ClassFile.FieldType.boolean) ∈ lw_all := lw_c1 (List.mem_of_getElem? (i := 208) (by decide +kernel)) rfl
theorem ql_RL_24 : Cond.methodLink RL 24 yL_mean ∈ lw_all := lw_c1 (List.mem_of_getElem? (i := 209) (by decide +kernel)) rfl
theorem qt_yL_mean : Cond.static yL_mean ∈ lw_all := lw_c1 (List.mem_of_getElem? (i := 210) (by decide +kernel)) rfl
theorem qc_yL_mean : Cond.code yL_mean cL_mean 7 (some Jvm.ClassFile.FieldType.int) ∈ lw_all := lw_c1 (List.mem_of_getElem? (i := 211) (by decide +kernel)) rfl
theorem ql_RL_32 : Cond.methodLink RL 32 yL_middle ∈ lw_all := lw_c1 (List.mem_of_getElem? (i := 212) (by decide +kernel)) rfl
theorem qt_yL_middle : Cond.static yL_middle ∈ lw_all := lw_c1 (List.mem_of_getElem? (i := 213) (by decide +kernel)) rfl
theorem qc_yL_middle : Cond.code yL_middle cL_middle 10 (some Jvm.ClassFile.FieldType.int) ∈ lw_all := lw_c1 (List.mem_of_getElem? (i := 214) (by decide +kernel)) rfl
theorem ql_RL_57 : Cond.methodLink RL 57 yX6_row ∈ lw_all := lw_c1 (List.mem_of_getElem? (i := 215) (by decide +kernel)) rfl
theorem qm_yX6_row : Cond.instanceMethod yX6_row ∈ lw_all := lw_c1 (List.mem_of_getElem? (i := 216) (by decide +kernel)) rfl
theorem qs_yX6_row : Cond.selects RX6 yX6_row yX6_row ∈ lw_all := lw_c1 (List.mem_of_getElem? (i := 217) (by decide +kernel)) rfl
theorem qc_yX6_row : Cond.code yX6_row cX6_row 3 (some Jvm.ClassFile.FieldType.int) ∈ lw_all := lw_c1 (List.mem_of_getElem? (i := 218) (by decide +kernel)) rfl
theorem ql_RX6_43 : Cond.methodLink RX6 43 yX6_checkRow ∈ lw_all := lw_c1 (List.mem_of_getElem? (i := 219) (by decide +kernel)) rfl
theorem qt_yX6_checkRow : Cond.static yX6_checkRow ∈ lw_all := lw_c1 (List.mem_of_getElem? (i := 220) (by decide +kernel)) rfl
theorem qc_yX6_checkRow : Cond.code yX6_checkRow cX6_checkRow 1 none ∈ lw_all := lw_c1 (List.mem_of_getElem? (i := 221) (by decide +kernel)) rfl
theorem qr_RX6_254 : Cond.stringRef RX6 254 "there is no such row" ∈ lw_tbl := lw_n1 (List.mem_of_getElem? (i := 222) (by decide +kernel))
theorem ql_RX6_85 : Cond.methodLink RX6 85 yX3_periodOf ∈ lw_all := lw_c1 (List.mem_of_getElem? (i := 223) (by decide +kernel)) rfl
theorem qm_yX3_periodOf : Cond.instanceMethod yX3_periodOf ∈ lw_all := lw_c1 (List.mem_of_getElem? (i := 224) (by decide +kernel)) rfl
theorem qs_yX3_periodOf : Cond.selects RX3 yX3_periodOf yX3_periodOf ∈ lw_all := lw_c1 (List.mem_of_getElem? (i := 225) (by decide +kernel)) rfl
theorem qc_yX3_periodOf : Cond.code yX3_periodOf cX3_periodOf 2 (some Jvm.ClassFile.FieldType.int) ∈ lw_all := lw_c1 (List.mem_of_getElem? (i := 226) (by decide +kernel)) rfl
theorem ql_RX6_198 : Cond.methodLink RX6 198 yX3_countInRow ∈ lw_all := lw_c1 (List.mem_of_getElem? (i := 228) (by decide +kernel)) rfl
theorem qm_yX3_countInRow : Cond.instanceMethod yX3_countInRow ∈ lw_all := lw_c1 (List.mem_of_getElem? (i := 229) (by decide +kernel)) rfl
theorem qs_yX3_countInRow : Cond.selects RX3 yX3_countInRow yX3_countInRow ∈ lw_all := lw_c1 (List.mem_of_getElem? (i := 230) (by decide +kernel)) rfl
theorem qc_yX3_countInRow : Cond.code yX3_countInRow cX3_countInRow 4 (some Jvm.ClassFile.FieldType.int) ∈ lw_all := lw_c1 (List.mem_of_getElem? (i := 231) (by decide +kernel)) rfl
theorem ql_RX6_201 : Cond.methodLink RX6 201 yX3_hoursUntilRead ∈ lw_all := lw_c1 (List.mem_of_getElem? (i := 232) (by decide +kernel)) rfl
theorem qm_yX3_hoursUntilRead : Cond.instanceMethod yX3_hoursUntilRead ∈ lw_all := lw_c1 (List.mem_of_getElem? (i := 233) (by decide +kernel)) rfl
theorem qs_yX3_hoursUntilRead : Cond.selects RX3 yX3_hoursUntilRead yX3_hoursUntilRead ∈ lw_all := lw_c1 (List.mem_of_getElem? (i := 234) (by decide +kernel)) rfl
theorem qc_yX3_hoursUntilRead : Cond.code yX3_hoursUntilRead cX3_hoursUntilRead 2 (some Jvm.ClassFile.FieldType.int) ∈ lw_all := lw_c1 (List.mem_of_getElem? (i := 235) (by decide +kernel)) rfl
theorem ql_RX3_82 : Cond.methodLink RX3 82 yX3_periodOf ∈ lw_all := lw_c1 (List.mem_of_getElem? (i := 236) (by decide +kernel)) rfl
theorem qt_yX6_remainder : Cond.static yX6_remainder ∈ lw_all := lw_c1 (List.mem_of_getElem? (i := 238) (by decide +kernel)) rfl
theorem qc_yX6_remainder : Cond.code yX6_remainder cX6_remainder 2 (some Jvm.ClassFile.FieldType.int) ∈ lw_all := lw_c1 (List.mem_of_getElem? (i := 239) (by decide +kernel)) rfl
theorem ql_RX6_204 : Cond.methodLink RX6 204 yX3_timesReadOf ∈ lw_all := lw_c2 (List.mem_of_getElem? (i := 0) (by decide +kernel)) rfl
theorem qm_yX3_timesReadOf : Cond.instanceMethod yX3_timesReadOf ∈ lw_all := lw_c2 (List.mem_of_getElem? (i := 1) (by decide +kernel)) rfl
theorem qs_yX3_timesReadOf : Cond.selects RX3 yX3_timesReadOf yX3_timesReadOf ∈ lw_all := lw_c2 (List.mem_of_getElem? (i := 2) (by decide +kernel)) rfl
theorem qc_yX3_timesReadOf : Cond.code yX3_timesReadOf cX3_timesReadOf 2 (some Jvm.ClassFile.FieldType.int) ∈ lw_all := lw_c2 (List.mem_of_getElem? (i := 3) (by decide +kernel)) rfl
theorem ql_RL_131 : Cond.methodLink RL 131 yL_areRanked ∈ lw_all := lw_c2 (List.mem_of_getElem? (i := 4) (by decide +kernel)) rfl
theorem qt_yL_areRanked : Cond.static yL_areRanked ∈ lw_all := lw_c2 (List.mem_of_getElem? (i := 5) (by decide +kernel)) rfl
theorem qc_yL_areRanked : Cond.code yL_areRanked cL_areRanked 16 (some Jvm.ClassFile.FieldType.boolean) ∈ lw_all := lw_c2 (List.mem_of_getElem? (i := 6) (by decide +kernel)) rfl
theorem ql_RL_60 : Cond.methodLink RL 60 yX6_ranked ∈ lw_all := lw_c2 (List.mem_of_getElem? (i := 7) (by decide +kernel)) rfl
theorem qm_yX6_ranked : Cond.instanceMethod yX6_ranked ∈ lw_all := lw_c2 (List.mem_of_getElem? (i := 8) (by decide +kernel)) rfl
theorem qs_yX6_ranked : Cond.selects RX6 yX6_ranked yX6_ranked ∈ lw_all := lw_c2 (List.mem_of_getElem? (i := 9) (by decide +kernel)) rfl
theorem qc_yX6_ranked : Cond.code yX6_ranked cX6_ranked 3 (some Jvm.ClassFile.FieldType.int) ∈ lw_all := lw_c2 (List.mem_of_getElem? (i := 10) (by decide +kernel)) rfl
theorem ql_RX6_229 : Cond.methodLink RX6 229 yX3_atRank ∈ lw_all := lw_c2 (List.mem_of_getElem? (i := 11) (by decide +kernel)) rfl
theorem qm_yX3_atRank : Cond.instanceMethod yX3_atRank ∈ lw_all := lw_c2 (List.mem_of_getElem? (i := 12) (by decide +kernel)) rfl
theorem qs_yX3_atRank : Cond.selects RX3 yX3_atRank yX3_atRank ∈ lw_all := lw_c2 (List.mem_of_getElem? (i := 13) (by decide +kernel)) rfl
theorem qc_yX3_atRank : Cond.code yX3_atRank cX3_atRank 4 (some Jvm.ClassFile.FieldType.int) ∈ lw_all := lw_c2 (List.mem_of_getElem? (i := 14) (by decide +kernel)) rfl
theorem ql_RX3_179 : Cond.methodLink RX3 179 yX3_countAheadOf ∈ lw_all := lw_c2 (List.mem_of_getElem? (i := 15) (by decide +kernel)) rfl
theorem qm_yX3_countAheadOf : Cond.instanceMethod yX3_countAheadOf ∈ lw_all := lw_c2 (List.mem_of_getElem? (i := 17) (by decide +kernel)) rfl
theorem qc_yX3_countAheadOf : Cond.code yX3_countAheadOf cX3_countAheadOf 7 (some Jvm.ClassFile.FieldType.int) ∈ lw_all := lw_c2 (List.mem_of_getElem? (i := 18) (by decide +kernel)) rfl
theorem ql_RX3_182 : Cond.methodLink RX3 182 yX3_sortKey ∈ lw_all := lw_c2 (List.mem_of_getElem? (i := 19) (by decide +kernel)) rfl
theorem qm_yX3_sortKey : Cond.instanceMethod yX3_sortKey ∈ lw_all := lw_c2 (List.mem_of_getElem? (i := 21) (by decide +kernel)) rfl
theorem qc_yX3_sortKey : Cond.code yX3_sortKey cX3_sortKey 3 (some Jvm.ClassFile.FieldType.int) ∈ lw_all := lw_c2 (List.mem_of_getElem? (i := 22) (by decide +kernel)) rfl
theorem ql_RL_63 : Cond.methodLink RL 63 yX6_between ∈ lw_all := lw_c2 (List.mem_of_getElem? (i := 23) (by decide +kernel)) rfl
theorem qm_yX6_between : Cond.instanceMethod yX6_between ∈ lw_all := lw_c2 (List.mem_of_getElem? (i := 24) (by decide +kernel)) rfl
theorem qs_yX6_between : Cond.selects RX6 yX6_between yX6_between ∈ lw_all := lw_c2 (List.mem_of_getElem? (i := 25) (by decide +kernel)) rfl
theorem qc_yX6_between : Cond.code yX6_between cX6_between 3 (some Jvm.ClassFile.FieldType.int) ∈ lw_all := lw_c2 (List.mem_of_getElem? (i := 26) (by decide +kernel)) rfl
theorem ql_RX6_233 : Cond.methodLink RX6 233 yX3_countMendedIn ∈ lw_all := lw_c2 (List.mem_of_getElem? (i := 27) (by decide +kernel)) rfl
theorem qm_yX3_countMendedIn : Cond.instanceMethod yX3_countMendedIn ∈ lw_all := lw_c2 (List.mem_of_getElem? (i := 28) (by decide +kernel)) rfl
theorem qs_yX3_countMendedIn : Cond.selects RX3 yX3_countMendedIn yX3_countMendedIn ∈ lw_all := lw_c2 (List.mem_of_getElem? (i := 29) (by decide +kernel)) rfl
theorem qc_yX3_countMendedIn : Cond.code yX3_countMendedIn cX3_countMendedIn 5 (some Jvm.ClassFile.FieldType.int) ∈ lw_all := lw_c2 (List.mem_of_getElem? (i := 30) (by decide +kernel)) rfl
theorem qn_RL_66 : Cond.constant RL 66 (-2000000) ∈ lw_all := lw_c2 (List.mem_of_getElem? (i := 31) (by decide +kernel)) rfl
theorem ql_RL_139 : Cond.methodLink RL 139 yL_would ∈ lw_all := lw_c2 (List.mem_of_getElem? (i := 32) (by decide +kernel)) rfl
theorem qt_yL_would : Cond.static yL_would ∈ lw_all := lw_c2 (List.mem_of_getElem? (i := 33) (by decide +kernel)) rfl
theorem qc_yL_would : Cond.code yL_would cL_would 14 (some Jvm.ClassFile.FieldType.boolean) ∈ lw_all := lw_c2 (List.mem_of_getElem? (i := 34) (by decide +kernel)) rfl
theorem ql_RL_67 : Cond.methodLink RL 67 yL_copy ∈ lw_all := lw_c2 (List.mem_of_getElem? (i := 35) (by decide +kernel)) rfl
theorem qt_yL_copy : Cond.static yL_copy ∈ lw_all := lw_c2 (List.mem_of_getElem? (i := 36) (by decide +kernel)) rfl
theorem qc_yL_copy : Cond.code yL_copy cL_copy 3 none ∈ lw_all := lw_c2 (List.mem_of_getElem? (i := 37) (by decide +kernel)) rfl
theorem ql_RL_71 : Cond.methodLink RL 71 yL_hour ∈ lw_all := lw_c2 (List.mem_of_getElem? (i := 38) (by decide +kernel)) rfl
theorem qt_yL_hour : Cond.static yL_hour ∈ lw_all := lw_c2 (List.mem_of_getElem? (i := 39) (by decide +kernel)) rfl
theorem qc_yL_hour : Cond.code yL_hour cL_hour 10 (some Jvm.ClassFile.FieldType.int) ∈ lw_all := lw_c2 (List.mem_of_getElem? (i := 40) (by decide +kernel)) rfl
theorem ql_RL_28 : Cond.methodLink RL 28 yL_change ∈ lw_all := lw_c2 (List.mem_of_getElem? (i := 41) (by decide +kernel)) rfl
theorem qt_yL_change : Cond.static yL_change ∈ lw_all := lw_c2 (List.mem_of_getElem? (i := 42) (by decide +kernel)) rfl
theorem qc_yL_change : Cond.code yL_change cL_change 3 (some Jvm.ClassFile.FieldType.int) ∈ lw_all := lw_c2 (List.mem_of_getElem? (i := 43) (by decide +kernel)) rfl
theorem ql_RL_74 : Cond.methodLink RL 74 yX6_ifStill ∈ lw_all := lw_c2 (List.mem_of_getElem? (i := 44) (by decide +kernel)) rfl
theorem qm_yX6_ifStill : Cond.instanceMethod yX6_ifStill ∈ lw_all := lw_c2 (List.mem_of_getElem? (i := 45) (by decide +kernel)) rfl
theorem qs_yX6_ifStill : Cond.selects RX6 yX6_ifStill yX6_ifStill ∈ lw_all := lw_c2 (List.mem_of_getElem? (i := 46) (by decide +kernel)) rfl
theorem qc_yX6_ifStill : Cond.code yX6_ifStill cX6_ifStill 3 (some Jvm.ClassFile.FieldType.int) ∈ lw_all := lw_c2 (List.mem_of_getElem? (i := 47) (by decide +kernel)) rfl
theorem ql_RX6_183 : Cond.methodLink RX6 183 yX3_copyFrom ∈ lw_all := lw_c2 (List.mem_of_getElem? (i := 48) (by decide +kernel)) rfl
theorem qm_yX3_copyFrom : Cond.instanceMethod yX3_copyFrom ∈ lw_all := lw_c2 (List.mem_of_getElem? (i := 49) (by decide +kernel)) rfl
theorem qs_yX3_copyFrom : Cond.selects RX3 yX3_copyFrom yX3_copyFrom ∈ lw_all := lw_c2 (List.mem_of_getElem? (i := 50) (by decide +kernel)) rfl
theorem qc_yX3_copyFrom : Cond.code yX3_copyFrom cX3_copyFrom 3 none ∈ lw_all := lw_c2 (List.mem_of_getElem? (i := 51) (by decide +kernel)) rfl
theorem ql_RX3_57 : Cond.methodLink RX3 57 yX5_copyFrom ∈ lw_all := lw_c2 (List.mem_of_getElem? (i := 52) (by decide +kernel)) rfl
theorem qm_yX5_copyFrom : Cond.instanceMethod yX5_copyFrom ∈ lw_all := lw_c2 (List.mem_of_getElem? (i := 53) (by decide +kernel)) rfl
theorem qs_yX5_copyFrom : Cond.selects RX5 yX5_copyFrom yX5_copyFrom ∈ lw_all := lw_c2 (List.mem_of_getElem? (i := 54) (by decide +kernel)) rfl
theorem qc_yX5_copyFrom : Cond.code yX5_copyFrom cX5_copyFrom 2 none ∈ lw_all := lw_c2 (List.mem_of_getElem? (i := 55) (by decide +kernel)) rfl
theorem qt_yX6_copyInto : Cond.static yX6_copyInto ∈ lw_all := lw_c2 (List.mem_of_getElem? (i := 57) (by decide +kernel)) rfl
theorem qc_yX6_copyInto : Cond.code yX6_copyInto cX6_copyInto 3 none ∈ lw_all := lw_c2 (List.mem_of_getElem? (i := 58) (by decide +kernel)) rfl
theorem ql_RX6_77 : Cond.methodLink RX6 77 yX3_passHours ∈ lw_all := lw_c2 (List.mem_of_getElem? (i := 60) (by decide +kernel)) rfl
theorem qm_yX3_passHours : Cond.instanceMethod yX3_passHours ∈ lw_all := lw_c2 (List.mem_of_getElem? (i := 61) (by decide +kernel)) rfl
theorem qs_yX3_passHours : Cond.selects RX3 yX3_passHours yX3_passHours ∈ lw_all := lw_c2 (List.mem_of_getElem? (i := 62) (by decide +kernel)) rfl
theorem qc_yX3_passHours : Cond.code yX3_passHours cX3_passHours 5 none ∈ lw_all := lw_c2 (List.mem_of_getElem? (i := 63) (by decide +kernel)) rfl
theorem ql_RX3_93 : Cond.methodLink RX3 93 yJ9_min_7cf53 ∈ lw_all := lw_c2 (List.mem_of_getElem? (i := 64) (by decide +kernel)) rfl
theorem qt_yJ9_min_7cf53 : Cond.static yJ9_min_7cf53 ∈ lw_all := lw_c2 (List.mem_of_getElem? (i := 65) (by decide +kernel)) rfl
theorem qc_yJ9_min_7cf53 : Cond.code yJ9_min_7cf53 cJ9_min_7cf53 2 (some Jvm.ClassFile.FieldType.int) ∈ lw_all := lw_c2 (List.mem_of_getElem? (i := 66) (by decide +kernel)) rfl
theorem ql_RX3_98 : Cond.methodLink RX3 98 yJ9_max_7cf53 ∈ lw_all := lw_c2 (List.mem_of_getElem? (i := 67) (by decide +kernel)) rfl
theorem qt_yJ9_max_7cf53 : Cond.static yJ9_max_7cf53 ∈ lw_all := lw_c2 (List.mem_of_getElem? (i := 68) (by decide +kernel)) rfl
theorem qc_yJ9_max_7cf53 : Cond.code yJ9_max_7cf53 cJ9_max_7cf53 2 (some Jvm.ClassFile.FieldType.int) ∈ lw_all := lw_c2 (List.mem_of_getElem? (i := 69) (by decide +kernel)) rfl
theorem ql_RX3_101 : Cond.methodLink RX3 101 yX3_passHour ∈ lw_all := lw_c2 (List.mem_of_getElem? (i := 70) (by decide +kernel)) rfl
theorem qm_yX3_passHour : Cond.instanceMethod yX3_passHour ∈ lw_all := lw_c2 (List.mem_of_getElem? (i := 71) (by decide +kernel)) rfl
theorem qs_yX3_passHour : Cond.selects RX3 yX3_passHour yX3_passHour ∈ lw_all := lw_c2 (List.mem_of_getElem? (i := 72) (by decide +kernel)) rfl
theorem qc_yX3_passHour : Cond.code yX3_passHour cX3_passHour 3 (some Jvm.ClassFile.FieldType.int) ∈ lw_all := lw_c2 (List.mem_of_getElem? (i := 73) (by decide +kernel)) rfl
theorem ql_RX3_108 : Cond.methodLink RX3 108 yX5_follow ∈ lw_all := lw_c2 (List.mem_of_getElem? (i := 74) (by decide +kernel)) rfl
theorem qm_yX5_follow : Cond.instanceMethod yX5_follow ∈ lw_all := lw_c2 (List.mem_of_getElem? (i := 75) (by decide +kernel)) rfl
theorem qs_yX5_follow : Cond.selects RX5 yX5_follow yX5_follow ∈ lw_all := lw_c2 (List.mem_of_getElem? (i := 76) (by decide +kernel)) rfl
theorem qc_yX5_follow : Cond.code yX5_follow cX5_follow 2 none ∈ lw_all := lw_c2 (List.mem_of_getElem? (i := 77) (by decide +kernel)) rfl
theorem ql_RX5_59 : Cond.methodLink RX5 59 yX5_stepFrom ∈ lw_all := lw_c2 (List.mem_of_getElem? (i := 78) (by decide +kernel)) rfl
theorem qm_yX5_stepFrom : Cond.instanceMethod yX5_stepFrom ∈ lw_all := lw_c2 (List.mem_of_getElem? (i := 80) (by decide +kernel)) rfl
theorem qc_yX5_stepFrom : Cond.code yX5_stepFrom cX5_stepFrom 3 (some Jvm.ClassFile.FieldType.int) ∈ lw_all := lw_c2 (List.mem_of_getElem? (i := 81) (by decide +kernel)) rfl
theorem ql_RX3_112 : Cond.methodLink RX3 112 yX3_readRows ∈ lw_all := lw_c2 (List.mem_of_getElem? (i := 83) (by decide +kernel)) rfl
theorem qm_yX3_readRows : Cond.instanceMethod yX3_readRows ∈ lw_all := lw_c2 (List.mem_of_getElem? (i := 85) (by decide +kernel)) rfl
theorem qc_yX3_readRows : Cond.code yX3_readRows cX3_readRows 2 none ∈ lw_all := lw_c2 (List.mem_of_getElem? (i := 86) (by decide +kernel)) rfl
theorem ql_RX3_118 : Cond.methodLink RX3 118 yX3_isReadNow ∈ lw_all := lw_c2 (List.mem_of_getElem? (i := 87) (by decide +kernel)) rfl
theorem qm_yX3_isReadNow : Cond.instanceMethod yX3_isReadNow ∈ lw_all := lw_c2 (List.mem_of_getElem? (i := 89) (by decide +kernel)) rfl
theorem qc_yX3_isReadNow : Cond.code yX3_isReadNow cX3_isReadNow 2 (some Jvm.ClassFile.FieldType.boolean) ∈ lw_all := lw_c2 (List.mem_of_getElem? (i := 90) (by decide +kernel)) rfl
theorem ql_RX3_122 : Cond.methodLink RX3 122 yX5_takeReading ∈ lw_all := lw_c2 (List.mem_of_getElem? (i := 91) (by decide +kernel)) rfl
theorem qm_yX5_takeReading : Cond.instanceMethod yX5_takeReading ∈ lw_all := lw_c2 (List.mem_of_getElem? (i := 92) (by decide +kernel)) rfl
theorem qs_yX5_takeReading : Cond.selects RX5 yX5_takeReading yX5_takeReading ∈ lw_all := lw_c2 (List.mem_of_getElem? (i := 93) (by decide +kernel)) rfl
theorem qc_yX5_takeReading : Cond.code yX5_takeReading cX5_takeReading 2 none ∈ lw_all := lw_c2 (List.mem_of_getElem? (i := 94) (by decide +kernel)) rfl
theorem qt_yX6_putFirst : Cond.static yX6_putFirst ∈ lw_all := lw_c2 (List.mem_of_getElem? (i := 96) (by decide +kernel)) rfl
theorem qc_yX6_putFirst : Cond.code yX6_putFirst cX6_putFirst 3 none ∈ lw_all := lw_c2 (List.mem_of_getElem? (i := 97) (by decide +kernel)) rfl
theorem ql_RX5_71 : Cond.methodLink RX5 71 yJ9_min_7cf53 ∈ lw_all := lw_c2 (List.mem_of_getElem? (i := 98) (by decide +kernel)) rfl
theorem ql_RX5_76 : Cond.methodLink RX5 76 yX5_mendedWith ∈ lw_all := lw_c2 (List.mem_of_getElem? (i := 99) (by decide +kernel)) rfl
theorem qm_yX5_mendedWith : Cond.instanceMethod yX5_mendedWith ∈ lw_all := lw_c2 (List.mem_of_getElem? (i := 100) (by decide +kernel)) rfl
theorem qs_yX5_mendedWith : Cond.selects RX5 yX5_mendedWith yX5_mendedWith ∈ lw_all := lw_c2 (List.mem_of_getElem? (i := 101) (by decide +kernel)) rfl
theorem qc_yX5_mendedWith : Cond.code yX5_mendedWith cX5_mendedWith 5 (some Jvm.ClassFile.FieldType.int) ∈ lw_all := lw_c2 (List.mem_of_getElem? (i := 102) (by decide +kernel)) rfl
theorem ql_RX3_115 : Cond.methodLink RX3 115 yX3_lookForSpikes ∈ lw_all := lw_c2 (List.mem_of_getElem? (i := 103) (by decide +kernel)) rfl
theorem qm_yX3_lookForSpikes : Cond.instanceMethod yX3_lookForSpikes ∈ lw_all := lw_c2 (List.mem_of_getElem? (i := 105) (by decide +kernel)) rfl
theorem qc_yX3_lookForSpikes : Cond.code yX3_lookForSpikes cX3_lookForSpikes 2 none ∈ lw_all := lw_c2 (List.mem_of_getElem? (i := 106) (by decide +kernel)) rfl
theorem ql_RX3_125 : Cond.methodLink RX3 125 yX3_maskOfAsked ∈ lw_all := lw_c2 (List.mem_of_getElem? (i := 107) (by decide +kernel)) rfl
theorem ql_RX3_128 : Cond.methodLink RX3 128 yJ6_bitCount_0f7a4 ∈ lw_all := lw_c2 (List.mem_of_getElem? (i := 108) (by decide +kernel)) rfl
end
section
theorem qt_yJ6_bitCount_0f7a4 : Cond.static yJ6_bitCount_0f7a4 ∈ lw_all := lw_c2 (List.mem_of_getElem? (i := 109) (by decide +kernel)) rfl
theorem qc_yJ6_bitCount_0f7a4 : Cond.code yJ6_bitCount_0f7a4 cJ6_bitCount_0f7a4 1 (some Jvm.ClassFile.FieldType.int) ∈ lw_all := lw_c2 (List.mem_of_getElem? (i := 110) (by decide +kernel)) rfl
theorem qn_RJ6_265 : Cond.constant RJ6 265 (1431655765) ∈ lw_all := lw_c2 (List.mem_of_getElem? (i := 111) (by decide +kernel)) rfl
theorem qn_RJ6_266 : Cond.constant RJ6 266 (858993459) ∈ lw_all := lw_c2 (List.mem_of_getElem? (i := 112) (by decide +kernel)) rfl
theorem qn_RJ6_267 : Cond.constant RJ6 267 (252645135) ∈ lw_all := lw_c2 (List.mem_of_getElem? (i := 113) (by decide +kernel)) rfl
theorem ql_RX3_133 : Cond.methodLink RX3 133 yX5_isAskedAndReadIn ∈ lw_all := lw_c2 (List.mem_of_getElem? (i := 114) (by decide +kernel)) rfl
theorem qm_yX5_isAskedAndReadIn : Cond.instanceMethod yX5_isAskedAndReadIn ∈ lw_all := lw_c2 (List.mem_of_getElem? (i := 115) (by decide +kernel)) rfl
theorem qs_yX5_isAskedAndReadIn : Cond.selects RX5 yX5_isAskedAndReadIn yX5_isAskedAndReadIn ∈ lw_all := lw_c2 (List.mem_of_getElem? (i := 116) (by decide +kernel)) rfl
theorem qc_yX5_isAskedAndReadIn : Cond.code yX5_isAskedAndReadIn cX5_isAskedAndReadIn 2 (some Jvm.ClassFile.FieldType.boolean) ∈ lw_all := lw_c2 (List.mem_of_getElem? (i := 117) (by decide +kernel)) rfl
theorem ql_RX5_84 : Cond.methodLink RX5 84 yX5_isAsked ∈ lw_all := lw_c2 (List.mem_of_getElem? (i := 118) (by decide +kernel)) rfl
theorem ql_RX5_88 : Cond.methodLink RX5 88 yX5_hourAgo ∈ lw_all := lw_c2 (List.mem_of_getElem? (i := 119) (by decide +kernel)) rfl
theorem ql_RX3_136 : Cond.methodLink RX3 136 yX3_compareWithOthers ∈ lw_all := lw_c2 (List.mem_of_getElem? (i := 120) (by decide +kernel)) rfl
theorem qm_yX3_compareWithOthers : Cond.instanceMethod yX3_compareWithOthers ∈ lw_all := lw_c2 (List.mem_of_getElem? (i := 122) (by decide +kernel)) rfl
theorem qc_yX3_compareWithOthers : Cond.code yX3_compareWithOthers cX3_compareWithOthers 3 none ∈ lw_all := lw_c2 (List.mem_of_getElem? (i := 123) (by decide +kernel)) rfl
theorem ql_RX3_143 : Cond.methodLink RX3 143 yX3_middleWithout ∈ lw_all := lw_c2 (List.mem_of_getElem? (i := 124) (by decide +kernel)) rfl
theorem ql_RX3_146 : Cond.methodLink RX3 146 yX5_compareWith ∈ lw_all := lw_c2 (List.mem_of_getElem? (i := 125) (by decide +kernel)) rfl
theorem qm_yX5_compareWith : Cond.instanceMethod yX5_compareWith ∈ lw_all := lw_c2 (List.mem_of_getElem? (i := 126) (by decide +kernel)) rfl
theorem qs_yX5_compareWith : Cond.selects RX5 yX5_compareWith yX5_compareWith ∈ lw_all := lw_c2 (List.mem_of_getElem? (i := 127) (by decide +kernel)) rfl
theorem qc_yX5_compareWith : Cond.code yX5_compareWith cX5_compareWith 3 none ∈ lw_all := lw_c2 (List.mem_of_getElem? (i := 128) (by decide +kernel)) rfl
theorem ql_RX3_139 : Cond.methodLink RX3 139 yX5_shutOutFrom ∈ lw_all := lw_c2 (List.mem_of_getElem? (i := 129) (by decide +kernel)) rfl
theorem qm_yX5_shutOutFrom : Cond.instanceMethod yX5_shutOutFrom ∈ lw_all := lw_c2 (List.mem_of_getElem? (i := 130) (by decide +kernel)) rfl
theorem qs_yX5_shutOutFrom : Cond.selects RX5 yX5_shutOutFrom yX5_shutOutFrom ∈ lw_all := lw_c2 (List.mem_of_getElem? (i := 131) (by decide +kernel)) rfl
theorem qc_yX5_shutOutFrom : Cond.code yX5_shutOutFrom cX5_shutOutFrom 2 none ∈ lw_all := lw_c2 (List.mem_of_getElem? (i := 132) (by decide +kernel)) rfl
theorem ql_RX6_242 : Cond.methodLink RX6 242 yX3_greatestDistance ∈ lw_all := lw_c2 (List.mem_of_getElem? (i := 133) (by decide +kernel)) rfl
theorem qm_yX3_greatestDistance : Cond.instanceMethod yX3_greatestDistance ∈ lw_all := lw_c2 (List.mem_of_getElem? (i := 134) (by decide +kernel)) rfl
theorem qs_yX3_greatestDistance : Cond.selects RX3 yX3_greatestDistance yX3_greatestDistance ∈ lw_all := lw_c2 (List.mem_of_getElem? (i := 135) (by decide +kernel)) rfl
theorem qc_yX3_greatestDistance : Cond.code yX3_greatestDistance cX3_greatestDistance 3 (some Jvm.ClassFile.FieldType.int) ∈ lw_all := lw_c2 (List.mem_of_getElem? (i := 136) (by decide +kernel)) rfl
theorem ql_RX3_188 : Cond.methodLink RX3 188 yX5_distance ∈ lw_all := lw_c2 (List.mem_of_getElem? (i := 137) (by decide +kernel)) rfl
theorem qm_yX5_distance : Cond.instanceMethod yX5_distance ∈ lw_all := lw_c2 (List.mem_of_getElem? (i := 138) (by decide +kernel)) rfl
theorem qs_yX5_distance : Cond.selects RX5 yX5_distance yX5_distance ∈ lw_all := lw_c2 (List.mem_of_getElem? (i := 139) (by decide +kernel)) rfl
theorem qc_yX5_distance : Cond.code yX5_distance cX5_distance 2 (some Jvm.ClassFile.FieldType.int) ∈ lw_all := lw_c2 (List.mem_of_getElem? (i := 140) (by decide +kernel)) rfl
theorem ql_RL_135 : Cond.methodLink RL 135 yL_wouldOne ∈ lw_all := lw_c2 (List.mem_of_getElem? (i := 141) (by decide +kernel)) rfl
theorem qt_yL_wouldOne : Cond.static yL_wouldOne ∈ lw_all := lw_c2 (List.mem_of_getElem? (i := 142) (by decide +kernel)) rfl
theorem qc_yL_wouldOne : Cond.code yL_wouldOne cL_wouldOne 12 (some Jvm.ClassFile.FieldType.boolean) ∈ lw_all := lw_c2 (List.mem_of_getElem? (i := 143) (by decide +kernel)) rfl
theorem ql_RL_77 : Cond.methodLink RL 77 yX6_ifLag ∈ lw_all := lw_c2 (List.mem_of_getElem? (i := 144) (by decide +kernel)) rfl
theorem qm_yX6_ifLag : Cond.instanceMethod yX6_ifLag ∈ lw_all := lw_c2 (List.mem_of_getElem? (i := 145) (by decide +kernel)) rfl
theorem qs_yX6_ifLag : Cond.selects RX6 yX6_ifLag yX6_ifLag ∈ lw_all := lw_c2 (List.mem_of_getElem? (i := 146) (by decide +kernel)) rfl
theorem qc_yX6_ifLag : Cond.code yX6_ifLag cX6_ifLag 3 (some Jvm.ClassFile.FieldType.int) ∈ lw_all := lw_c2 (List.mem_of_getElem? (i := 147) (by decide +kernel)) rfl
theorem ql_RX6_236 : Cond.methodLink RX6 236 yX5_mendedWith ∈ lw_all := lw_c2 (List.mem_of_getElem? (i := 148) (by decide +kernel)) rfl
theorem ql_RL_80 : Cond.methodLink RL 80 yX6_bestLag ∈ lw_all := lw_c2 (List.mem_of_getElem? (i := 149) (by decide +kernel)) rfl
theorem qm_yX6_bestLag : Cond.instanceMethod yX6_bestLag ∈ lw_all := lw_c2 (List.mem_of_getElem? (i := 150) (by decide +kernel)) rfl
theorem qs_yX6_bestLag : Cond.selects RX6 yX6_bestLag yX6_bestLag ∈ lw_all := lw_c2 (List.mem_of_getElem? (i := 151) (by decide +kernel)) rfl
theorem qc_yX6_bestLag : Cond.code yX6_bestLag cX6_bestLag 2 (some Jvm.ClassFile.FieldType.int) ∈ lw_all := lw_c2 (List.mem_of_getElem? (i := 152) (by decide +kernel)) rfl
theorem ql_RX6_239 : Cond.methodLink RX6 239 yX5_lagNearestTo ∈ lw_all := lw_c2 (List.mem_of_getElem? (i := 153) (by decide +kernel)) rfl
theorem qm_yX5_lagNearestTo : Cond.instanceMethod yX5_lagNearestTo ∈ lw_all := lw_c2 (List.mem_of_getElem? (i := 154) (by decide +kernel)) rfl
theorem qs_yX5_lagNearestTo : Cond.selects RX5 yX5_lagNearestTo yX5_lagNearestTo ∈ lw_all := lw_c2 (List.mem_of_getElem? (i := 155) (by decide +kernel)) rfl
theorem qc_yX5_lagNearestTo : Cond.code yX5_lagNearestTo cX5_lagNearestTo 6 (some Jvm.ClassFile.FieldType.int) ∈ lw_all := lw_c2 (List.mem_of_getElem? (i := 156) (by decide +kernel)) rfl
theorem ql_RX5_91 : Cond.methodLink RX5 91 yX5_hasMended ∈ lw_all := lw_c2 (List.mem_of_getElem? (i := 157) (by decide +kernel)) rfl
theorem ql_RL_83 : Cond.methodLink RL 83 yX6_stillIn ∈ lw_all := lw_c2 (List.mem_of_getElem? (i := 158) (by decide +kernel)) rfl
theorem qm_yX6_stillIn : Cond.instanceMethod yX6_stillIn ∈ lw_all := lw_c2 (List.mem_of_getElem? (i := 159) (by decide +kernel)) rfl
theorem qs_yX6_stillIn : Cond.selects RX6 yX6_stillIn yX6_stillIn ∈ lw_all := lw_c2 (List.mem_of_getElem? (i := 160) (by decide +kernel)) rfl
theorem qc_yX6_stillIn : Cond.code yX6_stillIn cX6_stillIn 2 (some Jvm.ClassFile.FieldType.int) ∈ lw_all := lw_c2 (List.mem_of_getElem? (i := 161) (by decide +kernel)) rfl
theorem ql_RX6_245 : Cond.methodLink RX6 245 yX5_hoursUntilStill ∈ lw_all := lw_c2 (List.mem_of_getElem? (i := 162) (by decide +kernel)) rfl
theorem qm_yX5_hoursUntilStill : Cond.instanceMethod yX5_hoursUntilStill ∈ lw_all := lw_c2 (List.mem_of_getElem? (i := 163) (by decide +kernel)) rfl
theorem qs_yX5_hoursUntilStill : Cond.selects RX5 yX5_hoursUntilStill yX5_hoursUntilStill ∈ lw_all := lw_c2 (List.mem_of_getElem? (i := 164) (by decide +kernel)) rfl
theorem qc_yX5_hoursUntilStill : Cond.code yX5_hoursUntilStill cX5_hoursUntilStill 5 (some Jvm.ClassFile.FieldType.int) ∈ lw_all := lw_c2 (List.mem_of_getElem? (i := 165) (by decide +kernel)) rfl
theorem qn_RX5_66 : Cond.constant RX5 66 (100000) ∈ lw_all := lw_c2 (List.mem_of_getElem? (i := 166) (by decide +kernel)) rfl
theorem ql_RL_93 : Cond.methodLink RL 93 yL_adds ∈ lw_all := lw_c2 (List.mem_of_getElem? (i := 167) (by decide +kernel)) rfl
theorem qt_yL_adds : Cond.static yL_adds ∈ lw_all := lw_c2 (List.mem_of_getElem? (i := 168) (by decide +kernel)) rfl
theorem qc_yL_adds : Cond.code yL_adds cL_adds 6 (some Jvm.ClassFile.FieldType.boolean) ∈ lw_all := lw_c2 (List.mem_of_getElem? (i := 169) (by decide +kernel)) rfl
theorem ql_RL_89 : Cond.methodLink RL 89 yX6_thermometer ∈ lw_all := lw_c2 (List.mem_of_getElem? (i := 170) (by decide +kernel)) rfl
theorem qm_yX6_thermometer : Cond.instanceMethod yX6_thermometer ∈ lw_all := lw_c2 (List.mem_of_getElem? (i := 171) (by decide +kernel)) rfl
theorem qs_yX6_thermometer : Cond.selects RX6 yX6_thermometer yX6_thermometer ∈ lw_all := lw_c2 (List.mem_of_getElem? (i := 172) (by decide +kernel)) rfl
theorem qc_yX6_thermometer : Cond.code yX6_thermometer cX6_thermometer 5 (some Jvm.ClassFile.FieldType.int) ∈ lw_all := lw_c2 (List.mem_of_getElem? (i := 173) (by decide +kernel)) rfl
theorem ql_RX6_51 : Cond.methodLink RX6 51 yX3_hasRoom ∈ lw_all := lw_c2 (List.mem_of_getElem? (i := 174) (by decide +kernel)) rfl
theorem qm_yX3_hasRoom : Cond.instanceMethod yX3_hasRoom ∈ lw_all := lw_c2 (List.mem_of_getElem? (i := 175) (by decide +kernel)) rfl
theorem qs_yX3_hasRoom : Cond.selects RX3 yX3_hasRoom yX3_hasRoom ∈ lw_all := lw_c2 (List.mem_of_getElem? (i := 176) (by decide +kernel)) rfl
theorem qc_yX3_hasRoom : Cond.code yX3_hasRoom cX3_hasRoom 1 (some Jvm.ClassFile.FieldType.boolean) ∈ lw_all := lw_c2 (List.mem_of_getElem? (i := 177) (by decide +kernel)) rfl
theorem qk_RX6_55 : Cond.classLink RX6 55 "java/lang/IllegalStateException" ∈ lw_all := lw_c2 (List.mem_of_getElem? (i := 178) (by decide +kernel)) rfl
theorem qr_RX6_57 : Cond.stringRef RX6 57 "there are 10 thermometers" ∈ lw_tbl := lw_n2 (List.mem_of_getElem? (i := 187) (by decide +kernel))
theorem ql_RX6_62 : Cond.methodLink RX6 62 yX1_save ∈ lw_all := lw_c2 (List.mem_of_getElem? (i := 194) (by decide +kernel)) rfl
theorem qm_yX1_save : Cond.instanceMethod yX1_save ∈ lw_all := lw_c2 (List.mem_of_getElem? (i := 195) (by decide +kernel)) rfl
theorem qs_yX1_save : Cond.selects RX1 yX1_save yX1_save ∈ lw_all := lw_c2 (List.mem_of_getElem? (i := 196) (by decide +kernel)) rfl
theorem qc_yX1_save : Cond.code yX1_save cX1_save 2 none ∈ lw_all := lw_c2 (List.mem_of_getElem? (i := 197) (by decide +kernel)) rfl
theorem ql_RX1_26 : Cond.methodLink RX1 26 yX1_stateAt ∈ lw_all := lw_c2 (List.mem_of_getElem? (i := 198) (by decide +kernel)) rfl
theorem qm_yX1_stateAt : Cond.instanceMethod yX1_stateAt ∈ lw_all := lw_c2 (List.mem_of_getElem? (i := 200) (by decide +kernel)) rfl
theorem qc_yX1_stateAt : Cond.code yX1_stateAt cX1_stateAt 3 (some (Jvm.ClassFile.FieldType.object "LateThermometers$Place")) ∈ lw_all := lw_c2 (List.mem_of_getElem? (i := 201) (by decide +kernel)) rfl
theorem ql_RX1_30 : Cond.methodLink RX1 30 yX3_copyFrom ∈ lw_all := lw_c2 (List.mem_of_getElem? (i := 202) (by decide +kernel)) rfl
theorem ql_RX1_37 : Cond.methodLink RX1 37 yJ9_min_7cf53 ∈ lw_all := lw_c2 (List.mem_of_getElem? (i := 203) (by decide +kernel)) rfl
theorem ql_RX6_66 : Cond.methodLink RX6 66 yX3_add ∈ lw_all := lw_c2 (List.mem_of_getElem? (i := 204) (by decide +kernel)) rfl
theorem qm_yX3_add : Cond.instanceMethod yX3_add ∈ lw_all := lw_c2 (List.mem_of_getElem? (i := 205) (by decide +kernel)) rfl
theorem qs_yX3_add : Cond.selects RX3 yX3_add yX3_add ∈ lw_all := lw_c2 (List.mem_of_getElem? (i := 206) (by decide +kernel)) rfl
theorem qc_yX3_add : Cond.code yX3_add cX3_add 6 (some Jvm.ClassFile.FieldType.int) ∈ lw_all := lw_c2 (List.mem_of_getElem? (i := 207) (by decide +kernel)) rfl
theorem ql_RX3_74 : Cond.methodLink RX3 74 yX5_begin ∈ lw_all := lw_c2 (List.mem_of_getElem? (i := 208) (by decide +kernel)) rfl
theorem qm_yX5_begin : Cond.instanceMethod yX5_begin ∈ lw_all := lw_c2 (List.mem_of_getElem? (i := 209) (by decide +kernel)) rfl
theorem qs_yX5_begin : Cond.selects RX5 yX5_begin yX5_begin ∈ lw_all := lw_c2 (List.mem_of_getElem? (i := 210) (by decide +kernel)) rfl
theorem qc_yX5_begin : Cond.code yX5_begin cX5_begin 6 none ∈ lw_all := lw_c2 (List.mem_of_getElem? (i := 211) (by decide +kernel)) rfl
theorem ql_RX5_38 : Cond.methodLink RX5 38 yX5_startAfresh ∈ lw_all := lw_c2 (List.mem_of_getElem? (i := 212) (by decide +kernel)) rfl
theorem qm_yX5_startAfresh : Cond.instanceMethod yX5_startAfresh ∈ lw_all := lw_c2 (List.mem_of_getElem? (i := 213) (by decide +kernel)) rfl
theorem qs_yX5_startAfresh : Cond.selects RX5 yX5_startAfresh yX5_startAfresh ∈ lw_all := lw_c2 (List.mem_of_getElem? (i := 214) (by decide +kernel)) rfl
theorem qc_yX5_startAfresh : Cond.code yX5_startAfresh cX5_startAfresh 2 none ∈ lw_all := lw_c2 (List.mem_of_getElem? (i := 215) (by decide +kernel)) rfl
theorem ql_RL_127 : Cond.methodLink RL 127 yL_acts ∈ lw_all := lw_c2 (List.mem_of_getElem? (i := 216) (by decide +kernel)) rfl
theorem qt_yL_acts : Cond.static yL_acts ∈ lw_all := lw_c2 (List.mem_of_getElem? (i := 217) (by decide +kernel)) rfl
theorem ql_RL_97 : Cond.methodLink RL 97 yX6_period ∈ lw_all := lw_c2 (List.mem_of_getElem? (i := 219) (by decide +kernel)) rfl
theorem qm_yX6_period : Cond.instanceMethod yX6_period ∈ lw_all := lw_c2 (List.mem_of_getElem? (i := 220) (by decide +kernel)) rfl
theorem qs_yX6_period : Cond.selects RX6 yX6_period yX6_period ∈ lw_all := lw_c2 (List.mem_of_getElem? (i := 221) (by decide +kernel)) rfl
theorem qc_yX6_period : Cond.code yX6_period cX6_period 4 (some Jvm.ClassFile.FieldType.int) ∈ lw_all := lw_c2 (List.mem_of_getElem? (i := 222) (by decide +kernel)) rfl
theorem ql_RX6_88 : Cond.methodLink RX6 88 yX3_changePeriod ∈ lw_all := lw_c2 (List.mem_of_getElem? (i := 223) (by decide +kernel)) rfl
theorem qm_yX3_changePeriod : Cond.instanceMethod yX3_changePeriod ∈ lw_all := lw_c2 (List.mem_of_getElem? (i := 224) (by decide +kernel)) rfl
theorem qs_yX3_changePeriod : Cond.selects RX3 yX3_changePeriod yX3_changePeriod ∈ lw_all := lw_c2 (List.mem_of_getElem? (i := 225) (by decide +kernel)) rfl
theorem qc_yX3_changePeriod : Cond.code yX3_changePeriod cX3_changePeriod 3 none ∈ lw_all := lw_c2 (List.mem_of_getElem? (i := 226) (by decide +kernel)) rfl
theorem ql_RL_100 : Cond.methodLink RL 100 yX6_calibrate ∈ lw_all := lw_c2 (List.mem_of_getElem? (i := 227) (by decide +kernel)) rfl
theorem qm_yX6_calibrate : Cond.instanceMethod yX6_calibrate ∈ lw_all := lw_c2 (List.mem_of_getElem? (i := 228) (by decide +kernel)) rfl
theorem qs_yX6_calibrate : Cond.selects RX6 yX6_calibrate yX6_calibrate ∈ lw_all := lw_c2 (List.mem_of_getElem? (i := 229) (by decide +kernel)) rfl
theorem qc_yX6_calibrate : Cond.code yX6_calibrate cX6_calibrate 3 (some Jvm.ClassFile.FieldType.int) ∈ lw_all := lw_c2 (List.mem_of_getElem? (i := 230) (by decide +kernel)) rfl
theorem ql_RX6_103 : Cond.methodLink RX6 103 yX5_startAfresh ∈ lw_all := lw_c2 (List.mem_of_getElem? (i := 231) (by decide +kernel)) rfl
theorem ql_RL_103 : Cond.methodLink RL 103 yX6_knock ∈ lw_all := lw_c2 (List.mem_of_getElem? (i := 232) (by decide +kernel)) rfl
theorem qm_yX6_knock : Cond.instanceMethod yX6_knock ∈ lw_all := lw_c2 (List.mem_of_getElem? (i := 233) (by decide +kernel)) rfl
theorem qs_yX6_knock : Cond.selects RX6 yX6_knock yX6_knock ∈ lw_all := lw_c2 (List.mem_of_getElem? (i := 234) (by decide +kernel)) rfl
theorem qc_yX6_knock : Cond.code yX6_knock cX6_knock 4 (some Jvm.ClassFile.FieldType.int) ∈ lw_all := lw_c2 (List.mem_of_getElem? (i := 235) (by decide +kernel)) rfl
theorem qr_RX6_109 : Cond.stringRef RX6 109 "no thermometer shows this" ∈ lw_tbl := lw_n2 (List.mem_of_getElem? (i := 236) (by decide +kernel))
theorem qn_RX6_111 : Cond.constant RX6 111 (100000) ∈ lw_all := lw_c2 (List.mem_of_getElem? (i := 237) (by decide +kernel)) rfl
theorem qn_RL_106 : Cond.constant RL 106 (100000) ∈ lw_all := lw_c2 (List.mem_of_getElem? (i := 238) (by decide +kernel)) rfl
theorem ql_RL_107 : Cond.methodLink RL 107 yX6_set ∈ lw_all := lw_c2 (List.mem_of_getElem? (i := 239) (by decide +kernel)) rfl
theorem qm_yX6_set : Cond.instanceMethod yX6_set ∈ lw_all := lw_c3 (List.mem_of_getElem? (i := 0) (by decide +kernel)) rfl
theorem qs_yX6_set : Cond.selects RX6 yX6_set yX6_set ∈ lw_all := lw_c3 (List.mem_of_getElem? (i := 1) (by decide +kernel)) rfl
theorem qc_yX6_set : Cond.code yX6_set cX6_set 4 (some Jvm.ClassFile.FieldType.int) ∈ lw_all := lw_c3 (List.mem_of_getElem? (i := 2) (by decide +kernel)) rfl
theorem qr_RX6_114 : Cond.stringRef RX6 114 "there is no such setting" ∈ lw_tbl := lw_n3 (List.mem_of_getElem? (i := 3) (by decide +kernel))
theorem ql_RL_110 : Cond.methodLink RL 110 yX6_hours ∈ lw_all := lw_c3 (List.mem_of_getElem? (i := 4) (by decide +kernel)) rfl
theorem qm_yX6_hours : Cond.instanceMethod yX6_hours ∈ lw_all := lw_c3 (List.mem_of_getElem? (i := 5) (by decide +kernel)) rfl
theorem qs_yX6_hours : Cond.selects RX6 yX6_hours yX6_hours ∈ lw_all := lw_c3 (List.mem_of_getElem? (i := 6) (by decide +kernel)) rfl
theorem qc_yX6_hours : Cond.code yX6_hours cX6_hours 3 (some Jvm.ClassFile.FieldType.int) ∈ lw_all := lw_c3 (List.mem_of_getElem? (i := 7) (by decide +kernel)) rfl
theorem ql_RX6_70 : Cond.methodLink RX6 70 yX6_checkHoursLeft ∈ lw_all := lw_c3 (List.mem_of_getElem? (i := 8) (by decide +kernel)) rfl
theorem qm_yX6_checkHoursLeft : Cond.instanceMethod yX6_checkHoursLeft ∈ lw_all := lw_c3 (List.mem_of_getElem? (i := 10) (by decide +kernel)) rfl
theorem qc_yX6_checkHoursLeft : Cond.code yX6_checkHoursLeft cX6_checkHoursLeft 2 none ∈ lw_all := lw_c3 (List.mem_of_getElem? (i := 11) (by decide +kernel)) rfl
theorem ql_RX6_266 : Cond.methodLink RX6 266 yX3_hasHoursLeft ∈ lw_all := lw_c3 (List.mem_of_getElem? (i := 12) (by decide +kernel)) rfl
theorem qm_yX3_hasHoursLeft : Cond.instanceMethod yX3_hasHoursLeft ∈ lw_all := lw_c3 (List.mem_of_getElem? (i := 13) (by decide +kernel)) rfl
theorem qs_yX3_hasHoursLeft : Cond.selects RX3 yX3_hasHoursLeft yX3_hasHoursLeft ∈ lw_all := lw_c3 (List.mem_of_getElem? (i := 14) (by decide +kernel)) rfl
theorem qc_yX3_hasHoursLeft : Cond.code yX3_hasHoursLeft cX3_hasHoursLeft 2 (some Jvm.ClassFile.FieldType.boolean) ∈ lw_all := lw_c3 (List.mem_of_getElem? (i := 15) (by decide +kernel)) rfl
theorem qr_RX6_269 : Cond.stringRef RX6 269 "the hour would be greater than 9999" ∈ lw_tbl := lw_n3 (List.mem_of_getElem? (i := 16) (by decide +kernel))
theorem ql_RL_113 : Cond.methodLink RL 113 yX6_hour ∈ lw_all := lw_c3 (List.mem_of_getElem? (i := 17) (by decide +kernel)) rfl
theorem qm_yX6_hour : Cond.instanceMethod yX6_hour ∈ lw_all := lw_c3 (List.mem_of_getElem? (i := 18) (by decide +kernel)) rfl
theorem qs_yX6_hour : Cond.selects RX6 yX6_hour yX6_hour ∈ lw_all := lw_c3 (List.mem_of_getElem? (i := 19) (by decide +kernel)) rfl
theorem qc_yX6_hour : Cond.code yX6_hour cX6_hour 2 (some Jvm.ClassFile.FieldType.int) ∈ lw_all := lw_c3 (List.mem_of_getElem? (i := 20) (by decide +kernel)) rfl
theorem ql_RX6_73 : Cond.methodLink RX6 73 yX3_passHour ∈ lw_all := lw_c3 (List.mem_of_getElem? (i := 21) (by decide +kernel)) rfl
theorem qs_yX6_checkThermometer : Cond.selects RX6 yX6_checkThermometer yX6_checkThermometer ∈ lw_all := lw_sel (n := 6) (by unfold lw_privs lw_privs_1; exact List.mem_of_getElem? (i := 1) rfl)
theorem qs_yX3_countAheadOf : Cond.selects RX3 yX3_countAheadOf yX3_countAheadOf ∈ lw_all := lw_sel (n := 13) (by unfold lw_privs lw_privs_1; exact List.mem_of_getElem? (i := 2) rfl)
theorem qs_yX3_sortKey : Cond.selects RX3 yX3_sortKey yX3_sortKey ∈ lw_all := lw_sel (n := 13) (by unfold lw_privs lw_privs_1; exact List.mem_of_getElem? (i := 3) rfl)
theorem qs_yX5_stepFrom : Cond.selects RX5 yX5_stepFrom yX5_stepFrom ∈ lw_all := lw_sel (n := 12) (by unfold lw_privs lw_privs_1; exact List.mem_of_getElem? (i := 4) rfl)
theorem qs_yX3_readRows : Cond.selects RX3 yX3_readRows yX3_readRows ∈ lw_all := lw_sel (n := 13) (by unfold lw_privs lw_privs_1; exact List.mem_of_getElem? (i := 5) rfl)
theorem qs_yX3_isReadNow : Cond.selects RX3 yX3_isReadNow yX3_isReadNow ∈ lw_all := lw_sel (n := 13) (by unfold lw_privs lw_privs_1; exact List.mem_of_getElem? (i := 6) rfl)
theorem qs_yX3_lookForSpikes : Cond.selects RX3 yX3_lookForSpikes yX3_lookForSpikes ∈ lw_all := lw_sel (n := 13) (by unfold lw_privs lw_privs_1; exact List.mem_of_getElem? (i := 7) rfl)
theorem qs_yX3_compareWithOthers : Cond.selects RX3 yX3_compareWithOthers yX3_compareWithOthers ∈ lw_all := lw_sel (n := 13) (by unfold lw_privs lw_privs_1; exact List.mem_of_getElem? (i := 8) rfl)
theorem qs_yX1_stateAt : Cond.selects RX1 yX1_stateAt yX1_stateAt ∈ lw_all := lw_sel (n := 4) (by unfold lw_privs lw_privs_1; exact List.mem_of_getElem? (i := 9) rfl)
end
section
theorem qs_yX6_checkHoursLeft : Cond.selects RX6 yX6_checkHoursLeft yX6_checkHoursLeft ∈ lw_all := lw_sel (n := 6) (by unfold lw_privs lw_privs_1; exact List.mem_of_getElem? (i := 10) rfl)
theorem qu_0 : ∀ w ∈ u_ws RX0 TX0 2, w ∈ lw_all := by
  intro w h
  have e : u_ws RX0 TX0 2 = [u_lay RX0 TX0 0, u_lay RX0 TX0 1] := rfl
  rw [e] at h
  simp only [List.mem_cons, List.not_mem_nil, or_false] at h
  rcases h with rfl | rfl
  · exact lw_c0 (List.mem_of_getElem? (i := 91) (by decide +kernel)) rfl
  · exact lw_c0 (List.mem_of_getElem? (i := 93) (by decide +kernel)) rfl
theorem qu_1 : ∀ w ∈ u_ws RX1 TX1 4, w ∈ lw_all := by
  intro w h
  have e : u_ws RX1 TX1 4 = [u_lay RX1 TX1 0, u_lay RX1 TX1 1, u_lay RX1 TX1 2, u_lay RX1 TX1 3] := rfl
  rw [e] at h
  simp only [List.mem_cons, List.not_mem_nil, or_false] at h
  rcases h with rfl | rfl | rfl | rfl
  · exact lw_c0 (List.mem_of_getElem? (i := 158) (by decide +kernel)) rfl
  · exact lw_c0 (List.mem_of_getElem? (i := 160) (by decide +kernel)) rfl
  · exact lw_c0 (List.mem_of_getElem? (i := 162) (by decide +kernel)) rfl
  · exact lw_c0 (List.mem_of_getElem? (i := 164) (by decide +kernel)) rfl
theorem qu_2 : ∀ w ∈ u_ws RX2 TX2 8, w ∈ lw_all := by
  intro w h
  have e : u_ws RX2 TX2 8 = [u_lay RX2 TX2 0, u_lay RX2 TX2 1, u_lay RX2 TX2 2, u_lay RX2 TX2 3, u_lay RX2 TX2 4, u_lay RX2 TX2 5, u_lay RX2 TX2 6, u_lay RX2 TX2 7] := rfl
  rw [e] at h
  simp only [List.mem_cons, List.not_mem_nil, or_false] at h
  rcases h with rfl | rfl | rfl | rfl | rfl | rfl | rfl | rfl
  · exact lw_c0 (List.mem_of_getElem? (i := 189) (by decide +kernel)) rfl
  · exact lw_c0 (List.mem_of_getElem? (i := 191) (by decide +kernel)) rfl
  · exact lw_c0 (List.mem_of_getElem? (i := 193) (by decide +kernel)) rfl
  · exact lw_c0 (List.mem_of_getElem? (i := 195) (by decide +kernel)) rfl
  · exact lw_c0 (List.mem_of_getElem? (i := 197) (by decide +kernel)) rfl
  · exact lw_c0 (List.mem_of_getElem? (i := 199) (by decide +kernel)) rfl
  · exact lw_c0 (List.mem_of_getElem? (i := 201) (by decide +kernel)) rfl
  · exact lw_c0 (List.mem_of_getElem? (i := 203) (by decide +kernel)) rfl
theorem qu_3 : ∀ w ∈ u_ws RX3 TX3 13, w ∈ lw_all := by
  intro w h
  have e : u_ws RX3 TX3 13 = [u_lay RX3 TX3 0, u_lay RX3 TX3 1, u_lay RX3 TX3 2, u_lay RX3 TX3 3, u_lay RX3 TX3 4, u_lay RX3 TX3 5, u_lay RX3 TX3 6, u_lay RX3 TX3 7, u_lay RX3 TX3 8, u_lay RX3 TX3 9, u_lay RX3 TX3 10, u_lay RX3 TX3 11, u_lay RX3 TX3 12] := rfl
  rw [e] at h
  simp only [List.mem_cons, List.not_mem_nil, or_false] at h
  rcases h with rfl | rfl | rfl | rfl | rfl | rfl | rfl | rfl | rfl | rfl | rfl | rfl | rfl
  · exact lw_c0 (List.mem_of_getElem? (i := 117) (by decide +kernel)) rfl
  · exact lw_c0 (List.mem_of_getElem? (i := 119) (by decide +kernel)) rfl
  · exact lw_c0 (List.mem_of_getElem? (i := 121) (by decide +kernel)) rfl
  · exact lw_c0 (List.mem_of_getElem? (i := 123) (by decide +kernel)) rfl
  · exact lw_c0 (List.mem_of_getElem? (i := 125) (by decide +kernel)) rfl
  · exact lw_c0 (List.mem_of_getElem? (i := 127) (by decide +kernel)) rfl
  · exact lw_c0 (List.mem_of_getElem? (i := 129) (by decide +kernel)) rfl
  · exact lw_c0 (List.mem_of_getElem? (i := 131) (by decide +kernel)) rfl
  · exact lw_c0 (List.mem_of_getElem? (i := 133) (by decide +kernel)) rfl
  · exact lw_c0 (List.mem_of_getElem? (i := 135) (by decide +kernel)) rfl
  · exact lw_c0 (List.mem_of_getElem? (i := 137) (by decide +kernel)) rfl
  · exact lw_c0 (List.mem_of_getElem? (i := 139) (by decide +kernel)) rfl
  · exact lw_c0 (List.mem_of_getElem? (i := 141) (by decide +kernel)) rfl
theorem qu_4 : ∀ w ∈ u_ws RX4 TX4 2, w ∈ lw_all := by
  intro w h
  have e : u_ws RX4 TX4 2 = [u_lay RX4 TX4 0, u_lay RX4 TX4 1] := rfl
  rw [e] at h
  simp only [List.mem_cons, List.not_mem_nil, or_false] at h
  rcases h with rfl | rfl
  · exact lw_c0 (List.mem_of_getElem? (i := 176) (by decide +kernel)) rfl
  · exact lw_c0 (List.mem_of_getElem? (i := 178) (by decide +kernel)) rfl
theorem qu_5 : ∀ w ∈ u_ws RX5 TX5 12, w ∈ lw_all := by
  intro w h
  have e : u_ws RX5 TX5 12 = [u_lay RX5 TX5 0, u_lay RX5 TX5 1, u_lay RX5 TX5 2, u_lay RX5 TX5 3, u_lay RX5 TX5 4, u_lay RX5 TX5 5, u_lay RX5 TX5 6, u_lay RX5 TX5 7, u_lay RX5 TX5 8, u_lay RX5 TX5 9, u_lay RX5 TX5 10, u_lay RX5 TX5 11] := rfl
  rw [e] at h
  simp only [List.mem_cons, List.not_mem_nil, or_false] at h
  rcases h with rfl | rfl | rfl | rfl | rfl | rfl | rfl | rfl | rfl | rfl | rfl | rfl
  · exact lw_c0 (List.mem_of_getElem? (i := 57) (by decide +kernel)) rfl
  · exact lw_c0 (List.mem_of_getElem? (i := 59) (by decide +kernel)) rfl
  · exact lw_c0 (List.mem_of_getElem? (i := 61) (by decide +kernel)) rfl
  · exact lw_c0 (List.mem_of_getElem? (i := 63) (by decide +kernel)) rfl
  · exact lw_c0 (List.mem_of_getElem? (i := 65) (by decide +kernel)) rfl
  · exact lw_c0 (List.mem_of_getElem? (i := 67) (by decide +kernel)) rfl
  · exact lw_c0 (List.mem_of_getElem? (i := 69) (by decide +kernel)) rfl
  · exact lw_c0 (List.mem_of_getElem? (i := 71) (by decide +kernel)) rfl
  · exact lw_c0 (List.mem_of_getElem? (i := 73) (by decide +kernel)) rfl
  · exact lw_c0 (List.mem_of_getElem? (i := 75) (by decide +kernel)) rfl
  · exact lw_c0 (List.mem_of_getElem? (i := 77) (by decide +kernel)) rfl
  · exact lw_c0 (List.mem_of_getElem? (i := 79) (by decide +kernel)) rfl
theorem qu_6 : ∀ w ∈ u_ws RX6 TX6 6, w ∈ lw_all := by
  intro w h
  have e : u_ws RX6 TX6 6 = [u_lay RX6 TX6 0, u_lay RX6 TX6 1, u_lay RX6 TX6 2, u_lay RX6 TX6 3, u_lay RX6 TX6 4, u_lay RX6 TX6 5] := rfl
  rw [e] at h
  simp only [List.mem_cons, List.not_mem_nil, or_false] at h
  rcases h with rfl | rfl | rfl | rfl | rfl | rfl
  · exact lw_c0 (List.mem_of_getElem? (i := 213) (by decide +kernel)) rfl
  · exact lw_c0 (List.mem_of_getElem? (i := 215) (by decide +kernel)) rfl
  · exact lw_c0 (List.mem_of_getElem? (i := 217) (by decide +kernel)) rfl
  · exact lw_c0 (List.mem_of_getElem? (i := 219) (by decide +kernel)) rfl
  · exact lw_c0 (List.mem_of_getElem? (i := 221) (by decide +kernel)) rfl
  · exact lw_c0 (List.mem_of_getElem? (i := 223) (by decide +kernel)) rfl
def nestL : List (String × Nat × MethodName × String) := [(RX3, 17, yX5_init, RX6), (RX3, 31, yX0_init, RX6), (RX6, 28, yX4_init, RX6), (RX6, 38, yX2_init, RX6), (RX3, 173, yX6_quotient, RX6), (RX5, 80, yX6_entry, RX6), (RX3, 78, yX6_entry, RX6), (RX3, 86, yX6_remainder, RX6), (RX5, 55, yX6_copyInto, RX6), (RX3, 61, yX6_copyInto, RX6), (RX5, 63, yX6_quotient, RX6), (RX5, 67, yX6_putFirst, RX6)]
def nestW (q : String × Nat × MethodName × String) : Cond := .methodLinkNest q.1 q.2.1 q.2.2.1 q.2.2.2
theorem ql_RX3_17 : (RX3, 17, yX5_init, RX6) ∈ nestL := List.mem_of_getElem? (i := 0) rfl
theorem ql_RX3_31 : (RX3, 31, yX0_init, RX6) ∈ nestL := List.mem_of_getElem? (i := 1) rfl
theorem ql_RX6_28 : (RX6, 28, yX4_init, RX6) ∈ nestL := List.mem_of_getElem? (i := 2) rfl
theorem ql_RX6_38 : (RX6, 38, yX2_init, RX6) ∈ nestL := List.mem_of_getElem? (i := 3) rfl
theorem ql_RX3_173 : (RX3, 173, yX6_quotient, RX6) ∈ nestL := List.mem_of_getElem? (i := 4) rfl
theorem ql_RX5_80 : (RX5, 80, yX6_entry, RX6) ∈ nestL := List.mem_of_getElem? (i := 5) rfl
theorem ql_RX3_78 : (RX3, 78, yX6_entry, RX6) ∈ nestL := List.mem_of_getElem? (i := 6) rfl
theorem ql_RX3_86 : (RX3, 86, yX6_remainder, RX6) ∈ nestL := List.mem_of_getElem? (i := 7) rfl
theorem ql_RX5_55 : (RX5, 55, yX6_copyInto, RX6) ∈ nestL := List.mem_of_getElem? (i := 8) rfl
theorem ql_RX3_61 : (RX3, 61, yX6_copyInto, RX6) ∈ nestL := List.mem_of_getElem? (i := 9) rfl
theorem ql_RX5_63 : (RX5, 63, yX6_quotient, RX6) ∈ nestL := List.mem_of_getElem? (i := 10) rfl
theorem ql_RX5_67 : (RX5, 67, yX6_putFirst, RX6) ∈ nestL := List.mem_of_getElem? (i := 11) rfl
theorem nest_tbl : ∀ q ∈ nestL, nestW q ∈ lw_tbl := by
  have key : ∀ j, j < nestL.length → ∃ q, nestL[j]? = some q ∧ nestW q ∈ lw_tbl := by
    intro j hj
    have hj : j < 12 := hj
    match j, hj with
    | 0, _ => exact ⟨_, rfl, lw_n0 (List.mem_of_getElem? (i := 33) (by decide +kernel))⟩
    | 1, _ => exact ⟨_, rfl, lw_n0 (List.mem_of_getElem? (i := 85) (by decide +kernel))⟩
    | 2, _ => exact ⟨_, rfl, lw_n0 (List.mem_of_getElem? (i := 169) (by decide +kernel))⟩
    | 3, _ => exact ⟨_, rfl, lw_n0 (List.mem_of_getElem? (i := 183) (by decide +kernel))⟩
    | 4, _ => exact ⟨_, rfl, lw_n1 (List.mem_of_getElem? (i := 92) (by decide +kernel))⟩
    | 5, _ => exact ⟨_, rfl, lw_n1 (List.mem_of_getElem? (i := 169) (by decide +kernel))⟩
    | 6, _ => exact ⟨_, rfl, lw_n1 (List.mem_of_getElem? (i := 227) (by decide +kernel))⟩
    | 7, _ => exact ⟨_, rfl, lw_n1 (List.mem_of_getElem? (i := 237) (by decide +kernel))⟩
    | 8, _ => exact ⟨_, rfl, lw_n2 (List.mem_of_getElem? (i := 56) (by decide +kernel))⟩
    | 9, _ => exact ⟨_, rfl, lw_n2 (List.mem_of_getElem? (i := 59) (by decide +kernel))⟩
    | 10, _ => exact ⟨_, rfl, lw_n2 (List.mem_of_getElem? (i := 82) (by decide +kernel))⟩
    | 11, _ => exact ⟨_, rfl, lw_n2 (List.mem_of_getElem? (i := 95) (by decide +kernel))⟩
    | k + 12, h => exact absurd h (by omega)
  intro q hq
  obtain ⟨j, hj⟩ := List.getElem?_of_mem hq
  obtain ⟨q2, h1, h2⟩ := key j (List.getElem?_eq_some_iff.mp hj).1
  rw [hj] at h1
  cases h1
  exact h2
end
section
theorem qc_yL_acts : Cond.code yL_acts cL_acts 19 (some Jvm.ClassFile.FieldType.boolean) ∈ lw_all := lw_c2 (List.mem_of_getElem? (i := 218) rfl) rfl
end
