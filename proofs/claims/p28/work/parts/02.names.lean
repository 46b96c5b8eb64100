-- ===== PART A: goes FIRST, ahead of the names: the tables' words, and 'selects' of the private methods out of them =====
/-- a private method of a class that the tables say can be made, by its rows of tables_1 -/
def lw_okq (q : MethodName × Nat) : Prop := (q.1.cls ≠ "java/lang/invoke/MethodHandle" ∧ q.1.cls ≠ "java/lang/invoke/VarHandle") ∧ Cond.instantiable q.1.cls q.2 ∈ tables_1 ∧ Cond.privateMethod q.1 ∈ tables_1 ∧ Cond.instanceMethod q.1 ∈ tables_1
theorem lw_p0 : lw_okq (⟨"java/lang/Throwable", "fillInStackTrace", "(I)Ljava/lang/Throwable;"⟩, 6) := ⟨⟨by decide +kernel, by decide +kernel⟩, List.mem_of_getElem? (i := 283) (by decide +kernel), List.mem_of_getElem? (i := 281) (by decide +kernel), List.mem_of_getElem? (i := 282) (by decide +kernel)⟩
theorem lw_p1 : lw_okq (⟨"LateThermometers", "checkThermometer", "(I)V"⟩, 6) := ⟨⟨by decide +kernel, by decide +kernel⟩, List.mem_of_getElem? (i := 17) (by decide +kernel), List.mem_of_getElem? (i := 362) (by decide +kernel), List.mem_of_getElem? (i := 363) (by decide +kernel)⟩
theorem lw_p2 : lw_okq (⟨"LateThermometers$Place", "countAheadOf", "(II)I"⟩, 13) := ⟨⟨by decide +kernel, by decide +kernel⟩, List.mem_of_getElem? (i := 25) (by decide +kernel), List.mem_of_getElem? (i := 496) (by decide +kernel), List.mem_of_getElem? (i := 497) (by decide +kernel)⟩
theorem lw_p3 : lw_okq (⟨"LateThermometers$Place", "sortKey", "(II)I"⟩, 13) := ⟨⟨by decide +kernel, by decide +kernel⟩, List.mem_of_getElem? (i := 25) (by decide +kernel), List.mem_of_getElem? (i := 500) (by decide +kernel), List.mem_of_getElem? (i := 501) (by decide +kernel)⟩
theorem lw_p4 : lw_okq (⟨"LateThermometers$Thermometer", "stepFrom", "(II)I"⟩, 12) := ⟨⟨by decide +kernel, by decide +kernel⟩, List.mem_of_getElem? (i := 32) (by decide +kernel), List.mem_of_getElem? (i := 559) (by decide +kernel), List.mem_of_getElem? (i := 560) (by decide +kernel)⟩
theorem lw_p5 : lw_okq (⟨"LateThermometers$Place", "readRows", "()V"⟩, 13) := ⟨⟨by decide +kernel, by decide +kernel⟩, List.mem_of_getElem? (i := 25) (by decide +kernel), List.mem_of_getElem? (i := 564) (by decide +kernel), List.mem_of_getElem? (i := 565) (by decide +kernel)⟩
theorem lw_p6 : lw_okq (⟨"LateThermometers$Place", "isReadNow", "(I)Z"⟩, 13) := ⟨⟨by decide +kernel, by decide +kernel⟩, List.mem_of_getElem? (i := 25) (by decide +kernel), List.mem_of_getElem? (i := 568) (by decide +kernel), List.mem_of_getElem? (i := 569) (by decide +kernel)⟩
theorem lw_p7 : lw_okq (⟨"LateThermometers$Place", "lookForSpikes", "()V"⟩, 13) := ⟨⟨by decide +kernel, by decide +kernel⟩, List.mem_of_getElem? (i := 25) (by decide +kernel), List.mem_of_getElem? (i := 584) (by decide +kernel), List.mem_of_getElem? (i := 585) (by decide +kernel)⟩
theorem lw_p8 : lw_okq (⟨"LateThermometers$Place", "compareWithOthers", "(I)V"⟩, 13) := ⟨⟨by decide +kernel, by decide +kernel⟩, List.mem_of_getElem? (i := 25) (by decide +kernel), List.mem_of_getElem? (i := 601) (by decide +kernel), List.mem_of_getElem? (i := 602) (by decide +kernel)⟩
theorem lw_p9 : lw_okq (⟨"LateThermometers$History", "stateAt", "(I)LLateThermometers$Place;"⟩, 4) := ⟨⟨by decide +kernel, by decide +kernel⟩, List.mem_of_getElem? (i := 145) (by decide +kernel), List.mem_of_getElem? (i := 679) (by decide +kernel), List.mem_of_getElem? (i := 680) (by decide +kernel)⟩
theorem lw_p10 : lw_okq (⟨"LateThermometers", "checkHoursLeft", "(I)V"⟩, 6) := ⟨⟨by decide +kernel, by decide +kernel⟩, List.mem_of_getElem? (i := 17) (by decide +kernel), List.mem_of_getElem? (i := 729) (by decide +kernel), List.mem_of_getElem? (i := 730) (by decide +kernel)⟩
def lw_privs_1 : List (MethodName × Nat) := [(⟨"java/lang/Throwable", "fillInStackTrace", "(I)Ljava/lang/Throwable;"⟩, 6), (⟨"LateThermometers", "checkThermometer", "(I)V"⟩, 6), (⟨"LateThermometers$Place", "countAheadOf", "(II)I"⟩, 13), (⟨"LateThermometers$Place", "sortKey", "(II)I"⟩, 13), (⟨"LateThermometers$Thermometer", "stepFrom", "(II)I"⟩, 12), (⟨"LateThermometers$Place", "readRows", "()V"⟩, 13), (⟨"LateThermometers$Place", "isReadNow", "(I)Z"⟩, 13), (⟨"LateThermometers$Place", "lookForSpikes", "()V"⟩, 13), (⟨"LateThermometers$Place", "compareWithOthers", "(I)V"⟩, 13), (⟨"LateThermometers$History", "stateAt", "(I)LLateThermometers$Place;"⟩, 4), (⟨"LateThermometers", "checkHoursLeft", "(I)V"⟩, 6)]
theorem lw_r1 : ∀ q ∈ lw_privs_1, lw_okq q := List.forall_mem_cons.mpr ⟨lw_p0, List.forall_mem_cons.mpr ⟨lw_p1, List.forall_mem_cons.mpr ⟨lw_p2, List.forall_mem_cons.mpr ⟨lw_p3, List.forall_mem_cons.mpr ⟨lw_p4, List.forall_mem_cons.mpr ⟨lw_p5, List.forall_mem_cons.mpr ⟨lw_p6, List.forall_mem_cons.mpr ⟨lw_p7, List.forall_mem_cons.mpr ⟨lw_p8, List.forall_mem_cons.mpr ⟨lw_p9, List.forall_mem_cons.mpr ⟨lw_p10, fun _ h => absurd h List.not_mem_nil⟩⟩⟩⟩⟩⟩⟩⟩⟩⟩⟩
def lw_privs : List (MethodName × Nat) := lw_privs_1
def lw_tbl : List Cond := k2_sels lw_privs ++ tables_1
theorem lw_privs_ok : ∀ q ∈ lw_privs, lw_okq q := lw_r1
/-- the streams that the claim lets the run draw from -/
abbrev lw_cs : List Choice := [Jvm.Choice.named "NaN.bits"]
theorem lw_bits : nanBits ∈ lw_cs := by first | decide | exact List.mem_cons_self | simp [lw_cs, nanBits]

def RX0 : String := "LateThermometers$Ascending"
def TX0 : u_T := fun k => match k with
  | 0 => ("LateThermometers$Ascending", "numbers", "[I", true)
  | _ => ("LateThermometers$Ascending", "size", "I", false)
def tyX0 : Nat → FieldType := fun k => match k with
  | 0 => .array .int
  | _ => .int
theorem nmX0 : ∀ a, a < 2 → ∀ b, b < 2 → a ≠ b → (TX0 a).2.1 ≠ (TX0 b).2.1 := by decide +kernel
theorem tyX0_ok : ∀ k, k < 2 → parseFieldDescriptor (TX0 k).2.2.1 = some (tyX0 k) := by decide +kernel
abbrev cX0_init : ByteArray := prog_2_method_1_code
def yX0_init : MethodName := ⟨RX0, "<init>", "()V"⟩
abbrev cX0_clear : ByteArray := prog_2_method_2_code
def yX0_clear : MethodName := ⟨RX0, "clear", "()V"⟩
abbrev cX0_insert : ByteArray := prog_2_method_3_code
def yX0_insert : MethodName := ⟨RX0, "insert", "(I)V"⟩
abbrev cX0_middle : ByteArray := prog_2_method_4_code
def yX0_middle : MethodName := ⟨RX0, "middle", "()I"⟩
def RX1 : String := "LateThermometers$History"
def TX1 : u_T := fun k => match k with
  | 0 => ("LateThermometers$History", "states", "[LLateThermometers$Place;", true)
  | 1 => ("LateThermometers$History", "spare", "LLateThermometers$Place;", true)
  | 2 => ("LateThermometers$History", "next", "I", false)
  | _ => ("LateThermometers$History", "size", "I", false)
def tyX1 : Nat → FieldType := fun k => match k with
  | 0 => .array (.object "LateThermometers$Place")
  | 1 => .object "LateThermometers$Place"
  | 2 => .int
  | _ => .int
theorem nmX1 : ∀ a, a < 4 → ∀ b, b < 4 → a ≠ b → (TX1 a).2.1 ≠ (TX1 b).2.1 := by decide +kernel
theorem tyX1_ok : ∀ k, k < 4 → parseFieldDescriptor (TX1 k).2.2.1 = some (tyX1 k) := by decide +kernel
abbrev cX1_init : ByteArray := prog_3_method_1_code
def yX1_init : MethodName := ⟨RX1, "<init>", "()V"⟩
abbrev cX1_save : ByteArray := prog_3_method_2_code
def yX1_save : MethodName := ⟨RX1, "save", "(LLateThermometers$Place;)V"⟩
abbrev cX1_stateAt : ByteArray := prog_3_method_4_code
def yX1_stateAt : MethodName := ⟨RX1, "stateAt", "(I)LLateThermometers$Place;"⟩
def RX2 : String := "LateThermometers$OrderText"
def TX2 : u_T := fun k => match k with
  | 0 => ("LateThermometers$OrderText", "characters", "[C", true)
  | 1 => ("LateThermometers$OrderText", "position", "I", false)
  | 2 => ("LateThermometers$OrderText", "digit", "I", false)
  | 3 => ("LateThermometers$OrderText", "length", "I", false)
  | 4 => ("LateThermometers$OrderText", "kind", "I", false)
  | 5 => ("LateThermometers$OrderText", "row", "I", false)
  | 6 => ("LateThermometers$OrderText", "number", "I", false)
  | _ => ("LateThermometers$OrderText", "weight", "I", false)
def tyX2 : Nat → FieldType := fun k => match k with
  | 0 => .array .char
  | 1 => .int
  | 2 => .int
  | 3 => .int
  | 4 => .int
  | 5 => .int
  | 6 => .int
  | _ => .int
theorem nmX2 : ∀ a, a < 8 → ∀ b, b < 8 → a ≠ b → (TX2 a).2.1 ≠ (TX2 b).2.1 := by decide +kernel
theorem tyX2_ok : ∀ k, k < 8 → parseFieldDescriptor (TX2 k).2.2.1 = some (tyX2 k) := by decide +kernel
abbrev cX2_init : ByteArray := prog_4_method_1_code
def yX2_init : MethodName := ⟨RX2, "<init>", "()V"⟩
def RX3 : String := "LateThermometers$Place"
def TX3 : u_T := fun k => match k with
  | 0 => ("LateThermometers$Place", "thermometers", "[LLateThermometers$Thermometer;", true)
  | 1 => ("LateThermometers$Place", "spare", "LLateThermometers$Thermometer;", true)
  | 2 => ("LateThermometers$Place", "periods", "[I", true)
  | 3 => ("LateThermometers$Place", "timesRead", "[I", true)
  | 4 => ("LateThermometers$Place", "sorted", "LLateThermometers$Ascending;", true)
  | 5 => ("LateThermometers$Place", "meanBefore", "I", false)
  | 6 => ("LateThermometers$Place", "size", "I", false)
  | 7 => ("LateThermometers$Place", "hour", "I", false)
  | 8 => ("LateThermometers$Place", "temperature", "I", false)
  | 9 => ("LateThermometers$Place", "readings", "I", false)
  | 10 => ("LateThermometers$Place", "spikes", "I", false)
  | 11 => ("LateThermometers$Place", "difference", "I", false)
  | _ => ("LateThermometers$Place", "strikesToShutOut", "I", false)
def tyX3 : Nat → FieldType := fun k => match k with
  | 0 => .array (.object "LateThermometers$Thermometer")
  | 1 => .object "LateThermometers$Thermometer"
  | 2 => .array .int
  | 3 => .array .int
  | 4 => .object "LateThermometers$Ascending"
  | 5 => .int
  | 6 => .int
  | 7 => .int
  | 8 => .int
  | 9 => .int
  | 10 => .int
  | 11 => .int
  | _ => .int
theorem nmX3 : ∀ a, a < 13 → ∀ b, b < 13 → a ≠ b → (TX3 a).2.1 ≠ (TX3 b).2.1 := by decide +kernel
theorem tyX3_ok : ∀ k, k < 13 → parseFieldDescriptor (TX3 k).2.2.1 = some (tyX3 k) := by decide +kernel
abbrev cX3_init : ByteArray := prog_5_method_1_code
def yX3_init : MethodName := ⟨RX3, "<init>", "()V"⟩
abbrev cX3_copyFrom : ByteArray := prog_5_method_2_code
def yX3_copyFrom : MethodName := ⟨RX3, "copyFrom", "(LLateThermometers$Place;)V"⟩
abbrev cX3_has : ByteArray := prog_5_method_3_code
def yX3_has : MethodName := ⟨RX3, "has", "(I)Z"⟩
abbrev cX3_hasRoom : ByteArray := prog_5_method_4_code
def yX3_hasRoom : MethodName := ⟨RX3, "hasRoom", "()Z"⟩
abbrev cX3_hasHoursLeft : ByteArray := prog_5_method_5_code
def yX3_hasHoursLeft : MethodName := ⟨RX3, "hasHoursLeft", "(I)Z"⟩
abbrev cX3_at : ByteArray := prog_5_method_6_code
def yX3_at : MethodName := ⟨RX3, "at", "(I)LLateThermometers$Thermometer;"⟩
abbrev cX3_add : ByteArray := prog_5_method_7_code
def yX3_add : MethodName := ⟨RX3, "add", "(IIII)I"⟩
abbrev cX3_changePeriod : ByteArray := prog_5_method_8_code
def yX3_changePeriod : MethodName := ⟨RX3, "changePeriod", "(II)V"⟩
abbrev cX3_periodOf : ByteArray := prog_5_method_9_code
def yX3_periodOf : MethodName := ⟨RX3, "periodOf", "(I)I"⟩
abbrev cX3_timesReadOf : ByteArray := prog_5_method_10_code
def yX3_timesReadOf : MethodName := ⟨RX3, "timesReadOf", "(I)I"⟩
abbrev cX3_hoursUntilRead : ByteArray := prog_5_method_11_code
def yX3_hoursUntilRead : MethodName := ⟨RX3, "hoursUntilRead", "(I)I"⟩
abbrev cX3_countInRow : ByteArray := prog_5_method_12_code
def yX3_countInRow : MethodName := ⟨RX3, "countInRow", "(I)I"⟩
abbrev cX3_passHours : ByteArray := prog_5_method_13_code
def yX3_passHours : MethodName := ⟨RX3, "passHours", "(II)V"⟩
abbrev cX3_passHour : ByteArray := prog_5_method_14_code
def yX3_passHour : MethodName := ⟨RX3, "passHour", "(I)I"⟩
abbrev cX3_readRows : ByteArray := prog_5_method_15_code
def yX3_readRows : MethodName := ⟨RX3, "readRows", "()V"⟩
abbrev cX3_isReadNow : ByteArray := prog_5_method_16_code
def yX3_isReadNow : MethodName := ⟨RX3, "isReadNow", "(I)Z"⟩
abbrev cX3_lookForSpikes : ByteArray := prog_5_method_17_code
def yX3_lookForSpikes : MethodName := ⟨RX3, "lookForSpikes", "()V"⟩
abbrev cX3_compareWithOthers : ByteArray := prog_5_method_18_code
def yX3_compareWithOthers : MethodName := ⟨RX3, "compareWithOthers", "(I)V"⟩
abbrev cX3_middleWithout : ByteArray := prog_5_method_19_code
def yX3_middleWithout : MethodName := ⟨RX3, "middleWithout", "(I)I"⟩
abbrev cX3_maskOfAsked : ByteArray := prog_5_method_20_code
def yX3_maskOfAsked : MethodName := ⟨RX3, "maskOfAsked", "()I"⟩
abbrev cX3_maskOfShutOut : ByteArray := prog_5_method_21_code
def yX3_maskOfShutOut : MethodName := ⟨RX3, "maskOfShutOut", "()I"⟩
abbrev cX3_mean : ByteArray := prog_5_method_22_code
def yX3_mean : MethodName := ⟨RX3, "mean", "()I"⟩
abbrev cX3_slope : ByteArray := prog_5_method_23_code
def yX3_slope : MethodName := ⟨RX3, "slope", "()I"⟩
abbrev cX3_atRank : ByteArray := prog_5_method_24_code
def yX3_atRank : MethodName := ⟨RX3, "atRank", "(II)I"⟩
abbrev cX3_countAheadOf : ByteArray := prog_5_method_25_code
def yX3_countAheadOf : MethodName := ⟨RX3, "countAheadOf", "(II)I"⟩
abbrev cX3_sortKey : ByteArray := prog_5_method_26_code
def yX3_sortKey : MethodName := ⟨RX3, "sortKey", "(II)I"⟩
abbrev cX3_countMended : ByteArray := prog_5_method_27_code
def yX3_countMended : MethodName := ⟨RX3, "countMended", "()I"⟩
abbrev cX3_countMendedIn : ByteArray := prog_5_method_28_code
def yX3_countMendedIn : MethodName := ⟨RX3, "countMendedIn", "(II)I"⟩
abbrev cX3_sumOfErrors : ByteArray := prog_5_method_29_code
def yX3_sumOfErrors : MethodName := ⟨RX3, "sumOfErrors", "()I"⟩
abbrev cX3_greatestDistance : ByteArray := prog_5_method_30_code
def yX3_greatestDistance : MethodName := ⟨RX3, "greatestDistance", "()I"⟩
def RX4 : String := "LateThermometers$Snapshot"
def TX4 : u_T := fun k => match k with
  | 0 => ("LateThermometers$Snapshot", "place", "LLateThermometers$Place;", true)
  | _ => ("LateThermometers$Snapshot", "taken", "Z", false)
def tyX4 : Nat → FieldType := fun k => match k with
  | 0 => .object "LateThermometers$Place"
  | _ => .boolean
theorem nmX4 : ∀ a, a < 2 → ∀ b, b < 2 → a ≠ b → (TX4 a).2.1 ≠ (TX4 b).2.1 := by decide +kernel
theorem tyX4_ok : ∀ k, k < 2 → parseFieldDescriptor (TX4 k).2.2.1 = some (tyX4 k) := by decide +kernel
abbrev cX4_init : ByteArray := prog_6_method_1_code
def yX4_init : MethodName := ⟨RX4, "<init>", "()V"⟩
def RX5 : String := "LateThermometers$Thermometer"
def TX5 : u_T := fun k => match k with
  | 0 => ("LateThermometers$Thermometer", "readingHours", "[I", true)
  | 1 => ("LateThermometers$Thermometer", "readingValues", "[I", true)
  | 2 => ("LateThermometers$Thermometer", "kept", "I", false)
  | 3 => ("LateThermometers$Thermometer", "lag", "I", false)
  | 4 => ("LateThermometers$Thermometer", "offset", "I", false)
  | 5 => ("LateThermometers$Thermometer", "row", "I", false)
  | 6 => ("LateThermometers$Thermometer", "weight", "I", false)
  | 7 => ("LateThermometers$Thermometer", "shown", "I", false)
  | 8 => ("LateThermometers$Thermometer", "strikes", "I", false)
  | 9 => ("LateThermometers$Thermometer", "spikes", "I", false)
  | 10 => ("LateThermometers$Thermometer", "shutOut", "Z", false)
  | _ => ("LateThermometers$Thermometer", "mended", "I", false)
def tyX5 : Nat → FieldType := fun k => match k with
  | 0 => .array .int
  | 1 => .array .int
  | 2 => .int
  | 3 => .int
  | 4 => .int
  | 5 => .int
  | 6 => .int
  | 7 => .int
  | 8 => .int
  | 9 => .int
  | 10 => .boolean
  | _ => .int
theorem nmX5 : ∀ a, a < 12 → ∀ b, b < 12 → a ≠ b → (TX5 a).2.1 ≠ (TX5 b).2.1 := by decide +kernel
theorem tyX5_ok : ∀ k, k < 12 → parseFieldDescriptor (TX5 k).2.2.1 = some (tyX5 k) := by decide +kernel
abbrev cX5_init : ByteArray := prog_7_method_1_code
def yX5_init : MethodName := ⟨RX5, "<init>", "()V"⟩
abbrev cX5_begin : ByteArray := prog_7_method_2_code
def yX5_begin : MethodName := ⟨RX5, "begin", "(IIIII)V"⟩
abbrev cX5_startAfresh : ByteArray := prog_7_method_3_code
def yX5_startAfresh : MethodName := ⟨RX5, "startAfresh", "(I)V"⟩
abbrev cX5_copyFrom : ByteArray := prog_7_method_4_code
def yX5_copyFrom : MethodName := ⟨RX5, "copyFrom", "(LLateThermometers$Thermometer;)V"⟩
abbrev cX5_follow : ByteArray := prog_7_method_5_code
def yX5_follow : MethodName := ⟨RX5, "follow", "(I)V"⟩
abbrev cX5_stepFrom : ByteArray := prog_7_method_6_code
def yX5_stepFrom : MethodName := ⟨RX5, "stepFrom", "(II)I"⟩
abbrev cX5_hoursUntilStill : ByteArray := prog_7_method_7_code
def yX5_hoursUntilStill : MethodName := ⟨RX5, "hoursUntilStill", "(I)I"⟩
abbrev cX5_takeReading : ByteArray := prog_7_method_8_code
def yX5_takeReading : MethodName := ⟨RX5, "takeReading", "(I)V"⟩
abbrev cX5_hourAgo : ByteArray := prog_7_method_9_code
def yX5_hourAgo : MethodName := ⟨RX5, "hourAgo", "(I)I"⟩
abbrev cX5_valueAgo : ByteArray := prog_7_method_10_code
def yX5_valueAgo : MethodName := ⟨RX5, "valueAgo", "(I)I"⟩
abbrev cX5_hasMended : ByteArray := prog_7_method_11_code
def yX5_hasMended : MethodName := ⟨RX5, "hasMended", "()Z"⟩
abbrev cX5_isAsked : ByteArray := prog_7_method_12_code
def yX5_isAsked : MethodName := ⟨RX5, "isAsked", "()Z"⟩
abbrev cX5_isAskedAndReadIn : ByteArray := prog_7_method_13_code
def yX5_isAskedAndReadIn : MethodName := ⟨RX5, "isAskedAndReadIn", "(I)Z"⟩
abbrev cX5_mendedWith : ByteArray := prog_7_method_14_code
def yX5_mendedWith : MethodName := ⟨RX5, "mendedWith", "(I)I"⟩
abbrev cX5_lagNearestTo : ByteArray := prog_7_method_15_code
def yX5_lagNearestTo : MethodName := ⟨RX5, "lagNearestTo", "(I)I"⟩
abbrev cX5_error : ByteArray := prog_7_method_16_code
def yX5_error : MethodName := ⟨RX5, "error", "(I)I"⟩
abbrev cX5_distance : ByteArray := prog_7_method_17_code
def yX5_distance : MethodName := ⟨RX5, "distance", "(I)I"⟩
abbrev cX5_compareWith : ByteArray := prog_7_method_18_code
def yX5_compareWith : MethodName := ⟨RX5, "compareWith", "(II)V"⟩
abbrev cX5_shutOutFrom : ByteArray := prog_7_method_19_code
def yX5_shutOutFrom : MethodName := ⟨RX5, "shutOutFrom", "(I)V"⟩
abbrev cX5_numberOf : ByteArray := prog_7_method_20_code
def yX5_numberOf : MethodName := ⟨RX5, "numberOf", "(I)I"⟩
def RX6 : String := "LateThermometers"
def TX6 : u_T := fun k => match k with
  | 0 => ("LateThermometers", "now", "LLateThermometers$Place;", true)
  | 1 => ("LateThermometers", "trial", "LLateThermometers$Place;", true)
  | 2 => ("LateThermometers", "history", "LLateThermometers$History;", true)
  | 3 => ("LateThermometers", "firstSnapshot", "LLateThermometers$Snapshot;", true)
  | 4 => ("LateThermometers", "secondSnapshot", "LLateThermometers$Snapshot;", true)
  | _ => ("LateThermometers", "text", "LLateThermometers$OrderText;", true)
def tyX6 : Nat → FieldType := fun k => match k with
  | 0 => .object "LateThermometers$Place"
  | 1 => .object "LateThermometers$Place"
  | 2 => .object "LateThermometers$History"
  | 3 => .object "LateThermometers$Snapshot"
  | 4 => .object "LateThermometers$Snapshot"
  | _ => .object "LateThermometers$OrderText"
theorem nmX6 : ∀ a, a < 6 → ∀ b, b < 6 → a ≠ b → (TX6 a).2.1 ≠ (TX6 b).2.1 := by decide +kernel
theorem tyX6_ok : ∀ k, k < 6 → parseFieldDescriptor (TX6 k).2.2.1 = some (tyX6 k) := by decide +kernel
abbrev cX6_init : ByteArray := prog_1_method_1_code
def yX6_init : MethodName := ⟨RX6, "<init>", "()V"⟩
abbrev cX6_thermometer : ByteArray := prog_1_method_2_code
def yX6_thermometer : MethodName := ⟨RX6, "thermometer", "(IIII)I"⟩
abbrev cX6_hour : ByteArray := prog_1_method_3_code
def yX6_hour : MethodName := ⟨RX6, "hour", "(I)I"⟩
abbrev cX6_hours : ByteArray := prog_1_method_4_code
def yX6_hours : MethodName := ⟨RX6, "hours", "(II)I"⟩
abbrev cX6_period : ByteArray := prog_1_method_5_code
def yX6_period : MethodName := ⟨RX6, "period", "(II)I"⟩
abbrev cX6_calibrate : ByteArray := prog_1_method_6_code
def yX6_calibrate : MethodName := ⟨RX6, "calibrate", "(I)I"⟩
abbrev cX6_knock : ByteArray := prog_1_method_7_code
def yX6_knock : MethodName := ⟨RX6, "knock", "(II)I"⟩
abbrev cX6_set : ByteArray := prog_1_method_8_code
def yX6_set : MethodName := ⟨RX6, "set", "(II)I"⟩
abbrev cX6_ofThermometer : ByteArray := prog_1_method_16_code
def yX6_ofThermometer : MethodName := ⟨RX6, "ofThermometer", "(II)I"⟩
abbrev cX6_reading : ByteArray := prog_1_method_17_code
def yX6_reading : MethodName := ⟨RX6, "reading", "(III)I"⟩
abbrev cX6_row : ByteArray := prog_1_method_18_code
def yX6_row : MethodName := ⟨RX6, "row", "(II)I"⟩
abbrev cX6_count : ByteArray := prog_1_method_19_code
def yX6_count : MethodName := ⟨RX6, "count", "(I)I"⟩
abbrev cX6_ranked : ByteArray := prog_1_method_20_code
def yX6_ranked : MethodName := ⟨RX6, "ranked", "(II)I"⟩
abbrev cX6_between : ByteArray := prog_1_method_21_code
def yX6_between : MethodName := ⟨RX6, "between", "(II)I"⟩
abbrev cX6_ifLag : ByteArray := prog_1_method_22_code
def yX6_ifLag : MethodName := ⟨RX6, "ifLag", "(II)I"⟩
abbrev cX6_bestLag : ByteArray := prog_1_method_23_code
def yX6_bestLag : MethodName := ⟨RX6, "bestLag", "(I)I"⟩
abbrev cX6_ifStill : ByteArray := prog_1_method_24_code
def yX6_ifStill : MethodName := ⟨RX6, "ifStill", "(II)I"⟩
abbrev cX6_stillIn : ByteArray := prog_1_method_25_code
def yX6_stillIn : MethodName := ⟨RX6, "stillIn", "(I)I"⟩
abbrev cX6_meanError : ByteArray := prog_1_method_26_code
def yX6_meanError : MethodName := ⟨RX6, "meanError", "()D"⟩
abbrev cX6_checkRow : ByteArray := prog_1_method_27_code
def yX6_checkRow : MethodName := ⟨RX6, "checkRow", "(I)V"⟩
abbrev cX6_checkRange : ByteArray := prog_1_method_28_code
def yX6_checkRange : MethodName := ⟨RX6, "checkRange", "(III)V"⟩
abbrev cX6_checkNotNegative : ByteArray := prog_1_method_29_code
def yX6_checkNotNegative : MethodName := ⟨RX6, "checkNotNegative", "(I)V"⟩
abbrev cX6_checkThermometer : ByteArray := prog_1_method_30_code
def yX6_checkThermometer : MethodName := ⟨RX6, "checkThermometer", "(I)V"⟩
abbrev cX6_checkHoursLeft : ByteArray := prog_1_method_31_code
def yX6_checkHoursLeft : MethodName := ⟨RX6, "checkHoursLeft", "(I)V"⟩
abbrev cX6_quotient : ByteArray := prog_1_method_34_code
def yX6_quotient : MethodName := ⟨RX6, "quotient", "(II)I"⟩
abbrev cX6_remainder : ByteArray := prog_1_method_35_code
def yX6_remainder : MethodName := ⟨RX6, "remainder", "(II)I"⟩
abbrev cX6_entry : ByteArray := prog_1_method_36_code
def yX6_entry : MethodName := ⟨RX6, "entry", "([II)I"⟩
abbrev cX6_copyInto : ByteArray := prog_1_method_37_code
def yX6_copyInto : MethodName := ⟨RX6, "copyInto", "([I[I)V"⟩
abbrev cX6_putFirst : ByteArray := prog_1_method_38_code
def yX6_putFirst : MethodName := ⟨RX6, "putFirst", "([II)V"⟩
def RX7 : String := "LateThermometersModel"
def TX7 : u_T := fun k => match k with
  | _ => ("", "", "", false)
def tyX7 : Nat → FieldType := fun k => match k with
  | _ => .int
theorem nmX7 : ∀ a, a < 0 → ∀ b, b < 0 → a ≠ b → (TX7 a).2.1 ≠ (TX7 b).2.1 := by decide +kernel
theorem tyX7_ok : ∀ k, k < 0 → parseFieldDescriptor (TX7 k).2.2.1 = some (tyX7 k) := by decide +kernel
def RJ6 : String := "java/lang/Integer"
abbrev cJ6_bitCount_0f7a4 : ByteArray := prog_14_method_49_code
def yJ6_bitCount_0f7a4 : MethodName := ⟨RJ6, "bitCount", "(I)I"⟩
def RJ9 : String := "java/lang/Math"
abbrev cJ9_abs_0f7a4 : ByteArray := prog_15_method_59_code
def yJ9_abs_0f7a4 : MethodName := ⟨RJ9, "abs", "(I)I"⟩
abbrev cJ9_max_7cf53 : ByteArray := prog_15_method_65_code
def yJ9_max_7cf53 : MethodName := ⟨RJ9, "max", "(II)I"⟩
abbrev cJ9_min_7cf53 : ByteArray := prog_15_method_69_code
def yJ9_min_7cf53 : MethodName := ⟨RJ9, "min", "(II)I"⟩
def RJ0 : String := "java/lang/String"
def RL : String := "LateThermometersLaw"
abbrev cL_cell : ByteArray := method_2_code
def yL_cell : MethodName := ⟨RL, "cell", "([II)I"⟩
abbrev cL_low : ByteArray := method_3_code
def yL_low : MethodName := ⟨RL, "low", "(II)I"⟩
abbrev cL_mended : ByteArray := method_4_code
def yL_mended : MethodName := ⟨RL, "mended", "([I[I[III)I"⟩
abbrev cL_own : ByteArray := method_5_code
def yL_own : MethodName := ⟨RL, "own", "([I[I[II)I"⟩
abbrev cL_asked : ByteArray := method_6_code
def yL_asked : MethodName := ⟨RL, "asked", "([II)Z"⟩
abbrev cL_middle : ByteArray := method_7_code
def yL_middle : MethodName := ⟨RL, "middle", "([I[I[I[II)I"⟩
abbrev cL_mean : ByteArray := method_8_code
def yL_mean : MethodName := ⟨RL, "mean", "([I[I[I[I)I"⟩
abbrev cL_size : ByteArray := method_9_code
def yL_size : MethodName := ⟨RL, "size", "(I)I"⟩
abbrev cL_change : ByteArray := method_10_code
def yL_change : MethodName := ⟨RL, "change", "([I[II)I"⟩
abbrev cL_hour : ByteArray := method_11_code
def yL_hour : MethodName := ⟨RL, "hour", "([I[I[I[II)I"⟩
abbrev cL_areThermometers : ByteArray := method_12_code
def yL_areThermometers : MethodName := ⟨RL, "areThermometers", "(LLateThermometers;[I[I[I[I)Z"⟩
abbrev cL_areNumbers : ByteArray := method_13_code
def yL_areNumbers : MethodName := ⟨RL, "areNumbers", "(LLateThermometers;[I[I[I[I)Z"⟩
abbrev cL_areRanked : ByteArray := method_14_code
def yL_areRanked : MethodName := ⟨RL, "areRanked", "(LLateThermometers;[I[I[I[IIII)Z"⟩
abbrev cL_copy : ByteArray := method_15_code
def yL_copy : MethodName := ⟨RL, "copy", "([I[I)V"⟩
abbrev cL_would : ByteArray := method_16_code
def yL_would : MethodName := ⟨RL, "would", "(LLateThermometers;[I[I[I[II)Z"⟩
abbrev cL_wouldOne : ByteArray := method_17_code
def yL_wouldOne : MethodName := ⟨RL, "wouldOne", "(LLateThermometers;[I[I[I[II)Z"⟩
abbrev cL_adds : ByteArray := method_18_code
def yL_adds : MethodName := ⟨RL, "adds", "(LLateThermometers;[I[II)Z"⟩
abbrev cL_acts : ByteArray := method_19_code
def yL_acts : MethodName := ⟨RL, "acts", "(LLateThermometers;[I[I[I[III)Z"⟩
abbrev cL_law : ByteArray := code
def yL_law : MethodName := ⟨RL, "law", "([I)Z"⟩
