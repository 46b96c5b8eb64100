-- ===== PART A: goes FIRST, ahead of the names: the tables' words, and 'selects' of the private methods out of them =====
/-- a private method of a class that the tables say can be made, by its rows of tables_1 -/
def lw_okq (q : MethodName × Nat) : Prop := (q.1.cls ≠ "java/lang/invoke/MethodHandle" ∧ q.1.cls ≠ "java/lang/invoke/VarHandle") ∧ Cond.instantiable q.1.cls q.2 ∈ tables_1 ∧ Cond.privateMethod q.1 ∈ tables_1 ∧ Cond.instanceMethod q.1 ∈ tables_1
theorem lw_p0 : lw_okq (⟨"LateThermometers$OrderText", "readsAll", "()Z"⟩, 8) := ⟨⟨by decide +kernel, by decide +kernel⟩, List.mem_of_getElem? (i := 186) (by decide +kernel), List.mem_of_getElem? (i := 254) (by decide +kernel), List.mem_of_getElem? (i := 255) (by decide +kernel)⟩
theorem lw_p1 : lw_okq (⟨"LateThermometers$OrderText", "readsOrder", "()Z"⟩, 8) := ⟨⟨by decide +kernel, by decide +kernel⟩, List.mem_of_getElem? (i := 186) (by decide +kernel), List.mem_of_getElem? (i := 262) (by decide +kernel), List.mem_of_getElem? (i := 263) (by decide +kernel)⟩
theorem lw_p2 : lw_okq (⟨"LateThermometers$OrderText", "takesSign", "(C)Z"⟩, 8) := ⟨⟨by decide +kernel, by decide +kernel⟩, List.mem_of_getElem? (i := 186) (by decide +kernel), List.mem_of_getElem? (i := 266) (by decide +kernel), List.mem_of_getElem? (i := 267) (by decide +kernel)⟩
theorem lw_p3 : lw_okq (⟨"LateThermometers$OrderText", "takes", "(CC)Z"⟩, 8) := ⟨⟨by decide +kernel, by decide +kernel⟩, List.mem_of_getElem? (i := 186) (by decide +kernel), List.mem_of_getElem? (i := 270) (by decide +kernel), List.mem_of_getElem? (i := 271) (by decide +kernel)⟩
theorem lw_p4 : lw_okq (⟨"LateThermometers$OrderText", "readsRow", "()Z"⟩, 8) := ⟨⟨by decide +kernel, by decide +kernel⟩, List.mem_of_getElem? (i := 186) (by decide +kernel), List.mem_of_getElem? (i := 274) (by decide +kernel), List.mem_of_getElem? (i := 275) (by decide +kernel)⟩
theorem lw_p5 : lw_okq (⟨"LateThermometers$OrderText", "readsNumber", "(CC)Z"⟩, 8) := ⟨⟨by decide +kernel, by decide +kernel⟩, List.mem_of_getElem? (i := 186) (by decide +kernel), List.mem_of_getElem? (i := 278) (by decide +kernel), List.mem_of_getElem? (i := 279) (by decide +kernel)⟩
theorem lw_p6 : lw_okq (⟨"LateThermometers$OrderText", "readsWeight", "()Z"⟩, 8) := ⟨⟨by decide +kernel, by decide +kernel⟩, List.mem_of_getElem? (i := 186) (by decide +kernel), List.mem_of_getElem? (i := 282) (by decide +kernel), List.mem_of_getElem? (i := 283) (by decide +kernel)⟩
theorem lw_p7 : lw_okq (⟨"LateThermometers$OrderText", "readsDegrees", "()Z"⟩, 8) := ⟨⟨by decide +kernel, by decide +kernel⟩, List.mem_of_getElem? (i := 186) (by decide +kernel), List.mem_of_getElem? (i := 286) (by decide +kernel), List.mem_of_getElem? (i := 287) (by decide +kernel)⟩
theorem lw_p8 : lw_okq (⟨"java/lang/Throwable", "fillInStackTrace", "(I)Ljava/lang/Throwable;"⟩, 6) := ⟨⟨by decide +kernel, by decide +kernel⟩, List.mem_of_getElem? (i := 376) (by decide +kernel), List.mem_of_getElem? (i := 374) (by decide +kernel), List.mem_of_getElem? (i := 375) (by decide +kernel)⟩
theorem lw_p9 : lw_okq (⟨"LateThermometers$History", "stateAt", "(I)LLateThermometers$Place;"⟩, 4) := ⟨⟨by decide +kernel, by decide +kernel⟩, List.mem_of_getElem? (i := 146) (by decide +kernel), List.mem_of_getElem? (i := 449) (by decide +kernel), List.mem_of_getElem? (i := 450) (by decide +kernel)⟩
theorem lw_p10 : lw_okq (⟨"LateThermometers", "checkHoursLeft", "(I)V"⟩, 6) := ⟨⟨by decide +kernel, by decide +kernel⟩, List.mem_of_getElem? (i := 18) (by decide +kernel), List.mem_of_getElem? (i := 487) (by decide +kernel), List.mem_of_getElem? (i := 488) (by decide +kernel)⟩
theorem lw_p11 : lw_okq (⟨"LateThermometers$Thermometer", "stepFrom", "(II)I"⟩, 12) := ⟨⟨by decide +kernel, by decide +kernel⟩, List.mem_of_getElem? (i := 33) (by decide +kernel), List.mem_of_getElem? (i := 515) (by decide +kernel), List.mem_of_getElem? (i := 516) (by decide +kernel)⟩
theorem lw_p12 : lw_okq (⟨"LateThermometers$Place", "readRows", "()V"⟩, 13) := ⟨⟨by decide +kernel, by decide +kernel⟩, List.mem_of_getElem? (i := 26) (by decide +kernel), List.mem_of_getElem? (i := 520) (by decide +kernel), List.mem_of_getElem? (i := 521) (by decide +kernel)⟩
theorem lw_p13 : lw_okq (⟨"LateThermometers$Place", "isReadNow", "(I)Z"⟩, 13) := ⟨⟨by decide +kernel, by decide +kernel⟩, List.mem_of_getElem? (i := 26) (by decide +kernel), List.mem_of_getElem? (i := 524) (by decide +kernel), List.mem_of_getElem? (i := 525) (by decide +kernel)⟩
theorem lw_p14 : lw_okq (⟨"LateThermometers$Place", "lookForSpikes", "()V"⟩, 13) := ⟨⟨by decide +kernel, by decide +kernel⟩, List.mem_of_getElem? (i := 26) (by decide +kernel), List.mem_of_getElem? (i := 552) (by decide +kernel), List.mem_of_getElem? (i := 553) (by decide +kernel)⟩
theorem lw_p15 : lw_okq (⟨"LateThermometers$Place", "compareWithOthers", "(I)V"⟩, 13) := ⟨⟨by decide +kernel, by decide +kernel⟩, List.mem_of_getElem? (i := 26) (by decide +kernel), List.mem_of_getElem? (i := 575) (by decide +kernel), List.mem_of_getElem? (i := 576) (by decide +kernel)⟩
def lw_privs_1 : List (MethodName × Nat) := [(⟨"LateThermometers$OrderText", "readsAll", "()Z"⟩, 8), (⟨"LateThermometers$OrderText", "readsOrder", "()Z"⟩, 8), (⟨"LateThermometers$OrderText", "takesSign", "(C)Z"⟩, 8), (⟨"LateThermometers$OrderText", "takes", "(CC)Z"⟩, 8), (⟨"LateThermometers$OrderText", "readsRow", "()Z"⟩, 8), (⟨"LateThermometers$OrderText", "readsNumber", "(CC)Z"⟩, 8), (⟨"LateThermometers$OrderText", "readsWeight", "()Z"⟩, 8), (⟨"LateThermometers$OrderText", "readsDegrees", "()Z"⟩, 8), (⟨"java/lang/Throwable", "fillInStackTrace", "(I)Ljava/lang/Throwable;"⟩, 6), (⟨"LateThermometers$History", "stateAt", "(I)LLateThermometers$Place;"⟩, 4), (⟨"LateThermometers", "checkHoursLeft", "(I)V"⟩, 6), (⟨"LateThermometers$Thermometer", "stepFrom", "(II)I"⟩, 12), (⟨"LateThermometers$Place", "readRows", "()V"⟩, 13), (⟨"LateThermometers$Place", "isReadNow", "(I)Z"⟩, 13), (⟨"LateThermometers$Place", "lookForSpikes", "()V"⟩, 13), (⟨"LateThermometers$Place", "compareWithOthers", "(I)V"⟩, 13)]
theorem lw_r1 : ∀ q ∈ lw_privs_1, lw_okq q := List.forall_mem_cons.mpr ⟨lw_p0, List.forall_mem_cons.mpr ⟨lw_p1, List.forall_mem_cons.mpr ⟨lw_p2, List.forall_mem_cons.mpr ⟨lw_p3, List.forall_mem_cons.mpr ⟨lw_p4, List.forall_mem_cons.mpr ⟨lw_p5, List.forall_mem_cons.mpr ⟨lw_p6, List.forall_mem_cons.mpr ⟨lw_p7, List.forall_mem_cons.mpr ⟨lw_p8, List.forall_mem_cons.mpr ⟨lw_p9, List.forall_mem_cons.mpr ⟨lw_p10, List.forall_mem_cons.mpr ⟨lw_p11, List.forall_mem_cons.mpr ⟨lw_p12, List.forall_mem_cons.mpr ⟨lw_p13, List.forall_mem_cons.mpr ⟨lw_p14, List.forall_mem_cons.mpr ⟨lw_p15, fun _ h => absurd h List.not_mem_nil⟩⟩⟩⟩⟩⟩⟩⟩⟩⟩⟩⟩⟩⟩⟩⟩
theorem lw_p16 : lw_okq (⟨"LateThermometers", "checkThermometer", "(I)V"⟩, 6) := ⟨⟨by decide +kernel, by decide +kernel⟩, List.mem_of_getElem? (i := 18) (by decide +kernel), List.mem_of_getElem? (i := 639) (by decide +kernel), List.mem_of_getElem? (i := 640) (by decide +kernel)⟩
theorem lw_p17 : lw_okq (⟨"LateThermometers", "carriesOut", "()Z"⟩, 6) := ⟨⟨by decide +kernel, by decide +kernel⟩, List.mem_of_getElem? (i := 18) (by decide +kernel), List.mem_of_getElem? (i := 700) (by decide +kernel), List.mem_of_getElem? (i := 701) (by decide +kernel)⟩
theorem lw_p18 : lw_okq (⟨"LateThermometers", "snapshotIn", "(I)LLateThermometers$Snapshot;"⟩, 6) := ⟨⟨by decide +kernel, by decide +kernel⟩, List.mem_of_getElem? (i := 18) (by decide +kernel), List.mem_of_getElem? (i := 723) (by decide +kernel), List.mem_of_getElem? (i := 724) (by decide +kernel)⟩
theorem lw_p19 : lw_okq (⟨"LateThermometers$Place", "countAheadOf", "(II)I"⟩, 13) := ⟨⟨by decide +kernel, by decide +kernel⟩, List.mem_of_getElem? (i := 26) (by decide +kernel), List.mem_of_getElem? (i := 816) (by decide +kernel), List.mem_of_getElem? (i := 817) (by decide +kernel)⟩
theorem lw_p20 : lw_okq (⟨"LateThermometers$Place", "sortKey", "(II)I"⟩, 13) := ⟨⟨by decide +kernel, by decide +kernel⟩, List.mem_of_getElem? (i := 26) (by decide +kernel), List.mem_of_getElem? (i := 820) (by decide +kernel), List.mem_of_getElem? (i := 821) (by decide +kernel)⟩
theorem lw_p21 : lw_okq (⟨"LateThermometersModel", "fails", "(I)I"⟩, 18) := ⟨⟨by decide +kernel, by decide +kernel⟩, List.mem_of_getElem? (i := 871) (by decide +kernel), List.mem_of_getElem? (i := 942) (by decide +kernel), List.mem_of_getElem? (i := 943) (by decide +kernel)⟩
theorem lw_p22 : lw_okq (⟨"LateThermometersModel", "save", "()V"⟩, 18) := ⟨⟨by decide +kernel, by decide +kernel⟩, List.mem_of_getElem? (i := 871) (by decide +kernel), List.mem_of_getElem? (i := 957) (by decide +kernel), List.mem_of_getElem? (i := 958) (by decide +kernel)⟩
theorem lw_p23 : lw_okq (⟨"LateThermometersModel", "add", "(IIII)I"⟩, 18) := ⟨⟨by decide +kernel, by decide +kernel⟩, List.mem_of_getElem? (i := 871) (by decide +kernel), List.mem_of_getElem? (i := 971) (by decide +kernel), List.mem_of_getElem? (i := 972) (by decide +kernel)⟩
theorem lw_p24 : lw_okq (⟨"LateThermometersModel", "put", "(III)V"⟩, 18) := ⟨⟨by decide +kernel, by decide +kernel⟩, List.mem_of_getElem? (i := 871) (by decide +kernel), List.mem_of_getElem? (i := 975) (by decide +kernel), List.mem_of_getElem? (i := 976) (by decide +kernel)⟩
theorem lw_p25 : lw_okq (⟨"LateThermometersModel", "pass", "(I)I"⟩, 18) := ⟨⟨by decide +kernel, by decide +kernel⟩, List.mem_of_getElem? (i := 871) (by decide +kernel), List.mem_of_getElem? (i := 986) (by decide +kernel), List.mem_of_getElem? (i := 987) (by decide +kernel)⟩
theorem lw_p26 : lw_okq (⟨"LateThermometersModel", "mean", "()I"⟩, 18) := ⟨⟨by decide +kernel, by decide +kernel⟩, List.mem_of_getElem? (i := 871) (by decide +kernel), List.mem_of_getElem? (i := 990) (by decide +kernel), List.mem_of_getElem? (i := 991) (by decide +kernel)⟩
theorem lw_p27 : lw_okq (⟨"LateThermometersModel", "isAsked", "(I)Z"⟩, 18) := ⟨⟨by decide +kernel, by decide +kernel⟩, List.mem_of_getElem? (i := 871) (by decide +kernel), List.mem_of_getElem? (i := 994) (by decide +kernel), List.mem_of_getElem? (i := 995) (by decide +kernel)⟩
theorem lw_p28 : lw_okq (⟨"LateThermometersModel", "of", "(II)I"⟩, 18) := ⟨⟨by decide +kernel, by decide +kernel⟩, List.mem_of_getElem? (i := 871) (by decide +kernel), List.mem_of_getElem? (i := 998) (by decide +kernel), List.mem_of_getElem? (i := 999) (by decide +kernel)⟩
theorem lw_p29 : lw_okq (⟨"LateThermometersModel", "mended", "(I)I"⟩, 18) := ⟨⟨by decide +kernel, by decide +kernel⟩, List.mem_of_getElem? (i := 871) (by decide +kernel), List.mem_of_getElem? (i := 1002) (by decide +kernel), List.mem_of_getElem? (i := 1003) (by decide +kernel)⟩
theorem lw_p30 : lw_okq (⟨"LateThermometersModel", "mendedBy", "(II)I"⟩, 18) := ⟨⟨by decide +kernel, by decide +kernel⟩, List.mem_of_getElem? (i := 871) (by decide +kernel), List.mem_of_getElem? (i := 1006) (by decide +kernel), List.mem_of_getElem? (i := 1007) (by decide +kernel)⟩
theorem lw_p31 : lw_okq (⟨"LateThermometersModel", "follow", "(I)V"⟩, 18) := ⟨⟨by decide +kernel, by decide +kernel⟩, List.mem_of_getElem? (i := 871) (by decide +kernel), List.mem_of_getElem? (i := 1010) (by decide +kernel), List.mem_of_getElem? (i := 1011) (by decide +kernel)⟩
def lw_privs_2 : List (MethodName × Nat) := [(⟨"LateThermometers", "checkThermometer", "(I)V"⟩, 6), (⟨"LateThermometers", "carriesOut", "()Z"⟩, 6), (⟨"LateThermometers", "snapshotIn", "(I)LLateThermometers$Snapshot;"⟩, 6), (⟨"LateThermometers$Place", "countAheadOf", "(II)I"⟩, 13), (⟨"LateThermometers$Place", "sortKey", "(II)I"⟩, 13), (⟨"LateThermometersModel", "fails", "(I)I"⟩, 18), (⟨"LateThermometersModel", "save", "()V"⟩, 18), (⟨"LateThermometersModel", "add", "(IIII)I"⟩, 18), (⟨"LateThermometersModel", "put", "(III)V"⟩, 18), (⟨"LateThermometersModel", "pass", "(I)I"⟩, 18), (⟨"LateThermometersModel", "mean", "()I"⟩, 18), (⟨"LateThermometersModel", "isAsked", "(I)Z"⟩, 18), (⟨"LateThermometersModel", "of", "(II)I"⟩, 18), (⟨"LateThermometersModel", "mended", "(I)I"⟩, 18), (⟨"LateThermometersModel", "mendedBy", "(II)I"⟩, 18), (⟨"LateThermometersModel", "follow", "(I)V"⟩, 18)]
theorem lw_r2 : ∀ q ∈ lw_privs_2, lw_okq q := List.forall_mem_cons.mpr ⟨lw_p16, List.forall_mem_cons.mpr ⟨lw_p17, List.forall_mem_cons.mpr ⟨lw_p18, List.forall_mem_cons.mpr ⟨lw_p19, List.forall_mem_cons.mpr ⟨lw_p20, List.forall_mem_cons.mpr ⟨lw_p21, List.forall_mem_cons.mpr ⟨lw_p22, List.forall_mem_cons.mpr ⟨lw_p23, List.forall_mem_cons.mpr ⟨lw_p24, List.forall_mem_cons.mpr ⟨lw_p25, List.forall_mem_cons.mpr ⟨lw_p26, List.forall_mem_cons.mpr ⟨lw_p27, List.forall_mem_cons.mpr ⟨lw_p28, List.forall_mem_cons.mpr ⟨lw_p29, List.forall_mem_cons.mpr ⟨lw_p30, List.forall_mem_cons.mpr ⟨lw_p31, fun _ h => absurd h List.not_mem_nil⟩⟩⟩⟩⟩⟩⟩⟩⟩⟩⟩⟩⟩⟩⟩⟩
theorem lw_p32 : lw_okq (⟨"LateThermometersModel", "changeOf", "(I)I"⟩, 18) := ⟨⟨by decide +kernel, by decide +kernel⟩, List.mem_of_getElem? (i := 871) (by decide +kernel), List.mem_of_getElem? (i := 1014) (by decide +kernel), List.mem_of_getElem? (i := 1015) (by decide +kernel)⟩
theorem lw_p33 : lw_okq (⟨"LateThermometersModel", "readRows", "()I"⟩, 18) := ⟨⟨by decide +kernel, by decide +kernel⟩, List.mem_of_getElem? (i := 871) (by decide +kernel), List.mem_of_getElem? (i := 1018) (by decide +kernel), List.mem_of_getElem? (i := 1019) (by decide +kernel)⟩
theorem lw_p34 : lw_okq (⟨"LateThermometersModel", "isDue", "(I)Z"⟩, 18) := ⟨⟨by decide +kernel, by decide +kernel⟩, List.mem_of_getElem? (i := 871) (by decide +kernel), List.mem_of_getElem? (i := 1022) (by decide +kernel), List.mem_of_getElem? (i := 1023) (by decide +kernel)⟩
theorem lw_p35 : lw_okq (⟨"LateThermometersModel", "read", "(I)V"⟩, 18) := ⟨⟨by decide +kernel, by decide +kernel⟩, List.mem_of_getElem? (i := 871) (by decide +kernel), List.mem_of_getElem? (i := 1026) (by decide +kernel), List.mem_of_getElem? (i := 1027) (by decide +kernel)⟩
theorem lw_p36 : lw_okq (⟨"LateThermometersModel", "lookForSpikes", "()V"⟩, 18) := ⟨⟨by decide +kernel, by decide +kernel⟩, List.mem_of_getElem? (i := 871) (by decide +kernel), List.mem_of_getElem? (i := 1030) (by decide +kernel), List.mem_of_getElem? (i := 1031) (by decide +kernel)⟩
theorem lw_p37 : lw_okq (⟨"LateThermometersModel", "compare", "(I)V"⟩, 18) := ⟨⟨by decide +kernel, by decide +kernel⟩, List.mem_of_getElem? (i := 871) (by decide +kernel), List.mem_of_getElem? (i := 1034) (by decide +kernel), List.mem_of_getElem? (i := 1035) (by decide +kernel)⟩
theorem lw_p38 : lw_okq (⟨"LateThermometersModel", "middleWithout", "(I)I"⟩, 18) := ⟨⟨by decide +kernel, by decide +kernel⟩, List.mem_of_getElem? (i := 871) (by decide +kernel), List.mem_of_getElem? (i := 1038) (by decide +kernel), List.mem_of_getElem? (i := 1039) (by decide +kernel)⟩
theorem lw_p39 : lw_okq (⟨"LateThermometersModel", "sortIn", "(I)V"⟩, 18) := ⟨⟨by decide +kernel, by decide +kernel⟩, List.mem_of_getElem? (i := 871) (by decide +kernel), List.mem_of_getElem? (i := 1042) (by decide +kernel), List.mem_of_getElem? (i := 1043) (by decide +kernel)⟩
theorem lw_p40 : lw_okq (⟨"LateThermometersModel", "periodNow", "(II)I"⟩, 18) := ⟨⟨by decide +kernel, by decide +kernel⟩, List.mem_of_getElem? (i := 871) (by decide +kernel), List.mem_of_getElem? (i := 1057) (by decide +kernel), List.mem_of_getElem? (i := 1058) (by decide +kernel)⟩
theorem lw_p41 : lw_okq (⟨"LateThermometersModel", "is", "(I)Z"⟩, 18) := ⟨⟨by decide +kernel, by decide +kernel⟩, List.mem_of_getElem? (i := 871) (by decide +kernel), List.mem_of_getElem? (i := 1065) (by decide +kernel), List.mem_of_getElem? (i := 1066) (by decide +kernel)⟩
theorem lw_p42 : lw_okq (⟨"LateThermometersModel", "calibrateNow", "(I)I"⟩, 18) := ⟨⟨by decide +kernel, by decide +kernel⟩, List.mem_of_getElem? (i := 871) (by decide +kernel), List.mem_of_getElem? (i := 1069) (by decide +kernel), List.mem_of_getElem? (i := 1070) (by decide +kernel)⟩
theorem lw_p43 : lw_okq (⟨"LateThermometersModel", "isComplete", "()Z"⟩, 18) := ⟨⟨by decide +kernel, by decide +kernel⟩, List.mem_of_getElem? (i := 871) (by decide +kernel), List.mem_of_getElem? (i := 1094) (by decide +kernel), List.mem_of_getElem? (i := 1095) (by decide +kernel)⟩
theorem lw_p44 : lw_okq (⟨"LateThermometersModel", "readOrder", "()Z"⟩, 18) := ⟨⟨by decide +kernel, by decide +kernel⟩, List.mem_of_getElem? (i := 871) (by decide +kernel), List.mem_of_getElem? (i := 1098) (by decide +kernel), List.mem_of_getElem? (i := 1099) (by decide +kernel)⟩
theorem lw_p45 : lw_okq (⟨"LateThermometersModel", "readNew", "()Z"⟩, 18) := ⟨⟨by decide +kernel, by decide +kernel⟩, List.mem_of_getElem? (i := 871) (by decide +kernel), List.mem_of_getElem? (i := 1102) (by decide +kernel), List.mem_of_getElem? (i := 1103) (by decide +kernel)⟩
theorem lw_p46 : lw_okq (⟨"LateThermometersModel", "takes", "(II)Z"⟩, 18) := ⟨⟨by decide +kernel, by decide +kernel⟩, List.mem_of_getElem? (i := 871) (by decide +kernel), List.mem_of_getElem? (i := 1106) (by decide +kernel), List.mem_of_getElem? (i := 1107) (by decide +kernel)⟩
theorem lw_p47 : lw_okq (⟨"LateThermometersModel", "digit", "()I"⟩, 18) := ⟨⟨by decide +kernel, by decide +kernel⟩, List.mem_of_getElem? (i := 871) (by decide +kernel), List.mem_of_getElem? (i := 1110) (by decide +kernel), List.mem_of_getElem? (i := 1111) (by decide +kernel)⟩
def lw_privs_3 : List (MethodName × Nat) := [(⟨"LateThermometersModel", "changeOf", "(I)I"⟩, 18), (⟨"LateThermometersModel", "readRows", "()I"⟩, 18), (⟨"LateThermometersModel", "isDue", "(I)Z"⟩, 18), (⟨"LateThermometersModel", "read", "(I)V"⟩, 18), (⟨"LateThermometersModel", "lookForSpikes", "()V"⟩, 18), (⟨"LateThermometersModel", "compare", "(I)V"⟩, 18), (⟨"LateThermometersModel", "middleWithout", "(I)I"⟩, 18), (⟨"LateThermometersModel", "sortIn", "(I)V"⟩, 18), (⟨"LateThermometersModel", "periodNow", "(II)I"⟩, 18), (⟨"LateThermometersModel", "is", "(I)Z"⟩, 18), (⟨"LateThermometersModel", "calibrateNow", "(I)I"⟩, 18), (⟨"LateThermometersModel", "isComplete", "()Z"⟩, 18), (⟨"LateThermometersModel", "readOrder", "()Z"⟩, 18), (⟨"LateThermometersModel", "readNew", "()Z"⟩, 18), (⟨"LateThermometersModel", "takes", "(II)Z"⟩, 18), (⟨"LateThermometersModel", "digit", "()I"⟩, 18)]
theorem lw_r3 : ∀ q ∈ lw_privs_3, lw_okq q := List.forall_mem_cons.mpr ⟨lw_p32, List.forall_mem_cons.mpr ⟨lw_p33, List.forall_mem_cons.mpr ⟨lw_p34, List.forall_mem_cons.mpr ⟨lw_p35, List.forall_mem_cons.mpr ⟨lw_p36, List.forall_mem_cons.mpr ⟨lw_p37, List.forall_mem_cons.mpr ⟨lw_p38, List.forall_mem_cons.mpr ⟨lw_p39, List.forall_mem_cons.mpr ⟨lw_p40, List.forall_mem_cons.mpr ⟨lw_p41, List.forall_mem_cons.mpr ⟨lw_p42, List.forall_mem_cons.mpr ⟨lw_p43, List.forall_mem_cons.mpr ⟨lw_p44, List.forall_mem_cons.mpr ⟨lw_p45, List.forall_mem_cons.mpr ⟨lw_p46, List.forall_mem_cons.mpr ⟨lw_p47, fun _ h => absurd h List.not_mem_nil⟩⟩⟩⟩⟩⟩⟩⟩⟩⟩⟩⟩⟩⟩⟩⟩
theorem lw_p48 : lw_okq (⟨"LateThermometersModel", "readDegrees", "()Z"⟩, 18) := ⟨⟨by decide +kernel, by decide +kernel⟩, List.mem_of_getElem? (i := 871) (by decide +kernel), List.mem_of_getElem? (i := 1114) (by decide +kernel), List.mem_of_getElem? (i := 1115) (by decide +kernel)⟩
theorem lw_p49 : lw_okq (⟨"LateThermometersModel", "readPeriod", "()Z"⟩, 18) := ⟨⟨by decide +kernel, by decide +kernel⟩, List.mem_of_getElem? (i := 871) (by decide +kernel), List.mem_of_getElem? (i := 1118) (by decide +kernel), List.mem_of_getElem? (i := 1119) (by decide +kernel)⟩
theorem lw_p50 : lw_okq (⟨"LateThermometersModel", "readCalibrated", "()Z"⟩, 18) := ⟨⟨by decide +kernel, by decide +kernel⟩, List.mem_of_getElem? (i := 871) (by decide +kernel), List.mem_of_getElem? (i := 1122) (by decide +kernel), List.mem_of_getElem? (i := 1123) (by decide +kernel)⟩
theorem lw_p51 : lw_okq (⟨"LateThermometersModel", "canDo", "(I)Z"⟩, 18) := ⟨⟨by decide +kernel, by decide +kernel⟩, List.mem_of_getElem? (i := 871) (by decide +kernel), List.mem_of_getElem? (i := 1130) (by decide +kernel), List.mem_of_getElem? (i := 1131) (by decide +kernel)⟩
theorem lw_p52 : lw_okq (⟨"LateThermometersModel", "doOrder", "(I)I"⟩, 18) := ⟨⟨by decide +kernel, by decide +kernel⟩, List.mem_of_getElem? (i := 871) (by decide +kernel), List.mem_of_getElem? (i := 1134) (by decide +kernel), List.mem_of_getElem? (i := 1135) (by decide +kernel)⟩
theorem lw_p53 : lw_okq (⟨"LateThermometersModel", "ofRow", "(II)I"⟩, 18) := ⟨⟨by decide +kernel, by decide +kernel⟩, List.mem_of_getElem? (i := 871) (by decide +kernel), List.mem_of_getElem? (i := 1150) (by decide +kernel), List.mem_of_getElem? (i := 1151) (by decide +kernel)⟩
theorem lw_p54 : lw_okq (⟨"LateThermometersModel", "inRow", "(I)I"⟩, 18) := ⟨⟨by decide +kernel, by decide +kernel⟩, List.mem_of_getElem? (i := 871) (by decide +kernel), List.mem_of_getElem? (i := 1154) (by decide +kernel), List.mem_of_getElem? (i := 1155) (by decide +kernel)⟩
theorem lw_p55 : lw_okq (⟨"LateThermometersModel", "number", "(I)I"⟩, 18) := ⟨⟨by decide +kernel, by decide +kernel⟩, List.mem_of_getElem? (i := 871) (by decide +kernel), List.mem_of_getElem? (i := 1162) (by decide +kernel), List.mem_of_getElem? (i := 1163) (by decide +kernel)⟩
theorem lw_p56 : lw_okq (⟨"LateThermometersModel", "asked", "()I"⟩, 18) := ⟨⟨by decide +kernel, by decide +kernel⟩, List.mem_of_getElem? (i := 871) (by decide +kernel), List.mem_of_getElem? (i := 1166) (by decide +kernel), List.mem_of_getElem? (i := 1167) (by decide +kernel)⟩
theorem lw_p57 : lw_okq (⟨"LateThermometersModel", "shutOut", "()I"⟩, 18) := ⟨⟨by decide +kernel, by decide +kernel⟩, List.mem_of_getElem? (i := 871) (by decide +kernel), List.mem_of_getElem? (i := 1170) (by decide +kernel), List.mem_of_getElem? (i := 1171) (by decide +kernel)⟩
theorem lw_p58 : lw_okq (⟨"LateThermometersModel", "slope", "()I"⟩, 18) := ⟨⟨by decide +kernel, by decide +kernel⟩, List.mem_of_getElem? (i := 871) (by decide +kernel), List.mem_of_getElem? (i := 1174) (by decide +kernel), List.mem_of_getElem? (i := 1175) (by decide +kernel)⟩
theorem lw_p59 : lw_okq (⟨"LateThermometersModel", "ofRank", "(II)I"⟩, 18) := ⟨⟨by decide +kernel, by decide +kernel⟩, List.mem_of_getElem? (i := 871) (by decide +kernel), List.mem_of_getElem? (i := 1182) (by decide +kernel), List.mem_of_getElem? (i := 1183) (by decide +kernel)⟩
theorem lw_p60 : lw_okq (⟨"LateThermometersModel", "key", "(II)I"⟩, 18) := ⟨⟨by decide +kernel, by decide +kernel⟩, List.mem_of_getElem? (i := 871) (by decide +kernel), List.mem_of_getElem? (i := 1186) (by decide +kernel), List.mem_of_getElem? (i := 1187) (by decide +kernel)⟩
theorem lw_p61 : lw_okq (⟨"LateThermometersModel", "off", "(I)I"⟩, 18) := ⟨⟨by decide +kernel, by decide +kernel⟩, List.mem_of_getElem? (i := 871) (by decide +kernel), List.mem_of_getElem? (i := 1190) (by decide +kernel), List.mem_of_getElem? (i := 1191) (by decide +kernel)⟩
theorem lw_p62 : lw_okq (⟨"LateThermometersModel", "best", "(I)I"⟩, 18) := ⟨⟨by decide +kernel, by decide +kernel⟩, List.mem_of_getElem? (i := 871) (by decide +kernel), List.mem_of_getElem? (i := 1206) (by decide +kernel), List.mem_of_getElem? (i := 1207) (by decide +kernel)⟩
theorem lw_p63 : lw_okq (⟨"LateThermometersModel", "behind", "(II)I"⟩, 18) := ⟨⟨by decide +kernel, by decide +kernel⟩, List.mem_of_getElem? (i := 871) (by decide +kernel), List.mem_of_getElem? (i := 1214) (by decide +kernel), List.mem_of_getElem? (i := 1215) (by decide +kernel)⟩
def lw_privs_4 : List (MethodName × Nat) := [(⟨"LateThermometersModel", "readDegrees", "()Z"⟩, 18), (⟨"LateThermometersModel", "readPeriod", "()Z"⟩, 18), (⟨"LateThermometersModel", "readCalibrated", "()Z"⟩, 18), (⟨"LateThermometersModel", "canDo", "(I)Z"⟩, 18), (⟨"LateThermometersModel", "doOrder", "(I)I"⟩, 18), (⟨"LateThermometersModel", "ofRow", "(II)I"⟩, 18), (⟨"LateThermometersModel", "inRow", "(I)I"⟩, 18), (⟨"LateThermometersModel", "number", "(I)I"⟩, 18), (⟨"LateThermometersModel", "asked", "()I"⟩, 18), (⟨"LateThermometersModel", "shutOut", "()I"⟩, 18), (⟨"LateThermometersModel", "slope", "()I"⟩, 18), (⟨"LateThermometersModel", "ofRank", "(II)I"⟩, 18), (⟨"LateThermometersModel", "key", "(II)I"⟩, 18), (⟨"LateThermometersModel", "off", "(I)I"⟩, 18), (⟨"LateThermometersModel", "best", "(I)I"⟩, 18), (⟨"LateThermometersModel", "behind", "(II)I"⟩, 18)]
theorem lw_r4 : ∀ q ∈ lw_privs_4, lw_okq q := List.forall_mem_cons.mpr ⟨lw_p48, List.forall_mem_cons.mpr ⟨lw_p49, List.forall_mem_cons.mpr ⟨lw_p50, List.forall_mem_cons.mpr ⟨lw_p51, List.forall_mem_cons.mpr ⟨lw_p52, List.forall_mem_cons.mpr ⟨lw_p53, List.forall_mem_cons.mpr ⟨lw_p54, List.forall_mem_cons.mpr ⟨lw_p55, List.forall_mem_cons.mpr ⟨lw_p56, List.forall_mem_cons.mpr ⟨lw_p57, List.forall_mem_cons.mpr ⟨lw_p58, List.forall_mem_cons.mpr ⟨lw_p59, List.forall_mem_cons.mpr ⟨lw_p60, List.forall_mem_cons.mpr ⟨lw_p61, List.forall_mem_cons.mpr ⟨lw_p62, List.forall_mem_cons.mpr ⟨lw_p63, fun _ h => absurd h List.not_mem_nil⟩⟩⟩⟩⟩⟩⟩⟩⟩⟩⟩⟩⟩⟩⟩⟩
theorem lw_p64 : lw_okq (⟨"LateThermometersModel", "widest", "()I"⟩, 18) := ⟨⟨by decide +kernel, by decide +kernel⟩, List.mem_of_getElem? (i := 871) (by decide +kernel), List.mem_of_getElem? (i := 1218) (by decide +kernel), List.mem_of_getElem? (i := 1219) (by decide +kernel)⟩
def lw_privs_5 : List (MethodName × Nat) := [(⟨"LateThermometersModel", "widest", "()I"⟩, 18)]
theorem lw_r5 : ∀ q ∈ lw_privs_5, lw_okq q := List.forall_mem_cons.mpr ⟨lw_p64, fun _ h => absurd h List.not_mem_nil⟩
def lw_privs : List (MethodName × Nat) := lw_privs_1 ++ (lw_privs_2 ++ (lw_privs_3 ++ (lw_privs_4 ++ (lw_privs_5))))
def lw_tbl : List Cond := k2_sels lw_privs ++ tables_1
theorem lw_privs_ok : ∀ q ∈ lw_privs, lw_okq q := by
  show ∀ q ∈ lw_privs_1 ++ (lw_privs_2 ++ (lw_privs_3 ++ (lw_privs_4 ++ (lw_privs_5)))), lw_okq q
  exact List.forall_mem_append.mpr ⟨lw_r1, List.forall_mem_append.mpr ⟨lw_r2, List.forall_mem_append.mpr ⟨lw_r3, List.forall_mem_append.mpr ⟨lw_r4, lw_r5⟩⟩⟩⟩
/-- the streams that the claim lets the run draw from -/
abbrev lw_cs : List Choice := [Jvm.Choice.named "NaN.bits"]
theorem lw_bits : nanBits ∈ lw_cs := by first | decide | exact List.mem_cons_self | simp [lw_cs, nanBits]

def RX0 : String := "LateThermometers$Ascending"
def TX0 : u_T := fun k => match k with
  | 0 => ("LateThermometers$Ascending", "numbers", "[I", true)
  | _ => ("LateThermometers$Ascending", "size", "I", false)
def tyX0 : Nat → FieldType := fun k => match k with
  | 0 => .array .int
  | _ => .int
theorem nmX0 : ∀ a, a < 2 → ∀ b, b < 2 → a ≠ b → (TX0 a).2.1 ≠ (TX0 b).2.1 := by decide +kernel
theorem tyX0_ok : ∀ k, k < 2 → parseFieldDescriptor (TX0 k).2.2.1 = some (tyX0 k) := by decide +kernel
abbrev cX0_init : ByteArray := prog_2_method_1_code
def yX0_init : MethodName := ⟨RX0, "<init>", "()V"⟩
abbrev cX0_clear : ByteArray := prog_2_method_2_code
def yX0_clear : MethodName := ⟨RX0, "clear", "()V"⟩
abbrev cX0_insert : ByteArray := prog_2_method_3_code
def yX0_insert : MethodName := ⟨RX0, "insert", "(I)V"⟩
abbrev cX0_middle : ByteArray := prog_2_method_4_code
def yX0_middle : MethodName := ⟨RX0, "middle", "()I"⟩
def RX1 : String := "LateThermometers$History"
def TX1 : u_T := fun k => match k with
  | 0 => ("LateThermometers$History", "states", "[LLateThermometers$Place;", true)
  | 1 => ("LateThermometers$History", "spare", "LLateThermometers$Place;", true)
  | 2 => ("LateThermometers$History", "next", "I", false)
  | _ => ("LateThermometers$History", "size", "I", false)
def tyX1 : Nat → FieldType := fun k => match k with
  | 0 => .array (.object "LateThermometers$Place")
  | 1 => .object "LateThermometers$Place"
  | 2 => .int
  | _ => .int
theorem nmX1 : ∀ a, a < 4 → ∀ b, b < 4 → a ≠ b → (TX1 a).2.1 ≠ (TX1 b).2.1 := by decide +kernel
theorem tyX1_ok : ∀ k, k < 4 → parseFieldDescriptor (TX1 k).2.2.1 = some (tyX1 k) := by decide +kernel
abbrev cX1_init : ByteArray := prog_3_method_1_code
def yX1_init : MethodName := ⟨RX1, "<init>", "()V"⟩
abbrev cX1_save : ByteArray := prog_3_method_2_code
def yX1_save : MethodName := ⟨RX1, "save", "(LLateThermometers$Place;)V"⟩
abbrev cX1_restoreLatest : ByteArray := prog_3_method_3_code
def yX1_restoreLatest : MethodName := ⟨RX1, "restoreLatest", "(LLateThermometers$Place;)V"⟩
abbrev cX1_stateAt : ByteArray := prog_3_method_4_code
def yX1_stateAt : MethodName := ⟨RX1, "stateAt", "(I)LLateThermometers$Place;"⟩
def RX2 : String := "LateThermometers$OrderText"
def TX2 : u_T := fun k => match k with
  | 0 => ("LateThermometers$OrderText", "characters", "[C", true)
  | 1 => ("LateThermometers$OrderText", "position", "I", false)
  | 2 => ("LateThermometers$OrderText", "digit", "I", false)
  | 3 => ("LateThermometers$OrderText", "length", "I", false)
  | 4 => ("LateThermometers$OrderText", "kind", "I", false)
  | 5 => ("LateThermometers$OrderText", "row", "I", false)
  | 6 => ("LateThermometers$OrderText", "number", "I", false)
  | _ => ("LateThermometers$OrderText", "weight", "I", false)
def tyX2 : Nat → FieldType := fun k => match k with
  | 0 => .array .char
  | 1 => .int
  | 2 => .int
  | 3 => .int
  | 4 => .int
  | 5 => .int
  | 6 => .int
  | _ => .int
theorem nmX2 : ∀ a, a < 8 → ∀ b, b < 8 → a ≠ b → (TX2 a).2.1 ≠ (TX2 b).2.1 := by decide +kernel
theorem tyX2_ok : ∀ k, k < 8 → parseFieldDescriptor (TX2 k).2.2.1 = some (tyX2 k) := by decide +kernel
abbrev cX2_init : ByteArray := prog_4_method_1_code
def yX2_init : MethodName := ⟨RX2, "<init>", "()V"⟩
abbrev cX2_isFull : ByteArray := prog_4_method_2_code
def yX2_isFull : MethodName := ⟨RX2, "isFull", "()Z"⟩
abbrev cX2_addCharacter : ByteArray := prog_4_method_3_code
def yX2_addCharacter : MethodName := ⟨RX2, "addCharacter", "(C)V"⟩
abbrev cX2_goToStart : ByteArray := prog_4_method_4_code
def yX2_goToStart : MethodName := ⟨RX2, "goToStart", "()V"⟩
abbrev cX2_isComplete : ByteArray := prog_4_method_5_code
def yX2_isComplete : MethodName := ⟨RX2, "isComplete", "()Z"⟩
abbrev cX2_indexOfError : ByteArray := prog_4_method_6_code
def yX2_indexOfError : MethodName := ⟨RX2, "indexOfError", "()I"⟩
abbrev cX2_readsAll : ByteArray := prog_4_method_7_code
def yX2_readsAll : MethodName := ⟨RX2, "readsAll", "()Z"⟩
abbrev cX2_readNextOrder : ByteArray := prog_4_method_8_code
def yX2_readNextOrder : MethodName := ⟨RX2, "readNextOrder", "()Z"⟩
abbrev cX2_readsOrder : ByteArray := prog_4_method_9_code
def yX2_readsOrder : MethodName := ⟨RX2, "readsOrder", "()Z"⟩
abbrev cX2_readsRow : ByteArray := prog_4_method_10_code
def yX2_readsRow : MethodName := ⟨RX2, "readsRow", "()Z"⟩
abbrev cX2_readsNumber : ByteArray := prog_4_method_11_code
def yX2_readsNumber : MethodName := ⟨RX2, "readsNumber", "(CC)Z"⟩
abbrev cX2_readsWeight : ByteArray := prog_4_method_12_code
def yX2_readsWeight : MethodName := ⟨RX2, "readsWeight", "()Z"⟩
abbrev cX2_readsDegrees : ByteArray := prog_4_method_13_code
def yX2_readsDegrees : MethodName := ⟨RX2, "readsDegrees", "()Z"⟩
abbrev cX2_takesSign : ByteArray := prog_4_method_14_code
def yX2_takesSign : MethodName := ⟨RX2, "takesSign", "(C)Z"⟩
abbrev cX2_takes : ByteArray := prog_4_method_15_code
def yX2_takes : MethodName := ⟨RX2, "takes", "(CC)Z"⟩
def RX3 : String := "LateThermometers$Place"
def TX3 : u_T := fun k => match k with
  | 0 => ("LateThermometers$Place", "thermometers", "[LLateThermometers$Thermometer;", true)
  | 1 => ("LateThermometers$Place", "spare", "LLateThermometers$Thermometer;", true)
  | 2 => ("LateThermometers$Place", "periods", "[I", true)
  | 3 => ("LateThermometers$Place", "timesRead", "[I", true)
  | 4 => ("LateThermometers$Place", "sorted", "LLateThermometers$Ascending;", true)
  | 5 => ("LateThermometers$Place", "meanBefore", "I", false)
  | 6 => ("LateThermometers$Place", "size", "I", false)
  | 7 => ("LateThermometers$Place", "hour", "I", false)
  | 8 => ("LateThermometers$Place", "temperature", "I", false)
  | 9 => ("LateThermometers$Place", "readings", "I", false)
  | 10 => ("LateThermometers$Place", "spikes", "I", false)
  | 11 => ("LateThermometers$Place", "difference", "I", false)
  | _ => ("LateThermometers$Place", "strikesToShutOut", "I", false)
def tyX3 : Nat → FieldType := fun k => match k with
  | 0 => .array (.object "LateThermometers$Thermometer")
  | 1 => .object "LateThermometers$Thermometer"
  | 2 => .array .int
  | 3 => .array .int
  | 4 => .object "LateThermometers$Ascending"
  | 5 => .int
  | 6 => .int
  | 7 => .int
  | 8 => .int
  | 9 => .int
  | 10 => .int
  | 11 => .int
  | _ => .int
theorem nmX3 : ∀ a, a < 13 → ∀ b, b < 13 → a ≠ b → (TX3 a).2.1 ≠ (TX3 b).2.1 := by decide +kernel
theorem tyX3_ok : ∀ k, k < 13 → parseFieldDescriptor (TX3 k).2.2.1 = some (tyX3 k) := by decide +kernel
abbrev cX3_init : ByteArray := prog_5_method_1_code
def yX3_init : MethodName := ⟨RX3, "<init>", "()V"⟩
abbrev cX3_copyFrom : ByteArray := prog_5_method_2_code
def yX3_copyFrom : MethodName := ⟨RX3, "copyFrom", "(LLateThermometers$Place;)V"⟩
abbrev cX3_has : ByteArray := prog_5_method_3_code
def yX3_has : MethodName := ⟨RX3, "has", "(I)Z"⟩
abbrev cX3_hasRoom : ByteArray := prog_5_method_4_code
def yX3_hasRoom : MethodName := ⟨RX3, "hasRoom", "()Z"⟩
abbrev cX3_hasHoursLeft : ByteArray := prog_5_method_5_code
def yX3_hasHoursLeft : MethodName := ⟨RX3, "hasHoursLeft", "(I)Z"⟩
abbrev cX3_at : ByteArray := prog_5_method_6_code
def yX3_at : MethodName := ⟨RX3, "at", "(I)LLateThermometers$Thermometer;"⟩
abbrev cX3_add : ByteArray := prog_5_method_7_code
def yX3_add : MethodName := ⟨RX3, "add", "(IIII)I"⟩
abbrev cX3_changePeriod : ByteArray := prog_5_method_8_code
def yX3_changePeriod : MethodName := ⟨RX3, "changePeriod", "(II)V"⟩
abbrev cX3_periodOf : ByteArray := prog_5_method_9_code
def yX3_periodOf : MethodName := ⟨RX3, "periodOf", "(I)I"⟩
abbrev cX3_timesReadOf : ByteArray := prog_5_method_10_code
def yX3_timesReadOf : MethodName := ⟨RX3, "timesReadOf", "(I)I"⟩
abbrev cX3_hoursUntilRead : ByteArray := prog_5_method_11_code
def yX3_hoursUntilRead : MethodName := ⟨RX3, "hoursUntilRead", "(I)I"⟩
abbrev cX3_countInRow : ByteArray := prog_5_method_12_code
def yX3_countInRow : MethodName := ⟨RX3, "countInRow", "(I)I"⟩
abbrev cX3_passHours : ByteArray := prog_5_method_13_code
def yX3_passHours : MethodName := ⟨RX3, "passHours", "(II)V"⟩
abbrev cX3_passHour : ByteArray := prog_5_method_14_code
def yX3_passHour : MethodName := ⟨RX3, "passHour", "(I)I"⟩
abbrev cX3_readRows : ByteArray := prog_5_method_15_code
def yX3_readRows : MethodName := ⟨RX3, "readRows", "()V"⟩
abbrev cX3_isReadNow : ByteArray := prog_5_method_16_code
def yX3_isReadNow : MethodName := ⟨RX3, "isReadNow", "(I)Z"⟩
abbrev cX3_lookForSpikes : ByteArray := prog_5_method_17_code
def yX3_lookForSpikes : MethodName := ⟨RX3, "lookForSpikes", "()V"⟩
abbrev cX3_compareWithOthers : ByteArray := prog_5_method_18_code
def yX3_compareWithOthers : MethodName := ⟨RX3, "compareWithOthers", "(I)V"⟩
abbrev cX3_middleWithout : ByteArray := prog_5_method_19_code
def yX3_middleWithout : MethodName := ⟨RX3, "middleWithout", "(I)I"⟩
abbrev cX3_maskOfAsked : ByteArray := prog_5_method_20_code
def yX3_maskOfAsked : MethodName := ⟨RX3, "maskOfAsked", "()I"⟩
abbrev cX3_maskOfShutOut : ByteArray := prog_5_method_21_code
def yX3_maskOfShutOut : MethodName := ⟨RX3, "maskOfShutOut", "()I"⟩
abbrev cX3_mean : ByteArray := prog_5_method_22_code
def yX3_mean : MethodName := ⟨RX3, "mean", "()I"⟩
abbrev cX3_slope : ByteArray := prog_5_method_23_code
def yX3_slope : MethodName := ⟨RX3, "slope", "()I"⟩
abbrev cX3_atRank : ByteArray := prog_5_method_24_code
def yX3_atRank : MethodName := ⟨RX3, "atRank", "(II)I"⟩
abbrev cX3_countAheadOf : ByteArray := prog_5_method_25_code
def yX3_countAheadOf : MethodName := ⟨RX3, "countAheadOf", "(II)I"⟩
abbrev cX3_sortKey : ByteArray := prog_5_method_26_code
def yX3_sortKey : MethodName := ⟨RX3, "sortKey", "(II)I"⟩
abbrev cX3_countMended : ByteArray := prog_5_method_27_code
def yX3_countMended : MethodName := ⟨RX3, "countMended", "()I"⟩
abbrev cX3_countMendedIn : ByteArray := prog_5_method_28_code
def yX3_countMendedIn : MethodName := ⟨RX3, "countMendedIn", "(II)I"⟩
abbrev cX3_sumOfErrors : ByteArray := prog_5_method_29_code
def yX3_sumOfErrors : MethodName := ⟨RX3, "sumOfErrors", "()I"⟩
abbrev cX3_greatestDistance : ByteArray := prog_5_method_30_code
def yX3_greatestDistance : MethodName := ⟨RX3, "greatestDistance", "()I"⟩
def RX4 : String := "LateThermometers$Snapshot"
def TX4 : u_T := fun k => match k with
  | 0 => ("LateThermometers$Snapshot", "place", "LLateThermometers$Place;", true)
  | _ => ("LateThermometers$Snapshot", "taken", "Z", false)
def tyX4 : Nat → FieldType := fun k => match k with
  | 0 => .object "LateThermometers$Place"
  | _ => .boolean
theorem nmX4 : ∀ a, a < 2 → ∀ b, b < 2 → a ≠ b → (TX4 a).2.1 ≠ (TX4 b).2.1 := by decide +kernel
theorem tyX4_ok : ∀ k, k < 2 → parseFieldDescriptor (TX4 k).2.2.1 = some (tyX4 k) := by decide +kernel
abbrev cX4_init : ByteArray := prog_6_method_1_code
def yX4_init : MethodName := ⟨RX4, "<init>", "()V"⟩
abbrev cX4_take : ByteArray := prog_6_method_2_code
def yX4_take : MethodName := ⟨RX4, "take", "(LLateThermometers$Place;)V"⟩
def RX5 : String := "LateThermometers$Thermometer"
def TX5 : u_T := fun k => match k with
  | 0 => ("LateThermometers$Thermometer", "readingHours", "[I", true)
  | 1 => ("LateThermometers$Thermometer", "readingValues", "[I", true)
  | 2 => ("LateThermometers$Thermometer", "kept", "I", false)
  | 3 => ("LateThermometers$Thermometer", "lag", "I", false)
  | 4 => ("LateThermometers$Thermometer", "offset", "I", false)
  | 5 => ("LateThermometers$Thermometer", "row", "I", false)
  | 6 => ("LateThermometers$Thermometer", "weight", "I", false)
  | 7 => ("LateThermometers$Thermometer", "shown", "I", false)
  | 8 => ("LateThermometers$Thermometer", "strikes", "I", false)
  | 9 => ("LateThermometers$Thermometer", "spikes", "I", false)
  | 10 => ("LateThermometers$Thermometer", "shutOut", "Z", false)
  | _ => ("LateThermometers$Thermometer", "mended", "I", false)
def tyX5 : Nat → FieldType := fun k => match k with
  | 0 => .array .int
  | 1 => .array .int
  | 2 => .int
  | 3 => .int
  | 4 => .int
  | 5 => .int
  | 6 => .int
  | 7 => .int
  | 8 => .int
  | 9 => .int
  | 10 => .boolean
  | _ => .int
theorem nmX5 : ∀ a, a < 12 → ∀ b, b < 12 → a ≠ b → (TX5 a).2.1 ≠ (TX5 b).2.1 := by decide +kernel
theorem tyX5_ok : ∀ k, k < 12 → parseFieldDescriptor (TX5 k).2.2.1 = some (tyX5 k) := by decide +kernel
abbrev cX5_init : ByteArray := prog_7_method_1_code
def yX5_init : MethodName := ⟨RX5, "<init>", "()V"⟩
abbrev cX5_begin : ByteArray := prog_7_method_2_code
def yX5_begin : MethodName := ⟨RX5, "begin", "(IIIII)V"⟩
abbrev cX5_startAfresh : ByteArray := prog_7_method_3_code
def yX5_startAfresh : MethodName := ⟨RX5, "startAfresh", "(I)V"⟩
abbrev cX5_copyFrom : ByteArray := prog_7_method_4_code
def yX5_copyFrom : MethodName := ⟨RX5, "copyFrom", "(LLateThermometers$Thermometer;)V"⟩
abbrev cX5_follow : ByteArray := prog_7_method_5_code
def yX5_follow : MethodName := ⟨RX5, "follow", "(I)V"⟩
abbrev cX5_stepFrom : ByteArray := prog_7_method_6_code
def yX5_stepFrom : MethodName := ⟨RX5, "stepFrom", "(II)I"⟩
abbrev cX5_hoursUntilStill : ByteArray := prog_7_method_7_code
def yX5_hoursUntilStill : MethodName := ⟨RX5, "hoursUntilStill", "(I)I"⟩
abbrev cX5_takeReading : ByteArray := prog_7_method_8_code
def yX5_takeReading : MethodName := ⟨RX5, "takeReading", "(I)V"⟩
abbrev cX5_hourAgo : ByteArray := prog_7_method_9_code
def yX5_hourAgo : MethodName := ⟨RX5, "hourAgo", "(I)I"⟩
abbrev cX5_valueAgo : ByteArray := prog_7_method_10_code
def yX5_valueAgo : MethodName := ⟨RX5, "valueAgo", "(I)I"⟩
abbrev cX5_hasMended : ByteArray := prog_7_method_11_code
def yX5_hasMended : MethodName := ⟨RX5, "hasMended", "()Z"⟩
abbrev cX5_isAsked : ByteArray := prog_7_method_12_code
def yX5_isAsked : MethodName := ⟨RX5, "isAsked", "()Z"⟩
abbrev cX5_isAskedAndReadIn : ByteArray := prog_7_method_13_code
def yX5_isAskedAndReadIn : MethodName := ⟨RX5, "isAskedAndReadIn", "(I)Z"⟩
abbrev cX5_mendedWith : ByteArray := prog_7_method_14_code
def yX5_mendedWith : MethodName := ⟨RX5, "mendedWith", "(I)I"⟩
abbrev cX5_lagNearestTo : ByteArray := prog_7_method_15_code
def yX5_lagNearestTo : MethodName := ⟨RX5, "lagNearestTo", "(I)I"⟩
abbrev cX5_error : ByteArray := prog_7_method_16_code
def yX5_error : MethodName := ⟨RX5, "error", "(I)I"⟩
abbrev cX5_distance : ByteArray := prog_7_method_17_code
def yX5_distance : MethodName := ⟨RX5, "distance", "(I)I"⟩
abbrev cX5_compareWith : ByteArray := prog_7_method_18_code
def yX5_compareWith : MethodName := ⟨RX5, "compareWith", "(II)V"⟩
abbrev cX5_shutOutFrom : ByteArray := prog_7_method_19_code
def yX5_shutOutFrom : MethodName := ⟨RX5, "shutOutFrom", "(I)V"⟩
abbrev cX5_numberOf : ByteArray := prog_7_method_20_code
def yX5_numberOf : MethodName := ⟨RX5, "numberOf", "(I)I"⟩
def RX6 : String := "LateThermometers"
def TX6 : u_T := fun k => match k with
  | 0 => ("LateThermometers", "now", "LLateThermometers$Place;", true)
  | 1 => ("LateThermometers", "trial", "LLateThermometers$Place;", true)
  | 2 => ("LateThermometers", "history", "LLateThermometers$History;", true)
  | 3 => ("LateThermometers", "firstSnapshot", "LLateThermometers$Snapshot;", true)
  | 4 => ("LateThermometers", "secondSnapshot", "LLateThermometers$Snapshot;", true)
  | _ => ("LateThermometers", "text", "LLateThermometers$OrderText;", true)
def tyX6 : Nat → FieldType := fun k => match k with
  | 0 => .object "LateThermometers$Place"
  | 1 => .object "LateThermometers$Place"
  | 2 => .object "LateThermometers$History"
  | 3 => .object "LateThermometers$Snapshot"
  | 4 => .object "LateThermometers$Snapshot"
  | _ => .object "LateThermometers$OrderText"
theorem nmX6 : ∀ a, a < 6 → ∀ b, b < 6 → a ≠ b → (TX6 a).2.1 ≠ (TX6 b).2.1 := by decide +kernel
theorem tyX6_ok : ∀ k, k < 6 → parseFieldDescriptor (TX6 k).2.2.1 = some (tyX6 k) := by decide +kernel
abbrev cX6_init : ByteArray := prog_1_method_1_code
def yX6_init : MethodName := ⟨RX6, "<init>", "()V"⟩
abbrev cX6_thermometer : ByteArray := prog_1_method_2_code
def yX6_thermometer : MethodName := ⟨RX6, "thermometer", "(IIII)I"⟩
abbrev cX6_hour : ByteArray := prog_1_method_3_code
def yX6_hour : MethodName := ⟨RX6, "hour", "(I)I"⟩
abbrev cX6_hours : ByteArray := prog_1_method_4_code
def yX6_hours : MethodName := ⟨RX6, "hours", "(II)I"⟩
abbrev cX6_period : ByteArray := prog_1_method_5_code
def yX6_period : MethodName := ⟨RX6, "period", "(II)I"⟩
abbrev cX6_calibrate : ByteArray := prog_1_method_6_code
def yX6_calibrate : MethodName := ⟨RX6, "calibrate", "(I)I"⟩
abbrev cX6_knock : ByteArray := prog_1_method_7_code
def yX6_knock : MethodName := ⟨RX6, "knock", "(II)I"⟩
abbrev cX6_set : ByteArray := prog_1_method_8_code
def yX6_set : MethodName := ⟨RX6, "set", "(II)I"⟩
abbrev cX6_append : ByteArray := prog_1_method_9_code
def yX6_append : MethodName := ⟨RX6, "append", "(I)I"⟩
abbrev cX6_clearBuffer : ByteArray := prog_1_method_10_code
def yX6_clearBuffer : MethodName := ⟨RX6, "clearBuffer", "()I"⟩
abbrev cX6_firstError : ByteArray := prog_1_method_11_code
def yX6_firstError : MethodName := ⟨RX6, "firstError", "()I"⟩
abbrev cX6_execute : ByteArray := prog_1_method_12_code
def yX6_execute : MethodName := ⟨RX6, "execute", "()I"⟩
abbrev cX6_undo : ByteArray := prog_1_method_13_code
def yX6_undo : MethodName := ⟨RX6, "undo", "()I"⟩
abbrev cX6_keep : ByteArray := prog_1_method_14_code
def yX6_keep : MethodName := ⟨RX6, "keep", "(I)I"⟩
abbrev cX6_goBack : ByteArray := prog_1_method_15_code
def yX6_goBack : MethodName := ⟨RX6, "goBack", "(I)I"⟩
abbrev cX6_ofThermometer : ByteArray := prog_1_method_16_code
def yX6_ofThermometer : MethodName := ⟨RX6, "ofThermometer", "(II)I"⟩
abbrev cX6_reading : ByteArray := prog_1_method_17_code
def yX6_reading : MethodName := ⟨RX6, "reading", "(III)I"⟩
abbrev cX6_row : ByteArray := prog_1_method_18_code
def yX6_row : MethodName := ⟨RX6, "row", "(II)I"⟩
abbrev cX6_count : ByteArray := prog_1_method_19_code
def yX6_count : MethodName := ⟨RX6, "count", "(I)I"⟩
abbrev cX6_ranked : ByteArray := prog_1_method_20_code
def yX6_ranked : MethodName := ⟨RX6, "ranked", "(II)I"⟩
abbrev cX6_between : ByteArray := prog_1_method_21_code
def yX6_between : MethodName := ⟨RX6, "between", "(II)I"⟩
abbrev cX6_ifLag : ByteArray := prog_1_method_22_code
def yX6_ifLag : MethodName := ⟨RX6, "ifLag", "(II)I"⟩
abbrev cX6_bestLag : ByteArray := prog_1_method_23_code
def yX6_bestLag : MethodName := ⟨RX6, "bestLag", "(I)I"⟩
abbrev cX6_ifStill : ByteArray := prog_1_method_24_code
def yX6_ifStill : MethodName := ⟨RX6, "ifStill", "(II)I"⟩
abbrev cX6_stillIn : ByteArray := prog_1_method_25_code
def yX6_stillIn : MethodName := ⟨RX6, "stillIn", "(I)I"⟩
abbrev cX6_meanError : ByteArray := prog_1_method_26_code
def yX6_meanError : MethodName := ⟨RX6, "meanError", "()D"⟩
abbrev cX6_checkRow : ByteArray := prog_1_method_27_code
def yX6_checkRow : MethodName := ⟨RX6, "checkRow", "(I)V"⟩
abbrev cX6_checkRange : ByteArray := prog_1_method_28_code
def yX6_checkRange : MethodName := ⟨RX6, "checkRange", "(III)V"⟩
abbrev cX6_checkNotNegative : ByteArray := prog_1_method_29_code
def yX6_checkNotNegative : MethodName := ⟨RX6, "checkNotNegative", "(I)V"⟩
abbrev cX6_checkThermometer : ByteArray := prog_1_method_30_code
def yX6_checkThermometer : MethodName := ⟨RX6, "checkThermometer", "(I)V"⟩
abbrev cX6_checkHoursLeft : ByteArray := prog_1_method_31_code
def yX6_checkHoursLeft : MethodName := ⟨RX6, "checkHoursLeft", "(I)V"⟩
abbrev cX6_snapshotIn : ByteArray := prog_1_method_32_code
def yX6_snapshotIn : MethodName := ⟨RX6, "snapshotIn", "(I)LLateThermometers$Snapshot;"⟩
abbrev cX6_carriesOut : ByteArray := prog_1_method_33_code
def yX6_carriesOut : MethodName := ⟨RX6, "carriesOut", "()Z"⟩
abbrev cX6_quotient : ByteArray := prog_1_method_34_code
def yX6_quotient : MethodName := ⟨RX6, "quotient", "(II)I"⟩
abbrev cX6_remainder : ByteArray := prog_1_method_35_code
def yX6_remainder : MethodName := ⟨RX6, "remainder", "(II)I"⟩
abbrev cX6_entry : ByteArray := prog_1_method_36_code
def yX6_entry : MethodName := ⟨RX6, "entry", "([II)I"⟩
abbrev cX6_copyInto : ByteArray := prog_1_method_37_code
def yX6_copyInto : MethodName := ⟨RX6, "copyInto", "([I[I)V"⟩
abbrev cX6_putFirst : ByteArray := prog_1_method_38_code
def yX6_putFirst : MethodName := ⟨RX6, "putFirst", "([II)V"⟩
def RX7 : String := "LateThermometersModel"
def TX7 : u_T := fun k => match k with
  | 0 => ("LateThermometersModel", "row", "[I", true)
  | 1 => ("LateThermometersModel", "saved", "[I", true)
  | 2 => ("LateThermometersModel", "savedMany", "I", false)
  | 3 => ("LateThermometersModel", "snapshots", "[I", true)
  | 4 => ("LateThermometersModel", "isKept", "[Z", true)
  | 5 => ("LateThermometersModel", "aside", "[I", true)
  | 6 => ("LateThermometersModel", "thrown", "I", false)
  | 7 => ("LateThermometersModel", "sorted", "[I", true)
  | 8 => ("LateThermometersModel", "sortedMany", "I", false)
  | 9 => ("LateThermometersModel", "isCompared", "[Z", true)
  | 10 => ("LateThermometersModel", "buffer", "[I", true)
  | 11 => ("LateThermometersModel", "length", "I", false)
  | 12 => ("LateThermometersModel", "spot", "I", false)
  | 13 => ("LateThermometersModel", "orders", "I", false)
  | 14 => ("LateThermometersModel", "letter", "[I", true)
  | 15 => ("LateThermometersModel", "one", "[I", true)
  | 16 => ("LateThermometersModel", "two", "[I", true)
  | _ => ("LateThermometersModel", "three", "[I", true)
def tyX7 : Nat → FieldType := fun k => match k with
  | 0 => .array .int
  | 1 => .array .int
  | 2 => .int
  | 3 => .array .int
  | 4 => .array .boolean
  | 5 => .array .int
  | 6 => .int
  | 7 => .array .int
  | 8 => .int
  | 9 => .array .boolean
  | 10 => .array .int
  | 11 => .int
  | 12 => .int
  | 13 => .int
  | 14 => .array .int
  | 15 => .array .int
  | 16 => .array .int
  | _ => .array .int
theorem nmX7 : ∀ a, a < 18 → ∀ b, b < 18 → a ≠ b → (TX7 a).2.1 ≠ (TX7 b).2.1 := by decide +kernel
theorem tyX7_ok : ∀ k, k < 18 → parseFieldDescriptor (TX7 k).2.2.1 = some (tyX7 k) := by decide +kernel
abbrev cX7_init : ByteArray := prog_9_method_1_code
def yX7_init : MethodName := ⟨RX7, "<init>", "()V"⟩
abbrev cX7_thrown : ByteArray := prog_9_method_2_code
def yX7_thrown : MethodName := ⟨RX7, "thrown", "()I"⟩
abbrev cX7_fails : ByteArray := prog_9_method_3_code
def yX7_fails : MethodName := ⟨RX7, "fails", "(I)I"⟩
abbrev cX7_in : ByteArray := prog_9_method_4_code
def yX7_in : MethodName := ⟨RX7, "in", "(III)Z"⟩
abbrev cX7_isRow : ByteArray := prog_9_method_5_code
def yX7_isRow : MethodName := ⟨RX7, "isRow", "(I)Z"⟩
abbrev cX7_is : ByteArray := prog_9_method_6_code
def yX7_is : MethodName := ⟨RX7, "is", "(I)Z"⟩
abbrev cX7_of : ByteArray := prog_9_method_7_code
def yX7_of : MethodName := ⟨RX7, "of", "(II)I"⟩
abbrev cX7_put : ByteArray := prog_9_method_8_code
def yX7_put : MethodName := ⟨RX7, "put", "(III)V"⟩
abbrev cX7_size : ByteArray := prog_9_method_9_code
def yX7_size : MethodName := ⟨RX7, "size", "(I)I"⟩
abbrev cX7_save : ByteArray := prog_9_method_10_code
def yX7_save : MethodName := ⟨RX7, "save", "()V"⟩
abbrev cX7_undo : ByteArray := prog_9_method_11_code
def yX7_undo : MethodName := ⟨RX7, "undo", "()I"⟩
abbrev cX7_keep : ByteArray := prog_9_method_12_code
def yX7_keep : MethodName := ⟨RX7, "keep", "(I)I"⟩
abbrev cX7_goBack : ByteArray := prog_9_method_13_code
def yX7_goBack : MethodName := ⟨RX7, "goBack", "(I)I"⟩
abbrev cX7_mendedBy : ByteArray := prog_9_method_14_code
def yX7_mendedBy : MethodName := ⟨RX7, "mendedBy", "(II)I"⟩
abbrev cX7_mended : ByteArray := prog_9_method_15_code
def yX7_mended : MethodName := ⟨RX7, "mended", "(I)I"⟩
abbrev cX7_isAsked : ByteArray := prog_9_method_16_code
def yX7_isAsked : MethodName := ⟨RX7, "isAsked", "(I)Z"⟩
abbrev cX7_sortIn : ByteArray := prog_9_method_17_code
def yX7_sortIn : MethodName := ⟨RX7, "sortIn", "(I)V"⟩
abbrev cX7_middleWithout : ByteArray := prog_9_method_18_code
def yX7_middleWithout : MethodName := ⟨RX7, "middleWithout", "(I)I"⟩
abbrev cX7_mean : ByteArray := prog_9_method_19_code
def yX7_mean : MethodName := ⟨RX7, "mean", "()I"⟩
abbrev cX7_slope : ByteArray := prog_9_method_20_code
def yX7_slope : MethodName := ⟨RX7, "slope", "()I"⟩
abbrev cX7_follow : ByteArray := prog_9_method_21_code
def yX7_follow : MethodName := ⟨RX7, "follow", "(I)V"⟩
abbrev cX7_changeOf : ByteArray := prog_9_method_22_code
def yX7_changeOf : MethodName := ⟨RX7, "changeOf", "(I)I"⟩
abbrev cX7_read : ByteArray := prog_9_method_23_code
def yX7_read : MethodName := ⟨RX7, "read", "(I)V"⟩
abbrev cX7_isDue : ByteArray := prog_9_method_24_code
def yX7_isDue : MethodName := ⟨RX7, "isDue", "(I)Z"⟩
abbrev cX7_readRows : ByteArray := prog_9_method_25_code
def yX7_readRows : MethodName := ⟨RX7, "readRows", "()I"⟩
abbrev cX7_compare : ByteArray := prog_9_method_26_code
def yX7_compare : MethodName := ⟨RX7, "compare", "(I)V"⟩
abbrev cX7_lookForSpikes : ByteArray := prog_9_method_27_code
def yX7_lookForSpikes : MethodName := ⟨RX7, "lookForSpikes", "()V"⟩
abbrev cX7_pass : ByteArray := prog_9_method_28_code
def yX7_pass : MethodName := ⟨RX7, "pass", "(I)I"⟩
abbrev cX7_areNumbers : ByteArray := prog_9_method_29_code
def yX7_areNumbers : MethodName := ⟨RX7, "areNumbers", "(III)Z"⟩
abbrev cX7_add : ByteArray := prog_9_method_30_code
def yX7_add : MethodName := ⟨RX7, "add", "(IIII)I"⟩
abbrev cX7_thermometer : ByteArray := prog_9_method_31_code
def yX7_thermometer : MethodName := ⟨RX7, "thermometer", "(IIII)I"⟩
abbrev cX7_isTemperature : ByteArray := prog_9_method_32_code
def yX7_isTemperature : MethodName := ⟨RX7, "isTemperature", "(I)Z"⟩
abbrev cX7_hour : ByteArray := prog_9_method_33_code
def yX7_hour : MethodName := ⟨RX7, "hour", "(I)I"⟩
abbrev cX7_hours : ByteArray := prog_9_method_34_code
def yX7_hours : MethodName := ⟨RX7, "hours", "(II)I"⟩
abbrev cX7_periodNow : ByteArray := prog_9_method_35_code
def yX7_periodNow : MethodName := ⟨RX7, "periodNow", "(II)I"⟩
abbrev cX7_period : ByteArray := prog_9_method_36_code
def yX7_period : MethodName := ⟨RX7, "period", "(II)I"⟩
abbrev cX7_calibrateNow : ByteArray := prog_9_method_37_code
def yX7_calibrateNow : MethodName := ⟨RX7, "calibrateNow", "(I)I"⟩
abbrev cX7_calibrate : ByteArray := prog_9_method_38_code
def yX7_calibrate : MethodName := ⟨RX7, "calibrate", "(I)I"⟩
abbrev cX7_knock : ByteArray := prog_9_method_39_code
def yX7_knock : MethodName := ⟨RX7, "knock", "(II)I"⟩
abbrev cX7_set : ByteArray := prog_9_method_40_code
def yX7_set : MethodName := ⟨RX7, "set", "(II)I"⟩
abbrev cX7_append : ByteArray := prog_9_method_41_code
def yX7_append : MethodName := ⟨RX7, "append", "(I)I"⟩
abbrev cX7_clearBuffer : ByteArray := prog_9_method_42_code
def yX7_clearBuffer : MethodName := ⟨RX7, "clearBuffer", "()I"⟩
abbrev cX7_takes : ByteArray := prog_9_method_43_code
def yX7_takes : MethodName := ⟨RX7, "takes", "(II)Z"⟩
abbrev cX7_digit : ByteArray := prog_9_method_44_code
def yX7_digit : MethodName := ⟨RX7, "digit", "()I"⟩
abbrev cX7_readDegrees : ByteArray := prog_9_method_45_code
def yX7_readDegrees : MethodName := ⟨RX7, "readDegrees", "()Z"⟩
abbrev cX7_readNew : ByteArray := prog_9_method_46_code
def yX7_readNew : MethodName := ⟨RX7, "readNew", "()Z"⟩
abbrev cX7_readPeriod : ByteArray := prog_9_method_47_code
def yX7_readPeriod : MethodName := ⟨RX7, "readPeriod", "()Z"⟩
abbrev cX7_readCalibrated : ByteArray := prog_9_method_48_code
def yX7_readCalibrated : MethodName := ⟨RX7, "readCalibrated", "()Z"⟩
abbrev cX7_readOrder : ByteArray := prog_9_method_49_code
def yX7_readOrder : MethodName := ⟨RX7, "readOrder", "()Z"⟩
abbrev cX7_isComplete : ByteArray := prog_9_method_50_code
def yX7_isComplete : MethodName := ⟨RX7, "isComplete", "()Z"⟩
abbrev cX7_firstError : ByteArray := prog_9_method_51_code
def yX7_firstError : MethodName := ⟨RX7, "firstError", "()I"⟩
abbrev cX7_canDo : ByteArray := prog_9_method_52_code
def yX7_canDo : MethodName := ⟨RX7, "canDo", "(I)Z"⟩
abbrev cX7_doOrder : ByteArray := prog_9_method_53_code
def yX7_doOrder : MethodName := ⟨RX7, "doOrder", "(I)I"⟩
abbrev cX7_execute : ByteArray := prog_9_method_54_code
def yX7_execute : MethodName := ⟨RX7, "execute", "()I"⟩
abbrev cX7_ofThermometer : ByteArray := prog_9_method_55_code
def yX7_ofThermometer : MethodName := ⟨RX7, "ofThermometer", "(II)I"⟩
abbrev cX7_reading : ByteArray := prog_9_method_56_code
def yX7_reading : MethodName := ⟨RX7, "reading", "(III)I"⟩
abbrev cX7_inRow : ByteArray := prog_9_method_57_code
def yX7_inRow : MethodName := ⟨RX7, "inRow", "(I)I"⟩
abbrev cX7_ofRow : ByteArray := prog_9_method_58_code
def yX7_ofRow : MethodName := ⟨RX7, "ofRow", "(II)I"⟩
abbrev cX7_row : ByteArray := prog_9_method_59_code
def yX7_row : MethodName := ⟨RX7, "row", "(II)I"⟩
abbrev cX7_asked : ByteArray := prog_9_method_60_code
def yX7_asked : MethodName := ⟨RX7, "asked", "()I"⟩
abbrev cX7_shutOut : ByteArray := prog_9_method_61_code
def yX7_shutOut : MethodName := ⟨RX7, "shutOut", "()I"⟩
abbrev cX7_number : ByteArray := prog_9_method_62_code
def yX7_number : MethodName := ⟨RX7, "number", "(I)I"⟩
abbrev cX7_count : ByteArray := prog_9_method_63_code
def yX7_count : MethodName := ⟨RX7, "count", "(I)I"⟩
abbrev cX7_off : ByteArray := prog_9_method_64_code
def yX7_off : MethodName := ⟨RX7, "off", "(I)I"⟩
abbrev cX7_key : ByteArray := prog_9_method_65_code
def yX7_key : MethodName := ⟨RX7, "key", "(II)I"⟩
abbrev cX7_ofRank : ByteArray := prog_9_method_66_code
def yX7_ofRank : MethodName := ⟨RX7, "ofRank", "(II)I"⟩
abbrev cX7_ranked : ByteArray := prog_9_method_67_code
def yX7_ranked : MethodName := ⟨RX7, "ranked", "(II)I"⟩
abbrev cX7_between : ByteArray := prog_9_method_68_code
def yX7_between : MethodName := ⟨RX7, "between", "(II)I"⟩
abbrev cX7_ifLag : ByteArray := prog_9_method_69_code
def yX7_ifLag : MethodName := ⟨RX7, "ifLag", "(II)I"⟩
abbrev cX7_best : ByteArray := prog_9_method_70_code
def yX7_best : MethodName := ⟨RX7, "best", "(I)I"⟩
abbrev cX7_bestLag : ByteArray := prog_9_method_71_code
def yX7_bestLag : MethodName := ⟨RX7, "bestLag", "(I)I"⟩
abbrev cX7_widest : ByteArray := prog_9_method_72_code
def yX7_widest : MethodName := ⟨RX7, "widest", "()I"⟩
abbrev cX7_behind : ByteArray := prog_9_method_73_code
def yX7_behind : MethodName := ⟨RX7, "behind", "(II)I"⟩
abbrev cX7_ifStill : ByteArray := prog_9_method_74_code
def yX7_ifStill : MethodName := ⟨RX7, "ifStill", "(II)I"⟩
abbrev cX7_stillIn : ByteArray := prog_9_method_75_code
def yX7_stillIn : MethodName := ⟨RX7, "stillIn", "(I)I"⟩
abbrev cX7_meanError : ByteArray := prog_9_method_76_code
def yX7_meanError : MethodName := ⟨RX7, "meanError", "()D"⟩
def RJ6 : String := "java/lang/Integer"
abbrev cJ6_bitCount_0f7a4 : ByteArray := prog_14_method_49_code
def yJ6_bitCount_0f7a4 : MethodName := ⟨RJ6, "bitCount", "(I)I"⟩
def RJ9 : String := "java/lang/Math"
abbrev cJ9_abs_0f7a4 : ByteArray := prog_15_method_59_code
def yJ9_abs_0f7a4 : MethodName := ⟨RJ9, "abs", "(I)I"⟩
abbrev cJ9_max_7cf53 : ByteArray := prog_15_method_65_code
def yJ9_max_7cf53 : MethodName := ⟨RJ9, "max", "(II)I"⟩
abbrev cJ9_min_7cf53 : ByteArray := prog_15_method_69_code
def yJ9_min_7cf53 : MethodName := ⟨RJ9, "min", "(II)I"⟩
def RJ0 : String := "java/lang/String"
def RL : String := "LateThermometersLaw"
abbrev cL_thermometer : ByteArray := method_3_code
def yL_thermometer : MethodName := ⟨RL, "thermometer", "(LLateThermometers;IIII[J)I"⟩
abbrev cL_hour : ByteArray := method_4_code
def yL_hour : MethodName := ⟨RL, "hour", "(LLateThermometers;I[J)I"⟩
abbrev cL_hours : ByteArray := method_5_code
def yL_hours : MethodName := ⟨RL, "hours", "(LLateThermometers;II[J)I"⟩
abbrev cL_period : ByteArray := method_6_code
def yL_period : MethodName := ⟨RL, "period", "(LLateThermometers;II[J)I"⟩
abbrev cL_calibrate : ByteArray := method_7_code
def yL_calibrate : MethodName := ⟨RL, "calibrate", "(LLateThermometers;I[J)I"⟩
abbrev cL_knock : ByteArray := method_8_code
def yL_knock : MethodName := ⟨RL, "knock", "(LLateThermometers;II[J)I"⟩
abbrev cL_set : ByteArray := method_9_code
def yL_set : MethodName := ⟨RL, "set", "(LLateThermometers;II[J)I"⟩
abbrev cL_append : ByteArray := method_10_code
def yL_append : MethodName := ⟨RL, "append", "(LLateThermometers;I[J)I"⟩
abbrev cL_execute : ByteArray := method_11_code
def yL_execute : MethodName := ⟨RL, "execute", "(LLateThermometers;[J)I"⟩
abbrev cL_undo : ByteArray := method_12_code
def yL_undo : MethodName := ⟨RL, "undo", "(LLateThermometers;[J)I"⟩
abbrev cL_keep : ByteArray := method_13_code
def yL_keep : MethodName := ⟨RL, "keep", "(LLateThermometers;I[J)I"⟩
abbrev cL_goBack : ByteArray := method_14_code
def yL_goBack : MethodName := ⟨RL, "goBack", "(LLateThermometers;I[J)I"⟩
abbrev cL_ofThermometer : ByteArray := method_15_code
def yL_ofThermometer : MethodName := ⟨RL, "ofThermometer", "(LLateThermometers;II[J)I"⟩
abbrev cL_reading : ByteArray := method_16_code
def yL_reading : MethodName := ⟨RL, "reading", "(LLateThermometers;III[J)I"⟩
abbrev cL_row : ByteArray := method_17_code
def yL_row : MethodName := ⟨RL, "row", "(LLateThermometers;II[J)I"⟩
abbrev cL_count : ByteArray := method_18_code
def yL_count : MethodName := ⟨RL, "count", "(LLateThermometers;I[J)I"⟩
abbrev cL_ranked : ByteArray := method_19_code
def yL_ranked : MethodName := ⟨RL, "ranked", "(LLateThermometers;II[J)I"⟩
abbrev cL_ifLag : ByteArray := method_20_code
def yL_ifLag : MethodName := ⟨RL, "ifLag", "(LLateThermometers;II[J)I"⟩
abbrev cL_bestLag : ByteArray := method_21_code
def yL_bestLag : MethodName := ⟨RL, "bestLag", "(LLateThermometers;I[J)I"⟩
abbrev cL_ifStill : ByteArray := method_22_code
def yL_ifStill : MethodName := ⟨RL, "ifStill", "(LLateThermometers;II[J)I"⟩
abbrev cL_stillIn : ByteArray := method_23_code
def yL_stillIn : MethodName := ⟨RL, "stillIn", "(LLateThermometers;I[J)I"⟩
abbrev cL_law : ByteArray := code
def yL_law : MethodName := ⟨RL, "law", "([I)Z"⟩
