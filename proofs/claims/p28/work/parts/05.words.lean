def lw_all : List Cond := lw_tbl.filter goodWord
theorem lw_good : ∀ w ∈ lw_all, w ∈ lw_tbl ∧ goodWord w = true := fun w h => List.mem_filter.mp h
theorem lw_mem {w : Cond} (h : w ∈ lw_tbl) (g : goodWord w = true) : w ∈ lw_all := List.mem_filter.mpr ⟨h, g⟩
theorem lw_t0 {w : Cond} (h : w ∈ tables_1) (g : goodWord w = true) : w ∈ lw_all := lw_mem (List.mem_append_right _ h) g
theorem lw_n0 {w : Cond} (h : w ∈ tables_1_1) : w ∈ lw_tbl := List.mem_append_right _ (List.mem_append_left _ h)
theorem lw_c0 {w : Cond} (h : w ∈ tables_1_1) (g : goodWord w = true) : w ∈ lw_all := lw_t0 (List.mem_append_left _ h) g
theorem lw_n1 {w : Cond} (h : w ∈ tables_1_2) : w ∈ lw_tbl := List.mem_append_right _ (List.mem_append_right _ (List.mem_append_left _ h))
theorem lw_c1 {w : Cond} (h : w ∈ tables_1_2) (g : goodWord w = true) : w ∈ lw_all := lw_t0 (List.mem_append_right _ (List.mem_append_left _ h)) g
theorem lw_n2 {w : Cond} (h : w ∈ tables_1_3) : w ∈ lw_tbl := List.mem_append_right _ (List.mem_append_right _ (List.mem_append_right _ (List.mem_append_left _ h)))
theorem lw_c2 {w : Cond} (h : w ∈ tables_1_3) (g : goodWord w = true) : w ∈ lw_all := lw_t0 (List.mem_append_right _ (List.mem_append_right _ (List.mem_append_left _ h))) g
theorem lw_n3 {w : Cond} (h : w ∈ tables_1_4) : w ∈ lw_tbl := List.mem_append_right _ (List.mem_append_right _ (List.mem_append_right _ (List.mem_append_right _ (h))))
theorem lw_c3 {w : Cond} (h : w ∈ tables_1_4) (g : goodWord w = true) : w ∈ lw_all := lw_t0 (List.mem_append_right _ (List.mem_append_right _ (List.mem_append_right _ (h)))) g
theorem lw_sel {y : MethodName} {n : Nat} (h : (y, n) ∈ lw_privs) : Cond.selects y.cls y y ∈ lw_all := lw_mem (List.mem_append_left _ (List.mem_map.mpr ⟨(y, n), h, rfl⟩)) rfl
theorem qi_RL : Cond.initialized RL ∈ lw_all := lw_c0 (List.mem_of_getElem? (i := 0) (by decide +kernel)) rfl
theorem qi_RX6 : Cond.initialized RX6 ∈ lw_all := lw_c0 (List.mem_of_getElem? (i := 1) (by decide +kernel)) rfl
theorem qi_RX3 : Cond.initialized RX3 ∈ lw_all := lw_c0 (List.mem_of_getElem? (i := 2) (by decide +kernel)) rfl
theorem qi_RX5 : Cond.initialized RX5 ∈ lw_all := lw_c0 (List.mem_of_getElem? (i := 3) (by decide +kernel)) rfl
theorem qi_RX0 : Cond.initialized RX0 ∈ lw_all := lw_c0 (List.mem_of_getElem? (i := 4) (by decide +kernel)) rfl
theorem qi_RX1 : Cond.initialized RX1 ∈ lw_all := lw_c0 (List.mem_of_getElem? (i := 5) (by decide +kernel)) rfl
theorem qi_RX4 : Cond.initialized RX4 ∈ lw_all := lw_c0 (List.mem_of_getElem? (i := 6) (by decide +kernel)) rfl
theorem qi_RX2 : Cond.initialized RX2 ∈ lw_all := lw_c0 (List.mem_of_getElem? (i := 7) (by decide +kernel)) rfl
theorem qi_java_lang_Throwable : Cond.initialized "java/lang/Throwable" ∈ lw_all := lw_c0 (List.mem_of_getElem? (i := 8) (by decide +kernel)) rfl
theorem qi_java_lang_Exception : Cond.initialized "java/lang/Exception" ∈ lw_all := lw_c0 (List.mem_of_getElem? (i := 9) (by decide +kernel)) rfl
theorem qi_java_lang_RuntimeException : Cond.initialized "java/lang/RuntimeException" ∈ lw_all := lw_c0 (List.mem_of_getElem? (i := 10) (by decide +kernel)) rfl
theorem qi_java_lang_IllegalArgumentException : Cond.initialized "java/lang/IllegalArgumentException" ∈ lw_all := lw_c0 (List.mem_of_getElem? (i := 11) (by decide +kernel)) rfl
theorem qi_java_lang_IndexOutOfBoundsException : Cond.initialized "java/lang/IndexOutOfBoundsException" ∈ lw_all := lw_c0 (List.mem_of_getElem? (i := 12) (by decide +kernel)) rfl
theorem qi_RJ9 : Cond.initialized RJ9 ∈ lw_all := lw_c0 (List.mem_of_getElem? (i := 13) (by decide +kernel)) rfl
theorem qi_java_lang_IllegalStateException : Cond.initialized "java/lang/IllegalStateException" ∈ lw_all := lw_c0 (List.mem_of_getElem? (i := 14) (by decide +kernel)) rfl
theorem qi_RJ6 : Cond.initialized RJ6 ∈ lw_all := lw_c0 (List.mem_of_getElem? (i := 15) (by decide +kernel)) rfl
theorem qk_RL_41 : Cond.classLink RL 41 RX6 ∈ lw_all := lw_c0 (List.mem_of_getElem? (i := 16) (by decide +kernel)) rfl
theorem qa_RX6 : Cond.instantiable RX6 6 ∈ lw_all := lw_c0 (List.mem_of_getElem? (i := 17) (by decide +kernel)) rfl
theorem ql_RL_115 : Cond.methodLink RL 115 yX6_init ∈ lw_all := lw_c0 (List.mem_of_getElem? (i := 18) (by decide +kernel)) rfl
theorem qm_yX6_init : Cond.instanceMethod yX6_init ∈ lw_all := lw_c0 (List.mem_of_getElem? (i := 19) (by decide +kernel)) rfl
theorem qc_yX6_init : Cond.code yX6_init cX6_init 1 none ∈ lw_all := lw_c0 (List.mem_of_getElem? (i := 20) (by decide +kernel)) rfl
theorem ql_RX6_1 : Cond.methodLink RX6 1 objectInit ∈ lw_all := lw_c0 (List.mem_of_getElem? (i := 21) (by decide +kernel)) rfl
theorem qm_objectInit : Cond.instanceMethod objectInit ∈ lw_all := lw_c0 (List.mem_of_getElem? (i := 22) (by decide +kernel)) rfl
theorem qc_objectInit : Cond.code objectInit ⟨#[0xb1]⟩ 1 none ∈ lw_all := lw_c0 (List.mem_of_getElem? (i := 23) (by decide +kernel)) rfl
theorem qk_RX6_7 : Cond.classLink RX6 7 RX3 ∈ lw_all := lw_c0 (List.mem_of_getElem? (i := 24) (by decide +kernel)) rfl
theorem qa_RX3 : Cond.instantiable RX3 13 ∈ lw_all := lw_c0 (List.mem_of_getElem? (i := 25) (by decide +kernel)) rfl
theorem ql_RX6_9 : Cond.methodLink RX6 9 yX3_init ∈ lw_all := lw_c0 (List.mem_of_getElem? (i := 26) (by decide +kernel)) rfl
theorem qm_yX3_init : Cond.instanceMethod yX3_init ∈ lw_all := lw_c0 (List.mem_of_getElem? (i := 27) (by decide +kernel)) rfl
theorem qc_yX3_init : Cond.code yX3_init cX3_init 2 none ∈ lw_all := lw_c0 (List.mem_of_getElem? (i := 28) (by decide +kernel)) rfl
theorem ql_RX3_3 : Cond.methodLink RX3 3 objectInit ∈ lw_all := lw_c0 (List.mem_of_getElem? (i := 29) (by decide +kernel)) rfl
theorem qk_RX3_9 : Cond.classLink RX3 9 RX5 ∈ lw_all := lw_c0 (List.mem_of_getElem? (i := 30) (by decide +kernel)) rfl
theorem qo_RX5 : Cond.arrayOver (.object "LateThermometers$Thermometer") ∈ lw_tbl := lw_n0 (List.mem_of_getElem? (i := 31) (by decide +kernel))
theorem qa_RX5 : Cond.instantiable RX5 12 ∈ lw_all := lw_c0 (List.mem_of_getElem? (i := 32) (by decide +kernel)) rfl
theorem qm_yX5_init : Cond.instanceMethod yX5_init ∈ lw_all := lw_c0 (List.mem_of_getElem? (i := 34) (by decide +kernel)) rfl
theorem qc_yX5_init : Cond.code yX5_init cX5_init 1 none ∈ lw_all := lw_c0 (List.mem_of_getElem? (i := 35) (by decide +kernel)) rfl
theorem ql_RX5_3 : Cond.methodLink RX5 3 objectInit ∈ lw_all := lw_c0 (List.mem_of_getElem? (i := 36) (by decide +kernel)) rfl
theorem qn_RX5_25 : Cond.constant RX5 25 (-999999) ∈ lw_all := lw_c0 (List.mem_of_getElem? (i := 37) (by decide +kernel)) rfl
theorem qf_RX5_9 : Cond.fieldLink RX5 9 "LateThermometers$Thermometer" "readingHours" "[I" ∈ lw_all := lw_c0 (List.mem_of_getElem? (i := 38) (by decide +kernel)) rfl
theorem qf_RX5_15 : Cond.fieldLink RX5 15 "LateThermometers$Thermometer" "readingValues" "[I" ∈ lw_all := lw_c0 (List.mem_of_getElem? (i := 39) (by decide +kernel)) rfl
theorem qf_RX5_45 : Cond.fieldLink RX5 45 "LateThermometers$Thermometer" "kept" "I" ∈ lw_all := lw_c0 (List.mem_of_getElem? (i := 40) (by decide +kernel)) rfl
theorem qf_RX5_18 : Cond.fieldLink RX5 18 "LateThermometers$Thermometer" "lag" "I" ∈ lw_all := lw_c0 (List.mem_of_getElem? (i := 41) (by decide +kernel)) rfl
theorem qf_RX5_32 : Cond.fieldLink RX5 32 "LateThermometers$Thermometer" "offset" "I" ∈ lw_all := lw_c0 (List.mem_of_getElem? (i := 42) (by decide +kernel)) rfl
theorem qf_RX5_29 : Cond.fieldLink RX5 29 "LateThermometers$Thermometer" "row" "I" ∈ lw_all := lw_c0 (List.mem_of_getElem? (i := 43) (by decide +kernel)) rfl
theorem qf_RX3_90 : Cond.fieldLink RX3 90 "LateThermometers$Thermometer" "row" "I" ∈ lw_all := lw_c0 (List.mem_of_getElem? (i := 44) (by decide +kernel)) rfl
theorem qf_RX5_22 : Cond.fieldLink RX5 22 "LateThermometers$Thermometer" "weight" "I" ∈ lw_all := lw_c0 (List.mem_of_getElem? (i := 45) (by decide +kernel)) rfl
theorem qf_RX3_170 : Cond.fieldLink RX3 170 "LateThermometers$Thermometer" "weight" "I" ∈ lw_all := lw_c0 (List.mem_of_getElem? (i := 46) (by decide +kernel)) rfl
theorem qf_RX5_42 : Cond.fieldLink RX5 42 "LateThermometers$Thermometer" "shown" "I" ∈ lw_all := lw_c0 (List.mem_of_getElem? (i := 47) (by decide +kernel)) rfl
theorem qf_RX6_106 : Cond.fieldLink RX6 106 "LateThermometers$Thermometer" "shown" "I" ∈ lw_all := lw_c0 (List.mem_of_getElem? (i := 48) (by decide +kernel)) rfl
theorem qf_RX5_48 : Cond.fieldLink RX5 48 "LateThermometers$Thermometer" "strikes" "I" ∈ lw_all := lw_c0 (List.mem_of_getElem? (i := 49) (by decide +kernel)) rfl
theorem qf_RX6_98 : Cond.fieldLink RX6 98 "LateThermometers$Thermometer" "strikes" "I" ∈ lw_all := lw_c0 (List.mem_of_getElem? (i := 50) (by decide +kernel)) rfl
theorem qf_RX5_35 : Cond.fieldLink RX5 35 "LateThermometers$Thermometer" "spikes" "I" ∈ lw_all := lw_c0 (List.mem_of_getElem? (i := 51) (by decide +kernel)) rfl
theorem qf_RX3_142 : Cond.fieldLink RX3 142 "LateThermometers$Thermometer" "spikes" "I" ∈ lw_all := lw_c0 (List.mem_of_getElem? (i := 52) (by decide +kernel)) rfl
theorem qf_RX5_51 : Cond.fieldLink RX5 51 "LateThermometers$Thermometer" "shutOut" "Z" ∈ lw_all := lw_c0 (List.mem_of_getElem? (i := 53) (by decide +kernel)) rfl
theorem qf_RX3_166 : Cond.fieldLink RX3 166 "LateThermometers$Thermometer" "shutOut" "Z" ∈ lw_all := lw_c0 (List.mem_of_getElem? (i := 54) (by decide +kernel)) rfl
theorem qf_RX5_26 : Cond.fieldLink RX5 26 "LateThermometers$Thermometer" "mended" "I" ∈ lw_all := lw_c0 (List.mem_of_getElem? (i := 55) (by decide +kernel)) rfl
theorem qf_RX3_157 : Cond.fieldLink RX3 157 "LateThermometers$Thermometer" "mended" "I" ∈ lw_all := lw_c0 (List.mem_of_getElem? (i := 56) (by decide +kernel)) rfl
theorem qy_0 : Cond.arrayClass Jvm.ClassFile.FieldType.int ∈ lw_all := lw_c0 (List.mem_of_getElem? (i := 82) (by decide +kernel)) rfl
theorem qk_RX3_29 : Cond.classLink RX3 29 RX0 ∈ lw_all := lw_c0 (List.mem_of_getElem? (i := 83) (by decide +kernel)) rfl
theorem qa_RX0 : Cond.instantiable RX0 2 ∈ lw_all := lw_c0 (List.mem_of_getElem? (i := 84) (by decide +kernel)) rfl
theorem qm_yX0_init : Cond.instanceMethod yX0_init ∈ lw_all := lw_c0 (List.mem_of_getElem? (i := 86) (by decide +kernel)) rfl
theorem qc_yX0_init : Cond.code yX0_init cX0_init 1 none ∈ lw_all := lw_c0 (List.mem_of_getElem? (i := 87) (by decide +kernel)) rfl
theorem ql_RX0_3 : Cond.methodLink RX0 3 objectInit ∈ lw_all := lw_c0 (List.mem_of_getElem? (i := 88) (by decide +kernel)) rfl
theorem qf_RX0_9 : Cond.fieldLink RX0 9 "LateThermometers$Ascending" "numbers" "[I" ∈ lw_all := lw_c0 (List.mem_of_getElem? (i := 89) (by decide +kernel)) rfl
theorem qf_RX0_15 : Cond.fieldLink RX0 15 "LateThermometers$Ascending" "size" "I" ∈ lw_all := lw_c0 (List.mem_of_getElem? (i := 90) (by decide +kernel)) rfl
theorem qn_RX3_36 : Cond.constant RX3 36 (-999999) ∈ lw_all := lw_c0 (List.mem_of_getElem? (i := 96) (by decide +kernel)) rfl
theorem qf_RX3_11 : Cond.fieldLink RX3 11 "LateThermometers$Place" "thermometers" "[LLateThermometers$Thermometer;" ∈ lw_all := lw_c0 (List.mem_of_getElem? (i := 97) (by decide +kernel)) rfl
theorem qf_RX3_18 : Cond.fieldLink RX3 18 "LateThermometers$Place" "spare" "LLateThermometers$Thermometer;" ∈ lw_all := lw_c0 (List.mem_of_getElem? (i := 98) (by decide +kernel)) rfl
theorem qf_RX3_22 : Cond.fieldLink RX3 22 "LateThermometers$Place" "periods" "[I" ∈ lw_all := lw_c0 (List.mem_of_getElem? (i := 99) (by decide +kernel)) rfl
theorem qf_RX3_26 : Cond.fieldLink RX3 26 "LateThermometers$Place" "timesRead" "[I" ∈ lw_all := lw_c0 (List.mem_of_getElem? (i := 100) (by decide +kernel)) rfl
theorem qf_RX3_32 : Cond.fieldLink RX3 32 "LateThermometers$Place" "sorted" "LLateThermometers$Ascending;" ∈ lw_all := lw_c0 (List.mem_of_getElem? (i := 101) (by decide +kernel)) rfl
theorem qf_RX3_37 : Cond.fieldLink RX3 37 "LateThermometers$Place" "meanBefore" "I" ∈ lw_all := lw_c0 (List.mem_of_getElem? (i := 102) (by decide +kernel)) rfl
theorem qf_RX3_50 : Cond.fieldLink RX3 50 "LateThermometers$Place" "size" "I" ∈ lw_all := lw_c0 (List.mem_of_getElem? (i := 103) (by decide +kernel)) rfl
theorem qf_RX6_207 : Cond.fieldLink RX6 207 "LateThermometers$Place" "size" "I" ∈ lw_all := lw_c0 (List.mem_of_getElem? (i := 104) (by decide +kernel)) rfl
theorem qf_RX3_65 : Cond.fieldLink RX3 65 "LateThermometers$Place" "hour" "I" ∈ lw_all := lw_c0 (List.mem_of_getElem? (i := 105) (by decide +kernel)) rfl
theorem qf_RX6_171 : Cond.fieldLink RX6 171 "LateThermometers$Place" "hour" "I" ∈ lw_all := lw_c0 (List.mem_of_getElem? (i := 106) (by decide +kernel)) rfl
theorem qf_RX3_41 : Cond.fieldLink RX3 41 "LateThermometers$Place" "temperature" "I" ∈ lw_all := lw_c0 (List.mem_of_getElem? (i := 107) (by decide +kernel)) rfl
theorem qf_RX6_81 : Cond.fieldLink RX6 81 "LateThermometers$Place" "temperature" "I" ∈ lw_all := lw_c0 (List.mem_of_getElem? (i := 108) (by decide +kernel)) rfl
theorem qf_RX3_68 : Cond.fieldLink RX3 68 "LateThermometers$Place" "readings" "I" ∈ lw_all := lw_c0 (List.mem_of_getElem? (i := 109) (by decide +kernel)) rfl
theorem qf_RX6_223 : Cond.fieldLink RX6 223 "LateThermometers$Place" "readings" "I" ∈ lw_all := lw_c0 (List.mem_of_getElem? (i := 110) (by decide +kernel)) rfl
theorem qf_RX3_71 : Cond.fieldLink RX3 71 "LateThermometers$Place" "spikes" "I" ∈ lw_all := lw_c0 (List.mem_of_getElem? (i := 111) (by decide +kernel)) rfl
theorem qf_RX6_226 : Cond.fieldLink RX6 226 "LateThermometers$Place" "spikes" "I" ∈ lw_all := lw_c0 (List.mem_of_getElem? (i := 112) (by decide +kernel)) rfl
theorem qf_RX3_44 : Cond.fieldLink RX3 44 "LateThermometers$Place" "difference" "I" ∈ lw_all := lw_c0 (List.mem_of_getElem? (i := 113) (by decide +kernel)) rfl
theorem qf_RX6_117 : Cond.fieldLink RX6 117 "LateThermometers$Place" "difference" "I" ∈ lw_all := lw_c0 (List.mem_of_getElem? (i := 114) (by decide +kernel)) rfl
theorem qf_RX3_47 : Cond.fieldLink RX3 47 "LateThermometers$Place" "strikesToShutOut" "I" ∈ lw_all := lw_c0 (List.mem_of_getElem? (i := 115) (by decide +kernel)) rfl
theorem qf_RX6_120 : Cond.fieldLink RX6 120 "LateThermometers$Place" "strikesToShutOut" "I" ∈ lw_all := lw_c0 (List.mem_of_getElem? (i := 116) (by decide +kernel)) rfl
theorem qk_RX6_19 : Cond.classLink RX6 19 RX1 ∈ lw_all := lw_c0 (List.mem_of_getElem? (i := 144) (by decide +kernel)) rfl
theorem qa_RX1 : Cond.instantiable RX1 4 ∈ lw_all := lw_c0 (List.mem_of_getElem? (i := 145) (by decide +kernel)) rfl
theorem ql_RX6_21 : Cond.methodLink RX6 21 yX1_init ∈ lw_all := lw_c0 (List.mem_of_getElem? (i := 146) (by decide +kernel)) rfl
theorem qm_yX1_init : Cond.instanceMethod yX1_init ∈ lw_all := lw_c0 (List.mem_of_getElem? (i := 147) (by decide +kernel)) rfl
theorem qc_yX1_init : Cond.code yX1_init cX1_init 2 none ∈ lw_all := lw_c0 (List.mem_of_getElem? (i := 148) (by decide +kernel)) rfl
theorem ql_RX1_3 : Cond.methodLink RX1 3 objectInit ∈ lw_all := lw_c0 (List.mem_of_getElem? (i := 149) (by decide +kernel)) rfl
theorem qk_RX1_9 : Cond.classLink RX1 9 RX3 ∈ lw_all := lw_c0 (List.mem_of_getElem? (i := 150) (by decide +kernel)) rfl
theorem qo_RX3 : Cond.arrayOver (.object "LateThermometers$Place") ∈ lw_tbl := lw_n0 (List.mem_of_getElem? (i := 151) (by decide +kernel))
theorem ql_RX1_17 : Cond.methodLink RX1 17 yX3_init ∈ lw_all := lw_c0 (List.mem_of_getElem? (i := 152) (by decide +kernel)) rfl
theorem qf_RX1_11 : Cond.fieldLink RX1 11 "LateThermometers$History" "states" "[LLateThermometers$Place;" ∈ lw_all := lw_c0 (List.mem_of_getElem? (i := 153) (by decide +kernel)) rfl
theorem qf_RX1_18 : Cond.fieldLink RX1 18 "LateThermometers$History" "spare" "LLateThermometers$Place;" ∈ lw_all := lw_c0 (List.mem_of_getElem? (i := 154) (by decide +kernel)) rfl
theorem qf_RX1_22 : Cond.fieldLink RX1 22 "LateThermometers$History" "next" "I" ∈ lw_all := lw_c0 (List.mem_of_getElem? (i := 155) (by decide +kernel)) rfl
theorem qf_RX1_34 : Cond.fieldLink RX1 34 "LateThermometers$History" "size" "I" ∈ lw_all := lw_c0 (List.mem_of_getElem? (i := 156) (by decide +kernel)) rfl
theorem qf_RX6_156 : Cond.fieldLink RX6 156 "LateThermometers$History" "size" "I" ∈ lw_all := lw_c0 (List.mem_of_getElem? (i := 157) (by decide +kernel)) rfl
theorem qk_RX6_26 : Cond.classLink RX6 26 RX4 ∈ lw_all := lw_c0 (List.mem_of_getElem? (i := 167) (by decide +kernel)) rfl
theorem qa_RX4 : Cond.instantiable RX4 2 ∈ lw_all := lw_c0 (List.mem_of_getElem? (i := 168) (by decide +kernel)) rfl
theorem qm_yX4_init : Cond.instanceMethod yX4_init ∈ lw_all := lw_c0 (List.mem_of_getElem? (i := 170) (by decide +kernel)) rfl
theorem qc_yX4_init : Cond.code yX4_init cX4_init 1 none ∈ lw_all := lw_c0 (List.mem_of_getElem? (i := 171) (by decide +kernel)) rfl
theorem ql_RX4_1 : Cond.methodLink RX4 1 objectInit ∈ lw_all := lw_c0 (List.mem_of_getElem? (i := 172) (by decide +kernel)) rfl
theorem qk_RX4_7 : Cond.classLink RX4 7 RX3 ∈ lw_all := lw_c0 (List.mem_of_getElem? (i := 173) (by decide +kernel)) rfl
theorem ql_RX4_9 : Cond.methodLink RX4 9 yX3_init ∈ lw_all := lw_c0 (List.mem_of_getElem? (i := 174) (by decide +kernel)) rfl
theorem qf_RX4_10 : Cond.fieldLink RX4 10 "LateThermometers$Snapshot" "place" "LLateThermometers$Place;" ∈ lw_all := lw_c0 (List.mem_of_getElem? (i := 175) (by decide +kernel)) rfl
theorem qk_RX6_36 : Cond.classLink RX6 36 RX2 ∈ lw_all := lw_c0 (List.mem_of_getElem? (i := 181) (by decide +kernel)) rfl
theorem qa_RX2 : Cond.instantiable RX2 8 ∈ lw_all := lw_c0 (List.mem_of_getElem? (i := 182) (by decide +kernel)) rfl
theorem qm_yX2_init : Cond.instanceMethod yX2_init ∈ lw_all := lw_c0 (List.mem_of_getElem? (i := 184) (by decide +kernel)) rfl
theorem qc_yX2_init : Cond.code yX2_init cX2_init 1 none ∈ lw_all := lw_c0 (List.mem_of_getElem? (i := 185) (by decide +kernel)) rfl
theorem ql_RX2_3 : Cond.methodLink RX2 3 objectInit ∈ lw_all := lw_c0 (List.mem_of_getElem? (i := 186) (by decide +kernel)) rfl
theorem qf_RX2_9 : Cond.fieldLink RX2 9 "LateThermometers$OrderText" "characters" "[C" ∈ lw_all := lw_c0 (List.mem_of_getElem? (i := 187) (by decide +kernel)) rfl
theorem qf_RX6_132 : Cond.fieldLink RX6 132 "LateThermometers$OrderText" "length" "I" ∈ lw_all := lw_c0 (List.mem_of_getElem? (i := 188) (by decide +kernel)) rfl
theorem qy_1 : Cond.arrayClass Jvm.ClassFile.FieldType.char ∈ lw_all := lw_c0 (List.mem_of_getElem? (i := 206) (by decide +kernel)) rfl
theorem qf_RX6_10 : Cond.fieldLink RX6 10 "LateThermometers" "now" "LLateThermometers$Place;" ∈ lw_all := lw_c0 (List.mem_of_getElem? (i := 207) (by decide +kernel)) rfl
theorem qf_RX6_16 : Cond.fieldLink RX6 16 "LateThermometers" "trial" "LLateThermometers$Place;" ∈ lw_all := lw_c0 (List.mem_of_getElem? (i := 208) (by decide +kernel)) rfl
theorem qf_RX6_22 : Cond.fieldLink RX6 22 "LateThermometers" "history" "LLateThermometers$History;" ∈ lw_all := lw_c0 (List.mem_of_getElem? (i := 209) (by decide +kernel)) rfl
theorem qf_RX6_29 : Cond.fieldLink RX6 29 "LateThermometers" "firstSnapshot" "LLateThermometers$Snapshot;" ∈ lw_all := lw_c0 (List.mem_of_getElem? (i := 210) (by decide +kernel)) rfl
theorem qf_RX6_33 : Cond.fieldLink RX6 33 "LateThermometers" "secondSnapshot" "LLateThermometers$Snapshot;" ∈ lw_all := lw_c0 (List.mem_of_getElem? (i := 211) (by decide +kernel)) rfl
theorem qf_RX6_39 : Cond.fieldLink RX6 39 "LateThermometers" "text" "LLateThermometers$OrderText;" ∈ lw_all := lw_c0 (List.mem_of_getElem? (i := 212) (by decide +kernel)) rfl
theorem ql_RL_123 : Cond.methodLink RL 123 yL_cell ∈ lw_all := lw_c0 (List.mem_of_getElem? (i := 226) (by decide +kernel)) rfl
theorem qt_yL_cell : Cond.static yL_cell ∈ lw_all := lw_c0 (List.mem_of_getElem? (i := 227) (by decide +kernel)) rfl
theorem qc_yL_cell : Cond.code yL_cell cL_cell 2 (some Jvm.ClassFile.FieldType.int) ∈ lw_all := lw_c0 (List.mem_of_getElem? (i := 228) (by decide +kernel)) rfl
theorem qn_RL_7 : Cond.constant RL 7 (1028477387) ∈ lw_all := lw_c0 (List.mem_of_getElem? (i := 229) (by decide +kernel)) rfl
theorem ql_RL_86 : Cond.methodLink RL 86 yL_low ∈ lw_all := lw_c0 (List.mem_of_getElem? (i := 230) (by decide +kernel)) rfl
theorem qt_yL_low : Cond.static yL_low ∈ lw_all := lw_c0 (List.mem_of_getElem? (i := 231) (by decide +kernel)) rfl
theorem qc_yL_low : Cond.code yL_low cL_low 2 (some Jvm.ClassFile.FieldType.int) ∈ lw_all := lw_c0 (List.mem_of_getElem? (i := 232) (by decide +kernel)) rfl
theorem qn_RL_8 : Cond.constant RL 8 (2147483647) ∈ lw_all := lw_c0 (List.mem_of_getElem? (i := 233) (by decide +kernel)) rfl
theorem ql_RL_116 : Cond.methodLink RL 116 yL_areThermometers ∈ lw_all := lw_c0 (List.mem_of_getElem? (i := 234) (by decide +kernel)) rfl
theorem qt_yL_areThermometers : Cond.static yL_areThermometers ∈ lw_all := lw_c0 (List.mem_of_getElem? (i := 235) (by decide +kernel)) rfl
theorem qc_yL_areThermometers : Cond.code yL_areThermometers cL_areThermometers 13 (some Jvm.ClassFile.FieldType.boolean) ∈ lw_all := lw_c0 (List.mem_of_getElem? (i := 236) (by decide +kernel)) rfl
theorem ql_RL_40 : Cond.methodLink RL 40 yX6_count ∈ lw_all := lw_c0 (List.mem_of_getElem? (i := 237) (by decide +kernel)) rfl
theorem qm_yX6_count : Cond.instanceMethod yX6_count ∈ lw_all := lw_c0 (List.mem_of_getElem? (i := 238) (by decide +kernel)) rfl
theorem qs_yX6_count : Cond.selects RX6 yX6_count yX6_count ∈ lw_all := lw_c0 (List.mem_of_getElem? (i := 239) (by decide +kernel)) rfl
theorem qc_yX6_count : Cond.code yX6_count cX6_count 2 (some Jvm.ClassFile.FieldType.int) ∈ lw_all := lw_c1 (List.mem_of_getElem? (i := 0) (by decide +kernel)) rfl
theorem ql_RX6_47 : Cond.methodLink RX6 47 yX6_checkRange ∈ lw_all := lw_c1 (List.mem_of_getElem? (i := 1) (by decide +kernel)) rfl
theorem qt_yX6_checkRange : Cond.static yX6_checkRange ∈ lw_all := lw_c1 (List.mem_of_getElem? (i := 2) (by decide +kernel)) rfl
theorem qc_yX6_checkRange : Cond.code yX6_checkRange cX6_checkRange 3 none ∈ lw_all := lw_c1 (List.mem_of_getElem? (i := 3) (by decide +kernel)) rfl
theorem qk_RX6_142 : Cond.classLink RX6 142 "java/lang/IllegalArgumentException" ∈ lw_all := lw_c1 (List.mem_of_getElem? (i := 4) (by decide +kernel)) rfl
theorem qz_UNASSIGNED_STACK : Cond.laysStatic "java/lang/Throwable" "UNASSIGNED_STACK" "[Ljava/lang/StackTraceElement;" ∈ lw_tbl := lw_n1 (List.mem_of_getElem? (i := 31) (by decide +kernel))
theorem qz_SUPPRESSED_SENTINEL : Cond.laysStatic "java/lang/Throwable" "SUPPRESSED_SENTINEL" "Ljava/util/List;" ∈ lw_tbl := lw_n1 (List.mem_of_getElem? (i := 33) (by decide +kernel))
theorem qr_RX6_256 : Cond.stringRef RX6 256 "an argument is out of range" ∈ lw_tbl := lw_n1 (List.mem_of_getElem? (i := 45) (by decide +kernel))
theorem qy_2 : Cond.arrayClass Jvm.ClassFile.FieldType.byte ∈ lw_all := lw_c1 (List.mem_of_getElem? (i := 71) (by decide +kernel)) rfl
theorem ql_RX6_208 : Cond.methodLink RX6 208 yX3_maskOfAsked ∈ lw_all := lw_c1 (List.mem_of_getElem? (i := 72) (by decide +kernel)) rfl
theorem qm_yX3_maskOfAsked : Cond.instanceMethod yX3_maskOfAsked ∈ lw_all := lw_c1 (List.mem_of_getElem? (i := 73) (by decide +kernel)) rfl
theorem qs_yX3_maskOfAsked : Cond.selects RX3 yX3_maskOfAsked yX3_maskOfAsked ∈ lw_all := lw_c1 (List.mem_of_getElem? (i := 74) (by decide +kernel)) rfl
theorem qc_yX3_maskOfAsked : Cond.code yX3_maskOfAsked cX3_maskOfAsked 3 (some Jvm.ClassFile.FieldType.int) ∈ lw_all := lw_c1 (List.mem_of_getElem? (i := 75) (by decide +kernel)) rfl
theorem ql_RX3_53 : Cond.methodLink RX3 53 yX3_at ∈ lw_all := lw_c1 (List.mem_of_getElem? (i := 76) (by decide +kernel)) rfl
theorem qm_yX3_at : Cond.instanceMethod yX3_at ∈ lw_all := lw_c1 (List.mem_of_getElem? (i := 77) (by decide +kernel)) rfl
theorem qs_yX3_at : Cond.selects RX3 yX3_at yX3_at ∈ lw_all := lw_c1 (List.mem_of_getElem? (i := 78) (by decide +kernel)) rfl
theorem qc_yX3_at : Cond.code yX3_at cX3_at 3 (some (Jvm.ClassFile.FieldType.object "LateThermometers$Thermometer")) ∈ lw_all := lw_c1 (List.mem_of_getElem? (i := 79) (by decide +kernel)) rfl
theorem ql_RX3_153 : Cond.methodLink RX3 153 yX5_isAsked ∈ lw_all := lw_c1 (List.mem_of_getElem? (i := 80) (by decide +kernel)) rfl
theorem qm_yX5_isAsked : Cond.instanceMethod yX5_isAsked ∈ lw_all := lw_c1 (List.mem_of_getElem? (i := 81) (by decide +kernel)) rfl
theorem qs_yX5_isAsked : Cond.selects RX5 yX5_isAsked yX5_isAsked ∈ lw_all := lw_c1 (List.mem_of_getElem? (i := 82) (by decide +kernel)) rfl
theorem qc_yX5_isAsked : Cond.code yX5_isAsked cX5_isAsked 1 (some Jvm.ClassFile.FieldType.boolean) ∈ lw_all := lw_c1 (List.mem_of_getElem? (i := 83) (by decide +kernel)) rfl
theorem ql_RX6_211 : Cond.methodLink RX6 211 yX3_maskOfShutOut ∈ lw_all := lw_c1 (List.mem_of_getElem? (i := 84) (by decide +kernel)) rfl
theorem qm_yX3_maskOfShutOut : Cond.instanceMethod yX3_maskOfShutOut ∈ lw_all := lw_c1 (List.mem_of_getElem? (i := 85) (by decide +kernel)) rfl
theorem qs_yX3_maskOfShutOut : Cond.selects RX3 yX3_maskOfShutOut yX3_maskOfShutOut ∈ lw_all := lw_c1 (List.mem_of_getElem? (i := 86) (by decide +kernel)) rfl
theorem qc_yX3_maskOfShutOut : Cond.code yX3_maskOfShutOut cX3_maskOfShutOut 3 (some Jvm.ClassFile.FieldType.int) ∈ lw_all := lw_c1 (List.mem_of_getElem? (i := 87) (by decide +kernel)) rfl
theorem ql_RX6_214 : Cond.methodLink RX6 214 yX3_mean ∈ lw_all := lw_c1 (List.mem_of_getElem? (i := 88) (by decide +kernel)) rfl
theorem qm_yX3_mean : Cond.instanceMethod yX3_mean ∈ lw_all := lw_c1 (List.mem_of_getElem? (i := 89) (by decide +kernel)) rfl
theorem qs_yX3_mean : Cond.selects RX3 yX3_mean yX3_mean ∈ lw_all := lw_c1 (List.mem_of_getElem? (i := 90) (by decide +kernel)) rfl
theorem qc_yX3_mean : Cond.code yX3_mean cX3_mean 4 (some Jvm.ClassFile.FieldType.int) ∈ lw_all := lw_c1 (List.mem_of_getElem? (i := 91) (by decide +kernel)) rfl
theorem qt_yX6_quotient : Cond.static yX6_quotient ∈ lw_all := lw_c1 (List.mem_of_getElem? (i := 93) (by decide +kernel)) rfl
theorem qc_yX6_quotient : Cond.code yX6_quotient cX6_quotient 2 (some Jvm.ClassFile.FieldType.int) ∈ lw_all := lw_c1 (List.mem_of_getElem? (i := 94) (by decide +kernel)) rfl
theorem ql_RX6_217 : Cond.methodLink RX6 217 yX3_slope ∈ lw_all := lw_c1 (List.mem_of_getElem? (i := 95) (by decide +kernel)) rfl
theorem qm_yX3_slope : Cond.instanceMethod yX3_slope ∈ lw_all := lw_c1 (List.mem_of_getElem? (i := 96) (by decide +kernel)) rfl
theorem qs_yX3_slope : Cond.selects RX3 yX3_slope yX3_slope ∈ lw_all := lw_c1 (List.mem_of_getElem? (i := 97) (by decide +kernel)) rfl
theorem qc_yX3_slope : Cond.code yX3_slope cX3_slope 2 (some Jvm.ClassFile.FieldType.int) ∈ lw_all := lw_c1 (List.mem_of_getElem? (i := 98) (by decide +kernel)) rfl
theorem ql_RX3_104 : Cond.methodLink RX3 104 yX3_mean ∈ lw_all := lw_c1 (List.mem_of_getElem? (i := 99) (by decide +kernel)) rfl
theorem ql_RX6_220 : Cond.methodLink RX6 220 yX3_middleWithout ∈ lw_all := lw_c1 (List.mem_of_getElem? (i := 100) (by decide +kernel)) rfl
theorem qm_yX3_middleWithout : Cond.instanceMethod yX3_middleWithout ∈ lw_all := lw_c1 (List.mem_of_getElem? (i := 101) (by decide +kernel)) rfl
theorem qs_yX3_middleWithout : Cond.selects RX3 yX3_middleWithout yX3_middleWithout ∈ lw_all := lw_c1 (List.mem_of_getElem? (i := 102) (by decide +kernel)) rfl
theorem qc_yX3_middleWithout : Cond.code yX3_middleWithout cX3_middleWithout 3 (some Jvm.ClassFile.FieldType.int) ∈ lw_all := lw_c1 (List.mem_of_getElem? (i := 103) (by decide +kernel)) rfl
theorem ql_RX3_150 : Cond.methodLink RX3 150 yX0_clear ∈ lw_all := lw_c1 (List.mem_of_getElem? (i := 104) (by decide +kernel)) rfl
theorem qm_yX0_clear : Cond.instanceMethod yX0_clear ∈ lw_all := lw_c1 (List.mem_of_getElem? (i := 105) (by decide +kernel)) rfl
theorem qs_yX0_clear : Cond.selects RX0 yX0_clear yX0_clear ∈ lw_all := lw_c1 (List.mem_of_getElem? (i := 106) (by decide +kernel)) rfl
theorem qc_yX0_clear : Cond.code yX0_clear cX0_clear 1 none ∈ lw_all := lw_c1 (List.mem_of_getElem? (i := 107) (by decide +kernel)) rfl
theorem ql_RX3_160 : Cond.methodLink RX3 160 yX0_insert ∈ lw_all := lw_c1 (List.mem_of_getElem? (i := 108) (by decide +kernel)) rfl
theorem qm_yX0_insert : Cond.instanceMethod yX0_insert ∈ lw_all := lw_c1 (List.mem_of_getElem? (i := 109) (by decide +kernel)) rfl
theorem qs_yX0_insert : Cond.selects RX0 yX0_insert yX0_insert ∈ lw_all := lw_c1 (List.mem_of_getElem? (i := 110) (by decide +kernel)) rfl
theorem qc_yX0_insert : Cond.code yX0_insert cX0_insert 3 none ∈ lw_all := lw_c1 (List.mem_of_getElem? (i := 111) (by decide +kernel)) rfl
theorem ql_RX3_163 : Cond.methodLink RX3 163 yX0_middle ∈ lw_all := lw_c1 (List.mem_of_getElem? (i := 112) (by decide +kernel)) rfl
theorem qm_yX0_middle : Cond.instanceMethod yX0_middle ∈ lw_all := lw_c1 (List.mem_of_getElem? (i := 113) (by decide +kernel)) rfl
theorem qs_yX0_middle : Cond.selects RX0 yX0_middle yX0_middle ∈ lw_all := lw_c1 (List.mem_of_getElem? (i := 114) (by decide +kernel)) rfl
theorem qc_yX0_middle : Cond.code yX0_middle cX0_middle 2 (some Jvm.ClassFile.FieldType.int) ∈ lw_all := lw_c1 (List.mem_of_getElem? (i := 115) (by decide +kernel)) rfl
theorem qn_RX0_19 : Cond.constant RX0 19 (-999999) ∈ lw_all := lw_c1 (List.mem_of_getElem? (i := 116) (by decide +kernel)) rfl
theorem ql_RL_45 : Cond.methodLink RL 45 yX6_ofThermometer ∈ lw_all := lw_c1 (List.mem_of_getElem? (i := 117) (by decide +kernel)) rfl
theorem qm_yX6_ofThermometer : Cond.instanceMethod yX6_ofThermometer ∈ lw_all := lw_c1 (List.mem_of_getElem? (i := 118) (by decide +kernel)) rfl
theorem qs_yX6_ofThermometer : Cond.selects RX6 yX6_ofThermometer yX6_ofThermometer ∈ lw_all := lw_c1 (List.mem_of_getElem? (i := 119) (by decide +kernel)) rfl
theorem qc_yX6_ofThermometer : Cond.code yX6_ofThermometer cX6_ofThermometer 3 (some Jvm.ClassFile.FieldType.int) ∈ lw_all := lw_c1 (List.mem_of_getElem? (i := 120) (by decide +kernel)) rfl
theorem ql_RX6_91 : Cond.methodLink RX6 91 yX6_checkThermometer ∈ lw_all := lw_c1 (List.mem_of_getElem? (i := 121) (by decide +kernel)) rfl
theorem qm_yX6_checkThermometer : Cond.instanceMethod yX6_checkThermometer ∈ lw_all := lw_c1 (List.mem_of_getElem? (i := 123) (by decide +kernel)) rfl
theorem qc_yX6_checkThermometer : Cond.code yX6_checkThermometer cX6_checkThermometer 2 none ∈ lw_all := lw_c1 (List.mem_of_getElem? (i := 124) (by decide +kernel)) rfl
theorem ql_RX6_260 : Cond.methodLink RX6 260 yX3_has ∈ lw_all := lw_c1 (List.mem_of_getElem? (i := 125) (by decide +kernel)) rfl
theorem qm_yX3_has : Cond.instanceMethod yX3_has ∈ lw_all := lw_c1 (List.mem_of_getElem? (i := 126) (by decide +kernel)) rfl
theorem qs_yX3_has : Cond.selects RX3 yX3_has yX3_has ∈ lw_all := lw_c1 (List.mem_of_getElem? (i := 127) (by decide +kernel)) rfl
theorem qc_yX3_has : Cond.code yX3_has cX3_has 2 (some Jvm.ClassFile.FieldType.boolean) ∈ lw_all := lw_c1 (List.mem_of_getElem? (i := 128) (by decide +kernel)) rfl
theorem qk_RX6_112 : Cond.classLink RX6 112 "java/lang/IndexOutOfBoundsException" ∈ lw_all := lw_c1 (List.mem_of_getElem? (i := 129) (by decide +kernel)) rfl
theorem qr_RX6_264 : Cond.stringRef RX6 264 "there is no such thermometer" ∈ lw_tbl := lw_n1 (List.mem_of_getElem? (i := 138) (by decide +kernel))
theorem ql_RX6_94 : Cond.methodLink RX6 94 yX3_at ∈ lw_all := lw_c1 (List.mem_of_getElem? (i := 145) (by decide +kernel)) rfl
