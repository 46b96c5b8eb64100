def lw_all : List Cond := lw_tbl.filter goodWord
theorem lw_good : ∀ w ∈ lw_all, w ∈ lw_tbl ∧ goodWord w = true := fun w h => List.mem_filter.mp h
theorem lw_mem {w : Cond} (h : w ∈ lw_tbl) (g : goodWord w = true) : w ∈ lw_all := List.mem_filter.mpr ⟨h, g⟩
theorem lw_t0 {w : Cond} (h : w ∈ tables_1) (g : goodWord w = true) : w ∈ lw_all := lw_mem (List.mem_append_right _ h) g
theorem lw_n0 {w : Cond} (h : w ∈ tables_1_1) : w ∈ lw_tbl := List.mem_append_right _ (List.mem_append_left _ h)
theorem lw_c0 {w : Cond} (h : w ∈ tables_1_1) (g : goodWord w = true) : w ∈ lw_all := lw_t0 (List.mem_append_left _ h) g
theorem lw_n1 {w : Cond} (h : w ∈ tables_1_2) : w ∈ lw_tbl := List.mem_append_right _ (List.mem_append_right _ (List.mem_append_left _ h))
theorem lw_c1 {w : Cond} (h : w ∈ tables_1_2) (g : goodWord w = true) : w ∈ lw_all := lw_t0 (List.mem_append_right _ (List.mem_append_left _ h)) g
theorem lw_n2 {w : Cond} (h : w ∈ tables_1_3) : w ∈ lw_tbl := List.mem_append_right _ (List.mem_append_right _ (List.mem_append_right _ (List.mem_append_left _ h)))
theorem lw_c2 {w : Cond} (h : w ∈ tables_1_3) (g : goodWord w = true) : w ∈ lw_all := lw_t0 (List.mem_append_right _ (List.mem_append_right _ (List.mem_append_left _ h))) g
theorem lw_n3 {w : Cond} (h : w ∈ tables_1_4) : w ∈ lw_tbl := List.mem_append_right _ (List.mem_append_right _ (List.mem_append_right _ (List.mem_append_right _ (h))))
theorem lw_c3 {w : Cond} (h : w ∈ tables_1_4) (g : goodWord w = true) : w ∈ lw_all := lw_t0 (List.mem_append_right _ (List.mem_append_right _ (List.mem_append_right _ (h)))) g
theorem lw_sel {y : MethodName} {n : Nat} (h : (y, n) ∈ lw_privs) : Cond.selects y.cls y y ∈ lw_all := lw_mem (List.mem_append_left _ (List.mem_map.mpr ⟨(y, n), h, rfl⟩)) rfl
theorem qi_RL : Cond.initialized RL ∈ lw_all := lw_c0 (List.mem_of_getElem? (i := 0) (by decide +kernel)) rfl
theorem qi_RX6 : Cond.initialized RX6 ∈ lw_all := lw_c0 (List.mem_of_getElem? (i := 1) (by decide +kernel)) rfl
theorem qi_RX3 : Cond.initialized RX3 ∈ lw_all := lw_c0 (List.mem_of_getElem? (i := 2) (by decide +kernel)) rfl
theorem qi_RX5 : Cond.initialized RX5 ∈ lw_all := lw_c0 (List.mem_of_getElem? (i := 3) (by decide +kernel)) rfl
theorem qi_RX0 : Cond.initialized RX0 ∈ lw_all := lw_c0 (List.mem_of_getElem? (i := 4) (by decide +kernel)) rfl
theorem qi_RX1 : Cond.initialized RX1 ∈ lw_all := lw_c0 (List.mem_of_getElem? (i := 5) (by decide +kernel)) rfl
theorem qi_RX4 : Cond.initialized RX4 ∈ lw_all := lw_c0 (List.mem_of_getElem? (i := 6) (by decide +kernel)) rfl
theorem qi_RX2 : Cond.initialized RX2 ∈ lw_all := lw_c0 (List.mem_of_getElem? (i := 7) (by decide +kernel)) rfl
theorem qi_java_lang_Throwable : Cond.initialized "java/lang/Throwable" ∈ lw_all := lw_c0 (List.mem_of_getElem? (i := 8) (by decide +kernel)) rfl
theorem qi_java_lang_Exception : Cond.initialized "java/lang/Exception" ∈ lw_all := lw_c0 (List.mem_of_getElem? (i := 9) (by decide +kernel)) rfl
theorem qi_java_lang_RuntimeException : Cond.initialized "java/lang/RuntimeException" ∈ lw_all := lw_c0 (List.mem_of_getElem? (i := 10) (by decide +kernel)) rfl
theorem qi_java_lang_IllegalArgumentException : Cond.initialized "java/lang/IllegalArgumentException" ∈ lw_all := lw_c0 (List.mem_of_getElem? (i := 11) (by decide +kernel)) rfl
theorem qi_java_lang_IndexOutOfBoundsException : Cond.initialized "java/lang/IndexOutOfBoundsException" ∈ lw_all := lw_c0 (List.mem_of_getElem? (i := 12) (by decide +kernel)) rfl
theorem qi_RJ9 : Cond.initialized RJ9 ∈ lw_all := lw_c0 (List.mem_of_getElem? (i := 13) (by decide +kernel)) rfl
theorem qi_java_lang_IllegalStateException : Cond.initialized "java/lang/IllegalStateException" ∈ lw_all := lw_c0 (List.mem_of_getElem? (i := 14) (by decide +kernel)) rfl
theorem qi_RJ6 : Cond.initialized RJ6 ∈ lw_all := lw_c0 (List.mem_of_getElem? (i := 15) (by decide +kernel)) rfl
theorem qk_RL_41 : Cond.classLink RL 41 RX6 ∈ lw_all := lw_c0 (List.mem_of_getElem? (i := 16) (by decide +kernel)) rfl
theorem qa_RX6 : Cond.instantiable RX6 6 ∈ lw_all := lw_c0 (List.mem_of_getElem? (i := 17) (by decide +kernel)) rfl
theorem ql_RL_115 : Cond.methodLink RL 115 yX6_init ∈ lw_all := lw_c0 (List.mem_of_getElem? (i := 18) (by decide +kernel)) rfl
theorem qm_yX6_init : Cond.instanceMethod yX6_init ∈ lw_all := lw_c0 (List.mem_of_getElem? (i := 19) (by decide +kernel)) rfl
theorem qc_yX6_init : Cond.code yX6_init cX6_init 1 none ∈ lw_all := lw_c0 (List.mem_of_getElem? (i := 20) (by decide +kernel)) rfl
theorem ql_RX6_1 : Cond.methodLink RX6 1 objectInit ∈ lw_all := lw_c0 (List.mem_of_getElem? (i := 21) (by decide +kernel)) rfl
theorem qm_objectInit : Cond.instanceMethod objectInit ∈ lw_all := lw_c0 (List.mem_of_getElem? (i := 22) (by decide +kernel)) rfl
theorem qc_objectInit : Cond.code objectInit ⟨#[0xb1]⟩ 1 none ∈ lw_all := lw_c0 (List.mem_of_getElem? (i := 23) (by decide +kernel)) rfl
theorem qk_RX6_7 : Cond.classLink RX6 7 RX3 ∈ lw_all := lw_c0 (List.mem_of_getElem? (i := 24) (by decide +kernel)) rfl
theorem qa_RX3 : Cond.instantiable RX3 13 ∈ lw_all := lw_c0 (List.mem_of_getElem? (i := 25) (by decide +kernel)) rfl
theorem ql_RX6_9 : Cond.methodLink RX6 9 yX3_init ∈ lw_all := lw_c0 (List.mem_of_getElem? (i := 26) (by decide +kernel)) rfl
theorem qm_yX3_init : Cond.instanceMethod yX3_init ∈ lw_all := lw_c0 (List.mem_of_getElem? (i := 27) (by decide +kernel)) rfl
theorem qc_yX3_init : Cond.code yX3_init cX3_init 2 none ∈ lw_all := lw_c0 (List.mem_of_getElem? (i := 28) (by decide +kernel)) rfl
theorem ql_RX3_3 : Cond.methodLink RX3 3 objectInit ∈ lw_all := lw_c0 (List.mem_of_getElem? (i := 29) (by decide +kernel)) rfl
theorem qk_RX3_9 : Cond.classLink RX3 9 RX5 ∈ lw_all := lw_c0 (List.mem_of_getElem? (i := 30) (by decide +kernel)) rfl
theorem qo_RX5 : Cond.arrayOver (.object "LateThermometers$Thermometer") ∈ lw_tbl := lw_n0 (List.mem_of_getElem? (i := 31) (by decide +kernel))
theorem qa_RX5 : Cond.instantiable RX5 12 ∈ lw_all := lw_c0 (List.mem_of_getElem? (i := 32) (by decide +kernel)) rfl
theorem qm_yX5_init : Cond.instanceMethod yX5_init ∈ lw_all := lw_c0 (List.mem_of_getElem? (i := 34) (by decide +kernel)) rfl
theorem qc_yX5_init : Cond.code yX5_init cX5_init 1 none ∈ lw_all := lw_c0 (List.mem_of_getElem? (i := 35) (by decide +kernel)) rfl
theorem ql_RX5_3 : Cond.methodLink RX5 3 objectInit ∈ lw_all := lw_c0 (List.mem_of_getElem? (i := 36) (by decide +kernel)) rfl
theorem qn_RX5_25 : Cond.constant RX5 25 (-999999) ∈ lw_all := lw_c0 (List.mem_of_getElem? (i := 37) (by decide +kernel)) rfl
theorem qf_RX5_9 : Cond.fieldLink RX5 9 "LateThermometers$Thermometer" "readingHours" "[I" ∈ lw_all := lw_c0 (List.mem_of_getElem? (i := 38) (by decide +kernel)) rfl
theorem qf_RX5_15 : Cond.fieldLink RX5 15 "LateThermometers$Thermometer" "readingValues" "[I" ∈ lw_all := lw_c0 (List.mem_of_getElem? (i := 39) (by decide +kernel)) rfl
theorem qf_RX5_45 : Cond.fieldLink RX5 45 "LateThermometers$Thermometer" "kept" "I" ∈ lw_all := lw_c0 (List.mem_of_getElem? (i := 40) (by decide +kernel)) rfl
theorem qf_RX5_18 : Cond.fieldLink RX5 18 "LateThermometers$Thermometer" "lag" "I" ∈ lw_all := lw_c0 (List.mem_of_getElem? (i := 41) (by decide +kernel)) rfl
theorem qf_RX5_32 : Cond.fieldLink RX5 32 "LateThermometers$Thermometer" "offset" "I" ∈ lw_all := lw_c0 (List.mem_of_getElem? (i := 42) (by decide +kernel)) rfl
theorem qf_RX5_29 : Cond.fieldLink RX5 29 "LateThermometers$Thermometer" "row" "I" ∈ lw_all := lw_c0 (List.mem_of_getElem? (i := 43) (by decide +kernel)) rfl
theorem qf_RX3_90 : Cond.fieldLink RX3 90 "LateThermometers$Thermometer" "row" "I" ∈ lw_all := lw_c0 (List.mem_of_getElem? (i := 44) (by decide +kernel)) rfl
theorem qf_RX5_22 : Cond.fieldLink RX5 22 "LateThermometers$Thermometer" "weight" "I" ∈ lw_all := lw_c0 (List.mem_of_getElem? (i := 45) (by decide +kernel)) rfl
theorem qf_RX3_170 : Cond.fieldLink RX3 170 "LateThermometers$Thermometer" "weight" "I" ∈ lw_all := lw_c0 (List.mem_of_getElem? (i := 46) (by decide +kernel)) rfl
theorem qf_RX5_42 : Cond.fieldLink RX5 42 "LateThermometers$Thermometer" "shown" "I" ∈ lw_all := lw_c0 (List.mem_of_getElem? (i := 47) (by decide +kernel)) rfl
theorem qf_RX6_106 : Cond.fieldLink RX6 106 "LateThermometers$Thermometer" "shown" "I" ∈ lw_all := lw_c0 (List.mem_of_getElem? (i := 48) (by decide +kernel)) rfl
theorem qf_RX5_48 : Cond.fieldLink RX5 48 "LateThermometers$Thermometer" "strikes" "I" ∈ lw_all := lw_c0 (List.mem_of_getElem? (i := 49) (by decide +kernel)) rfl
theorem qf_RX6_98 : Cond.fieldLink RX6 98 "LateThermometers$Thermometer" "strikes" "I" ∈ lw_all := lw_c0 (List.mem_of_getElem? (i := 50) (by decide +kernel)) rfl
theorem qf_RX5_35 : Cond.fieldLink RX5 35 "LateThermometers$Thermometer" "spikes" "I" ∈ lw_all := lw_c0 (List.mem_of_getElem? (i := 51) (by decide +kernel)) rfl
theorem qf_RX3_142 : Cond.fieldLink RX3 142 "LateThermometers$Thermometer" "spikes" "I" ∈ lw_all := lw_c0 (List.mem_of_getElem? (i := 52) (by decide +kernel)) rfl
theorem qf_RX5_51 : Cond.fieldLink RX5 51 "LateThermometers$Thermometer" "shutOut" "Z" ∈ lw_all := lw_c0 (List.mem_of_getElem? (i := 53) (by decide +kernel)) rfl
theorem qf_RX3_166 : Cond.fieldLink RX3 166 "LateThermometers$Thermometer" "shutOut" "Z" ∈ lw_all := lw_c0 (List.mem_of_getElem? (i := 54) (by decide +kernel)) rfl
theorem qf_RX5_26 : Cond.fieldLink RX5 26 "LateThermometers$Thermometer" "mended" "I" ∈ lw_all := lw_c0 (List.mem_of_getElem? (i := 55) (by decide +kernel)) rfl
theorem qf_RX3_157 : Cond.fieldLink RX3 157 "LateThermometers$Thermometer" "mended" "I" ∈ lw_all := lw_c0 (List.mem_of_getElem? (i := 56) (by decide +kernel)) rfl
theorem qy_0 : Cond.arrayClass Jvm.ClassFile.FieldType.int ∈ lw_all := lw_c0 (List.mem_of_getElem? (i := 82) (by decide +kernel)) rfl
theorem qk_RX3_29 : Cond.classLink RX3 29 RX0 ∈ lw_all := lw_c0 (List.mem_of_getElem? (i := 83) (by decide +kernel)) rfl
theorem qa_RX0 : Cond.instantiable RX0 2 ∈ lw_all := lw_c0 (List.mem_of_getElem? (i := 84) (by decide +kernel)) rfl
theorem qm_yX0_init : Cond.instanceMethod yX0_init ∈ lw_all := lw_c0 (List.mem_of_getElem? (i := 86) (by decide +kernel)) rfl
theorem qc_yX0_init : Cond.code yX0_init cX0_init 1 none ∈ lw_all := lw_c0 (List.mem_of_getElem? (i := 87) (by decide +kernel)) rfl
theorem ql_RX0_3 : Cond.methodLink RX0 3 objectInit ∈ lw_all := lw_c0 (List.mem_of_getElem? (i := 88) (by decide +kernel)) rfl
theorem qf_RX0_9 : Cond.fieldLink RX0 9 "LateThermometers$Ascending" "numbers" "[I" ∈ lw_all := lw_c0 (List.mem_of_getElem? (i := 89) (by decide +kernel)) rfl
theorem qf_RX0_15 : Cond.fieldLink RX0 15 "LateThermometers$Ascending" "size" "I" ∈ lw_all := lw_c0 (List.mem_of_getElem? (i := 90) (by decide +kernel)) rfl
theorem qn_RX3_36 : Cond.constant RX3 36 (-999999) ∈ lw_all := lw_c0 (List.mem_of_getElem? (i := 96) (by decide +kernel)) rfl
theorem qf_RX3_11 : Cond.fieldLink RX3 11 "LateThermometers$Place" "thermometers" "[LLateThermometers$Thermometer;" ∈ lw_all := lw_c0 (List.mem_of_getElem? (i := 97) (by decide +kernel)) rfl
theorem qf_RX3_18 : Cond.fieldLink RX3 18 "LateThermometers$Place" "spare" "LLateThermometers$Thermometer;" ∈ lw_all := lw_c0 (List.mem_of_getElem? (i := 98) (by decide +kernel)) rfl
theorem qf_RX3_22 : Cond.fieldLink RX3 22 "LateThermometers$Place" "periods" "[I" ∈ lw_all := lw_c0 (List.mem_of_getElem? (i := 99) (by decide +kernel)) rfl
theorem qf_RX3_26 : Cond.fieldLink RX3 26 "LateThermometers$Place" "timesRead" "[I" ∈ lw_all := lw_c0 (List.mem_of_getElem? (i := 100) (by decide +kernel)) rfl
theorem qf_RX3_32 : Cond.fieldLink RX3 32 "LateThermometers$Place" "sorted" "LLateThermometers$Ascending;" ∈ lw_all := lw_c0 (List.mem_of_getElem? (i := 101) (by decide +kernel)) rfl
theorem qf_RX3_37 : Cond.fieldLink RX3 37 "LateThermometers$Place" "meanBefore" "I" ∈ lw_all := lw_c0 (List.mem_of_getElem? (i := 102) (by decide +kernel)) rfl
theorem qf_RX3_50 : Cond.fieldLink RX3 50 "LateThermometers$Place" "size" "I" ∈ lw_all := lw_c0 (List.mem_of_getElem? (i := 103) (by decide +kernel)) rfl
theorem qf_RX6_207 : Cond.fieldLink RX6 207 "LateThermometers$Place" "size" "I" ∈ lw_all := lw_c0 (List.mem_of_getElem? (i := 104) (by decide +kernel)) rfl
theorem qf_RX3_65 : Cond.fieldLink RX3 65 "LateThermometers$Place" "hour" "I" ∈ lw_all := lw_c0 (List.mem_of_getElem? (i := 105) (by decide +kernel)) rfl
theorem qf_RX6_171 : Cond.fieldLink RX6 171 "LateThermometers$Place" "hour" "I" ∈ lw_all := lw_c0 (List.mem_of_getElem? (i := 106) (by decide +kernel)) rfl
theorem qf_RX3_41 : Cond.fieldLink RX3 41 "LateThermometers$Place" "temperature" "I" ∈ lw_all := lw_c0 (List.mem_of_getElem? (i := 107) (by decide +kernel)) rfl
theorem qf_RX6_81 : Cond.fieldLink RX6 81 "LateThermometers$Place" "temperature" "I" ∈ lw_all := lw_c0 (List.mem_of_getElem? (i := 108) (by decide +kernel)) rfl
theorem qf_RX3_68 : Cond.fieldLink RX3 68 "LateThermometers$Place" "readings" "I" ∈ lw_all := lw_c0 (List.mem_of_getElem? (i := 109) (by decide +kernel)) rfl
theorem qf_RX6_223 : Cond.fieldLink RX6 223 "LateThermometers$Place" "readings" "I" ∈ lw_all := lw_c0 (List.mem_of_getElem? (i := 110) (by decide +kernel)) rfl
theorem qf_RX3_71 : Cond.fieldLink RX3 71 "LateThermometers$Place" "spikes" "I" ∈ lw_all := lw_c0 (List.mem_of_getElem? (i := 111) (by decide +kernel)) rfl
theorem qf_RX6_226 : Cond.fieldLink RX6 226 "LateThermometers$Place" "spikes" "I" ∈ lw_all := lw_c0 (List.mem_of_getElem? (i := 112) (by decide +kernel)) rfl
theorem qf_RX3_44 : Cond.fieldLink RX3 44 "LateThermometers$Place" "difference" "I" ∈ lw_all := lw_c0 (List.mem_of_getElem? (i := 113) (by decide +kernel)) rfl
theorem qf_RX6_117 : Cond.fieldLink RX6 117 "LateThermometers$Place" "difference" "I" ∈ lw_all := lw_c0 (List.mem_of_getElem? (i := 114) (by decide +kernel)) rfl
theorem qf_RX3_47 : Cond.fieldLink RX3 47 "LateThermometers$Place" "strikesToShutOut" "I" ∈ lw_all := lw_c0 (List.mem_of_getElem? (i := 115) (by decide +kernel)) rfl
theorem qf_RX6_120 : Cond.fieldLink RX6 120 "LateThermometers$Place" "strikesToShutOut" "I" ∈ lw_all := lw_c0 (List.mem_of_getElem? (i := 116) (by decide +kernel)) rfl
theorem qk_RX6_19 : Cond.classLink RX6 19 RX1 ∈ lw_all := lw_c0 (List.mem_of_getElem? (i := 144) (by decide +kernel)) rfl
theorem qa_RX1 : Cond.instantiable RX1 4 ∈ lw_all := lw_c0 (List.mem_of_getElem? (i := 145) (by decide +kernel)) rfl
theorem ql_RX6_21 : Cond.methodLink RX6 21 yX1_init ∈ lw_all := lw_c0 (List.mem_of_getElem? (i := 146) (by decide +kernel)) rfl
theorem qm_yX1_init : Cond.instanceMethod yX1_init ∈ lw_all := lw_c0 (List.mem_of_getElem? (i := 147) (by decide +kernel)) rfl
theorem qc_yX1_init : Cond.code yX1_init cX1_init 2 none ∈ lw_all := lw_c0 (List.mem_of_getElem? (i := 148) (by decide +kernel)) rfl
theorem ql_RX1_3 : Cond.methodLink RX1 3 objectInit ∈ lw_all := lw_c0 (List.mem_of_getElem? (i := 149) (by decide +kernel)) rfl
theorem qk_RX1_9 : Cond.classLink RX1 9 RX3 ∈ lw_all := lw_c0 (List.mem_of_getElem? (i := 150) (by decide +kernel)) rfl
theorem qo_RX3 : Cond.arrayOver (.object "LateThermometers$Place") ∈ lw_tbl := lw_n0 (List.mem_of_getElem? (i := 151) (by decide +kernel))
theorem ql_RX1_17 : Cond.methodLink RX1 17 yX3_init ∈ lw_all := lw_c0 (List.mem_of_getElem? (i := 152) (by decide +kernel)) rfl
theorem qf_RX1_11 : Cond.fieldLink RX1 11 "LateThermometers$History" "states" "[LLateThermometers$Place;" ∈ lw_all := lw_c0 (List.mem_of_getElem? (i := 153) (by decide +kernel)) rfl
theorem qf_RX1_18 : Cond.fieldLink RX1 18 "LateThermometers$History" "spare" "LLateThermometers$Place;" ∈ lw_all := lw_c0 (List.mem_of_getElem? (i := 154) (by decide +kernel)) rfl
theorem qf_RX1_22 : Cond.fieldLink RX1 22 "LateThermometers$History" "next" "I" ∈ lw_all := lw_c0 (List.mem_of_getElem? (i := 155) (by decide +kernel)) rfl
theorem qf_RX1_34 : Cond.fieldLink RX1 34 "LateThermometers$History" "size" "I" ∈ lw_all := lw_c0 (List.mem_of_getElem? (i := 156) (by decide +kernel)) rfl
theorem qf_RX6_156 : Cond.fieldLink RX6 156 "LateThermometers$History" "size" "I" ∈ lw_all := lw_c0 (List.mem_of_getElem? (i := 157) (by decide +kernel)) rfl
theorem qk_RX6_26 : Cond.classLink RX6 26 RX4 ∈ lw_all := lw_c0 (List.mem_of_getElem? (i := 167) (by decide +kernel)) rfl
theorem qa_RX4 : Cond.instantiable RX4 2 ∈ lw_all := lw_c0 (List.mem_of_getElem? (i := 168) (by decide +kernel)) rfl
theorem qm_yX4_init : Cond.instanceMethod yX4_init ∈ lw_all := lw_c0 (List.mem_of_getElem? (i := 170) (by decide +kernel)) rfl
theorem qc_yX4_init : Cond.code yX4_init cX4_init 1 none ∈ lw_all := lw_c0 (List.mem_of_getElem? (i := 171) (by decide +kernel)) rfl
theorem ql_RX4_1 : Cond.methodLink RX4 1 objectInit ∈ lw_all := lw_c0 (List.mem_of_getElem? (i := 172) (by decide +kernel)) rfl
theorem qk_RX4_7 : Cond.classLink RX4 7 RX3 ∈ lw_all := lw_c0 (List.mem_of_getElem? (i := 173) (by decide +kernel)) rfl
theorem ql_RX4_9 : Cond.methodLink RX4 9 yX3_init ∈ lw_all := lw_c0 (List.mem_of_getElem? (i := 174) (by decide +kernel)) rfl
theorem qf_RX4_10 : Cond.fieldLink RX4 10 "LateThermometers$Snapshot" "place" "LLateThermometers$Place;" ∈ lw_all := lw_c0 (List.mem_of_getElem? (i := 175) (by decide +kernel)) rfl
theorem qk_RX6_36 : Cond.classLink RX6 36 RX2 ∈ lw_all := lw_c0 (List.mem_of_getElem? (i := 181) (by decide +kernel)) rfl
theorem qa_RX2 : Cond.instantiable RX2 8 ∈ lw_all := lw_c0 (List.mem_of_getElem? (i := 182) (by decide +kernel)) rfl
theorem qm_yX2_init : Cond.instanceMethod yX2_init ∈ lw_all := lw_c0 (List.mem_of_getElem? (i := 184) (by decide +kernel)) rfl
theorem qc_yX2_init : Cond.code yX2_init cX2_init 1 none ∈ lw_all := lw_c0 (List.mem_of_getElem? (i := 185) (by decide +kernel)) rfl
theorem ql_RX2_3 : Cond.methodLink RX2 3 objectInit ∈ lw_all := lw_c0 (List.mem_of_getElem? (i := 186) (by decide +kernel)) rfl
theorem qf_RX2_9 : Cond.fieldLink RX2 9 "LateThermometers$OrderText" "characters" "[C" ∈ lw_all := lw_c0 (List.mem_of_getElem? (i := 187) (by decide +kernel)) rfl
theorem qf_RX6_132 : Cond.fieldLink RX6 132 "LateThermometers$OrderText" "length" "I" ∈ lw_all := lw_c0 (List.mem_of_getElem? (i := 188) (by decide +kernel)) rfl
theorem qy_1 : Cond.arrayClass Jvm.ClassFile.FieldType.char ∈ lw_all := lw_c0 (List.mem_of_getElem? (i := 206) (by decide +kernel)) rfl
theorem qf_RX6_10 : Cond.fieldLink RX6 10 "LateThermometers" "now" "LLateThermometers$Place;" ∈ lw_all := lw_c0 (List.mem_of_getElem? (i := 207) (by decide +kernel)) rfl
theorem qf_RX6_16 : Cond.fieldLink RX6 16 "LateThermometers" "trial" "LLateThermometers$Place;" ∈ lw_all := lw_c0 (List.mem_of_getElem? (i := 208) (by decide +kernel)) rfl
theorem qf_RX6_22 : Cond.fieldLink RX6 22 "LateThermometers" "history" "LLateThermometers$History;" ∈ lw_all := lw_c0 (List.mem_of_getElem? (i := 209) (by decide +kernel)) rfl
theorem qf_RX6_29 : Cond.fieldLink RX6 29 "LateThermometers" "firstSnapshot" "LLateThermometers$Snapshot;" ∈ lw_all := lw_c0 (List.mem_of_getElem? (i := 210) (by decide +kernel)) rfl
theorem qf_RX6_33 : Cond.fieldLink RX6 33 "LateThermometers" "secondSnapshot" "LLateThermometers$Snapshot;" ∈ lw_all := lw_c0 (List.mem_of_getElem? (i := 211) (by decide +kernel)) rfl
theorem qf_RX6_39 : Cond.fieldLink RX6 39 "LateThermometers" "text" "LLateThermometers$OrderText;" ∈ lw_all := lw_c0 (List.mem_of_getElem? (i := 212) (by decide +kernel)) rfl
theorem ql_RL_123 : Cond.methodLink RL 123 yL_cell ∈ lw_all := lw_c0 (List.mem_of_getElem? (i := 226) (by decide +kernel)) rfl
theorem qt_yL_cell : Cond.static yL_cell ∈ lw_all := lw_c0 (List.mem_of_getElem? (i := 227) (by decide +kernel)) rfl
theorem qc_yL_cell : Cond.code yL_cell cL_cell 2 (some Jvm.ClassFile.FieldType.int) ∈ lw_all := lw_c0 (List.mem_of_getElem? (i := 228) (by decide +kernel)) rfl
theorem qn_RL_7 : Cond.constant RL 7 (1028477387) ∈ lw_all := lw_c0 (List.mem_of_getElem? (i := 229) (by decide +kernel)) rfl
theorem ql_RL_86 : Cond.methodLink RL 86 yL_low ∈ lw_all := lw_c0 (List.mem_of_getElem? (i := 230) (by decide +kernel)) rfl
theorem qt_yL_low : Cond.static yL_low ∈ lw_all := lw_c0 (List.mem_of_getElem? (i := 231) (by decide +kernel)) rfl
theorem qc_yL_low : Cond.code yL_low cL_low 2 (some Jvm.ClassFile.FieldType.int) ∈ lw_all := lw_c0 (List.mem_of_getElem? (i := 232) (by decide +kernel)) rfl
theorem qn_RL_8 : Cond.constant RL 8 (2147483647) ∈ lw_all := lw_c0 (List.mem_of_getElem? (i := 233) (by decide +kernel)) rfl
theorem ql_RL_116 : Cond.methodLink RL 116 yL_areThermometers ∈ lw_all := lw_c0 (List.mem_of_getElem? (i := 234) (by decide +kernel)) rfl
theorem qt_yL_areThermometers : Cond.static yL_areThermometers ∈ lw_all := lw_c0 (List.mem_of_getElem? (i := 235) (by decide +kernel)) rfl
theorem qc_yL_areThermometers : Cond.code yL_areThermometers cL_areThermometers 13 (some Jvm.ClassFile.FieldType.boolean) ∈ lw_all := lw_c0 (List.mem_of_getElem? (i := 236) (by decide +kernel)) rfl
theorem ql_RL_40 : Cond.methodLink RL 40 yX6_count ∈ lw_all := lw_c0 (List.mem_of_getElem? (i := 237) (by decide +kernel)) rfl
theorem qm_yX6_count : Cond.instanceMethod yX6_count ∈ lw_all := lw_c0 (List.mem_of_getElem? (i := 238) (by decide +kernel)) rfl
theorem qs_yX6_count : Cond.selects RX6 yX6_count yX6_count ∈ lw_all := lw_c0 (List.mem_of_getElem? (i := 239) (by decide +kernel)) rfl
theorem qc_yX6_count : Cond.code yX6_count cX6_count 2 (some Jvm.ClassFile.FieldType.int) ∈ lw_all := lw_c1 (List.mem_of_getElem? (i := 0) (by decide +kernel)) rfl
theorem ql_RX6_47 : Cond.methodLink RX6 47 yX6_checkRange ∈ lw_all := lw_c1 (List.mem_of_getElem? (i := 1) (by decide +kernel)) rfl
theorem qt_yX6_checkRange : Cond.static yX6_checkRange ∈ lw_all := lw_c1 (List.mem_of_getElem? (i := 2) (by decide +kernel)) rfl
theorem qc_yX6_checkRange : Cond.code yX6_checkRange cX6_checkRange 3 none ∈ lw_all := lw_c1 (List.mem_of_getElem? (i := 3) (by decide +kernel)) rfl
theorem qk_RX6_142 : Cond.classLink RX6 142 "java/lang/IllegalArgumentException" ∈ lw_all := lw_c1 (List.mem_of_getElem? (i := 4) (by decide +kernel)) rfl
theorem qz_UNASSIGNED_STACK : Cond.laysStatic "java/lang/Throwable" "UNASSIGNED_STACK" "[Ljava/lang/StackTraceElement;" ∈ lw_tbl := lw_n1 (List.mem_of_getElem? (i := 31) (by decide +kernel))
theorem qz_SUPPRESSED_SENTINEL : Cond.laysStatic "java/lang/Throwable" "SUPPRESSED_SENTINEL" "Ljava/util/List;" ∈ lw_tbl := lw_n1 (List.mem_of_getElem? (i := 33) (by decide +kernel))
theorem qr_RX6_256 : Cond.stringRef RX6 256 "an argument is out of range" ∈ lw_tbl := lw_n1 (List.mem_of_getElem? (i := 45) (by decide +kernel))
theorem qy_2 : Cond.arrayClass Jvm.ClassFile.FieldType.byte ∈ lw_all := lw_c1 (List.mem_of_getElem? (i := 71) (by decide +kernel)) rfl
theorem ql_RX6_208 : Cond.methodLink RX6 208 yX3_maskOfAsked ∈ lw_all := lw_c1 (List.mem_of_getElem? (i := 72) (by decide +kernel)) rfl
theorem qm_yX3_maskOfAsked : Cond.instanceMethod yX3_maskOfAsked ∈ lw_all := lw_c1 (List.mem_of_getElem? (i := 73) (by decide +kernel)) rfl
theorem qs_yX3_maskOfAsked : Cond.selects RX3 yX3_maskOfAsked yX3_maskOfAsked ∈ lw_all := lw_c1 (List.mem_of_getElem? (i := 74) (by decide +kernel)) rfl
theorem qc_yX3_maskOfAsked : Cond.code yX3_maskOfAsked cX3_maskOfAsked 3 (some Jvm.ClassFile.FieldType.int) ∈ lw_all := lw_c1 (List.mem_of_getElem? (i := 75) (by decide +kernel)) rfl
theorem ql_RX3_53 : Cond.methodLink RX3 53 yX3_at ∈ lw_all := lw_c1 (List.mem_of_getElem? (i := 76) (by decide +kernel)) rfl
theorem qm_yX3_at : Cond.instanceMethod yX3_at ∈ lw_all := lw_c1 (List.mem_of_getElem? (i := 77) (by decide +kernel)) rfl
theorem qs_yX3_at : Cond.selects RX3 yX3_at yX3_at ∈ lw_all := lw_c1 (List.mem_of_getElem? (i := 78) (by decide +kernel)) rfl
theorem qc_yX3_at : Cond.code yX3_at cX3_at 3 (some (Jvm.ClassFile.FieldType.object "LateThermometers$Thermometer")) ∈ lw_all := lw_c1 (List.mem_of_getElem? (i := 79) (by decide +kernel)) rfl
theorem ql_RX3_153 : Cond.methodLink RX3 153 yX5_isAsked ∈ lw_all := lw_c1 (List.mem_of_getElem? (i := 80) (by decide +kernel)) rfl
theorem qm_yX5_isAsked : Cond.instanceMethod yX5_isAsked ∈ lw_all := lw_c1 (List.mem_of_getElem? (i := 81) (by decide +kernel)) rfl
theorem qs_yX5_isAsked : Cond.selects RX5 yX5_isAsked yX5_isAsked ∈ lw_all := lw_c1 (List.mem_of_getElem? (i := 82) (by decide +kernel)) rfl
theorem qc_yX5_isAsked : Cond.code yX5_isAsked cX5_isAsked 1 (some Jvm.ClassFile.FieldType.boolean) ∈ lw_all := lw_c1 (List.mem_of_getElem? (i := 83) (by decide +kernel)) rfl
theorem ql_RX6_211 : Cond.methodLink RX6 211 yX3_maskOfShutOut ∈ lw_all := lw_c1 (List.mem_of_getElem? (i := 84) (by decide +kernel)) rfl
theorem qm_yX3_maskOfShutOut : Cond.instanceMethod yX3_maskOfShutOut ∈ lw_all := lw_c1 (List.mem_of_getElem? (i := 85) (by decide +kernel)) rfl
theorem qs_yX3_maskOfShutOut : Cond.selects RX3 yX3_maskOfShutOut yX3_maskOfShutOut ∈ lw_all := lw_c1 (List.mem_of_getElem? (i := 86) (by decide +kernel)) rfl
theorem qc_yX3_maskOfShutOut : Cond.code yX3_maskOfShutOut cX3_maskOfShutOut 3 (some Jvm.ClassFile.FieldType.int) ∈ lw_all := lw_c1 (List.mem_of_getElem? (i := 87) (by decide +kernel)) rfl
theorem ql_RX6_214 : Cond.methodLink RX6 214 yX3_mean ∈ lw_all := lw_c1 (List.mem_of_getElem? (i := 88) (by decide +kernel)) rfl
theorem qm_yX3_mean : Cond.instanceMethod yX3_mean ∈ lw_all := lw_c1 (List.mem_of_getElem? (i := 89) (by decide +kernel)) rfl
theorem qs_yX3_mean : Cond.selects RX3 yX3_mean yX3_mean ∈ lw_all := lw_c1 (List.mem_of_getElem? (i := 90) (by decide +kernel)) rfl
theorem qc_yX3_mean : Cond.code yX3_mean cX3_mean 4 (some Jvm.ClassFile.FieldType.int) ∈ lw_all := lw_c1 (List.mem_of_getElem? (i := 91) (by decide +kernel)) rfl
theorem qt_yX6_quotient : Cond.static yX6_quotient ∈ lw_all := lw_c1 (List.mem_of_getElem? (i := 93) (by decide +kernel)) rfl
theorem qc_yX6_quotient : Cond.code yX6_quotient cX6_quotient 2 (some Jvm.ClassFile.FieldType.int) ∈ lw_all := lw_c1 (List.mem_of_getElem? (i := 94) (by decide +kernel)) rfl
theorem ql_RX6_217 : Cond.methodLink RX6 217 yX3_slope ∈ lw_all := lw_c1 (List.mem_of_getElem? (i := 95) (by decide +kernel)) rfl
theorem qm_yX3_slope : Cond.instanceMethod yX3_slope ∈ lw_all := lw_c1 (List.mem_of_getElem? (i := 96) (by decide +kernel)) rfl
theorem qs_yX3_slope : Cond.selects RX3 yX3_slope yX3_slope ∈ lw_all := lw_c1 (List.mem_of_getElem? (i := 97) (by decide +kernel)) rfl
theorem qc_yX3_slope : Cond.code yX3_slope cX3_slope 2 (some Jvm.ClassFile.FieldType.int) ∈ lw_all := lw_c1 (List.mem_of_getElem? (i := 98) (by decide +kernel)) rfl
theorem ql_RX3_104 : Cond.methodLink RX3 104 yX3_mean ∈ lw_all := lw_c1 (List.mem_of_getElem? (i := 99) (by decide +kernel)) rfl
theorem ql_RX6_220 : Cond.methodLink RX6 220 yX3_middleWithout ∈ lw_all := lw_c1 (List.mem_of_getElem? (i := 100) (by decide +kernel)) rfl
theorem qm_yX3_middleWithout : Cond.instanceMethod yX3_middleWithout ∈ lw_all := lw_c1 (List.mem_of_getElem? (i := 101) (by decide +kernel)) rfl
theorem qs_yX3_middleWithout : Cond.selects RX3 yX3_middleWithout yX3_middleWithout ∈ lw_all := lw_c1 (List.mem_of_getElem? (i := 102) (by decide +kernel)) rfl
theorem qc_yX3_middleWithout : Cond.code yX3_middleWithout cX3_middleWithout 3 (some Jvm.ClassFile.FieldType.int) ∈ lw_all := lw_c1 (List.mem_of_getElem? (i := 103) (by decide +kernel)) rfl
theorem ql_RX3_150 : Cond.methodLink RX3 150 yX0_clear ∈ lw_all := lw_c1 (List.mem_of_getElem? (i := 104) (by decide +kernel)) rfl
theorem qm_yX0_clear : Cond.instanceMethod yX0_clear ∈ lw_all := lw_c1 (List.mem_of_getElem? (i := 105) (by decide +kernel)) rfl
theorem qs_yX0_clear : Cond.selects RX0 yX0_clear yX0_clear ∈ lw_all := lw_c1 (List.mem_of_getElem? (i := 106) (by decide +kernel)) rfl
theorem qc_yX0_clear : Cond.code yX0_clear cX0_clear 1 none ∈ lw_all := lw_c1 (List.mem_of_getElem? (i := 107) (by decide +kernel)) rfl
theorem ql_RX3_160 : Cond.methodLink RX3 160 yX0_insert ∈ lw_all := lw_c1 (List.mem_of_getElem? (i := 108) (by decide +kernel)) rfl
theorem qm_yX0_insert : Cond.instanceMethod yX0_insert ∈ lw_all := lw_c1 (List.mem_of_getElem? (i := 109) (by decide +kernel)) rfl
theorem qs_yX0_insert : Cond.selects RX0 yX0_insert yX0_insert ∈ lw_all := lw_c1 (List.mem_of_getElem? (i := 110) (by decide +kernel)) rfl
theorem qc_yX0_insert : Cond.code yX0_insert cX0_insert 3 none ∈ lw_all := lw_c1 (List.mem_of_getElem? (i := 111) (by decide +kernel)) rfl
theorem ql_RX3_163 : Cond.methodLink RX3 163 yX0_middle ∈ lw_all := lw_c1 (List.mem_of_getElem? (i := 112) (by decide +kernel)) rfl
theorem qm_yX0_middle : Cond.instanceMethod yX0_middle ∈ lw_all := lw_c1 (List.mem_of_getElem? (i := 113) (by decide +kernel)) rfl
theorem qs_yX0_middle : Cond.selects RX0 yX0_middle yX0_middle ∈ lw_all := lw_c1 (List.mem_of_getElem? (i := 114) (by decide +kernel)) rfl
theorem qc_yX0_middle : Cond.code yX0_middle cX0_middle 2 (some Jvm.ClassFile.FieldType.int) ∈ lw_all := lw_c1 (List.mem_of_getElem? (i := 115) (by decide +kernel)) rfl
theorem qn_RX0_19 : Cond.constant RX0 19 (-999999) ∈ lw_all := lw_c1 (List.mem_of_getElem? (i := 116) (by decide +kernel)) rfl
theorem ql_RL_45 : Cond.methodLink RL 45 yX6_ofThermometer ∈ lw_all := lw_c1 (List.mem_of_getElem? (i := 117) (by decide +kernel)) rfl
theorem qm_yX6_ofThermometer : Cond.instanceMethod yX6_ofThermometer ∈ lw_all := lw_c1 (List.mem_of_getElem? (i := 118) (by decide +kernel)) rfl
theorem qs_yX6_ofThermometer : Cond.selects RX6 yX6_ofThermometer yX6_ofThermometer ∈ lw_all := lw_c1 (List.mem_of_getElem? (i := 119) (by decide +kernel)) rfl
theorem qc_yX6_ofThermometer : Cond.code yX6_ofThermometer cX6_ofThermometer 3 (some Jvm.ClassFile.FieldType.int) ∈ lw_all := lw_c1 (List.mem_of_getElem? (i := 120) (by decide +kernel)) rfl
theorem ql_RX6_91 : Cond.methodLink RX6 91 yX6_checkThermometer ∈ lw_all := lw_c1 (List.mem_of_getElem? (i := 121) (by decide +kernel)) rfl
theorem qm_yX6_checkThermometer : Cond.instanceMethod yX6_checkThermometer ∈ lw_all := lw_c1 (List.mem_of_getElem? (i := 123) (by decide +kernel)) rfl
theorem qc_yX6_checkThermometer : Cond.code yX6_checkThermometer cX6_checkThermometer 2 none ∈ lw_all := lw_c1 (List.mem_of_getElem? (i := 124) (by decide +kernel)) rfl
theorem ql_RX6_260 : Cond.methodLink RX6 260 yX3_has ∈ lw_all := lw_c1 (List.mem_of_getElem? (i := 125) (by decide +kernel)) rfl
theorem qm_yX3_has : Cond.instanceMethod yX3_has ∈ lw_all := lw_c1 (List.mem_of_getElem? (i := 126) (by decide +kernel)) rfl
theorem qs_yX3_has : Cond.selects RX3 yX3_has yX3_has ∈ lw_all := lw_c1 (List.mem_of_getElem? (i := 127) (by decide +kernel)) rfl
theorem qc_yX3_has : Cond.code yX3_has cX3_has 2 (some Jvm.ClassFile.FieldType.boolean) ∈ lw_all := lw_c1 (List.mem_of_getElem? (i := 128) (by decide +kernel)) rfl
theorem qk_RX6_112 : Cond.classLink RX6 112 "java/lang/IndexOutOfBoundsException" ∈ lw_all := lw_c1 (List.mem_of_getElem? (i := 129) (by decide +kernel)) rfl
theorem qr_RX6_264 : Cond.stringRef RX6 264 "there is no such thermometer" ∈ lw_tbl := lw_n1 (List.mem_of_getElem? (i := 138) (by decide +kernel))
theorem ql_RX6_94 : Cond.methodLink RX6 94 yX3_at ∈ lw_all := lw_c1 (List.mem_of_getElem? (i := 145) (by decide +kernel)) rfl
theorem ql_RX6_186 : Cond.methodLink RX6 186 yX5_numberOf ∈ lw_all := lw_c1 (List.mem_of_getElem? (i := 146) (by decide +kernel)) rfl
theorem qm_yX5_numberOf : Cond.instanceMethod yX5_numberOf ∈ lw_all := lw_c1 (List.mem_of_getElem? (i := 147) (by decide +kernel)) rfl
theorem qs_yX5_numberOf : Cond.selects RX5 yX5_numberOf yX5_numberOf ∈ lw_all := lw_c1 (List.mem_of_getElem? (i := 148) (by decide +kernel)) rfl
theorem qc_yX5_numberOf : Cond.code yX5_numberOf cX5_numberOf 2 (some Jvm.ClassFile.FieldType.int) ∈ lw_all := lw_c1 (List.mem_of_getElem? (i := 149) (by decide +kernel)) rfl
theorem ql_RL_20 : Cond.methodLink RL 20 yL_own ∈ lw_all := lw_c1 (List.mem_of_getElem? (i := 150) (by decide +kernel)) rfl
theorem qt_yL_own : Cond.static yL_own ∈ lw_all := lw_c1 (List.mem_of_getElem? (i := 151) (by decide +kernel)) rfl
theorem qc_yL_own : Cond.code yL_own cL_own 4 (some Jvm.ClassFile.FieldType.int) ∈ lw_all := lw_c1 (List.mem_of_getElem? (i := 152) (by decide +kernel)) rfl
theorem ql_RL_12 : Cond.methodLink RL 12 yL_mended ∈ lw_all := lw_c1 (List.mem_of_getElem? (i := 153) (by decide +kernel)) rfl
theorem qt_yL_mended : Cond.static yL_mended ∈ lw_all := lw_c1 (List.mem_of_getElem? (i := 154) (by decide +kernel)) rfl
theorem qc_yL_mended : Cond.code yL_mended cL_mended 7 (some Jvm.ClassFile.FieldType.int) ∈ lw_all := lw_c1 (List.mem_of_getElem? (i := 155) (by decide +kernel)) rfl
theorem qn_RL_11 : Cond.constant RL 11 (-999999) ∈ lw_all := lw_c1 (List.mem_of_getElem? (i := 156) (by decide +kernel)) rfl
theorem ql_RL_49 : Cond.methodLink RL 49 yX6_reading ∈ lw_all := lw_c1 (List.mem_of_getElem? (i := 157) (by decide +kernel)) rfl
theorem qm_yX6_reading : Cond.instanceMethod yX6_reading ∈ lw_all := lw_c1 (List.mem_of_getElem? (i := 158) (by decide +kernel)) rfl
theorem qs_yX6_reading : Cond.selects RX6 yX6_reading yX6_reading ∈ lw_all := lw_c1 (List.mem_of_getElem? (i := 159) (by decide +kernel)) rfl
theorem qc_yX6_reading : Cond.code yX6_reading cX6_reading 5 (some Jvm.ClassFile.FieldType.int) ∈ lw_all := lw_c1 (List.mem_of_getElem? (i := 160) (by decide +kernel)) rfl
theorem ql_RX6_189 : Cond.methodLink RX6 189 yX6_checkNotNegative ∈ lw_all := lw_c1 (List.mem_of_getElem? (i := 161) (by decide +kernel)) rfl
theorem qt_yX6_checkNotNegative : Cond.static yX6_checkNotNegative ∈ lw_all := lw_c1 (List.mem_of_getElem? (i := 162) (by decide +kernel)) rfl
theorem qc_yX6_checkNotNegative : Cond.code yX6_checkNotNegative cX6_checkNotNegative 1 none ∈ lw_all := lw_c1 (List.mem_of_getElem? (i := 163) (by decide +kernel)) rfl
theorem qr_RX6_258 : Cond.stringRef RX6 258 "an argument is negative" ∈ lw_tbl := lw_n1 (List.mem_of_getElem? (i := 164) (by decide +kernel))
theorem ql_RX6_192 : Cond.methodLink RX6 192 yX5_hourAgo ∈ lw_all := lw_c1 (List.mem_of_getElem? (i := 165) (by decide +kernel)) rfl
theorem qm_yX5_hourAgo : Cond.instanceMethod yX5_hourAgo ∈ lw_all := lw_c1 (List.mem_of_getElem? (i := 166) (by decide +kernel)) rfl
theorem qs_yX5_hourAgo : Cond.selects RX5 yX5_hourAgo yX5_hourAgo ∈ lw_all := lw_c1 (List.mem_of_getElem? (i := 167) (by decide +kernel)) rfl
theorem qc_yX5_hourAgo : Cond.code yX5_hourAgo cX5_hourAgo 2 (some Jvm.ClassFile.FieldType.int) ∈ lw_all := lw_c1 (List.mem_of_getElem? (i := 168) (by decide +kernel)) rfl
theorem qt_yX6_entry : Cond.static yX6_entry ∈ lw_all := lw_c1 (List.mem_of_getElem? (i := 170) (by decide +kernel)) rfl
theorem qc_yX6_entry : Cond.code yX6_entry cX6_entry 2 (some Jvm.ClassFile.FieldType.int) ∈ lw_all := lw_c1 (List.mem_of_getElem? (i := 171) (by decide +kernel)) rfl
theorem qn_RX6_283 : Cond.constant RX6 283 (-999999) ∈ lw_all := lw_c1 (List.mem_of_getElem? (i := 172) (by decide +kernel)) rfl
theorem ql_RX6_195 : Cond.methodLink RX6 195 yX5_valueAgo ∈ lw_all := lw_c1 (List.mem_of_getElem? (i := 173) (by decide +kernel)) rfl
theorem qm_yX5_valueAgo : Cond.instanceMethod yX5_valueAgo ∈ lw_all := lw_c1 (List.mem_of_getElem? (i := 174) (by decide +kernel)) rfl
theorem qs_yX5_valueAgo : Cond.selects RX5 yX5_valueAgo yX5_valueAgo ∈ lw_all := lw_c1 (List.mem_of_getElem? (i := 175) (by decide +kernel)) rfl
theorem qc_yX5_valueAgo : Cond.code yX5_valueAgo cX5_valueAgo 2 (some Jvm.ClassFile.FieldType.int) ∈ lw_all := lw_c1 (List.mem_of_getElem? (i := 176) (by decide +kernel)) rfl
theorem ql_RL_16 : Cond.methodLink RL 16 yL_asked ∈ lw_all := lw_c1 (List.mem_of_getElem? (i := 177) (by decide +kernel)) rfl
theorem qt_yL_asked : Cond.static yL_asked ∈ lw_all := lw_c1 (List.mem_of_getElem? (i := 178) (by decide +kernel)) rfl
theorem qc_yL_asked : Cond.code yL_asked cL_asked 2 (some Jvm.ClassFile.FieldType.boolean) ∈ lw_all := lw_c1 (List.mem_of_getElem? (i := 179) (by decide +kernel)) rfl
theorem ql_RL_36 : Cond.methodLink RL 36 yL_size ∈ lw_all := lw_c1 (List.mem_of_getElem? (i := 180) (by decide +kernel)) rfl
theorem qt_yL_size : Cond.static yL_size ∈ lw_all := lw_c1 (List.mem_of_getElem? (i := 181) (by decide +kernel)) rfl
theorem qc_yL_size : Cond.code yL_size cL_size 1 (some Jvm.ClassFile.FieldType.int) ∈ lw_all := lw_c1 (List.mem_of_getElem? (i := 182) (by decide +kernel)) rfl
theorem ql_RL_53 : Cond.methodLink RL 53 yX6_meanError ∈ lw_all := lw_c1 (List.mem_of_getElem? (i := 183) (by decide +kernel)) rfl
theorem qm_yX6_meanError : Cond.instanceMethod yX6_meanError ∈ lw_all := lw_c1 (List.mem_of_getElem? (i := 184) (by decide +kernel)) rfl
theorem qs_yX6_meanError : Cond.selects RX6 yX6_meanError yX6_meanError ∈ lw_all := lw_c1 (List.mem_of_getElem? (i := 185) (by decide +kernel)) rfl
theorem qc_yX6_meanError : Cond.code yX6_meanError cX6_meanError 2 (some Jvm.ClassFile.FieldType.double) ∈ lw_all := lw_c1 (List.mem_of_getElem? (i := 186) (by decide +kernel)) rfl
theorem ql_RX6_248 : Cond.methodLink RX6 248 yX3_countMended ∈ lw_all := lw_c1 (List.mem_of_getElem? (i := 187) (by decide +kernel)) rfl
theorem qm_yX3_countMended : Cond.instanceMethod yX3_countMended ∈ lw_all := lw_c1 (List.mem_of_getElem? (i := 188) (by decide +kernel)) rfl
theorem qs_yX3_countMended : Cond.selects RX3 yX3_countMended yX3_countMended ∈ lw_all := lw_c1 (List.mem_of_getElem? (i := 189) (by decide +kernel)) rfl
theorem qc_yX3_countMended : Cond.code yX3_countMended cX3_countMended 3 (some Jvm.ClassFile.FieldType.int) ∈ lw_all := lw_c1 (List.mem_of_getElem? (i := 190) (by decide +kernel)) rfl
theorem ql_RX3_176 : Cond.methodLink RX3 176 yX5_hasMended ∈ lw_all := lw_c1 (List.mem_of_getElem? (i := 191) (by decide +kernel)) rfl
theorem qm_yX5_hasMended : Cond.instanceMethod yX5_hasMended ∈ lw_all := lw_c1 (List.mem_of_getElem? (i := 192) (by decide +kernel)) rfl
theorem qs_yX5_hasMended : Cond.selects RX5 yX5_hasMended yX5_hasMended ∈ lw_all := lw_c1 (List.mem_of_getElem? (i := 193) (by decide +kernel)) rfl
theorem qc_yX5_hasMended : Cond.code yX5_hasMended cX5_hasMended 1 (some Jvm.ClassFile.FieldType.boolean) ∈ lw_all := lw_c1 (List.mem_of_getElem? (i := 194) (by decide +kernel)) rfl
theorem ql_RX6_251 : Cond.methodLink RX6 251 yX3_sumOfErrors ∈ lw_all := lw_c1 (List.mem_of_getElem? (i := 195) (by decide +kernel)) rfl
theorem qm_yX3_sumOfErrors : Cond.instanceMethod yX3_sumOfErrors ∈ lw_all := lw_c1 (List.mem_of_getElem? (i := 196) (by decide +kernel)) rfl
theorem qs_yX3_sumOfErrors : Cond.selects RX3 yX3_sumOfErrors yX3_sumOfErrors ∈ lw_all := lw_c1 (List.mem_of_getElem? (i := 197) (by decide +kernel)) rfl
theorem qc_yX3_sumOfErrors : Cond.code yX3_sumOfErrors cX3_sumOfErrors 3 (some Jvm.ClassFile.FieldType.int) ∈ lw_all := lw_c1 (List.mem_of_getElem? (i := 198) (by decide +kernel)) rfl
theorem ql_RX3_185 : Cond.methodLink RX3 185 yX5_error ∈ lw_all := lw_c1 (List.mem_of_getElem? (i := 199) (by decide +kernel)) rfl
theorem qm_yX5_error : Cond.instanceMethod yX5_error ∈ lw_all := lw_c1 (List.mem_of_getElem? (i := 200) (by decide +kernel)) rfl
theorem qs_yX5_error : Cond.selects RX5 yX5_error yX5_error ∈ lw_all := lw_c1 (List.mem_of_getElem? (i := 201) (by decide +kernel)) rfl
theorem qc_yX5_error : Cond.code yX5_error cX5_error 2 (some Jvm.ClassFile.FieldType.int) ∈ lw_all := lw_c1 (List.mem_of_getElem? (i := 202) (by decide +kernel)) rfl
theorem ql_RX5_94 : Cond.methodLink RX5 94 yJ9_abs_0f7a4 ∈ lw_all := lw_c1 (List.mem_of_getElem? (i := 203) (by decide +kernel)) rfl
theorem qt_yJ9_abs_0f7a4 : Cond.static yJ9_abs_0f7a4 ∈ lw_all := lw_c1 (List.mem_of_getElem? (i := 204) (by decide +kernel)) rfl
theorem qc_yJ9_abs_0f7a4 : Cond.code yJ9_abs_0f7a4 cJ9_abs_0f7a4 1 (some Jvm.ClassFile.FieldType.int) ∈ lw_all := lw_c1 (List.mem_of_getElem? (i := 205) (by decide +kernel)) rfl
theorem ql_RL_120 : Cond.methodLink RL 120 yL_areNumbers ∈ lw_all := lw_c1 (List.mem_of_getElem? (i := 206) (by decide +kernel)) rfl
theorem qt_yL_areNumbers : Cond.static yL_areNumbers ∈ lw_all := lw_c1 (List.mem_of_getElem? (i := 207) (by decide +kernel)) rfl
theorem qc_yL_areNumbers : Cond.code yL_areNumbers cL_areNumbers 11 (some Jvm.ClassFile.FieldType.boolean) ∈ lw_all := lw_c1 (List.mem_of_getElem? (i := 208) (by decide +kernel)) rfl
theorem ql_RL_24 : Cond.methodLink RL 24 yL_mean ∈ lw_all := lw_c1 (List.mem_of_getElem? (i := 209) (by decide +kernel)) rfl
theorem qt_yL_mean : Cond.static yL_mean ∈ lw_all := lw_c1 (List.mem_of_getElem? (i := 210) (by decide +kernel)) rfl
theorem qc_yL_mean : Cond.code yL_mean cL_mean 7 (some Jvm.ClassFile.FieldType.int) ∈ lw_all := lw_c1 (List.mem_of_getElem? (i := 211) (by decide +kernel)) rfl
theorem ql_RL_32 : Cond.methodLink RL 32 yL_middle ∈ lw_all := lw_c1 (List.mem_of_getElem? (i := 212) (by decide +kernel)) rfl
theorem qt_yL_middle : Cond.static yL_middle ∈ lw_all := lw_c1 (List.mem_of_getElem? (i := 213) (by decide +kernel)) rfl
theorem qc_yL_middle : Cond.code yL_middle cL_middle 10 (some Jvm.ClassFile.FieldType.int) ∈ lw_all := lw_c1 (List.mem_of_getElem? (i := 214) (by decide +kernel)) rfl
theorem ql_RL_57 : Cond.methodLink RL 57 yX6_row ∈ lw_all := lw_c1 (List.mem_of_getElem? (i := 215) (by decide +kernel)) rfl
theorem qm_yX6_row : Cond.instanceMethod yX6_row ∈ lw_all := lw_c1 (List.mem_of_getElem? (i := 216) (by decide +kernel)) rfl
theorem qs_yX6_row : Cond.selects RX6 yX6_row yX6_row ∈ lw_all := lw_c1 (List.mem_of_getElem? (i := 217) (by decide +kernel)) rfl
theorem qc_yX6_row : Cond.code yX6_row cX6_row 3 (some Jvm.ClassFile.FieldType.int) ∈ lw_all := lw_c1 (List.mem_of_getElem? (i := 218) (by decide +kernel)) rfl
theorem ql_RX6_43 : Cond.methodLink RX6 43 yX6_checkRow ∈ lw_all := lw_c1 (List.mem_of_getElem? (i := 219) (by decide +kernel)) rfl
theorem qt_yX6_checkRow : Cond.static yX6_checkRow ∈ lw_all := lw_c1 (List.mem_of_getElem? (i := 220) (by decide +kernel)) rfl
theorem qc_yX6_checkRow : Cond.code yX6_checkRow cX6_checkRow 1 none ∈ lw_all := lw_c1 (List.mem_of_getElem? (i := 221) (by decide +kernel)) rfl
theorem qr_RX6_254 : Cond.stringRef RX6 254 "there is no such row" ∈ lw_tbl := lw_n1 (List.mem_of_getElem? (i := 222) (by decide +kernel))
theorem ql_RX6_85 : Cond.methodLink RX6 85 yX3_periodOf ∈ lw_all := lw_c1 (List.mem_of_getElem? (i := 223) (by decide +kernel)) rfl
theorem qm_yX3_periodOf : Cond.instanceMethod yX3_periodOf ∈ lw_all := lw_c1 (List.mem_of_getElem? (i := 224) (by decide +kernel)) rfl
theorem qs_yX3_periodOf : Cond.selects RX3 yX3_periodOf yX3_periodOf ∈ lw_all := lw_c1 (List.mem_of_getElem? (i := 225) (by decide +kernel)) rfl
theorem qc_yX3_periodOf : Cond.code yX3_periodOf cX3_periodOf 2 (some Jvm.ClassFile.FieldType.int) ∈ lw_all := lw_c1 (List.mem_of_getElem? (i := 226) (by decide +kernel)) rfl
theorem ql_RX6_198 : Cond.methodLink RX6 198 yX3_countInRow ∈ lw_all := lw_c1 (List.mem_of_getElem? (i := 228) (by decide +kernel)) rfl
theorem qm_yX3_countInRow : Cond.instanceMethod yX3_countInRow ∈ lw_all := lw_c1 (List.mem_of_getElem? (i := 229) (by decide +kernel)) rfl
theorem qs_yX3_countInRow : Cond.selects RX3 yX3_countInRow yX3_countInRow ∈ lw_all := lw_c1 (List.mem_of_getElem? (i := 230) (by decide +kernel)) rfl
theorem qc_yX3_countInRow : Cond.code yX3_countInRow cX3_countInRow 4 (some Jvm.ClassFile.FieldType.int) ∈ lw_all := lw_c1 (List.mem_of_getElem? (i := 231) (by decide +kernel)) rfl
theorem ql_RX6_201 : Cond.methodLink RX6 201 yX3_hoursUntilRead ∈ lw_all := lw_c1 (List.mem_of_getElem? (i := 232) (by decide +kernel)) rfl
theorem qm_yX3_hoursUntilRead : Cond.instanceMethod yX3_hoursUntilRead ∈ lw_all := lw_c1 (List.mem_of_getElem? (i := 233) (by decide +kernel)) rfl
theorem qs_yX3_hoursUntilRead : Cond.selects RX3 yX3_hoursUntilRead yX3_hoursUntilRead ∈ lw_all := lw_c1 (List.mem_of_getElem? (i := 234) (by decide +kernel)) rfl
theorem qc_yX3_hoursUntilRead : Cond.code yX3_hoursUntilRead cX3_hoursUntilRead 2 (some Jvm.ClassFile.FieldType.int) ∈ lw_all := lw_c1 (List.mem_of_getElem? (i := 235) (by decide +kernel)) rfl
theorem ql_RX3_82 : Cond.methodLink RX3 82 yX3_periodOf ∈ lw_all := lw_c1 (List.mem_of_getElem? (i := 236) (by decide +kernel)) rfl
theorem qt_yX6_remainder : Cond.static yX6_remainder ∈ lw_all := lw_c1 (List.mem_of_getElem? (i := 238) (by decide +kernel)) rfl
theorem qc_yX6_remainder : Cond.code yX6_remainder cX6_remainder 2 (some Jvm.ClassFile.FieldType.int) ∈ lw_all := lw_c1 (List.mem_of_getElem? (i := 239) (by decide +kernel)) rfl
theorem ql_RX6_204 : Cond.methodLink RX6 204 yX3_timesReadOf ∈ lw_all := lw_c2 (List.mem_of_getElem? (i := 0) (by decide +kernel)) rfl
theorem qm_yX3_timesReadOf : Cond.instanceMethod yX3_timesReadOf ∈ lw_all := lw_c2 (List.mem_of_getElem? (i := 1) (by decide +kernel)) rfl
theorem qs_yX3_timesReadOf : Cond.selects RX3 yX3_timesReadOf yX3_timesReadOf ∈ lw_all := lw_c2 (List.mem_of_getElem? (i := 2) (by decide +kernel)) rfl
theorem qc_yX3_timesReadOf : Cond.code yX3_timesReadOf cX3_timesReadOf 2 (some Jvm.ClassFile.FieldType.int) ∈ lw_all := lw_c2 (List.mem_of_getElem? (i := 3) (by decide +kernel)) rfl
theorem ql_RL_131 : Cond.methodLink RL 131 yL_areRanked ∈ lw_all := lw_c2 (List.mem_of_getElem? (i := 4) (by decide +kernel)) rfl
theorem qt_yL_areRanked : Cond.static yL_areRanked ∈ lw_all := lw_c2 (List.mem_of_getElem? (i := 5) (by decide +kernel)) rfl
theorem qc_yL_areRanked : Cond.code yL_areRanked cL_areRanked 16 (some Jvm.ClassFile.FieldType.boolean) ∈ lw_all := lw_c2 (List.mem_of_getElem? (i := 6) (by decide +kernel)) rfl
theorem ql_RL_60 : Cond.methodLink RL 60 yX6_ranked ∈ lw_all := lw_c2 (List.mem_of_getElem? (i := 7) (by decide +kernel)) rfl
theorem qm_yX6_ranked : Cond.instanceMethod yX6_ranked ∈ lw_all := lw_c2 (List.mem_of_getElem? (i := 8) (by decide +kernel)) rfl
theorem qs_yX6_ranked : Cond.selects RX6 yX6_ranked yX6_ranked ∈ lw_all := lw_c2 (List.mem_of_getElem? (i := 9) (by decide +kernel)) rfl
theorem qc_yX6_ranked : Cond.code yX6_ranked cX6_ranked 3 (some Jvm.ClassFile.FieldType.int) ∈ lw_all := lw_c2 (List.mem_of_getElem? (i := 10) (by decide +kernel)) rfl
theorem ql_RX6_229 : Cond.methodLink RX6 229 yX3_atRank ∈ lw_all := lw_c2 (List.mem_of_getElem? (i := 11) (by decide +kernel)) rfl
theorem qm_yX3_atRank : Cond.instanceMethod yX3_atRank ∈ lw_all := lw_c2 (List.mem_of_getElem? (i := 12) (by decide +kernel)) rfl
theorem qs_yX3_atRank : Cond.selects RX3 yX3_atRank yX3_atRank ∈ lw_all := lw_c2 (List.mem_of_getElem? (i := 13) (by decide +kernel)) rfl
theorem qc_yX3_atRank : Cond.code yX3_atRank cX3_atRank 4 (some Jvm.ClassFile.FieldType.int) ∈ lw_all := lw_c2 (List.mem_of_getElem? (i := 14) (by decide +kernel)) rfl
theorem ql_RX3_179 : Cond.methodLink RX3 179 yX3_countAheadOf ∈ lw_all := lw_c2 (List.mem_of_getElem? (i := 15) (by decide +kernel)) rfl
theorem qm_yX3_countAheadOf : Cond.instanceMethod yX3_countAheadOf ∈ lw_all := lw_c2 (List.mem_of_getElem? (i := 17) (by decide +kernel)) rfl
theorem qc_yX3_countAheadOf : Cond.code yX3_countAheadOf cX3_countAheadOf 7 (some Jvm.ClassFile.FieldType.int) ∈ lw_all := lw_c2 (List.mem_of_getElem? (i := 18) (by decide +kernel)) rfl
theorem ql_RX3_182 : Cond.methodLink RX3 182 yX3_sortKey ∈ lw_all := lw_c2 (List.mem_of_getElem? (i := 19) (by decide +kernel)) rfl
theorem qm_yX3_sortKey : Cond.instanceMethod yX3_sortKey ∈ lw_all := lw_c2 (List.mem_of_getElem? (i := 21) (by decide +kernel)) rfl
theorem qc_yX3_sortKey : Cond.code yX3_sortKey cX3_sortKey 3 (some Jvm.ClassFile.FieldType.int) ∈ lw_all := lw_c2 (List.mem_of_getElem? (i := 22) (by decide +kernel)) rfl
theorem ql_RL_63 : Cond.methodLink RL 63 yX6_between ∈ lw_all := lw_c2 (List.mem_of_getElem? (i := 23) (by decide +kernel)) rfl
theorem qm_yX6_between : Cond.instanceMethod yX6_between ∈ lw_all := lw_c2 (List.mem_of_getElem? (i := 24) (by decide +kernel)) rfl
theorem qs_yX6_between : Cond.selects RX6 yX6_between yX6_between ∈ lw_all := lw_c2 (List.mem_of_getElem? (i := 25) (by decide +kernel)) rfl
theorem qc_yX6_between : Cond.code yX6_between cX6_between 3 (some Jvm.ClassFile.FieldType.int) ∈ lw_all := lw_c2 (List.mem_of_getElem? (i := 26) (by decide +kernel)) rfl
theorem ql_RX6_233 : Cond.methodLink RX6 233 yX3_countMendedIn ∈ lw_all := lw_c2 (List.mem_of_getElem? (i := 27) (by decide +kernel)) rfl
theorem qm_yX3_countMendedIn : Cond.instanceMethod yX3_countMendedIn ∈ lw_all := lw_c2 (List.mem_of_getElem? (i := 28) (by decide +kernel)) rfl
theorem qs_yX3_countMendedIn : Cond.selects RX3 yX3_countMendedIn yX3_countMendedIn ∈ lw_all := lw_c2 (List.mem_of_getElem? (i := 29) (by decide +kernel)) rfl
theorem qc_yX3_countMendedIn : Cond.code yX3_countMendedIn cX3_countMendedIn 5 (some Jvm.ClassFile.FieldType.int) ∈ lw_all := lw_c2 (List.mem_of_getElem? (i := 30) (by decide +kernel)) rfl
theorem qn_RL_66 : Cond.constant RL 66 (-2000000) ∈ lw_all := lw_c2 (List.mem_of_getElem? (i := 31) (by decide +kernel)) rfl
theorem ql_RL_139 : Cond.methodLink RL 139 yL_would ∈ lw_all := lw_c2 (List.mem_of_getElem? (i := 32) (by decide +kernel)) rfl
theorem qt_yL_would : Cond.static yL_would ∈ lw_all := lw_c2 (List.mem_of_getElem? (i := 33) (by decide +kernel)) rfl
theorem qc_yL_would : Cond.code yL_would cL_would 14 (some Jvm.ClassFile.FieldType.boolean) ∈ lw_all := lw_c2 (List.mem_of_getElem? (i := 34) (by decide +kernel)) rfl
theorem ql_RL_67 : Cond.methodLink RL 67 yL_copy ∈ lw_all := lw_c2 (List.mem_of_getElem? (i := 35) (by decide +kernel)) rfl
theorem qt_yL_copy : Cond.static yL_copy ∈ lw_all := lw_c2 (List.mem_of_getElem? (i := 36) (by decide +kernel)) rfl
theorem qc_yL_copy : Cond.code yL_copy cL_copy 3 none ∈ lw_all := lw_c2 (List.mem_of_getElem? (i := 37) (by decide +kernel)) rfl
theorem ql_RL_71 : Cond.methodLink RL 71 yL_hour ∈ lw_all := lw_c2 (List.mem_of_getElem? (i := 38) (by decide +kernel)) rfl
theorem qt_yL_hour : Cond.static yL_hour ∈ lw_all := lw_c2 (List.mem_of_getElem? (i := 39) (by decide +kernel)) rfl
theorem qc_yL_hour : Cond.code yL_hour cL_hour 10 (some Jvm.ClassFile.FieldType.int) ∈ lw_all := lw_c2 (List.mem_of_getElem? (i := 40) (by decide +kernel)) rfl
theorem ql_RL_28 : Cond.methodLink RL 28 yL_change ∈ lw_all := lw_c2 (List.mem_of_getElem? (i := 41) (by decide +kernel)) rfl
theorem qt_yL_change : Cond.static yL_change ∈ lw_all := lw_c2 (List.mem_of_getElem? (i := 42) (by decide +kernel)) rfl
theorem qc_yL_change : Cond.code yL_change cL_change 3 (some Jvm.ClassFile.FieldType.int) ∈ lw_all := lw_c2 (List.mem_of_getElem? (i := 43) (by decide +kernel)) rfl
theorem ql_RL_74 : Cond.methodLink RL 74 yX6_ifStill ∈ lw_all := lw_c2 (List.mem_of_getElem? (i := 44) (by decide +kernel)) rfl
theorem qm_yX6_ifStill : Cond.instanceMethod yX6_ifStill ∈ lw_all := lw_c2 (List.mem_of_getElem? (i := 45) (by decide +kernel)) rfl
theorem qs_yX6_ifStill : Cond.selects RX6 yX6_ifStill yX6_ifStill ∈ lw_all := lw_c2 (List.mem_of_getElem? (i := 46) (by decide +kernel)) rfl
theorem qc_yX6_ifStill : Cond.code yX6_ifStill cX6_ifStill 3 (some Jvm.ClassFile.FieldType.int) ∈ lw_all := lw_c2 (List.mem_of_getElem? (i := 47) (by decide +kernel)) rfl
theorem ql_RX6_183 : Cond.methodLink RX6 183 yX3_copyFrom ∈ lw_all := lw_c2 (List.mem_of_getElem? (i := 48) (by decide +kernel)) rfl
theorem qm_yX3_copyFrom : Cond.instanceMethod yX3_copyFrom ∈ lw_all := lw_c2 (List.mem_of_getElem? (i := 49) (by decide +kernel)) rfl
theorem qs_yX3_copyFrom : Cond.selects RX3 yX3_copyFrom yX3_copyFrom ∈ lw_all := lw_c2 (List.mem_of_getElem? (i := 50) (by decide +kernel)) rfl
theorem qc_yX3_copyFrom : Cond.code yX3_copyFrom cX3_copyFrom 3 none ∈ lw_all := lw_c2 (List.mem_of_getElem? (i := 51) (by decide +kernel)) rfl
theorem ql_RX3_57 : Cond.methodLink RX3 57 yX5_copyFrom ∈ lw_all := lw_c2 (List.mem_of_getElem? (i := 52) (by decide +kernel)) rfl
theorem qm_yX5_copyFrom : Cond.instanceMethod yX5_copyFrom ∈ lw_all := lw_c2 (List.mem_of_getElem? (i := 53) (by decide +kernel)) rfl
theorem qs_yX5_copyFrom : Cond.selects RX5 yX5_copyFrom yX5_copyFrom ∈ lw_all := lw_c2 (List.mem_of_getElem? (i := 54) (by decide +kernel)) rfl
theorem qc_yX5_copyFrom : Cond.code yX5_copyFrom cX5_copyFrom 2 none ∈ lw_all := lw_c2 (List.mem_of_getElem? (i := 55) (by decide +kernel)) rfl
theorem qt_yX6_copyInto : Cond.static yX6_copyInto ∈ lw_all := lw_c2 (List.mem_of_getElem? (i := 57) (by decide +kernel)) rfl
theorem qc_yX6_copyInto : Cond.code yX6_copyInto cX6_copyInto 3 none ∈ lw_all := lw_c2 (List.mem_of_getElem? (i := 58) (by decide +kernel)) rfl
theorem ql_RX6_77 : Cond.methodLink RX6 77 yX3_passHours ∈ lw_all := lw_c2 (List.mem_of_getElem? (i := 60) (by decide +kernel)) rfl
theorem qm_yX3_passHours : Cond.instanceMethod yX3_passHours ∈ lw_all := lw_c2 (List.mem_of_getElem? (i := 61) (by decide +kernel)) rfl
theorem qs_yX3_passHours : Cond.selects RX3 yX3_passHours yX3_passHours ∈ lw_all := lw_c2 (List.mem_of_getElem? (i := 62) (by decide +kernel)) rfl
theorem qc_yX3_passHours : Cond.code yX3_passHours cX3_passHours 5 none ∈ lw_all := lw_c2 (List.mem_of_getElem? (i := 63) (by decide +kernel)) rfl
theorem ql_RX3_93 : Cond.methodLink RX3 93 yJ9_min_7cf53 ∈ lw_all := lw_c2 (List.mem_of_getElem? (i := 64) (by decide +kernel)) rfl
theorem qt_yJ9_min_7cf53 : Cond.static yJ9_min_7cf53 ∈ lw_all := lw_c2 (List.mem_of_getElem? (i := 65) (by decide +kernel)) rfl
theorem qc_yJ9_min_7cf53 : Cond.code yJ9_min_7cf53 cJ9_min_7cf53 2 (some Jvm.ClassFile.FieldType.int) ∈ lw_all := lw_c2 (List.mem_of_getElem? (i := 66) (by decide +kernel)) rfl
theorem ql_RX3_98 : Cond.methodLink RX3 98 yJ9_max_7cf53 ∈ lw_all := lw_c2 (List.mem_of_getElem? (i := 67) (by decide +kernel)) rfl
theorem qt_yJ9_max_7cf53 : Cond.static yJ9_max_7cf53 ∈ lw_all := lw_c2 (List.mem_of_getElem? (i := 68) (by decide +kernel)) rfl
theorem qc_yJ9_max_7cf53 : Cond.code yJ9_max_7cf53 cJ9_max_7cf53 2 (some Jvm.ClassFile.FieldType.int) ∈ lw_all := lw_c2 (List.mem_of_getElem? (i := 69) (by decide +kernel)) rfl
theorem ql_RX3_101 : Cond.methodLink RX3 101 yX3_passHour ∈ lw_all := lw_c2 (List.mem_of_getElem? (i := 70) (by decide +kernel)) rfl
theorem qm_yX3_passHour : Cond.instanceMethod yX3_passHour ∈ lw_all := lw_c2 (List.mem_of_getElem? (i := 71) (by decide +kernel)) rfl
theorem qs_yX3_passHour : Cond.selects RX3 yX3_passHour yX3_passHour ∈ lw_all := lw_c2 (List.mem_of_getElem? (i := 72) (by decide +kernel)) rfl
theorem qc_yX3_passHour : Cond.code yX3_passHour cX3_passHour 3 (some Jvm.ClassFile.FieldType.int) ∈ lw_all := lw_c2 (List.mem_of_getElem? (i := 73) (by decide +kernel)) rfl
theorem ql_RX3_108 : Cond.methodLink RX3 108 yX5_follow ∈ lw_all := lw_c2 (List.mem_of_getElem? (i := 74) (by decide +kernel)) rfl
theorem qm_yX5_follow : Cond.instanceMethod yX5_follow ∈ lw_all := lw_c2 (List.mem_of_getElem? (i := 75) (by decide +kernel)) rfl
theorem qs_yX5_follow : Cond.selects RX5 yX5_follow yX5_follow ∈ lw_all := lw_c2 (List.mem_of_getElem? (i := 76) (by decide +kernel)) rfl
theorem qc_yX5_follow : Cond.code yX5_follow cX5_follow 2 none ∈ lw_all := lw_c2 (List.mem_of_getElem? (i := 77) (by decide +kernel)) rfl
theorem ql_RX5_59 : Cond.methodLink RX5 59 yX5_stepFrom ∈ lw_all := lw_c2 (List.mem_of_getElem? (i := 78) (by decide +kernel)) rfl
theorem qm_yX5_stepFrom : Cond.instanceMethod yX5_stepFrom ∈ lw_all := lw_c2 (List.mem_of_getElem? (i := 80) (by decide +kernel)) rfl
theorem qc_yX5_stepFrom : Cond.code yX5_stepFrom cX5_stepFrom 3 (some Jvm.ClassFile.FieldType.int) ∈ lw_all := lw_c2 (List.mem_of_getElem? (i := 81) (by decide +kernel)) rfl
theorem ql_RX3_112 : Cond.methodLink RX3 112 yX3_readRows ∈ lw_all := lw_c2 (List.mem_of_getElem? (i := 83) (by decide +kernel)) rfl
theorem qm_yX3_readRows : Cond.instanceMethod yX3_readRows ∈ lw_all := lw_c2 (List.mem_of_getElem? (i := 85) (by decide +kernel)) rfl
theorem qc_yX3_readRows : Cond.code yX3_readRows cX3_readRows 2 none ∈ lw_all := lw_c2 (List.mem_of_getElem? (i := 86) (by decide +kernel)) rfl
theorem ql_RX3_118 : Cond.methodLink RX3 118 yX3_isReadNow ∈ lw_all := lw_c2 (List.mem_of_getElem? (i := 87) (by decide +kernel)) rfl
theorem qm_yX3_isReadNow : Cond.instanceMethod yX3_isReadNow ∈ lw_all := lw_c2 (List.mem_of_getElem? (i := 89) (by decide +kernel)) rfl
theorem qc_yX3_isReadNow : Cond.code yX3_isReadNow cX3_isReadNow 2 (some Jvm.ClassFile.FieldType.boolean) ∈ lw_all := lw_c2 (List.mem_of_getElem? (i := 90) (by decide +kernel)) rfl
theorem ql_RX3_122 : Cond.methodLink RX3 122 yX5_takeReading ∈ lw_all := lw_c2 (List.mem_of_getElem? (i := 91) (by decide +kernel)) rfl
theorem qm_yX5_takeReading : Cond.instanceMethod yX5_takeReading ∈ lw_all := lw_c2 (List.mem_of_getElem? (i := 92) (by decide +kernel)) rfl
theorem qs_yX5_takeReading : Cond.selects RX5 yX5_takeReading yX5_takeReading ∈ lw_all := lw_c2 (List.mem_of_getElem? (i := 93) (by decide +kernel)) rfl
theorem qc_yX5_takeReading : Cond.code yX5_takeReading cX5_takeReading 2 none ∈ lw_all := lw_c2 (List.mem_of_getElem? (i := 94) (by decide +kernel)) rfl
theorem qt_yX6_putFirst : Cond.static yX6_putFirst ∈ lw_all := lw_c2 (List.mem_of_getElem? (i := 96) (by decide +kernel)) rfl
theorem qc_yX6_putFirst : Cond.code yX6_putFirst cX6_putFirst 3 none ∈ lw_all := lw_c2 (List.mem_of_getElem? (i := 97) (by decide +kernel)) rfl
theorem ql_RX5_71 : Cond.methodLink RX5 71 yJ9_min_7cf53 ∈ lw_all := lw_c2 (List.mem_of_getElem? (i := 98) (by decide +kernel)) rfl
theorem ql_RX5_76 : Cond.methodLink RX5 76 yX5_mendedWith ∈ lw_all := lw_c2 (List.mem_of_getElem? (i := 99) (by decide +kernel)) rfl
theorem qm_yX5_mendedWith : Cond.instanceMethod yX5_mendedWith ∈ lw_all := lw_c2 (List.mem_of_getElem? (i := 100) (by decide +kernel)) rfl
theorem qs_yX5_mendedWith : Cond.selects RX5 yX5_mendedWith yX5_mendedWith ∈ lw_all := lw_c2 (List.mem_of_getElem? (i := 101) (by decide +kernel)) rfl
theorem qc_yX5_mendedWith : Cond.code yX5_mendedWith cX5_mendedWith 5 (some Jvm.ClassFile.FieldType.int) ∈ lw_all := lw_c2 (List.mem_of_getElem? (i := 102) (by decide +kernel)) rfl
theorem ql_RX3_115 : Cond.methodLink RX3 115 yX3_lookForSpikes ∈ lw_all := lw_c2 (List.mem_of_getElem? (i := 103) (by decide +kernel)) rfl
theorem qm_yX3_lookForSpikes : Cond.instanceMethod yX3_lookForSpikes ∈ lw_all := lw_c2 (List.mem_of_getElem? (i := 105) (by decide +kernel)) rfl
theorem qc_yX3_lookForSpikes : Cond.code yX3_lookForSpikes cX3_lookForSpikes 2 none ∈ lw_all := lw_c2 (List.mem_of_getElem? (i := 106) (by decide +kernel)) rfl
theorem ql_RX3_125 : Cond.methodLink RX3 125 yX3_maskOfAsked ∈ lw_all := lw_c2 (List.mem_of_getElem? (i := 107) (by decide +kernel)) rfl
theorem ql_RX3_128 : Cond.methodLink RX3 128 yJ6_bitCount_0f7a4 ∈ lw_all := lw_c2 (List.mem_of_getElem? (i := 108) (by decide +kernel)) rfl
theorem qt_yJ6_bitCount_0f7a4 : Cond.static yJ6_bitCount_0f7a4 ∈ lw_all := lw_c2 (List.mem_of_getElem? (i := 109) (by decide +kernel)) rfl
theorem qc_yJ6_bitCount_0f7a4 : Cond.code yJ6_bitCount_0f7a4 cJ6_bitCount_0f7a4 1 (some Jvm.ClassFile.FieldType.int) ∈ lw_all := lw_c2 (List.mem_of_getElem? (i := 110) (by decide +kernel)) rfl
theorem qn_RJ6_265 : Cond.constant RJ6 265 (1431655765) ∈ lw_all := lw_c2 (List.mem_of_getElem? (i := 111) (by decide +kernel)) rfl
theorem qn_RJ6_266 : Cond.constant RJ6 266 (858993459) ∈ lw_all := lw_c2 (List.mem_of_getElem? (i := 112) (by decide +kernel)) rfl
theorem qn_RJ6_267 : Cond.constant RJ6 267 (252645135) ∈ lw_all := lw_c2 (List.mem_of_getElem? (i := 113) (by decide +kernel)) rfl
theorem ql_RX3_133 : Cond.methodLink RX3 133 yX5_isAskedAndReadIn ∈ lw_all := lw_c2 (List.mem_of_getElem? (i := 114) (by decide +kernel)) rfl
theorem qm_yX5_isAskedAndReadIn : Cond.instanceMethod yX5_isAskedAndReadIn ∈ lw_all := lw_c2 (List.mem_of_getElem? (i := 115) (by decide +kernel)) rfl
theorem qs_yX5_isAskedAndReadIn : Cond.selects RX5 yX5_isAskedAndReadIn yX5_isAskedAndReadIn ∈ lw_all := lw_c2 (List.mem_of_getElem? (i := 116) (by decide +kernel)) rfl
theorem qc_yX5_isAskedAndReadIn : Cond.code yX5_isAskedAndReadIn cX5_isAskedAndReadIn 2 (some Jvm.ClassFile.FieldType.boolean) ∈ lw_all := lw_c2 (List.mem_of_getElem? (i := 117) (by decide +kernel)) rfl
theorem ql_RX5_84 : Cond.methodLink RX5 84 yX5_isAsked ∈ lw_all := lw_c2 (List.mem_of_getElem? (i := 118) (by decide +kernel)) rfl
theorem ql_RX5_88 : Cond.methodLink RX5 88 yX5_hourAgo ∈ lw_all := lw_c2 (List.mem_of_getElem? (i := 119) (by decide +kernel)) rfl
theorem ql_RX3_136 : Cond.methodLink RX3 136 yX3_compareWithOthers ∈ lw_all := lw_c2 (List.mem_of_getElem? (i := 120) (by decide +kernel)) rfl
theorem qm_yX3_compareWithOthers : Cond.instanceMethod yX3_compareWithOthers ∈ lw_all := lw_c2 (List.mem_of_getElem? (i := 122) (by decide +kernel)) rfl
theorem qc_yX3_compareWithOthers : Cond.code yX3_compareWithOthers cX3_compareWithOthers 3 none ∈ lw_all := lw_c2 (List.mem_of_getElem? (i := 123) (by decide +kernel)) rfl
theorem ql_RX3_143 : Cond.methodLink RX3 143 yX3_middleWithout ∈ lw_all := lw_c2 (List.mem_of_getElem? (i := 124) (by decide +kernel)) rfl
theorem ql_RX3_146 : Cond.methodLink RX3 146 yX5_compareWith ∈ lw_all := lw_c2 (List.mem_of_getElem? (i := 125) (by decide +kernel)) rfl
theorem qm_yX5_compareWith : Cond.instanceMethod yX5_compareWith ∈ lw_all := lw_c2 (List.mem_of_getElem? (i := 126) (by decide +kernel)) rfl
theorem qs_yX5_compareWith : Cond.selects RX5 yX5_compareWith yX5_compareWith ∈ lw_all := lw_c2 (List.mem_of_getElem? (i := 127) (by decide +kernel)) rfl
theorem qc_yX5_compareWith : Cond.code yX5_compareWith cX5_compareWith 3 none ∈ lw_all := lw_c2 (List.mem_of_getElem? (i := 128) (by decide +kernel)) rfl
theorem ql_RX3_139 : Cond.methodLink RX3 139 yX5_shutOutFrom ∈ lw_all := lw_c2 (List.mem_of_getElem? (i := 129) (by decide +kernel)) rfl
theorem qm_yX5_shutOutFrom : Cond.instanceMethod yX5_shutOutFrom ∈ lw_all := lw_c2 (List.mem_of_getElem? (i := 130) (by decide +kernel)) rfl
theorem qs_yX5_shutOutFrom : Cond.selects RX5 yX5_shutOutFrom yX5_shutOutFrom ∈ lw_all := lw_c2 (List.mem_of_getElem? (i := 131) (by decide +kernel)) rfl
theorem qc_yX5_shutOutFrom : Cond.code yX5_shutOutFrom cX5_shutOutFrom 2 none ∈ lw_all := lw_c2 (List.mem_of_getElem? (i := 132) (by decide +kernel)) rfl
theorem ql_RX6_242 : Cond.methodLink RX6 242 yX3_greatestDistance ∈ lw_all := lw_c2 (List.mem_of_getElem? (i := 133) (by decide +kernel)) rfl
theorem qm_yX3_greatestDistance : Cond.instanceMethod yX3_greatestDistance ∈ lw_all := lw_c2 (List.mem_of_getElem? (i := 134) (by decide +kernel)) rfl
theorem qs_yX3_greatestDistance : Cond.selects RX3 yX3_greatestDistance yX3_greatestDistance ∈ lw_all := lw_c2 (List.mem_of_getElem? (i := 135) (by decide +kernel)) rfl
theorem qc_yX3_greatestDistance : Cond.code yX3_greatestDistance cX3_greatestDistance 3 (some Jvm.ClassFile.FieldType.int) ∈ lw_all := lw_c2 (List.mem_of_getElem? (i := 136) (by decide +kernel)) rfl
theorem ql_RX3_188 : Cond.methodLink RX3 188 yX5_distance ∈ lw_all := lw_c2 (List.mem_of_getElem? (i := 137) (by decide +kernel)) rfl
theorem qm_yX5_distance : Cond.instanceMethod yX5_distance ∈ lw_all := lw_c2 (List.mem_of_getElem? (i := 138) (by decide +kernel)) rfl
theorem qs_yX5_distance : Cond.selects RX5 yX5_distance yX5_distance ∈ lw_all := lw_c2 (List.mem_of_getElem? (i := 139) (by decide +kernel)) rfl
theorem qc_yX5_distance : Cond.code yX5_distance cX5_distance 2 (some Jvm.ClassFile.FieldType.int) ∈ lw_all := lw_c2 (List.mem_of_getElem? (i := 140) (by decide +kernel)) rfl
theorem ql_RL_135 : Cond.methodLink RL 135 yL_wouldOne ∈ lw_all := lw_c2 (List.mem_of_getElem? (i := 141) (by decide +kernel)) rfl
theorem qt_yL_wouldOne : Cond.static yL_wouldOne ∈ lw_all := lw_c2 (List.mem_of_getElem? (i := 142) (by decide +kernel)) rfl
theorem qc_yL_wouldOne : Cond.code yL_wouldOne cL_wouldOne 12 (some Jvm.ClassFile.FieldType.boolean) ∈ lw_all := lw_c2 (List.mem_of_getElem? (i := 143) (by decide +kernel)) rfl
theorem ql_RL_77 : Cond.methodLink RL 77 yX6_ifLag ∈ lw_all := lw_c2 (List.mem_of_getElem? (i := 144) (by decide +kernel)) rfl
theorem qm_yX6_ifLag : Cond.instanceMethod yX6_ifLag ∈ lw_all := lw_c2 (List.mem_of_getElem? (i := 145) (by decide +kernel)) rfl
theorem qs_yX6_ifLag : Cond.selects RX6 yX6_ifLag yX6_ifLag ∈ lw_all := lw_c2 (List.mem_of_getElem? (i := 146) (by decide +kernel)) rfl
theorem qc_yX6_ifLag : Cond.code yX6_ifLag cX6_ifLag 3 (some Jvm.ClassFile.FieldType.int) ∈ lw_all := lw_c2 (List.mem_of_getElem? (i := 147) (by decide +kernel)) rfl
theorem ql_RX6_236 : Cond.methodLink RX6 236 yX5_mendedWith ∈ lw_all := lw_c2 (List.mem_of_getElem? (i := 148) (by decide +kernel)) rfl
theorem ql_RL_80 : Cond.methodLink RL 80 yX6_bestLag ∈ lw_all := lw_c2 (List.mem_of_getElem? (i := 149) (by decide +kernel)) rfl
theorem qm_yX6_bestLag : Cond.instanceMethod yX6_bestLag ∈ lw_all := lw_c2 (List.mem_of_getElem? (i := 150) (by decide +kernel)) rfl
theorem qs_yX6_bestLag : Cond.selects RX6 yX6_bestLag yX6_bestLag ∈ lw_all := lw_c2 (List.mem_of_getElem? (i := 151) (by decide +kernel)) rfl
theorem qc_yX6_bestLag : Cond.code yX6_bestLag cX6_bestLag 2 (some Jvm.ClassFile.FieldType.int) ∈ lw_all := lw_c2 (List.mem_of_getElem? (i := 152) (by decide +kernel)) rfl
theorem ql_RX6_239 : Cond.methodLink RX6 239 yX5_lagNearestTo ∈ lw_all := lw_c2 (List.mem_of_getElem? (i := 153) (by decide +kernel)) rfl
theorem qm_yX5_lagNearestTo : Cond.instanceMethod yX5_lagNearestTo ∈ lw_all := lw_c2 (List.mem_of_getElem? (i := 154) (by decide +kernel)) rfl
theorem qs_yX5_lagNearestTo : Cond.selects RX5 yX5_lagNearestTo yX5_lagNearestTo ∈ lw_all := lw_c2 (List.mem_of_getElem? (i := 155) (by decide +kernel)) rfl
theorem qc_yX5_lagNearestTo : Cond.code yX5_lagNearestTo cX5_lagNearestTo 6 (some Jvm.ClassFile.FieldType.int) ∈ lw_all := lw_c2 (List.mem_of_getElem? (i := 156) (by decide +kernel)) rfl
theorem ql_RX5_91 : Cond.methodLink RX5 91 yX5_hasMended ∈ lw_all := lw_c2 (List.mem_of_getElem? (i := 157) (by decide +kernel)) rfl
theorem ql_RL_83 : Cond.methodLink RL 83 yX6_stillIn ∈ lw_all := lw_c2 (List.mem_of_getElem? (i := 158) (by decide +kernel)) rfl
theorem qm_yX6_stillIn : Cond.instanceMethod yX6_stillIn ∈ lw_all := lw_c2 (List.mem_of_getElem? (i := 159) (by decide +kernel)) rfl
theorem qs_yX6_stillIn : Cond.selects RX6 yX6_stillIn yX6_stillIn ∈ lw_all := lw_c2 (List.mem_of_getElem? (i := 160) (by decide +kernel)) rfl
theorem qc_yX6_stillIn : Cond.code yX6_stillIn cX6_stillIn 2 (some Jvm.ClassFile.FieldType.int) ∈ lw_all := lw_c2 (List.mem_of_getElem? (i := 161) (by decide +kernel)) rfl
theorem ql_RX6_245 : Cond.methodLink RX6 245 yX5_hoursUntilStill ∈ lw_all := lw_c2 (List.mem_of_getElem? (i := 162) (by decide +kernel)) rfl
theorem qm_yX5_hoursUntilStill : Cond.instanceMethod yX5_hoursUntilStill ∈ lw_all := lw_c2 (List.mem_of_getElem? (i := 163) (by decide +kernel)) rfl
theorem qs_yX5_hoursUntilStill : Cond.selects RX5 yX5_hoursUntilStill yX5_hoursUntilStill ∈ lw_all := lw_c2 (List.mem_of_getElem? (i := 164) (by decide +kernel)) rfl
theorem qc_yX5_hoursUntilStill : Cond.code yX5_hoursUntilStill cX5_hoursUntilStill 5 (some Jvm.ClassFile.FieldType.int) ∈ lw_all := lw_c2 (List.mem_of_getElem? (i := 165) (by decide +kernel)) rfl
theorem qn_RX5_66 : Cond.constant RX5 66 (100000) ∈ lw_all := lw_c2 (List.mem_of_getElem? (i := 166) (by decide +kernel)) rfl
theorem ql_RL_93 : Cond.methodLink RL 93 yL_adds ∈ lw_all := lw_c2 (List.mem_of_getElem? (i := 167) (by decide +kernel)) rfl
theorem qt_yL_adds : Cond.static yL_adds ∈ lw_all := lw_c2 (List.mem_of_getElem? (i := 168) (by decide +kernel)) rfl
theorem qc_yL_adds : Cond.code yL_adds cL_adds 6 (some Jvm.ClassFile.FieldType.boolean) ∈ lw_all := lw_c2 (List.mem_of_getElem? (i := 169) (by decide +kernel)) rfl
theorem ql_RL_89 : Cond.methodLink RL 89 yX6_thermometer ∈ lw_all := lw_c2 (List.mem_of_getElem? (i := 170) (by decide +kernel)) rfl
theorem qm_yX6_thermometer : Cond.instanceMethod yX6_thermometer ∈ lw_all := lw_c2 (List.mem_of_getElem? (i := 171) (by decide +kernel)) rfl
theorem qs_yX6_thermometer : Cond.selects RX6 yX6_thermometer yX6_thermometer ∈ lw_all := lw_c2 (List.mem_of_getElem? (i := 172) (by decide +kernel)) rfl
theorem qc_yX6_thermometer : Cond.code yX6_thermometer cX6_thermometer 5 (some Jvm.ClassFile.FieldType.int) ∈ lw_all := lw_c2 (List.mem_of_getElem? (i := 173) (by decide +kernel)) rfl
theorem ql_RX6_51 : Cond.methodLink RX6 51 yX3_hasRoom ∈ lw_all := lw_c2 (List.mem_of_getElem? (i := 174) (by decide +kernel)) rfl
theorem qm_yX3_hasRoom : Cond.instanceMethod yX3_hasRoom ∈ lw_all := lw_c2 (List.mem_of_getElem? (i := 175) (by decide +kernel)) rfl
theorem qs_yX3_hasRoom : Cond.selects RX3 yX3_hasRoom yX3_hasRoom ∈ lw_all := lw_c2 (List.mem_of_getElem? (i := 176) (by decide +kernel)) rfl
theorem qc_yX3_hasRoom : Cond.code yX3_hasRoom cX3_hasRoom 1 (some Jvm.ClassFile.FieldType.boolean) ∈ lw_all := lw_c2 (List.mem_of_getElem? (i := 177) (by decide +kernel)) rfl
theorem qk_RX6_55 : Cond.classLink RX6 55 "java/lang/IllegalStateException" ∈ lw_all := lw_c2 (List.mem_of_getElem? (i := 178) (by decide +kernel)) rfl
theorem qr_RX6_57 : Cond.stringRef RX6 57 "there are 10 thermometers" ∈ lw_tbl := lw_n2 (List.mem_of_getElem? (i := 187) (by decide +kernel))
theorem ql_RX6_62 : Cond.methodLink RX6 62 yX1_save ∈ lw_all := lw_c2 (List.mem_of_getElem? (i := 194) (by decide +kernel)) rfl
theorem qm_yX1_save : Cond.instanceMethod yX1_save ∈ lw_all := lw_c2 (List.mem_of_getElem? (i := 195) (by decide +kernel)) rfl
theorem qs_yX1_save : Cond.selects RX1 yX1_save yX1_save ∈ lw_all := lw_c2 (List.mem_of_getElem? (i := 196) (by decide +kernel)) rfl
theorem qc_yX1_save : Cond.code yX1_save cX1_save 2 none ∈ lw_all := lw_c2 (List.mem_of_getElem? (i := 197) (by decide +kernel)) rfl
theorem ql_RX1_26 : Cond.methodLink RX1 26 yX1_stateAt ∈ lw_all := lw_c2 (List.mem_of_getElem? (i := 198) (by decide +kernel)) rfl
theorem qm_yX1_stateAt : Cond.instanceMethod yX1_stateAt ∈ lw_all := lw_c2 (List.mem_of_getElem? (i := 200) (by decide +kernel)) rfl
theorem qc_yX1_stateAt : Cond.code yX1_stateAt cX1_stateAt 3 (some (Jvm.ClassFile.FieldType.object "LateThermometers$Place")) ∈ lw_all := lw_c2 (List.mem_of_getElem? (i := 201) (by decide +kernel)) rfl
theorem ql_RX1_30 : Cond.methodLink RX1 30 yX3_copyFrom ∈ lw_all := lw_c2 (List.mem_of_getElem? (i := 202) (by decide +kernel)) rfl
theorem ql_RX1_37 : Cond.methodLink RX1 37 yJ9_min_7cf53 ∈ lw_all := lw_c2 (List.mem_of_getElem? (i := 203) (by decide +kernel)) rfl
theorem ql_RX6_66 : Cond.methodLink RX6 66 yX3_add ∈ lw_all := lw_c2 (List.mem_of_getElem? (i := 204) (by decide +kernel)) rfl
theorem qm_yX3_add : Cond.instanceMethod yX3_add ∈ lw_all := lw_c2 (List.mem_of_getElem? (i := 205) (by decide +kernel)) rfl
theorem qs_yX3_add : Cond.selects RX3 yX3_add yX3_add ∈ lw_all := lw_c2 (List.mem_of_getElem? (i := 206) (by decide +kernel)) rfl
theorem qc_yX3_add : Cond.code yX3_add cX3_add 6 (some Jvm.ClassFile.FieldType.int) ∈ lw_all := lw_c2 (List.mem_of_getElem? (i := 207) (by decide +kernel)) rfl
theorem ql_RX3_74 : Cond.methodLink RX3 74 yX5_begin ∈ lw_all := lw_c2 (List.mem_of_getElem? (i := 208) (by decide +kernel)) rfl
theorem qm_yX5_begin : Cond.instanceMethod yX5_begin ∈ lw_all := lw_c2 (List.mem_of_getElem? (i := 209) (by decide +kernel)) rfl
theorem qs_yX5_begin : Cond.selects RX5 yX5_begin yX5_begin ∈ lw_all := lw_c2 (List.mem_of_getElem? (i := 210) (by decide +kernel)) rfl
theorem qc_yX5_begin : Cond.code yX5_begin cX5_begin 6 none ∈ lw_all := lw_c2 (List.mem_of_getElem? (i := 211) (by decide +kernel)) rfl
theorem ql_RX5_38 : Cond.methodLink RX5 38 yX5_startAfresh ∈ lw_all := lw_c2 (List.mem_of_getElem? (i := 212) (by decide +kernel)) rfl
theorem qm_yX5_startAfresh : Cond.instanceMethod yX5_startAfresh ∈ lw_all := lw_c2 (List.mem_of_getElem? (i := 213) (by decide +kernel)) rfl
theorem qs_yX5_startAfresh : Cond.selects RX5 yX5_startAfresh yX5_startAfresh ∈ lw_all := lw_c2 (List.mem_of_getElem? (i := 214) (by decide +kernel)) rfl
theorem qc_yX5_startAfresh : Cond.code yX5_startAfresh cX5_startAfresh 2 none ∈ lw_all := lw_c2 (List.mem_of_getElem? (i := 215) (by decide +kernel)) rfl
theorem ql_RL_127 : Cond.methodLink RL 127 yL_acts ∈ lw_all := lw_c2 (List.mem_of_getElem? (i := 216) (by decide +kernel)) rfl
theorem qt_yL_acts : Cond.static yL_acts ∈ lw_all := lw_c2 (List.mem_of_getElem? (i := 217) (by decide +kernel)) rfl
theorem qc_yL_acts : Cond.code yL_acts cL_acts 19 (some Jvm.ClassFile.FieldType.boolean) ∈ lw_all := lw_c2 (List.mem_of_getElem? (i := 218) (by decide +kernel)) rfl
theorem ql_RL_97 : Cond.methodLink RL 97 yX6_period ∈ lw_all := lw_c2 (List.mem_of_getElem? (i := 219) (by decide +kernel)) rfl
theorem qm_yX6_period : Cond.instanceMethod yX6_period ∈ lw_all := lw_c2 (List.mem_of_getElem? (i := 220) (by decide +kernel)) rfl
theorem qs_yX6_period : Cond.selects RX6 yX6_period yX6_period ∈ lw_all := lw_c2 (List.mem_of_getElem? (i := 221) (by decide +kernel)) rfl
theorem qc_yX6_period : Cond.code yX6_period cX6_period 4 (some Jvm.ClassFile.FieldType.int) ∈ lw_all := lw_c2 (List.mem_of_getElem? (i := 222) (by decide +kernel)) rfl
theorem ql_RX6_88 : Cond.methodLink RX6 88 yX3_changePeriod ∈ lw_all := lw_c2 (List.mem_of_getElem? (i := 223) (by decide +kernel)) rfl
theorem qm_yX3_changePeriod : Cond.instanceMethod yX3_changePeriod ∈ lw_all := lw_c2 (List.mem_of_getElem? (i := 224) (by decide +kernel)) rfl
theorem qs_yX3_changePeriod : Cond.selects RX3 yX3_changePeriod yX3_changePeriod ∈ lw_all := lw_c2 (List.mem_of_getElem? (i := 225) (by decide +kernel)) rfl
theorem qc_yX3_changePeriod : Cond.code yX3_changePeriod cX3_changePeriod 3 none ∈ lw_all := lw_c2 (List.mem_of_getElem? (i := 226) (by decide +kernel)) rfl
theorem ql_RL_100 : Cond.methodLink RL 100 yX6_calibrate ∈ lw_all := lw_c2 (List.mem_of_getElem? (i := 227) (by decide +kernel)) rfl
theorem qm_yX6_calibrate : Cond.instanceMethod yX6_calibrate ∈ lw_all := lw_c2 (List.mem_of_getElem? (i := 228) (by decide +kernel)) rfl
theorem qs_yX6_calibrate : Cond.selects RX6 yX6_calibrate yX6_calibrate ∈ lw_all := lw_c2 (List.mem_of_getElem? (i := 229) (by decide +kernel)) rfl
theorem qc_yX6_calibrate : Cond.code yX6_calibrate cX6_calibrate 3 (some Jvm.ClassFile.FieldType.int) ∈ lw_all := lw_c2 (List.mem_of_getElem? (i := 230) (by decide +kernel)) rfl
theorem ql_RX6_103 : Cond.methodLink RX6 103 yX5_startAfresh ∈ lw_all := lw_c2 (List.mem_of_getElem? (i := 231) (by decide +kernel)) rfl
theorem ql_RL_103 : Cond.methodLink RL 103 yX6_knock ∈ lw_all := lw_c2 (List.mem_of_getElem? (i := 232) (by decide +kernel)) rfl
theorem qm_yX6_knock : Cond.instanceMethod yX6_knock ∈ lw_all := lw_c2 (List.mem_of_getElem? (i := 233) (by decide +kernel)) rfl
theorem qs_yX6_knock : Cond.selects RX6 yX6_knock yX6_knock ∈ lw_all := lw_c2 (List.mem_of_getElem? (i := 234) (by decide +kernel)) rfl
theorem qc_yX6_knock : Cond.code yX6_knock cX6_knock 4 (some Jvm.ClassFile.FieldType.int) ∈ lw_all := lw_c2 (List.mem_of_getElem? (i := 235) (by decide +kernel)) rfl
theorem qr_RX6_109 : Cond.stringRef RX6 109 "no thermometer shows this" ∈ lw_tbl := lw_n2 (List.mem_of_getElem? (i := 236) (by decide +kernel))
theorem qn_RX6_111 : Cond.constant RX6 111 (100000) ∈ lw_all := lw_c2 (List.mem_of_getElem? (i := 237) (by decide +kernel)) rfl
theorem qn_RL_106 : Cond.constant RL 106 (100000) ∈ lw_all := lw_c2 (List.mem_of_getElem? (i := 238) (by decide +kernel)) rfl
theorem ql_RL_107 : Cond.methodLink RL 107 yX6_set ∈ lw_all := lw_c2 (List.mem_of_getElem? (i := 239) (by decide +kernel)) rfl
theorem qm_yX6_set : Cond.instanceMethod yX6_set ∈ lw_all := lw_c3 (List.mem_of_getElem? (i := 0) (by decide +kernel)) rfl
theorem qs_yX6_set : Cond.selects RX6 yX6_set yX6_set ∈ lw_all := lw_c3 (List.mem_of_getElem? (i := 1) (by decide +kernel)) rfl
theorem qc_yX6_set : Cond.code yX6_set cX6_set 4 (some Jvm.ClassFile.FieldType.int) ∈ lw_all := lw_c3 (List.mem_of_getElem? (i := 2) (by decide +kernel)) rfl
theorem qr_RX6_114 : Cond.stringRef RX6 114 "there is no such setting" ∈ lw_tbl := lw_n3 (List.mem_of_getElem? (i := 3) (by decide +kernel))
theorem ql_RL_110 : Cond.methodLink RL 110 yX6_hours ∈ lw_all := lw_c3 (List.mem_of_getElem? (i := 4) (by decide +kernel)) rfl
theorem qm_yX6_hours : Cond.instanceMethod yX6_hours ∈ lw_all := lw_c3 (List.mem_of_getElem? (i := 5) (by decide +kernel)) rfl
theorem qs_yX6_hours : Cond.selects RX6 yX6_hours yX6_hours ∈ lw_all := lw_c3 (List.mem_of_getElem? (i := 6) (by decide +kernel)) rfl
theorem qc_yX6_hours : Cond.code yX6_hours cX6_hours 3 (some Jvm.ClassFile.FieldType.int) ∈ lw_all := lw_c3 (List.mem_of_getElem? (i := 7) (by decide +kernel)) rfl
theorem ql_RX6_70 : Cond.methodLink RX6 70 yX6_checkHoursLeft ∈ lw_all := lw_c3 (List.mem_of_getElem? (i := 8) (by decide +kernel)) rfl
theorem qm_yX6_checkHoursLeft : Cond.instanceMethod yX6_checkHoursLeft ∈ lw_all := lw_c3 (List.mem_of_getElem? (i := 10) (by decide +kernel)) rfl
theorem qc_yX6_checkHoursLeft : Cond.code yX6_checkHoursLeft cX6_checkHoursLeft 2 none ∈ lw_all := lw_c3 (List.mem_of_getElem? (i := 11) (by decide +kernel)) rfl
theorem ql_RX6_266 : Cond.methodLink RX6 266 yX3_hasHoursLeft ∈ lw_all := lw_c3 (List.mem_of_getElem? (i := 12) (by decide +kernel)) rfl
theorem qm_yX3_hasHoursLeft : Cond.instanceMethod yX3_hasHoursLeft ∈ lw_all := lw_c3 (List.mem_of_getElem? (i := 13) (by decide +kernel)) rfl
theorem qs_yX3_hasHoursLeft : Cond.selects RX3 yX3_hasHoursLeft yX3_hasHoursLeft ∈ lw_all := lw_c3 (List.mem_of_getElem? (i := 14) (by decide +kernel)) rfl
theorem qc_yX3_hasHoursLeft : Cond.code yX3_hasHoursLeft cX3_hasHoursLeft 2 (some Jvm.ClassFile.FieldType.boolean) ∈ lw_all := lw_c3 (List.mem_of_getElem? (i := 15) (by decide +kernel)) rfl
theorem qr_RX6_269 : Cond.stringRef RX6 269 "the hour would be greater than 9999" ∈ lw_tbl := lw_n3 (List.mem_of_getElem? (i := 16) (by decide +kernel))
theorem ql_RL_113 : Cond.methodLink RL 113 yX6_hour ∈ lw_all := lw_c3 (List.mem_of_getElem? (i := 17) (by decide +kernel)) rfl
theorem qm_yX6_hour : Cond.instanceMethod yX6_hour ∈ lw_all := lw_c3 (List.mem_of_getElem? (i := 18) (by decide +kernel)) rfl
theorem qs_yX6_hour : Cond.selects RX6 yX6_hour yX6_hour ∈ lw_all := lw_c3 (List.mem_of_getElem? (i := 19) (by decide +kernel)) rfl
theorem qc_yX6_hour : Cond.code yX6_hour cX6_hour 2 (some Jvm.ClassFile.FieldType.int) ∈ lw_all := lw_c3 (List.mem_of_getElem? (i := 20) (by decide +kernel)) rfl
theorem ql_RX6_73 : Cond.methodLink RX6 73 yX3_passHour ∈ lw_all := lw_c3 (List.mem_of_getElem? (i := 21) (by decide +kernel)) rfl
theorem qs_yX6_checkThermometer : Cond.selects RX6 yX6_checkThermometer yX6_checkThermometer ∈ lw_all := lw_sel (n := 6) (by unfold lw_privs lw_privs_1; exact List.mem_of_getElem? (i := 1) rfl)
theorem qs_yX3_countAheadOf : Cond.selects RX3 yX3_countAheadOf yX3_countAheadOf ∈ lw_all := lw_sel (n := 13) (by unfold lw_privs lw_privs_1; exact List.mem_of_getElem? (i := 2) rfl)
theorem qs_yX3_sortKey : Cond.selects RX3 yX3_sortKey yX3_sortKey ∈ lw_all := lw_sel (n := 13) (by unfold lw_privs lw_privs_1; exact List.mem_of_getElem? (i := 3) rfl)
theorem qs_yX5_stepFrom : Cond.selects RX5 yX5_stepFrom yX5_stepFrom ∈ lw_all := lw_sel (n := 12) (by unfold lw_privs lw_privs_1; exact List.mem_of_getElem? (i := 4) rfl)
theorem qs_yX3_readRows : Cond.selects RX3 yX3_readRows yX3_readRows ∈ lw_all := lw_sel (n := 13) (by unfold lw_privs lw_privs_1; exact List.mem_of_getElem? (i := 5) rfl)
theorem qs_yX3_isReadNow : Cond.selects RX3 yX3_isReadNow yX3_isReadNow ∈ lw_all := lw_sel (n := 13) (by unfold lw_privs lw_privs_1; exact List.mem_of_getElem? (i := 6) rfl)
theorem qs_yX3_lookForSpikes : Cond.selects RX3 yX3_lookForSpikes yX3_lookForSpikes ∈ lw_all := lw_sel (n := 13) (by unfold lw_privs lw_privs_1; exact List.mem_of_getElem? (i := 7) rfl)
theorem qs_yX3_compareWithOthers : Cond.selects RX3 yX3_compareWithOthers yX3_compareWithOthers ∈ lw_all := lw_sel (n := 13) (by unfold lw_privs lw_privs_1; exact List.mem_of_getElem? (i := 8) rfl)
theorem qs_yX1_stateAt : Cond.selects RX1 yX1_stateAt yX1_stateAt ∈ lw_all := lw_sel (n := 4) (by unfold lw_privs lw_privs_1; exact List.mem_of_getElem? (i := 9) rfl)
theorem qs_yX6_checkHoursLeft : Cond.selects RX6 yX6_checkHoursLeft yX6_checkHoursLeft ∈ lw_all := lw_sel (n := 6) (by unfold lw_privs lw_privs_1; exact List.mem_of_getElem? (i := 10) rfl)
theorem qu_0 : ∀ w ∈ u_ws RX0 TX0 2, w ∈ lw_all := by
  intro w h
  have e : u_ws RX0 TX0 2 = [u_lay RX0 TX0 0, u_lay RX0 TX0 1] := rfl
  rw [e] at h
  simp only [List.mem_cons, List.not_mem_nil, or_false] at h
  rcases h with rfl | rfl
  · exact lw_c0 (List.mem_of_getElem? (i := 91) (by decide +kernel)) rfl
  · exact lw_c0 (List.mem_of_getElem? (i := 93) (by decide +kernel)) rfl
theorem qu_1 : ∀ w ∈ u_ws RX1 TX1 4, w ∈ lw_all := by
  intro w h
  have e : u_ws RX1 TX1 4 = [u_lay RX1 TX1 0, u_lay RX1 TX1 1, u_lay RX1 TX1 2, u_lay RX1 TX1 3] := rfl
  rw [e] at h
  simp only [List.mem_cons, List.not_mem_nil, or_false] at h
  rcases h with rfl | rfl | rfl | rfl
  · exact lw_c0 (List.mem_of_getElem? (i := 158) (by decide +kernel)) rfl
  · exact lw_c0 (List.mem_of_getElem? (i := 160) (by decide +kernel)) rfl
  · exact lw_c0 (List.mem_of_getElem? (i := 162) (by decide +kernel)) rfl
  · exact lw_c0 (List.mem_of_getElem? (i := 164) (by decide +kernel)) rfl
theorem qu_2 : ∀ w ∈ u_ws RX2 TX2 8, w ∈ lw_all := by
  intro w h
  have e : u_ws RX2 TX2 8 = [u_lay RX2 TX2 0, u_lay RX2 TX2 1, u_lay RX2 TX2 2, u_lay RX2 TX2 3, u_lay RX2 TX2 4, u_lay RX2 TX2 5, u_lay RX2 TX2 6, u_lay RX2 TX2 7] := rfl
  rw [e] at h
  simp only [List.mem_cons, List.not_mem_nil, or_false] at h
  rcases h with rfl | rfl | rfl | rfl | rfl | rfl | rfl | rfl
  · exact lw_c0 (List.mem_of_getElem? (i := 189) (by decide +kernel)) rfl
  · exact lw_c0 (List.mem_of_getElem? (i := 191) (by decide +kernel)) rfl
  · exact lw_c0 (List.mem_of_getElem? (i := 193) (by decide +kernel)) rfl
  · exact lw_c0 (List.mem_of_getElem? (i := 195) (by decide +kernel)) rfl
  · exact lw_c0 (List.mem_of_getElem? (i := 197) (by decide +kernel)) rfl
  · exact lw_c0 (List.mem_of_getElem? (i := 199) (by decide +kernel)) rfl
  · exact lw_c0 (List.mem_of_getElem? (i := 201) (by decide +kernel)) rfl
  · exact lw_c0 (List.mem_of_getElem? (i := 203) (by decide +kernel)) rfl
theorem qu_3 : ∀ w ∈ u_ws RX3 TX3 13, w ∈ lw_all := by
  intro w h
  have e : u_ws RX3 TX3 13 = [u_lay RX3 TX3 0, u_lay RX3 TX3 1, u_lay RX3 TX3 2, u_lay RX3 TX3 3, u_lay RX3 TX3 4, u_lay RX3 TX3 5, u_lay RX3 TX3 6, u_lay RX3 TX3 7, u_lay RX3 TX3 8, u_lay RX3 TX3 9, u_lay RX3 TX3 10, u_lay RX3 TX3 11, u_lay RX3 TX3 12] := rfl
  rw [e] at h
  simp only [List.mem_cons, List.not_mem_nil, or_false] at h
  rcases h with rfl | rfl | rfl | rfl | rfl | rfl | rfl | rfl | rfl | rfl | rfl | rfl | rfl
  · exact lw_c0 (List.mem_of_getElem? (i := 117) (by decide +kernel)) rfl
  · exact lw_c0 (List.mem_of_getElem? (i := 119) (by decide +kernel)) rfl
  · exact lw_c0 (List.mem_of_getElem? (i := 121) (by decide +kernel)) rfl
  · exact lw_c0 (List.mem_of_getElem? (i := 123) (by decide +kernel)) rfl
  · exact lw_c0 (List.mem_of_getElem? (i := 125) (by decide +kernel)) rfl
  · exact lw_c0 (List.mem_of_getElem? (i := 127) (by decide +kernel)) rfl
  · exact lw_c0 (List.mem_of_getElem? (i := 129) (by decide +kernel)) rfl
  · exact lw_c0 (List.mem_of_getElem? (i := 131) (by decide +kernel)) rfl
  · exact lw_c0 (List.mem_of_getElem? (i := 133) (by decide +kernel)) rfl
  · exact lw_c0 (List.mem_of_getElem? (i := 135) (by decide +kernel)) rfl
  · exact lw_c0 (List.mem_of_getElem? (i := 137) (by decide +kernel)) rfl
  · exact lw_c0 (List.mem_of_getElem? (i := 139) (by decide +kernel)) rfl
  · exact lw_c0 (List.mem_of_getElem? (i := 141) (by decide +kernel)) rfl
theorem qu_4 : ∀ w ∈ u_ws RX4 TX4 2, w ∈ lw_all := by
  intro w h
  have e : u_ws RX4 TX4 2 = [u_lay RX4 TX4 0, u_lay RX4 TX4 1] := rfl
  rw [e] at h
  simp only [List.mem_cons, List.not_mem_nil, or_false] at h
  rcases h with rfl | rfl
  · exact lw_c0 (List.mem_of_getElem? (i := 176) (by decide +kernel)) rfl
  · exact lw_c0 (List.mem_of_getElem? (i := 178) (by decide +kernel)) rfl
theorem qu_5 : ∀ w ∈ u_ws RX5 TX5 12, w ∈ lw_all := by
  intro w h
  have e : u_ws RX5 TX5 12 = [u_lay RX5 TX5 0, u_lay RX5 TX5 1, u_lay RX5 TX5 2, u_lay RX5 TX5 3, u_lay RX5 TX5 4, u_lay RX5 TX5 5, u_lay RX5 TX5 6, u_lay RX5 TX5 7, u_lay RX5 TX5 8, u_lay RX5 TX5 9, u_lay RX5 TX5 10, u_lay RX5 TX5 11] := rfl
  rw [e] at h
  simp only [List.mem_cons, List.not_mem_nil, or_false] at h
  rcases h with rfl | rfl | rfl | rfl | rfl | rfl | rfl | rfl | rfl | rfl | rfl | rfl
  · exact lw_c0 (List.mem_of_getElem? (i := 57) (by decide +kernel)) rfl
  · exact lw_c0 (List.mem_of_getElem? (i := 59) (by decide +kernel)) rfl
  · exact lw_c0 (List.mem_of_getElem? (i := 61) (by decide +kernel)) rfl
  · exact lw_c0 (List.mem_of_getElem? (i := 63) (by decide +kernel)) rfl
  · exact lw_c0 (List.mem_of_getElem? (i := 65) (by decide +kernel)) rfl
  · exact lw_c0 (List.mem_of_getElem? (i := 67) (by decide +kernel)) rfl
  · exact lw_c0 (List.mem_of_getElem? (i := 69) (by decide +kernel)) rfl
  · exact lw_c0 (List.mem_of_getElem? (i := 71) (by decide +kernel)) rfl
  · exact lw_c0 (List.mem_of_getElem? (i := 73) (by decide +kernel)) rfl
  · exact lw_c0 (List.mem_of_getElem? (i := 75) (by decide +kernel)) rfl
  · exact lw_c0 (List.mem_of_getElem? (i := 77) (by decide +kernel)) rfl
  · exact lw_c0 (List.mem_of_getElem? (i := 79) (by decide +kernel)) rfl
theorem qu_6 : ∀ w ∈ u_ws RX6 TX6 6, w ∈ lw_all := by
  intro w h
  have e : u_ws RX6 TX6 6 = [u_lay RX6 TX6 0, u_lay RX6 TX6 1, u_lay RX6 TX6 2, u_lay RX6 TX6 3, u_lay RX6 TX6 4, u_lay RX6 TX6 5] := rfl
  rw [e] at h
  simp only [List.mem_cons, List.not_mem_nil, or_false] at h
  rcases h with rfl | rfl | rfl | rfl | rfl | rfl
  · exact lw_c0 (List.mem_of_getElem? (i := 213) (by decide +kernel)) rfl
  · exact lw_c0 (List.mem_of_getElem? (i := 215) (by decide +kernel)) rfl
  · exact lw_c0 (List.mem_of_getElem? (i := 217) (by decide +kernel)) rfl
  · exact lw_c0 (List.mem_of_getElem? (i := 219) (by decide +kernel)) rfl
  · exact lw_c0 (List.mem_of_getElem? (i := 221) (by decide +kernel)) rfl
  · exact lw_c0 (List.mem_of_getElem? (i := 223) (by decide +kernel)) rfl
def nestL : List (String × Nat × MethodName × String) := [(RX3, 17, yX5_init, RX6), (RX3, 31, yX0_init, RX6), (RX6, 28, yX4_init, RX6), (RX6, 38, yX2_init, RX6), (RX3, 173, yX6_quotient, RX6), (RX5, 80, yX6_entry, RX6), (RX3, 78, yX6_entry, RX6), (RX3, 86, yX6_remainder, RX6), (RX5, 55, yX6_copyInto, RX6), (RX3, 61, yX6_copyInto, RX6), (RX5, 63, yX6_quotient, RX6), (RX5, 67, yX6_putFirst, RX6)]
def nestW (q : String × Nat × MethodName × String) : Cond := .methodLinkNest q.1 q.2.1 q.2.2.1 q.2.2.2
theorem ql_RX3_17 : (RX3, 17, yX5_init, RX6) ∈ nestL := List.mem_of_getElem? (i := 0) rfl
theorem ql_RX3_31 : (RX3, 31, yX0_init, RX6) ∈ nestL := List.mem_of_getElem? (i := 1) rfl
theorem ql_RX6_28 : (RX6, 28, yX4_init, RX6) ∈ nestL := List.mem_of_getElem? (i := 2) rfl
theorem ql_RX6_38 : (RX6, 38, yX2_init, RX6) ∈ nestL := List.mem_of_getElem? (i := 3) rfl
theorem ql_RX3_173 : (RX3, 173, yX6_quotient, RX6) ∈ nestL := List.mem_of_getElem? (i := 4) rfl
theorem ql_RX5_80 : (RX5, 80, yX6_entry, RX6) ∈ nestL := List.mem_of_getElem? (i := 5) rfl
theorem ql_RX3_78 : (RX3, 78, yX6_entry, RX6) ∈ nestL := List.mem_of_getElem? (i := 6) rfl
theorem ql_RX3_86 : (RX3, 86, yX6_remainder, RX6) ∈ nestL := List.mem_of_getElem? (i := 7) rfl
theorem ql_RX5_55 : (RX5, 55, yX6_copyInto, RX6) ∈ nestL := List.mem_of_getElem? (i := 8) rfl
theorem ql_RX3_61 : (RX3, 61, yX6_copyInto, RX6) ∈ nestL := List.mem_of_getElem? (i := 9) rfl
theorem ql_RX5_63 : (RX5, 63, yX6_quotient, RX6) ∈ nestL := List.mem_of_getElem? (i := 10) rfl
theorem ql_RX5_67 : (RX5, 67, yX6_putFirst, RX6) ∈ nestL := List.mem_of_getElem? (i := 11) rfl
theorem nest_tbl : ∀ q ∈ nestL, nestW q ∈ lw_tbl := by
  have key : ∀ j, j < nestL.length → ∃ q, nestL[j]? = some q ∧ nestW q ∈ lw_tbl := by
    intro j hj
    have hj : j < 12 := hj
    match j, hj with
    | 0, _ => exact ⟨_, rfl, lw_n0 (List.mem_of_getElem? (i := 33) (by decide +kernel))⟩
    | 1, _ => exact ⟨_, rfl, lw_n0 (List.mem_of_getElem? (i := 85) (by decide +kernel))⟩
    | 2, _ => exact ⟨_, rfl, lw_n0 (List.mem_of_getElem? (i := 169) (by decide +kernel))⟩
    | 3, _ => exact ⟨_, rfl, lw_n0 (List.mem_of_getElem? (i := 183) (by decide +kernel))⟩
    | 4, _ => exact ⟨_, rfl, lw_n1 (List.mem_of_getElem? (i := 92) (by decide +kernel))⟩
    | 5, _ => exact ⟨_, rfl, lw_n1 (List.mem_of_getElem? (i := 169) (by decide +kernel))⟩
    | 6, _ => exact ⟨_, rfl, lw_n1 (List.mem_of_getElem? (i := 227) (by decide +kernel))⟩
    | 7, _ => exact ⟨_, rfl, lw_n1 (List.mem_of_getElem? (i := 237) (by decide +kernel))⟩
    | 8, _ => exact ⟨_, rfl, lw_n2 (List.mem_of_getElem? (i := 56) (by decide +kernel))⟩
    | 9, _ => exact ⟨_, rfl, lw_n2 (List.mem_of_getElem? (i := 59) (by decide +kernel))⟩
    | 10, _ => exact ⟨_, rfl, lw_n2 (List.mem_of_getElem? (i := 82) (by decide +kernel))⟩
    | 11, _ => exact ⟨_, rfl, lw_n2 (List.mem_of_getElem? (i := 95) (by decide +kernel))⟩
    | k + 12, h => exact absurd h (by omega)
  intro q hq
  obtain ⟨j, hj⟩ := List.getElem?_of_mem hq
  obtain ⟨q2, h1, h2⟩ := key j (List.getElem?_eq_some_iff.mp hj).1
  rw [hj] at h1
  cases h1
  exact h2
