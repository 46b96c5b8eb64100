def lw_all : List Cond := lw_tbl.filter goodWord
theorem lw_good : ∀ w ∈ lw_all, w ∈ lw_tbl ∧ goodWord w = true := fun w h => List.mem_filter.mp h
theorem lw_mem {w : Cond} (h : w ∈ lw_tbl) (g : goodWord w = true) : w ∈ lw_all := List.mem_filter.mpr ⟨h, g⟩
theorem lw_t0 {w : Cond} (h : w ∈ tables_1) (g : goodWord w = true) : w ∈ lw_all := lw_mem (List.mem_append_right _ h) g
theorem lw_n0 {w : Cond} (h : w ∈ tables_1_1) : w ∈ lw_tbl := List.mem_append_right _ (List.mem_append_left _ h)
theorem lw_c0 {w : Cond} (h : w ∈ tables_1_1) (g : goodWord w = true) : w ∈ lw_all := lw_t0 (List.mem_append_left _ h) g
theorem lw_n1 {w : Cond} (h : w ∈ tables_1_2) : w ∈ lw_tbl := List.mem_append_right _ (List.mem_append_right _ (List.mem_append_left _ h))
theorem lw_c1 {w : Cond} (h : w ∈ tables_1_2) (g : goodWord w = true) : w ∈ lw_all := lw_t0 (List.mem_append_right _ (List.mem_append_left _ h)) g
theorem lw_n2 {w : Cond} (h : w ∈ tables_1_3) : w ∈ lw_tbl := List.mem_append_right _ (List.mem_append_right _ (List.mem_append_right _ (List.mem_append_left _ h)))
theorem lw_c2 {w : Cond} (h : w ∈ tables_1_3) (g : goodWord w = true) : w ∈ lw_all := lw_t0 (List.mem_append_right _ (List.mem_append_right _ (List.mem_append_left _ h))) g
theorem lw_n3 {w : Cond} (h : w ∈ tables_1_4) : w ∈ lw_tbl := List.mem_append_right _ (List.mem_append_right _ (List.mem_append_right _ (List.mem_append_right _ (List.mem_append_left _ h))))
theorem lw_c3 {w : Cond} (h : w ∈ tables_1_4) (g : goodWord w = true) : w ∈ lw_all := lw_t0 (List.mem_append_right _ (List.mem_append_right _ (List.mem_append_right _ (List.mem_append_left _ h)))) g
theorem lw_n4 {w : Cond} (h : w ∈ tables_1_5) : w ∈ lw_tbl := List.mem_append_right _ (List.mem_append_right _ (List.mem_append_right _ (List.mem_append_right _ (List.mem_append_right _ (List.mem_append_left _ h)))))
theorem lw_c4 {w : Cond} (h : w ∈ tables_1_5) (g : goodWord w = true) : w ∈ lw_all := lw_t0 (List.mem_append_right _ (List.mem_append_right _ (List.mem_append_right _ (List.mem_append_right _ (List.mem_append_left _ h))))) g
theorem lw_n5 {w : Cond} (h : w ∈ tables_1_6) : w ∈ lw_tbl := List.mem_append_right _ (List.mem_append_right _ (List.mem_append_right _ (List.mem_append_right _ (List.mem_append_right _ (List.mem_append_right _ (h))))))
theorem lw_c5 {w : Cond} (h : w ∈ tables_1_6) (g : goodWord w = true) : w ∈ lw_all := lw_t0 (List.mem_append_right _ (List.mem_append_right _ (List.mem_append_right _ (List.mem_append_right _ (List.mem_append_right _ (h)))))) g
theorem lw_sel {y : MethodName} {n : Nat} (h : (y, n) ∈ lw_privs) : Cond.selects y.cls y y ∈ lw_all := lw_mem (List.mem_append_left _ (List.mem_map.mpr ⟨(y, n), h, rfl⟩)) rfl
theorem qi_RL : Cond.initialized RL ∈ lw_all := lw_c0 (List.mem_of_getElem? (i := 0) (by decide +kernel)) rfl
theorem qi_RX6 : Cond.initialized RX6 ∈ lw_all := lw_c0 (List.mem_of_getElem? (i := 1) (by decide +kernel)) rfl
theorem qi_RX3 : Cond.initialized RX3 ∈ lw_all := lw_c0 (List.mem_of_getElem? (i := 2) (by decide +kernel)) rfl
theorem qi_RX5 : Cond.initialized RX5 ∈ lw_all := lw_c0 (List.mem_of_getElem? (i := 3) (by decide +kernel)) rfl
theorem qi_RX0 : Cond.initialized RX0 ∈ lw_all := lw_c0 (List.mem_of_getElem? (i := 4) (by decide +kernel)) rfl
theorem qi_RX1 : Cond.initialized RX1 ∈ lw_all := lw_c0 (List.mem_of_getElem? (i := 5) (by decide +kernel)) rfl
theorem qi_RX4 : Cond.initialized RX4 ∈ lw_all := lw_c0 (List.mem_of_getElem? (i := 6) (by decide +kernel)) rfl
theorem qi_RX2 : Cond.initialized RX2 ∈ lw_all := lw_c0 (List.mem_of_getElem? (i := 7) (by decide +kernel)) rfl
theorem qi_RX7 : Cond.initialized RX7 ∈ lw_all := lw_c0 (List.mem_of_getElem? (i := 8) (by decide +kernel)) rfl
theorem qi_java_lang_Throwable : Cond.initialized "java/lang/Throwable" ∈ lw_all := lw_c0 (List.mem_of_getElem? (i := 9) (by decide +kernel)) rfl
theorem qi_java_lang_Exception : Cond.initialized "java/lang/Exception" ∈ lw_all := lw_c0 (List.mem_of_getElem? (i := 10) (by decide +kernel)) rfl
theorem qi_java_lang_RuntimeException : Cond.initialized "java/lang/RuntimeException" ∈ lw_all := lw_c0 (List.mem_of_getElem? (i := 11) (by decide +kernel)) rfl
theorem qi_java_lang_IndexOutOfBoundsException : Cond.initialized "java/lang/IndexOutOfBoundsException" ∈ lw_all := lw_c0 (List.mem_of_getElem? (i := 12) (by decide +kernel)) rfl
theorem qi_java_lang_IllegalArgumentException : Cond.initialized "java/lang/IllegalArgumentException" ∈ lw_all := lw_c0 (List.mem_of_getElem? (i := 13) (by decide +kernel)) rfl
theorem qi_java_lang_IllegalStateException : Cond.initialized "java/lang/IllegalStateException" ∈ lw_all := lw_c0 (List.mem_of_getElem? (i := 14) (by decide +kernel)) rfl
theorem qi_RJ9 : Cond.initialized RJ9 ∈ lw_all := lw_c0 (List.mem_of_getElem? (i := 15) (by decide +kernel)) rfl
theorem qi_RJ6 : Cond.initialized RJ6 ∈ lw_all := lw_c0 (List.mem_of_getElem? (i := 16) (by decide +kernel)) rfl
theorem qk_RL_8 : Cond.classLink RL 8 RX6 ∈ lw_all := lw_c0 (List.mem_of_getElem? (i := 17) (by decide +kernel)) rfl
theorem qa_RX6 : Cond.instantiable RX6 6 ∈ lw_all := lw_c0 (List.mem_of_getElem? (i := 18) (by decide +kernel)) rfl
theorem ql_RL_83 : Cond.methodLink RL 83 yX6_init ∈ lw_all := lw_c0 (List.mem_of_getElem? (i := 19) (by decide +kernel)) rfl
theorem qm_yX6_init : Cond.instanceMethod yX6_init ∈ lw_all := lw_c0 (List.mem_of_getElem? (i := 20) (by decide +kernel)) rfl
theorem qc_yX6_init : Cond.code yX6_init cX6_init 1 none ∈ lw_all := lw_c0 (List.mem_of_getElem? (i := 21) (by decide +kernel)) rfl
theorem ql_RX6_1 : Cond.methodLink RX6 1 objectInit ∈ lw_all := lw_c0 (List.mem_of_getElem? (i := 22) (by decide +kernel)) rfl
theorem qm_objectInit : Cond.instanceMethod objectInit ∈ lw_all := lw_c0 (List.mem_of_getElem? (i := 23) (by decide +kernel)) rfl
theorem qc_objectInit : Cond.code objectInit ⟨#[0xb1]⟩ 1 none ∈ lw_all := lw_c0 (List.mem_of_getElem? (i := 24) (by decide +kernel)) rfl
theorem qk_RX6_7 : Cond.classLink RX6 7 RX3 ∈ lw_all := lw_c0 (List.mem_of_getElem? (i := 25) (by decide +kernel)) rfl
theorem qa_RX3 : Cond.instantiable RX3 13 ∈ lw_all := lw_c0 (List.mem_of_getElem? (i := 26) (by decide +kernel)) rfl
theorem ql_RX6_9 : Cond.methodLink RX6 9 yX3_init ∈ lw_all := lw_c0 (List.mem_of_getElem? (i := 27) (by decide +kernel)) rfl
theorem qm_yX3_init : Cond.instanceMethod yX3_init ∈ lw_all := lw_c0 (List.mem_of_getElem? (i := 28) (by decide +kernel)) rfl
theorem qc_yX3_init : Cond.code yX3_init cX3_init 2 none ∈ lw_all := lw_c0 (List.mem_of_getElem? (i := 29) (by decide +kernel)) rfl
theorem ql_RX3_3 : Cond.methodLink RX3 3 objectInit ∈ lw_all := lw_c0 (List.mem_of_getElem? (i := 30) (by decide +kernel)) rfl
theorem qk_RX3_9 : Cond.classLink RX3 9 RX5 ∈ lw_all := lw_c0 (List.mem_of_getElem? (i := 31) (by decide +kernel)) rfl
theorem qo_RX5 : Cond.arrayOver (.object "LateThermometers$Thermometer") ∈ lw_tbl := lw_n0 (List.mem_of_getElem? (i := 32) (by decide +kernel))
theorem qa_RX5 : Cond.instantiable RX5 12 ∈ lw_all := lw_c0 (List.mem_of_getElem? (i := 33) (by decide +kernel)) rfl
theorem qm_yX5_init : Cond.instanceMethod yX5_init ∈ lw_all := lw_c0 (List.mem_of_getElem? (i := 35) (by decide +kernel)) rfl
theorem qc_yX5_init : Cond.code yX5_init cX5_init 1 none ∈ lw_all := lw_c0 (List.mem_of_getElem? (i := 36) (by decide +kernel)) rfl
theorem ql_RX5_3 : Cond.methodLink RX5 3 objectInit ∈ lw_all := lw_c0 (List.mem_of_getElem? (i := 37) (by decide +kernel)) rfl
theorem qn_RX5_25 : Cond.constant RX5 25 (-999999) ∈ lw_all := lw_c0 (List.mem_of_getElem? (i := 38) (by decide +kernel)) rfl
theorem qf_RX5_9 : Cond.fieldLink RX5 9 "LateThermometers$Thermometer" "readingHours" "[I" ∈ lw_all := lw_c0 (List.mem_of_getElem? (i := 39) (by decide +kernel)) rfl
theorem qf_RX5_15 : Cond.fieldLink RX5 15 "LateThermometers$Thermometer" "readingValues" "[I" ∈ lw_all := lw_c0 (List.mem_of_getElem? (i := 40) (by decide +kernel)) rfl
theorem qf_RX5_45 : Cond.fieldLink RX5 45 "LateThermometers$Thermometer" "kept" "I" ∈ lw_all := lw_c0 (List.mem_of_getElem? (i := 41) (by decide +kernel)) rfl
theorem qf_RX5_18 : Cond.fieldLink RX5 18 "LateThermometers$Thermometer" "lag" "I" ∈ lw_all := lw_c0 (List.mem_of_getElem? (i := 42) (by decide +kernel)) rfl
theorem qf_RX5_32 : Cond.fieldLink RX5 32 "LateThermometers$Thermometer" "offset" "I" ∈ lw_all := lw_c0 (List.mem_of_getElem? (i := 43) (by decide +kernel)) rfl
theorem qf_RX5_29 : Cond.fieldLink RX5 29 "LateThermometers$Thermometer" "row" "I" ∈ lw_all := lw_c0 (List.mem_of_getElem? (i := 44) (by decide +kernel)) rfl
theorem qf_RX3_90 : Cond.fieldLink RX3 90 "LateThermometers$Thermometer" "row" "I" ∈ lw_all := lw_c0 (List.mem_of_getElem? (i := 45) (by decide +kernel)) rfl
theorem qf_RX5_22 : Cond.fieldLink RX5 22 "LateThermometers$Thermometer" "weight" "I" ∈ lw_all := lw_c0 (List.mem_of_getElem? (i := 46) (by decide +kernel)) rfl
theorem qf_RX3_170 : Cond.fieldLink RX3 170 "LateThermometers$Thermometer" "weight" "I" ∈ lw_all := lw_c0 (List.mem_of_getElem? (i := 47) (by decide +kernel)) rfl
theorem qf_RX5_42 : Cond.fieldLink RX5 42 "LateThermometers$Thermometer" "shown" "I" ∈ lw_all := lw_c0 (List.mem_of_getElem? (i := 48) (by decide +kernel)) rfl
theorem qf_RX6_106 : Cond.fieldLink RX6 106 "LateThermometers$Thermometer" "shown" "I" ∈ lw_all := lw_c0 (List.mem_of_getElem? (i := 49) (by decide +kernel)) rfl
theorem qf_RX5_48 : Cond.fieldLink RX5 48 "LateThermometers$Thermometer" "strikes" "I" ∈ lw_all := lw_c0 (List.mem_of_getElem? (i := 50) (by decide +kernel)) rfl
theorem qf_RX6_98 : Cond.fieldLink RX6 98 "LateThermometers$Thermometer" "strikes" "I" ∈ lw_all := lw_c0 (List.mem_of_getElem? (i := 51) (by decide +kernel)) rfl
theorem qf_RX5_35 : Cond.fieldLink RX5 35 "LateThermometers$Thermometer" "spikes" "I" ∈ lw_all := lw_c0 (List.mem_of_getElem? (i := 52) (by decide +kernel)) rfl
theorem qf_RX3_142 : Cond.fieldLink RX3 142 "LateThermometers$Thermometer" "spikes" "I" ∈ lw_all := lw_c0 (List.mem_of_getElem? (i := 53) (by decide +kernel)) rfl
theorem qf_RX5_51 : Cond.fieldLink RX5 51 "LateThermometers$Thermometer" "shutOut" "Z" ∈ lw_all := lw_c0 (List.mem_of_getElem? (i := 54) (by decide +kernel)) rfl
theorem qf_RX3_166 : Cond.fieldLink RX3 166 "LateThermometers$Thermometer" "shutOut" "Z" ∈ lw_all := lw_c0 (List.mem_of_getElem? (i := 55) (by decide +kernel)) rfl
theorem qf_RX5_26 : Cond.fieldLink RX5 26 "LateThermometers$Thermometer" "mended" "I" ∈ lw_all := lw_c0 (List.mem_of_getElem? (i := 56) (by decide +kernel)) rfl
theorem qf_RX3_157 : Cond.fieldLink RX3 157 "LateThermometers$Thermometer" "mended" "I" ∈ lw_all := lw_c0 (List.mem_of_getElem? (i := 57) (by decide +kernel)) rfl
theorem qy_0 : Cond.arrayClass Jvm.ClassFile.FieldType.int ∈ lw_all := lw_c0 (List.mem_of_getElem? (i := 83) (by decide +kernel)) rfl
theorem qk_RX3_29 : Cond.classLink RX3 29 RX0 ∈ lw_all := lw_c0 (List.mem_of_getElem? (i := 84) (by decide +kernel)) rfl
theorem qa_RX0 : Cond.instantiable RX0 2 ∈ lw_all := lw_c0 (List.mem_of_getElem? (i := 85) (by decide +kernel)) rfl
theorem qm_yX0_init : Cond.instanceMethod yX0_init ∈ lw_all := lw_c0 (List.mem_of_getElem? (i := 87) (by decide +kernel)) rfl
theorem qc_yX0_init : Cond.code yX0_init cX0_init 1 none ∈ lw_all := lw_c0 (List.mem_of_getElem? (i := 88) (by decide +kernel)) rfl
theorem ql_RX0_3 : Cond.methodLink RX0 3 objectInit ∈ lw_all := lw_c0 (List.mem_of_getElem? (i := 89) (by decide +kernel)) rfl
theorem qf_RX0_9 : Cond.fieldLink RX0 9 "LateThermometers$Ascending" "numbers" "[I" ∈ lw_all := lw_c0 (List.mem_of_getElem? (i := 90) (by decide +kernel)) rfl
theorem qf_RX0_15 : Cond.fieldLink RX0 15 "LateThermometers$Ascending" "size" "I" ∈ lw_all := lw_c0 (List.mem_of_getElem? (i := 91) (by decide +kernel)) rfl
theorem qn_RX3_36 : Cond.constant RX3 36 (-999999) ∈ lw_all := lw_c0 (List.mem_of_getElem? (i := 97) (by decide +kernel)) rfl
theorem qf_RX3_11 : Cond.fieldLink RX3 11 "LateThermometers$Place" "thermometers" "[LLateThermometers$Thermometer;" ∈ lw_all := lw_c0 (List.mem_of_getElem? (i := 98) (by decide +kernel)) rfl
theorem qf_RX3_18 : Cond.fieldLink RX3 18 "LateThermometers$Place" "spare" "LLateThermometers$Thermometer;" ∈ lw_all := lw_c0 (List.mem_of_getElem? (i := 99) (by decide +kernel)) rfl
theorem qf_RX3_22 : Cond.fieldLink RX3 22 "LateThermometers$Place" "periods" "[I" ∈ lw_all := lw_c0 (List.mem_of_getElem? (i := 100) (by decide +kernel)) rfl
theorem qf_RX3_26 : Cond.fieldLink RX3 26 "LateThermometers$Place" "timesRead" "[I" ∈ lw_all := lw_c0 (List.mem_of_getElem? (i := 101) (by decide +kernel)) rfl
theorem qf_RX3_32 : Cond.fieldLink RX3 32 "LateThermometers$Place" "sorted" "LLateThermometers$Ascending;" ∈ lw_all := lw_c0 (List.mem_of_getElem? (i := 102) (by decide +kernel)) rfl
theorem qf_RX3_37 : Cond.fieldLink RX3 37 "LateThermometers$Place" "meanBefore" "I" ∈ lw_all := lw_c0 (List.mem_of_getElem? (i := 103) (by decide +kernel)) rfl
theorem qf_RX3_50 : Cond.fieldLink RX3 50 "LateThermometers$Place" "size" "I" ∈ lw_all := lw_c0 (List.mem_of_getElem? (i := 104) (by decide +kernel)) rfl
theorem qf_RX6_207 : Cond.fieldLink RX6 207 "LateThermometers$Place" "size" "I" ∈ lw_all := lw_c0 (List.mem_of_getElem? (i := 105) (by decide +kernel)) rfl
theorem qf_RX3_65 : Cond.fieldLink RX3 65 "LateThermometers$Place" "hour" "I" ∈ lw_all := lw_c0 (List.mem_of_getElem? (i := 106) (by decide +kernel)) rfl
theorem qf_RX6_171 : Cond.fieldLink RX6 171 "LateThermometers$Place" "hour" "I" ∈ lw_all := lw_c0 (List.mem_of_getElem? (i := 107) (by decide +kernel)) rfl
theorem qf_RX3_41 : Cond.fieldLink RX3 41 "LateThermometers$Place" "temperature" "I" ∈ lw_all := lw_c0 (List.mem_of_getElem? (i := 108) (by decide +kernel)) rfl
theorem qf_RX6_81 : Cond.fieldLink RX6 81 "LateThermometers$Place" "temperature" "I" ∈ lw_all := lw_c0 (List.mem_of_getElem? (i := 109) (by decide +kernel)) rfl
theorem qf_RX3_68 : Cond.fieldLink RX3 68 "LateThermometers$Place" "readings" "I" ∈ lw_all := lw_c0 (List.mem_of_getElem? (i := 110) (by decide +kernel)) rfl
theorem qf_RX6_223 : Cond.fieldLink RX6 223 "LateThermometers$Place" "readings" "I" ∈ lw_all := lw_c0 (List.mem_of_getElem? (i := 111) (by decide +kernel)) rfl
theorem qf_RX3_71 : Cond.fieldLink RX3 71 "LateThermometers$Place" "spikes" "I" ∈ lw_all := lw_c0 (List.mem_of_getElem? (i := 112) (by decide +kernel)) rfl
theorem qf_RX6_226 : Cond.fieldLink RX6 226 "LateThermometers$Place" "spikes" "I" ∈ lw_all := lw_c0 (List.mem_of_getElem? (i := 113) (by decide +kernel)) rfl
theorem qf_RX3_44 : Cond.fieldLink RX3 44 "LateThermometers$Place" "difference" "I" ∈ lw_all := lw_c0 (List.mem_of_getElem? (i := 114) (by decide +kernel)) rfl
theorem qf_RX6_117 : Cond.fieldLink RX6 117 "LateThermometers$Place" "difference" "I" ∈ lw_all := lw_c0 (List.mem_of_getElem? (i := 115) (by decide +kernel)) rfl
theorem qf_RX3_47 : Cond.fieldLink RX3 47 "LateThermometers$Place" "strikesToShutOut" "I" ∈ lw_all := lw_c0 (List.mem_of_getElem? (i := 116) (by decide +kernel)) rfl
theorem qf_RX6_120 : Cond.fieldLink RX6 120 "LateThermometers$Place" "strikesToShutOut" "I" ∈ lw_all := lw_c0 (List.mem_of_getElem? (i := 117) (by decide +kernel)) rfl
theorem qk_RX6_19 : Cond.classLink RX6 19 RX1 ∈ lw_all := lw_c0 (List.mem_of_getElem? (i := 145) (by decide +kernel)) rfl
theorem qa_RX1 : Cond.instantiable RX1 4 ∈ lw_all := lw_c0 (List.mem_of_getElem? (i := 146) (by decide +kernel)) rfl
theorem ql_RX6_21 : Cond.methodLink RX6 21 yX1_init ∈ lw_all := lw_c0 (List.mem_of_getElem? (i := 147) (by decide +kernel)) rfl
theorem qm_yX1_init : Cond.instanceMethod yX1_init ∈ lw_all := lw_c0 (List.mem_of_getElem? (i := 148) (by decide +kernel)) rfl
theorem qc_yX1_init : Cond.code yX1_init cX1_init 2 none ∈ lw_all := lw_c0 (List.mem_of_getElem? (i := 149) (by decide +kernel)) rfl
theorem ql_RX1_3 : Cond.methodLink RX1 3 objectInit ∈ lw_all := lw_c0 (List.mem_of_getElem? (i := 150) (by decide +kernel)) rfl
theorem qk_RX1_9 : Cond.classLink RX1 9 RX3 ∈ lw_all := lw_c0 (List.mem_of_getElem? (i := 151) (by decide +kernel)) rfl
theorem qo_RX3 : Cond.arrayOver (.object "LateThermometers$Place") ∈ lw_tbl := lw_n0 (List.mem_of_getElem? (i := 152) (by decide +kernel))
theorem ql_RX1_17 : Cond.methodLink RX1 17 yX3_init ∈ lw_all := lw_c0 (List.mem_of_getElem? (i := 153) (by decide +kernel)) rfl
theorem qf_RX1_11 : Cond.fieldLink RX1 11 "LateThermometers$History" "states" "[LLateThermometers$Place;" ∈ lw_all := lw_c0 (List.mem_of_getElem? (i := 154) (by decide +kernel)) rfl
theorem qf_RX1_18 : Cond.fieldLink RX1 18 "LateThermometers$History" "spare" "LLateThermometers$Place;" ∈ lw_all := lw_c0 (List.mem_of_getElem? (i := 155) (by decide +kernel)) rfl
theorem qf_RX1_22 : Cond.fieldLink RX1 22 "LateThermometers$History" "next" "I" ∈ lw_all := lw_c0 (List.mem_of_getElem? (i := 156) (by decide +kernel)) rfl
theorem qf_RX1_34 : Cond.fieldLink RX1 34 "LateThermometers$History" "size" "I" ∈ lw_all := lw_c0 (List.mem_of_getElem? (i := 157) (by decide +kernel)) rfl
theorem qf_RX6_156 : Cond.fieldLink RX6 156 "LateThermometers$History" "size" "I" ∈ lw_all := lw_c0 (List.mem_of_getElem? (i := 158) (by decide +kernel)) rfl
theorem qk_RX6_26 : Cond.classLink RX6 26 RX4 ∈ lw_all := lw_c0 (List.mem_of_getElem? (i := 168) (by decide +kernel)) rfl
theorem qa_RX4 : Cond.instantiable RX4 2 ∈ lw_all := lw_c0 (List.mem_of_getElem? (i := 169) (by decide +kernel)) rfl
theorem qm_yX4_init : Cond.instanceMethod yX4_init ∈ lw_all := lw_c0 (List.mem_of_getElem? (i := 171) (by decide +kernel)) rfl
theorem qc_yX4_init : Cond.code yX4_init cX4_init 1 none ∈ lw_all := lw_c0 (List.mem_of_getElem? (i := 172) (by decide +kernel)) rfl
theorem ql_RX4_1 : Cond.methodLink RX4 1 objectInit ∈ lw_all := lw_c0 (List.mem_of_getElem? (i := 173) (by decide +kernel)) rfl
theorem qk_RX4_7 : Cond.classLink RX4 7 RX3 ∈ lw_all := lw_c0 (List.mem_of_getElem? (i := 174) (by decide +kernel)) rfl
theorem ql_RX4_9 : Cond.methodLink RX4 9 yX3_init ∈ lw_all := lw_c0 (List.mem_of_getElem? (i := 175) (by decide +kernel)) rfl
theorem qf_RX4_10 : Cond.fieldLink RX4 10 "LateThermometers$Snapshot" "place" "LLateThermometers$Place;" ∈ lw_all := lw_c0 (List.mem_of_getElem? (i := 176) (by decide +kernel)) rfl
theorem qf_RX6_180 : Cond.fieldLink RX6 180 "LateThermometers$Snapshot" "place" "LLateThermometers$Place;" ∈ lw_all := lw_c0 (List.mem_of_getElem? (i := 177) (by decide +kernel)) rfl
theorem qf_RX4_20 : Cond.fieldLink RX4 20 "LateThermometers$Snapshot" "taken" "Z" ∈ lw_all := lw_c0 (List.mem_of_getElem? (i := 178) (by decide +kernel)) rfl
theorem qf_RX6_174 : Cond.fieldLink RX6 174 "LateThermometers$Snapshot" "taken" "Z" ∈ lw_all := lw_c0 (List.mem_of_getElem? (i := 179) (by decide +kernel)) rfl
theorem qk_RX6_36 : Cond.classLink RX6 36 RX2 ∈ lw_all := lw_c0 (List.mem_of_getElem? (i := 185) (by decide +kernel)) rfl
theorem qa_RX2 : Cond.instantiable RX2 8 ∈ lw_all := lw_c0 (List.mem_of_getElem? (i := 186) (by decide +kernel)) rfl
theorem qm_yX2_init : Cond.instanceMethod yX2_init ∈ lw_all := lw_c0 (List.mem_of_getElem? (i := 188) (by decide +kernel)) rfl
theorem qc_yX2_init : Cond.code yX2_init cX2_init 1 none ∈ lw_all := lw_c0 (List.mem_of_getElem? (i := 189) (by decide +kernel)) rfl
theorem ql_RX2_3 : Cond.methodLink RX2 3 objectInit ∈ lw_all := lw_c0 (List.mem_of_getElem? (i := 190) (by decide +kernel)) rfl
theorem qf_RX2_9 : Cond.fieldLink RX2 9 "LateThermometers$OrderText" "characters" "[C" ∈ lw_all := lw_c0 (List.mem_of_getElem? (i := 191) (by decide +kernel)) rfl
theorem qf_RX2_19 : Cond.fieldLink RX2 19 "LateThermometers$OrderText" "position" "I" ∈ lw_all := lw_c0 (List.mem_of_getElem? (i := 192) (by decide +kernel)) rfl
theorem qf_RX2_55 : Cond.fieldLink RX2 55 "LateThermometers$OrderText" "digit" "I" ∈ lw_all := lw_c0 (List.mem_of_getElem? (i := 193) (by decide +kernel)) rfl
theorem qf_RX2_15 : Cond.fieldLink RX2 15 "LateThermometers$OrderText" "length" "I" ∈ lw_all := lw_c0 (List.mem_of_getElem? (i := 194) (by decide +kernel)) rfl
theorem qf_RX6_132 : Cond.fieldLink RX6 132 "LateThermometers$OrderText" "length" "I" ∈ lw_all := lw_c0 (List.mem_of_getElem? (i := 195) (by decide +kernel)) rfl
theorem qf_RX2_36 : Cond.fieldLink RX2 36 "LateThermometers$OrderText" "kind" "I" ∈ lw_all := lw_c0 (List.mem_of_getElem? (i := 196) (by decide +kernel)) rfl
theorem qf_RX6_271 : Cond.fieldLink RX6 271 "LateThermometers$OrderText" "kind" "I" ∈ lw_all := lw_c0 (List.mem_of_getElem? (i := 197) (by decide +kernel)) rfl
theorem qf_RX2_58 : Cond.fieldLink RX2 58 "LateThermometers$OrderText" "row" "I" ∈ lw_all := lw_c0 (List.mem_of_getElem? (i := 198) (by decide +kernel)) rfl
theorem qf_RX6_274 : Cond.fieldLink RX6 274 "LateThermometers$OrderText" "row" "I" ∈ lw_all := lw_c0 (List.mem_of_getElem? (i := 199) (by decide +kernel)) rfl
theorem qf_RX2_61 : Cond.fieldLink RX2 61 "LateThermometers$OrderText" "number" "I" ∈ lw_all := lw_c0 (List.mem_of_getElem? (i := 200) (by decide +kernel)) rfl
theorem qf_RX6_277 : Cond.fieldLink RX6 277 "LateThermometers$OrderText" "number" "I" ∈ lw_all := lw_c0 (List.mem_of_getElem? (i := 201) (by decide +kernel)) rfl
theorem qf_RX2_64 : Cond.fieldLink RX2 64 "LateThermometers$OrderText" "weight" "I" ∈ lw_all := lw_c0 (List.mem_of_getElem? (i := 202) (by decide +kernel)) rfl
theorem qf_RX6_280 : Cond.fieldLink RX6 280 "LateThermometers$OrderText" "weight" "I" ∈ lw_all := lw_c0 (List.mem_of_getElem? (i := 203) (by decide +kernel)) rfl
theorem qy_1 : Cond.arrayClass Jvm.ClassFile.FieldType.char ∈ lw_all := lw_c0 (List.mem_of_getElem? (i := 221) (by decide +kernel)) rfl
theorem qf_RX6_10 : Cond.fieldLink RX6 10 "LateThermometers" "now" "LLateThermometers$Place;" ∈ lw_all := lw_c0 (List.mem_of_getElem? (i := 222) (by decide +kernel)) rfl
theorem qf_RX6_16 : Cond.fieldLink RX6 16 "LateThermometers" "trial" "LLateThermometers$Place;" ∈ lw_all := lw_c0 (List.mem_of_getElem? (i := 223) (by decide +kernel)) rfl
theorem qf_RX6_22 : Cond.fieldLink RX6 22 "LateThermometers" "history" "LLateThermometers$History;" ∈ lw_all := lw_c0 (List.mem_of_getElem? (i := 224) (by decide +kernel)) rfl
theorem qf_RX6_29 : Cond.fieldLink RX6 29 "LateThermometers" "firstSnapshot" "LLateThermometers$Snapshot;" ∈ lw_all := lw_c0 (List.mem_of_getElem? (i := 225) (by decide +kernel)) rfl
theorem qf_RX6_33 : Cond.fieldLink RX6 33 "LateThermometers" "secondSnapshot" "LLateThermometers$Snapshot;" ∈ lw_all := lw_c0 (List.mem_of_getElem? (i := 226) (by decide +kernel)) rfl
theorem qf_RX6_39 : Cond.fieldLink RX6 39 "LateThermometers" "text" "LLateThermometers$OrderText;" ∈ lw_all := lw_c0 (List.mem_of_getElem? (i := 227) (by decide +kernel)) rfl
theorem ql_RL_119 : Cond.methodLink RL 119 yX6_clearBuffer ∈ lw_all := lw_c1 (List.mem_of_getElem? (i := 1) (by decide +kernel)) rfl
theorem qm_yX6_clearBuffer : Cond.instanceMethod yX6_clearBuffer ∈ lw_all := lw_c1 (List.mem_of_getElem? (i := 2) (by decide +kernel)) rfl
theorem qs_yX6_clearBuffer : Cond.selects RX6 yX6_clearBuffer yX6_clearBuffer ∈ lw_all := lw_c1 (List.mem_of_getElem? (i := 3) (by decide +kernel)) rfl
theorem qc_yX6_clearBuffer : Cond.code yX6_clearBuffer cX6_clearBuffer 2 (some Jvm.ClassFile.FieldType.int) ∈ lw_all := lw_c1 (List.mem_of_getElem? (i := 4) (by decide +kernel)) rfl
theorem ql_RL_123 : Cond.methodLink RL 123 yX6_firstError ∈ lw_all := lw_c1 (List.mem_of_getElem? (i := 5) (by decide +kernel)) rfl
theorem qm_yX6_firstError : Cond.instanceMethod yX6_firstError ∈ lw_all := lw_c1 (List.mem_of_getElem? (i := 6) (by decide +kernel)) rfl
theorem qs_yX6_firstError : Cond.selects RX6 yX6_firstError yX6_firstError ∈ lw_all := lw_c1 (List.mem_of_getElem? (i := 7) (by decide +kernel)) rfl
theorem qc_yX6_firstError : Cond.code yX6_firstError cX6_firstError 1 (some Jvm.ClassFile.FieldType.int) ∈ lw_all := lw_c1 (List.mem_of_getElem? (i := 8) (by decide +kernel)) rfl
theorem ql_RX6_135 : Cond.methodLink RX6 135 yX2_indexOfError ∈ lw_all := lw_c1 (List.mem_of_getElem? (i := 9) (by decide +kernel)) rfl
theorem qm_yX2_indexOfError : Cond.instanceMethod yX2_indexOfError ∈ lw_all := lw_c1 (List.mem_of_getElem? (i := 10) (by decide +kernel)) rfl
theorem qs_yX2_indexOfError : Cond.selects RX2 yX2_indexOfError yX2_indexOfError ∈ lw_all := lw_c1 (List.mem_of_getElem? (i := 11) (by decide +kernel)) rfl
theorem qc_yX2_indexOfError : Cond.code yX2_indexOfError cX2_indexOfError 1 (some Jvm.ClassFile.FieldType.int) ∈ lw_all := lw_c1 (List.mem_of_getElem? (i := 12) (by decide +kernel)) rfl
theorem ql_RX2_22 : Cond.methodLink RX2 22 yX2_readsAll ∈ lw_all := lw_c1 (List.mem_of_getElem? (i := 13) (by decide +kernel)) rfl
theorem qm_yX2_readsAll : Cond.instanceMethod yX2_readsAll ∈ lw_all := lw_c1 (List.mem_of_getElem? (i := 15) (by decide +kernel)) rfl
theorem qc_yX2_readsAll : Cond.code yX2_readsAll cX2_readsAll 2 (some Jvm.ClassFile.FieldType.boolean) ∈ lw_all := lw_c1 (List.mem_of_getElem? (i := 16) (by decide +kernel)) rfl
theorem ql_RX2_26 : Cond.methodLink RX2 26 yX2_goToStart ∈ lw_all := lw_c1 (List.mem_of_getElem? (i := 17) (by decide +kernel)) rfl
theorem qm_yX2_goToStart : Cond.instanceMethod yX2_goToStart ∈ lw_all := lw_c1 (List.mem_of_getElem? (i := 18) (by decide +kernel)) rfl
theorem qs_yX2_goToStart : Cond.selects RX2 yX2_goToStart yX2_goToStart ∈ lw_all := lw_c1 (List.mem_of_getElem? (i := 19) (by decide +kernel)) rfl
theorem qc_yX2_goToStart : Cond.code yX2_goToStart cX2_goToStart 1 none ∈ lw_all := lw_c1 (List.mem_of_getElem? (i := 20) (by decide +kernel)) rfl
theorem ql_RX2_29 : Cond.methodLink RX2 29 yX2_readsOrder ∈ lw_all := lw_c1 (List.mem_of_getElem? (i := 21) (by decide +kernel)) rfl
theorem qm_yX2_readsOrder : Cond.instanceMethod yX2_readsOrder ∈ lw_all := lw_c1 (List.mem_of_getElem? (i := 23) (by decide +kernel)) rfl
theorem qc_yX2_readsOrder : Cond.code yX2_readsOrder cX2_readsOrder 1 (some Jvm.ClassFile.FieldType.boolean) ∈ lw_all := lw_c1 (List.mem_of_getElem? (i := 24) (by decide +kernel)) rfl
theorem ql_RX2_32 : Cond.methodLink RX2 32 yX2_takesSign ∈ lw_all := lw_c1 (List.mem_of_getElem? (i := 25) (by decide +kernel)) rfl
theorem qm_yX2_takesSign : Cond.instanceMethod yX2_takesSign ∈ lw_all := lw_c1 (List.mem_of_getElem? (i := 27) (by decide +kernel)) rfl
theorem qc_yX2_takesSign : Cond.code yX2_takesSign cX2_takesSign 2 (some Jvm.ClassFile.FieldType.boolean) ∈ lw_all := lw_c1 (List.mem_of_getElem? (i := 28) (by decide +kernel)) rfl
theorem ql_RX2_52 : Cond.methodLink RX2 52 yX2_takes ∈ lw_all := lw_c1 (List.mem_of_getElem? (i := 29) (by decide +kernel)) rfl
theorem qm_yX2_takes : Cond.instanceMethod yX2_takes ∈ lw_all := lw_c1 (List.mem_of_getElem? (i := 31) (by decide +kernel)) rfl
theorem qc_yX2_takes : Cond.code yX2_takes cX2_takes 4 (some Jvm.ClassFile.FieldType.boolean) ∈ lw_all := lw_c1 (List.mem_of_getElem? (i := 32) (by decide +kernel)) rfl
theorem ql_RX2_39 : Cond.methodLink RX2 39 yX2_readsRow ∈ lw_all := lw_c1 (List.mem_of_getElem? (i := 33) (by decide +kernel)) rfl
theorem qm_yX2_readsRow : Cond.instanceMethod yX2_readsRow ∈ lw_all := lw_c1 (List.mem_of_getElem? (i := 35) (by decide +kernel)) rfl
theorem qc_yX2_readsRow : Cond.code yX2_readsRow cX2_readsRow 2 (some Jvm.ClassFile.FieldType.boolean) ∈ lw_all := lw_c1 (List.mem_of_getElem? (i := 36) (by decide +kernel)) rfl
theorem ql_RX2_42 : Cond.methodLink RX2 42 yX2_readsNumber ∈ lw_all := lw_c1 (List.mem_of_getElem? (i := 37) (by decide +kernel)) rfl
theorem qm_yX2_readsNumber : Cond.instanceMethod yX2_readsNumber ∈ lw_all := lw_c1 (List.mem_of_getElem? (i := 39) (by decide +kernel)) rfl
theorem qc_yX2_readsNumber : Cond.code yX2_readsNumber cX2_readsNumber 4 (some Jvm.ClassFile.FieldType.boolean) ∈ lw_all := lw_c1 (List.mem_of_getElem? (i := 40) (by decide +kernel)) rfl
theorem ql_RX2_46 : Cond.methodLink RX2 46 yX2_readsWeight ∈ lw_all := lw_c1 (List.mem_of_getElem? (i := 41) (by decide +kernel)) rfl
theorem qm_yX2_readsWeight : Cond.instanceMethod yX2_readsWeight ∈ lw_all := lw_c1 (List.mem_of_getElem? (i := 43) (by decide +kernel)) rfl
theorem qc_yX2_readsWeight : Cond.code yX2_readsWeight cX2_readsWeight 2 (some Jvm.ClassFile.FieldType.boolean) ∈ lw_all := lw_c1 (List.mem_of_getElem? (i := 44) (by decide +kernel)) rfl
theorem ql_RX2_49 : Cond.methodLink RX2 49 yX2_readsDegrees ∈ lw_all := lw_c1 (List.mem_of_getElem? (i := 45) (by decide +kernel)) rfl
theorem qm_yX2_readsDegrees : Cond.instanceMethod yX2_readsDegrees ∈ lw_all := lw_c1 (List.mem_of_getElem? (i := 47) (by decide +kernel)) rfl
theorem qc_yX2_readsDegrees : Cond.code yX2_readsDegrees cX2_readsDegrees 4 (some Jvm.ClassFile.FieldType.boolean) ∈ lw_all := lw_c1 (List.mem_of_getElem? (i := 48) (by decide +kernel)) rfl
theorem ql_RL_156 : Cond.methodLink RL 156 yX6_between ∈ lw_all := lw_c1 (List.mem_of_getElem? (i := 49) (by decide +kernel)) rfl
theorem qm_yX6_between : Cond.instanceMethod yX6_between ∈ lw_all := lw_c1 (List.mem_of_getElem? (i := 50) (by decide +kernel)) rfl
theorem qs_yX6_between : Cond.selects RX6 yX6_between yX6_between ∈ lw_all := lw_c1 (List.mem_of_getElem? (i := 51) (by decide +kernel)) rfl
theorem qc_yX6_between : Cond.code yX6_between cX6_between 3 (some Jvm.ClassFile.FieldType.int) ∈ lw_all := lw_c1 (List.mem_of_getElem? (i := 52) (by decide +kernel)) rfl
theorem ql_RX6_233 : Cond.methodLink RX6 233 yX3_countMendedIn ∈ lw_all := lw_c1 (List.mem_of_getElem? (i := 53) (by decide +kernel)) rfl
theorem qm_yX3_countMendedIn : Cond.instanceMethod yX3_countMendedIn ∈ lw_all := lw_c1 (List.mem_of_getElem? (i := 54) (by decide +kernel)) rfl
theorem qs_yX3_countMendedIn : Cond.selects RX3 yX3_countMendedIn yX3_countMendedIn ∈ lw_all := lw_c1 (List.mem_of_getElem? (i := 55) (by decide +kernel)) rfl
theorem qc_yX3_countMendedIn : Cond.code yX3_countMendedIn cX3_countMendedIn 5 (some Jvm.ClassFile.FieldType.int) ∈ lw_all := lw_c1 (List.mem_of_getElem? (i := 56) (by decide +kernel)) rfl
theorem ql_RX3_53 : Cond.methodLink RX3 53 yX3_at ∈ lw_all := lw_c1 (List.mem_of_getElem? (i := 57) (by decide +kernel)) rfl
theorem qm_yX3_at : Cond.instanceMethod yX3_at ∈ lw_all := lw_c1 (List.mem_of_getElem? (i := 58) (by decide +kernel)) rfl
theorem qs_yX3_at : Cond.selects RX3 yX3_at yX3_at ∈ lw_all := lw_c1 (List.mem_of_getElem? (i := 59) (by decide +kernel)) rfl
theorem qc_yX3_at : Cond.code yX3_at cX3_at 3 (some (Jvm.ClassFile.FieldType.object "LateThermometers$Thermometer")) ∈ lw_all := lw_c1 (List.mem_of_getElem? (i := 60) (by decide +kernel)) rfl
theorem ql_RX3_176 : Cond.methodLink RX3 176 yX5_hasMended ∈ lw_all := lw_c1 (List.mem_of_getElem? (i := 61) (by decide +kernel)) rfl
theorem qm_yX5_hasMended : Cond.instanceMethod yX5_hasMended ∈ lw_all := lw_c1 (List.mem_of_getElem? (i := 62) (by decide +kernel)) rfl
theorem qs_yX5_hasMended : Cond.selects RX5 yX5_hasMended yX5_hasMended ∈ lw_all := lw_c1 (List.mem_of_getElem? (i := 63) (by decide +kernel)) rfl
theorem qc_yX5_hasMended : Cond.code yX5_hasMended cX5_hasMended 1 (some Jvm.ClassFile.FieldType.boolean) ∈ lw_all := lw_c1 (List.mem_of_getElem? (i := 64) (by decide +kernel)) rfl
theorem ql_RL_172 : Cond.methodLink RL 172 yX6_meanError ∈ lw_all := lw_c1 (List.mem_of_getElem? (i := 65) (by decide +kernel)) rfl
theorem qm_yX6_meanError : Cond.instanceMethod yX6_meanError ∈ lw_all := lw_c1 (List.mem_of_getElem? (i := 66) (by decide +kernel)) rfl
theorem qs_yX6_meanError : Cond.selects RX6 yX6_meanError yX6_meanError ∈ lw_all := lw_c1 (List.mem_of_getElem? (i := 67) (by decide +kernel)) rfl
theorem qc_yX6_meanError : Cond.code yX6_meanError cX6_meanError 2 (some Jvm.ClassFile.FieldType.double) ∈ lw_all := lw_c1 (List.mem_of_getElem? (i := 68) (by decide +kernel)) rfl
theorem ql_RX6_248 : Cond.methodLink RX6 248 yX3_countMended ∈ lw_all := lw_c1 (List.mem_of_getElem? (i := 69) (by decide +kernel)) rfl
theorem qm_yX3_countMended : Cond.instanceMethod yX3_countMended ∈ lw_all := lw_c1 (List.mem_of_getElem? (i := 70) (by decide +kernel)) rfl
theorem qs_yX3_countMended : Cond.selects RX3 yX3_countMended yX3_countMended ∈ lw_all := lw_c1 (List.mem_of_getElem? (i := 71) (by decide +kernel)) rfl
theorem qc_yX3_countMended : Cond.code yX3_countMended cX3_countMended 3 (some Jvm.ClassFile.FieldType.int) ∈ lw_all := lw_c1 (List.mem_of_getElem? (i := 72) (by decide +kernel)) rfl
theorem ql_RX6_251 : Cond.methodLink RX6 251 yX3_sumOfErrors ∈ lw_all := lw_c1 (List.mem_of_getElem? (i := 73) (by decide +kernel)) rfl
theorem qm_yX3_sumOfErrors : Cond.instanceMethod yX3_sumOfErrors ∈ lw_all := lw_c1 (List.mem_of_getElem? (i := 74) (by decide +kernel)) rfl
theorem qs_yX3_sumOfErrors : Cond.selects RX3 yX3_sumOfErrors yX3_sumOfErrors ∈ lw_all := lw_c1 (List.mem_of_getElem? (i := 75) (by decide +kernel)) rfl
theorem qc_yX3_sumOfErrors : Cond.code yX3_sumOfErrors cX3_sumOfErrors 3 (some Jvm.ClassFile.FieldType.int) ∈ lw_all := lw_c1 (List.mem_of_getElem? (i := 76) (by decide +kernel)) rfl
theorem ql_RX3_185 : Cond.methodLink RX3 185 yX5_error ∈ lw_all := lw_c1 (List.mem_of_getElem? (i := 77) (by decide +kernel)) rfl
theorem qm_yX5_error : Cond.instanceMethod yX5_error ∈ lw_all := lw_c1 (List.mem_of_getElem? (i := 78) (by decide +kernel)) rfl
theorem qs_yX5_error : Cond.selects RX5 yX5_error yX5_error ∈ lw_all := lw_c1 (List.mem_of_getElem? (i := 79) (by decide +kernel)) rfl
theorem qc_yX5_error : Cond.code yX5_error cX5_error 2 (some Jvm.ClassFile.FieldType.int) ∈ lw_all := lw_c1 (List.mem_of_getElem? (i := 80) (by decide +kernel)) rfl
theorem ql_RX5_94 : Cond.methodLink RX5 94 yJ9_abs_0f7a4 ∈ lw_all := lw_c1 (List.mem_of_getElem? (i := 81) (by decide +kernel)) rfl
theorem qt_yJ9_abs_0f7a4 : Cond.static yJ9_abs_0f7a4 ∈ lw_all := lw_c1 (List.mem_of_getElem? (i := 82) (by decide +kernel)) rfl
theorem qc_yJ9_abs_0f7a4 : Cond.code yJ9_abs_0f7a4 cJ9_abs_0f7a4 1 (some Jvm.ClassFile.FieldType.int) ∈ lw_all := lw_c1 (List.mem_of_getElem? (i := 83) (by decide +kernel)) rfl
theorem ql_RL_87 : Cond.methodLink RL 87 yL_thermometer ∈ lw_all := lw_c1 (List.mem_of_getElem? (i := 84) (by decide +kernel)) rfl
theorem qt_yL_thermometer : Cond.static yL_thermometer ∈ lw_all := lw_c1 (List.mem_of_getElem? (i := 85) (by decide +kernel)) rfl
theorem qc_yL_thermometer : Cond.codeWith yL_thermometer cL_thermometer (7 : Nat) (Option.some Jvm.ClassFile.FieldType.int) [((0 : Nat), (14 : Nat), (17 : Nat), (13 : Nat)), ((0 : Nat), (14 : Nat), (21 : Nat), (15 : Nat)), ((0 : Nat), (14 : Nat), (25 : Nat), (17 : Nat))] ∈ lw_all := lw_c1 (List.mem_of_getElem? (i := 86) (by decide +kernel)) rfl
theorem qk_RL_13 : Cond.classLink RL 13 "java/lang/IndexOutOfBoundsException" ∈ lw_all := lw_c1 (List.mem_of_getElem? (i := 87) (by decide +kernel)) rfl
theorem qk_RL_15 : Cond.classLink RL 15 "java/lang/IllegalArgumentException" ∈ lw_all := lw_c1 (List.mem_of_getElem? (i := 88) (by decide +kernel)) rfl
theorem qk_RL_17 : Cond.classLink RL 17 "java/lang/IllegalStateException" ∈ lw_all := lw_c1 (List.mem_of_getElem? (i := 89) (by decide +kernel)) rfl
theorem ql_RL_7 : Cond.methodLink RL 7 yX6_thermometer ∈ lw_all := lw_c1 (List.mem_of_getElem? (i := 90) (by decide +kernel)) rfl
theorem qm_yX6_thermometer : Cond.instanceMethod yX6_thermometer ∈ lw_all := lw_c1 (List.mem_of_getElem? (i := 91) (by decide +kernel)) rfl
theorem qs_yX6_thermometer : Cond.selects RX6 yX6_thermometer yX6_thermometer ∈ lw_all := lw_c1 (List.mem_of_getElem? (i := 92) (by decide +kernel)) rfl
theorem qc_yX6_thermometer : Cond.code yX6_thermometer cX6_thermometer 5 (some Jvm.ClassFile.FieldType.int) ∈ lw_all := lw_c1 (List.mem_of_getElem? (i := 93) (by decide +kernel)) rfl
theorem ql_RX6_43 : Cond.methodLink RX6 43 yX6_checkRow ∈ lw_all := lw_c1 (List.mem_of_getElem? (i := 94) (by decide +kernel)) rfl
theorem qt_yX6_checkRow : Cond.static yX6_checkRow ∈ lw_all := lw_c1 (List.mem_of_getElem? (i := 95) (by decide +kernel)) rfl
theorem qc_yX6_checkRow : Cond.code yX6_checkRow cX6_checkRow 1 none ∈ lw_all := lw_c1 (List.mem_of_getElem? (i := 96) (by decide +kernel)) rfl
theorem qk_RX6_112 : Cond.classLink RX6 112 "java/lang/IndexOutOfBoundsException" ∈ lw_all := lw_c1 (List.mem_of_getElem? (i := 97) (by decide +kernel)) rfl
theorem qz_UNASSIGNED_STACK : Cond.laysStatic "java/lang/Throwable" "UNASSIGNED_STACK" "[Ljava/lang/StackTraceElement;" ∈ lw_tbl := lw_n1 (List.mem_of_getElem? (i := 124) (by decide +kernel))
theorem qz_SUPPRESSED_SENTINEL : Cond.laysStatic "java/lang/Throwable" "SUPPRESSED_SENTINEL" "Ljava/util/List;" ∈ lw_tbl := lw_n1 (List.mem_of_getElem? (i := 126) (by decide +kernel))
theorem qr_RX6_254 : Cond.stringRef RX6 254 "there is no such row" ∈ lw_tbl := lw_n1 (List.mem_of_getElem? (i := 138) (by decide +kernel))
theorem qy_2 : Cond.arrayClass Jvm.ClassFile.FieldType.byte ∈ lw_all := lw_c1 (List.mem_of_getElem? (i := 164) (by decide +kernel)) rfl
theorem ql_RX6_47 : Cond.methodLink RX6 47 yX6_checkRange ∈ lw_all := lw_c1 (List.mem_of_getElem? (i := 165) (by decide +kernel)) rfl
theorem qt_yX6_checkRange : Cond.static yX6_checkRange ∈ lw_all := lw_c1 (List.mem_of_getElem? (i := 166) (by decide +kernel)) rfl
theorem qc_yX6_checkRange : Cond.code yX6_checkRange cX6_checkRange 3 none ∈ lw_all := lw_c1 (List.mem_of_getElem? (i := 167) (by decide +kernel)) rfl
theorem qk_RX6_142 : Cond.classLink RX6 142 "java/lang/IllegalArgumentException" ∈ lw_all := lw_c1 (List.mem_of_getElem? (i := 168) (by decide +kernel)) rfl
theorem qr_RX6_256 : Cond.stringRef RX6 256 "an argument is out of range" ∈ lw_tbl := lw_n1 (List.mem_of_getElem? (i := 177) (by decide +kernel))
theorem ql_RX6_51 : Cond.methodLink RX6 51 yX3_hasRoom ∈ lw_all := lw_c1 (List.mem_of_getElem? (i := 184) (by decide +kernel)) rfl
theorem qm_yX3_hasRoom : Cond.instanceMethod yX3_hasRoom ∈ lw_all := lw_c1 (List.mem_of_getElem? (i := 185) (by decide +kernel)) rfl
theorem qs_yX3_hasRoom : Cond.selects RX3 yX3_hasRoom yX3_hasRoom ∈ lw_all := lw_c1 (List.mem_of_getElem? (i := 186) (by decide +kernel)) rfl
theorem qc_yX3_hasRoom : Cond.code yX3_hasRoom cX3_hasRoom 1 (some Jvm.ClassFile.FieldType.boolean) ∈ lw_all := lw_c1 (List.mem_of_getElem? (i := 187) (by decide +kernel)) rfl
theorem qk_RX6_55 : Cond.classLink RX6 55 "java/lang/IllegalStateException" ∈ lw_all := lw_c1 (List.mem_of_getElem? (i := 188) (by decide +kernel)) rfl
theorem qr_RX6_57 : Cond.stringRef RX6 57 "there are 10 thermometers" ∈ lw_tbl := lw_n1 (List.mem_of_getElem? (i := 197) (by decide +kernel))
theorem ql_RX6_62 : Cond.methodLink RX6 62 yX1_save ∈ lw_all := lw_c1 (List.mem_of_getElem? (i := 204) (by decide +kernel)) rfl
theorem qm_yX1_save : Cond.instanceMethod yX1_save ∈ lw_all := lw_c1 (List.mem_of_getElem? (i := 205) (by decide +kernel)) rfl
theorem qs_yX1_save : Cond.selects RX1 yX1_save yX1_save ∈ lw_all := lw_c1 (List.mem_of_getElem? (i := 206) (by decide +kernel)) rfl
theorem qc_yX1_save : Cond.code yX1_save cX1_save 2 none ∈ lw_all := lw_c1 (List.mem_of_getElem? (i := 207) (by decide +kernel)) rfl
theorem ql_RX1_26 : Cond.methodLink RX1 26 yX1_stateAt ∈ lw_all := lw_c1 (List.mem_of_getElem? (i := 208) (by decide +kernel)) rfl
theorem qm_yX1_stateAt : Cond.instanceMethod yX1_stateAt ∈ lw_all := lw_c1 (List.mem_of_getElem? (i := 210) (by decide +kernel)) rfl
theorem qc_yX1_stateAt : Cond.code yX1_stateAt cX1_stateAt 3 (some (Jvm.ClassFile.FieldType.object "LateThermometers$Place")) ∈ lw_all := lw_c1 (List.mem_of_getElem? (i := 211) (by decide +kernel)) rfl
theorem ql_RX1_30 : Cond.methodLink RX1 30 yX3_copyFrom ∈ lw_all := lw_c1 (List.mem_of_getElem? (i := 212) (by decide +kernel)) rfl
theorem qm_yX3_copyFrom : Cond.instanceMethod yX3_copyFrom ∈ lw_all := lw_c1 (List.mem_of_getElem? (i := 213) (by decide +kernel)) rfl
theorem qs_yX3_copyFrom : Cond.selects RX3 yX3_copyFrom yX3_copyFrom ∈ lw_all := lw_c1 (List.mem_of_getElem? (i := 214) (by decide +kernel)) rfl
theorem qc_yX3_copyFrom : Cond.code yX3_copyFrom cX3_copyFrom 3 none ∈ lw_all := lw_c1 (List.mem_of_getElem? (i := 215) (by decide +kernel)) rfl
theorem ql_RX3_57 : Cond.methodLink RX3 57 yX5_copyFrom ∈ lw_all := lw_c1 (List.mem_of_getElem? (i := 216) (by decide +kernel)) rfl
theorem qm_yX5_copyFrom : Cond.instanceMethod yX5_copyFrom ∈ lw_all := lw_c1 (List.mem_of_getElem? (i := 217) (by decide +kernel)) rfl
theorem qs_yX5_copyFrom : Cond.selects RX5 yX5_copyFrom yX5_copyFrom ∈ lw_all := lw_c1 (List.mem_of_getElem? (i := 218) (by decide +kernel)) rfl
theorem qc_yX5_copyFrom : Cond.code yX5_copyFrom cX5_copyFrom 2 none ∈ lw_all := lw_c1 (List.mem_of_getElem? (i := 219) (by decide +kernel)) rfl
theorem qt_yX6_copyInto : Cond.static yX6_copyInto ∈ lw_all := lw_c1 (List.mem_of_getElem? (i := 221) (by decide +kernel)) rfl
theorem qc_yX6_copyInto : Cond.code yX6_copyInto cX6_copyInto 3 none ∈ lw_all := lw_c1 (List.mem_of_getElem? (i := 222) (by decide +kernel)) rfl
theorem ql_RX1_37 : Cond.methodLink RX1 37 yJ9_min_7cf53 ∈ lw_all := lw_c1 (List.mem_of_getElem? (i := 224) (by decide +kernel)) rfl
theorem qt_yJ9_min_7cf53 : Cond.static yJ9_min_7cf53 ∈ lw_all := lw_c1 (List.mem_of_getElem? (i := 225) (by decide +kernel)) rfl
theorem qc_yJ9_min_7cf53 : Cond.code yJ9_min_7cf53 cJ9_min_7cf53 2 (some Jvm.ClassFile.FieldType.int) ∈ lw_all := lw_c1 (List.mem_of_getElem? (i := 226) (by decide +kernel)) rfl
theorem ql_RX6_66 : Cond.methodLink RX6 66 yX3_add ∈ lw_all := lw_c1 (List.mem_of_getElem? (i := 227) (by decide +kernel)) rfl
theorem qm_yX3_add : Cond.instanceMethod yX3_add ∈ lw_all := lw_c1 (List.mem_of_getElem? (i := 228) (by decide +kernel)) rfl
theorem qs_yX3_add : Cond.selects RX3 yX3_add yX3_add ∈ lw_all := lw_c1 (List.mem_of_getElem? (i := 229) (by decide +kernel)) rfl
theorem qc_yX3_add : Cond.code yX3_add cX3_add 6 (some Jvm.ClassFile.FieldType.int) ∈ lw_all := lw_c1 (List.mem_of_getElem? (i := 230) (by decide +kernel)) rfl
theorem ql_RX3_74 : Cond.methodLink RX3 74 yX5_begin ∈ lw_all := lw_c1 (List.mem_of_getElem? (i := 231) (by decide +kernel)) rfl
theorem qm_yX5_begin : Cond.instanceMethod yX5_begin ∈ lw_all := lw_c1 (List.mem_of_getElem? (i := 232) (by decide +kernel)) rfl
theorem qs_yX5_begin : Cond.selects RX5 yX5_begin yX5_begin ∈ lw_all := lw_c1 (List.mem_of_getElem? (i := 233) (by decide +kernel)) rfl
theorem qc_yX5_begin : Cond.code yX5_begin cX5_begin 6 none ∈ lw_all := lw_c1 (List.mem_of_getElem? (i := 234) (by decide +kernel)) rfl
theorem ql_RX5_38 : Cond.methodLink RX5 38 yX5_startAfresh ∈ lw_all := lw_c1 (List.mem_of_getElem? (i := 235) (by decide +kernel)) rfl
theorem qm_yX5_startAfresh : Cond.instanceMethod yX5_startAfresh ∈ lw_all := lw_c1 (List.mem_of_getElem? (i := 236) (by decide +kernel)) rfl
theorem qs_yX5_startAfresh : Cond.selects RX5 yX5_startAfresh yX5_startAfresh ∈ lw_all := lw_c1 (List.mem_of_getElem? (i := 237) (by decide +kernel)) rfl
theorem qc_yX5_startAfresh : Cond.code yX5_startAfresh cX5_startAfresh 2 none ∈ lw_all := lw_c1 (List.mem_of_getElem? (i := 238) (by decide +kernel)) rfl
theorem ql_RL_96 : Cond.methodLink RL 96 yL_hour ∈ lw_all := lw_c1 (List.mem_of_getElem? (i := 239) (by decide +kernel)) rfl
theorem qt_yL_hour : Cond.static yL_hour ∈ lw_all := lw_c2 (List.mem_of_getElem? (i := 0) (by decide +kernel)) rfl
theorem qc_yL_hour : Cond.codeWith yL_hour cL_hour (4 : Nat) (Option.some Jvm.ClassFile.FieldType.int) [((0 : Nat), (9 : Nat), (12 : Nat), (15 : Nat)), ((0 : Nat), (9 : Nat), (15 : Nat), (17 : Nat))] ∈ lw_all := lw_c2 (List.mem_of_getElem? (i := 1) (by decide +kernel)) rfl
theorem ql_RL_19 : Cond.methodLink RL 19 yX6_hour ∈ lw_all := lw_c2 (List.mem_of_getElem? (i := 2) (by decide +kernel)) rfl
theorem qm_yX6_hour : Cond.instanceMethod yX6_hour ∈ lw_all := lw_c2 (List.mem_of_getElem? (i := 3) (by decide +kernel)) rfl
theorem qs_yX6_hour : Cond.selects RX6 yX6_hour yX6_hour ∈ lw_all := lw_c2 (List.mem_of_getElem? (i := 4) (by decide +kernel)) rfl
theorem qc_yX6_hour : Cond.code yX6_hour cX6_hour 2 (some Jvm.ClassFile.FieldType.int) ∈ lw_all := lw_c2 (List.mem_of_getElem? (i := 5) (by decide +kernel)) rfl
theorem ql_RX6_70 : Cond.methodLink RX6 70 yX6_checkHoursLeft ∈ lw_all := lw_c2 (List.mem_of_getElem? (i := 6) (by decide +kernel)) rfl
theorem qm_yX6_checkHoursLeft : Cond.instanceMethod yX6_checkHoursLeft ∈ lw_all := lw_c2 (List.mem_of_getElem? (i := 8) (by decide +kernel)) rfl
theorem qc_yX6_checkHoursLeft : Cond.code yX6_checkHoursLeft cX6_checkHoursLeft 2 none ∈ lw_all := lw_c2 (List.mem_of_getElem? (i := 9) (by decide +kernel)) rfl
theorem ql_RX6_266 : Cond.methodLink RX6 266 yX3_hasHoursLeft ∈ lw_all := lw_c2 (List.mem_of_getElem? (i := 10) (by decide +kernel)) rfl
theorem qm_yX3_hasHoursLeft : Cond.instanceMethod yX3_hasHoursLeft ∈ lw_all := lw_c2 (List.mem_of_getElem? (i := 11) (by decide +kernel)) rfl
theorem qs_yX3_hasHoursLeft : Cond.selects RX3 yX3_hasHoursLeft yX3_hasHoursLeft ∈ lw_all := lw_c2 (List.mem_of_getElem? (i := 12) (by decide +kernel)) rfl
theorem qc_yX3_hasHoursLeft : Cond.code yX3_hasHoursLeft cX3_hasHoursLeft 2 (some Jvm.ClassFile.FieldType.boolean) ∈ lw_all := lw_c2 (List.mem_of_getElem? (i := 13) (by decide +kernel)) rfl
theorem qr_RX6_269 : Cond.stringRef RX6 269 "the hour would be greater than 9999" ∈ lw_tbl := lw_n2 (List.mem_of_getElem? (i := 14) (by decide +kernel))
theorem ql_RX6_73 : Cond.methodLink RX6 73 yX3_passHour ∈ lw_all := lw_c2 (List.mem_of_getElem? (i := 15) (by decide +kernel)) rfl
theorem qm_yX3_passHour : Cond.instanceMethod yX3_passHour ∈ lw_all := lw_c2 (List.mem_of_getElem? (i := 16) (by decide +kernel)) rfl
theorem qs_yX3_passHour : Cond.selects RX3 yX3_passHour yX3_passHour ∈ lw_all := lw_c2 (List.mem_of_getElem? (i := 17) (by decide +kernel)) rfl
theorem qc_yX3_passHour : Cond.code yX3_passHour cX3_passHour 3 (some Jvm.ClassFile.FieldType.int) ∈ lw_all := lw_c2 (List.mem_of_getElem? (i := 18) (by decide +kernel)) rfl
theorem ql_RX3_104 : Cond.methodLink RX3 104 yX3_mean ∈ lw_all := lw_c2 (List.mem_of_getElem? (i := 19) (by decide +kernel)) rfl
theorem qm_yX3_mean : Cond.instanceMethod yX3_mean ∈ lw_all := lw_c2 (List.mem_of_getElem? (i := 20) (by decide +kernel)) rfl
theorem qs_yX3_mean : Cond.selects RX3 yX3_mean yX3_mean ∈ lw_all := lw_c2 (List.mem_of_getElem? (i := 21) (by decide +kernel)) rfl
theorem qc_yX3_mean : Cond.code yX3_mean cX3_mean 4 (some Jvm.ClassFile.FieldType.int) ∈ lw_all := lw_c2 (List.mem_of_getElem? (i := 22) (by decide +kernel)) rfl
theorem ql_RX3_153 : Cond.methodLink RX3 153 yX5_isAsked ∈ lw_all := lw_c2 (List.mem_of_getElem? (i := 23) (by decide +kernel)) rfl
theorem qm_yX5_isAsked : Cond.instanceMethod yX5_isAsked ∈ lw_all := lw_c2 (List.mem_of_getElem? (i := 24) (by decide +kernel)) rfl
theorem qs_yX5_isAsked : Cond.selects RX5 yX5_isAsked yX5_isAsked ∈ lw_all := lw_c2 (List.mem_of_getElem? (i := 25) (by decide +kernel)) rfl
theorem qc_yX5_isAsked : Cond.code yX5_isAsked cX5_isAsked 1 (some Jvm.ClassFile.FieldType.boolean) ∈ lw_all := lw_c2 (List.mem_of_getElem? (i := 26) (by decide +kernel)) rfl
theorem qt_yX6_quotient : Cond.static yX6_quotient ∈ lw_all := lw_c2 (List.mem_of_getElem? (i := 28) (by decide +kernel)) rfl
theorem qc_yX6_quotient : Cond.code yX6_quotient cX6_quotient 2 (some Jvm.ClassFile.FieldType.int) ∈ lw_all := lw_c2 (List.mem_of_getElem? (i := 29) (by decide +kernel)) rfl
theorem ql_RX3_108 : Cond.methodLink RX3 108 yX5_follow ∈ lw_all := lw_c2 (List.mem_of_getElem? (i := 30) (by decide +kernel)) rfl
theorem qm_yX5_follow : Cond.instanceMethod yX5_follow ∈ lw_all := lw_c2 (List.mem_of_getElem? (i := 31) (by decide +kernel)) rfl
theorem qs_yX5_follow : Cond.selects RX5 yX5_follow yX5_follow ∈ lw_all := lw_c2 (List.mem_of_getElem? (i := 32) (by decide +kernel)) rfl
theorem qc_yX5_follow : Cond.code yX5_follow cX5_follow 2 none ∈ lw_all := lw_c2 (List.mem_of_getElem? (i := 33) (by decide +kernel)) rfl
theorem ql_RX5_59 : Cond.methodLink RX5 59 yX5_stepFrom ∈ lw_all := lw_c2 (List.mem_of_getElem? (i := 34) (by decide +kernel)) rfl
theorem qm_yX5_stepFrom : Cond.instanceMethod yX5_stepFrom ∈ lw_all := lw_c2 (List.mem_of_getElem? (i := 36) (by decide +kernel)) rfl
theorem qc_yX5_stepFrom : Cond.code yX5_stepFrom cX5_stepFrom 3 (some Jvm.ClassFile.FieldType.int) ∈ lw_all := lw_c2 (List.mem_of_getElem? (i := 37) (by decide +kernel)) rfl
theorem ql_RX3_112 : Cond.methodLink RX3 112 yX3_readRows ∈ lw_all := lw_c2 (List.mem_of_getElem? (i := 39) (by decide +kernel)) rfl
theorem qm_yX3_readRows : Cond.instanceMethod yX3_readRows ∈ lw_all := lw_c2 (List.mem_of_getElem? (i := 41) (by decide +kernel)) rfl
theorem qc_yX3_readRows : Cond.code yX3_readRows cX3_readRows 2 none ∈ lw_all := lw_c2 (List.mem_of_getElem? (i := 42) (by decide +kernel)) rfl
theorem ql_RX3_118 : Cond.methodLink RX3 118 yX3_isReadNow ∈ lw_all := lw_c2 (List.mem_of_getElem? (i := 43) (by decide +kernel)) rfl
theorem qm_yX3_isReadNow : Cond.instanceMethod yX3_isReadNow ∈ lw_all := lw_c2 (List.mem_of_getElem? (i := 45) (by decide +kernel)) rfl
theorem qc_yX3_isReadNow : Cond.code yX3_isReadNow cX3_isReadNow 2 (some Jvm.ClassFile.FieldType.boolean) ∈ lw_all := lw_c2 (List.mem_of_getElem? (i := 46) (by decide +kernel)) rfl
theorem ql_RX3_82 : Cond.methodLink RX3 82 yX3_periodOf ∈ lw_all := lw_c2 (List.mem_of_getElem? (i := 47) (by decide +kernel)) rfl
theorem qm_yX3_periodOf : Cond.instanceMethod yX3_periodOf ∈ lw_all := lw_c2 (List.mem_of_getElem? (i := 48) (by decide +kernel)) rfl
theorem qs_yX3_periodOf : Cond.selects RX3 yX3_periodOf yX3_periodOf ∈ lw_all := lw_c2 (List.mem_of_getElem? (i := 49) (by decide +kernel)) rfl
theorem qc_yX3_periodOf : Cond.code yX3_periodOf cX3_periodOf 2 (some Jvm.ClassFile.FieldType.int) ∈ lw_all := lw_c2 (List.mem_of_getElem? (i := 50) (by decide +kernel)) rfl
theorem qt_yX6_entry : Cond.static yX6_entry ∈ lw_all := lw_c2 (List.mem_of_getElem? (i := 52) (by decide +kernel)) rfl
theorem qc_yX6_entry : Cond.code yX6_entry cX6_entry 2 (some Jvm.ClassFile.FieldType.int) ∈ lw_all := lw_c2 (List.mem_of_getElem? (i := 53) (by decide +kernel)) rfl
theorem qn_RX6_283 : Cond.constant RX6 283 (-999999) ∈ lw_all := lw_c2 (List.mem_of_getElem? (i := 54) (by decide +kernel)) rfl
theorem qt_yX6_remainder : Cond.static yX6_remainder ∈ lw_all := lw_c2 (List.mem_of_getElem? (i := 56) (by decide +kernel)) rfl
theorem qc_yX6_remainder : Cond.code yX6_remainder cX6_remainder 2 (some Jvm.ClassFile.FieldType.int) ∈ lw_all := lw_c2 (List.mem_of_getElem? (i := 57) (by decide +kernel)) rfl
theorem ql_RX3_122 : Cond.methodLink RX3 122 yX5_takeReading ∈ lw_all := lw_c2 (List.mem_of_getElem? (i := 58) (by decide +kernel)) rfl
theorem qm_yX5_takeReading : Cond.instanceMethod yX5_takeReading ∈ lw_all := lw_c2 (List.mem_of_getElem? (i := 59) (by decide +kernel)) rfl
theorem qs_yX5_takeReading : Cond.selects RX5 yX5_takeReading yX5_takeReading ∈ lw_all := lw_c2 (List.mem_of_getElem? (i := 60) (by decide +kernel)) rfl
theorem qc_yX5_takeReading : Cond.code yX5_takeReading cX5_takeReading 2 none ∈ lw_all := lw_c2 (List.mem_of_getElem? (i := 61) (by decide +kernel)) rfl
theorem qt_yX6_putFirst : Cond.static yX6_putFirst ∈ lw_all := lw_c2 (List.mem_of_getElem? (i := 63) (by decide +kernel)) rfl
theorem qc_yX6_putFirst : Cond.code yX6_putFirst cX6_putFirst 3 none ∈ lw_all := lw_c2 (List.mem_of_getElem? (i := 64) (by decide +kernel)) rfl
theorem ql_RX5_71 : Cond.methodLink RX5 71 yJ9_min_7cf53 ∈ lw_all := lw_c2 (List.mem_of_getElem? (i := 65) (by decide +kernel)) rfl
theorem ql_RX5_76 : Cond.methodLink RX5 76 yX5_mendedWith ∈ lw_all := lw_c2 (List.mem_of_getElem? (i := 66) (by decide +kernel)) rfl
theorem qm_yX5_mendedWith : Cond.instanceMethod yX5_mendedWith ∈ lw_all := lw_c2 (List.mem_of_getElem? (i := 67) (by decide +kernel)) rfl
theorem qs_yX5_mendedWith : Cond.selects RX5 yX5_mendedWith yX5_mendedWith ∈ lw_all := lw_c2 (List.mem_of_getElem? (i := 68) (by decide +kernel)) rfl
theorem qc_yX5_mendedWith : Cond.code yX5_mendedWith cX5_mendedWith 5 (some Jvm.ClassFile.FieldType.int) ∈ lw_all := lw_c2 (List.mem_of_getElem? (i := 69) (by decide +kernel)) rfl
theorem ql_RX3_115 : Cond.methodLink RX3 115 yX3_lookForSpikes ∈ lw_all := lw_c2 (List.mem_of_getElem? (i := 71) (by decide +kernel)) rfl
theorem qm_yX3_lookForSpikes : Cond.instanceMethod yX3_lookForSpikes ∈ lw_all := lw_c2 (List.mem_of_getElem? (i := 73) (by decide +kernel)) rfl
theorem qc_yX3_lookForSpikes : Cond.code yX3_lookForSpikes cX3_lookForSpikes 2 none ∈ lw_all := lw_c2 (List.mem_of_getElem? (i := 74) (by decide +kernel)) rfl
theorem ql_RX3_125 : Cond.methodLink RX3 125 yX3_maskOfAsked ∈ lw_all := lw_c2 (List.mem_of_getElem? (i := 75) (by decide +kernel)) rfl
theorem qm_yX3_maskOfAsked : Cond.instanceMethod yX3_maskOfAsked ∈ lw_all := lw_c2 (List.mem_of_getElem? (i := 76) (by decide +kernel)) rfl
theorem qs_yX3_maskOfAsked : Cond.selects RX3 yX3_maskOfAsked yX3_maskOfAsked ∈ lw_all := lw_c2 (List.mem_of_getElem? (i := 77) (by decide +kernel)) rfl
theorem qc_yX3_maskOfAsked : Cond.code yX3_maskOfAsked cX3_maskOfAsked 3 (some Jvm.ClassFile.FieldType.int) ∈ lw_all := lw_c2 (List.mem_of_getElem? (i := 78) (by decide +kernel)) rfl
theorem ql_RX3_128 : Cond.methodLink RX3 128 yJ6_bitCount_0f7a4 ∈ lw_all := lw_c2 (List.mem_of_getElem? (i := 79) (by decide +kernel)) rfl
theorem qt_yJ6_bitCount_0f7a4 : Cond.static yJ6_bitCount_0f7a4 ∈ lw_all := lw_c2 (List.mem_of_getElem? (i := 80) (by decide +kernel)) rfl
theorem qc_yJ6_bitCount_0f7a4 : Cond.code yJ6_bitCount_0f7a4 cJ6_bitCount_0f7a4 1 (some Jvm.ClassFile.FieldType.int) ∈ lw_all := lw_c2 (List.mem_of_getElem? (i := 81) (by decide +kernel)) rfl
theorem qn_RJ6_265 : Cond.constant RJ6 265 (1431655765) ∈ lw_all := lw_c2 (List.mem_of_getElem? (i := 82) (by decide +kernel)) rfl
theorem qn_RJ6_266 : Cond.constant RJ6 266 (858993459) ∈ lw_all := lw_c2 (List.mem_of_getElem? (i := 83) (by decide +kernel)) rfl
theorem qn_RJ6_267 : Cond.constant RJ6 267 (252645135) ∈ lw_all := lw_c2 (List.mem_of_getElem? (i := 84) (by decide +kernel)) rfl
theorem ql_RX3_133 : Cond.methodLink RX3 133 yX5_isAskedAndReadIn ∈ lw_all := lw_c2 (List.mem_of_getElem? (i := 85) (by decide +kernel)) rfl
theorem qm_yX5_isAskedAndReadIn : Cond.instanceMethod yX5_isAskedAndReadIn ∈ lw_all := lw_c2 (List.mem_of_getElem? (i := 86) (by decide +kernel)) rfl
theorem qs_yX5_isAskedAndReadIn : Cond.selects RX5 yX5_isAskedAndReadIn yX5_isAskedAndReadIn ∈ lw_all := lw_c2 (List.mem_of_getElem? (i := 87) (by decide +kernel)) rfl
theorem qc_yX5_isAskedAndReadIn : Cond.code yX5_isAskedAndReadIn cX5_isAskedAndReadIn 2 (some Jvm.ClassFile.FieldType.boolean) ∈ lw_all := lw_c2 (List.mem_of_getElem? (i := 88) (by decide +kernel)) rfl
theorem ql_RX5_84 : Cond.methodLink RX5 84 yX5_isAsked ∈ lw_all := lw_c2 (List.mem_of_getElem? (i := 89) (by decide +kernel)) rfl
theorem ql_RX5_88 : Cond.methodLink RX5 88 yX5_hourAgo ∈ lw_all := lw_c2 (List.mem_of_getElem? (i := 90) (by decide +kernel)) rfl
theorem qm_yX5_hourAgo : Cond.instanceMethod yX5_hourAgo ∈ lw_all := lw_c2 (List.mem_of_getElem? (i := 91) (by decide +kernel)) rfl
theorem qs_yX5_hourAgo : Cond.selects RX5 yX5_hourAgo yX5_hourAgo ∈ lw_all := lw_c2 (List.mem_of_getElem? (i := 92) (by decide +kernel)) rfl
theorem qc_yX5_hourAgo : Cond.code yX5_hourAgo cX5_hourAgo 2 (some Jvm.ClassFile.FieldType.int) ∈ lw_all := lw_c2 (List.mem_of_getElem? (i := 93) (by decide +kernel)) rfl
theorem ql_RX3_136 : Cond.methodLink RX3 136 yX3_compareWithOthers ∈ lw_all := lw_c2 (List.mem_of_getElem? (i := 94) (by decide +kernel)) rfl
theorem qm_yX3_compareWithOthers : Cond.instanceMethod yX3_compareWithOthers ∈ lw_all := lw_c2 (List.mem_of_getElem? (i := 96) (by decide +kernel)) rfl
theorem qc_yX3_compareWithOthers : Cond.code yX3_compareWithOthers cX3_compareWithOthers 3 none ∈ lw_all := lw_c2 (List.mem_of_getElem? (i := 97) (by decide +kernel)) rfl
theorem ql_RX3_143 : Cond.methodLink RX3 143 yX3_middleWithout ∈ lw_all := lw_c2 (List.mem_of_getElem? (i := 98) (by decide +kernel)) rfl
theorem qm_yX3_middleWithout : Cond.instanceMethod yX3_middleWithout ∈ lw_all := lw_c2 (List.mem_of_getElem? (i := 99) (by decide +kernel)) rfl
theorem qs_yX3_middleWithout : Cond.selects RX3 yX3_middleWithout yX3_middleWithout ∈ lw_all := lw_c2 (List.mem_of_getElem? (i := 100) (by decide +kernel)) rfl
theorem qc_yX3_middleWithout : Cond.code yX3_middleWithout cX3_middleWithout 3 (some Jvm.ClassFile.FieldType.int) ∈ lw_all := lw_c2 (List.mem_of_getElem? (i := 101) (by decide +kernel)) rfl
theorem ql_RX3_150 : Cond.methodLink RX3 150 yX0_clear ∈ lw_all := lw_c2 (List.mem_of_getElem? (i := 102) (by decide +kernel)) rfl
theorem qm_yX0_clear : Cond.instanceMethod yX0_clear ∈ lw_all := lw_c2 (List.mem_of_getElem? (i := 103) (by decide +kernel)) rfl
theorem qs_yX0_clear : Cond.selects RX0 yX0_clear yX0_clear ∈ lw_all := lw_c2 (List.mem_of_getElem? (i := 104) (by decide +kernel)) rfl
theorem qc_yX0_clear : Cond.code yX0_clear cX0_clear 1 none ∈ lw_all := lw_c2 (List.mem_of_getElem? (i := 105) (by decide +kernel)) rfl
theorem ql_RX3_160 : Cond.methodLink RX3 160 yX0_insert ∈ lw_all := lw_c2 (List.mem_of_getElem? (i := 106) (by decide +kernel)) rfl
theorem qm_yX0_insert : Cond.instanceMethod yX0_insert ∈ lw_all := lw_c2 (List.mem_of_getElem? (i := 107) (by decide +kernel)) rfl
theorem qs_yX0_insert : Cond.selects RX0 yX0_insert yX0_insert ∈ lw_all := lw_c2 (List.mem_of_getElem? (i := 108) (by decide +kernel)) rfl
theorem qc_yX0_insert : Cond.code yX0_insert cX0_insert 3 none ∈ lw_all := lw_c2 (List.mem_of_getElem? (i := 109) (by decide +kernel)) rfl
theorem ql_RX3_163 : Cond.methodLink RX3 163 yX0_middle ∈ lw_all := lw_c2 (List.mem_of_getElem? (i := 110) (by decide +kernel)) rfl
theorem qm_yX0_middle : Cond.instanceMethod yX0_middle ∈ lw_all := lw_c2 (List.mem_of_getElem? (i := 111) (by decide +kernel)) rfl
theorem qs_yX0_middle : Cond.selects RX0 yX0_middle yX0_middle ∈ lw_all := lw_c2 (List.mem_of_getElem? (i := 112) (by decide +kernel)) rfl
theorem qc_yX0_middle : Cond.code yX0_middle cX0_middle 2 (some Jvm.ClassFile.FieldType.int) ∈ lw_all := lw_c2 (List.mem_of_getElem? (i := 113) (by decide +kernel)) rfl
theorem qn_RX0_19 : Cond.constant RX0 19 (-999999) ∈ lw_all := lw_c2 (List.mem_of_getElem? (i := 114) (by decide +kernel)) rfl
theorem ql_RX3_146 : Cond.methodLink RX3 146 yX5_compareWith ∈ lw_all := lw_c2 (List.mem_of_getElem? (i := 115) (by decide +kernel)) rfl
theorem qm_yX5_compareWith : Cond.instanceMethod yX5_compareWith ∈ lw_all := lw_c2 (List.mem_of_getElem? (i := 116) (by decide +kernel)) rfl
theorem qs_yX5_compareWith : Cond.selects RX5 yX5_compareWith yX5_compareWith ∈ lw_all := lw_c2 (List.mem_of_getElem? (i := 117) (by decide +kernel)) rfl
theorem qc_yX5_compareWith : Cond.code yX5_compareWith cX5_compareWith 3 none ∈ lw_all := lw_c2 (List.mem_of_getElem? (i := 118) (by decide +kernel)) rfl
theorem ql_RX3_139 : Cond.methodLink RX3 139 yX5_shutOutFrom ∈ lw_all := lw_c2 (List.mem_of_getElem? (i := 119) (by decide +kernel)) rfl
theorem qm_yX5_shutOutFrom : Cond.instanceMethod yX5_shutOutFrom ∈ lw_all := lw_c2 (List.mem_of_getElem? (i := 120) (by decide +kernel)) rfl
theorem qs_yX5_shutOutFrom : Cond.selects RX5 yX5_shutOutFrom yX5_shutOutFrom ∈ lw_all := lw_c2 (List.mem_of_getElem? (i := 121) (by decide +kernel)) rfl
theorem qc_yX5_shutOutFrom : Cond.code yX5_shutOutFrom cX5_shutOutFrom 2 none ∈ lw_all := lw_c2 (List.mem_of_getElem? (i := 122) (by decide +kernel)) rfl
theorem ql_RL_100 : Cond.methodLink RL 100 yL_hours ∈ lw_all := lw_c2 (List.mem_of_getElem? (i := 123) (by decide +kernel)) rfl
theorem qt_yL_hours : Cond.static yL_hours ∈ lw_all := lw_c2 (List.mem_of_getElem? (i := 124) (by decide +kernel)) rfl
theorem qc_yL_hours : Cond.codeWith yL_hours cL_hours (5 : Nat) (Option.some Jvm.ClassFile.FieldType.int) [((0 : Nat), (10 : Nat), (13 : Nat), (15 : Nat)), ((0 : Nat), (10 : Nat), (17 : Nat), (17 : Nat))] ∈ lw_all := lw_c2 (List.mem_of_getElem? (i := 125) (by decide +kernel)) rfl
theorem ql_RL_23 : Cond.methodLink RL 23 yX6_hours ∈ lw_all := lw_c2 (List.mem_of_getElem? (i := 126) (by decide +kernel)) rfl
theorem qm_yX6_hours : Cond.instanceMethod yX6_hours ∈ lw_all := lw_c2 (List.mem_of_getElem? (i := 127) (by decide +kernel)) rfl
theorem qs_yX6_hours : Cond.selects RX6 yX6_hours yX6_hours ∈ lw_all := lw_c2 (List.mem_of_getElem? (i := 128) (by decide +kernel)) rfl
theorem qc_yX6_hours : Cond.code yX6_hours cX6_hours 3 (some Jvm.ClassFile.FieldType.int) ∈ lw_all := lw_c2 (List.mem_of_getElem? (i := 129) (by decide +kernel)) rfl
theorem ql_RX6_77 : Cond.methodLink RX6 77 yX3_passHours ∈ lw_all := lw_c2 (List.mem_of_getElem? (i := 130) (by decide +kernel)) rfl
theorem qm_yX3_passHours : Cond.instanceMethod yX3_passHours ∈ lw_all := lw_c2 (List.mem_of_getElem? (i := 131) (by decide +kernel)) rfl
theorem qs_yX3_passHours : Cond.selects RX3 yX3_passHours yX3_passHours ∈ lw_all := lw_c2 (List.mem_of_getElem? (i := 132) (by decide +kernel)) rfl
theorem qc_yX3_passHours : Cond.code yX3_passHours cX3_passHours 5 none ∈ lw_all := lw_c2 (List.mem_of_getElem? (i := 133) (by decide +kernel)) rfl
theorem ql_RX3_93 : Cond.methodLink RX3 93 yJ9_min_7cf53 ∈ lw_all := lw_c2 (List.mem_of_getElem? (i := 134) (by decide +kernel)) rfl
theorem ql_RX3_98 : Cond.methodLink RX3 98 yJ9_max_7cf53 ∈ lw_all := lw_c2 (List.mem_of_getElem? (i := 135) (by decide +kernel)) rfl
theorem qt_yJ9_max_7cf53 : Cond.static yJ9_max_7cf53 ∈ lw_all := lw_c2 (List.mem_of_getElem? (i := 136) (by decide +kernel)) rfl
theorem qc_yJ9_max_7cf53 : Cond.code yJ9_max_7cf53 cJ9_max_7cf53 2 (some Jvm.ClassFile.FieldType.int) ∈ lw_all := lw_c2 (List.mem_of_getElem? (i := 137) (by decide +kernel)) rfl
theorem ql_RX3_101 : Cond.methodLink RX3 101 yX3_passHour ∈ lw_all := lw_c2 (List.mem_of_getElem? (i := 138) (by decide +kernel)) rfl
theorem ql_RL_104 : Cond.methodLink RL 104 yL_period ∈ lw_all := lw_c2 (List.mem_of_getElem? (i := 139) (by decide +kernel)) rfl
theorem qt_yL_period : Cond.static yL_period ∈ lw_all := lw_c2 (List.mem_of_getElem? (i := 140) (by decide +kernel)) rfl
theorem qc_yL_period : Cond.codeWith yL_period cL_period (5 : Nat) (Option.some Jvm.ClassFile.FieldType.int) [((0 : Nat), (10 : Nat), (13 : Nat), (13 : Nat)), ((0 : Nat), (10 : Nat), (17 : Nat), (15 : Nat))] ∈ lw_all := lw_c2 (List.mem_of_getElem? (i := 141) (by decide +kernel)) rfl
theorem ql_RL_27 : Cond.methodLink RL 27 yX6_period ∈ lw_all := lw_c2 (List.mem_of_getElem? (i := 142) (by decide +kernel)) rfl
theorem qm_yX6_period : Cond.instanceMethod yX6_period ∈ lw_all := lw_c2 (List.mem_of_getElem? (i := 143) (by decide +kernel)) rfl
theorem qs_yX6_period : Cond.selects RX6 yX6_period yX6_period ∈ lw_all := lw_c2 (List.mem_of_getElem? (i := 144) (by decide +kernel)) rfl
theorem qc_yX6_period : Cond.code yX6_period cX6_period 4 (some Jvm.ClassFile.FieldType.int) ∈ lw_all := lw_c2 (List.mem_of_getElem? (i := 145) (by decide +kernel)) rfl
theorem ql_RX6_85 : Cond.methodLink RX6 85 yX3_periodOf ∈ lw_all := lw_c2 (List.mem_of_getElem? (i := 146) (by decide +kernel)) rfl
theorem ql_RX6_88 : Cond.methodLink RX6 88 yX3_changePeriod ∈ lw_all := lw_c2 (List.mem_of_getElem? (i := 147) (by decide +kernel)) rfl
theorem qm_yX3_changePeriod : Cond.instanceMethod yX3_changePeriod ∈ lw_all := lw_c2 (List.mem_of_getElem? (i := 148) (by decide +kernel)) rfl
theorem qs_yX3_changePeriod : Cond.selects RX3 yX3_changePeriod yX3_changePeriod ∈ lw_all := lw_c2 (List.mem_of_getElem? (i := 149) (by decide +kernel)) rfl
theorem qc_yX3_changePeriod : Cond.code yX3_changePeriod cX3_changePeriod 3 none ∈ lw_all := lw_c2 (List.mem_of_getElem? (i := 150) (by decide +kernel)) rfl
theorem ql_RL_107 : Cond.methodLink RL 107 yL_calibrate ∈ lw_all := lw_c2 (List.mem_of_getElem? (i := 151) (by decide +kernel)) rfl
theorem qt_yL_calibrate : Cond.static yL_calibrate ∈ lw_all := lw_c2 (List.mem_of_getElem? (i := 152) (by decide +kernel)) rfl
theorem qc_yL_calibrate : Cond.codeWith yL_calibrate cL_calibrate (4 : Nat) (Option.some Jvm.ClassFile.FieldType.int) [((0 : Nat), (9 : Nat), (12 : Nat), (13 : Nat))] ∈ lw_all := lw_c2 (List.mem_of_getElem? (i := 153) (by decide +kernel)) rfl
theorem ql_RL_30 : Cond.methodLink RL 30 yX6_calibrate ∈ lw_all := lw_c2 (List.mem_of_getElem? (i := 154) (by decide +kernel)) rfl
theorem qm_yX6_calibrate : Cond.instanceMethod yX6_calibrate ∈ lw_all := lw_c2 (List.mem_of_getElem? (i := 155) (by decide +kernel)) rfl
theorem qs_yX6_calibrate : Cond.selects RX6 yX6_calibrate yX6_calibrate ∈ lw_all := lw_c2 (List.mem_of_getElem? (i := 156) (by decide +kernel)) rfl
theorem qc_yX6_calibrate : Cond.code yX6_calibrate cX6_calibrate 3 (some Jvm.ClassFile.FieldType.int) ∈ lw_all := lw_c2 (List.mem_of_getElem? (i := 157) (by decide +kernel)) rfl
theorem ql_RX6_91 : Cond.methodLink RX6 91 yX6_checkThermometer ∈ lw_all := lw_c2 (List.mem_of_getElem? (i := 158) (by decide +kernel)) rfl
theorem qm_yX6_checkThermometer : Cond.instanceMethod yX6_checkThermometer ∈ lw_all := lw_c2 (List.mem_of_getElem? (i := 160) (by decide +kernel)) rfl
theorem qc_yX6_checkThermometer : Cond.code yX6_checkThermometer cX6_checkThermometer 2 none ∈ lw_all := lw_c2 (List.mem_of_getElem? (i := 161) (by decide +kernel)) rfl
theorem ql_RX6_260 : Cond.methodLink RX6 260 yX3_has ∈ lw_all := lw_c2 (List.mem_of_getElem? (i := 162) (by decide +kernel)) rfl
theorem qm_yX3_has : Cond.instanceMethod yX3_has ∈ lw_all := lw_c2 (List.mem_of_getElem? (i := 163) (by decide +kernel)) rfl
theorem qs_yX3_has : Cond.selects RX3 yX3_has yX3_has ∈ lw_all := lw_c2 (List.mem_of_getElem? (i := 164) (by decide +kernel)) rfl
theorem qc_yX3_has : Cond.code yX3_has cX3_has 2 (some Jvm.ClassFile.FieldType.boolean) ∈ lw_all := lw_c2 (List.mem_of_getElem? (i := 165) (by decide +kernel)) rfl
theorem qr_RX6_264 : Cond.stringRef RX6 264 "there is no such thermometer" ∈ lw_tbl := lw_n2 (List.mem_of_getElem? (i := 166) (by decide +kernel))
theorem ql_RX6_94 : Cond.methodLink RX6 94 yX3_at ∈ lw_all := lw_c2 (List.mem_of_getElem? (i := 167) (by decide +kernel)) rfl
theorem ql_RX6_103 : Cond.methodLink RX6 103 yX5_startAfresh ∈ lw_all := lw_c2 (List.mem_of_getElem? (i := 168) (by decide +kernel)) rfl
theorem ql_RL_110 : Cond.methodLink RL 110 yL_knock ∈ lw_all := lw_c2 (List.mem_of_getElem? (i := 169) (by decide +kernel)) rfl
theorem qt_yL_knock : Cond.static yL_knock ∈ lw_all := lw_c2 (List.mem_of_getElem? (i := 170) (by decide +kernel)) rfl
theorem qc_yL_knock : Cond.codeWith yL_knock cL_knock (5 : Nat) (Option.some Jvm.ClassFile.FieldType.int) [((0 : Nat), (10 : Nat), (13 : Nat), (13 : Nat)), ((0 : Nat), (10 : Nat), (17 : Nat), (15 : Nat)), ((0 : Nat), (10 : Nat), (21 : Nat), (17 : Nat))] ∈ lw_all := lw_c2 (List.mem_of_getElem? (i := 171) (by decide +kernel)) rfl
theorem ql_RL_33 : Cond.methodLink RL 33 yX6_knock ∈ lw_all := lw_c2 (List.mem_of_getElem? (i := 172) (by decide +kernel)) rfl
theorem qm_yX6_knock : Cond.instanceMethod yX6_knock ∈ lw_all := lw_c2 (List.mem_of_getElem? (i := 173) (by decide +kernel)) rfl
theorem qs_yX6_knock : Cond.selects RX6 yX6_knock yX6_knock ∈ lw_all := lw_c2 (List.mem_of_getElem? (i := 174) (by decide +kernel)) rfl
theorem qc_yX6_knock : Cond.code yX6_knock cX6_knock 4 (some Jvm.ClassFile.FieldType.int) ∈ lw_all := lw_c2 (List.mem_of_getElem? (i := 175) (by decide +kernel)) rfl
theorem qr_RX6_109 : Cond.stringRef RX6 109 "no thermometer shows this" ∈ lw_tbl := lw_n2 (List.mem_of_getElem? (i := 176) (by decide +kernel))
theorem qn_RX6_111 : Cond.constant RX6 111 (100000) ∈ lw_all := lw_c2 (List.mem_of_getElem? (i := 177) (by decide +kernel)) rfl
theorem ql_RL_113 : Cond.methodLink RL 113 yL_set ∈ lw_all := lw_c2 (List.mem_of_getElem? (i := 178) (by decide +kernel)) rfl
theorem qt_yL_set : Cond.static yL_set ∈ lw_all := lw_c2 (List.mem_of_getElem? (i := 179) (by decide +kernel)) rfl
theorem qc_yL_set : Cond.codeWith yL_set cL_set (5 : Nat) (Option.some Jvm.ClassFile.FieldType.int) [((0 : Nat), (10 : Nat), (13 : Nat), (13 : Nat)), ((0 : Nat), (10 : Nat), (17 : Nat), (15 : Nat))] ∈ lw_all := lw_c2 (List.mem_of_getElem? (i := 180) (by decide +kernel)) rfl
theorem ql_RL_36 : Cond.methodLink RL 36 yX6_set ∈ lw_all := lw_c2 (List.mem_of_getElem? (i := 181) (by decide +kernel)) rfl
theorem qm_yX6_set : Cond.instanceMethod yX6_set ∈ lw_all := lw_c2 (List.mem_of_getElem? (i := 182) (by decide +kernel)) rfl
theorem qs_yX6_set : Cond.selects RX6 yX6_set yX6_set ∈ lw_all := lw_c2 (List.mem_of_getElem? (i := 183) (by decide +kernel)) rfl
theorem qc_yX6_set : Cond.code yX6_set cX6_set 4 (some Jvm.ClassFile.FieldType.int) ∈ lw_all := lw_c2 (List.mem_of_getElem? (i := 184) (by decide +kernel)) rfl
theorem qr_RX6_114 : Cond.stringRef RX6 114 "there is no such setting" ∈ lw_tbl := lw_n2 (List.mem_of_getElem? (i := 185) (by decide +kernel))
theorem ql_RL_116 : Cond.methodLink RL 116 yL_append ∈ lw_all := lw_c2 (List.mem_of_getElem? (i := 186) (by decide +kernel)) rfl
theorem qt_yL_append : Cond.static yL_append ∈ lw_all := lw_c2 (List.mem_of_getElem? (i := 187) (by decide +kernel)) rfl
theorem qc_yL_append : Cond.codeWith yL_append cL_append (4 : Nat) (Option.some Jvm.ClassFile.FieldType.int) [((0 : Nat), (9 : Nat), (12 : Nat), (15 : Nat)), ((0 : Nat), (9 : Nat), (15 : Nat), (17 : Nat))] ∈ lw_all := lw_c2 (List.mem_of_getElem? (i := 188) (by decide +kernel)) rfl
theorem ql_RL_39 : Cond.methodLink RL 39 yX6_append ∈ lw_all := lw_c2 (List.mem_of_getElem? (i := 189) (by decide +kernel)) rfl
theorem qm_yX6_append : Cond.instanceMethod yX6_append ∈ lw_all := lw_c2 (List.mem_of_getElem? (i := 190) (by decide +kernel)) rfl
theorem qs_yX6_append : Cond.selects RX6 yX6_append yX6_append ∈ lw_all := lw_c2 (List.mem_of_getElem? (i := 191) (by decide +kernel)) rfl
theorem qc_yX6_append : Cond.code yX6_append cX6_append 2 (some Jvm.ClassFile.FieldType.int) ∈ lw_all := lw_c2 (List.mem_of_getElem? (i := 192) (by decide +kernel)) rfl
theorem ql_RX6_123 : Cond.methodLink RX6 123 yX2_isFull ∈ lw_all := lw_c2 (List.mem_of_getElem? (i := 193) (by decide +kernel)) rfl
theorem qm_yX2_isFull : Cond.instanceMethod yX2_isFull ∈ lw_all := lw_c2 (List.mem_of_getElem? (i := 194) (by decide +kernel)) rfl
theorem qs_yX2_isFull : Cond.selects RX2 yX2_isFull yX2_isFull ∈ lw_all := lw_c2 (List.mem_of_getElem? (i := 195) (by decide +kernel)) rfl
theorem qc_yX2_isFull : Cond.code yX2_isFull cX2_isFull 1 (some Jvm.ClassFile.FieldType.boolean) ∈ lw_all := lw_c2 (List.mem_of_getElem? (i := 196) (by decide +kernel)) rfl
theorem qr_RX6_126 : Cond.stringRef RX6 126 "the buffer holds 60 characters" ∈ lw_tbl := lw_n2 (List.mem_of_getElem? (i := 197) (by decide +kernel))
theorem ql_RX6_128 : Cond.methodLink RX6 128 yX2_addCharacter ∈ lw_all := lw_c2 (List.mem_of_getElem? (i := 198) (by decide +kernel)) rfl
theorem qm_yX2_addCharacter : Cond.instanceMethod yX2_addCharacter ∈ lw_all := lw_c2 (List.mem_of_getElem? (i := 199) (by decide +kernel)) rfl
theorem qs_yX2_addCharacter : Cond.selects RX2 yX2_addCharacter yX2_addCharacter ∈ lw_all := lw_c2 (List.mem_of_getElem? (i := 200) (by decide +kernel)) rfl
theorem qc_yX2_addCharacter : Cond.code yX2_addCharacter cX2_addCharacter 2 none ∈ lw_all := lw_c2 (List.mem_of_getElem? (i := 201) (by decide +kernel)) rfl
theorem ql_RL_127 : Cond.methodLink RL 127 yL_execute ∈ lw_all := lw_c2 (List.mem_of_getElem? (i := 202) (by decide +kernel)) rfl
theorem qt_yL_execute : Cond.static yL_execute ∈ lw_all := lw_c2 (List.mem_of_getElem? (i := 203) (by decide +kernel)) rfl
theorem qc_yL_execute : Cond.codeWith yL_execute cL_execute (3 : Nat) (Option.some Jvm.ClassFile.FieldType.int) [((0 : Nat), (8 : Nat), (11 : Nat), (15 : Nat))] ∈ lw_all := lw_c2 (List.mem_of_getElem? (i := 204) (by decide +kernel)) rfl
theorem ql_RL_42 : Cond.methodLink RL 42 yX6_execute ∈ lw_all := lw_c2 (List.mem_of_getElem? (i := 205) (by decide +kernel)) rfl
theorem qm_yX6_execute : Cond.instanceMethod yX6_execute ∈ lw_all := lw_c2 (List.mem_of_getElem? (i := 206) (by decide +kernel)) rfl
theorem qs_yX6_execute : Cond.selects RX6 yX6_execute yX6_execute ∈ lw_all := lw_c2 (List.mem_of_getElem? (i := 207) (by decide +kernel)) rfl
theorem qc_yX6_execute : Cond.code yX6_execute cX6_execute 2 (some Jvm.ClassFile.FieldType.int) ∈ lw_all := lw_c2 (List.mem_of_getElem? (i := 208) (by decide +kernel)) rfl
theorem ql_RX6_139 : Cond.methodLink RX6 139 yX2_isComplete ∈ lw_all := lw_c2 (List.mem_of_getElem? (i := 209) (by decide +kernel)) rfl
theorem qm_yX2_isComplete : Cond.instanceMethod yX2_isComplete ∈ lw_all := lw_c2 (List.mem_of_getElem? (i := 210) (by decide +kernel)) rfl
theorem qs_yX2_isComplete : Cond.selects RX2 yX2_isComplete yX2_isComplete ∈ lw_all := lw_c2 (List.mem_of_getElem? (i := 211) (by decide +kernel)) rfl
theorem qc_yX2_isComplete : Cond.code yX2_isComplete cX2_isComplete 1 (some Jvm.ClassFile.FieldType.boolean) ∈ lw_all := lw_c2 (List.mem_of_getElem? (i := 212) (by decide +kernel)) rfl
theorem qr_RX6_144 : Cond.stringRef RX6 144 "the buffer is not a complete order text" ∈ lw_tbl := lw_n2 (List.mem_of_getElem? (i := 213) (by decide +kernel))
theorem ql_RX6_147 : Cond.methodLink RX6 147 yX2_goToStart ∈ lw_all := lw_c2 (List.mem_of_getElem? (i := 214) (by decide +kernel)) rfl
theorem ql_RX6_150 : Cond.methodLink RX6 150 yX2_readNextOrder ∈ lw_all := lw_c2 (List.mem_of_getElem? (i := 215) (by decide +kernel)) rfl
theorem qm_yX2_readNextOrder : Cond.instanceMethod yX2_readNextOrder ∈ lw_all := lw_c2 (List.mem_of_getElem? (i := 216) (by decide +kernel)) rfl
theorem qs_yX2_readNextOrder : Cond.selects RX2 yX2_readNextOrder yX2_readNextOrder ∈ lw_all := lw_c2 (List.mem_of_getElem? (i := 217) (by decide +kernel)) rfl
theorem qc_yX2_readNextOrder : Cond.code yX2_readNextOrder cX2_readNextOrder 2 (some Jvm.ClassFile.FieldType.boolean) ∈ lw_all := lw_c2 (List.mem_of_getElem? (i := 218) (by decide +kernel)) rfl
theorem ql_RX6_153 : Cond.methodLink RX6 153 yX6_carriesOut ∈ lw_all := lw_c2 (List.mem_of_getElem? (i := 219) (by decide +kernel)) rfl
theorem qm_yX6_carriesOut : Cond.instanceMethod yX6_carriesOut ∈ lw_all := lw_c2 (List.mem_of_getElem? (i := 221) (by decide +kernel)) rfl
theorem qc_yX6_carriesOut : Cond.code yX6_carriesOut cX6_carriesOut 1 (some Jvm.ClassFile.FieldType.boolean) ∈ lw_all := lw_c2 (List.mem_of_getElem? (i := 222) (by decide +kernel)) rfl
theorem ql_RL_131 : Cond.methodLink RL 131 yL_undo ∈ lw_all := lw_c2 (List.mem_of_getElem? (i := 223) (by decide +kernel)) rfl
theorem qt_yL_undo : Cond.static yL_undo ∈ lw_all := lw_c2 (List.mem_of_getElem? (i := 224) (by decide +kernel)) rfl
theorem qc_yL_undo : Cond.codeWith yL_undo cL_undo (3 : Nat) (Option.some Jvm.ClassFile.FieldType.int) [((0 : Nat), (8 : Nat), (11 : Nat), (17 : Nat))] ∈ lw_all := lw_c2 (List.mem_of_getElem? (i := 225) (by decide +kernel)) rfl
theorem ql_RL_46 : Cond.methodLink RL 46 yX6_undo ∈ lw_all := lw_c2 (List.mem_of_getElem? (i := 226) (by decide +kernel)) rfl
theorem qm_yX6_undo : Cond.instanceMethod yX6_undo ∈ lw_all := lw_c2 (List.mem_of_getElem? (i := 227) (by decide +kernel)) rfl
theorem qs_yX6_undo : Cond.selects RX6 yX6_undo yX6_undo ∈ lw_all := lw_c2 (List.mem_of_getElem? (i := 228) (by decide +kernel)) rfl
theorem qc_yX6_undo : Cond.code yX6_undo cX6_undo 1 (some Jvm.ClassFile.FieldType.int) ∈ lw_all := lw_c2 (List.mem_of_getElem? (i := 229) (by decide +kernel)) rfl
theorem qr_RX6_159 : Cond.stringRef RX6 159 "no state is saved" ∈ lw_tbl := lw_n2 (List.mem_of_getElem? (i := 230) (by decide +kernel))
theorem ql_RX6_161 : Cond.methodLink RX6 161 yX1_restoreLatest ∈ lw_all := lw_c2 (List.mem_of_getElem? (i := 231) (by decide +kernel)) rfl
theorem qm_yX1_restoreLatest : Cond.instanceMethod yX1_restoreLatest ∈ lw_all := lw_c2 (List.mem_of_getElem? (i := 232) (by decide +kernel)) rfl
theorem qs_yX1_restoreLatest : Cond.selects RX1 yX1_restoreLatest yX1_restoreLatest ∈ lw_all := lw_c2 (List.mem_of_getElem? (i := 233) (by decide +kernel)) rfl
theorem qc_yX1_restoreLatest : Cond.code yX1_restoreLatest cX1_restoreLatest 2 none ∈ lw_all := lw_c2 (List.mem_of_getElem? (i := 234) (by decide +kernel)) rfl
theorem ql_RL_134 : Cond.methodLink RL 134 yL_keep ∈ lw_all := lw_c2 (List.mem_of_getElem? (i := 235) (by decide +kernel)) rfl
theorem qt_yL_keep : Cond.static yL_keep ∈ lw_all := lw_c2 (List.mem_of_getElem? (i := 236) (by decide +kernel)) rfl
theorem qc_yL_keep : Cond.codeWith yL_keep cL_keep (4 : Nat) (Option.some Jvm.ClassFile.FieldType.int) [((0 : Nat), (9 : Nat), (12 : Nat), (15 : Nat))] ∈ lw_all := lw_c2 (List.mem_of_getElem? (i := 237) (by decide +kernel)) rfl
theorem ql_RL_49 : Cond.methodLink RL 49 yX6_keep ∈ lw_all := lw_c2 (List.mem_of_getElem? (i := 238) (by decide +kernel)) rfl
theorem qm_yX6_keep : Cond.instanceMethod yX6_keep ∈ lw_all := lw_c2 (List.mem_of_getElem? (i := 239) (by decide +kernel)) rfl
theorem qs_yX6_keep : Cond.selects RX6 yX6_keep yX6_keep ∈ lw_all := lw_c3 (List.mem_of_getElem? (i := 0) (by decide +kernel)) rfl
theorem qc_yX6_keep : Cond.code yX6_keep cX6_keep 2 (some Jvm.ClassFile.FieldType.int) ∈ lw_all := lw_c3 (List.mem_of_getElem? (i := 1) (by decide +kernel)) rfl
theorem ql_RX6_164 : Cond.methodLink RX6 164 yX6_snapshotIn ∈ lw_all := lw_c3 (List.mem_of_getElem? (i := 2) (by decide +kernel)) rfl
theorem qm_yX6_snapshotIn : Cond.instanceMethod yX6_snapshotIn ∈ lw_all := lw_c3 (List.mem_of_getElem? (i := 4) (by decide +kernel)) rfl
theorem qc_yX6_snapshotIn : Cond.code yX6_snapshotIn cX6_snapshotIn 2 (some (Jvm.ClassFile.FieldType.object "LateThermometers$Snapshot")) ∈ lw_all := lw_c3 (List.mem_of_getElem? (i := 5) (by decide +kernel)) rfl
theorem ql_RX6_168 : Cond.methodLink RX6 168 yX4_take ∈ lw_all := lw_c3 (List.mem_of_getElem? (i := 6) (by decide +kernel)) rfl
theorem qm_yX4_take : Cond.instanceMethod yX4_take ∈ lw_all := lw_c3 (List.mem_of_getElem? (i := 7) (by decide +kernel)) rfl
theorem qs_yX4_take : Cond.selects RX4 yX4_take yX4_take ∈ lw_all := lw_c3 (List.mem_of_getElem? (i := 8) (by decide +kernel)) rfl
theorem qc_yX4_take : Cond.code yX4_take cX4_take 2 none ∈ lw_all := lw_c3 (List.mem_of_getElem? (i := 9) (by decide +kernel)) rfl
theorem ql_RX4_16 : Cond.methodLink RX4 16 yX3_copyFrom ∈ lw_all := lw_c3 (List.mem_of_getElem? (i := 10) (by decide +kernel)) rfl
theorem ql_RL_137 : Cond.methodLink RL 137 yL_goBack ∈ lw_all := lw_c3 (List.mem_of_getElem? (i := 11) (by decide +kernel)) rfl
theorem qt_yL_goBack : Cond.static yL_goBack ∈ lw_all := lw_c3 (List.mem_of_getElem? (i := 12) (by decide +kernel)) rfl
theorem qc_yL_goBack : Cond.codeWith yL_goBack cL_goBack (4 : Nat) (Option.some Jvm.ClassFile.FieldType.int) [((0 : Nat), (9 : Nat), (12 : Nat), (15 : Nat)), ((0 : Nat), (9 : Nat), (15 : Nat), (17 : Nat))] ∈ lw_all := lw_c3 (List.mem_of_getElem? (i := 13) (by decide +kernel)) rfl
theorem ql_RL_52 : Cond.methodLink RL 52 yX6_goBack ∈ lw_all := lw_c3 (List.mem_of_getElem? (i := 14) (by decide +kernel)) rfl
theorem qm_yX6_goBack : Cond.instanceMethod yX6_goBack ∈ lw_all := lw_c3 (List.mem_of_getElem? (i := 15) (by decide +kernel)) rfl
theorem qs_yX6_goBack : Cond.selects RX6 yX6_goBack yX6_goBack ∈ lw_all := lw_c3 (List.mem_of_getElem? (i := 16) (by decide +kernel)) rfl
theorem qc_yX6_goBack : Cond.code yX6_goBack cX6_goBack 2 (some Jvm.ClassFile.FieldType.int) ∈ lw_all := lw_c3 (List.mem_of_getElem? (i := 17) (by decide +kernel)) rfl
theorem qr_RX6_178 : Cond.stringRef RX6 178 "the slot is empty" ∈ lw_tbl := lw_n3 (List.mem_of_getElem? (i := 18) (by decide +kernel))
theorem ql_RX6_183 : Cond.methodLink RX6 183 yX3_copyFrom ∈ lw_all := lw_c3 (List.mem_of_getElem? (i := 19) (by decide +kernel)) rfl
theorem ql_RL_140 : Cond.methodLink RL 140 yL_ofThermometer ∈ lw_all := lw_c3 (List.mem_of_getElem? (i := 20) (by decide +kernel)) rfl
theorem qt_yL_ofThermometer : Cond.static yL_ofThermometer ∈ lw_all := lw_c3 (List.mem_of_getElem? (i := 21) (by decide +kernel)) rfl
theorem qc_yL_ofThermometer : Cond.codeWith yL_ofThermometer cL_ofThermometer (5 : Nat) (Option.some Jvm.ClassFile.FieldType.int) [((0 : Nat), (10 : Nat), (13 : Nat), (13 : Nat)), ((0 : Nat), (10 : Nat), (17 : Nat), (15 : Nat))] ∈ lw_all := lw_c3 (List.mem_of_getElem? (i := 22) (by decide +kernel)) rfl
theorem ql_RL_55 : Cond.methodLink RL 55 yX6_ofThermometer ∈ lw_all := lw_c3 (List.mem_of_getElem? (i := 23) (by decide +kernel)) rfl
theorem qm_yX6_ofThermometer : Cond.instanceMethod yX6_ofThermometer ∈ lw_all := lw_c3 (List.mem_of_getElem? (i := 24) (by decide +kernel)) rfl
theorem qs_yX6_ofThermometer : Cond.selects RX6 yX6_ofThermometer yX6_ofThermometer ∈ lw_all := lw_c3 (List.mem_of_getElem? (i := 25) (by decide +kernel)) rfl
theorem qc_yX6_ofThermometer : Cond.code yX6_ofThermometer cX6_ofThermometer 3 (some Jvm.ClassFile.FieldType.int) ∈ lw_all := lw_c3 (List.mem_of_getElem? (i := 26) (by decide +kernel)) rfl
theorem ql_RX6_186 : Cond.methodLink RX6 186 yX5_numberOf ∈ lw_all := lw_c3 (List.mem_of_getElem? (i := 27) (by decide +kernel)) rfl
theorem qm_yX5_numberOf : Cond.instanceMethod yX5_numberOf ∈ lw_all := lw_c3 (List.mem_of_getElem? (i := 28) (by decide +kernel)) rfl
theorem qs_yX5_numberOf : Cond.selects RX5 yX5_numberOf yX5_numberOf ∈ lw_all := lw_c3 (List.mem_of_getElem? (i := 29) (by decide +kernel)) rfl
theorem qc_yX5_numberOf : Cond.code yX5_numberOf cX5_numberOf 2 (some Jvm.ClassFile.FieldType.int) ∈ lw_all := lw_c3 (List.mem_of_getElem? (i := 30) (by decide +kernel)) rfl
theorem ql_RL_143 : Cond.methodLink RL 143 yL_reading ∈ lw_all := lw_c3 (List.mem_of_getElem? (i := 31) (by decide +kernel)) rfl
theorem qt_yL_reading : Cond.static yL_reading ∈ lw_all := lw_c3 (List.mem_of_getElem? (i := 32) (by decide +kernel)) rfl
theorem qc_yL_reading : Cond.codeWith yL_reading cL_reading (6 : Nat) (Option.some Jvm.ClassFile.FieldType.int) [((0 : Nat), (12 : Nat), (15 : Nat), (13 : Nat)), ((0 : Nat), (12 : Nat), (19 : Nat), (15 : Nat))] ∈ lw_all := lw_c3 (List.mem_of_getElem? (i := 33) (by decide +kernel)) rfl
theorem ql_RL_58 : Cond.methodLink RL 58 yX6_reading ∈ lw_all := lw_c3 (List.mem_of_getElem? (i := 34) (by decide +kernel)) rfl
theorem qm_yX6_reading : Cond.instanceMethod yX6_reading ∈ lw_all := lw_c3 (List.mem_of_getElem? (i := 35) (by decide +kernel)) rfl
theorem qs_yX6_reading : Cond.selects RX6 yX6_reading yX6_reading ∈ lw_all := lw_c3 (List.mem_of_getElem? (i := 36) (by decide +kernel)) rfl
theorem qc_yX6_reading : Cond.code yX6_reading cX6_reading 5 (some Jvm.ClassFile.FieldType.int) ∈ lw_all := lw_c3 (List.mem_of_getElem? (i := 37) (by decide +kernel)) rfl
theorem ql_RX6_189 : Cond.methodLink RX6 189 yX6_checkNotNegative ∈ lw_all := lw_c3 (List.mem_of_getElem? (i := 38) (by decide +kernel)) rfl
theorem qt_yX6_checkNotNegative : Cond.static yX6_checkNotNegative ∈ lw_all := lw_c3 (List.mem_of_getElem? (i := 39) (by decide +kernel)) rfl
theorem qc_yX6_checkNotNegative : Cond.code yX6_checkNotNegative cX6_checkNotNegative 1 none ∈ lw_all := lw_c3 (List.mem_of_getElem? (i := 40) (by decide +kernel)) rfl
theorem qr_RX6_258 : Cond.stringRef RX6 258 "an argument is negative" ∈ lw_tbl := lw_n3 (List.mem_of_getElem? (i := 41) (by decide +kernel))
theorem ql_RX6_192 : Cond.methodLink RX6 192 yX5_hourAgo ∈ lw_all := lw_c3 (List.mem_of_getElem? (i := 42) (by decide +kernel)) rfl
theorem ql_RX6_195 : Cond.methodLink RX6 195 yX5_valueAgo ∈ lw_all := lw_c3 (List.mem_of_getElem? (i := 43) (by decide +kernel)) rfl
theorem qm_yX5_valueAgo : Cond.instanceMethod yX5_valueAgo ∈ lw_all := lw_c3 (List.mem_of_getElem? (i := 44) (by decide +kernel)) rfl
theorem qs_yX5_valueAgo : Cond.selects RX5 yX5_valueAgo yX5_valueAgo ∈ lw_all := lw_c3 (List.mem_of_getElem? (i := 45) (by decide +kernel)) rfl
theorem qc_yX5_valueAgo : Cond.code yX5_valueAgo cX5_valueAgo 2 (some Jvm.ClassFile.FieldType.int) ∈ lw_all := lw_c3 (List.mem_of_getElem? (i := 46) (by decide +kernel)) rfl
theorem ql_RL_147 : Cond.methodLink RL 147 yL_row ∈ lw_all := lw_c3 (List.mem_of_getElem? (i := 47) (by decide +kernel)) rfl
theorem qt_yL_row : Cond.static yL_row ∈ lw_all := lw_c3 (List.mem_of_getElem? (i := 48) (by decide +kernel)) rfl
theorem qc_yL_row : Cond.codeWith yL_row cL_row (5 : Nat) (Option.some Jvm.ClassFile.FieldType.int) [((0 : Nat), (10 : Nat), (13 : Nat), (13 : Nat)), ((0 : Nat), (10 : Nat), (17 : Nat), (15 : Nat))] ∈ lw_all := lw_c3 (List.mem_of_getElem? (i := 49) (by decide +kernel)) rfl
theorem ql_RL_62 : Cond.methodLink RL 62 yX6_row ∈ lw_all := lw_c3 (List.mem_of_getElem? (i := 50) (by decide +kernel)) rfl
theorem qm_yX6_row : Cond.instanceMethod yX6_row ∈ lw_all := lw_c3 (List.mem_of_getElem? (i := 51) (by decide +kernel)) rfl
theorem qs_yX6_row : Cond.selects RX6 yX6_row yX6_row ∈ lw_all := lw_c3 (List.mem_of_getElem? (i := 52) (by decide +kernel)) rfl
theorem qc_yX6_row : Cond.code yX6_row cX6_row 3 (some Jvm.ClassFile.FieldType.int) ∈ lw_all := lw_c3 (List.mem_of_getElem? (i := 53) (by decide +kernel)) rfl
theorem ql_RX6_198 : Cond.methodLink RX6 198 yX3_countInRow ∈ lw_all := lw_c3 (List.mem_of_getElem? (i := 54) (by decide +kernel)) rfl
theorem qm_yX3_countInRow : Cond.instanceMethod yX3_countInRow ∈ lw_all := lw_c3 (List.mem_of_getElem? (i := 55) (by decide +kernel)) rfl
theorem qs_yX3_countInRow : Cond.selects RX3 yX3_countInRow yX3_countInRow ∈ lw_all := lw_c3 (List.mem_of_getElem? (i := 56) (by decide +kernel)) rfl
theorem qc_yX3_countInRow : Cond.code yX3_countInRow cX3_countInRow 4 (some Jvm.ClassFile.FieldType.int) ∈ lw_all := lw_c3 (List.mem_of_getElem? (i := 57) (by decide +kernel)) rfl
theorem ql_RX6_201 : Cond.methodLink RX6 201 yX3_hoursUntilRead ∈ lw_all := lw_c3 (List.mem_of_getElem? (i := 58) (by decide +kernel)) rfl
theorem qm_yX3_hoursUntilRead : Cond.instanceMethod yX3_hoursUntilRead ∈ lw_all := lw_c3 (List.mem_of_getElem? (i := 59) (by decide +kernel)) rfl
theorem qs_yX3_hoursUntilRead : Cond.selects RX3 yX3_hoursUntilRead yX3_hoursUntilRead ∈ lw_all := lw_c3 (List.mem_of_getElem? (i := 60) (by decide +kernel)) rfl
theorem qc_yX3_hoursUntilRead : Cond.code yX3_hoursUntilRead cX3_hoursUntilRead 2 (some Jvm.ClassFile.FieldType.int) ∈ lw_all := lw_c3 (List.mem_of_getElem? (i := 61) (by decide +kernel)) rfl
theorem ql_RX6_204 : Cond.methodLink RX6 204 yX3_timesReadOf ∈ lw_all := lw_c3 (List.mem_of_getElem? (i := 62) (by decide +kernel)) rfl
theorem qm_yX3_timesReadOf : Cond.instanceMethod yX3_timesReadOf ∈ lw_all := lw_c3 (List.mem_of_getElem? (i := 63) (by decide +kernel)) rfl
theorem qs_yX3_timesReadOf : Cond.selects RX3 yX3_timesReadOf yX3_timesReadOf ∈ lw_all := lw_c3 (List.mem_of_getElem? (i := 64) (by decide +kernel)) rfl
theorem qc_yX3_timesReadOf : Cond.code yX3_timesReadOf cX3_timesReadOf 2 (some Jvm.ClassFile.FieldType.int) ∈ lw_all := lw_c3 (List.mem_of_getElem? (i := 65) (by decide +kernel)) rfl
theorem ql_RL_150 : Cond.methodLink RL 150 yL_count ∈ lw_all := lw_c3 (List.mem_of_getElem? (i := 66) (by decide +kernel)) rfl
theorem qt_yL_count : Cond.static yL_count ∈ lw_all := lw_c3 (List.mem_of_getElem? (i := 67) (by decide +kernel)) rfl
theorem qc_yL_count : Cond.codeWith yL_count cL_count (4 : Nat) (Option.some Jvm.ClassFile.FieldType.int) [((0 : Nat), (9 : Nat), (12 : Nat), (15 : Nat))] ∈ lw_all := lw_c3 (List.mem_of_getElem? (i := 68) (by decide +kernel)) rfl
theorem ql_RL_65 : Cond.methodLink RL 65 yX6_count ∈ lw_all := lw_c3 (List.mem_of_getElem? (i := 69) (by decide +kernel)) rfl
theorem qm_yX6_count : Cond.instanceMethod yX6_count ∈ lw_all := lw_c3 (List.mem_of_getElem? (i := 70) (by decide +kernel)) rfl
theorem qs_yX6_count : Cond.selects RX6 yX6_count yX6_count ∈ lw_all := lw_c3 (List.mem_of_getElem? (i := 71) (by decide +kernel)) rfl
theorem qc_yX6_count : Cond.code yX6_count cX6_count 2 (some Jvm.ClassFile.FieldType.int) ∈ lw_all := lw_c3 (List.mem_of_getElem? (i := 72) (by decide +kernel)) rfl
theorem ql_RX6_208 : Cond.methodLink RX6 208 yX3_maskOfAsked ∈ lw_all := lw_c3 (List.mem_of_getElem? (i := 73) (by decide +kernel)) rfl
theorem ql_RX6_211 : Cond.methodLink RX6 211 yX3_maskOfShutOut ∈ lw_all := lw_c3 (List.mem_of_getElem? (i := 74) (by decide +kernel)) rfl
theorem qm_yX3_maskOfShutOut : Cond.instanceMethod yX3_maskOfShutOut ∈ lw_all := lw_c3 (List.mem_of_getElem? (i := 75) (by decide +kernel)) rfl
theorem qs_yX3_maskOfShutOut : Cond.selects RX3 yX3_maskOfShutOut yX3_maskOfShutOut ∈ lw_all := lw_c3 (List.mem_of_getElem? (i := 76) (by decide +kernel)) rfl
theorem qc_yX3_maskOfShutOut : Cond.code yX3_maskOfShutOut cX3_maskOfShutOut 3 (some Jvm.ClassFile.FieldType.int) ∈ lw_all := lw_c3 (List.mem_of_getElem? (i := 77) (by decide +kernel)) rfl
theorem ql_RX6_214 : Cond.methodLink RX6 214 yX3_mean ∈ lw_all := lw_c3 (List.mem_of_getElem? (i := 78) (by decide +kernel)) rfl
theorem ql_RX6_217 : Cond.methodLink RX6 217 yX3_slope ∈ lw_all := lw_c3 (List.mem_of_getElem? (i := 79) (by decide +kernel)) rfl
theorem qm_yX3_slope : Cond.instanceMethod yX3_slope ∈ lw_all := lw_c3 (List.mem_of_getElem? (i := 80) (by decide +kernel)) rfl
theorem qs_yX3_slope : Cond.selects RX3 yX3_slope yX3_slope ∈ lw_all := lw_c3 (List.mem_of_getElem? (i := 81) (by decide +kernel)) rfl
theorem qc_yX3_slope : Cond.code yX3_slope cX3_slope 2 (some Jvm.ClassFile.FieldType.int) ∈ lw_all := lw_c3 (List.mem_of_getElem? (i := 82) (by decide +kernel)) rfl
theorem ql_RX6_220 : Cond.methodLink RX6 220 yX3_middleWithout ∈ lw_all := lw_c3 (List.mem_of_getElem? (i := 83) (by decide +kernel)) rfl
theorem ql_RL_153 : Cond.methodLink RL 153 yL_ranked ∈ lw_all := lw_c3 (List.mem_of_getElem? (i := 84) (by decide +kernel)) rfl
theorem qt_yL_ranked : Cond.static yL_ranked ∈ lw_all := lw_c3 (List.mem_of_getElem? (i := 85) (by decide +kernel)) rfl
theorem qc_yL_ranked : Cond.codeWith yL_ranked cL_ranked (5 : Nat) (Option.some Jvm.ClassFile.FieldType.int) [((0 : Nat), (10 : Nat), (13 : Nat), (15 : Nat))] ∈ lw_all := lw_c3 (List.mem_of_getElem? (i := 86) (by decide +kernel)) rfl
theorem ql_RL_68 : Cond.methodLink RL 68 yX6_ranked ∈ lw_all := lw_c3 (List.mem_of_getElem? (i := 87) (by decide +kernel)) rfl
theorem qm_yX6_ranked : Cond.instanceMethod yX6_ranked ∈ lw_all := lw_c3 (List.mem_of_getElem? (i := 88) (by decide +kernel)) rfl
theorem qs_yX6_ranked : Cond.selects RX6 yX6_ranked yX6_ranked ∈ lw_all := lw_c3 (List.mem_of_getElem? (i := 89) (by decide +kernel)) rfl
theorem qc_yX6_ranked : Cond.code yX6_ranked cX6_ranked 3 (some Jvm.ClassFile.FieldType.int) ∈ lw_all := lw_c3 (List.mem_of_getElem? (i := 90) (by decide +kernel)) rfl
theorem ql_RX6_229 : Cond.methodLink RX6 229 yX3_atRank ∈ lw_all := lw_c3 (List.mem_of_getElem? (i := 91) (by decide +kernel)) rfl
theorem qm_yX3_atRank : Cond.instanceMethod yX3_atRank ∈ lw_all := lw_c3 (List.mem_of_getElem? (i := 92) (by decide +kernel)) rfl
theorem qs_yX3_atRank : Cond.selects RX3 yX3_atRank yX3_atRank ∈ lw_all := lw_c3 (List.mem_of_getElem? (i := 93) (by decide +kernel)) rfl
theorem qc_yX3_atRank : Cond.code yX3_atRank cX3_atRank 4 (some Jvm.ClassFile.FieldType.int) ∈ lw_all := lw_c3 (List.mem_of_getElem? (i := 94) (by decide +kernel)) rfl
theorem ql_RX3_179 : Cond.methodLink RX3 179 yX3_countAheadOf ∈ lw_all := lw_c3 (List.mem_of_getElem? (i := 95) (by decide +kernel)) rfl
theorem qm_yX3_countAheadOf : Cond.instanceMethod yX3_countAheadOf ∈ lw_all := lw_c3 (List.mem_of_getElem? (i := 97) (by decide +kernel)) rfl
theorem qc_yX3_countAheadOf : Cond.code yX3_countAheadOf cX3_countAheadOf 7 (some Jvm.ClassFile.FieldType.int) ∈ lw_all := lw_c3 (List.mem_of_getElem? (i := 98) (by decide +kernel)) rfl
theorem ql_RX3_182 : Cond.methodLink RX3 182 yX3_sortKey ∈ lw_all := lw_c3 (List.mem_of_getElem? (i := 99) (by decide +kernel)) rfl
theorem qm_yX3_sortKey : Cond.instanceMethod yX3_sortKey ∈ lw_all := lw_c3 (List.mem_of_getElem? (i := 101) (by decide +kernel)) rfl
theorem qc_yX3_sortKey : Cond.code yX3_sortKey cX3_sortKey 3 (some Jvm.ClassFile.FieldType.int) ∈ lw_all := lw_c3 (List.mem_of_getElem? (i := 102) (by decide +kernel)) rfl
theorem ql_RL_160 : Cond.methodLink RL 160 yL_ifLag ∈ lw_all := lw_c3 (List.mem_of_getElem? (i := 103) (by decide +kernel)) rfl
theorem qt_yL_ifLag : Cond.static yL_ifLag ∈ lw_all := lw_c3 (List.mem_of_getElem? (i := 104) (by decide +kernel)) rfl
theorem qc_yL_ifLag : Cond.codeWith yL_ifLag cL_ifLag (5 : Nat) (Option.some Jvm.ClassFile.FieldType.int) [((0 : Nat), (10 : Nat), (13 : Nat), (13 : Nat)), ((0 : Nat), (10 : Nat), (17 : Nat), (15 : Nat))] ∈ lw_all := lw_c3 (List.mem_of_getElem? (i := 105) (by decide +kernel)) rfl
theorem ql_RL_71 : Cond.methodLink RL 71 yX6_ifLag ∈ lw_all := lw_c3 (List.mem_of_getElem? (i := 106) (by decide +kernel)) rfl
theorem qm_yX6_ifLag : Cond.instanceMethod yX6_ifLag ∈ lw_all := lw_c3 (List.mem_of_getElem? (i := 107) (by decide +kernel)) rfl
theorem qs_yX6_ifLag : Cond.selects RX6 yX6_ifLag yX6_ifLag ∈ lw_all := lw_c3 (List.mem_of_getElem? (i := 108) (by decide +kernel)) rfl
theorem qc_yX6_ifLag : Cond.code yX6_ifLag cX6_ifLag 3 (some Jvm.ClassFile.FieldType.int) ∈ lw_all := lw_c3 (List.mem_of_getElem? (i := 109) (by decide +kernel)) rfl
theorem ql_RX6_236 : Cond.methodLink RX6 236 yX5_mendedWith ∈ lw_all := lw_c3 (List.mem_of_getElem? (i := 110) (by decide +kernel)) rfl
theorem ql_RL_163 : Cond.methodLink RL 163 yL_bestLag ∈ lw_all := lw_c3 (List.mem_of_getElem? (i := 111) (by decide +kernel)) rfl
theorem qt_yL_bestLag : Cond.static yL_bestLag ∈ lw_all := lw_c3 (List.mem_of_getElem? (i := 112) (by decide +kernel)) rfl
theorem qc_yL_bestLag : Cond.codeWith yL_bestLag cL_bestLag (4 : Nat) (Option.some Jvm.ClassFile.FieldType.int) [((0 : Nat), (9 : Nat), (12 : Nat), (13 : Nat))] ∈ lw_all := lw_c3 (List.mem_of_getElem? (i := 113) (by decide +kernel)) rfl
theorem ql_RL_74 : Cond.methodLink RL 74 yX6_bestLag ∈ lw_all := lw_c3 (List.mem_of_getElem? (i := 114) (by decide +kernel)) rfl
theorem qm_yX6_bestLag : Cond.instanceMethod yX6_bestLag ∈ lw_all := lw_c3 (List.mem_of_getElem? (i := 115) (by decide +kernel)) rfl
theorem qs_yX6_bestLag : Cond.selects RX6 yX6_bestLag yX6_bestLag ∈ lw_all := lw_c3 (List.mem_of_getElem? (i := 116) (by decide +kernel)) rfl
theorem qc_yX6_bestLag : Cond.code yX6_bestLag cX6_bestLag 2 (some Jvm.ClassFile.FieldType.int) ∈ lw_all := lw_c3 (List.mem_of_getElem? (i := 117) (by decide +kernel)) rfl
theorem ql_RX6_239 : Cond.methodLink RX6 239 yX5_lagNearestTo ∈ lw_all := lw_c3 (List.mem_of_getElem? (i := 118) (by decide +kernel)) rfl
theorem qm_yX5_lagNearestTo : Cond.instanceMethod yX5_lagNearestTo ∈ lw_all := lw_c3 (List.mem_of_getElem? (i := 119) (by decide +kernel)) rfl
theorem qs_yX5_lagNearestTo : Cond.selects RX5 yX5_lagNearestTo yX5_lagNearestTo ∈ lw_all := lw_c3 (List.mem_of_getElem? (i := 120) (by decide +kernel)) rfl
theorem qc_yX5_lagNearestTo : Cond.code yX5_lagNearestTo cX5_lagNearestTo 6 (some Jvm.ClassFile.FieldType.int) ∈ lw_all := lw_c3 (List.mem_of_getElem? (i := 121) (by decide +kernel)) rfl
theorem ql_RX5_91 : Cond.methodLink RX5 91 yX5_hasMended ∈ lw_all := lw_c3 (List.mem_of_getElem? (i := 122) (by decide +kernel)) rfl
theorem ql_RL_166 : Cond.methodLink RL 166 yL_ifStill ∈ lw_all := lw_c3 (List.mem_of_getElem? (i := 123) (by decide +kernel)) rfl
theorem qt_yL_ifStill : Cond.static yL_ifStill ∈ lw_all := lw_c3 (List.mem_of_getElem? (i := 124) (by decide +kernel)) rfl
theorem qc_yL_ifStill : Cond.codeWith yL_ifStill cL_ifStill (5 : Nat) (Option.some Jvm.ClassFile.FieldType.int) [((0 : Nat), (10 : Nat), (13 : Nat), (15 : Nat))] ∈ lw_all := lw_c3 (List.mem_of_getElem? (i := 125) (by decide +kernel)) rfl
theorem ql_RL_77 : Cond.methodLink RL 77 yX6_ifStill ∈ lw_all := lw_c3 (List.mem_of_getElem? (i := 126) (by decide +kernel)) rfl
theorem qm_yX6_ifStill : Cond.instanceMethod yX6_ifStill ∈ lw_all := lw_c3 (List.mem_of_getElem? (i := 127) (by decide +kernel)) rfl
theorem qs_yX6_ifStill : Cond.selects RX6 yX6_ifStill yX6_ifStill ∈ lw_all := lw_c3 (List.mem_of_getElem? (i := 128) (by decide +kernel)) rfl
theorem qc_yX6_ifStill : Cond.code yX6_ifStill cX6_ifStill 3 (some Jvm.ClassFile.FieldType.int) ∈ lw_all := lw_c3 (List.mem_of_getElem? (i := 129) (by decide +kernel)) rfl
theorem ql_RX6_242 : Cond.methodLink RX6 242 yX3_greatestDistance ∈ lw_all := lw_c3 (List.mem_of_getElem? (i := 130) (by decide +kernel)) rfl
theorem qm_yX3_greatestDistance : Cond.instanceMethod yX3_greatestDistance ∈ lw_all := lw_c3 (List.mem_of_getElem? (i := 131) (by decide +kernel)) rfl
theorem qs_yX3_greatestDistance : Cond.selects RX3 yX3_greatestDistance yX3_greatestDistance ∈ lw_all := lw_c3 (List.mem_of_getElem? (i := 132) (by decide +kernel)) rfl
theorem qc_yX3_greatestDistance : Cond.code yX3_greatestDistance cX3_greatestDistance 3 (some Jvm.ClassFile.FieldType.int) ∈ lw_all := lw_c3 (List.mem_of_getElem? (i := 133) (by decide +kernel)) rfl
theorem ql_RX3_188 : Cond.methodLink RX3 188 yX5_distance ∈ lw_all := lw_c3 (List.mem_of_getElem? (i := 134) (by decide +kernel)) rfl
theorem qm_yX5_distance : Cond.instanceMethod yX5_distance ∈ lw_all := lw_c3 (List.mem_of_getElem? (i := 135) (by decide +kernel)) rfl
theorem qs_yX5_distance : Cond.selects RX5 yX5_distance yX5_distance ∈ lw_all := lw_c3 (List.mem_of_getElem? (i := 136) (by decide +kernel)) rfl
theorem qc_yX5_distance : Cond.code yX5_distance cX5_distance 2 (some Jvm.ClassFile.FieldType.int) ∈ lw_all := lw_c3 (List.mem_of_getElem? (i := 137) (by decide +kernel)) rfl
theorem ql_RL_169 : Cond.methodLink RL 169 yL_stillIn ∈ lw_all := lw_c3 (List.mem_of_getElem? (i := 138) (by decide +kernel)) rfl
theorem qt_yL_stillIn : Cond.static yL_stillIn ∈ lw_all := lw_c3 (List.mem_of_getElem? (i := 139) (by decide +kernel)) rfl
theorem qc_yL_stillIn : Cond.codeWith yL_stillIn cL_stillIn (4 : Nat) (Option.some Jvm.ClassFile.FieldType.int) [((0 : Nat), (9 : Nat), (12 : Nat), (13 : Nat))] ∈ lw_all := lw_c3 (List.mem_of_getElem? (i := 140) (by decide +kernel)) rfl
theorem ql_RL_80 : Cond.methodLink RL 80 yX6_stillIn ∈ lw_all := lw_c3 (List.mem_of_getElem? (i := 141) (by decide +kernel)) rfl
theorem qm_yX6_stillIn : Cond.instanceMethod yX6_stillIn ∈ lw_all := lw_c3 (List.mem_of_getElem? (i := 142) (by decide +kernel)) rfl
theorem qs_yX6_stillIn : Cond.selects RX6 yX6_stillIn yX6_stillIn ∈ lw_all := lw_c3 (List.mem_of_getElem? (i := 143) (by decide +kernel)) rfl
theorem qc_yX6_stillIn : Cond.code yX6_stillIn cX6_stillIn 2 (some Jvm.ClassFile.FieldType.int) ∈ lw_all := lw_c3 (List.mem_of_getElem? (i := 144) (by decide +kernel)) rfl
theorem ql_RX6_245 : Cond.methodLink RX6 245 yX5_hoursUntilStill ∈ lw_all := lw_c3 (List.mem_of_getElem? (i := 145) (by decide +kernel)) rfl
theorem qm_yX5_hoursUntilStill : Cond.instanceMethod yX5_hoursUntilStill ∈ lw_all := lw_c3 (List.mem_of_getElem? (i := 146) (by decide +kernel)) rfl
theorem qs_yX5_hoursUntilStill : Cond.selects RX5 yX5_hoursUntilStill yX5_hoursUntilStill ∈ lw_all := lw_c3 (List.mem_of_getElem? (i := 147) (by decide +kernel)) rfl
theorem qc_yX5_hoursUntilStill : Cond.code yX5_hoursUntilStill cX5_hoursUntilStill 5 (some Jvm.ClassFile.FieldType.int) ∈ lw_all := lw_c3 (List.mem_of_getElem? (i := 148) (by decide +kernel)) rfl
theorem qn_RX5_66 : Cond.constant RX5 66 (100000) ∈ lw_all := lw_c3 (List.mem_of_getElem? (i := 149) (by decide +kernel)) rfl
theorem qk_RL_84 : Cond.classLink RL 84 RX7 ∈ lw_all := lw_c3 (List.mem_of_getElem? (i := 150) (by decide +kernel)) rfl
theorem qa_RX7 : Cond.instantiable RX7 18 ∈ lw_all := lw_c3 (List.mem_of_getElem? (i := 151) (by decide +kernel)) rfl
theorem ql_RL_86 : Cond.methodLink RL 86 yX7_init ∈ lw_all := lw_c3 (List.mem_of_getElem? (i := 152) (by decide +kernel)) rfl
theorem qm_yX7_init : Cond.instanceMethod yX7_init ∈ lw_all := lw_c3 (List.mem_of_getElem? (i := 153) (by decide +kernel)) rfl
theorem qc_yX7_init : Cond.code yX7_init cX7_init 2 none ∈ lw_all := lw_c3 (List.mem_of_getElem? (i := 154) (by decide +kernel)) rfl
theorem ql_RX7_1 : Cond.methodLink RX7 1 objectInit ∈ lw_all := lw_c3 (List.mem_of_getElem? (i := 155) (by decide +kernel)) rfl
theorem qn_RX7_47 : Cond.constant RX7 47 (-999999) ∈ lw_all := lw_c3 (List.mem_of_getElem? (i := 156) (by decide +kernel)) rfl
theorem qf_RX7_7 : Cond.fieldLink RX7 7 "LateThermometersModel" "row" "[I" ∈ lw_all := lw_c3 (List.mem_of_getElem? (i := 157) (by decide +kernel)) rfl
theorem qf_RX7_13 : Cond.fieldLink RX7 13 "LateThermometersModel" "saved" "[I" ∈ lw_all := lw_c3 (List.mem_of_getElem? (i := 158) (by decide +kernel)) rfl
theorem qf_RX7_56 : Cond.fieldLink RX7 56 "LateThermometersModel" "savedMany" "I" ∈ lw_all := lw_c3 (List.mem_of_getElem? (i := 159) (by decide +kernel)) rfl
theorem qf_RX7_16 : Cond.fieldLink RX7 16 "LateThermometersModel" "snapshots" "[I" ∈ lw_all := lw_c3 (List.mem_of_getElem? (i := 160) (by decide +kernel)) rfl
theorem qf_RX7_19 : Cond.fieldLink RX7 19 "LateThermometersModel" "isKept" "[Z" ∈ lw_all := lw_c3 (List.mem_of_getElem? (i := 161) (by decide +kernel)) rfl
theorem qf_RX7_23 : Cond.fieldLink RX7 23 "LateThermometersModel" "aside" "[I" ∈ lw_all := lw_c3 (List.mem_of_getElem? (i := 162) (by decide +kernel)) rfl
theorem qf_RX7_48 : Cond.fieldLink RX7 48 "LateThermometersModel" "thrown" "I" ∈ lw_all := lw_c3 (List.mem_of_getElem? (i := 163) (by decide +kernel)) rfl
theorem qf_RX7_26 : Cond.fieldLink RX7 26 "LateThermometersModel" "sorted" "[I" ∈ lw_all := lw_c3 (List.mem_of_getElem? (i := 164) (by decide +kernel)) rfl
theorem qf_RX7_73 : Cond.fieldLink RX7 73 "LateThermometersModel" "sortedMany" "I" ∈ lw_all := lw_c3 (List.mem_of_getElem? (i := 165) (by decide +kernel)) rfl
theorem qf_RX7_29 : Cond.fieldLink RX7 29 "LateThermometersModel" "isCompared" "[Z" ∈ lw_all := lw_c3 (List.mem_of_getElem? (i := 166) (by decide +kernel)) rfl
theorem qf_RX7_32 : Cond.fieldLink RX7 32 "LateThermometersModel" "buffer" "[I" ∈ lw_all := lw_c3 (List.mem_of_getElem? (i := 167) (by decide +kernel)) rfl
theorem qf_RX7_148 : Cond.fieldLink RX7 148 "LateThermometersModel" "length" "I" ∈ lw_all := lw_c3 (List.mem_of_getElem? (i := 168) (by decide +kernel)) rfl
theorem qf_RX7_151 : Cond.fieldLink RX7 151 "LateThermometersModel" "spot" "I" ∈ lw_all := lw_c3 (List.mem_of_getElem? (i := 169) (by decide +kernel)) rfl
theorem qf_RX7_161 : Cond.fieldLink RX7 161 "LateThermometersModel" "orders" "I" ∈ lw_all := lw_c3 (List.mem_of_getElem? (i := 170) (by decide +kernel)) rfl
theorem qf_RX7_35 : Cond.fieldLink RX7 35 "LateThermometersModel" "letter" "[I" ∈ lw_all := lw_c3 (List.mem_of_getElem? (i := 171) (by decide +kernel)) rfl
theorem qf_RX7_38 : Cond.fieldLink RX7 38 "LateThermometersModel" "one" "[I" ∈ lw_all := lw_c3 (List.mem_of_getElem? (i := 172) (by decide +kernel)) rfl
theorem qf_RX7_41 : Cond.fieldLink RX7 41 "LateThermometersModel" "two" "[I" ∈ lw_all := lw_c3 (List.mem_of_getElem? (i := 173) (by decide +kernel)) rfl
theorem qf_RX7_44 : Cond.fieldLink RX7 44 "LateThermometersModel" "three" "[I" ∈ lw_all := lw_c3 (List.mem_of_getElem? (i := 174) (by decide +kernel)) rfl
theorem qy_3 : Cond.arrayClass Jvm.ClassFile.FieldType.boolean ∈ lw_all := lw_c3 (List.mem_of_getElem? (i := 212) (by decide +kernel)) rfl
theorem ql_RL_93 : Cond.methodLink RL 93 yX7_thrown ∈ lw_all := lw_c3 (List.mem_of_getElem? (i := 213) (by decide +kernel)) rfl
theorem qm_yX7_thrown : Cond.instanceMethod yX7_thrown ∈ lw_all := lw_c3 (List.mem_of_getElem? (i := 214) (by decide +kernel)) rfl
theorem qs_yX7_thrown : Cond.selects RX7 yX7_thrown yX7_thrown ∈ lw_all := lw_c3 (List.mem_of_getElem? (i := 215) (by decide +kernel)) rfl
theorem qc_yX7_thrown : Cond.code yX7_thrown cX7_thrown 1 (some Jvm.ClassFile.FieldType.int) ∈ lw_all := lw_c3 (List.mem_of_getElem? (i := 216) (by decide +kernel)) rfl
theorem ql_RL_133 : Cond.methodLink RL 133 yX7_undo ∈ lw_all := lw_c3 (List.mem_of_getElem? (i := 217) (by decide +kernel)) rfl
theorem qm_yX7_undo : Cond.instanceMethod yX7_undo ∈ lw_all := lw_c3 (List.mem_of_getElem? (i := 218) (by decide +kernel)) rfl
theorem qs_yX7_undo : Cond.selects RX7 yX7_undo yX7_undo ∈ lw_all := lw_c3 (List.mem_of_getElem? (i := 219) (by decide +kernel)) rfl
theorem qc_yX7_undo : Cond.code yX7_undo cX7_undo 2 (some Jvm.ClassFile.FieldType.int) ∈ lw_all := lw_c3 (List.mem_of_getElem? (i := 220) (by decide +kernel)) rfl
theorem ql_RX7_59 : Cond.methodLink RX7 59 yX7_fails ∈ lw_all := lw_c3 (List.mem_of_getElem? (i := 221) (by decide +kernel)) rfl
theorem qm_yX7_fails : Cond.instanceMethod yX7_fails ∈ lw_all := lw_c3 (List.mem_of_getElem? (i := 223) (by decide +kernel)) rfl
theorem qc_yX7_fails : Cond.code yX7_fails cX7_fails 2 (some Jvm.ClassFile.FieldType.int) ∈ lw_all := lw_c3 (List.mem_of_getElem? (i := 224) (by decide +kernel)) rfl
theorem ql_RL_136 : Cond.methodLink RL 136 yX7_keep ∈ lw_all := lw_c3 (List.mem_of_getElem? (i := 225) (by decide +kernel)) rfl
theorem qm_yX7_keep : Cond.instanceMethod yX7_keep ∈ lw_all := lw_c3 (List.mem_of_getElem? (i := 226) (by decide +kernel)) rfl
theorem qs_yX7_keep : Cond.selects RX7 yX7_keep yX7_keep ∈ lw_all := lw_c3 (List.mem_of_getElem? (i := 227) (by decide +kernel)) rfl
theorem qc_yX7_keep : Cond.code yX7_keep cX7_keep 3 (some Jvm.ClassFile.FieldType.int) ∈ lw_all := lw_c3 (List.mem_of_getElem? (i := 228) (by decide +kernel)) rfl
theorem ql_RX7_52 : Cond.methodLink RX7 52 yX7_in ∈ lw_all := lw_c3 (List.mem_of_getElem? (i := 229) (by decide +kernel)) rfl
theorem qt_yX7_in : Cond.static yX7_in ∈ lw_all := lw_c3 (List.mem_of_getElem? (i := 230) (by decide +kernel)) rfl
theorem qc_yX7_in : Cond.code yX7_in cX7_in 3 (some Jvm.ClassFile.FieldType.boolean) ∈ lw_all := lw_c3 (List.mem_of_getElem? (i := 231) (by decide +kernel)) rfl
theorem ql_RL_139 : Cond.methodLink RL 139 yX7_goBack ∈ lw_all := lw_c3 (List.mem_of_getElem? (i := 232) (by decide +kernel)) rfl
theorem qm_yX7_goBack : Cond.instanceMethod yX7_goBack ∈ lw_all := lw_c3 (List.mem_of_getElem? (i := 233) (by decide +kernel)) rfl
theorem qs_yX7_goBack : Cond.selects RX7 yX7_goBack yX7_goBack ∈ lw_all := lw_c3 (List.mem_of_getElem? (i := 234) (by decide +kernel)) rfl
theorem qc_yX7_goBack : Cond.code yX7_goBack cX7_goBack 3 (some Jvm.ClassFile.FieldType.int) ∈ lw_all := lw_c3 (List.mem_of_getElem? (i := 235) (by decide +kernel)) rfl
theorem ql_RX7_63 : Cond.methodLink RX7 63 yX7_save ∈ lw_all := lw_c3 (List.mem_of_getElem? (i := 236) (by decide +kernel)) rfl
theorem qm_yX7_save : Cond.instanceMethod yX7_save ∈ lw_all := lw_c3 (List.mem_of_getElem? (i := 238) (by decide +kernel)) rfl
theorem qc_yX7_save : Cond.code yX7_save cX7_save 2 none ∈ lw_all := lw_c3 (List.mem_of_getElem? (i := 239) (by decide +kernel)) rfl
theorem ql_RL_92 : Cond.methodLink RL 92 yX7_thermometer ∈ lw_all := lw_c4 (List.mem_of_getElem? (i := 0) (by decide +kernel)) rfl
theorem qm_yX7_thermometer : Cond.instanceMethod yX7_thermometer ∈ lw_all := lw_c4 (List.mem_of_getElem? (i := 1) (by decide +kernel)) rfl
theorem qs_yX7_thermometer : Cond.selects RX7 yX7_thermometer yX7_thermometer ∈ lw_all := lw_c4 (List.mem_of_getElem? (i := 2) (by decide +kernel)) rfl
theorem qc_yX7_thermometer : Cond.code yX7_thermometer cX7_thermometer 5 (some Jvm.ClassFile.FieldType.int) ∈ lw_all := lw_c4 (List.mem_of_getElem? (i := 3) (by decide +kernel)) rfl
theorem ql_RX7_122 : Cond.methodLink RX7 122 yX7_isRow ∈ lw_all := lw_c4 (List.mem_of_getElem? (i := 4) (by decide +kernel)) rfl
theorem qt_yX7_isRow : Cond.static yX7_isRow ∈ lw_all := lw_c4 (List.mem_of_getElem? (i := 5) (by decide +kernel)) rfl
theorem qc_yX7_isRow : Cond.code yX7_isRow cX7_isRow 1 (some Jvm.ClassFile.FieldType.boolean) ∈ lw_all := lw_c4 (List.mem_of_getElem? (i := 6) (by decide +kernel)) rfl
theorem ql_RX7_125 : Cond.methodLink RX7 125 yX7_areNumbers ∈ lw_all := lw_c4 (List.mem_of_getElem? (i := 7) (by decide +kernel)) rfl
theorem qt_yX7_areNumbers : Cond.static yX7_areNumbers ∈ lw_all := lw_c4 (List.mem_of_getElem? (i := 8) (by decide +kernel)) rfl
theorem qc_yX7_areNumbers : Cond.code yX7_areNumbers cX7_areNumbers 3 (some Jvm.ClassFile.FieldType.boolean) ∈ lw_all := lw_c4 (List.mem_of_getElem? (i := 9) (by decide +kernel)) rfl
theorem ql_RX7_128 : Cond.methodLink RX7 128 yX7_add ∈ lw_all := lw_c4 (List.mem_of_getElem? (i := 10) (by decide +kernel)) rfl
theorem qm_yX7_add : Cond.instanceMethod yX7_add ∈ lw_all := lw_c4 (List.mem_of_getElem? (i := 12) (by decide +kernel)) rfl
theorem qc_yX7_add : Cond.code yX7_add cX7_add 7 (some Jvm.ClassFile.FieldType.int) ∈ lw_all := lw_c4 (List.mem_of_getElem? (i := 13) (by decide +kernel)) rfl
theorem ql_RX7_94 : Cond.methodLink RX7 94 yX7_put ∈ lw_all := lw_c4 (List.mem_of_getElem? (i := 14) (by decide +kernel)) rfl
theorem qm_yX7_put : Cond.instanceMethod yX7_put ∈ lw_all := lw_c4 (List.mem_of_getElem? (i := 16) (by decide +kernel)) rfl
theorem qc_yX7_put : Cond.code yX7_put cX7_put 4 none ∈ lw_all := lw_c4 (List.mem_of_getElem? (i := 17) (by decide +kernel)) rfl
theorem ql_RL_99 : Cond.methodLink RL 99 yX7_hour ∈ lw_all := lw_c4 (List.mem_of_getElem? (i := 18) (by decide +kernel)) rfl
theorem qm_yX7_hour : Cond.instanceMethod yX7_hour ∈ lw_all := lw_c4 (List.mem_of_getElem? (i := 19) (by decide +kernel)) rfl
theorem qs_yX7_hour : Cond.selects RX7 yX7_hour yX7_hour ∈ lw_all := lw_c4 (List.mem_of_getElem? (i := 20) (by decide +kernel)) rfl
theorem qc_yX7_hour : Cond.code yX7_hour cX7_hour 2 (some Jvm.ClassFile.FieldType.int) ∈ lw_all := lw_c4 (List.mem_of_getElem? (i := 21) (by decide +kernel)) rfl
theorem ql_RX7_132 : Cond.methodLink RX7 132 yX7_isTemperature ∈ lw_all := lw_c4 (List.mem_of_getElem? (i := 22) (by decide +kernel)) rfl
theorem qt_yX7_isTemperature : Cond.static yX7_isTemperature ∈ lw_all := lw_c4 (List.mem_of_getElem? (i := 23) (by decide +kernel)) rfl
theorem qc_yX7_isTemperature : Cond.code yX7_isTemperature cX7_isTemperature 1 (some Jvm.ClassFile.FieldType.boolean) ∈ lw_all := lw_c4 (List.mem_of_getElem? (i := 24) (by decide +kernel)) rfl
theorem ql_RX7_135 : Cond.methodLink RX7 135 yX7_pass ∈ lw_all := lw_c4 (List.mem_of_getElem? (i := 25) (by decide +kernel)) rfl
theorem qm_yX7_pass : Cond.instanceMethod yX7_pass ∈ lw_all := lw_c4 (List.mem_of_getElem? (i := 27) (by decide +kernel)) rfl
theorem qc_yX7_pass : Cond.code yX7_pass cX7_pass 3 (some Jvm.ClassFile.FieldType.int) ∈ lw_all := lw_c4 (List.mem_of_getElem? (i := 28) (by decide +kernel)) rfl
theorem ql_RX7_87 : Cond.methodLink RX7 87 yX7_mean ∈ lw_all := lw_c4 (List.mem_of_getElem? (i := 29) (by decide +kernel)) rfl
theorem qm_yX7_mean : Cond.instanceMethod yX7_mean ∈ lw_all := lw_c4 (List.mem_of_getElem? (i := 31) (by decide +kernel)) rfl
theorem qc_yX7_mean : Cond.code yX7_mean cX7_mean 4 (some Jvm.ClassFile.FieldType.int) ∈ lw_all := lw_c4 (List.mem_of_getElem? (i := 32) (by decide +kernel)) rfl
theorem ql_RX7_76 : Cond.methodLink RX7 76 yX7_isAsked ∈ lw_all := lw_c4 (List.mem_of_getElem? (i := 33) (by decide +kernel)) rfl
theorem qm_yX7_isAsked : Cond.instanceMethod yX7_isAsked ∈ lw_all := lw_c4 (List.mem_of_getElem? (i := 35) (by decide +kernel)) rfl
theorem qc_yX7_isAsked : Cond.code yX7_isAsked cX7_isAsked 2 (some Jvm.ClassFile.FieldType.boolean) ∈ lw_all := lw_c4 (List.mem_of_getElem? (i := 36) (by decide +kernel)) rfl
theorem ql_RX7_66 : Cond.methodLink RX7 66 yX7_of ∈ lw_all := lw_c4 (List.mem_of_getElem? (i := 37) (by decide +kernel)) rfl
theorem qm_yX7_of : Cond.instanceMethod yX7_of ∈ lw_all := lw_c4 (List.mem_of_getElem? (i := 39) (by decide +kernel)) rfl
theorem qc_yX7_of : Cond.code yX7_of cX7_of 3 (some Jvm.ClassFile.FieldType.int) ∈ lw_all := lw_c4 (List.mem_of_getElem? (i := 40) (by decide +kernel)) rfl
theorem ql_RX7_80 : Cond.methodLink RX7 80 yX7_mended ∈ lw_all := lw_c4 (List.mem_of_getElem? (i := 41) (by decide +kernel)) rfl
theorem qm_yX7_mended : Cond.instanceMethod yX7_mended ∈ lw_all := lw_c4 (List.mem_of_getElem? (i := 43) (by decide +kernel)) rfl
theorem qc_yX7_mended : Cond.code yX7_mended cX7_mended 2 (some Jvm.ClassFile.FieldType.int) ∈ lw_all := lw_c4 (List.mem_of_getElem? (i := 44) (by decide +kernel)) rfl
theorem ql_RX7_70 : Cond.methodLink RX7 70 yX7_mendedBy ∈ lw_all := lw_c4 (List.mem_of_getElem? (i := 45) (by decide +kernel)) rfl
theorem qm_yX7_mendedBy : Cond.instanceMethod yX7_mendedBy ∈ lw_all := lw_c4 (List.mem_of_getElem? (i := 47) (by decide +kernel)) rfl
theorem qc_yX7_mendedBy : Cond.code yX7_mendedBy cX7_mendedBy 5 (some Jvm.ClassFile.FieldType.int) ∈ lw_all := lw_c4 (List.mem_of_getElem? (i := 48) (by decide +kernel)) rfl
theorem ql_RX7_113 : Cond.methodLink RX7 113 yX7_follow ∈ lw_all := lw_c4 (List.mem_of_getElem? (i := 49) (by decide +kernel)) rfl
theorem qm_yX7_follow : Cond.instanceMethod yX7_follow ∈ lw_all := lw_c4 (List.mem_of_getElem? (i := 51) (by decide +kernel)) rfl
theorem qc_yX7_follow : Cond.code yX7_follow cX7_follow 2 none ∈ lw_all := lw_c4 (List.mem_of_getElem? (i := 52) (by decide +kernel)) rfl
theorem ql_RX7_91 : Cond.methodLink RX7 91 yX7_changeOf ∈ lw_all := lw_c4 (List.mem_of_getElem? (i := 53) (by decide +kernel)) rfl
theorem qm_yX7_changeOf : Cond.instanceMethod yX7_changeOf ∈ lw_all := lw_c4 (List.mem_of_getElem? (i := 55) (by decide +kernel)) rfl
theorem qc_yX7_changeOf : Cond.code yX7_changeOf cX7_changeOf 2 (some Jvm.ClassFile.FieldType.int) ∈ lw_all := lw_c4 (List.mem_of_getElem? (i := 56) (by decide +kernel)) rfl
theorem ql_RX7_116 : Cond.methodLink RX7 116 yX7_readRows ∈ lw_all := lw_c4 (List.mem_of_getElem? (i := 57) (by decide +kernel)) rfl
theorem qm_yX7_readRows : Cond.instanceMethod yX7_readRows ∈ lw_all := lw_c4 (List.mem_of_getElem? (i := 59) (by decide +kernel)) rfl
theorem qc_yX7_readRows : Cond.code yX7_readRows cX7_readRows 4 (some Jvm.ClassFile.FieldType.int) ∈ lw_all := lw_c4 (List.mem_of_getElem? (i := 60) (by decide +kernel)) rfl
theorem ql_RX7_98 : Cond.methodLink RX7 98 yX7_isDue ∈ lw_all := lw_c4 (List.mem_of_getElem? (i := 61) (by decide +kernel)) rfl
theorem qm_yX7_isDue : Cond.instanceMethod yX7_isDue ∈ lw_all := lw_c4 (List.mem_of_getElem? (i := 63) (by decide +kernel)) rfl
theorem qc_yX7_isDue : Cond.code yX7_isDue cX7_isDue 2 (some Jvm.ClassFile.FieldType.boolean) ∈ lw_all := lw_c4 (List.mem_of_getElem? (i := 64) (by decide +kernel)) rfl
theorem ql_RX7_101 : Cond.methodLink RX7 101 yX7_read ∈ lw_all := lw_c4 (List.mem_of_getElem? (i := 65) (by decide +kernel)) rfl
theorem qm_yX7_read : Cond.instanceMethod yX7_read ∈ lw_all := lw_c4 (List.mem_of_getElem? (i := 67) (by decide +kernel)) rfl
theorem qc_yX7_read : Cond.code yX7_read cX7_read 3 none ∈ lw_all := lw_c4 (List.mem_of_getElem? (i := 68) (by decide +kernel)) rfl
theorem ql_RX7_119 : Cond.methodLink RX7 119 yX7_lookForSpikes ∈ lw_all := lw_c4 (List.mem_of_getElem? (i := 69) (by decide +kernel)) rfl
theorem qm_yX7_lookForSpikes : Cond.instanceMethod yX7_lookForSpikes ∈ lw_all := lw_c4 (List.mem_of_getElem? (i := 71) (by decide +kernel)) rfl
theorem qc_yX7_lookForSpikes : Cond.code yX7_lookForSpikes cX7_lookForSpikes 2 none ∈ lw_all := lw_c4 (List.mem_of_getElem? (i := 72) (by decide +kernel)) rfl
theorem ql_RX7_110 : Cond.methodLink RX7 110 yX7_compare ∈ lw_all := lw_c4 (List.mem_of_getElem? (i := 73) (by decide +kernel)) rfl
theorem qm_yX7_compare : Cond.instanceMethod yX7_compare ∈ lw_all := lw_c4 (List.mem_of_getElem? (i := 75) (by decide +kernel)) rfl
theorem qc_yX7_compare : Cond.code yX7_compare cX7_compare 3 none ∈ lw_all := lw_c4 (List.mem_of_getElem? (i := 76) (by decide +kernel)) rfl
theorem ql_RX7_104 : Cond.methodLink RX7 104 yX7_middleWithout ∈ lw_all := lw_c4 (List.mem_of_getElem? (i := 77) (by decide +kernel)) rfl
theorem qm_yX7_middleWithout : Cond.instanceMethod yX7_middleWithout ∈ lw_all := lw_c4 (List.mem_of_getElem? (i := 79) (by decide +kernel)) rfl
theorem qc_yX7_middleWithout : Cond.code yX7_middleWithout cX7_middleWithout 3 (some Jvm.ClassFile.FieldType.int) ∈ lw_all := lw_c4 (List.mem_of_getElem? (i := 80) (by decide +kernel)) rfl
theorem ql_RX7_83 : Cond.methodLink RX7 83 yX7_sortIn ∈ lw_all := lw_c4 (List.mem_of_getElem? (i := 81) (by decide +kernel)) rfl
theorem qm_yX7_sortIn : Cond.instanceMethod yX7_sortIn ∈ lw_all := lw_c4 (List.mem_of_getElem? (i := 83) (by decide +kernel)) rfl
theorem qc_yX7_sortIn : Cond.code yX7_sortIn cX7_sortIn 3 none ∈ lw_all := lw_c4 (List.mem_of_getElem? (i := 84) (by decide +kernel)) rfl
theorem ql_RX7_107 : Cond.methodLink RX7 107 yX7_size ∈ lw_all := lw_c4 (List.mem_of_getElem? (i := 85) (by decide +kernel)) rfl
theorem qt_yX7_size : Cond.static yX7_size ∈ lw_all := lw_c4 (List.mem_of_getElem? (i := 86) (by decide +kernel)) rfl
theorem qc_yX7_size : Cond.code yX7_size cX7_size 1 (some Jvm.ClassFile.FieldType.int) ∈ lw_all := lw_c4 (List.mem_of_getElem? (i := 87) (by decide +kernel)) rfl
theorem ql_RL_103 : Cond.methodLink RL 103 yX7_hours ∈ lw_all := lw_c4 (List.mem_of_getElem? (i := 88) (by decide +kernel)) rfl
theorem qm_yX7_hours : Cond.instanceMethod yX7_hours ∈ lw_all := lw_c4 (List.mem_of_getElem? (i := 89) (by decide +kernel)) rfl
theorem qs_yX7_hours : Cond.selects RX7 yX7_hours yX7_hours ∈ lw_all := lw_c4 (List.mem_of_getElem? (i := 90) (by decide +kernel)) rfl
theorem qc_yX7_hours : Cond.code yX7_hours cX7_hours 6 (some Jvm.ClassFile.FieldType.int) ∈ lw_all := lw_c4 (List.mem_of_getElem? (i := 91) (by decide +kernel)) rfl
theorem ql_RL_106 : Cond.methodLink RL 106 yX7_period ∈ lw_all := lw_c4 (List.mem_of_getElem? (i := 92) (by decide +kernel)) rfl
theorem qm_yX7_period : Cond.instanceMethod yX7_period ∈ lw_all := lw_c4 (List.mem_of_getElem? (i := 93) (by decide +kernel)) rfl
theorem qs_yX7_period : Cond.selects RX7 yX7_period yX7_period ∈ lw_all := lw_c4 (List.mem_of_getElem? (i := 94) (by decide +kernel)) rfl
theorem qc_yX7_period : Cond.code yX7_period cX7_period 3 (some Jvm.ClassFile.FieldType.int) ∈ lw_all := lw_c4 (List.mem_of_getElem? (i := 95) (by decide +kernel)) rfl
theorem ql_RX7_138 : Cond.methodLink RX7 138 yX7_periodNow ∈ lw_all := lw_c4 (List.mem_of_getElem? (i := 96) (by decide +kernel)) rfl
theorem qm_yX7_periodNow : Cond.instanceMethod yX7_periodNow ∈ lw_all := lw_c4 (List.mem_of_getElem? (i := 98) (by decide +kernel)) rfl
theorem qc_yX7_periodNow : Cond.code yX7_periodNow cX7_periodNow 4 (some Jvm.ClassFile.FieldType.int) ∈ lw_all := lw_c4 (List.mem_of_getElem? (i := 99) (by decide +kernel)) rfl
theorem ql_RL_109 : Cond.methodLink RL 109 yX7_calibrate ∈ lw_all := lw_c4 (List.mem_of_getElem? (i := 100) (by decide +kernel)) rfl
theorem qm_yX7_calibrate : Cond.instanceMethod yX7_calibrate ∈ lw_all := lw_c4 (List.mem_of_getElem? (i := 101) (by decide +kernel)) rfl
theorem qs_yX7_calibrate : Cond.selects RX7 yX7_calibrate yX7_calibrate ∈ lw_all := lw_c4 (List.mem_of_getElem? (i := 102) (by decide +kernel)) rfl
theorem qc_yX7_calibrate : Cond.code yX7_calibrate cX7_calibrate 2 (some Jvm.ClassFile.FieldType.int) ∈ lw_all := lw_c4 (List.mem_of_getElem? (i := 103) (by decide +kernel)) rfl
theorem ql_RX7_141 : Cond.methodLink RX7 141 yX7_is ∈ lw_all := lw_c4 (List.mem_of_getElem? (i := 104) (by decide +kernel)) rfl
theorem qm_yX7_is : Cond.instanceMethod yX7_is ∈ lw_all := lw_c4 (List.mem_of_getElem? (i := 106) (by decide +kernel)) rfl
theorem qc_yX7_is : Cond.code yX7_is cX7_is 2 (some Jvm.ClassFile.FieldType.boolean) ∈ lw_all := lw_c4 (List.mem_of_getElem? (i := 107) (by decide +kernel)) rfl
theorem ql_RX7_144 : Cond.methodLink RX7 144 yX7_calibrateNow ∈ lw_all := lw_c4 (List.mem_of_getElem? (i := 108) (by decide +kernel)) rfl
theorem qm_yX7_calibrateNow : Cond.instanceMethod yX7_calibrateNow ∈ lw_all := lw_c4 (List.mem_of_getElem? (i := 110) (by decide +kernel)) rfl
theorem qc_yX7_calibrateNow : Cond.code yX7_calibrateNow cX7_calibrateNow 4 (some Jvm.ClassFile.FieldType.int) ∈ lw_all := lw_c4 (List.mem_of_getElem? (i := 111) (by decide +kernel)) rfl
theorem ql_RL_112 : Cond.methodLink RL 112 yX7_knock ∈ lw_all := lw_c4 (List.mem_of_getElem? (i := 112) (by decide +kernel)) rfl
theorem qm_yX7_knock : Cond.instanceMethod yX7_knock ∈ lw_all := lw_c4 (List.mem_of_getElem? (i := 113) (by decide +kernel)) rfl
theorem qs_yX7_knock : Cond.selects RX7 yX7_knock yX7_knock ∈ lw_all := lw_c4 (List.mem_of_getElem? (i := 114) (by decide +kernel)) rfl
theorem qc_yX7_knock : Cond.code yX7_knock cX7_knock 4 (some Jvm.ClassFile.FieldType.int) ∈ lw_all := lw_c4 (List.mem_of_getElem? (i := 115) (by decide +kernel)) rfl
theorem qn_RX7_147 : Cond.constant RX7 147 (100000) ∈ lw_all := lw_c4 (List.mem_of_getElem? (i := 116) (by decide +kernel)) rfl
theorem ql_RL_115 : Cond.methodLink RL 115 yX7_set ∈ lw_all := lw_c4 (List.mem_of_getElem? (i := 117) (by decide +kernel)) rfl
theorem qm_yX7_set : Cond.instanceMethod yX7_set ∈ lw_all := lw_c4 (List.mem_of_getElem? (i := 118) (by decide +kernel)) rfl
theorem qs_yX7_set : Cond.selects RX7 yX7_set yX7_set ∈ lw_all := lw_c4 (List.mem_of_getElem? (i := 119) (by decide +kernel)) rfl
theorem qc_yX7_set : Cond.code yX7_set cX7_set 4 (some Jvm.ClassFile.FieldType.int) ∈ lw_all := lw_c4 (List.mem_of_getElem? (i := 120) (by decide +kernel)) rfl
theorem ql_RL_118 : Cond.methodLink RL 118 yX7_append ∈ lw_all := lw_c4 (List.mem_of_getElem? (i := 121) (by decide +kernel)) rfl
theorem qm_yX7_append : Cond.instanceMethod yX7_append ∈ lw_all := lw_c4 (List.mem_of_getElem? (i := 122) (by decide +kernel)) rfl
theorem qs_yX7_append : Cond.selects RX7 yX7_append yX7_append ∈ lw_all := lw_c4 (List.mem_of_getElem? (i := 123) (by decide +kernel)) rfl
theorem qc_yX7_append : Cond.code yX7_append cX7_append 2 (some Jvm.ClassFile.FieldType.int) ∈ lw_all := lw_c4 (List.mem_of_getElem? (i := 124) (by decide +kernel)) rfl
theorem ql_RL_122 : Cond.methodLink RL 122 yX7_clearBuffer ∈ lw_all := lw_c4 (List.mem_of_getElem? (i := 125) (by decide +kernel)) rfl
theorem qm_yX7_clearBuffer : Cond.instanceMethod yX7_clearBuffer ∈ lw_all := lw_c4 (List.mem_of_getElem? (i := 126) (by decide +kernel)) rfl
theorem qs_yX7_clearBuffer : Cond.selects RX7 yX7_clearBuffer yX7_clearBuffer ∈ lw_all := lw_c4 (List.mem_of_getElem? (i := 127) (by decide +kernel)) rfl
theorem qc_yX7_clearBuffer : Cond.code yX7_clearBuffer cX7_clearBuffer 2 (some Jvm.ClassFile.FieldType.int) ∈ lw_all := lw_c4 (List.mem_of_getElem? (i := 128) (by decide +kernel)) rfl
theorem ql_RL_126 : Cond.methodLink RL 126 yX7_firstError ∈ lw_all := lw_c4 (List.mem_of_getElem? (i := 129) (by decide +kernel)) rfl
theorem qm_yX7_firstError : Cond.instanceMethod yX7_firstError ∈ lw_all := lw_c4 (List.mem_of_getElem? (i := 130) (by decide +kernel)) rfl
theorem qs_yX7_firstError : Cond.selects RX7 yX7_firstError yX7_firstError ∈ lw_all := lw_c4 (List.mem_of_getElem? (i := 131) (by decide +kernel)) rfl
theorem qc_yX7_firstError : Cond.code yX7_firstError cX7_firstError 1 (some Jvm.ClassFile.FieldType.int) ∈ lw_all := lw_c4 (List.mem_of_getElem? (i := 132) (by decide +kernel)) rfl
theorem ql_RX7_180 : Cond.methodLink RX7 180 yX7_isComplete ∈ lw_all := lw_c4 (List.mem_of_getElem? (i := 133) (by decide +kernel)) rfl
theorem qm_yX7_isComplete : Cond.instanceMethod yX7_isComplete ∈ lw_all := lw_c4 (List.mem_of_getElem? (i := 135) (by decide +kernel)) rfl
theorem qc_yX7_isComplete : Cond.code yX7_isComplete cX7_isComplete 2 (some Jvm.ClassFile.FieldType.boolean) ∈ lw_all := lw_c4 (List.mem_of_getElem? (i := 136) (by decide +kernel)) rfl
theorem ql_RX7_177 : Cond.methodLink RX7 177 yX7_readOrder ∈ lw_all := lw_c4 (List.mem_of_getElem? (i := 137) (by decide +kernel)) rfl
theorem qm_yX7_readOrder : Cond.instanceMethod yX7_readOrder ∈ lw_all := lw_c4 (List.mem_of_getElem? (i := 139) (by decide +kernel)) rfl
theorem qc_yX7_readOrder : Cond.code yX7_readOrder cX7_readOrder 3 (some Jvm.ClassFile.FieldType.boolean) ∈ lw_all := lw_c4 (List.mem_of_getElem? (i := 140) (by decide +kernel)) rfl
theorem ql_RX7_164 : Cond.methodLink RX7 164 yX7_readNew ∈ lw_all := lw_c4 (List.mem_of_getElem? (i := 141) (by decide +kernel)) rfl
theorem qm_yX7_readNew : Cond.instanceMethod yX7_readNew ∈ lw_all := lw_c4 (List.mem_of_getElem? (i := 143) (by decide +kernel)) rfl
theorem qc_yX7_readNew : Cond.code yX7_readNew cX7_readNew 1 (some Jvm.ClassFile.FieldType.boolean) ∈ lw_all := lw_c4 (List.mem_of_getElem? (i := 144) (by decide +kernel)) rfl
theorem ql_RX7_154 : Cond.methodLink RX7 154 yX7_takes ∈ lw_all := lw_c4 (List.mem_of_getElem? (i := 145) (by decide +kernel)) rfl
theorem qm_yX7_takes : Cond.instanceMethod yX7_takes ∈ lw_all := lw_c4 (List.mem_of_getElem? (i := 147) (by decide +kernel)) rfl
theorem qc_yX7_takes : Cond.code yX7_takes cX7_takes 4 (some Jvm.ClassFile.FieldType.boolean) ∈ lw_all := lw_c4 (List.mem_of_getElem? (i := 148) (by decide +kernel)) rfl
theorem ql_RX7_158 : Cond.methodLink RX7 158 yX7_digit ∈ lw_all := lw_c4 (List.mem_of_getElem? (i := 149) (by decide +kernel)) rfl
theorem qm_yX7_digit : Cond.instanceMethod yX7_digit ∈ lw_all := lw_c4 (List.mem_of_getElem? (i := 151) (by decide +kernel)) rfl
theorem qc_yX7_digit : Cond.code yX7_digit cX7_digit 1 (some Jvm.ClassFile.FieldType.int) ∈ lw_all := lw_c4 (List.mem_of_getElem? (i := 152) (by decide +kernel)) rfl
theorem ql_RX7_168 : Cond.methodLink RX7 168 yX7_readDegrees ∈ lw_all := lw_c4 (List.mem_of_getElem? (i := 153) (by decide +kernel)) rfl
theorem qm_yX7_readDegrees : Cond.instanceMethod yX7_readDegrees ∈ lw_all := lw_c4 (List.mem_of_getElem? (i := 155) (by decide +kernel)) rfl
theorem qc_yX7_readDegrees : Cond.code yX7_readDegrees cX7_readDegrees 3 (some Jvm.ClassFile.FieldType.boolean) ∈ lw_all := lw_c4 (List.mem_of_getElem? (i := 156) (by decide +kernel)) rfl
theorem ql_RX7_171 : Cond.methodLink RX7 171 yX7_readPeriod ∈ lw_all := lw_c4 (List.mem_of_getElem? (i := 157) (by decide +kernel)) rfl
theorem qm_yX7_readPeriod : Cond.instanceMethod yX7_readPeriod ∈ lw_all := lw_c4 (List.mem_of_getElem? (i := 159) (by decide +kernel)) rfl
theorem qc_yX7_readPeriod : Cond.code yX7_readPeriod cX7_readPeriod 1 (some Jvm.ClassFile.FieldType.boolean) ∈ lw_all := lw_c4 (List.mem_of_getElem? (i := 160) (by decide +kernel)) rfl
theorem ql_RX7_174 : Cond.methodLink RX7 174 yX7_readCalibrated ∈ lw_all := lw_c4 (List.mem_of_getElem? (i := 161) (by decide +kernel)) rfl
theorem qm_yX7_readCalibrated : Cond.instanceMethod yX7_readCalibrated ∈ lw_all := lw_c4 (List.mem_of_getElem? (i := 163) (by decide +kernel)) rfl
theorem qc_yX7_readCalibrated : Cond.code yX7_readCalibrated cX7_readCalibrated 1 (some Jvm.ClassFile.FieldType.boolean) ∈ lw_all := lw_c4 (List.mem_of_getElem? (i := 164) (by decide +kernel)) rfl
theorem ql_RL_130 : Cond.methodLink RL 130 yX7_execute ∈ lw_all := lw_c4 (List.mem_of_getElem? (i := 165) (by decide +kernel)) rfl
theorem qm_yX7_execute : Cond.instanceMethod yX7_execute ∈ lw_all := lw_c4 (List.mem_of_getElem? (i := 166) (by decide +kernel)) rfl
theorem qs_yX7_execute : Cond.selects RX7 yX7_execute yX7_execute ∈ lw_all := lw_c4 (List.mem_of_getElem? (i := 167) (by decide +kernel)) rfl
theorem qc_yX7_execute : Cond.code yX7_execute cX7_execute 3 (some Jvm.ClassFile.FieldType.int) ∈ lw_all := lw_c4 (List.mem_of_getElem? (i := 168) (by decide +kernel)) rfl
theorem ql_RX7_183 : Cond.methodLink RX7 183 yX7_canDo ∈ lw_all := lw_c4 (List.mem_of_getElem? (i := 169) (by decide +kernel)) rfl
theorem qm_yX7_canDo : Cond.instanceMethod yX7_canDo ∈ lw_all := lw_c4 (List.mem_of_getElem? (i := 171) (by decide +kernel)) rfl
theorem qc_yX7_canDo : Cond.code yX7_canDo cX7_canDo 2 (some Jvm.ClassFile.FieldType.boolean) ∈ lw_all := lw_c4 (List.mem_of_getElem? (i := 172) (by decide +kernel)) rfl
theorem ql_RX7_186 : Cond.methodLink RX7 186 yX7_doOrder ∈ lw_all := lw_c4 (List.mem_of_getElem? (i := 173) (by decide +kernel)) rfl
theorem qm_yX7_doOrder : Cond.instanceMethod yX7_doOrder ∈ lw_all := lw_c4 (List.mem_of_getElem? (i := 175) (by decide +kernel)) rfl
theorem qc_yX7_doOrder : Cond.code yX7_doOrder cX7_doOrder 2 (some Jvm.ClassFile.FieldType.int) ∈ lw_all := lw_c4 (List.mem_of_getElem? (i := 176) (by decide +kernel)) rfl
theorem ql_RL_142 : Cond.methodLink RL 142 yX7_ofThermometer ∈ lw_all := lw_c4 (List.mem_of_getElem? (i := 177) (by decide +kernel)) rfl
theorem qm_yX7_ofThermometer : Cond.instanceMethod yX7_ofThermometer ∈ lw_all := lw_c4 (List.mem_of_getElem? (i := 178) (by decide +kernel)) rfl
theorem qs_yX7_ofThermometer : Cond.selects RX7 yX7_ofThermometer yX7_ofThermometer ∈ lw_all := lw_c4 (List.mem_of_getElem? (i := 179) (by decide +kernel)) rfl
theorem qc_yX7_ofThermometer : Cond.code yX7_ofThermometer cX7_ofThermometer 3 (some Jvm.ClassFile.FieldType.int) ∈ lw_all := lw_c4 (List.mem_of_getElem? (i := 180) (by decide +kernel)) rfl
theorem ql_RL_146 : Cond.methodLink RL 146 yX7_reading ∈ lw_all := lw_c4 (List.mem_of_getElem? (i := 181) (by decide +kernel)) rfl
theorem qm_yX7_reading : Cond.instanceMethod yX7_reading ∈ lw_all := lw_c4 (List.mem_of_getElem? (i := 182) (by decide +kernel)) rfl
theorem qs_yX7_reading : Cond.selects RX7 yX7_reading yX7_reading ∈ lw_all := lw_c4 (List.mem_of_getElem? (i := 183) (by decide +kernel)) rfl
theorem qc_yX7_reading : Cond.code yX7_reading cX7_reading 4 (some Jvm.ClassFile.FieldType.int) ∈ lw_all := lw_c4 (List.mem_of_getElem? (i := 184) (by decide +kernel)) rfl
theorem ql_RL_149 : Cond.methodLink RL 149 yX7_row ∈ lw_all := lw_c4 (List.mem_of_getElem? (i := 185) (by decide +kernel)) rfl
theorem qm_yX7_row : Cond.instanceMethod yX7_row ∈ lw_all := lw_c4 (List.mem_of_getElem? (i := 186) (by decide +kernel)) rfl
theorem qs_yX7_row : Cond.selects RX7 yX7_row yX7_row ∈ lw_all := lw_c4 (List.mem_of_getElem? (i := 187) (by decide +kernel)) rfl
theorem qc_yX7_row : Cond.code yX7_row cX7_row 3 (some Jvm.ClassFile.FieldType.int) ∈ lw_all := lw_c4 (List.mem_of_getElem? (i := 188) (by decide +kernel)) rfl
theorem ql_RX7_192 : Cond.methodLink RX7 192 yX7_ofRow ∈ lw_all := lw_c4 (List.mem_of_getElem? (i := 189) (by decide +kernel)) rfl
theorem qm_yX7_ofRow : Cond.instanceMethod yX7_ofRow ∈ lw_all := lw_c4 (List.mem_of_getElem? (i := 191) (by decide +kernel)) rfl
theorem qc_yX7_ofRow : Cond.code yX7_ofRow cX7_ofRow 4 (some Jvm.ClassFile.FieldType.int) ∈ lw_all := lw_c4 (List.mem_of_getElem? (i := 192) (by decide +kernel)) rfl
theorem ql_RX7_189 : Cond.methodLink RX7 189 yX7_inRow ∈ lw_all := lw_c4 (List.mem_of_getElem? (i := 193) (by decide +kernel)) rfl
theorem qm_yX7_inRow : Cond.instanceMethod yX7_inRow ∈ lw_all := lw_c4 (List.mem_of_getElem? (i := 195) (by decide +kernel)) rfl
theorem qc_yX7_inRow : Cond.code yX7_inRow cX7_inRow 4 (some Jvm.ClassFile.FieldType.int) ∈ lw_all := lw_c4 (List.mem_of_getElem? (i := 196) (by decide +kernel)) rfl
theorem ql_RL_152 : Cond.methodLink RL 152 yX7_count ∈ lw_all := lw_c4 (List.mem_of_getElem? (i := 197) (by decide +kernel)) rfl
theorem qm_yX7_count : Cond.instanceMethod yX7_count ∈ lw_all := lw_c4 (List.mem_of_getElem? (i := 198) (by decide +kernel)) rfl
theorem qs_yX7_count : Cond.selects RX7 yX7_count yX7_count ∈ lw_all := lw_c4 (List.mem_of_getElem? (i := 199) (by decide +kernel)) rfl
theorem qc_yX7_count : Cond.code yX7_count cX7_count 2 (some Jvm.ClassFile.FieldType.int) ∈ lw_all := lw_c4 (List.mem_of_getElem? (i := 200) (by decide +kernel)) rfl
theorem ql_RX7_204 : Cond.methodLink RX7 204 yX7_number ∈ lw_all := lw_c4 (List.mem_of_getElem? (i := 201) (by decide +kernel)) rfl
theorem qm_yX7_number : Cond.instanceMethod yX7_number ∈ lw_all := lw_c4 (List.mem_of_getElem? (i := 203) (by decide +kernel)) rfl
theorem qc_yX7_number : Cond.code yX7_number cX7_number 2 (some Jvm.ClassFile.FieldType.int) ∈ lw_all := lw_c4 (List.mem_of_getElem? (i := 204) (by decide +kernel)) rfl
theorem ql_RX7_195 : Cond.methodLink RX7 195 yX7_asked ∈ lw_all := lw_c4 (List.mem_of_getElem? (i := 205) (by decide +kernel)) rfl
theorem qm_yX7_asked : Cond.instanceMethod yX7_asked ∈ lw_all := lw_c4 (List.mem_of_getElem? (i := 207) (by decide +kernel)) rfl
theorem qc_yX7_asked : Cond.code yX7_asked cX7_asked 3 (some Jvm.ClassFile.FieldType.int) ∈ lw_all := lw_c4 (List.mem_of_getElem? (i := 208) (by decide +kernel)) rfl
theorem ql_RX7_198 : Cond.methodLink RX7 198 yX7_shutOut ∈ lw_all := lw_c4 (List.mem_of_getElem? (i := 209) (by decide +kernel)) rfl
theorem qm_yX7_shutOut : Cond.instanceMethod yX7_shutOut ∈ lw_all := lw_c4 (List.mem_of_getElem? (i := 211) (by decide +kernel)) rfl
theorem qc_yX7_shutOut : Cond.code yX7_shutOut cX7_shutOut 3 (some Jvm.ClassFile.FieldType.int) ∈ lw_all := lw_c4 (List.mem_of_getElem? (i := 212) (by decide +kernel)) rfl
theorem ql_RX7_201 : Cond.methodLink RX7 201 yX7_slope ∈ lw_all := lw_c4 (List.mem_of_getElem? (i := 213) (by decide +kernel)) rfl
theorem qm_yX7_slope : Cond.instanceMethod yX7_slope ∈ lw_all := lw_c4 (List.mem_of_getElem? (i := 215) (by decide +kernel)) rfl
theorem qc_yX7_slope : Cond.code yX7_slope cX7_slope 2 (some Jvm.ClassFile.FieldType.int) ∈ lw_all := lw_c4 (List.mem_of_getElem? (i := 216) (by decide +kernel)) rfl
theorem ql_RL_155 : Cond.methodLink RL 155 yX7_ranked ∈ lw_all := lw_c4 (List.mem_of_getElem? (i := 217) (by decide +kernel)) rfl
theorem qm_yX7_ranked : Cond.instanceMethod yX7_ranked ∈ lw_all := lw_c4 (List.mem_of_getElem? (i := 218) (by decide +kernel)) rfl
theorem qs_yX7_ranked : Cond.selects RX7 yX7_ranked yX7_ranked ∈ lw_all := lw_c4 (List.mem_of_getElem? (i := 219) (by decide +kernel)) rfl
theorem qc_yX7_ranked : Cond.code yX7_ranked cX7_ranked 3 (some Jvm.ClassFile.FieldType.int) ∈ lw_all := lw_c4 (List.mem_of_getElem? (i := 220) (by decide +kernel)) rfl
theorem ql_RX7_213 : Cond.methodLink RX7 213 yX7_ofRank ∈ lw_all := lw_c4 (List.mem_of_getElem? (i := 221) (by decide +kernel)) rfl
theorem qm_yX7_ofRank : Cond.instanceMethod yX7_ofRank ∈ lw_all := lw_c4 (List.mem_of_getElem? (i := 223) (by decide +kernel)) rfl
theorem qc_yX7_ofRank : Cond.code yX7_ofRank cX7_ofRank 8 (some Jvm.ClassFile.FieldType.int) ∈ lw_all := lw_c4 (List.mem_of_getElem? (i := 224) (by decide +kernel)) rfl
theorem ql_RX7_210 : Cond.methodLink RX7 210 yX7_key ∈ lw_all := lw_c4 (List.mem_of_getElem? (i := 225) (by decide +kernel)) rfl
theorem qm_yX7_key : Cond.instanceMethod yX7_key ∈ lw_all := lw_c4 (List.mem_of_getElem? (i := 227) (by decide +kernel)) rfl
theorem qc_yX7_key : Cond.code yX7_key cX7_key 3 (some Jvm.ClassFile.FieldType.int) ∈ lw_all := lw_c4 (List.mem_of_getElem? (i := 228) (by decide +kernel)) rfl
theorem ql_RX7_207 : Cond.methodLink RX7 207 yX7_off ∈ lw_all := lw_c4 (List.mem_of_getElem? (i := 229) (by decide +kernel)) rfl
theorem qm_yX7_off : Cond.instanceMethod yX7_off ∈ lw_all := lw_c4 (List.mem_of_getElem? (i := 231) (by decide +kernel)) rfl
theorem qc_yX7_off : Cond.code yX7_off cX7_off 2 (some Jvm.ClassFile.FieldType.int) ∈ lw_all := lw_c4 (List.mem_of_getElem? (i := 232) (by decide +kernel)) rfl
theorem ql_RL_159 : Cond.methodLink RL 159 yX7_between ∈ lw_all := lw_c4 (List.mem_of_getElem? (i := 233) (by decide +kernel)) rfl
theorem qm_yX7_between : Cond.instanceMethod yX7_between ∈ lw_all := lw_c4 (List.mem_of_getElem? (i := 234) (by decide +kernel)) rfl
theorem qs_yX7_between : Cond.selects RX7 yX7_between yX7_between ∈ lw_all := lw_c4 (List.mem_of_getElem? (i := 235) (by decide +kernel)) rfl
theorem qc_yX7_between : Cond.code yX7_between cX7_between 5 (some Jvm.ClassFile.FieldType.int) ∈ lw_all := lw_c4 (List.mem_of_getElem? (i := 236) (by decide +kernel)) rfl
theorem ql_RL_162 : Cond.methodLink RL 162 yX7_ifLag ∈ lw_all := lw_c4 (List.mem_of_getElem? (i := 237) (by decide +kernel)) rfl
theorem qm_yX7_ifLag : Cond.instanceMethod yX7_ifLag ∈ lw_all := lw_c4 (List.mem_of_getElem? (i := 238) (by decide +kernel)) rfl
theorem qs_yX7_ifLag : Cond.selects RX7 yX7_ifLag yX7_ifLag ∈ lw_all := lw_c4 (List.mem_of_getElem? (i := 239) (by decide +kernel)) rfl
theorem qc_yX7_ifLag : Cond.code yX7_ifLag cX7_ifLag 3 (some Jvm.ClassFile.FieldType.int) ∈ lw_all := lw_c5 (List.mem_of_getElem? (i := 0) (by decide +kernel)) rfl
theorem ql_RL_165 : Cond.methodLink RL 165 yX7_bestLag ∈ lw_all := lw_c5 (List.mem_of_getElem? (i := 1) (by decide +kernel)) rfl
theorem qm_yX7_bestLag : Cond.instanceMethod yX7_bestLag ∈ lw_all := lw_c5 (List.mem_of_getElem? (i := 2) (by decide +kernel)) rfl
theorem qs_yX7_bestLag : Cond.selects RX7 yX7_bestLag yX7_bestLag ∈ lw_all := lw_c5 (List.mem_of_getElem? (i := 3) (by decide +kernel)) rfl
theorem qc_yX7_bestLag : Cond.code yX7_bestLag cX7_bestLag 2 (some Jvm.ClassFile.FieldType.int) ∈ lw_all := lw_c5 (List.mem_of_getElem? (i := 4) (by decide +kernel)) rfl
theorem ql_RX7_216 : Cond.methodLink RX7 216 yX7_best ∈ lw_all := lw_c5 (List.mem_of_getElem? (i := 5) (by decide +kernel)) rfl
theorem qm_yX7_best : Cond.instanceMethod yX7_best ∈ lw_all := lw_c5 (List.mem_of_getElem? (i := 7) (by decide +kernel)) rfl
theorem qc_yX7_best : Cond.code yX7_best cX7_best 4 (some Jvm.ClassFile.FieldType.int) ∈ lw_all := lw_c5 (List.mem_of_getElem? (i := 8) (by decide +kernel)) rfl
theorem ql_RL_168 : Cond.methodLink RL 168 yX7_ifStill ∈ lw_all := lw_c5 (List.mem_of_getElem? (i := 9) (by decide +kernel)) rfl
theorem qm_yX7_ifStill : Cond.instanceMethod yX7_ifStill ∈ lw_all := lw_c5 (List.mem_of_getElem? (i := 10) (by decide +kernel)) rfl
theorem qs_yX7_ifStill : Cond.selects RX7 yX7_ifStill yX7_ifStill ∈ lw_all := lw_c5 (List.mem_of_getElem? (i := 11) (by decide +kernel)) rfl
theorem qc_yX7_ifStill : Cond.code yX7_ifStill cX7_ifStill 3 (some Jvm.ClassFile.FieldType.int) ∈ lw_all := lw_c5 (List.mem_of_getElem? (i := 12) (by decide +kernel)) rfl
theorem ql_RX7_222 : Cond.methodLink RX7 222 yX7_behind ∈ lw_all := lw_c5 (List.mem_of_getElem? (i := 13) (by decide +kernel)) rfl
theorem qm_yX7_behind : Cond.instanceMethod yX7_behind ∈ lw_all := lw_c5 (List.mem_of_getElem? (i := 15) (by decide +kernel)) rfl
theorem qc_yX7_behind : Cond.code yX7_behind cX7_behind 5 (some Jvm.ClassFile.FieldType.int) ∈ lw_all := lw_c5 (List.mem_of_getElem? (i := 16) (by decide +kernel)) rfl
theorem ql_RX7_219 : Cond.methodLink RX7 219 yX7_widest ∈ lw_all := lw_c5 (List.mem_of_getElem? (i := 17) (by decide +kernel)) rfl
theorem qm_yX7_widest : Cond.instanceMethod yX7_widest ∈ lw_all := lw_c5 (List.mem_of_getElem? (i := 19) (by decide +kernel)) rfl
theorem qc_yX7_widest : Cond.code yX7_widest cX7_widest 4 (some Jvm.ClassFile.FieldType.int) ∈ lw_all := lw_c5 (List.mem_of_getElem? (i := 20) (by decide +kernel)) rfl
theorem ql_RL_171 : Cond.methodLink RL 171 yX7_stillIn ∈ lw_all := lw_c5 (List.mem_of_getElem? (i := 21) (by decide +kernel)) rfl
theorem qm_yX7_stillIn : Cond.instanceMethod yX7_stillIn ∈ lw_all := lw_c5 (List.mem_of_getElem? (i := 22) (by decide +kernel)) rfl
theorem qs_yX7_stillIn : Cond.selects RX7 yX7_stillIn yX7_stillIn ∈ lw_all := lw_c5 (List.mem_of_getElem? (i := 23) (by decide +kernel)) rfl
theorem qc_yX7_stillIn : Cond.code yX7_stillIn cX7_stillIn 4 (some Jvm.ClassFile.FieldType.int) ∈ lw_all := lw_c5 (List.mem_of_getElem? (i := 24) (by decide +kernel)) rfl
theorem ql_RL_176 : Cond.methodLink RL 176 yX7_meanError ∈ lw_all := lw_c5 (List.mem_of_getElem? (i := 25) (by decide +kernel)) rfl
theorem qm_yX7_meanError : Cond.instanceMethod yX7_meanError ∈ lw_all := lw_c5 (List.mem_of_getElem? (i := 26) (by decide +kernel)) rfl
theorem qs_yX7_meanError : Cond.selects RX7 yX7_meanError yX7_meanError ∈ lw_all := lw_c5 (List.mem_of_getElem? (i := 27) (by decide +kernel)) rfl
theorem qc_yX7_meanError : Cond.code yX7_meanError cX7_meanError 4 (some Jvm.ClassFile.FieldType.double) ∈ lw_all := lw_c5 (List.mem_of_getElem? (i := 28) (by decide +kernel)) rfl
theorem qy_4 : Cond.arrayClass Jvm.ClassFile.FieldType.long ∈ lw_all := lw_c5 (List.mem_of_getElem? (i := 29) (by decide +kernel)) rfl
theorem qs_yX2_readsAll : Cond.selects RX2 yX2_readsAll yX2_readsAll ∈ lw_all := lw_sel (n := 8) (by unfold lw_privs lw_privs_1 lw_privs_2 lw_privs_3 lw_privs_4 lw_privs_5; exact List.mem_of_getElem? (i := 0) rfl)
theorem qs_yX2_readsOrder : Cond.selects RX2 yX2_readsOrder yX2_readsOrder ∈ lw_all := lw_sel (n := 8) (by unfold lw_privs lw_privs_1 lw_privs_2 lw_privs_3 lw_privs_4 lw_privs_5; exact List.mem_of_getElem? (i := 1) rfl)
theorem qs_yX2_takesSign : Cond.selects RX2 yX2_takesSign yX2_takesSign ∈ lw_all := lw_sel (n := 8) (by unfold lw_privs lw_privs_1 lw_privs_2 lw_privs_3 lw_privs_4 lw_privs_5; exact List.mem_of_getElem? (i := 2) rfl)
theorem qs_yX2_takes : Cond.selects RX2 yX2_takes yX2_takes ∈ lw_all := lw_sel (n := 8) (by unfold lw_privs lw_privs_1 lw_privs_2 lw_privs_3 lw_privs_4 lw_privs_5; exact List.mem_of_getElem? (i := 3) rfl)
theorem qs_yX2_readsRow : Cond.selects RX2 yX2_readsRow yX2_readsRow ∈ lw_all := lw_sel (n := 8) (by unfold lw_privs lw_privs_1 lw_privs_2 lw_privs_3 lw_privs_4 lw_privs_5; exact List.mem_of_getElem? (i := 4) rfl)
theorem qs_yX2_readsNumber : Cond.selects RX2 yX2_readsNumber yX2_readsNumber ∈ lw_all := lw_sel (n := 8) (by unfold lw_privs lw_privs_1 lw_privs_2 lw_privs_3 lw_privs_4 lw_privs_5; exact List.mem_of_getElem? (i := 5) rfl)
theorem qs_yX2_readsWeight : Cond.selects RX2 yX2_readsWeight yX2_readsWeight ∈ lw_all := lw_sel (n := 8) (by unfold lw_privs lw_privs_1 lw_privs_2 lw_privs_3 lw_privs_4 lw_privs_5; exact List.mem_of_getElem? (i := 6) rfl)
theorem qs_yX2_readsDegrees : Cond.selects RX2 yX2_readsDegrees yX2_readsDegrees ∈ lw_all := lw_sel (n := 8) (by unfold lw_privs lw_privs_1 lw_privs_2 lw_privs_3 lw_privs_4 lw_privs_5; exact List.mem_of_getElem? (i := 7) rfl)
theorem qs_yX1_stateAt : Cond.selects RX1 yX1_stateAt yX1_stateAt ∈ lw_all := lw_sel (n := 4) (by unfold lw_privs lw_privs_1 lw_privs_2 lw_privs_3 lw_privs_4 lw_privs_5; exact List.mem_of_getElem? (i := 9) rfl)
theorem qs_yX6_checkHoursLeft : Cond.selects RX6 yX6_checkHoursLeft yX6_checkHoursLeft ∈ lw_all := lw_sel (n := 6) (by unfold lw_privs lw_privs_1 lw_privs_2 lw_privs_3 lw_privs_4 lw_privs_5; exact List.mem_of_getElem? (i := 10) rfl)
theorem qs_yX5_stepFrom : Cond.selects RX5 yX5_stepFrom yX5_stepFrom ∈ lw_all := lw_sel (n := 12) (by unfold lw_privs lw_privs_1 lw_privs_2 lw_privs_3 lw_privs_4 lw_privs_5; exact List.mem_of_getElem? (i := 11) rfl)
theorem qs_yX3_readRows : Cond.selects RX3 yX3_readRows yX3_readRows ∈ lw_all := lw_sel (n := 13) (by unfold lw_privs lw_privs_1 lw_privs_2 lw_privs_3 lw_privs_4 lw_privs_5; exact List.mem_of_getElem? (i := 12) rfl)
theorem qs_yX3_isReadNow : Cond.selects RX3 yX3_isReadNow yX3_isReadNow ∈ lw_all := lw_sel (n := 13) (by unfold lw_privs lw_privs_1 lw_privs_2 lw_privs_3 lw_privs_4 lw_privs_5; exact List.mem_of_getElem? (i := 13) rfl)
theorem qs_yX3_lookForSpikes : Cond.selects RX3 yX3_lookForSpikes yX3_lookForSpikes ∈ lw_all := lw_sel (n := 13) (by unfold lw_privs lw_privs_1 lw_privs_2 lw_privs_3 lw_privs_4 lw_privs_5; exact List.mem_of_getElem? (i := 14) rfl)
theorem qs_yX3_compareWithOthers : Cond.selects RX3 yX3_compareWithOthers yX3_compareWithOthers ∈ lw_all := lw_sel (n := 13) (by unfold lw_privs lw_privs_1 lw_privs_2 lw_privs_3 lw_privs_4 lw_privs_5; exact List.mem_of_getElem? (i := 15) rfl)
theorem qs_yX6_checkThermometer : Cond.selects RX6 yX6_checkThermometer yX6_checkThermometer ∈ lw_all := lw_sel (n := 6) (by unfold lw_privs lw_privs_1 lw_privs_2 lw_privs_3 lw_privs_4 lw_privs_5; exact List.mem_of_getElem? (i := 16) rfl)
theorem qs_yX6_carriesOut : Cond.selects RX6 yX6_carriesOut yX6_carriesOut ∈ lw_all := lw_sel (n := 6) (by unfold lw_privs lw_privs_1 lw_privs_2 lw_privs_3 lw_privs_4 lw_privs_5; exact List.mem_of_getElem? (i := 17) rfl)
theorem qs_yX6_snapshotIn : Cond.selects RX6 yX6_snapshotIn yX6_snapshotIn ∈ lw_all := lw_sel (n := 6) (by unfold lw_privs lw_privs_1 lw_privs_2 lw_privs_3 lw_privs_4 lw_privs_5; exact List.mem_of_getElem? (i := 18) rfl)
theorem qs_yX3_countAheadOf : Cond.selects RX3 yX3_countAheadOf yX3_countAheadOf ∈ lw_all := lw_sel (n := 13) (by unfold lw_privs lw_privs_1 lw_privs_2 lw_privs_3 lw_privs_4 lw_privs_5; exact List.mem_of_getElem? (i := 19) rfl)
theorem qs_yX3_sortKey : Cond.selects RX3 yX3_sortKey yX3_sortKey ∈ lw_all := lw_sel (n := 13) (by unfold lw_privs lw_privs_1 lw_privs_2 lw_privs_3 lw_privs_4 lw_privs_5; exact List.mem_of_getElem? (i := 20) rfl)
theorem qs_yX7_fails : Cond.selects RX7 yX7_fails yX7_fails ∈ lw_all := lw_sel (n := 18) (by unfold lw_privs lw_privs_1 lw_privs_2 lw_privs_3 lw_privs_4 lw_privs_5; exact List.mem_of_getElem? (i := 21) rfl)
theorem qs_yX7_save : Cond.selects RX7 yX7_save yX7_save ∈ lw_all := lw_sel (n := 18) (by unfold lw_privs lw_privs_1 lw_privs_2 lw_privs_3 lw_privs_4 lw_privs_5; exact List.mem_of_getElem? (i := 22) rfl)
theorem qs_yX7_add : Cond.selects RX7 yX7_add yX7_add ∈ lw_all := lw_sel (n := 18) (by unfold lw_privs lw_privs_1 lw_privs_2 lw_privs_3 lw_privs_4 lw_privs_5; exact List.mem_of_getElem? (i := 23) rfl)
theorem qs_yX7_put : Cond.selects RX7 yX7_put yX7_put ∈ lw_all := lw_sel (n := 18) (by unfold lw_privs lw_privs_1 lw_privs_2 lw_privs_3 lw_privs_4 lw_privs_5; exact List.mem_of_getElem? (i := 24) rfl)
theorem qs_yX7_pass : Cond.selects RX7 yX7_pass yX7_pass ∈ lw_all := lw_sel (n := 18) (by unfold lw_privs lw_privs_1 lw_privs_2 lw_privs_3 lw_privs_4 lw_privs_5; exact List.mem_of_getElem? (i := 25) rfl)
theorem qs_yX7_mean : Cond.selects RX7 yX7_mean yX7_mean ∈ lw_all := lw_sel (n := 18) (by unfold lw_privs lw_privs_1 lw_privs_2 lw_privs_3 lw_privs_4 lw_privs_5; exact List.mem_of_getElem? (i := 26) rfl)
theorem qs_yX7_isAsked : Cond.selects RX7 yX7_isAsked yX7_isAsked ∈ lw_all := lw_sel (n := 18) (by unfold lw_privs lw_privs_1 lw_privs_2 lw_privs_3 lw_privs_4 lw_privs_5; exact List.mem_of_getElem? (i := 27) rfl)
theorem qs_yX7_of : Cond.selects RX7 yX7_of yX7_of ∈ lw_all := lw_sel (n := 18) (by unfold lw_privs lw_privs_1 lw_privs_2 lw_privs_3 lw_privs_4 lw_privs_5; exact List.mem_of_getElem? (i := 28) rfl)
theorem qs_yX7_mended : Cond.selects RX7 yX7_mended yX7_mended ∈ lw_all := lw_sel (n := 18) (by unfold lw_privs lw_privs_1 lw_privs_2 lw_privs_3 lw_privs_4 lw_privs_5; exact List.mem_of_getElem? (i := 29) rfl)
theorem qs_yX7_mendedBy : Cond.selects RX7 yX7_mendedBy yX7_mendedBy ∈ lw_all := lw_sel (n := 18) (by unfold lw_privs lw_privs_1 lw_privs_2 lw_privs_3 lw_privs_4 lw_privs_5; exact List.mem_of_getElem? (i := 30) rfl)
theorem qs_yX7_follow : Cond.selects RX7 yX7_follow yX7_follow ∈ lw_all := lw_sel (n := 18) (by unfold lw_privs lw_privs_1 lw_privs_2 lw_privs_3 lw_privs_4 lw_privs_5; exact List.mem_of_getElem? (i := 31) rfl)
theorem qs_yX7_changeOf : Cond.selects RX7 yX7_changeOf yX7_changeOf ∈ lw_all := lw_sel (n := 18) (by unfold lw_privs lw_privs_1 lw_privs_2 lw_privs_3 lw_privs_4 lw_privs_5; exact List.mem_of_getElem? (i := 32) rfl)
theorem qs_yX7_readRows : Cond.selects RX7 yX7_readRows yX7_readRows ∈ lw_all := lw_sel (n := 18) (by unfold lw_privs lw_privs_1 lw_privs_2 lw_privs_3 lw_privs_4 lw_privs_5; exact List.mem_of_getElem? (i := 33) rfl)
theorem qs_yX7_isDue : Cond.selects RX7 yX7_isDue yX7_isDue ∈ lw_all := lw_sel (n := 18) (by unfold lw_privs lw_privs_1 lw_privs_2 lw_privs_3 lw_privs_4 lw_privs_5; exact List.mem_of_getElem? (i := 34) rfl)
theorem qs_yX7_read : Cond.selects RX7 yX7_read yX7_read ∈ lw_all := lw_sel (n := 18) (by unfold lw_privs lw_privs_1 lw_privs_2 lw_privs_3 lw_privs_4 lw_privs_5; exact List.mem_of_getElem? (i := 35) rfl)
theorem qs_yX7_lookForSpikes : Cond.selects RX7 yX7_lookForSpikes yX7_lookForSpikes ∈ lw_all := lw_sel (n := 18) (by unfold lw_privs lw_privs_1 lw_privs_2 lw_privs_3 lw_privs_4 lw_privs_5; exact List.mem_of_getElem? (i := 36) rfl)
theorem qs_yX7_compare : Cond.selects RX7 yX7_compare yX7_compare ∈ lw_all := lw_sel (n := 18) (by unfold lw_privs lw_privs_1 lw_privs_2 lw_privs_3 lw_privs_4 lw_privs_5; exact List.mem_of_getElem? (i := 37) rfl)
theorem qs_yX7_middleWithout : Cond.selects RX7 yX7_middleWithout yX7_middleWithout ∈ lw_all := lw_sel (n := 18) (by unfold lw_privs lw_privs_1 lw_privs_2 lw_privs_3 lw_privs_4 lw_privs_5; exact List.mem_of_getElem? (i := 38) rfl)
theorem qs_yX7_sortIn : Cond.selects RX7 yX7_sortIn yX7_sortIn ∈ lw_all := lw_sel (n := 18) (by unfold lw_privs lw_privs_1 lw_privs_2 lw_privs_3 lw_privs_4 lw_privs_5; exact List.mem_of_getElem? (i := 39) rfl)
theorem qs_yX7_periodNow : Cond.selects RX7 yX7_periodNow yX7_periodNow ∈ lw_all := lw_sel (n := 18) (by unfold lw_privs lw_privs_1 lw_privs_2 lw_privs_3 lw_privs_4 lw_privs_5; exact List.mem_of_getElem? (i := 40) rfl)
theorem qs_yX7_is : Cond.selects RX7 yX7_is yX7_is ∈ lw_all := lw_sel (n := 18) (by unfold lw_privs lw_privs_1 lw_privs_2 lw_privs_3 lw_privs_4 lw_privs_5; exact List.mem_of_getElem? (i := 41) rfl)
theorem qs_yX7_calibrateNow : Cond.selects RX7 yX7_calibrateNow yX7_calibrateNow ∈ lw_all := lw_sel (n := 18) (by unfold lw_privs lw_privs_1 lw_privs_2 lw_privs_3 lw_privs_4 lw_privs_5; exact List.mem_of_getElem? (i := 42) rfl)
theorem qs_yX7_isComplete : Cond.selects RX7 yX7_isComplete yX7_isComplete ∈ lw_all := lw_sel (n := 18) (by unfold lw_privs lw_privs_1 lw_privs_2 lw_privs_3 lw_privs_4 lw_privs_5; exact List.mem_of_getElem? (i := 43) rfl)
theorem qs_yX7_readOrder : Cond.selects RX7 yX7_readOrder yX7_readOrder ∈ lw_all := lw_sel (n := 18) (by unfold lw_privs lw_privs_1 lw_privs_2 lw_privs_3 lw_privs_4 lw_privs_5; exact List.mem_of_getElem? (i := 44) rfl)
theorem qs_yX7_readNew : Cond.selects RX7 yX7_readNew yX7_readNew ∈ lw_all := lw_sel (n := 18) (by unfold lw_privs lw_privs_1 lw_privs_2 lw_privs_3 lw_privs_4 lw_privs_5; exact List.mem_of_getElem? (i := 45) rfl)
theorem qs_yX7_takes : Cond.selects RX7 yX7_takes yX7_takes ∈ lw_all := lw_sel (n := 18) (by unfold lw_privs lw_privs_1 lw_privs_2 lw_privs_3 lw_privs_4 lw_privs_5; exact List.mem_of_getElem? (i := 46) rfl)
theorem qs_yX7_digit : Cond.selects RX7 yX7_digit yX7_digit ∈ lw_all := lw_sel (n := 18) (by unfold lw_privs lw_privs_1 lw_privs_2 lw_privs_3 lw_privs_4 lw_privs_5; exact List.mem_of_getElem? (i := 47) rfl)
theorem qs_yX7_readDegrees : Cond.selects RX7 yX7_readDegrees yX7_readDegrees ∈ lw_all := lw_sel (n := 18) (by unfold lw_privs lw_privs_1 lw_privs_2 lw_privs_3 lw_privs_4 lw_privs_5; exact List.mem_of_getElem? (i := 48) rfl)
theorem qs_yX7_readPeriod : Cond.selects RX7 yX7_readPeriod yX7_readPeriod ∈ lw_all := lw_sel (n := 18) (by unfold lw_privs lw_privs_1 lw_privs_2 lw_privs_3 lw_privs_4 lw_privs_5; exact List.mem_of_getElem? (i := 49) rfl)
theorem qs_yX7_readCalibrated : Cond.selects RX7 yX7_readCalibrated yX7_readCalibrated ∈ lw_all := lw_sel (n := 18) (by unfold lw_privs lw_privs_1 lw_privs_2 lw_privs_3 lw_privs_4 lw_privs_5; exact List.mem_of_getElem? (i := 50) rfl)
theorem qs_yX7_canDo : Cond.selects RX7 yX7_canDo yX7_canDo ∈ lw_all := lw_sel (n := 18) (by unfold lw_privs lw_privs_1 lw_privs_2 lw_privs_3 lw_privs_4 lw_privs_5; exact List.mem_of_getElem? (i := 51) rfl)
theorem qs_yX7_doOrder : Cond.selects RX7 yX7_doOrder yX7_doOrder ∈ lw_all := lw_sel (n := 18) (by unfold lw_privs lw_privs_1 lw_privs_2 lw_privs_3 lw_privs_4 lw_privs_5; exact List.mem_of_getElem? (i := 52) rfl)
theorem qs_yX7_ofRow : Cond.selects RX7 yX7_ofRow yX7_ofRow ∈ lw_all := lw_sel (n := 18) (by unfold lw_privs lw_privs_1 lw_privs_2 lw_privs_3 lw_privs_4 lw_privs_5; exact List.mem_of_getElem? (i := 53) rfl)
theorem qs_yX7_inRow : Cond.selects RX7 yX7_inRow yX7_inRow ∈ lw_all := lw_sel (n := 18) (by unfold lw_privs lw_privs_1 lw_privs_2 lw_privs_3 lw_privs_4 lw_privs_5; exact List.mem_of_getElem? (i := 54) rfl)
theorem qs_yX7_number : Cond.selects RX7 yX7_number yX7_number ∈ lw_all := lw_sel (n := 18) (by unfold lw_privs lw_privs_1 lw_privs_2 lw_privs_3 lw_privs_4 lw_privs_5; exact List.mem_of_getElem? (i := 55) rfl)
theorem qs_yX7_asked : Cond.selects RX7 yX7_asked yX7_asked ∈ lw_all := lw_sel (n := 18) (by unfold lw_privs lw_privs_1 lw_privs_2 lw_privs_3 lw_privs_4 lw_privs_5; exact List.mem_of_getElem? (i := 56) rfl)
theorem qs_yX7_shutOut : Cond.selects RX7 yX7_shutOut yX7_shutOut ∈ lw_all := lw_sel (n := 18) (by unfold lw_privs lw_privs_1 lw_privs_2 lw_privs_3 lw_privs_4 lw_privs_5; exact List.mem_of_getElem? (i := 57) rfl)
theorem qs_yX7_slope : Cond.selects RX7 yX7_slope yX7_slope ∈ lw_all := lw_sel (n := 18) (by unfold lw_privs lw_privs_1 lw_privs_2 lw_privs_3 lw_privs_4 lw_privs_5; exact List.mem_of_getElem? (i := 58) rfl)
theorem qs_yX7_ofRank : Cond.selects RX7 yX7_ofRank yX7_ofRank ∈ lw_all := lw_sel (n := 18) (by unfold lw_privs lw_privs_1 lw_privs_2 lw_privs_3 lw_privs_4 lw_privs_5; exact List.mem_of_getElem? (i := 59) rfl)
theorem qs_yX7_key : Cond.selects RX7 yX7_key yX7_key ∈ lw_all := lw_sel (n := 18) (by unfold lw_privs lw_privs_1 lw_privs_2 lw_privs_3 lw_privs_4 lw_privs_5; exact List.mem_of_getElem? (i := 60) rfl)
theorem qs_yX7_off : Cond.selects RX7 yX7_off yX7_off ∈ lw_all := lw_sel (n := 18) (by unfold lw_privs lw_privs_1 lw_privs_2 lw_privs_3 lw_privs_4 lw_privs_5; exact List.mem_of_getElem? (i := 61) rfl)
theorem qs_yX7_best : Cond.selects RX7 yX7_best yX7_best ∈ lw_all := lw_sel (n := 18) (by unfold lw_privs lw_privs_1 lw_privs_2 lw_privs_3 lw_privs_4 lw_privs_5; exact List.mem_of_getElem? (i := 62) rfl)
theorem qs_yX7_behind : Cond.selects RX7 yX7_behind yX7_behind ∈ lw_all := lw_sel (n := 18) (by unfold lw_privs lw_privs_1 lw_privs_2 lw_privs_3 lw_privs_4 lw_privs_5; exact List.mem_of_getElem? (i := 63) rfl)
theorem qs_yX7_widest : Cond.selects RX7 yX7_widest yX7_widest ∈ lw_all := lw_sel (n := 18) (by unfold lw_privs lw_privs_1 lw_privs_2 lw_privs_3 lw_privs_4 lw_privs_5; exact List.mem_of_getElem? (i := 64) rfl)
theorem qu_0 : ∀ w ∈ u_ws RX0 TX0 2, w ∈ lw_all := by
  intro w h
  have e : u_ws RX0 TX0 2 = [u_lay RX0 TX0 0, u_lay RX0 TX0 1] := rfl
  rw [e] at h
  simp only [List.mem_cons, List.not_mem_nil, or_false] at h
  rcases h with rfl | rfl
  · exact lw_c0 (List.mem_of_getElem? (i := 92) (by decide +kernel)) rfl
  · exact lw_c0 (List.mem_of_getElem? (i := 94) (by decide +kernel)) rfl
theorem qu_1 : ∀ w ∈ u_ws RX1 TX1 4, w ∈ lw_all := by
  intro w h
  have e : u_ws RX1 TX1 4 = [u_lay RX1 TX1 0, u_lay RX1 TX1 1, u_lay RX1 TX1 2, u_lay RX1 TX1 3] := rfl
  rw [e] at h
  simp only [List.mem_cons, List.not_mem_nil, or_false] at h
  rcases h with rfl | rfl | rfl | rfl
  · exact lw_c0 (List.mem_of_getElem? (i := 159) (by decide +kernel)) rfl
  · exact lw_c0 (List.mem_of_getElem? (i := 161) (by decide +kernel)) rfl
  · exact lw_c0 (List.mem_of_getElem? (i := 163) (by decide +kernel)) rfl
  · exact lw_c0 (List.mem_of_getElem? (i := 165) (by decide +kernel)) rfl
theorem qu_2 : ∀ w ∈ u_ws RX2 TX2 8, w ∈ lw_all := by
  intro w h
  have e : u_ws RX2 TX2 8 = [u_lay RX2 TX2 0, u_lay RX2 TX2 1, u_lay RX2 TX2 2, u_lay RX2 TX2 3, u_lay RX2 TX2 4, u_lay RX2 TX2 5, u_lay RX2 TX2 6, u_lay RX2 TX2 7] := rfl
  rw [e] at h
  simp only [List.mem_cons, List.not_mem_nil, or_false] at h
  rcases h with rfl | rfl | rfl | rfl | rfl | rfl | rfl | rfl
  · exact lw_c0 (List.mem_of_getElem? (i := 204) (by decide +kernel)) rfl
  · exact lw_c0 (List.mem_of_getElem? (i := 206) (by decide +kernel)) rfl
  · exact lw_c0 (List.mem_of_getElem? (i := 208) (by decide +kernel)) rfl
  · exact lw_c0 (List.mem_of_getElem? (i := 210) (by decide +kernel)) rfl
  · exact lw_c0 (List.mem_of_getElem? (i := 212) (by decide +kernel)) rfl
  · exact lw_c0 (List.mem_of_getElem? (i := 214) (by decide +kernel)) rfl
  · exact lw_c0 (List.mem_of_getElem? (i := 216) (by decide +kernel)) rfl
  · exact lw_c0 (List.mem_of_getElem? (i := 218) (by decide +kernel)) rfl
theorem qu_3 : ∀ w ∈ u_ws RX3 TX3 13, w ∈ lw_all := by
  intro w h
  have e : u_ws RX3 TX3 13 = [u_lay RX3 TX3 0, u_lay RX3 TX3 1, u_lay RX3 TX3 2, u_lay RX3 TX3 3, u_lay RX3 TX3 4, u_lay RX3 TX3 5, u_lay RX3 TX3 6, u_lay RX3 TX3 7, u_lay RX3 TX3 8, u_lay RX3 TX3 9, u_lay RX3 TX3 10, u_lay RX3 TX3 11, u_lay RX3 TX3 12] := rfl
  rw [e] at h
  simp only [List.mem_cons, List.not_mem_nil, or_false] at h
  rcases h with rfl | rfl | rfl | rfl | rfl | rfl | rfl | rfl | rfl | rfl | rfl | rfl | rfl
  · exact lw_c0 (List.mem_of_getElem? (i := 118) (by decide +kernel)) rfl
  · exact lw_c0 (List.mem_of_getElem? (i := 120) (by decide +kernel)) rfl
  · exact lw_c0 (List.mem_of_getElem? (i := 122) (by decide +kernel)) rfl
  · exact lw_c0 (List.mem_of_getElem? (i := 124) (by decide +kernel)) rfl
  · exact lw_c0 (List.mem_of_getElem? (i := 126) (by decide +kernel)) rfl
  · exact lw_c0 (List.mem_of_getElem? (i := 128) (by decide +kernel)) rfl
  · exact lw_c0 (List.mem_of_getElem? (i := 130) (by decide +kernel)) rfl
  · exact lw_c0 (List.mem_of_getElem? (i := 132) (by decide +kernel)) rfl
  · exact lw_c0 (List.mem_of_getElem? (i := 134) (by decide +kernel)) rfl
  · exact lw_c0 (List.mem_of_getElem? (i := 136) (by decide +kernel)) rfl
  · exact lw_c0 (List.mem_of_getElem? (i := 138) (by decide +kernel)) rfl
  · exact lw_c0 (List.mem_of_getElem? (i := 140) (by decide +kernel)) rfl
  · exact lw_c0 (List.mem_of_getElem? (i := 142) (by decide +kernel)) rfl
theorem qu_4 : ∀ w ∈ u_ws RX4 TX4 2, w ∈ lw_all := by
  intro w h
  have e : u_ws RX4 TX4 2 = [u_lay RX4 TX4 0, u_lay RX4 TX4 1] := rfl
  rw [e] at h
  simp only [List.mem_cons, List.not_mem_nil, or_false] at h
  rcases h with rfl | rfl
  · exact lw_c0 (List.mem_of_getElem? (i := 180) (by decide +kernel)) rfl
  · exact lw_c0 (List.mem_of_getElem? (i := 182) (by decide +kernel)) rfl
theorem qu_5 : ∀ w ∈ u_ws RX5 TX5 12, w ∈ lw_all := by
  intro w h
  have e : u_ws RX5 TX5 12 = [u_lay RX5 TX5 0, u_lay RX5 TX5 1, u_lay RX5 TX5 2, u_lay RX5 TX5 3, u_lay RX5 TX5 4, u_lay RX5 TX5 5, u_lay RX5 TX5 6, u_lay RX5 TX5 7, u_lay RX5 TX5 8, u_lay RX5 TX5 9, u_lay RX5 TX5 10, u_lay RX5 TX5 11] := rfl
  rw [e] at h
  simp only [List.mem_cons, List.not_mem_nil, or_false] at h
  rcases h with rfl | rfl | rfl | rfl | rfl | rfl | rfl | rfl | rfl | rfl | rfl | rfl
  · exact lw_c0 (List.mem_of_getElem? (i := 58) (by decide +kernel)) rfl
  · exact lw_c0 (List.mem_of_getElem? (i := 60) (by decide +kernel)) rfl
  · exact lw_c0 (List.mem_of_getElem? (i := 62) (by decide +kernel)) rfl
  · exact lw_c0 (List.mem_of_getElem? (i := 64) (by decide +kernel)) rfl
  · exact lw_c0 (List.mem_of_getElem? (i := 66) (by decide +kernel)) rfl
  · exact lw_c0 (List.mem_of_getElem? (i := 68) (by decide +kernel)) rfl
  · exact lw_c0 (List.mem_of_getElem? (i := 70) (by decide +kernel)) rfl
  · exact lw_c0 (List.mem_of_getElem? (i := 72) (by decide +kernel)) rfl
  · exact lw_c0 (List.mem_of_getElem? (i := 74) (by decide +kernel)) rfl
  · exact lw_c0 (List.mem_of_getElem? (i := 76) (by decide +kernel)) rfl
  · exact lw_c0 (List.mem_of_getElem? (i := 78) (by decide +kernel)) rfl
  · exact lw_c0 (List.mem_of_getElem? (i := 80) (by decide +kernel)) rfl
theorem qu_6 : ∀ w ∈ u_ws RX6 TX6 6, w ∈ lw_all := by
  intro w h
  have e : u_ws RX6 TX6 6 = [u_lay RX6 TX6 0, u_lay RX6 TX6 1, u_lay RX6 TX6 2, u_lay RX6 TX6 3, u_lay RX6 TX6 4, u_lay RX6 TX6 5] := rfl
  rw [e] at h
  simp only [List.mem_cons, List.not_mem_nil, or_false] at h
  rcases h with rfl | rfl | rfl | rfl | rfl | rfl
  · exact lw_c0 (List.mem_of_getElem? (i := 228) (by decide +kernel)) rfl
  · exact lw_c0 (List.mem_of_getElem? (i := 230) (by decide +kernel)) rfl
  · exact lw_c0 (List.mem_of_getElem? (i := 232) (by decide +kernel)) rfl
  · exact lw_c0 (List.mem_of_getElem? (i := 234) (by decide +kernel)) rfl
  · exact lw_c0 (List.mem_of_getElem? (i := 236) (by decide +kernel)) rfl
  · exact lw_c0 (List.mem_of_getElem? (i := 238) (by decide +kernel)) rfl
theorem qu_7 : ∀ w ∈ u_ws RX7 TX7 18, w ∈ lw_all := by
  intro w h
  have e : u_ws RX7 TX7 18 = [u_lay RX7 TX7 0, u_lay RX7 TX7 1, u_lay RX7 TX7 2, u_lay RX7 TX7 3, u_lay RX7 TX7 4, u_lay RX7 TX7 5, u_lay RX7 TX7 6, u_lay RX7 TX7 7, u_lay RX7 TX7 8, u_lay RX7 TX7 9, u_lay RX7 TX7 10, u_lay RX7 TX7 11, u_lay RX7 TX7 12, u_lay RX7 TX7 13, u_lay RX7 TX7 14, u_lay RX7 TX7 15, u_lay RX7 TX7 16, u_lay RX7 TX7 17] := rfl
  rw [e] at h
  simp only [List.mem_cons, List.not_mem_nil, or_false] at h
  rcases h with rfl | rfl | rfl | rfl | rfl | rfl | rfl | rfl | rfl | rfl | rfl | rfl | rfl | rfl | rfl | rfl | rfl | rfl
  · exact lw_c3 (List.mem_of_getElem? (i := 175) (by decide +kernel)) rfl
  · exact lw_c3 (List.mem_of_getElem? (i := 177) (by decide +kernel)) rfl
  · exact lw_c3 (List.mem_of_getElem? (i := 179) (by decide +kernel)) rfl
  · exact lw_c3 (List.mem_of_getElem? (i := 181) (by decide +kernel)) rfl
  · exact lw_c3 (List.mem_of_getElem? (i := 183) (by decide +kernel)) rfl
  · exact lw_c3 (List.mem_of_getElem? (i := 185) (by decide +kernel)) rfl
  · exact lw_c3 (List.mem_of_getElem? (i := 187) (by decide +kernel)) rfl
  · exact lw_c3 (List.mem_of_getElem? (i := 189) (by decide +kernel)) rfl
  · exact lw_c3 (List.mem_of_getElem? (i := 191) (by decide +kernel)) rfl
  · exact lw_c3 (List.mem_of_getElem? (i := 193) (by decide +kernel)) rfl
  · exact lw_c3 (List.mem_of_getElem? (i := 195) (by decide +kernel)) rfl
  · exact lw_c3 (List.mem_of_getElem? (i := 197) (by decide +kernel)) rfl
  · exact lw_c3 (List.mem_of_getElem? (i := 199) (by decide +kernel)) rfl
  · exact lw_c3 (List.mem_of_getElem? (i := 201) (by decide +kernel)) rfl
  · exact lw_c3 (List.mem_of_getElem? (i := 203) (by decide +kernel)) rfl
  · exact lw_c3 (List.mem_of_getElem? (i := 205) (by decide +kernel)) rfl
  · exact lw_c3 (List.mem_of_getElem? (i := 207) (by decide +kernel)) rfl
  · exact lw_c3 (List.mem_of_getElem? (i := 209) (by decide +kernel)) rfl
def nestL : List (String × Nat × MethodName × String) := [(RX3, 17, yX5_init, RX6), (RX3, 31, yX0_init, RX6), (RX6, 28, yX4_init, RX6), (RX6, 38, yX2_init, RX6), (RX5, 55, yX6_copyInto, RX6), (RX3, 61, yX6_copyInto, RX6), (RX3, 173, yX6_quotient, RX6), (RX5, 63, yX6_quotient, RX6), (RX3, 78, yX6_entry, RX6), (RX3, 86, yX6_remainder, RX6), (RX5, 67, yX6_putFirst, RX6), (RX5, 80, yX6_entry, RX6)]
def nestW (q : String × Nat × MethodName × String) : Cond := .methodLinkNest q.1 q.2.1 q.2.2.1 q.2.2.2
theorem ql_RX3_17 : (RX3, 17, yX5_init, RX6) ∈ nestL := List.mem_of_getElem? (i := 0) rfl
theorem ql_RX3_31 : (RX3, 31, yX0_init, RX6) ∈ nestL := List.mem_of_getElem? (i := 1) rfl
theorem ql_RX6_28 : (RX6, 28, yX4_init, RX6) ∈ nestL := List.mem_of_getElem? (i := 2) rfl
theorem ql_RX6_38 : (RX6, 38, yX2_init, RX6) ∈ nestL := List.mem_of_getElem? (i := 3) rfl
theorem ql_RX5_55 : (RX5, 55, yX6_copyInto, RX6) ∈ nestL := List.mem_of_getElem? (i := 4) rfl
theorem ql_RX3_61 : (RX3, 61, yX6_copyInto, RX6) ∈ nestL := List.mem_of_getElem? (i := 5) rfl
theorem ql_RX3_173 : (RX3, 173, yX6_quotient, RX6) ∈ nestL := List.mem_of_getElem? (i := 6) rfl
theorem ql_RX5_63 : (RX5, 63, yX6_quotient, RX6) ∈ nestL := List.mem_of_getElem? (i := 7) rfl
theorem ql_RX3_78 : (RX3, 78, yX6_entry, RX6) ∈ nestL := List.mem_of_getElem? (i := 8) rfl
theorem ql_RX3_86 : (RX3, 86, yX6_remainder, RX6) ∈ nestL := List.mem_of_getElem? (i := 9) rfl
theorem ql_RX5_67 : (RX5, 67, yX6_putFirst, RX6) ∈ nestL := List.mem_of_getElem? (i := 10) rfl
theorem ql_RX5_80 : (RX5, 80, yX6_entry, RX6) ∈ nestL := List.mem_of_getElem? (i := 11) rfl
theorem nest_tbl : ∀ q ∈ nestL, nestW q ∈ lw_tbl := by
  have key : ∀ j, j < nestL.length → ∃ q, nestL[j]? = some q ∧ nestW q ∈ lw_tbl := by
    intro j hj
    have hj : j < 12 := hj
    match j, hj with
    | 0, _ => exact ⟨_, rfl, lw_n0 (List.mem_of_getElem? (i := 34) (by decide +kernel))⟩
    | 1, _ => exact ⟨_, rfl, lw_n0 (List.mem_of_getElem? (i := 86) (by decide +kernel))⟩
    | 2, _ => exact ⟨_, rfl, lw_n0 (List.mem_of_getElem? (i := 170) (by decide +kernel))⟩
    | 3, _ => exact ⟨_, rfl, lw_n0 (List.mem_of_getElem? (i := 187) (by decide +kernel))⟩
    | 4, _ => exact ⟨_, rfl, lw_n1 (List.mem_of_getElem? (i := 220) (by decide +kernel))⟩
    | 5, _ => exact ⟨_, rfl, lw_n1 (List.mem_of_getElem? (i := 223) (by decide +kernel))⟩
    | 6, _ => exact ⟨_, rfl, lw_n2 (List.mem_of_getElem? (i := 27) (by decide +kernel))⟩
    | 7, _ => exact ⟨_, rfl, lw_n2 (List.mem_of_getElem? (i := 38) (by decide +kernel))⟩
    | 8, _ => exact ⟨_, rfl, lw_n2 (List.mem_of_getElem? (i := 51) (by decide +kernel))⟩
    | 9, _ => exact ⟨_, rfl, lw_n2 (List.mem_of_getElem? (i := 55) (by decide +kernel))⟩
    | 10, _ => exact ⟨_, rfl, lw_n2 (List.mem_of_getElem? (i := 62) (by decide +kernel))⟩
    | 11, _ => exact ⟨_, rfl, lw_n2 (List.mem_of_getElem? (i := 70) (by decide +kernel))⟩
    | k + 12, h => exact absurd h (by omega)
  intro q hq
  obtain ⟨j, hj⟩ := List.getElem?_of_mem hq
  obtain ⟨q2, h1, h2⟩ := key j (List.getElem?_eq_some_iff.mp hj).1
  rw [hj] at h1
  cases h1
  exact h2
