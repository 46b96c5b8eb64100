theorem qt_yJ6_bitCount_0f7a4 : Cond.static yJ6_bitCount_0f7a4 ∈ lw_all := lw_c2 (List.mem_of_getElem? (i := 109) (by decide +kernel)) rfl
theorem qc_yJ6_bitCount_0f7a4 : Cond.code yJ6_bitCount_0f7a4 cJ6_bitCount_0f7a4 1 (some Jvm.ClassFile.FieldType.int) ∈ lw_all := lw_c2 (List.mem_of_getElem? (i := 110) (by decide +kernel)) rfl
theorem qn_RJ6_265 : Cond.constant RJ6 265 (1431655765) ∈ lw_all := lw_c2 (List.mem_of_getElem? (i := 111) (by decide +kernel)) rfl
theorem qn_RJ6_266 : Cond.constant RJ6 266 (858993459) ∈ lw_all := lw_c2 (List.mem_of_getElem? (i := 112) (by decide +kernel)) rfl
theorem qn_RJ6_267 : Cond.constant RJ6 267 (252645135) ∈ lw_all := lw_c2 (List.mem_of_getElem? (i := 113) (by decide +kernel)) rfl
theorem ql_RX3_133 : Cond.methodLink RX3 133 yX5_isAskedAndReadIn ∈ lw_all := lw_c2 (List.mem_of_getElem? (i := 114) (by decide +kernel)) rfl
theorem qm_yX5_isAskedAndReadIn : Cond.instanceMethod yX5_isAskedAndReadIn ∈ lw_all := lw_c2 (List.mem_of_getElem? (i := 115) (by decide +kernel)) rfl
theorem qs_yX5_isAskedAndReadIn : Cond.selects RX5 yX5_isAskedAndReadIn yX5_isAskedAndReadIn ∈ lw_all := lw_c2 (List.mem_of_getElem? (i := 116) (by decide +kernel)) rfl
theorem qc_yX5_isAskedAndReadIn : Cond.code yX5_isAskedAndReadIn cX5_isAskedAndReadIn 2 (some Jvm.ClassFile.FieldType.boolean) ∈ lw_all := lw_c2 (List.mem_of_getElem? (i := 117) (by decide +kernel)) rfl
theorem ql_RX5_84 : Cond.methodLink RX5 84 yX5_isAsked ∈ lw_all := lw_c2 (List.mem_of_getElem? (i := 118) (by decide +kernel)) rfl
theorem ql_RX5_88 : Cond.methodLink RX5 88 yX5_hourAgo ∈ lw_all := lw_c2 (List.mem_of_getElem? (i := 119) (by decide +kernel)) rfl
theorem ql_RX3_136 : Cond.methodLink RX3 136 yX3_compareWithOthers ∈ lw_all := lw_c2 (List.mem_of_getElem? (i := 120) (by decide +kernel)) rfl
theorem qm_yX3_compareWithOthers : Cond.instanceMethod yX3_compareWithOthers ∈ lw_all := lw_c2 (List.mem_of_getElem? (i := 122) (by decide +kernel)) rfl
theorem qc_yX3_compareWithOthers : Cond.code yX3_compareWithOthers cX3_compareWithOthers 3 none ∈ lw_all := lw_c2 (List.mem_of_getElem? (i := 123) (by decide +kernel)) rfl
theorem ql_RX3_143 : Cond.methodLink RX3 143 yX3_middleWithout ∈ lw_all := lw_c2 (List.mem_of_getElem? (i := 124) (by decide +kernel)) rfl
theorem ql_RX3_146 : Cond.methodLink RX3 146 yX5_compareWith ∈ lw_all := lw_c2 (List.mem_of_getElem? (i := 125) (by decide +kernel)) rfl
theorem qm_yX5_compareWith : Cond.instanceMethod yX5_compareWith ∈ lw_all := lw_c2 (List.mem_of_getElem? (i := 126) (by decide +kernel)) rfl
theorem qs_yX5_compareWith : Cond.selects RX5 yX5_compareWith yX5_compareWith ∈ lw_all := lw_c2 (List.mem_of_getElem? (i := 127) (by decide +kernel)) rfl
theorem qc_yX5_compareWith : Cond.code yX5_compareWith cX5_compareWith 3 none ∈ lw_all := lw_c2 (List.mem_of_getElem? (i := 128) (by decide +kernel)) rfl
theorem ql_RX3_139 : Cond.methodLink RX3 139 yX5_shutOutFrom ∈ lw_all := lw_c2 (List.mem_of_getElem? (i := 129) (by decide +kernel)) rfl
theorem qm_yX5_shutOutFrom : Cond.instanceMethod yX5_shutOutFrom ∈ lw_all := lw_c2 (List.mem_of_getElem? (i := 130) (by decide +kernel)) rfl
theorem qs_yX5_shutOutFrom : Cond.selects RX5 yX5_shutOutFrom yX5_shutOutFrom ∈ lw_all := lw_c2 (List.mem_of_getElem? (i := 131) (by decide +kernel)) rfl
theorem qc_yX5_shutOutFrom : Cond.code yX5_shutOutFrom cX5_shutOutFrom 2 none ∈ lw_all := lw_c2 (List.mem_of_getElem? (i := 132) (by decide +kernel)) rfl
theorem ql_RX6_242 : Cond.methodLink RX6 242 yX3_greatestDistance ∈ lw_all := lw_c2 (List.mem_of_getElem? (i := 133) (by decide +kernel)) rfl
theorem qm_yX3_greatestDistance : Cond.instanceMethod yX3_greatestDistance ∈ lw_all := lw_c2 (List.mem_of_getElem? (i := 134) (by decide +kernel)) rfl
theorem qs_yX3_greatestDistance : Cond.selects RX3 yX3_greatestDistance yX3_greatestDistance ∈ lw_all := lw_c2 (List.mem_of_getElem? (i := 135) (by decide +kernel)) rfl
theorem qc_yX3_greatestDistance : Cond.code yX3_greatestDistance cX3_greatestDistance 3 (some Jvm.ClassFile.FieldType.int) ∈ lw_all := lw_c2 (List.mem_of_getElem? (i := 136) (by decide +kernel)) rfl
theorem ql_RX3_188 : Cond.methodLink RX3 188 yX5_distance ∈ lw_all := lw_c2 (List.mem_of_getElem? (i := 137) (by decide +kernel)) rfl
theorem qm_yX5_distance : Cond.instanceMethod yX5_distance ∈ lw_all := lw_c2 (List.mem_of_getElem? (i := 138) (by decide +kernel)) rfl
theorem qs_yX5_distance : Cond.selects RX5 yX5_distance yX5_distance ∈ lw_all := lw_c2 (List.mem_of_getElem? (i := 139) (by decide +kernel)) rfl
theorem qc_yX5_distance : Cond.code yX5_distance cX5_distance 2 (some Jvm.ClassFile.FieldType.int) ∈ lw_all := lw_c2 (List.mem_of_getElem? (i := 140) (by decide +kernel)) rfl
theorem ql_RL_135 : Cond.methodLink RL 135 yL_wouldOne ∈ lw_all := lw_c2 (List.mem_of_getElem? (i := 141) (by decide +kernel)) rfl
theorem qt_yL_wouldOne : Cond.static yL_wouldOne ∈ lw_all := lw_c2 (List.mem_of_getElem? (i := 142) (by decide +kernel)) rfl
theorem qc_yL_wouldOne : Cond.code yL_wouldOne cL_wouldOne 12 (some Jvm.ClassFile.FieldType.boolean) ∈ lw_all := lw_c2 (List.mem_of_getElem? (i := 143) (by decide +kernel)) rfl
theorem ql_RL_77 : Cond.methodLink RL 77 yX6_ifLag ∈ lw_all := lw_c2 (List.mem_of_getElem? (i := 144) (by decide +kernel)) rfl
theorem qm_yX6_ifLag : Cond.instanceMethod yX6_ifLag ∈ lw_all := lw_c2 (List.mem_of_getElem? (i := 145) (by decide +kernel)) rfl
theorem qs_yX6_ifLag : Cond.selects RX6 yX6_ifLag yX6_ifLag ∈ lw_all := lw_c2 (List.mem_of_getElem? (i := 146) (by decide +kernel)) rfl
theorem qc_yX6_ifLag : Cond.code yX6_ifLag cX6_ifLag 3 (some Jvm.ClassFile.FieldType.int) ∈ lw_all := lw_c2 (List.mem_of_getElem? (i := 147) (by decide +kernel)) rfl
theorem ql_RX6_236 : Cond.methodLink RX6 236 yX5_mendedWith ∈ lw_all := lw_c2 (List.mem_of_getElem? (i := 148) (by decide +kernel)) rfl
theorem ql_RL_80 : Cond.methodLink RL 80 yX6_bestLag ∈ lw_all := lw_c2 (List.mem_of_getElem? (i := 149) (by decide +kernel)) rfl
theorem qm_yX6_bestLag : Cond.instanceMethod yX6_bestLag ∈ lw_all := lw_c2 (List.mem_of_getElem? (i := 150) (by decide +kernel)) rfl
theorem qs_yX6_bestLag : Cond.selects RX6 yX6_bestLag yX6_bestLag ∈ lw_all := lw_c2 (List.mem_of_getElem? (i := 151) (by decide +kernel)) rfl
theorem qc_yX6_bestLag : Cond.code yX6_bestLag cX6_bestLag 2 (some Jvm.ClassFile.FieldType.int) ∈ lw_all := lw_c2 (List.mem_of_getElem? (i := 152) (by decide +kernel)) rfl
theorem ql_RX6_239 : Cond.methodLink RX6 239 yX5_lagNearestTo ∈ lw_all := lw_c2 (List.mem_of_getElem? (i := 153) (by decide +kernel)) rfl
theorem qm_yX5_lagNearestTo : Cond.instanceMethod yX5_lagNearestTo ∈ lw_all := lw_c2 (List.mem_of_getElem? (i := 154) (by decide +kernel)) rfl
theorem qs_yX5_lagNearestTo : Cond.selects RX5 yX5_lagNearestTo yX5_lagNearestTo ∈ lw_all := lw_c2 (List.mem_of_getElem? (i := 155) (by decide +kernel)) rfl
theorem qc_yX5_lagNearestTo : Cond.code yX5_lagNearestTo cX5_lagNearestTo 6 (some Jvm.ClassFile.FieldType.int) ∈ lw_all := lw_c2 (List.mem_of_getElem? (i := 156) (by decide +kernel)) rfl
theorem ql_RX5_91 : Cond.methodLink RX5 91 yX5_hasMended ∈ lw_all := lw_c2 (List.mem_of_getElem? (i := 157) (by decide +kernel)) rfl
theorem ql_RL_83 : Cond.methodLink RL 83 yX6_stillIn ∈ lw_all := lw_c2 (List.mem_of_getElem? (i := 158) (by decide +kernel)) rfl
theorem qm_yX6_stillIn : Cond.instanceMethod yX6_stillIn ∈ lw_all := lw_c2 (List.mem_of_getElem? (i := 159) (by decide +kernel)) rfl
theorem qs_yX6_stillIn : Cond.selects RX6 yX6_stillIn yX6_stillIn ∈ lw_all := lw_c2 (List.mem_of_getElem? (i := 160) (by decide +kernel)) rfl
theorem qc_yX6_stillIn : Cond.code yX6_stillIn cX6_stillIn 2 (some Jvm.ClassFile.FieldType.int) ∈ lw_all := lw_c2 (List.mem_of_getElem? (i := 161) (by decide +kernel)) rfl
theorem ql_RX6_245 : Cond.methodLink RX6 245 yX5_hoursUntilStill ∈ lw_all := lw_c2 (List.mem_of_getElem? (i := 162) (by decide +kernel)) rfl
theorem qm_yX5_hoursUntilStill : Cond.instanceMethod yX5_hoursUntilStill ∈ lw_all := lw_c2 (List.mem_of_getElem? (i := 163) (by decide +kernel)) rfl
theorem qs_yX5_hoursUntilStill : Cond.selects RX5 yX5_hoursUntilStill yX5_hoursUntilStill ∈ lw_all := lw_c2 (List.mem_of_getElem? (i := 164) (by decide +kernel)) rfl
theorem qc_yX5_hoursUntilStill : Cond.code yX5_hoursUntilStill cX5_hoursUntilStill 5 (some Jvm.ClassFile.FieldType.int) ∈ lw_all := lw_c2 (List.mem_of_getElem? (i := 165) (by decide +kernel)) rfl
theorem qn_RX5_66 : Cond.constant RX5 66 (100000) ∈ lw_all := lw_c2 (List.mem_of_getElem? (i := 166) (by decide +kernel)) rfl
theorem ql_RL_93 : Cond.methodLink RL 93 yL_adds ∈ lw_all := lw_c2 (List.mem_of_getElem? (i := 167) (by decide +kernel)) rfl
theorem qt_yL_adds : Cond.static yL_adds ∈ lw_all := lw_c2 (List.mem_of_getElem? (i := 168) (by decide +kernel)) rfl
theorem qc_yL_adds : Cond.code yL_adds cL_adds 6 (some Jvm.ClassFile.FieldType.boolean) ∈ lw_all := lw_c2 (List.mem_of_getElem? (i := 169) (by decide +kernel)) rfl
theorem ql_RL_89 : Cond.methodLink RL 89 yX6_thermometer ∈ lw_all := lw_c2 (List.mem_of_getElem? (i := 170) (by decide +kernel)) rfl
theorem qm_yX6_thermometer : Cond.instanceMethod yX6_thermometer ∈ lw_all := lw_c2 (List.mem_of_getElem? (i := 171) (by decide +kernel)) rfl
theorem qs_yX6_thermometer : Cond.selects RX6 yX6_thermometer yX6_thermometer ∈ lw_all := lw_c2 (List.mem_of_getElem? (i := 172) (by decide +kernel)) rfl
theorem qc_yX6_thermometer : Cond.code yX6_thermometer cX6_thermometer 5 (some Jvm.ClassFile.FieldType.int) ∈ lw_all := lw_c2 (List.mem_of_getElem? (i := 173) (by decide +kernel)) rfl
theorem ql_RX6_51 : Cond.methodLink RX6 51 yX3_hasRoom ∈ lw_all := lw_c2 (List.mem_of_getElem? (i := 174) (by decide +kernel)) rfl
theorem qm_yX3_hasRoom : Cond.instanceMethod yX3_hasRoom ∈ lw_all := lw_c2 (List.mem_of_getElem? (i := 175) (by decide +kernel)) rfl
theorem qs_yX3_hasRoom : Cond.selects RX3 yX3_hasRoom yX3_hasRoom ∈ lw_all := lw_c2 (List.mem_of_getElem? (i := 176) (by decide +kernel)) rfl
theorem qc_yX3_hasRoom : Cond.code yX3_hasRoom cX3_hasRoom 1 (some Jvm.ClassFile.FieldType.boolean) ∈ lw_all := lw_c2 (List.mem_of_getElem? (i := 177) (by decide +kernel)) rfl
theorem qk_RX6_55 : Cond.classLink RX6 55 "java/lang/IllegalStateException" ∈ lw_all := lw_c2 (List.mem_of_getElem? (i := 178) (by decide +kernel)) rfl
theorem qr_RX6_57 : Cond.stringRef RX6 57 "there are 10 thermometers" ∈ lw_tbl := lw_n2 (List.mem_of_getElem? (i := 187) (by decide +kernel))
theorem ql_RX6_62 : Cond.methodLink RX6 62 yX1_save ∈ lw_all := lw_c2 (List.mem_of_getElem? (i := 194) (by decide +kernel)) rfl
theorem qm_yX1_save : Cond.instanceMethod yX1_save ∈ lw_all := lw_c2 (List.mem_of_getElem? (i := 195) (by decide +kernel)) rfl
theorem qs_yX1_save : Cond.selects RX1 yX1_save yX1_save ∈ lw_all := lw_c2 (List.mem_of_getElem? (i := 196) (by decide +kernel)) rfl
theorem qc_yX1_save : Cond.code yX1_save cX1_save 2 none ∈ lw_all := lw_c2 (List.mem_of_getElem? (i := 197) (by decide +kernel)) rfl
theorem ql_RX1_26 : Cond.methodLink RX1 26 yX1_stateAt ∈ lw_all := lw_c2 (List.mem_of_getElem? (i := 198) (by decide +kernel)) rfl
theorem qm_yX1_stateAt : Cond.instanceMethod yX1_stateAt ∈ lw_all := lw_c2 (List.mem_of_getElem? (i := 200) (by decide +kernel)) rfl
theorem qc_yX1_stateAt : Cond.code yX1_stateAt cX1_stateAt 3 (some (Jvm.ClassFile.FieldType.object "LateThermometers$Place")) ∈ lw_all := lw_c2 (List.mem_of_getElem? (i := 201) (by decide +kernel)) rfl
theorem ql_RX1_30 : Cond.methodLink RX1 30 yX3_copyFrom ∈ lw_all := lw_c2 (List.mem_of_getElem? (i := 202) (by decide +kernel)) rfl
theorem ql_RX1_37 : Cond.methodLink RX1 37 yJ9_min_7cf53 ∈ lw_all := lw_c2 (List.mem_of_getElem? (i := 203) (by decide +kernel)) rfl
theorem ql_RX6_66 : Cond.methodLink RX6 66 yX3_add ∈ lw_all := lw_c2 (List.mem_of_getElem? (i := 204) (by decide +kernel)) rfl
theorem qm_yX3_add : Cond.instanceMethod yX3_add ∈ lw_all := lw_c2 (List.mem_of_getElem? (i := 205) (by decide +kernel)) rfl
theorem qs_yX3_add : Cond.selects RX3 yX3_add yX3_add ∈ lw_all := lw_c2 (List.mem_of_getElem? (i := 206) (by decide +kernel)) rfl
theorem qc_yX3_add : Cond.code yX3_add cX3_add 6 (some Jvm.ClassFile.FieldType.int) ∈ lw_all := lw_c2 (List.mem_of_getElem? (i := 207) (by decide +kernel)) rfl
theorem ql_RX3_74 : Cond.methodLink RX3 74 yX5_begin ∈ lw_all := lw_c2 (List.mem_of_getElem? (i := 208) (by decide +kernel)) rfl
theorem qm_yX5_begin : Cond.instanceMethod yX5_begin ∈ lw_all := lw_c2 (List.mem_of_getElem? (i := 209) (by decide +kernel)) rfl
theorem qs_yX5_begin : Cond.selects RX5 yX5_begin yX5_begin ∈ lw_all := lw_c2 (List.mem_of_getElem? (i := 210) (by decide +kernel)) rfl
theorem qc_yX5_begin : Cond.code yX5_begin cX5_begin 6 none ∈ lw_all := lw_c2 (List.mem_of_getElem? (i := 211) (by decide +kernel)) rfl
theorem ql_RX5_38 : Cond.methodLink RX5 38 yX5_startAfresh ∈ lw_all := lw_c2 (List.mem_of_getElem? (i := 212) (by decide +kernel)) rfl
theorem qm_yX5_startAfresh : Cond.instanceMethod yX5_startAfresh ∈ lw_all := lw_c2 (List.mem_of_getElem? (i := 213) (by decide +kernel)) rfl
theorem qs_yX5_startAfresh : Cond.selects RX5 yX5_startAfresh yX5_startAfresh ∈ lw_all := lw_c2 (List.mem_of_getElem? (i := 214) (by decide +kernel)) rfl
theorem qc_yX5_startAfresh : Cond.code yX5_startAfresh cX5_startAfresh 2 none ∈ lw_all := lw_c2 (List.mem_of_getElem? (i := 215) (by decide +kernel)) rfl
theorem ql_RL_127 : Cond.methodLink RL 127 yL_acts ∈ lw_all := lw_c2 (List.mem_of_getElem? (i := 216) (by decide +kernel)) rfl
theorem qt_yL_acts : Cond.static yL_acts ∈ lw_all := lw_c2 (List.mem_of_getElem? (i := 217) (by decide +kernel)) rfl
theorem ql_RL_97 : Cond.methodLink RL 97 yX6_period ∈ lw_all := lw_c2 (List.mem_of_getElem? (i := 219) (by decide +kernel)) rfl
theorem qm_yX6_period : Cond.instanceMethod yX6_period ∈ lw_all := lw_c2 (List.mem_of_getElem? (i := 220) (by decide +kernel)) rfl
theorem qs_yX6_period : Cond.selects RX6 yX6_period yX6_period ∈ lw_all := lw_c2 (List.mem_of_getElem? (i := 221) (by decide +kernel)) rfl
theorem qc_yX6_period : Cond.code yX6_period cX6_period 4 (some Jvm.ClassFile.FieldType.int) ∈ lw_all := lw_c2 (List.mem_of_getElem? (i := 222) (by decide +kernel)) rfl
theorem ql_RX6_88 : Cond.methodLink RX6 88 yX3_changePeriod ∈ lw_all := lw_c2 (List.mem_of_getElem? (i := 223) (by decide +kernel)) rfl
theorem qm_yX3_changePeriod : Cond.instanceMethod yX3_changePeriod ∈ lw_all := lw_c2 (List.mem_of_getElem? (i := 224) (by decide +kernel)) rfl
theorem qs_yX3_changePeriod : Cond.selects RX3 yX3_changePeriod yX3_changePeriod ∈ lw_all := lw_c2 (List.mem_of_getElem? (i := 225) (by decide +kernel)) rfl
theorem qc_yX3_changePeriod : Cond.code yX3_changePeriod cX3_changePeriod 3 none ∈ lw_all := lw_c2 (List.mem_of_getElem? (i := 226) (by decide +kernel)) rfl
theorem ql_RL_100 : Cond.methodLink RL 100 yX6_calibrate ∈ lw_all := lw_c2 (List.mem_of_getElem? (i := 227) (by decide +kernel)) rfl
theorem qm_yX6_calibrate : Cond.instanceMethod yX6_calibrate ∈ lw_all := lw_c2 (List.mem_of_getElem? (i := 228) (by decide +kernel)) rfl
theorem qs_yX6_calibrate : Cond.selects RX6 yX6_calibrate yX6_calibrate ∈ lw_all := lw_c2 (List.mem_of_getElem? (i := 229) (by decide +kernel)) rfl
theorem qc_yX6_calibrate : Cond.code yX6_calibrate cX6_calibrate 3 (some Jvm.ClassFile.FieldType.int) ∈ lw_all := lw_c2 (List.mem_of_getElem? (i := 230) (by decide +kernel)) rfl
theorem ql_RX6_103 : Cond.methodLink RX6 103 yX5_startAfresh ∈ lw_all := lw_c2 (List.mem_of_getElem? (i := 231) (by decide +kernel)) rfl
theorem ql_RL_103 : Cond.methodLink RL 103 yX6_knock ∈ lw_all := lw_c2 (List.mem_of_getElem? (i := 232) (by decide +kernel)) rfl
theorem qm_yX6_knock : Cond.instanceMethod yX6_knock ∈ lw_all := lw_c2 (List.mem_of_getElem? (i := 233) (by decide +kernel)) rfl
theorem qs_yX6_knock : Cond.selects RX6 yX6_knock yX6_knock ∈ lw_all := lw_c2 (List.mem_of_getElem? (i := 234) (by decide +kernel)) rfl
theorem qc_yX6_knock : Cond.code yX6_knock cX6_knock 4 (some Jvm.ClassFile.FieldType.int) ∈ lw_all := lw_c2 (List.mem_of_getElem? (i := 235) (by decide +kernel)) rfl
theorem qr_RX6_109 : Cond.stringRef RX6 109 "no thermometer shows this" ∈ lw_tbl := lw_n2 (List.mem_of_getElem? (i := 236) (by decide +kernel))
theorem qn_RX6_111 : Cond.constant RX6 111 (100000) ∈ lw_all := lw_c2 (List.mem_of_getElem? (i := 237) (by decide +kernel)) rfl
theorem qn_RL_106 : Cond.constant RL 106 (100000) ∈ lw_all := lw_c2 (List.mem_of_getElem? (i := 238) (by decide +kernel)) rfl
theorem ql_RL_107 : Cond.methodLink RL 107 yX6_set ∈ lw_all := lw_c2 (List.mem_of_getElem? (i := 239) (by decide +kernel)) rfl
theorem qm_yX6_set : Cond.instanceMethod yX6_set ∈ lw_all := lw_c3 (List.mem_of_getElem? (i := 0) (by decide +kernel)) rfl
theorem qs_yX6_set : Cond.selects RX6 yX6_set yX6_set ∈ lw_all := lw_c3 (List.mem_of_getElem? (i := 1) (by decide +kernel)) rfl
theorem qc_yX6_set : Cond.code yX6_set cX6_set 4 (some Jvm.ClassFile.FieldType.int) ∈ lw_all := lw_c3 (List.mem_of_getElem? (i := 2) (by decide +kernel)) rfl
theorem qr_RX6_114 : Cond.stringRef RX6 114 "there is no such setting" ∈ lw_tbl := lw_n3 (List.mem_of_getElem? (i := 3) (by decide +kernel))
theorem ql_RL_110 : Cond.methodLink RL 110 yX6_hours ∈ lw_all := lw_c3 (List.mem_of_getElem? (i := 4) (by decide +kernel)) rfl
theorem qm_yX6_hours : Cond.instanceMethod yX6_hours ∈ lw_all := lw_c3 (List.mem_of_getElem? (i := 5) (by decide +kernel)) rfl
theorem qs_yX6_hours : Cond.selects RX6 yX6_hours yX6_hours ∈ lw_all := lw_c3 (List.mem_of_getElem? (i := 6) (by decide +kernel)) rfl
theorem qc_yX6_hours : Cond.code yX6_hours cX6_hours 3 (some Jvm.ClassFile.FieldType.int) ∈ lw_all := lw_c3 (List.mem_of_getElem? (i := 7) (by decide +kernel)) rfl
theorem ql_RX6_70 : Cond.methodLink RX6 70 yX6_checkHoursLeft ∈ lw_all := lw_c3 (List.mem_of_getElem? (i := 8) (by decide +kernel)) rfl
theorem qm_yX6_checkHoursLeft : Cond.instanceMethod yX6_checkHoursLeft ∈ lw_all := lw_c3 (List.mem_of_getElem? (i := 10) (by decide +kernel)) rfl
theorem qc_yX6_checkHoursLeft : Cond.code yX6_checkHoursLeft cX6_checkHoursLeft 2 none ∈ lw_all := lw_c3 (List.mem_of_getElem? (i := 11) (by decide +kernel)) rfl
theorem ql_RX6_266 : Cond.methodLink RX6 266 yX3_hasHoursLeft ∈ lw_all := lw_c3 (List.mem_of_getElem? (i := 12) (by decide +kernel)) rfl
theorem qm_yX3_hasHoursLeft : Cond.instanceMethod yX3_hasHoursLeft ∈ lw_all := lw_c3 (List.mem_of_getElem? (i := 13) (by decide +kernel)) rfl
theorem qs_yX3_hasHoursLeft : Cond.selects RX3 yX3_hasHoursLeft yX3_hasHoursLeft ∈ lw_all := lw_c3 (List.mem_of_getElem? (i := 14) (by decide +kernel)) rfl
theorem qc_yX3_hasHoursLeft : Cond.code yX3_hasHoursLeft cX3_hasHoursLeft 2 (some Jvm.ClassFile.FieldType.boolean) ∈ lw_all := lw_c3 (List.mem_of_getElem? (i := 15) (by decide +kernel)) rfl
theorem qr_RX6_269 : Cond.stringRef RX6 269 "the hour would be greater than 9999" ∈ lw_tbl := lw_n3 (List.mem_of_getElem? (i := 16) (by decide +kernel))
theorem ql_RL_113 : Cond.methodLink RL 113 yX6_hour ∈ lw_all := lw_c3 (List.mem_of_getElem? (i := 17) (by decide +kernel)) rfl
theorem qm_yX6_hour : Cond.instanceMethod yX6_hour ∈ lw_all := lw_c3 (List.mem_of_getElem? (i := 18) (by decide +kernel)) rfl
theorem qs_yX6_hour : Cond.selects RX6 yX6_hour yX6_hour ∈ lw_all := lw_c3 (List.mem_of_getElem? (i := 19) (by decide +kernel)) rfl
theorem qc_yX6_hour : Cond.code yX6_hour cX6_hour 2 (some Jvm.ClassFile.FieldType.int) ∈ lw_all := lw_c3 (List.mem_of_getElem? (i := 20) (by decide +kernel)) rfl
theorem ql_RX6_73 : Cond.methodLink RX6 73 yX3_passHour ∈ lw_all := lw_c3 (List.mem_of_getElem? (i := 21) (by decide +kernel)) rfl
theorem qs_yX6_checkThermometer : Cond.selects RX6 yX6_checkThermometer yX6_checkThermometer ∈ lw_all := lw_sel (n := 6) (by unfold lw_privs lw_privs_1; exact List.mem_of_getElem? (i := 1) rfl)
theorem qs_yX3_countAheadOf : Cond.selects RX3 yX3_countAheadOf yX3_countAheadOf ∈ lw_all := lw_sel (n := 13) (by unfold lw_privs lw_privs_1; exact List.mem_of_getElem? (i := 2) rfl)
theorem qs_yX3_sortKey : Cond.selects RX3 yX3_sortKey yX3_sortKey ∈ lw_all := lw_sel (n := 13) (by unfold lw_privs lw_privs_1; exact List.mem_of_getElem? (i := 3) rfl)
theorem qs_yX5_stepFrom : Cond.selects RX5 yX5_stepFrom yX5_stepFrom ∈ lw_all := lw_sel (n := 12) (by unfold lw_privs lw_privs_1; exact List.mem_of_getElem? (i := 4) rfl)
theorem qs_yX3_readRows : Cond.selects RX3 yX3_readRows yX3_readRows ∈ lw_all := lw_sel (n := 13) (by unfold lw_privs lw_privs_1; exact List.mem_of_getElem? (i := 5) rfl)
theorem qs_yX3_isReadNow : Cond.selects RX3 yX3_isReadNow yX3_isReadNow ∈ lw_all := lw_sel (n := 13) (by unfold lw_privs lw_privs_1; exact List.mem_of_getElem? (i := 6) rfl)
theorem qs_yX3_lookForSpikes : Cond.selects RX3 yX3_lookForSpikes yX3_lookForSpikes ∈ lw_all := lw_sel (n := 13) (by unfold lw_privs lw_privs_1; exact List.mem_of_getElem? (i := 7) rfl)
theorem qs_yX3_compareWithOthers : Cond.selects RX3 yX3_compareWithOthers yX3_compareWithOthers ∈ lw_all := lw_sel (n := 13) (by unfold lw_privs lw_privs_1; exact List.mem_of_getElem? (i := 8) rfl)
theorem qs_yX1_stateAt : Cond.selects RX1 yX1_stateAt yX1_stateAt ∈ lw_all := lw_sel (n := 4) (by unfold lw_privs lw_privs_1; exact List.mem_of_getElem? (i := 9) rfl)
