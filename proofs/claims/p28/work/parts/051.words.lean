theorem ql_RX6_186 : Cond.methodLink RX6 186 yX5_numberOf ∈ lw_all := lw_c1 (List.mem_of_getElem? (i := 146) (by decide +kernel)) rfl
theorem qm_yX5_numberOf : Cond.instanceMethod yX5_numberOf ∈ lw_all := lw_c1 (List.mem_of_getElem? (i := 147) (by decide +kernel)) rfl
theorem qs_yX5_numberOf : Cond.selects RX5 yX5_numberOf yX5_numberOf ∈ lw_all := lw_c1 (List.mem_of_getElem? (i := 148) (by decide +kernel)) rfl
theorem qc_yX5_numberOf : Cond.code yX5_numberOf cX5_numberOf 2 (some Jvm.ClassFile.FieldType.int) ∈ lw_all := lw_c1 (List.mem_of_getElem? (i := 149) (by decide +kernel)) rfl
theorem ql_RL_20 : Cond.methodLink RL 20 yL_own ∈ lw_all := lw_c1 (List.mem_of_getElem? (i := 150) (by decide +kernel)) rfl
theorem qt_yL_own : Cond.static yL_own ∈ lw_all := lw_c1 (List.mem_of_getElem? (i := 151) (by decide +kernel)) rfl
theorem qc_yL_own : Cond.code yL_own cL_own 4 (some Jvm.ClassFile.FieldType.int) ∈ lw_all := lw_c1 (List.mem_of_getElem? (i := 152) (by decide +kernel)) rfl
theorem ql_RL_12 : Cond.methodLink RL 12 yL_mended ∈ lw_all := lw_c1 (List.mem_of_getElem? (i := 153) (by decide +kernel)) rfl
theorem qt_yL_mended : Cond.static yL_mended ∈ lw_all := lw_c1 (List.mem_of_getElem? (i := 154) (by decide +kernel)) rfl
theorem qc_yL_mended : Cond.code yL_mended cL_mended 7 (some Jvm.ClassFile.FieldType.int) ∈ lw_all := lw_c1 (List.mem_of_getElem? (i := 155) (by decide +kernel)) rfl
theorem qn_RL_11 : Cond.constant RL 11 (-999999) ∈ lw_all := lw_c1 (List.mem_of_getElem? (i := 156) (by decide +kernel)) rfl
theorem ql_RL_49 : Cond.methodLink RL 49 yX6_reading ∈ lw_all := lw_c1 (List.mem_of_getElem? (i := 157) (by decide +kernel)) rfl
theorem qm_yX6_reading : Cond.instanceMethod yX6_reading ∈ lw_all := lw_c1 (List.mem_of_getElem? (i := 158) (by decide +kernel)) rfl
theorem qs_yX6_reading : Cond.selects RX6 yX6_reading yX6_reading ∈ lw_all := lw_c1 (List.mem_of_getElem? (i := 159) (by decide +kernel)) rfl
theorem qc_yX6_reading : Cond.code yX6_reading cX6_reading 5 (some Jvm.ClassFile.FieldType.int) ∈ lw_all := lw_c1 (List.mem_of_getElem? (i := 160) (by decide +kernel)) rfl
theorem ql_RX6_189 : Cond.methodLink RX6 189 yX6_checkNotNegative ∈ lw_all := lw_c1 (List.mem_of_getElem? (i := 161) (by decide +kernel)) rfl
theorem qt_yX6_checkNotNegative : Cond.static yX6_checkNotNegative ∈ lw_all := lw_c1 (List.mem_of_getElem? (i := 162) (by decide +kernel)) rfl
theorem qc_yX6_checkNotNegative : Cond.code yX6_checkNotNegative cX6_checkNotNegative 1 none ∈ lw_all := lw_c1 (List.mem_of_getElem? (i := 163) (by decide +kernel)) rfl
theorem qr_RX6_258 : Cond.stringRef RX6 258 "an argument is negative" ∈ lw_tbl := lw_n1 (List.mem_of_getElem? (i := 164) (by decide +kernel))
theorem ql_RX6_192 : Cond.methodLink RX6 192 yX5_hourAgo ∈ lw_all := lw_c1 (List.mem_of_getElem? (i := 165) (by decide +kernel)) rfl
theorem qm_yX5_hourAgo : Cond.instanceMethod yX5_hourAgo ∈ lw_all := lw_c1 (List.mem_of_getElem? (i := 166) (by decide +kernel)) rfl
theorem qs_yX5_hourAgo : Cond.selects RX5 yX5_hourAgo yX5_hourAgo ∈ lw_all := lw_c1 (List.mem_of_getElem? (i := 167) (by decide +kernel)) rfl
theorem qc_yX5_hourAgo : Cond.code yX5_hourAgo cX5_hourAgo 2 (some Jvm.ClassFile.FieldType.int) ∈ lw_all := lw_c1 (List.mem_of_getElem? (i := 168) (by decide +kernel)) rfl
theorem qt_yX6_entry : Cond.static yX6_entry ∈ lw_all := lw_c1 (List.mem_of_getElem? (i := 170) (by decide +kernel)) rfl
theorem qc_yX6_entry : Cond.code yX6_entry cX6_entry 2 (some Jvm.ClassFile.FieldType.int) ∈ lw_all := lw_c1 (List.mem_of_getElem? (i := 171) (by decide +kernel)) rfl
theorem qn_RX6_283 : Cond.constant RX6 283 (-999999) ∈ lw_all := lw_c1 (List.mem_of_getElem? (i := 172) (by decide +kernel)) rfl
theorem ql_RX6_195 : Cond.methodLink RX6 195 yX5_valueAgo ∈ lw_all := lw_c1 (List.mem_of_getElem? (i := 173) (by decide +kernel)) rfl
theorem qm_yX5_valueAgo : Cond.instanceMethod yX5_valueAgo ∈ lw_all := lw_c1 (List.mem_of_getElem? (i := 174) (by decide +kernel)) rfl
theorem qs_yX5_valueAgo : Cond.selects RX5 yX5_valueAgo yX5_valueAgo ∈ lw_all := lw_c1 (List.mem_of_getElem? (i := 175) (by decide +kernel)) rfl
theorem qc_yX5_valueAgo : Cond.code yX5_valueAgo cX5_valueAgo 2 (some Jvm.ClassFile.FieldType.int) ∈ lw_all := lw_c1 (List.mem_of_getElem? (i := 176) (by decide +kernel)) rfl
theorem ql_RL_16 : Cond.methodLink RL 16 yL_asked ∈ lw_all := lw_c1 (List.mem_of_getElem? (i := 177) (by decide +kernel)) rfl
theorem qt_yL_asked : Cond.static yL_asked ∈ lw_all := lw_c1 (List.mem_of_getElem? (i := 178) (by decide +kernel)) rfl
theorem qc_yL_asked : Cond.code yL_asked cL_asked 2 (some Jvm.ClassFile.FieldType.boolean) ∈ lw_all := lw_c1 (List.mem_of_getElem? (i := 179) (by decide +kernel)) rfl
theorem ql_RL_36 : Cond.methodLink RL 36 yL_size ∈ lw_all := lw_c1 (List.mem_of_getElem? (i := 180) (by decide +kernel)) rfl
theorem qt_yL_size : Cond.static yL_size ∈ lw_all := lw_c1 (List.mem_of_getElem? (i := 181) (by decide +kernel)) rfl
theorem qc_yL_size : Cond.code yL_size cL_size 1 (some Jvm.ClassFile.FieldType.int) ∈ lw_all := lw_c1 (List.mem_of_getElem? (i := 182) (by decide +kernel)) rfl
theorem ql_RL_53 : Cond.methodLink RL 53 yX6_meanError ∈ lw_all := lw_c1 (List.mem_of_getElem? (i := 183) (by decide +kernel)) rfl
theorem qm_yX6_meanError : Cond.instanceMethod yX6_meanError ∈ lw_all := lw_c1 (List.mem_of_getElem? (i := 184) (by decide +kernel)) rfl
theorem qs_yX6_meanError : Cond.selects RX6 yX6_meanError yX6_meanError ∈ lw_all := lw_c1 (List.mem_of_getElem? (i := 185) (by decide +kernel)) rfl
theorem qc_yX6_meanError : Cond.code yX6_meanError cX6_meanError 2 (some Jvm.ClassFile.FieldType.double) ∈ lw_all := lw_c1 (List.mem_of_getElem? (i := 186) (by decide +kernel)) rfl
theorem ql_RX6_248 : Cond.methodLink RX6 248 yX3_countMended ∈ lw_all := lw_c1 (List.mem_of_getElem? (i := 187) (by decide +kernel)) rfl
theorem qm_yX3_countMended : Cond.instanceMethod yX3_countMended ∈ lw_all := lw_c1 (List.mem_of_getElem? (i := 188) (by decide +kernel)) rfl
theorem qs_yX3_countMended : Cond.selects RX3 yX3_countMended yX3_countMended ∈ lw_all := lw_c1 (List.mem_of_getElem? (i := 189) (by decide +kernel)) rfl
theorem qc_yX3_countMended : Cond.code yX3_countMended cX3_countMended 3 (some Jvm.ClassFile.FieldType.int) ∈ lw_all := lw_c1 (List.mem_of_getElem? (i := 190) (by decide +kernel)) rfl
theorem ql_RX3_176 : Cond.methodLink RX3 176 yX5_hasMended ∈ lw_all := lw_c1 (List.mem_of_getElem? (i := 191) (by decide +kernel)) rfl
theorem qm_yX5_hasMended : Cond.instanceMethod yX5_hasMended ∈ lw_all := lw_c1 (List.mem_of_getElem? (i := 192) (by decide +kernel)) rfl
theorem qs_yX5_hasMended : Cond.selects RX5 yX5_hasMended yX5_hasMended ∈ lw_all := lw_c1 (List.mem_of_getElem? (i := 193) (by decide +kernel)) rfl
theorem qc_yX5_hasMended : Cond.code yX5_hasMended cX5_hasMended 1 (some Jvm.ClassFile.FieldType.boolean) ∈ lw_all := lw_c1 (List.mem_of_getElem? (i := 194) (by decide +kernel)) rfl
theorem ql_RX6_251 : Cond.methodLink RX6 251 yX3_sumOfErrors ∈ lw_all := lw_c1 (List.mem_of_getElem? (i := 195) (by decide +kernel)) rfl
theorem qm_yX3_sumOfErrors : Cond.instanceMethod yX3_sumOfErrors ∈ lw_all := lw_c1 (List.mem_of_getElem? (i := 196) (by decide +kernel)) rfl
theorem qs_yX3_sumOfErrors : Cond.selects RX3 yX3_sumOfErrors yX3_sumOfErrors ∈ lw_all := lw_c1 (List.mem_of_getElem? (i := 197) (by decide +kernel)) rfl
theorem qc_yX3_sumOfErrors : Cond.code yX3_sumOfErrors cX3_sumOfErrors 3 (some Jvm.ClassFile.FieldType.int) ∈ lw_all := lw_c1 (List.mem_of_getElem? (i := 198) (by decide +kernel)) rfl
theorem ql_RX3_185 : Cond.methodLink RX3 185 yX5_error ∈ lw_all := lw_c1 (List.mem_of_getElem? (i := 199) (by decide +kernel)) rfl
theorem qm_yX5_error : Cond.instanceMethod yX5_error ∈ lw_all := lw_c1 (List.mem_of_getElem? (i := 200) (by decide +kernel)) rfl
theorem qs_yX5_error : Cond.selects RX5 yX5_error yX5_error ∈ lw_all := lw_c1 (List.mem_of_getElem? (i := 201) (by decide +kernel)) rfl
theorem qc_yX5_error : Cond.code yX5_error cX5_error 2 (some Jvm.ClassFile.FieldType.int) ∈ lw_all := lw_c1 (List.mem_of_getElem? (i := 202) (by decide +kernel)) rfl
theorem ql_RX5_94 : Cond.methodLink RX5 94 yJ9_abs_0f7a4 ∈ lw_all := lw_c1 (List.mem_of_getElem? (i := 203) (by decide +kernel)) rfl
theorem qt_yJ9_abs_0f7a4 : Cond.static yJ9_abs_0f7a4 ∈ lw_all := lw_c1 (List.mem_of_getElem? (i := 204) (by decide +kernel)) rfl
theorem qc_yJ9_abs_0f7a4 : Cond.code yJ9_abs_0f7a4 cJ9_abs_0f7a4 1 (some Jvm.ClassFile.FieldType.int) ∈ lw_all := lw_c1 (List.mem_of_getElem? (i := 205) (by decide +kernel)) rfl
theorem ql_RL_120 : Cond.methodLink RL 120 yL_areNumbers ∈ lw_all := lw_c1 (List.mem_of_getElem? (i := 206) (by decide +kernel)) rfl
theorem qt_yL_areNumbers : Cond.static yL_areNumbers ∈ lw_all := lw_c1 (List.mem_of_getElem? (i := 207) (by decide +kernel)) rfl
theorem qc_yL_areNumbers : Cond.code yL_areNumbers cL_areNumbers 11 (some Jvm.ClassFile.FieldType.boolean) ∈ lw_all := lw_c1 (List.mem_of_getElem? (i := 208) (by decide +kernel)) rfl
theorem ql_RL_24 : Cond.methodLink RL 24 yL_mean ∈ lw_all := lw_c1 (List.mem_of_getElem? (i := 209) (by decide +kernel)) rfl
theorem qt_yL_mean : Cond.static yL_mean ∈ lw_all := lw_c1 (List.mem_of_getElem? (i := 210) (by decide +kernel)) rfl
theorem qc_yL_mean : Cond.code yL_mean cL_mean 7 (some Jvm.ClassFile.FieldType.int) ∈ lw_all := lw_c1 (List.mem_of_getElem? (i := 211) (by decide +kernel)) rfl
theorem ql_RL_32 : Cond.methodLink RL 32 yL_middle ∈ lw_all := lw_c1 (List.mem_of_getElem? (i := 212) (by decide +kernel)) rfl
theorem qt_yL_middle : Cond.static yL_middle ∈ lw_all := lw_c1 (List.mem_of_getElem? (i := 213) (by decide +kernel)) rfl
theorem qc_yL_middle : Cond.code yL_middle cL_middle 10 (some Jvm.ClassFile.FieldType.int) ∈ lw_all := lw_c1 (List.mem_of_getElem? (i := 214) (by decide +kernel)) rfl
theorem ql_RL_57 : Cond.methodLink RL 57 yX6_row ∈ lw_all := lw_c1 (List.mem_of_getElem? (i := 215) (by decide +kernel)) rfl
theorem qm_yX6_row : Cond.instanceMethod yX6_row ∈ lw_all := lw_c1 (List.mem_of_getElem? (i := 216) (by decide +kernel)) rfl
theorem qs_yX6_row : Cond.selects RX6 yX6_row yX6_row ∈ lw_all := lw_c1 (List.mem_of_getElem? (i := 217) (by decide +kernel)) rfl
theorem qc_yX6_row : Cond.code yX6_row cX6_row 3 (some Jvm.ClassFile.FieldType.int) ∈ lw_all := lw_c1 (List.mem_of_getElem? (i := 218) (by decide +kernel)) rfl
theorem ql_RX6_43 : Cond.methodLink RX6 43 yX6_checkRow ∈ lw_all := lw_c1 (List.mem_of_getElem? (i := 219) (by decide +kernel)) rfl
theorem qt_yX6_checkRow : Cond.static yX6_checkRow ∈ lw_all := lw_c1 (List.mem_of_getElem? (i := 220) (by decide +kernel)) rfl
theorem qc_yX6_checkRow : Cond.code yX6_checkRow cX6_checkRow 1 none ∈ lw_all := lw_c1 (List.mem_of_getElem? (i := 221) (by decide +kernel)) rfl
theorem qr_RX6_254 : Cond.stringRef RX6 254 "there is no such row" ∈ lw_tbl := lw_n1 (List.mem_of_getElem? (i := 222) (by decide +kernel))
theorem ql_RX6_85 : Cond.methodLink RX6 85 yX3_periodOf ∈ lw_all := lw_c1 (List.mem_of_getElem? (i := 223) (by decide +kernel)) rfl
theorem qm_yX3_periodOf : Cond.instanceMethod yX3_periodOf ∈ lw_all := lw_c1 (List.mem_of_getElem? (i := 224) (by decide +kernel)) rfl
theorem qs_yX3_periodOf : Cond.selects RX3 yX3_periodOf yX3_periodOf ∈ lw_all := lw_c1 (List.mem_of_getElem? (i := 225) (by decide +kernel)) rfl
theorem qc_yX3_periodOf : Cond.code yX3_periodOf cX3_periodOf 2 (some Jvm.ClassFile.FieldType.int) ∈ lw_all := lw_c1 (List.mem_of_getElem? (i := 226) (by decide +kernel)) rfl
theorem ql_RX6_198 : Cond.methodLink RX6 198 yX3_countInRow ∈ lw_all := lw_c1 (List.mem_of_getElem? (i := 228) (by decide +kernel)) rfl
theorem qm_yX3_countInRow : Cond.instanceMethod yX3_countInRow ∈ lw_all := lw_c1 (List.mem_of_getElem? (i := 229) (by decide +kernel)) rfl
theorem qs_yX3_countInRow : Cond.selects RX3 yX3_countInRow yX3_countInRow ∈ lw_all := lw_c1 (List.mem_of_getElem? (i := 230) (by decide +kernel)) rfl
theorem qc_yX3_countInRow : Cond.code yX3_countInRow cX3_countInRow 4 (some Jvm.ClassFile.FieldType.int) ∈ lw_all := lw_c1 (List.mem_of_getElem? (i := 231) (by decide +kernel)) rfl
theorem ql_RX6_201 : Cond.methodLink RX6 201 yX3_hoursUntilRead ∈ lw_all := lw_c1 (List.mem_of_getElem? (i := 232) (by decide +kernel)) rfl
theorem qm_yX3_hoursUntilRead : Cond.instanceMethod yX3_hoursUntilRead ∈ lw_all := lw_c1 (List.mem_of_getElem? (i := 233) (by decide +kernel)) rfl
theorem qs_yX3_hoursUntilRead : Cond.selects RX3 yX3_hoursUntilRead yX3_hoursUntilRead ∈ lw_all := lw_c1 (List.mem_of_getElem? (i := 234) (by decide +kernel)) rfl
theorem qc_yX3_hoursUntilRead : Cond.code yX3_hoursUntilRead cX3_hoursUntilRead 2 (some Jvm.ClassFile.FieldType.int) ∈ lw_all := lw_c1 (List.mem_of_getElem? (i := 235) (by decide +kernel)) rfl
theorem ql_RX3_82 : Cond.methodLink RX3 82 yX3_periodOf ∈ lw_all := lw_c1 (List.mem_of_getElem? (i := 236) (by decide +kernel)) rfl
theorem qt_yX6_remainder : Cond.static yX6_remainder ∈ lw_all := lw_c1 (List.mem_of_getElem? (i := 238) (by decide +kernel)) rfl
theorem qc_yX6_remainder : Cond.code yX6_remainder cX6_remainder 2 (some Jvm.ClassFile.FieldType.int) ∈ lw_all := lw_c1 (List.mem_of_getElem? (i := 239) (by decide +kernel)) rfl
theorem ql_RX6_204 : Cond.methodLink RX6 204 yX3_timesReadOf ∈ lw_all := lw_c2 (List.mem_of_getElem? (i := 0) (by decide +kernel)) rfl
theorem qm_yX3_timesReadOf : Cond.instanceMethod yX3_timesReadOf ∈ lw_all := lw_c2 (List.mem_of_getElem? (i := 1) (by decide +kernel)) rfl
theorem qs_yX3_timesReadOf : Cond.selects RX3 yX3_timesReadOf yX3_timesReadOf ∈ lw_all := lw_c2 (List.mem_of_getElem? (i := 2) (by decide +kernel)) rfl
theorem qc_yX3_timesReadOf : Cond.code yX3_timesReadOf cX3_timesReadOf 2 (some Jvm.ClassFile.FieldType.int) ∈ lw_all := lw_c2 (List.mem_of_getElem? (i := 3) (by decide +kernel)) rfl
theorem ql_RL_131 : Cond.methodLink RL 131 yL_areRanked ∈ lw_all := lw_c2 (List.mem_of_getElem? (i := 4) (by decide +kernel)) rfl
theorem qt_yL_areRanked : Cond.static yL_areRanked ∈ lw_all := lw_c2 (List.mem_of_getElem? (i := 5) (by decide +kernel)) rfl
theorem qc_yL_areRanked : Cond.code yL_areRanked cL_areRanked 16 (some Jvm.ClassFile.FieldType.boolean) ∈ lw_all := lw_c2 (List.mem_of_getElem? (i := 6) (by decide +kernel)) rfl
theorem ql_RL_60 : Cond.methodLink RL 60 yX6_ranked ∈ lw_all := lw_c2 (List.mem_of_getElem? (i := 7) (by decide +kernel)) rfl
theorem qm_yX6_ranked : Cond.instanceMethod yX6_ranked ∈ lw_all := lw_c2 (List.mem_of_getElem? (i := 8) (by decide +kernel)) rfl
theorem qs_yX6_ranked : Cond.selects RX6 yX6_ranked yX6_ranked ∈ lw_all := lw_c2 (List.mem_of_getElem? (i := 9) (by decide +kernel)) rfl
theorem qc_yX6_ranked : Cond.code yX6_ranked cX6_ranked 3 (some Jvm.ClassFile.FieldType.int) ∈ lw_all := lw_c2 (List.mem_of_getElem? (i := 10) (by decide +kernel)) rfl
theorem ql_RX6_229 : Cond.methodLink RX6 229 yX3_atRank ∈ lw_all := lw_c2 (List.mem_of_getElem? (i := 11) (by decide +kernel)) rfl
theorem qm_yX3_atRank : Cond.instanceMethod yX3_atRank ∈ lw_all := lw_c2 (List.mem_of_getElem? (i := 12) (by decide +kernel)) rfl
theorem qs_yX3_atRank : Cond.selects RX3 yX3_atRank yX3_atRank ∈ lw_all := lw_c2 (List.mem_of_getElem? (i := 13) (by decide +kernel)) rfl
theorem qc_yX3_atRank : Cond.code yX3_atRank cX3_atRank 4 (some Jvm.ClassFile.FieldType.int) ∈ lw_all := lw_c2 (List.mem_of_getElem? (i := 14) (by decide +kernel)) rfl
theorem ql_RX3_179 : Cond.methodLink RX3 179 yX3_countAheadOf ∈ lw_all := lw_c2 (List.mem_of_getElem? (i := 15) (by decide +kernel)) rfl
theorem qm_yX3_countAheadOf : Cond.instanceMethod yX3_countAheadOf ∈ lw_all := lw_c2 (List.mem_of_getElem? (i := 17) (by decide +kernel)) rfl
theorem qc_yX3_countAheadOf : Cond.code yX3_countAheadOf cX3_countAheadOf 7 (some Jvm.ClassFile.FieldType.int) ∈ lw_all := lw_c2 (List.mem_of_getElem? (i := 18) (by decide +kernel)) rfl
theorem ql_RX3_182 : Cond.methodLink RX3 182 yX3_sortKey ∈ lw_all := lw_c2 (List.mem_of_getElem? (i := 19) (by decide +kernel)) rfl
theorem qm_yX3_sortKey : Cond.instanceMethod yX3_sortKey ∈ lw_all := lw_c2 (List.mem_of_getElem? (i := 21) (by decide +kernel)) rfl
theorem qc_yX3_sortKey : Cond.code yX3_sortKey cX3_sortKey 3 (some Jvm.ClassFile.FieldType.int) ∈ lw_all := lw_c2 (List.mem_of_getElem? (i := 22) (by decide +kernel)) rfl
theorem ql_RL_63 : Cond.methodLink RL 63 yX6_between ∈ lw_all := lw_c2 (List.mem_of_getElem? (i := 23) (by decide +kernel)) rfl
theorem qm_yX6_between : Cond.instanceMethod yX6_between ∈ lw_all := lw_c2 (List.mem_of_getElem? (i := 24) (by decide +kernel)) rfl
theorem qs_yX6_between : Cond.selects RX6 yX6_between yX6_between ∈ lw_all := lw_c2 (List.mem_of_getElem? (i := 25) (by decide +kernel)) rfl
theorem qc_yX6_between : Cond.code yX6_between cX6_between 3 (some Jvm.ClassFile.FieldType.int) ∈ lw_all := lw_c2 (List.mem_of_getElem? (i := 26) (by decide +kernel)) rfl
theorem ql_RX6_233 : Cond.methodLink RX6 233 yX3_countMendedIn ∈ lw_all := lw_c2 (List.mem_of_getElem? (i := 27) (by decide +kernel)) rfl
theorem qm_yX3_countMendedIn : Cond.instanceMethod yX3_countMendedIn ∈ lw_all := lw_c2 (List.mem_of_getElem? (i := 28) (by decide +kernel)) rfl
theorem qs_yX3_countMendedIn : Cond.selects RX3 yX3_countMendedIn yX3_countMendedIn ∈ lw_all := lw_c2 (List.mem_of_getElem? (i := 29) (by decide +kernel)) rfl
theorem qc_yX3_countMendedIn : Cond.code yX3_countMendedIn cX3_countMendedIn 5 (some Jvm.ClassFile.FieldType.int) ∈ lw_all := lw_c2 (List.mem_of_getElem? (i := 30) (by decide +kernel)) rfl
theorem qn_RL_66 : Cond.constant RL 66 (-2000000) ∈ lw_all := lw_c2 (List.mem_of_getElem? (i := 31) (by decide +kernel)) rfl
theorem ql_RL_139 : Cond.methodLink RL 139 yL_would ∈ lw_all := lw_c2 (List.mem_of_getElem? (i := 32) (by decide +kernel)) rfl
theorem qt_yL_would : Cond.static yL_would ∈ lw_all := lw_c2 (List.mem_of_getElem? (i := 33) (by decide +kernel)) rfl
theorem qc_yL_would : Cond.code yL_would cL_would 14 (some Jvm.ClassFile.FieldType.boolean) ∈ lw_all := lw_c2 (List.mem_of_getElem? (i := 34) (by decide +kernel)) rfl
theorem ql_RL_67 : Cond.methodLink RL 67 yL_copy ∈ lw_all := lw_c2 (List.mem_of_getElem? (i := 35) (by decide +kernel)) rfl
theorem qt_yL_copy : Cond.static yL_copy ∈ lw_all := lw_c2 (List.mem_of_getElem? (i := 36) (by decide +kernel)) rfl
theorem qc_yL_copy : Cond.code yL_copy cL_copy 3 none ∈ lw_all := lw_c2 (List.mem_of_getElem? (i := 37) (by decide +kernel)) rfl
theorem ql_RL_71 : Cond.methodLink RL 71 yL_hour ∈ lw_all := lw_c2 (List.mem_of_getElem? (i := 38) (by decide +kernel)) rfl
theorem qt_yL_hour : Cond.static yL_hour ∈ lw_all := lw_c2 (List.mem_of_getElem? (i := 39) (by decide +kernel)) rfl
theorem qc_yL_hour : Cond.code yL_hour cL_hour 10 (some Jvm.ClassFile.FieldType.int) ∈ lw_all := lw_c2 (List.mem_of_getElem? (i := 40) (by decide +kernel)) rfl
theorem ql_RL_28 : Cond.methodLink RL 28 yL_change ∈ lw_all := lw_c2 (List.mem_of_getElem? (i := 41) (by decide +kernel)) rfl
theorem qt_yL_change : Cond.static yL_change ∈ lw_all := lw_c2 (List.mem_of_getElem? (i := 42) (by decide +kernel)) rfl
theorem qc_yL_change : Cond.code yL_change cL_change 3 (some Jvm.ClassFile.FieldType.int) ∈ lw_all := lw_c2 (List.mem_of_getElem? (i := 43) (by decide +kernel)) rfl
theorem ql_RL_74 : Cond.methodLink RL 74 yX6_ifStill ∈ lw_all := lw_c2 (List.mem_of_getElem? (i := 44) (by decide +kernel)) rfl
theorem qm_yX6_ifStill : Cond.instanceMethod yX6_ifStill ∈ lw_all := lw_c2 (List.mem_of_getElem? (i := 45) (by decide +kernel)) rfl
theorem qs_yX6_ifStill : Cond.selects RX6 yX6_ifStill yX6_ifStill ∈ lw_all := lw_c2 (List.mem_of_getElem? (i := 46) (by decide +kernel)) rfl
theorem qc_yX6_ifStill : Cond.code yX6_ifStill cX6_ifStill 3 (some Jvm.ClassFile.FieldType.int) ∈ lw_all := lw_c2 (List.mem_of_getElem? (i := 47) (by decide +kernel)) rfl
theorem ql_RX6_183 : Cond.methodLink RX6 183 yX3_copyFrom ∈ lw_all := lw_c2 (List.mem_of_getElem? (i := 48) (by decide +kernel)) rfl
theorem qm_yX3_copyFrom : Cond.instanceMethod yX3_copyFrom ∈ lw_all := lw_c2 (List.mem_of_getElem? (i := 49) (by decide +kernel)) rfl
theorem qs_yX3_copyFrom : Cond.selects RX3 yX3_copyFrom yX3_copyFrom ∈ lw_all := lw_c2 (List.mem_of_getElem? (i := 50) (by decide +kernel)) rfl
theorem qc_yX3_copyFrom : Cond.code yX3_copyFrom cX3_copyFrom 3 none ∈ lw_all := lw_c2 (List.mem_of_getElem? (i := 51) (by decide +kernel)) rfl
theorem ql_RX3_57 : Cond.methodLink RX3 57 yX5_copyFrom ∈ lw_all := lw_c2 (List.mem_of_getElem? (i := 52) (by decide +kernel)) rfl
theorem qm_yX5_copyFrom : Cond.instanceMethod yX5_copyFrom ∈ lw_all := lw_c2 (List.mem_of_getElem? (i := 53) (by decide +kernel)) rfl
theorem qs_yX5_copyFrom : Cond.selects RX5 yX5_copyFrom yX5_copyFrom ∈ lw_all := lw_c2 (List.mem_of_getElem? (i := 54) (by decide +kernel)) rfl
theorem qc_yX5_copyFrom : Cond.code yX5_copyFrom cX5_copyFrom 2 none ∈ lw_all := lw_c2 (List.mem_of_getElem? (i := 55) (by decide +kernel)) rfl
theorem qt_yX6_copyInto : Cond.static yX6_copyInto ∈ lw_all := lw_c2 (List.mem_of_getElem? (i := 57) (by decide +kernel)) rfl
theorem qc_yX6_copyInto : Cond.code yX6_copyInto cX6_copyInto 3 none ∈ lw_all := lw_c2 (List.mem_of_getElem? (i := 58) (by decide +kernel)) rfl
theorem ql_RX6_77 : Cond.methodLink RX6 77 yX3_passHours ∈ lw_all := lw_c2 (List.mem_of_getElem? (i := 60) (by decide +kernel)) rfl
theorem qm_yX3_passHours : Cond.instanceMethod yX3_passHours ∈ lw_all := lw_c2 (List.mem_of_getElem? (i := 61) (by decide +kernel)) rfl
theorem qs_yX3_passHours : Cond.selects RX3 yX3_passHours yX3_passHours ∈ lw_all := lw_c2 (List.mem_of_getElem? (i := 62) (by decide +kernel)) rfl
theorem qc_yX3_passHours : Cond.code yX3_passHours cX3_passHours 5 none ∈ lw_all := lw_c2 (List.mem_of_getElem? (i := 63) (by decide +kernel)) rfl
theorem ql_RX3_93 : Cond.methodLink RX3 93 yJ9_min_7cf53 ∈ lw_all := lw_c2 (List.mem_of_getElem? (i := 64) (by decide +kernel)) rfl
theorem qt_yJ9_min_7cf53 : Cond.static yJ9_min_7cf53 ∈ lw_all := lw_c2 (List.mem_of_getElem? (i := 65) (by decide +kernel)) rfl
theorem qc_yJ9_min_7cf53 : Cond.code yJ9_min_7cf53 cJ9_min_7cf53 2 (some Jvm.ClassFile.FieldType.int) ∈ lw_all := lw_c2 (List.mem_of_getElem? (i := 66) (by decide +kernel)) rfl
theorem ql_RX3_98 : Cond.methodLink RX3 98 yJ9_max_7cf53 ∈ lw_all := lw_c2 (List.mem_of_getElem? (i := 67) (by decide +kernel)) rfl
theorem qt_yJ9_max_7cf53 : Cond.static yJ9_max_7cf53 ∈ lw_all := lw_c2 (List.mem_of_getElem? (i := 68) (by decide +kernel)) rfl
theorem qc_yJ9_max_7cf53 : Cond.code yJ9_max_7cf53 cJ9_max_7cf53 2 (some Jvm.ClassFile.FieldType.int) ∈ lw_all := lw_c2 (List.mem_of_getElem? (i := 69) (by decide +kernel)) rfl
theorem ql_RX3_101 : Cond.methodLink RX3 101 yX3_passHour ∈ lw_all := lw_c2 (List.mem_of_getElem? (i := 70) (by decide +kernel)) rfl
theorem qm_yX3_passHour : Cond.instanceMethod yX3_passHour ∈ lw_all := lw_c2 (List.mem_of_getElem? (i := 71) (by decide +kernel)) rfl
theorem qs_yX3_passHour : Cond.selects RX3 yX3_passHour yX3_passHour ∈ lw_all := lw_c2 (List.mem_of_getElem? (i := 72) (by decide +kernel)) rfl
theorem qc_yX3_passHour : Cond.code yX3_passHour cX3_passHour 3 (some Jvm.ClassFile.FieldType.int) ∈ lw_all := lw_c2 (List.mem_of_getElem? (i := 73) (by decide +kernel)) rfl
theorem ql_RX3_108 : Cond.methodLink RX3 108 yX5_follow ∈ lw_all := lw_c2 (List.mem_of_getElem? (i := 74) (by decide +kernel)) rfl
theorem qm_yX5_follow : Cond.instanceMethod yX5_follow ∈ lw_all := lw_c2 (List.mem_of_getElem? (i := 75) (by decide +kernel)) rfl
theorem qs_yX5_follow : Cond.selects RX5 yX5_follow yX5_follow ∈ lw_all := lw_c2 (List.mem_of_getElem? (i := 76) (by decide +kernel)) rfl
theorem qc_yX5_follow : Cond.code yX5_follow cX5_follow 2 none ∈ lw_all := lw_c2 (List.mem_of_getElem? (i := 77) (by decide +kernel)) rfl
theorem ql_RX5_59 : Cond.methodLink RX5 59 yX5_stepFrom ∈ lw_all := lw_c2 (List.mem_of_getElem? (i := 78) (by decide +kernel)) rfl
theorem qm_yX5_stepFrom : Cond.instanceMethod yX5_stepFrom ∈ lw_all := lw_c2 (List.mem_of_getElem? (i := 80) (by decide +kernel)) rfl
theorem qc_yX5_stepFrom : Cond.code yX5_stepFrom cX5_stepFrom 3 (some Jvm.ClassFile.FieldType.int) ∈ lw_all := lw_c2 (List.mem_of_getElem? (i := 81) (by decide +kernel)) rfl
theorem ql_RX3_112 : Cond.methodLink RX3 112 yX3_readRows ∈ lw_all := lw_c2 (List.mem_of_getElem? (i := 83) (by decide +kernel)) rfl
theorem qm_yX3_readRows : Cond.instanceMethod yX3_readRows ∈ lw_all := lw_c2 (List.mem_of_getElem? (i := 85) (by decide +kernel)) rfl
theorem qc_yX3_readRows : Cond.code yX3_readRows cX3_readRows 2 none ∈ lw_all := lw_c2 (List.mem_of_getElem? (i := 86) (by decide +kernel)) rfl
theorem ql_RX3_118 : Cond.methodLink RX3 118 yX3_isReadNow ∈ lw_all := lw_c2 (List.mem_of_getElem? (i := 87) (by decide +kernel)) rfl
theorem qm_yX3_isReadNow : Cond.instanceMethod yX3_isReadNow ∈ lw_all := lw_c2 (List.mem_of_getElem? (i := 89) (by decide +kernel)) rfl
theorem qc_yX3_isReadNow : Cond.code yX3_isReadNow cX3_isReadNow 2 (some Jvm.ClassFile.FieldType.boolean) ∈ lw_all := lw_c2 (List.mem_of_getElem? (i := 90) (by decide +kernel)) rfl
theorem ql_RX3_122 : Cond.methodLink RX3 122 yX5_takeReading ∈ lw_all := lw_c2 (List.mem_of_getElem? (i := 91) (by decide +kernel)) rfl
theorem qm_yX5_takeReading : Cond.instanceMethod yX5_takeReading ∈ lw_all := lw_c2 (List.mem_of_getElem? (i := 92) (by decide +kernel)) rfl
theorem qs_yX5_takeReading : Cond.selects RX5 yX5_takeReading yX5_takeReading ∈ lw_all := lw_c2 (List.mem_of_getElem? (i := 93) (by decide +kernel)) rfl
theorem qc_yX5_takeReading : Cond.code yX5_takeReading cX5_takeReading 2 none ∈ lw_all := lw_c2 (List.mem_of_getElem? (i := 94) (by decide +kernel)) rfl
theorem qt_yX6_putFirst : Cond.static yX6_putFirst ∈ lw_all := lw_c2 (List.mem_of_getElem? (i := 96) (by decide +kernel)) rfl
theorem qc_yX6_putFirst : Cond.code yX6_putFirst cX6_putFirst 3 none ∈ lw_all := lw_c2 (List.mem_of_getElem? (i := 97) (by decide +kernel)) rfl
theorem ql_RX5_71 : Cond.methodLink RX5 71 yJ9_min_7cf53 ∈ lw_all := lw_c2 (List.mem_of_getElem? (i := 98) (by decide +kernel)) rfl
theorem ql_RX5_76 : Cond.methodLink RX5 76 yX5_mendedWith ∈ lw_all := lw_c2 (List.mem_of_getElem? (i := 99) (by decide +kernel)) rfl
theorem qm_yX5_mendedWith : Cond.instanceMethod yX5_mendedWith ∈ lw_all := lw_c2 (List.mem_of_getElem? (i := 100) (by decide +kernel)) rfl
theorem qs_yX5_mendedWith : Cond.selects RX5 yX5_mendedWith yX5_mendedWith ∈ lw_all := lw_c2 (List.mem_of_getElem? (i := 101) (by decide +kernel)) rfl
theorem qc_yX5_mendedWith : Cond.code yX5_mendedWith cX5_mendedWith 5 (some Jvm.ClassFile.FieldType.int) ∈ lw_all := lw_c2 (List.mem_of_getElem? (i := 102) (by decide +kernel)) rfl
theorem ql_RX3_115 : Cond.methodLink RX3 115 yX3_lookForSpikes ∈ lw_all := lw_c2 (List.mem_of_getElem? (i := 103) (by decide +kernel)) rfl
theorem qm_yX3_lookForSpikes : Cond.instanceMethod yX3_lookForSpikes ∈ lw_all := lw_c2 (List.mem_of_getElem? (i := 105) (by decide +kernel)) rfl
theorem qc_yX3_lookForSpikes : Cond.code yX3_lookForSpikes cX3_lookForSpikes 2 none ∈ lw_all := lw_c2 (List.mem_of_getElem? (i := 106) (by decide +kernel)) rfl
theorem ql_RX3_125 : Cond.methodLink RX3 125 yX3_maskOfAsked ∈ lw_all := lw_c2 (List.mem_of_getElem? (i := 107) (by decide +kernel)) rfl
theorem ql_RX3_128 : Cond.methodLink RX3 128 yJ6_bitCount_0f7a4 ∈ lw_all := lw_c2 (List.mem_of_getElem? (i := 108) (by decide +kernel)) rfl
