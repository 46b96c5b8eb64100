theorem good_SW {own : String} {index : Nat} {y : MethodName} {cc : ByteArray} {n : Nat} {ret : Option FieldType} {hh : List (Nat × Nat × Nat × Nat)} (h1 : Cond.methodLink own index y ∈ lw_all) (h2 : Cond.static y ∈ lw_all) (h4 : Cond.initialized y.cls ∈ lw_all) (h5 : Cond.codeWith y cc n ret hh ∈ lw_all) : GoodIn lw_all (va_wsS own index y (wB y cc n ret hh)) := by
  intro w hw
  rcases List.mem_append.mp hw with h | h
  · simp only [List.mem_cons, List.not_mem_nil, or_false] at h
    rcases h with rfl | rfl | rfl
    · exact good_all h1
    · exact good_all h2
    · exact good_all h4
  · exact (List.mem_cons.mp h).elim (fun e => by rw [e]; exact good_all h5) good_all
def rmL_thermometer : Room := { frames := 8, cells := 5, slots := 30, locals := 136 }
set_option maxRecDepth 100000 in
set_option maxHeartbeats 4000000 in
theorem met_L_thermometer (l : Launch) (hl9 : l.stackTraces = false) (D : va_G) (ad : Adr) (cy : Nat → ClassId) (S : Mem) (o : Nat → Int64) (x1 : Int32) (x2 : Int32) (x3 : Int32) (x4 : Int32) {Q : Mem → (Nat → Int64) → Int32 → Prop} (hq : vc_L_thermometer S o x1 x2 x3 x4 Q) : Li l yL_thermometer (wB yL_thermometer cL_thermometer 7 (Option.some Jvm.ClassFile.FieldType.int) [((0 : Nat), (14 : Nat), (17 : Nat), (13 : Nat)), ((0 : Nat), (14 : Nat), (21 : Nat), (15 : Nat)), ((0 : Nat), (14 : Nat), (25 : Nat), (17 : Nat))]) rmL_thermometer D ad cy [.ref (ad 14 0 0), .int x1, .int x2, .int x3, .int x4, .ref (ad 28 0 0)] S o Q 5 30 := by
  intro sz
  refine mkL (own := RL) (lv := [(0, .ref (ad 14 0 0)), (1, .int x1), (2, .int x2), (3, .int x3), (4, .int x4), (5, .ref (ad 28 0 0))]) (by decide) rfl (Nat.le_of_ble_eq_true rfl) rfl ?_
  intro p e s m below meth c ls hsz hM hlocks hret hK hA hX hl htab hT hZ hN
  unfold vc_L_thermometer at hq
  refine lv_aload hM.1 hM.2.1 dL_thermometer_0 (lv_at hl 5 rfl) ?_
  refine lv_iconst (v := 0) hM.1 hM.2.1 dL_thermometer_2 (by decide) ?_
  refine lv_aload_n hM.1 hM.2.1 dL_thermometer_3 rfl (lv_at hl 0 rfl) ?_
  refine lv_iload_n hM.1 hM.2.1 dL_thermometer_4 rfl (lv_at hl 1 rfl) ?_
  refine lv_iload_n hM.1 hM.2.1 dL_thermometer_5 rfl (lv_at hl 2 rfl) ?_
  refine lv_iload_n hM.1 hM.2.1 dL_thermometer_6 rfl (lv_at hl 3 rfl) ?_
  refine lv_iload hM.1 hM.2.1 dL_thermometer_7 (lv_at hl 4 rfl) ?_
  refine hVi (As := [.int x1, .int x2, .int x3, .int x4]) hM hK hX hA hT hZ (met_X6_thermometer l hl9 D ad cy S x1 x2 x3 x4 hq) (kX6_thermometer hM.2.2.2.2 ql_RL_7 (Nat.le_of_ble_eq_true rfl) (Nat.le_of_ble_eq_true rfl)) (v14 hK hX m14) rfl hl.1 rfl (Nat.le_of_ble_eq_true rfl) dL_thermometer_9 ⟨Nat.le_of_ble_eq_true rfl, Nat.le_of_ble_eq_true rfl⟩ (fun S1 k ce q9 H locs hq hX hc9 hv9 hcl9 => ?_) (fun S1 r1 hq H locs hX => ?_)
  · rcases hq with ⟨rfl, hq⟩ | ⟨rfl, hq⟩ | ⟨rfl, hq⟩
    · refine r_catch (k := 1) (pre := tableOf []) (suf := tableOf [(0, 14, 21, 15), (0, 14, 25, 17)]) (x := ⟨0, 14, 17, 13⟩) hM hT htab (fun z hz => ?_) (by decide) (by decide) qk_RL_13 cast_1 hc9 hv9 hcl9 ?_
      · exact absurd hz List.not_mem_nil
      refine lv_astore (lv' := [(6, .ref q9), (0, .ref (ad 14 0 0)), (1, .int x1), (2, .int x2), (3, .int x3), (4, .int x4), (5, .ref (ad 28 0 0))]) hM.1 hM.2.1 dL_thermometer_17 hl (by decide) rfl (fun ls hl => ?_)
      refine lv_iconst (v := 1) hM.1 hM.2.1 dL_thermometer_19 (by decide) ?_
      exact e_iL hM hX hlocks hret hq dL_thermometer_20
    · refine r_catch (k := 2) (pre := tableOf [(0, 14, 17, 13)]) (suf := tableOf [(0, 14, 25, 17)]) (x := ⟨0, 14, 21, 15⟩) hM hT htab (fun z hz => ?_) (by decide) (by decide) qk_RL_15 cast_2 hc9 hv9 hcl9 ?_
      · simp only [tableOf, List.map_cons, List.map_nil, List.mem_cons, List.not_mem_nil, or_false] at hz
        rcases hz with rfl
        · exact ⟨by decide, _, qk_RL_13, hN 2 1 (by decide) (by decide) (by decide)⟩
      refine lv_astore (lv' := [(6, .ref q9), (0, .ref (ad 14 0 0)), (1, .int x1), (2, .int x2), (3, .int x3), (4, .int x4), (5, .ref (ad 28 0 0))]) hM.1 hM.2.1 dL_thermometer_21 hl (by decide) rfl (fun ls hl => ?_)
      refine lv_iconst (v := 2) hM.1 hM.2.1 dL_thermometer_23 (by decide) ?_
      exact e_iL hM hX hlocks hret hq dL_thermometer_24
    · refine r_catch (k := 3) (pre := tableOf [(0, 14, 17, 13), (0, 14, 21, 15)]) (suf := tableOf []) (x := ⟨0, 14, 25, 17⟩) hM hT htab (fun z hz => ?_) (by decide) (by decide) qk_RL_17 cast_3 hc9 hv9 hcl9 ?_
      · simp only [tableOf, List.map_cons, List.map_nil, List.mem_cons, List.not_mem_nil, or_false] at hz
        rcases hz with rfl | rfl
        · exact ⟨by decide, _, qk_RL_13, hN 3 1 (by decide) (by decide) (by decide)⟩
        · exact ⟨by decide, _, qk_RL_15, hN 3 2 (by decide) (by decide) (by decide)⟩
      refine lv_astore (lv' := [(6, .ref q9), (0, .ref (ad 14 0 0)), (1, .int x1), (2, .int x2), (3, .int x3), (4, .int x4), (5, .ref (ad 28 0 0))]) hM.1 hM.2.1 dL_thermometer_25 hl (by decide) rfl (fun ls hl => ?_)
      refine lv_iconst (v := 3) hM.1 hM.2.1 dL_thermometer_27 (by decide) ?_
      exact e_iL hM hX hlocks hret hq dL_thermometer_28
  refine lv_i2l hM.1 hM.2.1 dL_thermometer_12 rfl ?_
  refine r_last hM hK hX dL_thermometer_13 (fun H locs hX => ?_)
  refine lv_goto (tgt := 29) hM.1 hM.2.1 dL_thermometer_14 (by decide) ?_
  refine lv_iconst (v := 0) hM.1 hM.2.1 dL_thermometer_29 (by decide) ?_
  exact e_iL hM hX hlocks hret hq dL_thermometer_30
theorem kL_thermometer {R : Room} {s : State} {args : Array Value} {own : String} {index : Nat} (ht : ∀ w ∈ lw_all, w.before args s = true) (hl : Cond.methodLink own index yL_thermometer ∈ lw_all) (hf : rmL_thermometer.frames + 1 ≤ R.frames) (hlo : 8 + (7 + 11) + rmL_thermometer.locals ≤ R.locals) : vx_CSW R s args own index yL_thermometer cL_thermometer 7 (Option.some Jvm.ClassFile.FieldType.int) [((0 : Nat), (14 : Nat), (17 : Nat), (13 : Nat)), ((0 : Nat), (14 : Nat), (21 : Nat), (15 : Nat)), ((0 : Nat), (14 : Nat), (25 : Nat), (17 : Nat))] (wB yL_thermometer cL_thermometer 7 (Option.some Jvm.ClassFile.FieldType.int) [((0 : Nat), (14 : Nat), (17 : Nat), (13 : Nat)), ((0 : Nat), (14 : Nat), (21 : Nat), (15 : Nat)), ((0 : Nat), (14 : Nat), (25 : Nat), (17 : Nat))]) rmL_thermometer 5 30 6 := vx_cwSW 6 ht (good_SW hl qt_yL_thermometer qi_RL qc_yL_thermometer) rfl rfl rfl (by decide +kernel) ⟨hf, hlo⟩
def rmL_hour : Room := { frames := 8, cells := 2, slots := 12, locals := 133 }
set_option maxRecDepth 100000 in
set_option maxHeartbeats 4000000 in
theorem met_L_hour (l : Launch) (hl9 : l.stackTraces = false) (D : va_G) (ad : Adr) (cy : Nat → ClassId) (S : Mem) (o : Nat → Int64) (x1 : Int32) {Q : Mem → (Nat → Int64) → Int32 → Prop} (hq : vc_L_hour S o x1 Q) : Li l yL_hour (wB yL_hour cL_hour 4 (Option.some Jvm.ClassFile.FieldType.int) [((0 : Nat), (9 : Nat), (12 : Nat), (15 : Nat)), ((0 : Nat), (9 : Nat), (15 : Nat), (17 : Nat))]) rmL_hour D ad cy [.ref (ad 14 0 0), .int x1, .ref (ad 28 0 0)] S o Q 2 12 := by
  intro sz
  refine mkL (own := RL) (lv := [(0, .ref (ad 14 0 0)), (1, .int x1), (2, .ref (ad 28 0 0))]) (by decide) rfl (Nat.le_of_ble_eq_true rfl) rfl ?_
  intro p e s m below meth c ls hsz hM hlocks hret hK hA hX hl htab hT hZ hN
  unfold vc_L_hour at hq
  refine lv_aload_n hM.1 hM.2.1 dL_hour_0 rfl (lv_at hl 2 rfl) ?_
  refine lv_iconst (v := 0) hM.1 hM.2.1 dL_hour_1 (by decide) ?_
  refine lv_aload_n hM.1 hM.2.1 dL_hour_2 rfl (lv_at hl 0 rfl) ?_
  refine lv_iload_n hM.1 hM.2.1 dL_hour_3 rfl (lv_at hl 1 rfl) ?_
  refine hVi (As := [.int x1]) hM hK hX hA hT hZ (met_X6_hour l hl9 D ad cy S x1 hq) (kX6_hour hM.2.2.2.2 ql_RL_19 (Nat.le_of_ble_eq_true rfl) (Nat.le_of_ble_eq_true rfl)) (v14 hK hX m14) rfl hl.1 rfl (Nat.le_of_ble_eq_true rfl) dL_hour_4 ⟨Nat.le_of_ble_eq_true rfl, Nat.le_of_ble_eq_true rfl⟩ (fun S1 k ce q9 H locs hq hX hc9 hv9 hcl9 => ?_) (fun S1 r1 hq H locs hX => ?_)
  · rcases hq with ⟨rfl, hq⟩ | ⟨rfl, hq⟩
    · refine r_catch (k := 2) (pre := tableOf []) (suf := tableOf [(0, 9, 15, 17)]) (x := ⟨0, 9, 12, 15⟩) hM hT htab (fun z hz => ?_) (by decide) (by decide) qk_RL_15 cast_2 hc9 hv9 hcl9 ?_
      · exact absurd hz List.not_mem_nil
      refine lv_astore_n (lv' := [(3, .ref q9), (0, .ref (ad 14 0 0)), (1, .int x1), (2, .ref (ad 28 0 0))]) hM.1 hM.2.1 dL_hour_12 rfl hl (by decide) rfl (fun ls hl => ?_)
      refine lv_iconst (v := 1) hM.1 hM.2.1 dL_hour_13 (by decide) ?_
      exact e_iL hM hX hlocks hret hq dL_hour_14
    · refine r_catch (k := 3) (pre := tableOf [(0, 9, 12, 15)]) (suf := tableOf []) (x := ⟨0, 9, 15, 17⟩) hM hT htab (fun z hz => ?_) (by decide) (by decide) qk_RL_17 cast_3 hc9 hv9 hcl9 ?_
      · simp only [tableOf, List.map_cons, List.map_nil, List.mem_cons, List.not_mem_nil, or_false] at hz
        rcases hz with rfl
        · exact ⟨by decide, _, qk_RL_15, hN 3 2 (by decide) (by decide) (by decide)⟩
      refine lv_astore_n (lv' := [(3, .ref q9), (0, .ref (ad 14 0 0)), (1, .int x1), (2, .ref (ad 28 0 0))]) hM.1 hM.2.1 dL_hour_15 rfl hl (by decide) rfl (fun ls hl => ?_)
      refine lv_iconst (v := 2) hM.1 hM.2.1 dL_hour_16 (by decide) ?_
      exact e_iL hM hX hlocks hret hq dL_hour_17
  refine lv_i2l hM.1 hM.2.1 dL_hour_7 rfl ?_
  refine r_last hM hK hX dL_hour_8 (fun H locs hX => ?_)
  refine lv_goto (tgt := 18) hM.1 hM.2.1 dL_hour_9 (by decide) ?_
  refine lv_iconst (v := 0) hM.1 hM.2.1 dL_hour_18 (by decide) ?_
  exact e_iL hM hX hlocks hret hq dL_hour_19
theorem kL_hour {R : Room} {s : State} {args : Array Value} {own : String} {index : Nat} (ht : ∀ w ∈ lw_all, w.before args s = true) (hl : Cond.methodLink own index yL_hour ∈ lw_all) (hf : rmL_hour.frames + 1 ≤ R.frames) (hlo : 8 + (4 + 11) + rmL_hour.locals ≤ R.locals) : vx_CSW R s args own index yL_hour cL_hour 4 (Option.some Jvm.ClassFile.FieldType.int) [((0 : Nat), (9 : Nat), (12 : Nat), (15 : Nat)), ((0 : Nat), (9 : Nat), (15 : Nat), (17 : Nat))] (wB yL_hour cL_hour 4 (Option.some Jvm.ClassFile.FieldType.int) [((0 : Nat), (9 : Nat), (12 : Nat), (15 : Nat)), ((0 : Nat), (9 : Nat), (15 : Nat), (17 : Nat))]) rmL_hour 2 12 3 := vx_cwSW 3 ht (good_SW hl qt_yL_hour qi_RL qc_yL_hour) rfl rfl rfl (by decide +kernel) ⟨hf, hlo⟩
def rmL_hours : Room := { frames := 8, cells := 3, slots := 18, locals := 155 }
set_option maxRecDepth 100000 in
set_option maxHeartbeats 4000000 in
theorem met_L_hours (l : Launch) (hl9 : l.stackTraces = false) (D : va_G) (ad : Adr) (cy : Nat → ClassId) (S : Mem) (o : Nat → Int64) (x1 : Int32) (x2 : Int32) {Q : Mem → (Nat → Int64) → Int32 → Prop} (hq : vc_L_hours S o x1 x2 Q) : Li l yL_hours (wB yL_hours cL_hours 5 (Option.some Jvm.ClassFile.FieldType.int) [((0 : Nat), (10 : Nat), (13 : Nat), (15 : Nat)), ((0 : Nat), (10 : Nat), (17 : Nat), (17 : Nat))]) rmL_hours D ad cy [.ref (ad 14 0 0), .int x1, .int x2, .ref (ad 28 0 0)] S o Q 3 18 := by
  intro sz
  refine mkL (own := RL) (lv := [(0, .ref (ad 14 0 0)), (1, .int x1), (2, .int x2), (3, .ref (ad 28 0 0))]) (by decide) rfl (Nat.le_of_ble_eq_true rfl) rfl ?_
  intro p e s m below meth c ls hsz hM hlocks hret hK hA hX hl htab hT hZ hN
  unfold vc_L_hours at hq
  refine lv_aload_n hM.1 hM.2.1 dL_hours_0 rfl (lv_at hl 3 rfl) ?_
  refine lv_iconst (v := 0) hM.1 hM.2.1 dL_hours_1 (by decide) ?_
  refine lv_aload_n hM.1 hM.2.1 dL_hours_2 rfl (lv_at hl 0 rfl) ?_
  refine lv_iload_n hM.1 hM.2.1 dL_hours_3 rfl (lv_at hl 1 rfl) ?_
  refine lv_iload_n hM.1 hM.2.1 dL_hours_4 rfl (lv_at hl 2 rfl) ?_
  refine hVi (As := [.int x1, .int x2]) hM hK hX hA hT hZ (met_X6_hours l hl9 D ad cy S x1 x2 hq) (kX6_hours hM.2.2.2.2 ql_RL_23 (Nat.le_of_ble_eq_true rfl) (Nat.le_of_ble_eq_true rfl)) (v14 hK hX m14) rfl hl.1 rfl (Nat.le_of_ble_eq_true rfl) dL_hours_5 ⟨Nat.le_of_ble_eq_true rfl, Nat.le_of_ble_eq_true rfl⟩ (fun S1 k ce q9 H locs hq hX hc9 hv9 hcl9 => ?_) (fun S1 r1 hq H locs hX => ?_)
  · rcases hq with ⟨rfl, hq⟩ | ⟨rfl, hq⟩
    · refine r_catch (k := 2) (pre := tableOf []) (suf := tableOf [(0, 10, 17, 17)]) (x := ⟨0, 10, 13, 15⟩) hM hT htab (fun z hz => ?_) (by decide) (by decide) qk_RL_15 cast_2 hc9 hv9 hcl9 ?_
      · exact absurd hz List.not_mem_nil
      refine lv_astore (lv' := [(4, .ref q9), (0, .ref (ad 14 0 0)), (1, .int x1), (2, .int x2), (3, .ref (ad 28 0 0))]) hM.1 hM.2.1 dL_hours_13 hl (by decide) rfl (fun ls hl => ?_)
      refine lv_iconst (v := 1) hM.1 hM.2.1 dL_hours_15 (by decide) ?_
      exact e_iL hM hX hlocks hret hq dL_hours_16
    · refine r_catch (k := 3) (pre := tableOf [(0, 10, 13, 15)]) (suf := tableOf []) (x := ⟨0, 10, 17, 17⟩) hM hT htab (fun z hz => ?_) (by decide) (by decide) qk_RL_17 cast_3 hc9 hv9 hcl9 ?_
      · simp only [tableOf, List.map_cons, List.map_nil, List.mem_cons, List.not_mem_nil, or_false] at hz
        rcases hz with rfl
        · exact ⟨by decide, _, qk_RL_15, hN 3 2 (by decide) (by decide) (by decide)⟩
      refine lv_astore (lv' := [(4, .ref q9), (0, .ref (ad 14 0 0)), (1, .int x1), (2, .int x2), (3, .ref (ad 28 0 0))]) hM.1 hM.2.1 dL_hours_17 hl (by decide) rfl (fun ls hl => ?_)
      refine lv_iconst (v := 2) hM.1 hM.2.1 dL_hours_19 (by decide) ?_
      exact e_iL hM hX hlocks hret hq dL_hours_20
  refine lv_i2l hM.1 hM.2.1 dL_hours_8 rfl ?_
  refine r_last hM hK hX dL_hours_9 (fun H locs hX => ?_)
  refine lv_goto (tgt := 21) hM.1 hM.2.1 dL_hours_10 (by decide) ?_
  refine lv_iconst (v := 0) hM.1 hM.2.1 dL_hours_21 (by decide) ?_
  exact e_iL hM hX hlocks hret hq dL_hours_22
theorem kL_hours {R : Room} {s : State} {args : Array Value} {own : String} {index : Nat} (ht : ∀ w ∈ lw_all, w.before args s = true) (hl : Cond.methodLink own index yL_hours ∈ lw_all) (hf : rmL_hours.frames + 1 ≤ R.frames) (hlo : 8 + (5 + 11) + rmL_hours.locals ≤ R.locals) : vx_CSW R s args own index yL_hours cL_hours 5 (Option.some Jvm.ClassFile.FieldType.int) [((0 : Nat), (10 : Nat), (13 : Nat), (15 : Nat)), ((0 : Nat), (10 : Nat), (17 : Nat), (17 : Nat))] (wB yL_hours cL_hours 5 (Option.some Jvm.ClassFile.FieldType.int) [((0 : Nat), (10 : Nat), (13 : Nat), (15 : Nat)), ((0 : Nat), (10 : Nat), (17 : Nat), (17 : Nat))]) rmL_hours 3 18 4 := vx_cwSW 4 ht (good_SW hl qt_yL_hours qi_RL qc_yL_hours) rfl rfl rfl (by decide +kernel) ⟨hf, hlo⟩
def rmL_period : Room := { frames := 8, cells := 2, slots := 12, locals := 135 }
set_option maxRecDepth 100000 in
set_option maxHeartbeats 4000000 in
theorem met_L_period (l : Launch) (hl9 : l.stackTraces = false) (D : va_G) (ad : Adr) (cy : Nat → ClassId) (S : Mem) (o : Nat → Int64) (x1 : Int32) (x2 : Int32) {Q : Mem → (Nat → Int64) → Int32 → Prop} (hq : vc_L_period S o x1 x2 Q) : Li l yL_period (wB yL_period cL_period 5 (Option.some Jvm.ClassFile.FieldType.int) [((0 : Nat), (10 : Nat), (13 : Nat), (13 : Nat)), ((0 : Nat), (10 : Nat), (17 : Nat), (15 : Nat))]) rmL_period D ad cy [.ref (ad 14 0 0), .int x1, .int x2, .ref (ad 28 0 0)] S o Q 2 12 := by
  intro sz
  refine mkL (own := RL) (lv := [(0, .ref (ad 14 0 0)), (1, .int x1), (2, .int x2), (3, .ref (ad 28 0 0))]) (by decide) rfl (Nat.le_of_ble_eq_true rfl) rfl ?_
  intro p e s m below meth c ls hsz hM hlocks hret hK hA hX hl htab hT hZ hN
  unfold vc_L_period at hq
  refine lv_aload_n hM.1 hM.2.1 dL_period_0 rfl (lv_at hl 3 rfl) ?_
  refine lv_iconst (v := 0) hM.1 hM.2.1 dL_period_1 (by decide) ?_
  refine lv_aload_n hM.1 hM.2.1 dL_period_2 rfl (lv_at hl 0 rfl) ?_
  refine lv_iload_n hM.1 hM.2.1 dL_period_3 rfl (lv_at hl 1 rfl) ?_
  refine lv_iload_n hM.1 hM.2.1 dL_period_4 rfl (lv_at hl 2 rfl) ?_
  refine hVi (As := [.int x1, .int x2]) hM hK hX hA hT hZ (met_X6_period l hl9 D ad cy S x1 x2 hq) (kX6_period hM.2.2.2.2 ql_RL_27 (Nat.le_of_ble_eq_true rfl) (Nat.le_of_ble_eq_true rfl)) (v14 hK hX m14) rfl hl.1 rfl (Nat.le_of_ble_eq_true rfl) dL_period_5 ⟨Nat.le_of_ble_eq_true rfl, Nat.le_of_ble_eq_true rfl⟩ (fun S1 k ce q9 H locs hq hX hc9 hv9 hcl9 => ?_) (fun S1 r1 hq H locs hX => ?_)
  · rcases hq with ⟨rfl, hq⟩ | ⟨rfl, hq⟩
    · refine r_catch (k := 1) (pre := tableOf []) (suf := tableOf [(0, 10, 17, 15)]) (x := ⟨0, 10, 13, 13⟩) hM hT htab (fun z hz => ?_) (by decide) (by decide) qk_RL_13 cast_1 hc9 hv9 hcl9 ?_
      · exact absurd hz List.not_mem_nil
      refine lv_astore (lv' := [(4, .ref q9), (0, .ref (ad 14 0 0)), (1, .int x1), (2, .int x2), (3, .ref (ad 28 0 0))]) hM.1 hM.2.1 dL_period_13 hl (by decide) rfl (fun ls hl => ?_)
      refine lv_iconst (v := 1) hM.1 hM.2.1 dL_period_15 (by decide) ?_
      exact e_iL hM hX hlocks hret hq dL_period_16
    · refine r_catch (k := 2) (pre := tableOf [(0, 10, 13, 13)]) (suf := tableOf []) (x := ⟨0, 10, 17, 15⟩) hM hT htab (fun z hz => ?_) (by decide) (by decide) qk_RL_15 cast_2 hc9 hv9 hcl9 ?_
      · simp only [tableOf, List.map_cons, List.map_nil, List.mem_cons, List.not_mem_nil, or_false] at hz
        rcases hz with rfl
        · exact ⟨by decide, _, qk_RL_13, hN 2 1 (by decide) (by decide) (by decide)⟩
      refine lv_astore (lv' := [(4, .ref q9), (0, .ref (ad 14 0 0)), (1, .int x1), (2, .int x2), (3, .ref (ad 28 0 0))]) hM.1 hM.2.1 dL_period_17 hl (by decide) rfl (fun ls hl => ?_)
      refine lv_iconst (v := 2) hM.1 hM.2.1 dL_period_19 (by decide) ?_
      exact e_iL hM hX hlocks hret hq dL_period_20
  refine lv_i2l hM.1 hM.2.1 dL_period_8 rfl ?_
  refine r_last hM hK hX dL_period_9 (fun H locs hX => ?_)
  refine lv_goto (tgt := 21) hM.1 hM.2.1 dL_period_10 (by decide) ?_
  refine lv_iconst (v := 0) hM.1 hM.2.1 dL_period_21 (by decide) ?_
  exact e_iL hM hX hlocks hret hq dL_period_22
theorem kL_period {R : Room} {s : State} {args : Array Value} {own : String} {index : Nat} (ht : ∀ w ∈ lw_all, w.before args s = true) (hl : Cond.methodLink own index yL_period ∈ lw_all) (hf : rmL_period.frames + 1 ≤ R.frames) (hlo : 8 + (5 + 11) + rmL_period.locals ≤ R.locals) : vx_CSW R s args own index yL_period cL_period 5 (Option.some Jvm.ClassFile.FieldType.int) [((0 : Nat), (10 : Nat), (13 : Nat), (13 : Nat)), ((0 : Nat), (10 : Nat), (17 : Nat), (15 : Nat))] (wB yL_period cL_period 5 (Option.some Jvm.ClassFile.FieldType.int) [((0 : Nat), (10 : Nat), (13 : Nat), (13 : Nat)), ((0 : Nat), (10 : Nat), (17 : Nat), (15 : Nat))]) rmL_period 2 12 4 := vx_cwSW 4 ht (good_SW hl qt_yL_period qi_RL qc_yL_period) rfl rfl rfl (by decide +kernel) ⟨hf, hlo⟩
def rmL_calibrate : Room := { frames := 8, cells := 1, slots := 6, locals := 133 }
set_option maxRecDepth 100000 in
set_option maxHeartbeats 4000000 in
theorem met_L_calibrate (l : Launch) (hl9 : l.stackTraces = false) (D : va_G) (ad : Adr) (cy : Nat → ClassId) (S : Mem) (o : Nat → Int64) (x1 : Int32) {Q : Mem → (Nat → Int64) → Int32 → Prop} (hq : vc_L_calibrate S o x1 Q) : Li l yL_calibrate (wB yL_calibrate cL_calibrate 4 (Option.some Jvm.ClassFile.FieldType.int) [((0 : Nat), (9 : Nat), (12 : Nat), (13 : Nat))]) rmL_calibrate D ad cy [.ref (ad 14 0 0), .int x1, .ref (ad 28 0 0)] S o Q 1 6 := by
  intro sz
  refine mkL (own := RL) (lv := [(0, .ref (ad 14 0 0)), (1, .int x1), (2, .ref (ad 28 0 0))]) (by decide) rfl (Nat.le_of_ble_eq_true rfl) rfl ?_
  intro p e s m below meth c ls hsz hM hlocks hret hK hA hX hl htab hT hZ hN
  unfold vc_L_calibrate at hq
  refine lv_aload_n hM.1 hM.2.1 dL_calibrate_0 rfl (lv_at hl 2 rfl) ?_
  refine lv_iconst (v := 0) hM.1 hM.2.1 dL_calibrate_1 (by decide) ?_
  refine lv_aload_n hM.1 hM.2.1 dL_calibrate_2 rfl (lv_at hl 0 rfl) ?_
  refine lv_iload_n hM.1 hM.2.1 dL_calibrate_3 rfl (lv_at hl 1 rfl) ?_
  refine hVi (As := [.int x1]) hM hK hX hA hT hZ (met_X6_calibrate l hl9 D ad cy S x1 hq) (kX6_calibrate hM.2.2.2.2 ql_RL_30 (Nat.le_of_ble_eq_true rfl) (Nat.le_of_ble_eq_true rfl)) (v14 hK hX m14) rfl hl.1 rfl (Nat.le_of_ble_eq_true rfl) dL_calibrate_4 ⟨Nat.le_of_ble_eq_true rfl, Nat.le_of_ble_eq_true rfl⟩ (fun S1 k ce q9 H locs hq hX hc9 hv9 hcl9 => ?_) (fun S1 r1 hq H locs hX => ?_)
  · rcases hq with ⟨rfl, hq⟩
    · refine r_catch (k := 1) (pre := tableOf []) (suf := tableOf []) (x := ⟨0, 9, 12, 13⟩) hM hT htab (fun z hz => ?_) (by decide) (by decide) qk_RL_13 cast_1 hc9 hv9 hcl9 ?_
      · exact absurd hz List.not_mem_nil
      refine lv_astore_n (lv' := [(3, .ref q9), (0, .ref (ad 14 0 0)), (1, .int x1), (2, .ref (ad 28 0 0))]) hM.1 hM.2.1 dL_calibrate_12 rfl hl (by decide) rfl (fun ls hl => ?_)
      refine lv_iconst (v := 1) hM.1 hM.2.1 dL_calibrate_13 (by decide) ?_
      exact e_iL hM hX hlocks hret hq dL_calibrate_14
  refine lv_i2l hM.1 hM.2.1 dL_calibrate_7 rfl ?_
  refine r_last hM hK hX dL_calibrate_8 (fun H locs hX => ?_)
  refine lv_goto (tgt := 15) hM.1 hM.2.1 dL_calibrate_9 (by decide) ?_
  refine lv_iconst (v := 0) hM.1 hM.2.1 dL_calibrate_15 (by decide) ?_
  exact e_iL hM hX hlocks hret hq dL_calibrate_16
theorem kL_calibrate {R : Room} {s : State} {args : Array Value} {own : String} {index : Nat} (ht : ∀ w ∈ lw_all, w.before args s = true) (hl : Cond.methodLink own index yL_calibrate ∈ lw_all) (hf : rmL_calibrate.frames + 1 ≤ R.frames) (hlo : 8 + (4 + 11) + rmL_calibrate.locals ≤ R.locals) : vx_CSW R s args own index yL_calibrate cL_calibrate 4 (Option.some Jvm.ClassFile.FieldType.int) [((0 : Nat), (9 : Nat), (12 : Nat), (13 : Nat))] (wB yL_calibrate cL_calibrate 4 (Option.some Jvm.ClassFile.FieldType.int) [((0 : Nat), (9 : Nat), (12 : Nat), (13 : Nat))]) rmL_calibrate 1 6 3 := vx_cwSW 3 ht (good_SW hl qt_yL_calibrate qi_RL qc_yL_calibrate) rfl rfl rfl (by decide +kernel) ⟨hf, hlo⟩
def rmL_knock : Room := { frames := 8, cells := 3, slots := 18, locals := 135 }
set_option maxRecDepth 100000 in
set_option maxHeartbeats 4000000 in
theorem met_L_knock (l : Launch) (hl9 : l.stackTraces = false) (D : va_G) (ad : Adr) (cy : Nat → ClassId) (S : Mem) (o : Nat → Int64) (x1 : Int32) (x2 : Int32) {Q : Mem → (Nat → Int64) → Int32 → Prop} (hq : vc_L_knock S o x1 x2 Q) : Li l yL_knock (wB yL_knock cL_knock 5 (Option.some Jvm.ClassFile.FieldType.int) [((0 : Nat), (10 : Nat), (13 : Nat), (13 : Nat)), ((0 : Nat), (10 : Nat), (17 : Nat), (15 : Nat)), ((0 : Nat), (10 : Nat), (21 : Nat), (17 : Nat))]) rmL_knock D ad cy [.ref (ad 14 0 0), .int x1, .int x2, .ref (ad 28 0 0)] S o Q 3 18 := by
  intro sz
  refine mkL (own := RL) (lv := [(0, .ref (ad 14 0 0)), (1, .int x1), (2, .int x2), (3, .ref (ad 28 0 0))]) (by decide) rfl (Nat.le_of_ble_eq_true rfl) rfl ?_
  intro p e s m below meth c ls hsz hM hlocks hret hK hA hX hl htab hT hZ hN
  unfold vc_L_knock at hq
  refine lv_aload_n hM.1 hM.2.1 dL_knock_0 rfl (lv_at hl 3 rfl) ?_
  refine lv_iconst (v := 0) hM.1 hM.2.1 dL_knock_1 (by decide) ?_
  refine lv_aload_n hM.1 hM.2.1 dL_knock_2 rfl (lv_at hl 0 rfl) ?_
  refine lv_iload_n hM.1 hM.2.1 dL_knock_3 rfl (lv_at hl 1 rfl) ?_
  refine lv_iload_n hM.1 hM.2.1 dL_knock_4 rfl (lv_at hl 2 rfl) ?_
  refine hVi (As := [.int x1, .int x2]) hM hK hX hA hT hZ (met_X6_knock l hl9 D ad cy S x1 x2 hq) (kX6_knock hM.2.2.2.2 ql_RL_33 (Nat.le_of_ble_eq_true rfl) (Nat.le_of_ble_eq_true rfl)) (v14 hK hX m14) rfl hl.1 rfl (Nat.le_of_ble_eq_true rfl) dL_knock_5 ⟨Nat.le_of_ble_eq_true rfl, Nat.le_of_ble_eq_true rfl⟩ (fun S1 k ce q9 H locs hq hX hc9 hv9 hcl9 => ?_) (fun S1 r1 hq H locs hX => ?_)
  · rcases hq with ⟨rfl, hq⟩ | ⟨rfl, hq⟩ | ⟨rfl, hq⟩
    · refine r_catch (k := 1) (pre := tableOf []) (suf := tableOf [(0, 10, 17, 15), (0, 10, 21, 17)]) (x := ⟨0, 10, 13, 13⟩) hM hT htab (fun z hz => ?_) (by decide) (by decide) qk_RL_13 cast_1 hc9 hv9 hcl9 ?_
      · exact absurd hz List.not_mem_nil
      refine lv_astore (lv' := [(4, .ref q9), (0, .ref (ad 14 0 0)), (1, .int x1), (2, .int x2), (3, .ref (ad 28 0 0))]) hM.1 hM.2.1 dL_knock_13 hl (by decide) rfl (fun ls hl => ?_)
      refine lv_iconst (v := 1) hM.1 hM.2.1 dL_knock_15 (by decide) ?_
      exact e_iL hM hX hlocks hret hq dL_knock_16
    · refine r_catch (k := 2) (pre := tableOf [(0, 10, 13, 13)]) (suf := tableOf [(0, 10, 21, 17)]) (x := ⟨0, 10, 17, 15⟩) hM hT htab (fun z hz => ?_) (by decide) (by decide) qk_RL_15 cast_2 hc9 hv9 hcl9 ?_
      · simp only [tableOf, List.map_cons, List.map_nil, List.mem_cons, List.not_mem_nil, or_false] at hz
        rcases hz with rfl
        · exact ⟨by decide, _, qk_RL_13, hN 2 1 (by decide) (by decide) (by decide)⟩
      refine lv_astore (lv' := [(4, .ref q9), (0, .ref (ad 14 0 0)), (1, .int x1), (2, .int x2), (3, .ref (ad 28 0 0))]) hM.1 hM.2.1 dL_knock_17 hl (by decide) rfl (fun ls hl => ?_)
      refine lv_iconst (v := 2) hM.1 hM.2.1 dL_knock_19 (by decide) ?_
      exact e_iL hM hX hlocks hret hq dL_knock_20
    · refine r_catch (k := 3) (pre := tableOf [(0, 10, 13, 13), (0, 10, 17, 15)]) (suf := tableOf []) (x := ⟨0, 10, 21, 17⟩) hM hT htab (fun z hz => ?_) (by decide) (by decide) qk_RL_17 cast_3 hc9 hv9 hcl9 ?_
      · simp only [tableOf, List.map_cons, List.map_nil, List.mem_cons, List.not_mem_nil, or_false] at hz
        rcases hz with rfl | rfl
        · exact ⟨by decide, _, qk_RL_13, hN 3 1 (by decide) (by decide) (by decide)⟩
        · exact ⟨by decide, _, qk_RL_15, hN 3 2 (by decide) (by decide) (by decide)⟩
      refine lv_astore (lv' := [(4, .ref q9), (0, .ref (ad 14 0 0)), (1, .int x1), (2, .int x2), (3, .ref (ad 28 0 0))]) hM.1 hM.2.1 dL_knock_21 hl (by decide) rfl (fun ls hl => ?_)
      refine lv_iconst (v := 3) hM.1 hM.2.1 dL_knock_23 (by decide) ?_
      exact e_iL hM hX hlocks hret hq dL_knock_24
  refine lv_i2l hM.1 hM.2.1 dL_knock_8 rfl ?_
  refine r_last hM hK hX dL_knock_9 (fun H locs hX => ?_)
  refine lv_goto (tgt := 25) hM.1 hM.2.1 dL_knock_10 (by decide) ?_
  refine lv_iconst (v := 0) hM.1 hM.2.1 dL_knock_25 (by decide) ?_
  exact e_iL hM hX hlocks hret hq dL_knock_26
theorem kL_knock {R : Room} {s : State} {args : Array Value} {own : String} {index : Nat} (ht : ∀ w ∈ lw_all, w.before args s = true) (hl : Cond.methodLink own index yL_knock ∈ lw_all) (hf : rmL_knock.frames + 1 ≤ R.frames) (hlo : 8 + (5 + 11) + rmL_knock.locals ≤ R.locals) : vx_CSW R s args own index yL_knock cL_knock 5 (Option.some Jvm.ClassFile.FieldType.int) [((0 : Nat), (10 : Nat), (13 : Nat), (13 : Nat)), ((0 : Nat), (10 : Nat), (17 : Nat), (15 : Nat)), ((0 : Nat), (10 : Nat), (21 : Nat), (17 : Nat))] (wB yL_knock cL_knock 5 (Option.some Jvm.ClassFile.FieldType.int) [((0 : Nat), (10 : Nat), (13 : Nat), (13 : Nat)), ((0 : Nat), (10 : Nat), (17 : Nat), (15 : Nat)), ((0 : Nat), (10 : Nat), (21 : Nat), (17 : Nat))]) rmL_knock 3 18 4 := vx_cwSW 4 ht (good_SW hl qt_yL_knock qi_RL qc_yL_knock) rfl rfl rfl (by decide +kernel) ⟨hf, hlo⟩
def rmL_set : Room := { frames := 8, cells := 2, slots := 12, locals := 135 }
set_option maxRecDepth 100000 in
set_option maxHeartbeats 4000000 in
theorem met_L_set (l : Launch) (hl9 : l.stackTraces = false) (D : va_G) (ad : Adr) (cy : Nat → ClassId) (S : Mem) (o : Nat → Int64) (x1 : Int32) (x2 : Int32) {Q : Mem → (Nat → Int64) → Int32 → Prop} (hq : vc_L_set S o x1 x2 Q) : Li l yL_set (wB yL_set cL_set 5 (Option.some Jvm.ClassFile.FieldType.int) [((0 : Nat), (10 : Nat), (13 : Nat), (13 : Nat)), ((0 : Nat), (10 : Nat), (17 : Nat), (15 : Nat))]) rmL_set D ad cy [.ref (ad 14 0 0), .int x1, .int x2, .ref (ad 28 0 0)] S o Q 2 12 := by
  intro sz
  refine mkL (own := RL) (lv := [(0, .ref (ad 14 0 0)), (1, .int x1), (2, .int x2), (3, .ref (ad 28 0 0))]) (by decide) rfl (Nat.le_of_ble_eq_true rfl) rfl ?_
  intro p e s m below meth c ls hsz hM hlocks hret hK hA hX hl htab hT hZ hN
  unfold vc_L_set at hq
  refine lv_aload_n hM.1 hM.2.1 dL_set_0 rfl (lv_at hl 3 rfl) ?_
  refine lv_iconst (v := 0) hM.1 hM.2.1 dL_set_1 (by decide) ?_
  refine lv_aload_n hM.1 hM.2.1 dL_set_2 rfl (lv_at hl 0 rfl) ?_
  refine lv_iload_n hM.1 hM.2.1 dL_set_3 rfl (lv_at hl 1 rfl) ?_
  refine lv_iload_n hM.1 hM.2.1 dL_set_4 rfl (lv_at hl 2 rfl) ?_
  refine hVi (As := [.int x1, .int x2]) hM hK hX hA hT hZ (met_X6_set l hl9 D ad cy S x1 x2 hq) (kX6_set hM.2.2.2.2 ql_RL_36 (Nat.le_of_ble_eq_true rfl) (Nat.le_of_ble_eq_true rfl)) (v14 hK hX m14) rfl hl.1 rfl (Nat.le_of_ble_eq_true rfl) dL_set_5 ⟨Nat.le_of_ble_eq_true rfl, Nat.le_of_ble_eq_true rfl⟩ (fun S1 k ce q9 H locs hq hX hc9 hv9 hcl9 => ?_) (fun S1 r1 hq H locs hX => ?_)
  · rcases hq with ⟨rfl, hq⟩ | ⟨rfl, hq⟩
    · refine r_catch (k := 1) (pre := tableOf []) (suf := tableOf [(0, 10, 17, 15)]) (x := ⟨0, 10, 13, 13⟩) hM hT htab (fun z hz => ?_) (by decide) (by decide) qk_RL_13 cast_1 hc9 hv9 hcl9 ?_
      · exact absurd hz List.not_mem_nil
      refine lv_astore (lv' := [(4, .ref q9), (0, .ref (ad 14 0 0)), (1, .int x1), (2, .int x2), (3, .ref (ad 28 0 0))]) hM.1 hM.2.1 dL_set_13 hl (by decide) rfl (fun ls hl => ?_)
      refine lv_iconst (v := 1) hM.1 hM.2.1 dL_set_15 (by decide) ?_
      exact e_iL hM hX hlocks hret hq dL_set_16
    · refine r_catch (k := 2) (pre := tableOf [(0, 10, 13, 13)]) (suf := tableOf []) (x := ⟨0, 10, 17, 15⟩) hM hT htab (fun z hz => ?_) (by decide) (by decide) qk_RL_15 cast_2 hc9 hv9 hcl9 ?_
      · simp only [tableOf, List.map_cons, List.map_nil, List.mem_cons, List.not_mem_nil, or_false] at hz
        rcases hz with rfl
        · exact ⟨by decide, _, qk_RL_13, hN 2 1 (by decide) (by decide) (by decide)⟩
      refine lv_astore (lv' := [(4, .ref q9), (0, .ref (ad 14 0 0)), (1, .int x1), (2, .int x2), (3, .ref (ad 28 0 0))]) hM.1 hM.2.1 dL_set_17 hl (by decide) rfl (fun ls hl => ?_)
      refine lv_iconst (v := 2) hM.1 hM.2.1 dL_set_19 (by decide) ?_
      exact e_iL hM hX hlocks hret hq dL_set_20
  refine lv_i2l hM.1 hM.2.1 dL_set_8 rfl ?_
  refine r_last hM hK hX dL_set_9 (fun H locs hX => ?_)
  refine lv_goto (tgt := 21) hM.1 hM.2.1 dL_set_10 (by decide) ?_
  refine lv_iconst (v := 0) hM.1 hM.2.1 dL_set_21 (by decide) ?_
  exact e_iL hM hX hlocks hret hq dL_set_22
theorem kL_set {R : Room} {s : State} {args : Array Value} {own : String} {index : Nat} (ht : ∀ w ∈ lw_all, w.before args s = true) (hl : Cond.methodLink own index yL_set ∈ lw_all) (hf : rmL_set.frames + 1 ≤ R.frames) (hlo : 8 + (5 + 11) + rmL_set.locals ≤ R.locals) : vx_CSW R s args own index yL_set cL_set 5 (Option.some Jvm.ClassFile.FieldType.int) [((0 : Nat), (10 : Nat), (13 : Nat), (13 : Nat)), ((0 : Nat), (10 : Nat), (17 : Nat), (15 : Nat))] (wB yL_set cL_set 5 (Option.some Jvm.ClassFile.FieldType.int) [((0 : Nat), (10 : Nat), (13 : Nat), (13 : Nat)), ((0 : Nat), (10 : Nat), (17 : Nat), (15 : Nat))]) rmL_set 2 12 4 := vx_cwSW 4 ht (good_SW hl qt_yL_set qi_RL qc_yL_set) rfl rfl rfl (by decide +kernel) ⟨hf, hlo⟩
def rmL_append : Room := { frames := 8, cells := 2, slots := 12, locals := 133 }
set_option maxRecDepth 100000 in
set_option maxHeartbeats 4000000 in
theorem met_L_append (l : Launch) (hl9 : l.stackTraces = false) (D : va_G) (ad : Adr) (cy : Nat → ClassId) (S : Mem) (o : Nat → Int64) (x1 : Int32) {Q : Mem → (Nat → Int64) → Int32 → Prop} (hq : vc_L_append S o x1 Q) : Li l yL_append (wB yL_append cL_append 4 (Option.some Jvm.ClassFile.FieldType.int) [((0 : Nat), (9 : Nat), (12 : Nat), (15 : Nat)), ((0 : Nat), (9 : Nat), (15 : Nat), (17 : Nat))]) rmL_append D ad cy [.ref (ad 14 0 0), .int x1, .ref (ad 28 0 0)] S o Q 2 12 := by
  intro sz
  refine mkL (own := RL) (lv := [(0, .ref (ad 14 0 0)), (1, .int x1), (2, .ref (ad 28 0 0))]) (by decide) rfl (Nat.le_of_ble_eq_true rfl) rfl ?_
  intro p e s m below meth c ls hsz hM hlocks hret hK hA hX hl htab hT hZ hN
  unfold vc_L_append at hq
  refine lv_aload_n hM.1 hM.2.1 dL_append_0 rfl (lv_at hl 2 rfl) ?_
  refine lv_iconst (v := 0) hM.1 hM.2.1 dL_append_1 (by decide) ?_
  refine lv_aload_n hM.1 hM.2.1 dL_append_2 rfl (lv_at hl 0 rfl) ?_
  refine lv_iload_n hM.1 hM.2.1 dL_append_3 rfl (lv_at hl 1 rfl) ?_
  refine hVi (As := [.int x1]) hM hK hX hA hT hZ (met_X6_append l hl9 D ad cy S x1 hq) (kX6_append hM.2.2.2.2 ql_RL_39 (Nat.le_of_ble_eq_true rfl) (Nat.le_of_ble_eq_true rfl)) (v14 hK hX m14) rfl hl.1 rfl (Nat.le_of_ble_eq_true rfl) dL_append_4 ⟨Nat.le_of_ble_eq_true rfl, Nat.le_of_ble_eq_true rfl⟩ (fun S1 k ce q9 H locs hq hX hc9 hv9 hcl9 => ?_) (fun S1 r1 hq H locs hX => ?_)
  · rcases hq with ⟨rfl, hq⟩ | ⟨rfl, hq⟩
    · refine r_catch (k := 2) (pre := tableOf []) (suf := tableOf [(0, 9, 15, 17)]) (x := ⟨0, 9, 12, 15⟩) hM hT htab (fun z hz => ?_) (by decide) (by decide) qk_RL_15 cast_2 hc9 hv9 hcl9 ?_
      · exact absurd hz List.not_mem_nil
      refine lv_astore_n (lv' := [(3, .ref q9), (0, .ref (ad 14 0 0)), (1, .int x1), (2, .ref (ad 28 0 0))]) hM.1 hM.2.1 dL_append_12 rfl hl (by decide) rfl (fun ls hl => ?_)
      refine lv_iconst (v := 1) hM.1 hM.2.1 dL_append_13 (by decide) ?_
      exact e_iL hM hX hlocks hret hq dL_append_14
    · refine r_catch (k := 3) (pre := tableOf [(0, 9, 12, 15)]) (suf := tableOf []) (x := ⟨0, 9, 15, 17⟩) hM hT htab (fun z hz => ?_) (by decide) (by decide) qk_RL_17 cast_3 hc9 hv9 hcl9 ?_
      · simp only [tableOf, List.map_cons, List.map_nil, List.mem_cons, List.not_mem_nil, or_false] at hz
        rcases hz with rfl
        · exact ⟨by decide, _, qk_RL_15, hN 3 2 (by decide) (by decide) (by decide)⟩
      refine lv_astore_n (lv' := [(3, .ref q9), (0, .ref (ad 14 0 0)), (1, .int x1), (2, .ref (ad 28 0 0))]) hM.1 hM.2.1 dL_append_15 rfl hl (by decide) rfl (fun ls hl => ?_)
      refine lv_iconst (v := 2) hM.1 hM.2.1 dL_append_16 (by decide) ?_
      exact e_iL hM hX hlocks hret hq dL_append_17
  refine lv_i2l hM.1 hM.2.1 dL_append_7 rfl ?_
  refine r_last hM hK hX dL_append_8 (fun H locs hX => ?_)
  refine lv_goto (tgt := 18) hM.1 hM.2.1 dL_append_9 (by decide) ?_
  refine lv_iconst (v := 0) hM.1 hM.2.1 dL_append_18 (by decide) ?_
  exact e_iL hM hX hlocks hret hq dL_append_19
theorem kL_append {R : Room} {s : State} {args : Array Value} {own : String} {index : Nat} (ht : ∀ w ∈ lw_all, w.before args s = true) (hl : Cond.methodLink own index yL_append ∈ lw_all) (hf : rmL_append.frames + 1 ≤ R.frames) (hlo : 8 + (4 + 11) + rmL_append.locals ≤ R.locals) : vx_CSW R s args own index yL_append cL_append 4 (Option.some Jvm.ClassFile.FieldType.int) [((0 : Nat), (9 : Nat), (12 : Nat), (15 : Nat)), ((0 : Nat), (9 : Nat), (15 : Nat), (17 : Nat))] (wB yL_append cL_append 4 (Option.some Jvm.ClassFile.FieldType.int) [((0 : Nat), (9 : Nat), (12 : Nat), (15 : Nat)), ((0 : Nat), (9 : Nat), (15 : Nat), (17 : Nat))]) rmL_append 2 12 3 := vx_cwSW 3 ht (good_SW hl qt_yL_append qi_RL qc_yL_append) rfl rfl rfl (by decide +kernel) ⟨hf, hlo⟩
def rmL_execute : Room := { frames := 7, cells := 1, slots := 6, locals := 150 }
set_option maxRecDepth 100000 in
set_option maxHeartbeats 4000000 in
theorem met_L_execute (l : Launch) (hl9 : l.stackTraces = false) (D : va_G) (ad : Adr) (cy : Nat → ClassId) (S : Mem) (o : Nat → Int64) {Q : Mem → (Nat → Int64) → Int32 → Prop} (hq : vc_L_execute S o Q) : Li l yL_execute (wB yL_execute cL_execute 3 (Option.some Jvm.ClassFile.FieldType.int) [((0 : Nat), (8 : Nat), (11 : Nat), (15 : Nat))]) rmL_execute D ad cy [.ref (ad 14 0 0), .ref (ad 28 0 0)] S o Q 1 6 := by
  intro sz
  refine mkL (own := RL) (lv := [(0, .ref (ad 14 0 0)), (1, .ref (ad 28 0 0))]) (by decide) rfl (Nat.le_of_ble_eq_true rfl) rfl ?_
  intro p e s m below meth c ls hsz hM hlocks hret hK hA hX hl htab hT hZ hN
  unfold vc_L_execute at hq
  refine lv_aload_n hM.1 hM.2.1 dL_execute_0 rfl (lv_at hl 1 rfl) ?_
  refine lv_iconst (v := 0) hM.1 hM.2.1 dL_execute_1 (by decide) ?_
  refine lv_aload_n hM.1 hM.2.1 dL_execute_2 rfl (lv_at hl 0 rfl) ?_
  refine hVi (As := []) hM hK hX hA hT hZ (met_X6_execute l hl9 D ad cy S hq) (kX6_execute hM.2.2.2.2 ql_RL_42 (Nat.le_of_ble_eq_true rfl) (Nat.le_of_ble_eq_true rfl)) (v14 hK hX m14) rfl hl.1 rfl (Nat.le_of_ble_eq_true rfl) dL_execute_3 ⟨Nat.le_of_ble_eq_true rfl, Nat.le_of_ble_eq_true rfl⟩ (fun S1 k ce q9 H locs hq hX hc9 hv9 hcl9 => ?_) (fun S1 r1 hq H locs hX => ?_)
  · rcases hq with ⟨rfl, hq⟩
    · refine r_catch (k := 2) (pre := tableOf []) (suf := tableOf []) (x := ⟨0, 8, 11, 15⟩) hM hT htab (fun z hz => ?_) (by decide) (by decide) qk_RL_15 cast_2 hc9 hv9 hcl9 ?_
      · exact absurd hz List.not_mem_nil
      refine lv_astore_n (lv' := [(2, .ref q9), (0, .ref (ad 14 0 0)), (1, .ref (ad 28 0 0))]) hM.1 hM.2.1 dL_execute_11 rfl hl (by decide) rfl (fun ls hl => ?_)
      refine lv_iconst (v := 1) hM.1 hM.2.1 dL_execute_12 (by decide) ?_
      exact e_iL hM hX hlocks hret hq dL_execute_13
  refine lv_i2l hM.1 hM.2.1 dL_execute_6 rfl ?_
  refine r_last hM hK hX dL_execute_7 (fun H locs hX => ?_)
  refine lv_goto (tgt := 14) hM.1 hM.2.1 dL_execute_8 (by decide) ?_
  refine lv_iconst (v := 0) hM.1 hM.2.1 dL_execute_14 (by decide) ?_
  exact e_iL hM hX hlocks hret hq dL_execute_15
theorem kL_execute {R : Room} {s : State} {args : Array Value} {own : String} {index : Nat} (ht : ∀ w ∈ lw_all, w.before args s = true) (hl : Cond.methodLink own index yL_execute ∈ lw_all) (hf : rmL_execute.frames + 1 ≤ R.frames) (hlo : 8 + (3 + 11) + rmL_execute.locals ≤ R.locals) : vx_CSW R s args own index yL_execute cL_execute 3 (Option.some Jvm.ClassFile.FieldType.int) [((0 : Nat), (8 : Nat), (11 : Nat), (15 : Nat))] (wB yL_execute cL_execute 3 (Option.some Jvm.ClassFile.FieldType.int) [((0 : Nat), (8 : Nat), (11 : Nat), (15 : Nat))]) rmL_execute 1 6 2 := vx_cwSW 2 ht (good_SW hl qt_yL_execute qi_RL qc_yL_execute) rfl rfl rfl (by decide +kernel) ⟨hf, hlo⟩
def rmL_undo : Room := { frames := 7, cells := 1, slots := 6, locals := 110 }
set_option maxRecDepth 100000 in
set_option maxHeartbeats 4000000 in
theorem met_L_undo (l : Launch) (hl9 : l.stackTraces = false) (D : va_G) (ad : Adr) (cy : Nat → ClassId) (S : Mem) (o : Nat → Int64) {Q : Mem → (Nat → Int64) → Int32 → Prop} (hq : vc_L_undo S o Q) : Li l yL_undo (wB yL_undo cL_undo 3 (Option.some Jvm.ClassFile.FieldType.int) [((0 : Nat), (8 : Nat), (11 : Nat), (17 : Nat))]) rmL_undo D ad cy [.ref (ad 14 0 0), .ref (ad 28 0 0)] S o Q 1 6 := by
  intro sz
  refine mkL (own := RL) (lv := [(0, .ref (ad 14 0 0)), (1, .ref (ad 28 0 0))]) (by decide) rfl (Nat.le_of_ble_eq_true rfl) rfl ?_
  intro p e s m below meth c ls hsz hM hlocks hret hK hA hX hl htab hT hZ hN
  unfold vc_L_undo at hq
  refine lv_aload_n hM.1 hM.2.1 dL_undo_0 rfl (lv_at hl 1 rfl) ?_
  refine lv_iconst (v := 0) hM.1 hM.2.1 dL_undo_1 (by decide) ?_
  refine lv_aload_n hM.1 hM.2.1 dL_undo_2 rfl (lv_at hl 0 rfl) ?_
  refine hVi (As := []) hM hK hX hA hT hZ (met_X6_undo l hl9 D ad cy S hq) (kX6_undo hM.2.2.2.2 ql_RL_46 (Nat.le_of_ble_eq_true rfl) (Nat.le_of_ble_eq_true rfl)) (v14 hK hX m14) rfl hl.1 rfl (Nat.le_of_ble_eq_true rfl) dL_undo_3 ⟨Nat.le_of_ble_eq_true rfl, Nat.le_of_ble_eq_true rfl⟩ (fun S1 k ce q9 H locs hq hX hc9 hv9 hcl9 => ?_) (fun S1 r1 hq H locs hX => ?_)
  · rcases hq with ⟨rfl, hq⟩
    · refine r_catch (k := 3) (pre := tableOf []) (suf := tableOf []) (x := ⟨0, 8, 11, 17⟩) hM hT htab (fun z hz => ?_) (by decide) (by decide) qk_RL_17 cast_3 hc9 hv9 hcl9 ?_
      · exact absurd hz List.not_mem_nil
      refine lv_astore_n (lv' := [(2, .ref q9), (0, .ref (ad 14 0 0)), (1, .ref (ad 28 0 0))]) hM.1 hM.2.1 dL_undo_11 rfl hl (by decide) rfl (fun ls hl => ?_)
      refine lv_iconst (v := 1) hM.1 hM.2.1 dL_undo_12 (by decide) ?_
      exact e_iL hM hX hlocks hret hq dL_undo_13
  refine lv_i2l hM.1 hM.2.1 dL_undo_6 rfl ?_
  refine r_last hM hK hX dL_undo_7 (fun H locs hX => ?_)
  refine lv_goto (tgt := 14) hM.1 hM.2.1 dL_undo_8 (by decide) ?_
  refine lv_iconst (v := 0) hM.1 hM.2.1 dL_undo_14 (by decide) ?_
  exact e_iL hM hX hlocks hret hq dL_undo_15
theorem kL_undo {R : Room} {s : State} {args : Array Value} {own : String} {index : Nat} (ht : ∀ w ∈ lw_all, w.before args s = true) (hl : Cond.methodLink own index yL_undo ∈ lw_all) (hf : rmL_undo.frames + 1 ≤ R.frames) (hlo : 8 + (3 + 11) + rmL_undo.locals ≤ R.locals) : vx_CSW R s args own index yL_undo cL_undo 3 (Option.some Jvm.ClassFile.FieldType.int) [((0 : Nat), (8 : Nat), (11 : Nat), (17 : Nat))] (wB yL_undo cL_undo 3 (Option.some Jvm.ClassFile.FieldType.int) [((0 : Nat), (8 : Nat), (11 : Nat), (17 : Nat))]) rmL_undo 1 6 2 := vx_cwSW 2 ht (good_SW hl qt_yL_undo qi_RL qc_yL_undo) rfl rfl rfl (by decide +kernel) ⟨hf, hlo⟩
def rmL_keep : Room := { frames := 8, cells := 1, slots := 6, locals := 133 }
set_option maxRecDepth 100000 in
set_option maxHeartbeats 4000000 in
theorem met_L_keep (l : Launch) (hl9 : l.stackTraces = false) (D : va_G) (ad : Adr) (cy : Nat → ClassId) (S : Mem) (o : Nat → Int64) (x1 : Int32) {Q : Mem → (Nat → Int64) → Int32 → Prop} (hq : vc_L_keep S o x1 Q) : Li l yL_keep (wB yL_keep cL_keep 4 (Option.some Jvm.ClassFile.FieldType.int) [((0 : Nat), (9 : Nat), (12 : Nat), (15 : Nat))]) rmL_keep D ad cy [.ref (ad 14 0 0), .int x1, .ref (ad 28 0 0)] S o Q 1 6 := by
  intro sz
  refine mkL (own := RL) (lv := [(0, .ref (ad 14 0 0)), (1, .int x1), (2, .ref (ad 28 0 0))]) (by decide) rfl (Nat.le_of_ble_eq_true rfl) rfl ?_
  intro p e s m below meth c ls hsz hM hlocks hret hK hA hX hl htab hT hZ hN
  unfold vc_L_keep at hq
  refine lv_aload_n hM.1 hM.2.1 dL_keep_0 rfl (lv_at hl 2 rfl) ?_
  refine lv_iconst (v := 0) hM.1 hM.2.1 dL_keep_1 (by decide) ?_
  refine lv_aload_n hM.1 hM.2.1 dL_keep_2 rfl (lv_at hl 0 rfl) ?_
  refine lv_iload_n hM.1 hM.2.1 dL_keep_3 rfl (lv_at hl 1 rfl) ?_
  refine hVi (As := [.int x1]) hM hK hX hA hT hZ (met_X6_keep l hl9 D ad cy S x1 hq) (kX6_keep hM.2.2.2.2 ql_RL_49 (Nat.le_of_ble_eq_true rfl) (Nat.le_of_ble_eq_true rfl)) (v14 hK hX m14) rfl hl.1 rfl (Nat.le_of_ble_eq_true rfl) dL_keep_4 ⟨Nat.le_of_ble_eq_true rfl, Nat.le_of_ble_eq_true rfl⟩ (fun S1 k ce q9 H locs hq hX hc9 hv9 hcl9 => ?_) (fun S1 r1 hq H locs hX => ?_)
  · rcases hq with ⟨rfl, hq⟩
    · refine r_catch (k := 2) (pre := tableOf []) (suf := tableOf []) (x := ⟨0, 9, 12, 15⟩) hM hT htab (fun z hz => ?_) (by decide) (by decide) qk_RL_15 cast_2 hc9 hv9 hcl9 ?_
      · exact absurd hz List.not_mem_nil
      refine lv_astore_n (lv' := [(3, .ref q9), (0, .ref (ad 14 0 0)), (1, .int x1), (2, .ref (ad 28 0 0))]) hM.1 hM.2.1 dL_keep_12 rfl hl (by decide) rfl (fun ls hl => ?_)
      refine lv_iconst (v := 1) hM.1 hM.2.1 dL_keep_13 (by decide) ?_
      exact e_iL hM hX hlocks hret hq dL_keep_14
  refine lv_i2l hM.1 hM.2.1 dL_keep_7 rfl ?_
  refine r_last hM hK hX dL_keep_8 (fun H locs hX => ?_)
  refine lv_goto (tgt := 15) hM.1 hM.2.1 dL_keep_9 (by decide) ?_
  refine lv_iconst (v := 0) hM.1 hM.2.1 dL_keep_15 (by decide) ?_
  exact e_iL hM hX hlocks hret hq dL_keep_16
theorem kL_keep {R : Room} {s : State} {args : Array Value} {own : String} {index : Nat} (ht : ∀ w ∈ lw_all, w.before args s = true) (hl : Cond.methodLink own index yL_keep ∈ lw_all) (hf : rmL_keep.frames + 1 ≤ R.frames) (hlo : 8 + (4 + 11) + rmL_keep.locals ≤ R.locals) : vx_CSW R s args own index yL_keep cL_keep 4 (Option.some Jvm.ClassFile.FieldType.int) [((0 : Nat), (9 : Nat), (12 : Nat), (15 : Nat))] (wB yL_keep cL_keep 4 (Option.some Jvm.ClassFile.FieldType.int) [((0 : Nat), (9 : Nat), (12 : Nat), (15 : Nat))]) rmL_keep 1 6 3 := vx_cwSW 3 ht (good_SW hl qt_yL_keep qi_RL qc_yL_keep) rfl rfl rfl (by decide +kernel) ⟨hf, hlo⟩
def rmL_goBack : Room := { frames := 8, cells := 2, slots := 12, locals := 133 }
set_option maxRecDepth 100000 in
set_option maxHeartbeats 4000000 in
theorem met_L_goBack (l : Launch) (hl9 : l.stackTraces = false) (D : va_G) (ad : Adr) (cy : Nat → ClassId) (S : Mem) (o : Nat → Int64) (x1 : Int32) {Q : Mem → (Nat → Int64) → Int32 → Prop} (hq : vc_L_goBack S o x1 Q) : Li l yL_goBack (wB yL_goBack cL_goBack 4 (Option.some Jvm.ClassFile.FieldType.int) [((0 : Nat), (9 : Nat), (12 : Nat), (15 : Nat)), ((0 : Nat), (9 : Nat), (15 : Nat), (17 : Nat))]) rmL_goBack D ad cy [.ref (ad 14 0 0), .int x1, .ref (ad 28 0 0)] S o Q 2 12 := by
  intro sz
  refine mkL (own := RL) (lv := [(0, .ref (ad 14 0 0)), (1, .int x1), (2, .ref (ad 28 0 0))]) (by decide) rfl (Nat.le_of_ble_eq_true rfl) rfl ?_
  intro p e s m below meth c ls hsz hM hlocks hret hK hA hX hl htab hT hZ hN
  unfold vc_L_goBack at hq
  refine lv_aload_n hM.1 hM.2.1 dL_goBack_0 rfl (lv_at hl 2 rfl) ?_
  refine lv_iconst (v := 0) hM.1 hM.2.1 dL_goBack_1 (by decide) ?_
  refine lv_aload_n hM.1 hM.2.1 dL_goBack_2 rfl (lv_at hl 0 rfl) ?_
  refine lv_iload_n hM.1 hM.2.1 dL_goBack_3 rfl (lv_at hl 1 rfl) ?_
  refine hVi (As := [.int x1]) hM hK hX hA hT hZ (met_X6_goBack l hl9 D ad cy S x1 hq) (kX6_goBack hM.2.2.2.2 ql_RL_52 (Nat.le_of_ble_eq_true rfl) (Nat.le_of_ble_eq_true rfl)) (v14 hK hX m14) rfl hl.1 rfl (Nat.le_of_ble_eq_true rfl) dL_goBack_4 ⟨Nat.le_of_ble_eq_true rfl, Nat.le_of_ble_eq_true rfl⟩ (fun S1 k ce q9 H locs hq hX hc9 hv9 hcl9 => ?_) (fun S1 r1 hq H locs hX => ?_)
  · rcases hq with ⟨rfl, hq⟩ | ⟨rfl, hq⟩
    · refine r_catch (k := 2) (pre := tableOf []) (suf := tableOf [(0, 9, 15, 17)]) (x := ⟨0, 9, 12, 15⟩) hM hT htab (fun z hz => ?_) (by decide) (by decide) qk_RL_15 cast_2 hc9 hv9 hcl9 ?_
      · exact absurd hz List.not_mem_nil
      refine lv_astore_n (lv' := [(3, .ref q9), (0, .ref (ad 14 0 0)), (1, .int x1), (2, .ref (ad 28 0 0))]) hM.1 hM.2.1 dL_goBack_12 rfl hl (by decide) rfl (fun ls hl => ?_)
      refine lv_iconst (v := 1) hM.1 hM.2.1 dL_goBack_13 (by decide) ?_
      exact e_iL hM hX hlocks hret hq dL_goBack_14
    · refine r_catch (k := 3) (pre := tableOf [(0, 9, 12, 15)]) (suf := tableOf []) (x := ⟨0, 9, 15, 17⟩) hM hT htab (fun z hz => ?_) (by decide) (by decide) qk_RL_17 cast_3 hc9 hv9 hcl9 ?_
      · simp only [tableOf, List.map_cons, List.map_nil, List.mem_cons, List.not_mem_nil, or_false] at hz
        rcases hz with rfl
        · exact ⟨by decide, _, qk_RL_15, hN 3 2 (by decide) (by decide) (by decide)⟩
      refine lv_astore_n (lv' := [(3, .ref q9), (0, .ref (ad 14 0 0)), (1, .int x1), (2, .ref (ad 28 0 0))]) hM.1 hM.2.1 dL_goBack_15 rfl hl (by decide) rfl (fun ls hl => ?_)
      refine lv_iconst (v := 2) hM.1 hM.2.1 dL_goBack_16 (by decide) ?_
      exact e_iL hM hX hlocks hret hq dL_goBack_17
  refine lv_i2l hM.1 hM.2.1 dL_goBack_7 rfl ?_
  refine r_last hM hK hX dL_goBack_8 (fun H locs hX => ?_)
  refine lv_goto (tgt := 18) hM.1 hM.2.1 dL_goBack_9 (by decide) ?_
  refine lv_iconst (v := 0) hM.1 hM.2.1 dL_goBack_18 (by decide) ?_
  exact e_iL hM hX hlocks hret hq dL_goBack_19
theorem kL_goBack {R : Room} {s : State} {args : Array Value} {own : String} {index : Nat} (ht : ∀ w ∈ lw_all, w.before args s = true) (hl : Cond.methodLink own index yL_goBack ∈ lw_all) (hf : rmL_goBack.frames + 1 ≤ R.frames) (hlo : 8 + (4 + 11) + rmL_goBack.locals ≤ R.locals) : vx_CSW R s args own index yL_goBack cL_goBack 4 (Option.some Jvm.ClassFile.FieldType.int) [((0 : Nat), (9 : Nat), (12 : Nat), (15 : Nat)), ((0 : Nat), (9 : Nat), (15 : Nat), (17 : Nat))] (wB yL_goBack cL_goBack 4 (Option.some Jvm.ClassFile.FieldType.int) [((0 : Nat), (9 : Nat), (12 : Nat), (15 : Nat)), ((0 : Nat), (9 : Nat), (15 : Nat), (17 : Nat))]) rmL_goBack 2 12 3 := vx_cwSW 3 ht (good_SW hl qt_yL_goBack qi_RL qc_yL_goBack) rfl rfl rfl (by decide +kernel) ⟨hf, hlo⟩
def rmL_ofThermometer : Room := { frames := 8, cells := 2, slots := 12, locals := 134 }
set_option maxRecDepth 100000 in
set_option maxHeartbeats 4000000 in
theorem met_L_ofThermometer (l : Launch) (hl9 : l.stackTraces = false) (D : va_G) (ad : Adr) (cy : Nat → ClassId) (S : Mem) (o : Nat → Int64) (x1 : Int32) (x2 : Int32) {Q : Mem → (Nat → Int64) → Int32 → Prop} (hq : vc_L_ofThermometer S o x1 x2 Q) : Li l yL_ofThermometer (wB yL_ofThermometer cL_ofThermometer 5 (Option.some Jvm.ClassFile.FieldType.int) [((0 : Nat), (10 : Nat), (13 : Nat), (13 : Nat)), ((0 : Nat), (10 : Nat), (17 : Nat), (15 : Nat))]) rmL_ofThermometer D ad cy [.ref (ad 14 0 0), .int x1, .int x2, .ref (ad 28 0 0)] S o Q 2 12 := by
  intro sz
  refine mkL (own := RL) (lv := [(0, .ref (ad 14 0 0)), (1, .int x1), (2, .int x2), (3, .ref (ad 28 0 0))]) (by decide) rfl (Nat.le_of_ble_eq_true rfl) rfl ?_
  intro p e s m below meth c ls hsz hM hlocks hret hK hA hX hl htab hT hZ hN
  unfold vc_L_ofThermometer at hq
  refine lv_aload_n hM.1 hM.2.1 dL_ofThermometer_0 rfl (lv_at hl 3 rfl) ?_
  refine lv_iconst (v := 0) hM.1 hM.2.1 dL_ofThermometer_1 (by decide) ?_
  refine lv_aload_n hM.1 hM.2.1 dL_ofThermometer_2 rfl (lv_at hl 0 rfl) ?_
  refine lv_iload_n hM.1 hM.2.1 dL_ofThermometer_3 rfl (lv_at hl 1 rfl) ?_
  refine lv_iload_n hM.1 hM.2.1 dL_ofThermometer_4 rfl (lv_at hl 2 rfl) ?_
  refine hVi (As := [.int x1, .int x2]) hM hK hX hA hT hZ (met_X6_ofThermometer l hl9 D ad cy S x1 x2 hq) (kX6_ofThermometer hM.2.2.2.2 ql_RL_55 (Nat.le_of_ble_eq_true rfl) (Nat.le_of_ble_eq_true rfl)) (v14 hK hX m14) rfl hl.1 rfl (Nat.le_of_ble_eq_true rfl) dL_ofThermometer_5 ⟨Nat.le_of_ble_eq_true rfl, Nat.le_of_ble_eq_true rfl⟩ (fun S1 k ce q9 H locs hq hX hc9 hv9 hcl9 => ?_) (fun S1 r1 hq H locs hX => ?_)
  · rcases hq with ⟨rfl, hq⟩ | ⟨rfl, hq⟩
    · refine r_catch (k := 1) (pre := tableOf []) (suf := tableOf [(0, 10, 17, 15)]) (x := ⟨0, 10, 13, 13⟩) hM hT htab (fun z hz => ?_) (by decide) (by decide) qk_RL_13 cast_1 hc9 hv9 hcl9 ?_
      · exact absurd hz List.not_mem_nil
      refine lv_astore (lv' := [(4, .ref q9), (0, .ref (ad 14 0 0)), (1, .int x1), (2, .int x2), (3, .ref (ad 28 0 0))]) hM.1 hM.2.1 dL_ofThermometer_13 hl (by decide) rfl (fun ls hl => ?_)
      refine lv_iconst (v := 1) hM.1 hM.2.1 dL_ofThermometer_15 (by decide) ?_
      exact e_iL hM hX hlocks hret hq dL_ofThermometer_16
    · refine r_catch (k := 2) (pre := tableOf [(0, 10, 13, 13)]) (suf := tableOf []) (x := ⟨0, 10, 17, 15⟩) hM hT htab (fun z hz => ?_) (by decide) (by decide) qk_RL_15 cast_2 hc9 hv9 hcl9 ?_
      · simp only [tableOf, List.map_cons, List.map_nil, List.mem_cons, List.not_mem_nil, or_false] at hz
        rcases hz with rfl
        · exact ⟨by decide, _, qk_RL_13, hN 2 1 (by decide) (by decide) (by decide)⟩
      refine lv_astore (lv' := [(4, .ref q9), (0, .ref (ad 14 0 0)), (1, .int x1), (2, .int x2), (3, .ref (ad 28 0 0))]) hM.1 hM.2.1 dL_ofThermometer_17 hl (by decide) rfl (fun ls hl => ?_)
      refine lv_iconst (v := 2) hM.1 hM.2.1 dL_ofThermometer_19 (by decide) ?_
      exact e_iL hM hX hlocks hret hq dL_ofThermometer_20
  refine lv_i2l hM.1 hM.2.1 dL_ofThermometer_8 rfl ?_
  refine r_last hM hK hX dL_ofThermometer_9 (fun H locs hX => ?_)
  refine lv_goto (tgt := 21) hM.1 hM.2.1 dL_ofThermometer_10 (by decide) ?_
  refine lv_iconst (v := 0) hM.1 hM.2.1 dL_ofThermometer_21 (by decide) ?_
  exact e_iL hM hX hlocks hret hq dL_ofThermometer_22
theorem kL_ofThermometer {R : Room} {s : State} {args : Array Value} {own : String} {index : Nat} (ht : ∀ w ∈ lw_all, w.before args s = true) (hl : Cond.methodLink own index yL_ofThermometer ∈ lw_all) (hf : rmL_ofThermometer.frames + 1 ≤ R.frames) (hlo : 8 + (5 + 11) + rmL_ofThermometer.locals ≤ R.locals) : vx_CSW R s args own index yL_ofThermometer cL_ofThermometer 5 (Option.some Jvm.ClassFile.FieldType.int) [((0 : Nat), (10 : Nat), (13 : Nat), (13 : Nat)), ((0 : Nat), (10 : Nat), (17 : Nat), (15 : Nat))] (wB yL_ofThermometer cL_ofThermometer 5 (Option.some Jvm.ClassFile.FieldType.int) [((0 : Nat), (10 : Nat), (13 : Nat), (13 : Nat)), ((0 : Nat), (10 : Nat), (17 : Nat), (15 : Nat))]) rmL_ofThermometer 2 12 4 := vx_cwSW 4 ht (good_SW hl qt_yL_ofThermometer qi_RL qc_yL_ofThermometer) rfl rfl rfl (by decide +kernel) ⟨hf, hlo⟩
def rmL_reading : Room := { frames := 8, cells := 3, slots := 18, locals := 136 }
set_option maxRecDepth 100000 in
set_option maxHeartbeats 4000000 in
theorem met_L_reading (l : Launch) (hl9 : l.stackTraces = false) (D : va_G) (ad : Adr) (cy : Nat → ClassId) (S : Mem) (o : Nat → Int64) (x1 : Int32) (x2 : Int32) (x3 : Int32) {Q : Mem → (Nat → Int64) → Int32 → Prop} (hq : vc_L_reading S o x1 x2 x3 Q) : Li l yL_reading (wB yL_reading cL_reading 6 (Option.some Jvm.ClassFile.FieldType.int) [((0 : Nat), (12 : Nat), (15 : Nat), (13 : Nat)), ((0 : Nat), (12 : Nat), (19 : Nat), (15 : Nat))]) rmL_reading D ad cy [.ref (ad 14 0 0), .int x1, .int x2, .int x3, .ref (ad 28 0 0)] S o Q 3 18 := by
  intro sz
  refine mkL (own := RL) (lv := [(0, .ref (ad 14 0 0)), (1, .int x1), (2, .int x2), (3, .int x3), (4, .ref (ad 28 0 0))]) (by decide) rfl (Nat.le_of_ble_eq_true rfl) rfl ?_
  intro p e s m below meth c ls hsz hM hlocks hret hK hA hX hl htab hT hZ hN
  unfold vc_L_reading at hq
  refine lv_aload hM.1 hM.2.1 dL_reading_0 (lv_at hl 4 rfl) ?_
  refine lv_iconst (v := 0) hM.1 hM.2.1 dL_reading_2 (by decide) ?_
  refine lv_aload_n hM.1 hM.2.1 dL_reading_3 rfl (lv_at hl 0 rfl) ?_
  refine lv_iload_n hM.1 hM.2.1 dL_reading_4 rfl (lv_at hl 1 rfl) ?_
  refine lv_iload_n hM.1 hM.2.1 dL_reading_5 rfl (lv_at hl 2 rfl) ?_
  refine lv_iload_n hM.1 hM.2.1 dL_reading_6 rfl (lv_at hl 3 rfl) ?_
  refine hVi (As := [.int x1, .int x2, .int x3]) hM hK hX hA hT hZ (met_X6_reading l hl9 D ad cy S x1 x2 x3 hq) (kX6_reading hM.2.2.2.2 ql_RL_58 (Nat.le_of_ble_eq_true rfl) (Nat.le_of_ble_eq_true rfl)) (v14 hK hX m14) rfl hl.1 rfl (Nat.le_of_ble_eq_true rfl) dL_reading_7 ⟨Nat.le_of_ble_eq_true rfl, Nat.le_of_ble_eq_true rfl⟩ (fun S1 k ce q9 H locs hq hX hc9 hv9 hcl9 => ?_) (fun S1 r1 hq H locs hX => ?_)
  · rcases hq with ⟨rfl, hq⟩ | ⟨rfl, hq⟩
    · refine r_catch (k := 1) (pre := tableOf []) (suf := tableOf [(0, 12, 19, 15)]) (x := ⟨0, 12, 15, 13⟩) hM hT htab (fun z hz => ?_) (by decide) (by decide) qk_RL_13 cast_1 hc9 hv9 hcl9 ?_
      · exact absurd hz List.not_mem_nil
      refine lv_astore (lv' := [(5, .ref q9), (0, .ref (ad 14 0 0)), (1, .int x1), (2, .int x2), (3, .int x3), (4, .ref (ad 28 0 0))]) hM.1 hM.2.1 dL_reading_15 hl (by decide) rfl (fun ls hl => ?_)
      refine lv_iconst (v := 1) hM.1 hM.2.1 dL_reading_17 (by decide) ?_
      exact e_iL hM hX hlocks hret hq dL_reading_18
    · refine r_catch (k := 2) (pre := tableOf [(0, 12, 15, 13)]) (suf := tableOf []) (x := ⟨0, 12, 19, 15⟩) hM hT htab (fun z hz => ?_) (by decide) (by decide) qk_RL_15 cast_2 hc9 hv9 hcl9 ?_
      · simp only [tableOf, List.map_cons, List.map_nil, List.mem_cons, List.not_mem_nil, or_false] at hz
        rcases hz with rfl
        · exact ⟨by decide, _, qk_RL_13, hN 2 1 (by decide) (by decide) (by decide)⟩
      refine lv_astore (lv' := [(5, .ref q9), (0, .ref (ad 14 0 0)), (1, .int x1), (2, .int x2), (3, .int x3), (4, .ref (ad 28 0 0))]) hM.1 hM.2.1 dL_reading_19 hl (by decide) rfl (fun ls hl => ?_)
      refine lv_iconst (v := 2) hM.1 hM.2.1 dL_reading_21 (by decide) ?_
      exact e_iL hM hX hlocks hret hq dL_reading_22
  refine lv_i2l hM.1 hM.2.1 dL_reading_10 rfl ?_
  refine r_last hM hK hX dL_reading_11 (fun H locs hX => ?_)
  refine lv_goto (tgt := 23) hM.1 hM.2.1 dL_reading_12 (by decide) ?_
  refine lv_iconst (v := 0) hM.1 hM.2.1 dL_reading_23 (by decide) ?_
  exact e_iL hM hX hlocks hret hq dL_reading_24
theorem kL_reading {R : Room} {s : State} {args : Array Value} {own : String} {index : Nat} (ht : ∀ w ∈ lw_all, w.before args s = true) (hl : Cond.methodLink own index yL_reading ∈ lw_all) (hf : rmL_reading.frames + 1 ≤ R.frames) (hlo : 8 + (6 + 11) + rmL_reading.locals ≤ R.locals) : vx_CSW R s args own index yL_reading cL_reading 6 (Option.some Jvm.ClassFile.FieldType.int) [((0 : Nat), (12 : Nat), (15 : Nat), (13 : Nat)), ((0 : Nat), (12 : Nat), (19 : Nat), (15 : Nat))] (wB yL_reading cL_reading 6 (Option.some Jvm.ClassFile.FieldType.int) [((0 : Nat), (12 : Nat), (15 : Nat), (13 : Nat)), ((0 : Nat), (12 : Nat), (19 : Nat), (15 : Nat))]) rmL_reading 3 18 5 := vx_cwSW 5 ht (good_SW hl qt_yL_reading qi_RL qc_yL_reading) rfl rfl rfl (by decide +kernel) ⟨hf, hlo⟩
def rmL_row : Room := { frames := 8, cells := 2, slots := 12, locals := 134 }
set_option maxRecDepth 100000 in
set_option maxHeartbeats 4000000 in
theorem met_L_row (l : Launch) (hl9 : l.stackTraces = false) (D : va_G) (ad : Adr) (cy : Nat → ClassId) (S : Mem) (o : Nat → Int64) (x1 : Int32) (x2 : Int32) {Q : Mem → (Nat → Int64) → Int32 → Prop} (hq : vc_L_row S o x1 x2 Q) : Li l yL_row (wB yL_row cL_row 5 (Option.some Jvm.ClassFile.FieldType.int) [((0 : Nat), (10 : Nat), (13 : Nat), (13 : Nat)), ((0 : Nat), (10 : Nat), (17 : Nat), (15 : Nat))]) rmL_row D ad cy [.ref (ad 14 0 0), .int x1, .int x2, .ref (ad 28 0 0)] S o Q 2 12 := by
  intro sz
  refine mkL (own := RL) (lv := [(0, .ref (ad 14 0 0)), (1, .int x1), (2, .int x2), (3, .ref (ad 28 0 0))]) (by decide) rfl (Nat.le_of_ble_eq_true rfl) rfl ?_
  intro p e s m below meth c ls hsz hM hlocks hret hK hA hX hl htab hT hZ hN
  unfold vc_L_row at hq
  refine lv_aload_n hM.1 hM.2.1 dL_row_0 rfl (lv_at hl 3 rfl) ?_
  refine lv_iconst (v := 0) hM.1 hM.2.1 dL_row_1 (by decide) ?_
  refine lv_aload_n hM.1 hM.2.1 dL_row_2 rfl (lv_at hl 0 rfl) ?_
  refine lv_iload_n hM.1 hM.2.1 dL_row_3 rfl (lv_at hl 1 rfl) ?_
  refine lv_iload_n hM.1 hM.2.1 dL_row_4 rfl (lv_at hl 2 rfl) ?_
  refine hVi (As := [.int x1, .int x2]) hM hK hX hA hT hZ (met_X6_row l hl9 D ad cy S x1 x2 hq) (kX6_row hM.2.2.2.2 ql_RL_62 (Nat.le_of_ble_eq_true rfl) (Nat.le_of_ble_eq_true rfl)) (v14 hK hX m14) rfl hl.1 rfl (Nat.le_of_ble_eq_true rfl) dL_row_5 ⟨Nat.le_of_ble_eq_true rfl, Nat.le_of_ble_eq_true rfl⟩ (fun S1 k ce q9 H locs hq hX hc9 hv9 hcl9 => ?_) (fun S1 r1 hq H locs hX => ?_)
  · rcases hq with ⟨rfl, hq⟩ | ⟨rfl, hq⟩
    · refine r_catch (k := 1) (pre := tableOf []) (suf := tableOf [(0, 10, 17, 15)]) (x := ⟨0, 10, 13, 13⟩) hM hT htab (fun z hz => ?_) (by decide) (by decide) qk_RL_13 cast_1 hc9 hv9 hcl9 ?_
      · exact absurd hz List.not_mem_nil
      refine lv_astore (lv' := [(4, .ref q9), (0, .ref (ad 14 0 0)), (1, .int x1), (2, .int x2), (3, .ref (ad 28 0 0))]) hM.1 hM.2.1 dL_row_13 hl (by decide) rfl (fun ls hl => ?_)
      refine lv_iconst (v := 1) hM.1 hM.2.1 dL_row_15 (by decide) ?_
      exact e_iL hM hX hlocks hret hq dL_row_16
    · refine r_catch (k := 2) (pre := tableOf [(0, 10, 13, 13)]) (suf := tableOf []) (x := ⟨0, 10, 17, 15⟩) hM hT htab (fun z hz => ?_) (by decide) (by decide) qk_RL_15 cast_2 hc9 hv9 hcl9 ?_
      · simp only [tableOf, List.map_cons, List.map_nil, List.mem_cons, List.not_mem_nil, or_false] at hz
        rcases hz with rfl
        · exact ⟨by decide, _, qk_RL_13, hN 2 1 (by decide) (by decide) (by decide)⟩
      refine lv_astore (lv' := [(4, .ref q9), (0, .ref (ad 14 0 0)), (1, .int x1), (2, .int x2), (3, .ref (ad 28 0 0))]) hM.1 hM.2.1 dL_row_17 hl (by decide) rfl (fun ls hl => ?_)
      refine lv_iconst (v := 2) hM.1 hM.2.1 dL_row_19 (by decide) ?_
      exact e_iL hM hX hlocks hret hq dL_row_20
  refine lv_i2l hM.1 hM.2.1 dL_row_8 rfl ?_
  refine r_last hM hK hX dL_row_9 (fun H locs hX => ?_)
  refine lv_goto (tgt := 21) hM.1 hM.2.1 dL_row_10 (by decide) ?_
  refine lv_iconst (v := 0) hM.1 hM.2.1 dL_row_21 (by decide) ?_
  exact e_iL hM hX hlocks hret hq dL_row_22
theorem kL_row {R : Room} {s : State} {args : Array Value} {own : String} {index : Nat} (ht : ∀ w ∈ lw_all, w.before args s = true) (hl : Cond.methodLink own index yL_row ∈ lw_all) (hf : rmL_row.frames + 1 ≤ R.frames) (hlo : 8 + (5 + 11) + rmL_row.locals ≤ R.locals) : vx_CSW R s args own index yL_row cL_row 5 (Option.some Jvm.ClassFile.FieldType.int) [((0 : Nat), (10 : Nat), (13 : Nat), (13 : Nat)), ((0 : Nat), (10 : Nat), (17 : Nat), (15 : Nat))] (wB yL_row cL_row 5 (Option.some Jvm.ClassFile.FieldType.int) [((0 : Nat), (10 : Nat), (13 : Nat), (13 : Nat)), ((0 : Nat), (10 : Nat), (17 : Nat), (15 : Nat))]) rmL_row 2 12 4 := vx_cwSW 4 ht (good_SW hl qt_yL_row qi_RL qc_yL_row) rfl rfl rfl (by decide +kernel) ⟨hf, hlo⟩
def rmL_count : Room := { frames := 8, cells := 1, slots := 6, locals := 133 }
set_option maxRecDepth 100000 in
set_option maxHeartbeats 4000000 in
theorem met_L_count (l : Launch) (hl9 : l.stackTraces = false) (D : va_G) (ad : Adr) (cy : Nat → ClassId) (S : Mem) (o : Nat → Int64) (x1 : Int32) {Q : Mem → (Nat → Int64) → Int32 → Prop} (hq : vc_L_count S o x1 Q) : Li l yL_count (wB yL_count cL_count 4 (Option.some Jvm.ClassFile.FieldType.int) [((0 : Nat), (9 : Nat), (12 : Nat), (15 : Nat))]) rmL_count D ad cy [.ref (ad 14 0 0), .int x1, .ref (ad 28 0 0)] S o Q 1 6 := by
  intro sz
  refine mkL (own := RL) (lv := [(0, .ref (ad 14 0 0)), (1, .int x1), (2, .ref (ad 28 0 0))]) (by decide) rfl (Nat.le_of_ble_eq_true rfl) rfl ?_
  intro p e s m below meth c ls hsz hM hlocks hret hK hA hX hl htab hT hZ hN
  unfold vc_L_count at hq
  refine lv_aload_n hM.1 hM.2.1 dL_count_0 rfl (lv_at hl 2 rfl) ?_
  refine lv_iconst (v := 0) hM.1 hM.2.1 dL_count_1 (by decide) ?_
  refine lv_aload_n hM.1 hM.2.1 dL_count_2 rfl (lv_at hl 0 rfl) ?_
  refine lv_iload_n hM.1 hM.2.1 dL_count_3 rfl (lv_at hl 1 rfl) ?_
  refine hVi (As := [.int x1]) hM hK hX hA hT hZ (met_X6_count l hl9 D ad cy S x1 hq) (kX6_count hM.2.2.2.2 ql_RL_65 (Nat.le_of_ble_eq_true rfl) (Nat.le_of_ble_eq_true rfl)) (v14 hK hX m14) rfl hl.1 rfl (Nat.le_of_ble_eq_true rfl) dL_count_4 ⟨Nat.le_of_ble_eq_true rfl, Nat.le_of_ble_eq_true rfl⟩ (fun S1 k ce q9 H locs hq hX hc9 hv9 hcl9 => ?_) (fun S1 r1 hq H locs hX => ?_)
  · rcases hq with ⟨rfl, hq⟩
    · refine r_catch (k := 2) (pre := tableOf []) (suf := tableOf []) (x := ⟨0, 9, 12, 15⟩) hM hT htab (fun z hz => ?_) (by decide) (by decide) qk_RL_15 cast_2 hc9 hv9 hcl9 ?_
      · exact absurd hz List.not_mem_nil
      refine lv_astore_n (lv' := [(3, .ref q9), (0, .ref (ad 14 0 0)), (1, .int x1), (2, .ref (ad 28 0 0))]) hM.1 hM.2.1 dL_count_12 rfl hl (by decide) rfl (fun ls hl => ?_)
      refine lv_iconst (v := 1) hM.1 hM.2.1 dL_count_13 (by decide) ?_
      exact e_iL hM hX hlocks hret hq dL_count_14
  refine lv_i2l hM.1 hM.2.1 dL_count_7 rfl ?_
  refine r_last hM hK hX dL_count_8 (fun H locs hX => ?_)
  refine lv_goto (tgt := 15) hM.1 hM.2.1 dL_count_9 (by decide) ?_
  refine lv_iconst (v := 0) hM.1 hM.2.1 dL_count_15 (by decide) ?_
  exact e_iL hM hX hlocks hret hq dL_count_16
theorem kL_count {R : Room} {s : State} {args : Array Value} {own : String} {index : Nat} (ht : ∀ w ∈ lw_all, w.before args s = true) (hl : Cond.methodLink own index yL_count ∈ lw_all) (hf : rmL_count.frames + 1 ≤ R.frames) (hlo : 8 + (4 + 11) + rmL_count.locals ≤ R.locals) : vx_CSW R s args own index yL_count cL_count 4 (Option.some Jvm.ClassFile.FieldType.int) [((0 : Nat), (9 : Nat), (12 : Nat), (15 : Nat))] (wB yL_count cL_count 4 (Option.some Jvm.ClassFile.FieldType.int) [((0 : Nat), (9 : Nat), (12 : Nat), (15 : Nat))]) rmL_count 1 6 3 := vx_cwSW 3 ht (good_SW hl qt_yL_count qi_RL qc_yL_count) rfl rfl rfl (by decide +kernel) ⟨hf, hlo⟩
def rmL_ranked : Room := { frames := 8, cells := 2, slots := 12, locals := 135 }
set_option maxRecDepth 100000 in
set_option maxHeartbeats 4000000 in
theorem met_L_ranked (l : Launch) (hl9 : l.stackTraces = false) (D : va_G) (ad : Adr) (cy : Nat → ClassId) (S : Mem) (o : Nat → Int64) (x1 : Int32) (x2 : Int32) {Q : Mem → (Nat → Int64) → Int32 → Prop} (hq : vc_L_ranked S o x1 x2 Q) : Li l yL_ranked (wB yL_ranked cL_ranked 5 (Option.some Jvm.ClassFile.FieldType.int) [((0 : Nat), (10 : Nat), (13 : Nat), (15 : Nat))]) rmL_ranked D ad cy [.ref (ad 14 0 0), .int x1, .int x2, .ref (ad 28 0 0)] S o Q 2 12 := by
  intro sz
  refine mkL (own := RL) (lv := [(0, .ref (ad 14 0 0)), (1, .int x1), (2, .int x2), (3, .ref (ad 28 0 0))]) (by decide) rfl (Nat.le_of_ble_eq_true rfl) rfl ?_
  intro p e s m below meth c ls hsz hM hlocks hret hK hA hX hl htab hT hZ hN
  unfold vc_L_ranked at hq
  refine lv_aload_n hM.1 hM.2.1 dL_ranked_0 rfl (lv_at hl 3 rfl) ?_
  refine lv_iconst (v := 0) hM.1 hM.2.1 dL_ranked_1 (by decide) ?_
  refine lv_aload_n hM.1 hM.2.1 dL_ranked_2 rfl (lv_at hl 0 rfl) ?_
  refine lv_iload_n hM.1 hM.2.1 dL_ranked_3 rfl (lv_at hl 1 rfl) ?_
  refine lv_iload_n hM.1 hM.2.1 dL_ranked_4 rfl (lv_at hl 2 rfl) ?_
  refine hVi (As := [.int x1, .int x2]) hM hK hX hA hT hZ (met_X6_ranked l hl9 D ad cy S x1 x2 hq) (kX6_ranked hM.2.2.2.2 ql_RL_68 (Nat.le_of_ble_eq_true rfl) (Nat.le_of_ble_eq_true rfl)) (v14 hK hX m14) rfl hl.1 rfl (Nat.le_of_ble_eq_true rfl) dL_ranked_5 ⟨Nat.le_of_ble_eq_true rfl, Nat.le_of_ble_eq_true rfl⟩ (fun S1 k ce q9 H locs hq hX hc9 hv9 hcl9 => ?_) (fun S1 r1 hq H locs hX => ?_)
  · rcases hq with ⟨rfl, hq⟩
    · refine r_catch (k := 2) (pre := tableOf []) (suf := tableOf []) (x := ⟨0, 10, 13, 15⟩) hM hT htab (fun z hz => ?_) (by decide) (by decide) qk_RL_15 cast_2 hc9 hv9 hcl9 ?_
      · exact absurd hz List.not_mem_nil
      refine lv_astore (lv' := [(4, .ref q9), (0, .ref (ad 14 0 0)), (1, .int x1), (2, .int x2), (3, .ref (ad 28 0 0))]) hM.1 hM.2.1 dL_ranked_13 hl (by decide) rfl (fun ls hl => ?_)
      refine lv_iconst (v := 1) hM.1 hM.2.1 dL_ranked_15 (by decide) ?_
      exact e_iL hM hX hlocks hret hq dL_ranked_16
  refine lv_i2l hM.1 hM.2.1 dL_ranked_8 rfl ?_
  refine r_last hM hK hX dL_ranked_9 (fun H locs hX => ?_)
  refine lv_goto (tgt := 17) hM.1 hM.2.1 dL_ranked_10 (by decide) ?_
  refine lv_iconst (v := 0) hM.1 hM.2.1 dL_ranked_17 (by decide) ?_
  exact e_iL hM hX hlocks hret hq dL_ranked_18
theorem kL_ranked {R : Room} {s : State} {args : Array Value} {own : String} {index : Nat} (ht : ∀ w ∈ lw_all, w.before args s = true) (hl : Cond.methodLink own index yL_ranked ∈ lw_all) (hf : rmL_ranked.frames + 1 ≤ R.frames) (hlo : 8 + (5 + 11) + rmL_ranked.locals ≤ R.locals) : vx_CSW R s args own index yL_ranked cL_ranked 5 (Option.some Jvm.ClassFile.FieldType.int) [((0 : Nat), (10 : Nat), (13 : Nat), (15 : Nat))] (wB yL_ranked cL_ranked 5 (Option.some Jvm.ClassFile.FieldType.int) [((0 : Nat), (10 : Nat), (13 : Nat), (15 : Nat))]) rmL_ranked 2 12 4 := vx_cwSW 4 ht (good_SW hl qt_yL_ranked qi_RL qc_yL_ranked) rfl rfl rfl (by decide +kernel) ⟨hf, hlo⟩
def rmL_ifLag : Room := { frames := 8, cells := 2, slots := 12, locals := 134 }
set_option maxRecDepth 100000 in
set_option maxHeartbeats 4000000 in
theorem met_L_ifLag (l : Launch) (hl9 : l.stackTraces = false) (D : va_G) (ad : Adr) (cy : Nat → ClassId) (S : Mem) (o : Nat → Int64) (x1 : Int32) (x2 : Int32) {Q : Mem → (Nat → Int64) → Int32 → Prop} (hq : vc_L_ifLag S o x1 x2 Q) : Li l yL_ifLag (wB yL_ifLag cL_ifLag 5 (Option.some Jvm.ClassFile.FieldType.int) [((0 : Nat), (10 : Nat), (13 : Nat), (13 : Nat)), ((0 : Nat), (10 : Nat), (17 : Nat), (15 : Nat))]) rmL_ifLag D ad cy [.ref (ad 14 0 0), .int x1, .int x2, .ref (ad 28 0 0)] S o Q 2 12 := by
  intro sz
  refine mkL (own := RL) (lv := [(0, .ref (ad 14 0 0)), (1, .int x1), (2, .int x2), (3, .ref (ad 28 0 0))]) (by decide) rfl (Nat.le_of_ble_eq_true rfl) rfl ?_
  intro p e s m below meth c ls hsz hM hlocks hret hK hA hX hl htab hT hZ hN
  unfold vc_L_ifLag at hq
  refine lv_aload_n hM.1 hM.2.1 dL_ifLag_0 rfl (lv_at hl 3 rfl) ?_
  refine lv_iconst (v := 0) hM.1 hM.2.1 dL_ifLag_1 (by decide) ?_
  refine lv_aload_n hM.1 hM.2.1 dL_ifLag_2 rfl (lv_at hl 0 rfl) ?_
  refine lv_iload_n hM.1 hM.2.1 dL_ifLag_3 rfl (lv_at hl 1 rfl) ?_
  refine lv_iload_n hM.1 hM.2.1 dL_ifLag_4 rfl (lv_at hl 2 rfl) ?_
  refine hVi (As := [.int x1, .int x2]) hM hK hX hA hT hZ (met_X6_ifLag l hl9 D ad cy S x1 x2 hq) (kX6_ifLag hM.2.2.2.2 ql_RL_71 (Nat.le_of_ble_eq_true rfl) (Nat.le_of_ble_eq_true rfl)) (v14 hK hX m14) rfl hl.1 rfl (Nat.le_of_ble_eq_true rfl) dL_ifLag_5 ⟨Nat.le_of_ble_eq_true rfl, Nat.le_of_ble_eq_true rfl⟩ (fun S1 k ce q9 H locs hq hX hc9 hv9 hcl9 => ?_) (fun S1 r1 hq H locs hX => ?_)
  · rcases hq with ⟨rfl, hq⟩ | ⟨rfl, hq⟩
    · refine r_catch (k := 1) (pre := tableOf []) (suf := tableOf [(0, 10, 17, 15)]) (x := ⟨0, 10, 13, 13⟩) hM hT htab (fun z hz => ?_) (by decide) (by decide) qk_RL_13 cast_1 hc9 hv9 hcl9 ?_
      · exact absurd hz List.not_mem_nil
      refine lv_astore (lv' := [(4, .ref q9), (0, .ref (ad 14 0 0)), (1, .int x1), (2, .int x2), (3, .ref (ad 28 0 0))]) hM.1 hM.2.1 dL_ifLag_13 hl (by decide) rfl (fun ls hl => ?_)
      refine lv_iconst (v := 1) hM.1 hM.2.1 dL_ifLag_15 (by decide) ?_
      exact e_iL hM hX hlocks hret hq dL_ifLag_16
    · refine r_catch (k := 2) (pre := tableOf [(0, 10, 13, 13)]) (suf := tableOf []) (x := ⟨0, 10, 17, 15⟩) hM hT htab (fun z hz => ?_) (by decide) (by decide) qk_RL_15 cast_2 hc9 hv9 hcl9 ?_
      · simp only [tableOf, List.map_cons, List.map_nil, List.mem_cons, List.not_mem_nil, or_false] at hz
        rcases hz with rfl
        · exact ⟨by decide, _, qk_RL_13, hN 2 1 (by decide) (by decide) (by decide)⟩
      refine lv_astore (lv' := [(4, .ref q9), (0, .ref (ad 14 0 0)), (1, .int x1), (2, .int x2), (3, .ref (ad 28 0 0))]) hM.1 hM.2.1 dL_ifLag_17 hl (by decide) rfl (fun ls hl => ?_)
      refine lv_iconst (v := 2) hM.1 hM.2.1 dL_ifLag_19 (by decide) ?_
      exact e_iL hM hX hlocks hret hq dL_ifLag_20
  refine lv_i2l hM.1 hM.2.1 dL_ifLag_8 rfl ?_
  refine r_last hM hK hX dL_ifLag_9 (fun H locs hX => ?_)
  refine lv_goto (tgt := 21) hM.1 hM.2.1 dL_ifLag_10 (by decide) ?_
  refine lv_iconst (v := 0) hM.1 hM.2.1 dL_ifLag_21 (by decide) ?_
  exact e_iL hM hX hlocks hret hq dL_ifLag_22
theorem kL_ifLag {R : Room} {s : State} {args : Array Value} {own : String} {index : Nat} (ht : ∀ w ∈ lw_all, w.before args s = true) (hl : Cond.methodLink own index yL_ifLag ∈ lw_all) (hf : rmL_ifLag.frames + 1 ≤ R.frames) (hlo : 8 + (5 + 11) + rmL_ifLag.locals ≤ R.locals) : vx_CSW R s args own index yL_ifLag cL_ifLag 5 (Option.some Jvm.ClassFile.FieldType.int) [((0 : Nat), (10 : Nat), (13 : Nat), (13 : Nat)), ((0 : Nat), (10 : Nat), (17 : Nat), (15 : Nat))] (wB yL_ifLag cL_ifLag 5 (Option.some Jvm.ClassFile.FieldType.int) [((0 : Nat), (10 : Nat), (13 : Nat), (13 : Nat)), ((0 : Nat), (10 : Nat), (17 : Nat), (15 : Nat))]) rmL_ifLag 2 12 4 := vx_cwSW 4 ht (good_SW hl qt_yL_ifLag qi_RL qc_yL_ifLag) rfl rfl rfl (by decide +kernel) ⟨hf, hlo⟩
def rmL_bestLag : Room := { frames := 8, cells := 1, slots := 6, locals := 132 }
set_option maxRecDepth 100000 in
set_option maxHeartbeats 4000000 in
theorem met_L_bestLag (l : Launch) (hl9 : l.stackTraces = false) (D : va_G) (ad : Adr) (cy : Nat → ClassId) (S : Mem) (o : Nat → Int64) (x1 : Int32) {Q : Mem → (Nat → Int64) → Int32 → Prop} (hq : vc_L_bestLag S o x1 Q) : Li l yL_bestLag (wB yL_bestLag cL_bestLag 4 (Option.some Jvm.ClassFile.FieldType.int) [((0 : Nat), (9 : Nat), (12 : Nat), (13 : Nat))]) rmL_bestLag D ad cy [.ref (ad 14 0 0), .int x1, .ref (ad 28 0 0)] S o Q 1 6 := by
  intro sz
  refine mkL (own := RL) (lv := [(0, .ref (ad 14 0 0)), (1, .int x1), (2, .ref (ad 28 0 0))]) (by decide) rfl (Nat.le_of_ble_eq_true rfl) rfl ?_
  intro p e s m below meth c ls hsz hM hlocks hret hK hA hX hl htab hT hZ hN
  unfold vc_L_bestLag at hq
  refine lv_aload_n hM.1 hM.2.1 dL_bestLag_0 rfl (lv_at hl 2 rfl) ?_
  refine lv_iconst (v := 0) hM.1 hM.2.1 dL_bestLag_1 (by decide) ?_
  refine lv_aload_n hM.1 hM.2.1 dL_bestLag_2 rfl (lv_at hl 0 rfl) ?_
  refine lv_iload_n hM.1 hM.2.1 dL_bestLag_3 rfl (lv_at hl 1 rfl) ?_
  refine hVi (As := [.int x1]) hM hK hX hA hT hZ (met_X6_bestLag l hl9 D ad cy S x1 hq) (kX6_bestLag hM.2.2.2.2 ql_RL_74 (Nat.le_of_ble_eq_true rfl) (Nat.le_of_ble_eq_true rfl)) (v14 hK hX m14) rfl hl.1 rfl (Nat.le_of_ble_eq_true rfl) dL_bestLag_4 ⟨Nat.le_of_ble_eq_true rfl, Nat.le_of_ble_eq_true rfl⟩ (fun S1 k ce q9 H locs hq hX hc9 hv9 hcl9 => ?_) (fun S1 r1 hq H locs hX => ?_)
  · rcases hq with ⟨rfl, hq⟩
    · refine r_catch (k := 1) (pre := tableOf []) (suf := tableOf []) (x := ⟨0, 9, 12, 13⟩) hM hT htab (fun z hz => ?_) (by decide) (by decide) qk_RL_13 cast_1 hc9 hv9 hcl9 ?_
      · exact absurd hz List.not_mem_nil
      refine lv_astore_n (lv' := [(3, .ref q9), (0, .ref (ad 14 0 0)), (1, .int x1), (2, .ref (ad 28 0 0))]) hM.1 hM.2.1 dL_bestLag_12 rfl hl (by decide) rfl (fun ls hl => ?_)
      refine lv_iconst (v := 1) hM.1 hM.2.1 dL_bestLag_13 (by decide) ?_
      exact e_iL hM hX hlocks hret hq dL_bestLag_14
  refine lv_i2l hM.1 hM.2.1 dL_bestLag_7 rfl ?_
  refine r_last hM hK hX dL_bestLag_8 (fun H locs hX => ?_)
  refine lv_goto (tgt := 15) hM.1 hM.2.1 dL_bestLag_9 (by decide) ?_
  refine lv_iconst (v := 0) hM.1 hM.2.1 dL_bestLag_15 (by decide) ?_
  exact e_iL hM hX hlocks hret hq dL_bestLag_16
theorem kL_bestLag {R : Room} {s : State} {args : Array Value} {own : String} {index : Nat} (ht : ∀ w ∈ lw_all, w.before args s = true) (hl : Cond.methodLink own index yL_bestLag ∈ lw_all) (hf : rmL_bestLag.frames + 1 ≤ R.frames) (hlo : 8 + (4 + 11) + rmL_bestLag.locals ≤ R.locals) : vx_CSW R s args own index yL_bestLag cL_bestLag 4 (Option.some Jvm.ClassFile.FieldType.int) [((0 : Nat), (9 : Nat), (12 : Nat), (13 : Nat))] (wB yL_bestLag cL_bestLag 4 (Option.some Jvm.ClassFile.FieldType.int) [((0 : Nat), (9 : Nat), (12 : Nat), (13 : Nat))]) rmL_bestLag 1 6 3 := vx_cwSW 3 ht (good_SW hl qt_yL_bestLag qi_RL qc_yL_bestLag) rfl rfl rfl (by decide +kernel) ⟨hf, hlo⟩
def rmL_ifStill : Room := { frames := 8, cells := 2, slots := 12, locals := 155 }
set_option maxRecDepth 100000 in
set_option maxHeartbeats 4000000 in
theorem met_L_ifStill (l : Launch) (hl9 : l.stackTraces = false) (D : va_G) (ad : Adr) (cy : Nat → ClassId) (S : Mem) (o : Nat → Int64) (x1 : Int32) (x2 : Int32) {Q : Mem → (Nat → Int64) → Int32 → Prop} (hq : vc_L_ifStill S o x1 x2 Q) : Li l yL_ifStill (wB yL_ifStill cL_ifStill 5 (Option.some Jvm.ClassFile.FieldType.int) [((0 : Nat), (10 : Nat), (13 : Nat), (15 : Nat))]) rmL_ifStill D ad cy [.ref (ad 14 0 0), .int x1, .int x2, .ref (ad 28 0 0)] S o Q 2 12 := by
  intro sz
  refine mkL (own := RL) (lv := [(0, .ref (ad 14 0 0)), (1, .int x1), (2, .int x2), (3, .ref (ad 28 0 0))]) (by decide) rfl (Nat.le_of_ble_eq_true rfl) rfl ?_
  intro p e s m below meth c ls hsz hM hlocks hret hK hA hX hl htab hT hZ hN
  unfold vc_L_ifStill at hq
  refine lv_aload_n hM.1 hM.2.1 dL_ifStill_0 rfl (lv_at hl 3 rfl) ?_
  refine lv_iconst (v := 0) hM.1 hM.2.1 dL_ifStill_1 (by decide) ?_
  refine lv_aload_n hM.1 hM.2.1 dL_ifStill_2 rfl (lv_at hl 0 rfl) ?_
  refine lv_iload_n hM.1 hM.2.1 dL_ifStill_3 rfl (lv_at hl 1 rfl) ?_
  refine lv_iload_n hM.1 hM.2.1 dL_ifStill_4 rfl (lv_at hl 2 rfl) ?_
  refine hVi (As := [.int x1, .int x2]) hM hK hX hA hT hZ (met_X6_ifStill l hl9 D ad cy S x1 x2 hq) (kX6_ifStill hM.2.2.2.2 ql_RL_77 (Nat.le_of_ble_eq_true rfl) (Nat.le_of_ble_eq_true rfl)) (v14 hK hX m14) rfl hl.1 rfl (Nat.le_of_ble_eq_true rfl) dL_ifStill_5 ⟨Nat.le_of_ble_eq_true rfl, Nat.le_of_ble_eq_true rfl⟩ (fun S1 k ce q9 H locs hq hX hc9 hv9 hcl9 => ?_) (fun S1 r1 hq H locs hX => ?_)
  · rcases hq with ⟨rfl, hq⟩
    · refine r_catch (k := 2) (pre := tableOf []) (suf := tableOf []) (x := ⟨0, 10, 13, 15⟩) hM hT htab (fun z hz => ?_) (by decide) (by decide) qk_RL_15 cast_2 hc9 hv9 hcl9 ?_
      · exact absurd hz List.not_mem_nil
      refine lv_astore (lv' := [(4, .ref q9), (0, .ref (ad 14 0 0)), (1, .int x1), (2, .int x2), (3, .ref (ad 28 0 0))]) hM.1 hM.2.1 dL_ifStill_13 hl (by decide) rfl (fun ls hl => ?_)
      refine lv_iconst (v := 1) hM.1 hM.2.1 dL_ifStill_15 (by decide) ?_
      exact e_iL hM hX hlocks hret hq dL_ifStill_16
  refine lv_i2l hM.1 hM.2.1 dL_ifStill_8 rfl ?_
  refine r_last hM hK hX dL_ifStill_9 (fun H locs hX => ?_)
  refine lv_goto (tgt := 17) hM.1 hM.2.1 dL_ifStill_10 (by decide) ?_
  refine lv_iconst (v := 0) hM.1 hM.2.1 dL_ifStill_17 (by decide) ?_
  exact e_iL hM hX hlocks hret hq dL_ifStill_18
theorem kL_ifStill {R : Room} {s : State} {args : Array Value} {own : String} {index : Nat} (ht : ∀ w ∈ lw_all, w.before args s = true) (hl : Cond.methodLink own index yL_ifStill ∈ lw_all) (hf : rmL_ifStill.frames + 1 ≤ R.frames) (hlo : 8 + (5 + 11) + rmL_ifStill.locals ≤ R.locals) : vx_CSW R s args own index yL_ifStill cL_ifStill 5 (Option.some Jvm.ClassFile.FieldType.int) [((0 : Nat), (10 : Nat), (13 : Nat), (15 : Nat))] (wB yL_ifStill cL_ifStill 5 (Option.some Jvm.ClassFile.FieldType.int) [((0 : Nat), (10 : Nat), (13 : Nat), (15 : Nat))]) rmL_ifStill 2 12 4 := vx_cwSW 4 ht (good_SW hl qt_yL_ifStill qi_RL qc_yL_ifStill) rfl rfl rfl (by decide +kernel) ⟨hf, hlo⟩
def rmL_stillIn : Room := { frames := 8, cells := 1, slots := 6, locals := 132 }
set_option maxRecDepth 100000 in
set_option maxHeartbeats 4000000 in
theorem met_L_stillIn (l : Launch) (hl9 : l.stackTraces = false) (D : va_G) (ad : Adr) (cy : Nat → ClassId) (S : Mem) (o : Nat → Int64) (x1 : Int32) {Q : Mem → (Nat → Int64) → Int32 → Prop} (hq : vc_L_stillIn S o x1 Q) : Li l yL_stillIn (wB yL_stillIn cL_stillIn 4 (Option.some Jvm.ClassFile.FieldType.int) [((0 : Nat), (9 : Nat), (12 : Nat), (13 : Nat))]) rmL_stillIn D ad cy [.ref (ad 14 0 0), .int x1, .ref (ad 28 0 0)] S o Q 1 6 := by
  intro sz
  refine mkL (own := RL) (lv := [(0, .ref (ad 14 0 0)), (1, .int x1), (2, .ref (ad 28 0 0))]) (by decide) rfl (Nat.le_of_ble_eq_true rfl) rfl ?_
  intro p e s m below meth c ls hsz hM hlocks hret hK hA hX hl htab hT hZ hN
  unfold vc_L_stillIn at hq
  refine lv_aload_n hM.1 hM.2.1 dL_stillIn_0 rfl (lv_at hl 2 rfl) ?_
  refine lv_iconst (v := 0) hM.1 hM.2.1 dL_stillIn_1 (by decide) ?_
  refine lv_aload_n hM.1 hM.2.1 dL_stillIn_2 rfl (lv_at hl 0 rfl) ?_
  refine lv_iload_n hM.1 hM.2.1 dL_stillIn_3 rfl (lv_at hl 1 rfl) ?_
  refine hVi (As := [.int x1]) hM hK hX hA hT hZ (met_X6_stillIn l hl9 D ad cy S x1 hq) (kX6_stillIn hM.2.2.2.2 ql_RL_80 (Nat.le_of_ble_eq_true rfl) (Nat.le_of_ble_eq_true rfl)) (v14 hK hX m14) rfl hl.1 rfl (Nat.le_of_ble_eq_true rfl) dL_stillIn_4 ⟨Nat.le_of_ble_eq_true rfl, Nat.le_of_ble_eq_true rfl⟩ (fun S1 k ce q9 H locs hq hX hc9 hv9 hcl9 => ?_) (fun S1 r1 hq H locs hX => ?_)
  · rcases hq with ⟨rfl, hq⟩
    · refine r_catch (k := 1) (pre := tableOf []) (suf := tableOf []) (x := ⟨0, 9, 12, 13⟩) hM hT htab (fun z hz => ?_) (by decide) (by decide) qk_RL_13 cast_1 hc9 hv9 hcl9 ?_
      · exact absurd hz List.not_mem_nil
      refine lv_astore_n (lv' := [(3, .ref q9), (0, .ref (ad 14 0 0)), (1, .int x1), (2, .ref (ad 28 0 0))]) hM.1 hM.2.1 dL_stillIn_12 rfl hl (by decide) rfl (fun ls hl => ?_)
      refine lv_iconst (v := 1) hM.1 hM.2.1 dL_stillIn_13 (by decide) ?_
      exact e_iL hM hX hlocks hret hq dL_stillIn_14
  refine lv_i2l hM.1 hM.2.1 dL_stillIn_7 rfl ?_
  refine r_last hM hK hX dL_stillIn_8 (fun H locs hX => ?_)
  refine lv_goto (tgt := 15) hM.1 hM.2.1 dL_stillIn_9 (by decide) ?_
  refine lv_iconst (v := 0) hM.1 hM.2.1 dL_stillIn_15 (by decide) ?_
  exact e_iL hM hX hlocks hret hq dL_stillIn_16
theorem kL_stillIn {R : Room} {s : State} {args : Array Value} {own : String} {index : Nat} (ht : ∀ w ∈ lw_all, w.before args s = true) (hl : Cond.methodLink own index yL_stillIn ∈ lw_all) (hf : rmL_stillIn.frames + 1 ≤ R.frames) (hlo : 8 + (4 + 11) + rmL_stillIn.locals ≤ R.locals) : vx_CSW R s args own index yL_stillIn cL_stillIn 4 (Option.some Jvm.ClassFile.FieldType.int) [((0 : Nat), (9 : Nat), (12 : Nat), (13 : Nat))] (wB yL_stillIn cL_stillIn 4 (Option.some Jvm.ClassFile.FieldType.int) [((0 : Nat), (9 : Nat), (12 : Nat), (13 : Nat))]) rmL_stillIn 1 6 3 := vx_cwSW 3 ht (good_SW hl qt_yL_stillIn qi_RL qc_yL_stillIn) rfl rfl rfl (by decide +kernel) ⟨hf, hlo⟩
