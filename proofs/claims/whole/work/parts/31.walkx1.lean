def rmX3_hasHoursLeft : Room := { frames := 0, cells := 0, slots := 0, locals := 0 }
theorem kX3_hasHoursLeft {R : Room} {s : State} {args : Array Value} {own : String} {index : Nat} (ht : ∀ w ∈ lw_all, w.before args s = true) (hl : Cond.methodLink own index yX3_hasHoursLeft ∈ lw_all) (hf : rmX3_hasHoursLeft.frames + 1 ≤ R.frames) (hlo : 8 + (2 + 11) + rmX3_hasHoursLeft.locals ≤ R.locals) : CallW R s args own RX3 index yX3_hasHoursLeft cX3_hasHoursLeft 2 (some Jvm.ClassFile.FieldType.boolean) (wA yX3_hasHoursLeft cX3_hasHoursLeft 2 (some Jvm.ClassFile.FieldType.boolean)) rmX3_hasHoursLeft 0 0 1 := cwV 1 ht (good_V hl qm_yX3_hasHoursLeft qs_yX3_hasHoursLeft qi_RX3 qc_yX3_hasHoursLeft) rfl rfl rfl (by decide +kernel) ⟨hf, hlo⟩
set_option maxRecDepth 100000 in
set_option maxHeartbeats 4000000 in
theorem met_X3_hasHoursLeft (l : Launch) (D : va_G) (ad : Adr) (cy : Nat → ClassId) (S : Mem) (P : Nat) (x1 : Int32) {Q : Mem → Int32 → Prop} (hv : P < 11) (hq : vc_X3_hasHoursLeft S P x1 Q) : Ci l yX3_hasHoursLeft (wA yX3_hasHoursLeft cX3_hasHoursLeft 2 (some Jvm.ClassFile.FieldType.boolean)) rmX3_hasHoursLeft D ad cy [.ref (ad 3 P 0), .int x1] S Q := by
  intro o sz
  refine mkC (own := RX3) (lv := [(0, .ref (ad 3 P 0)), (1, .int x1)]) (by decide) rfl (Nat.le_of_ble_eq_true rfl) rfl ⟨rfl, rfl⟩ ?_
  intro p e s m below meth c ls hsz hM hlocks hret hK hA hX hl
  unfold vc_X3_hasHoursLeft at hq
  refine lv_aload_n hM.1 hM.2.1 dX3_hasHoursLeft_0 rfl (lv_at hl 0 rfl) ?_
  refine g3 hM hK hX (id_P hv).2.1 7 (by decide) qf_RX3_65 rfl dX3_hasHoursLeft_1 ?_
  refine lv_sipush (v := (9999 : Int32)) hM.1 hM.2.1 dX3_hasHoursLeft_4 (by decide) ?_
  refine lv_iload_n hM.1 hM.2.1 dX3_hasHoursLeft_7 rfl (lv_at hl 1 rfl) ?_
  refine lv_isub hM.1 hM.2.1 dX3_hasHoursLeft_8 ?_
  refine lv_icmp_gt (tgt := 16) hM.1 hM.2.1 dX3_hasHoursLeft_9 (by decide) (fun c_1 => ?_) (fun c_1 => ?_)
  · replace hq := hq.1 c_1
    refine lv_iconst (v := (0 : Int32)) hM.1 hM.2.1 dX3_hasHoursLeft_16 (by decide) ?_
    exact e_z hM hX hlocks hret rfl hq dX3_hasHoursLeft_17
  replace hq := hq.2 c_1
  refine lv_iconst (v := (1 : Int32)) hM.1 hM.2.1 dX3_hasHoursLeft_12 (by decide) ?_
  refine lv_goto (tgt := 17) hM.1 hM.2.1 dX3_hasHoursLeft_13 (by decide) ?_
  exact e_z hM hX hlocks hret rfl hq dX3_hasHoursLeft_17
def rmX5_startAfresh : Room := { frames := 0, cells := 0, slots := 0, locals := 0 }
theorem kX5_startAfresh {R : Room} {s : State} {args : Array Value} {own : String} {index : Nat} (ht : ∀ w ∈ lw_all, w.before args s = true) (hl : Cond.methodLink own index yX5_startAfresh ∈ lw_all) (hf : rmX5_startAfresh.frames + 1 ≤ R.frames) (hlo : 8 + (2 + 11) + rmX5_startAfresh.locals ≤ R.locals) : CallW R s args own RX5 index yX5_startAfresh cX5_startAfresh 2 none (wA yX5_startAfresh cX5_startAfresh 2 none) rmX5_startAfresh 0 0 1 := cwV 1 ht (good_V hl qm_yX5_startAfresh qs_yX5_startAfresh qi_RX5 qc_yX5_startAfresh) rfl rfl rfl (by decide +kernel) ⟨hf, hlo⟩
set_option maxRecDepth 100000 in
set_option maxHeartbeats 4000000 in
theorem met_X5_startAfresh (l : Launch) (D : va_G) (ad : Adr) (cy : Nat → ClassId) (S : Mem) (P : Nat) (i : Nat) (x1 : Int32) {Q : Mem → Prop} (hv : P < 11 ∧ i < 11) (hq : vc_X5_startAfresh S P i x1 Q) : Cv l yX5_startAfresh (wA yX5_startAfresh cX5_startAfresh 2 none) rmX5_startAfresh D ad cy [.ref (ad 5 P i), .int x1] S Q := by
  intro o sz
  refine mkC (own := RX5) (lv := [(0, .ref (ad 5 P i)), (1, .int x1)]) (by decide) rfl (Nat.le_of_ble_eq_true rfl) rfl ⟨rfl, rfl⟩ ?_
  intro p e s m below meth c ls hsz hM hlocks hret hK hA hX hl
  unfold vc_X5_startAfresh at hq
  refine lv_aload_n hM.1 hM.2.1 dX5_startAfresh_0 rfl (lv_at hl 0 rfl) ?_
  refine lv_iload_n hM.1 hM.2.1 dX5_startAfresh_1 rfl (lv_at hl 1 rfl) ?_
  refine lv_aload_n hM.1 hM.2.1 dX5_startAfresh_2 rfl (lv_at hl 0 rfl) ?_
  refine g5 hM hK hX (id_T hv).1 4 (by decide) qf_RX5_32 rfl dX5_startAfresh_3 ?_
  refine lv_iadd hM.1 hM.2.1 dX5_startAfresh_6 ?_
  refine p5_7 hM hK hX (id_T hv).1 qf_RX5_42 dX5_startAfresh_7 (fun S_1 e_2 H locs hX => ?_)
  replace hq := hq S_1 e_2
  refine lv_aload_n hM.1 hM.2.1 dX5_startAfresh_10 rfl (lv_at hl 0 rfl) ?_
  refine lv_iconst (v := (0 : Int32)) hM.1 hM.2.1 dX5_startAfresh_11 (by decide) ?_
  refine p5_2 hM hK hX (id_T hv).1 qf_RX5_45 dX5_startAfresh_12 (fun S_3 e_4 H locs hX => ?_)
  replace hq := hq S_3 e_4
  refine lv_aload_n hM.1 hM.2.1 dX5_startAfresh_15 rfl (lv_at hl 0 rfl) ?_
  refine lv_ldc hM.1 hM.2.1 hM.2.2.2.1 (hM.2.2.2.2 _ qn_RX5_25) dX5_startAfresh_16 ?_
  refine p5_11 hM hK hX (id_T hv).1 qf_RX5_26 dX5_startAfresh_18 (fun S_5 e_6 H locs hX => ?_)
  replace hq := hq S_5 e_6
  refine lv_aload_n hM.1 hM.2.1 dX5_startAfresh_21 rfl (lv_at hl 0 rfl) ?_
  refine lv_iconst (v := (0 : Int32)) hM.1 hM.2.1 dX5_startAfresh_22 (by decide) ?_
  refine p5_8 hM hK hX (id_T hv).1 qf_RX5_48 dX5_startAfresh_23 (fun S_7 e_8 H locs hX => ?_)
  replace hq := hq S_7 e_8
  refine lv_aload_n hM.1 hM.2.1 dX5_startAfresh_26 rfl (lv_at hl 0 rfl) ?_
  refine lv_iconst (v := (0 : Int32)) hM.1 hM.2.1 dX5_startAfresh_27 (by decide) ?_
  refine p5_10 hM hK hX (id_T hv).1 ⟨rfl, rfl⟩ qf_RX5_51 dX5_startAfresh_28 (fun S_9 e_10 H locs hX => ?_)
  replace hq := hq S_9 e_10
  exact e_v hM hX hlocks hret hq dX5_startAfresh_31
def rmX5_begin : Room := { frames := 1, cells := 0, slots := 0, locals := 21 }
theorem kX5_begin {R : Room} {s : State} {args : Array Value} {own : String} {index : Nat} (ht : ∀ w ∈ lw_all, w.before args s = true) (hl : Cond.methodLink own index yX5_begin ∈ lw_all) (hf : rmX5_begin.frames + 1 ≤ R.frames) (hlo : 8 + (6 + 11) + rmX5_begin.locals ≤ R.locals) : CallW R s args own RX5 index yX5_begin cX5_begin 6 none (wA yX5_begin cX5_begin 6 none) rmX5_begin 0 0 5 := cwV 5 ht (good_V hl qm_yX5_begin qs_yX5_begin qi_RX5 qc_yX5_begin) rfl rfl rfl (by decide +kernel) ⟨hf, hlo⟩
set_option maxRecDepth 100000 in
set_option maxHeartbeats 4000000 in
theorem met_X5_begin (l : Launch) (D : va_G) (ad : Adr) (cy : Nat → ClassId) (S : Mem) (P : Nat) (i : Nat) (x1 : Int32) (x2 : Int32) (x3 : Int32) (x4 : Int32) (x5 : Int32) {Q : Mem → Prop} (hv : P < 11 ∧ i < 11) (hq : vc_X5_begin S P i x1 x2 x3 x4 x5 Q) : Cv l yX5_begin (wA yX5_begin cX5_begin 6 none) rmX5_begin D ad cy [.ref (ad 5 P i), .int x1, .int x2, .int x3, .int x4, .int x5] S Q := by
  intro o sz
  refine mkC (own := RX5) (lv := [(0, .ref (ad 5 P i)), (1, .int x1), (2, .int x2), (3, .int x3), (4, .int x4), (5, .int x5)]) (by decide) rfl (Nat.le_of_ble_eq_true rfl) rfl ⟨rfl, rfl⟩ ?_
  intro p e s m below meth c ls hsz hM hlocks hret hK hA hX hl
  unfold vc_X5_begin at hq
  refine lv_aload_n hM.1 hM.2.1 dX5_begin_0 rfl (lv_at hl 0 rfl) ?_
  refine lv_iload_n hM.1 hM.2.1 dX5_begin_1 rfl (lv_at hl 1 rfl) ?_
  refine p5_5 hM hK hX (id_T hv).1 qf_RX5_29 dX5_begin_2 (fun S_1 e_2 H locs hX => ?_)
  replace hq := hq S_1 e_2
  refine lv_aload_n hM.1 hM.2.1 dX5_begin_5 rfl (lv_at hl 0 rfl) ?_
  refine lv_iload_n hM.1 hM.2.1 dX5_begin_6 rfl (lv_at hl 2 rfl) ?_
  refine p5_3 hM hK hX (id_T hv).1 qf_RX5_18 dX5_begin_7 (fun S_3 e_4 H locs hX => ?_)
  replace hq := hq S_3 e_4
  refine lv_aload_n hM.1 hM.2.1 dX5_begin_10 rfl (lv_at hl 0 rfl) ?_
  refine lv_iload_n hM.1 hM.2.1 dX5_begin_11 rfl (lv_at hl 3 rfl) ?_
  refine p5_4 hM hK hX (id_T hv).1 qf_RX5_32 dX5_begin_12 (fun S_5 e_6 H locs hX => ?_)
  replace hq := hq S_5 e_6
  refine lv_aload_n hM.1 hM.2.1 dX5_begin_15 rfl (lv_at hl 0 rfl) ?_
  refine lv_iload hM.1 hM.2.1 dX5_begin_16 (lv_at hl 4 rfl) ?_
  refine p5_6 hM hK hX (id_T hv).1 qf_RX5_22 dX5_begin_18 (fun S_7 e_8 H locs hX => ?_)
  replace hq := hq S_7 e_8
  refine lv_aload_n hM.1 hM.2.1 dX5_begin_21 rfl (lv_at hl 0 rfl) ?_
  refine lv_iconst (v := (0 : Int32)) hM.1 hM.2.1 dX5_begin_22 (by decide) ?_
  refine p5_9 hM hK hX (id_T hv).1 qf_RX5_35 dX5_begin_23 (fun S_9 e_10 H locs hX => ?_)
  replace hq := hq S_9 e_10
  refine lv_aload_n hM.1 hM.2.1 dX5_begin_26 rfl (lv_at hl 0 rfl) ?_
  refine lv_iload hM.1 hM.2.1 dX5_begin_27 (lv_at hl 5 rfl) ?_
  refine cVv (As := [.int x5]) hM hK hX hA (met_X5_startAfresh l D ad cy S_9 P i x5 hv hq) (kX5_startAfresh hM.2.2.2.2 ql_RX5_38 (Nat.le_of_ble_eq_true rfl) (Nat.le_of_ble_eq_true rfl)) (v5 hK hX (id_T hv).1) rfl hl.1 rfl (Nat.le_of_ble_eq_true rfl) dX5_begin_29 ⟨Nat.zero_le _, Nat.zero_le _⟩ (fun S_11 hq H locs hX => ?_)
  exact e_v hM hX hlocks hret hq dX5_begin_32
def rmX3_add : Room := { frames := 2, cells := 0, slots := 0, locals := 46 }
theorem kX3_add {R : Room} {s : State} {args : Array Value} {own : String} {index : Nat} (ht : ∀ w ∈ lw_all, w.before args s = true) (hl : Cond.methodLink own index yX3_add ∈ lw_all) (hf : rmX3_add.frames + 1 ≤ R.frames) (hlo : 8 + (6 + 11) + rmX3_add.locals ≤ R.locals) : CallW R s args own RX3 index yX3_add cX3_add 6 (some Jvm.ClassFile.FieldType.int) (wA yX3_add cX3_add 6 (some Jvm.ClassFile.FieldType.int)) rmX3_add 0 0 4 := cwV 4 ht (good_V hl qm_yX3_add qs_yX3_add qi_RX3 qc_yX3_add) rfl rfl rfl (by decide +kernel) ⟨hf, hlo⟩
set_option maxRecDepth 100000 in
set_option maxHeartbeats 4000000 in
theorem met_X3_add (l : Launch) (D : va_G) (ad : Adr) (cy : Nat → ClassId) (S : Mem) (P : Nat) (x1 : Int32) (x2 : Int32) (x3 : Int32) (x4 : Int32) {Q : Mem → Int32 → Prop} (hv : P < 11) (hq : vc_X3_add S P x1 x2 x3 x4 Q) : Ci l yX3_add (wA yX3_add cX3_add 6 (some Jvm.ClassFile.FieldType.int)) rmX3_add D ad cy [.ref (ad 3 P 0), .int x1, .int x2, .int x3, .int x4] S Q := by
  intro o sz
  refine mkC (own := RX3) (lv := [(0, .ref (ad 3 P 0)), (1, .int x1), (2, .int x2), (3, .int x3), (4, .int x4)]) (by decide) rfl (Nat.le_of_ble_eq_true rfl) rfl ⟨rfl, rfl⟩ ?_
  intro p e s m below meth c ls hsz hM hlocks hret hK hA hX hl
  unfold vc_X3_add at hq
  refine lv_aload_n hM.1 hM.2.1 dX3_add_0 rfl (lv_at hl 0 rfl) ?_
  refine g3 hM hK hX (id_P hv).2.1 6 (by decide) qf_RX3_50 rfl dX3_add_1 ?_
  refine lv_istore (lv' := [(5, .int (S 3 P 0 6)), (0, .ref (ad 3 P 0)), (1, .int x1), (2, .int x2), (3, .int x3), (4, .int x4)]) hM.1 hM.2.1 dX3_add_4 hl (by decide) rfl (fun ls hl => ?_)
  refine lv_aload_n hM.1 hM.2.1 dX3_add_6 rfl (lv_at hl 1 rfl) ?_
  refine lv_iload hM.1 hM.2.1 dX3_add_7 (lv_at hl 0 rfl) ?_
  refine cVr (As := [.int (S 3 P 0 6)]) hM hK hX hA (met_X3_at l D ad cy S P (S 3 P 0 6) hv hq) (kX3_at hM.2.2.2.2 ql_RX3_53 (Nat.le_of_ble_eq_true rfl) (Nat.le_of_ble_eq_true rfl)) (v3 hK hX (id_P hv).2.1) rfl hl.1 rfl (Nat.le_of_ble_eq_true rfl) dX3_add_9 ⟨Nat.zero_le _, Nat.zero_le _⟩ (fun S_1 P_2 i_3 hq H locs hX => ?_)
  refine lv_iload_n hM.1 hM.2.1 dX3_add_12 rfl (lv_at hl 2 rfl) ?_
  refine lv_iload_n hM.1 hM.2.1 dX3_add_13 rfl (lv_at hl 3 rfl) ?_
  refine lv_iload_n hM.1 hM.2.1 dX3_add_14 rfl (lv_at hl 4 rfl) ?_
  refine lv_iload hM.1 hM.2.1 dX3_add_15 (lv_at hl 5 rfl) ?_
  refine lv_aload_n hM.1 hM.2.1 dX3_add_17 rfl (lv_at hl 1 rfl) ?_
  refine g3 hM hK hX (id_P hv).2.1 8 (by decide) qf_RX3_41 rfl dX3_add_18 ?_
  have hT_4 := hq.1
  replace hq := hq.2
  refine cVv (As := [.int x1, .int x2, .int x3, .int x4, .int (S_1 3 P 0 8)]) hM hK hX hA (met_X5_begin l D ad cy S_1 P_2 i_3 x1 x2 x3 x4 (S_1 3 P 0 8) hT_4 hq) (kX5_begin hM.2.2.2.2 ql_RX3_74 (Nat.le_of_ble_eq_true rfl) (Nat.le_of_ble_eq_true rfl)) (v5 hK hX (id_T hT_4).1) rfl hl.1 rfl (Nat.le_of_ble_eq_true rfl) dX3_add_21 ⟨Nat.zero_le _, Nat.zero_le _⟩ (fun S_5 hq H locs hX => ?_)
  refine lv_aload_n hM.1 hM.2.1 dX3_add_24 rfl (lv_at hl 1 rfl) ?_
  refine lv_dup hM.1 hM.2.1 dX3_add_25 rfl ?_
  refine g3 hM hK hX (id_P hv).2.1 6 (by decide) qf_RX3_50 rfl dX3_add_26 ?_
  refine lv_iconst (v := (1 : Int32)) hM.1 hM.2.1 dX3_add_29 (by decide) ?_
  refine lv_iadd hM.1 hM.2.1 dX3_add_30 ?_
  refine p3_6 hM hK hX (id_P hv).2.1 qf_RX3_50 dX3_add_31 (fun S_6 e_7 H locs hX => ?_)
  replace hq := hq S_6 e_7
  refine lv_iload hM.1 hM.2.1 dX3_add_34 (lv_at hl 0 rfl) ?_
  exact e_i hM hX hlocks hret hq dX3_add_36
def rmX3_changePeriod : Room := { frames := 0, cells := 0, slots := 0, locals := 0 }
theorem kX3_changePeriod {R : Room} {s : State} {args : Array Value} {own : String} {index : Nat} (ht : ∀ w ∈ lw_all, w.before args s = true) (hl : Cond.methodLink own index yX3_changePeriod ∈ lw_all) (hf : rmX3_changePeriod.frames + 1 ≤ R.frames) (hlo : 8 + (3 + 11) + rmX3_changePeriod.locals ≤ R.locals) : CallW R s args own RX3 index yX3_changePeriod cX3_changePeriod 3 none (wA yX3_changePeriod cX3_changePeriod 3 none) rmX3_changePeriod 0 0 2 := cwV 2 ht (good_V hl qm_yX3_changePeriod qs_yX3_changePeriod qi_RX3 qc_yX3_changePeriod) rfl rfl rfl (by decide +kernel) ⟨hf, hlo⟩
set_option maxRecDepth 100000 in
set_option maxHeartbeats 4000000 in
theorem met_X3_changePeriod (l : Launch) (D : va_G) (ad : Adr) (cy : Nat → ClassId) (S : Mem) (P : Nat) (x1 : Int32) (x2 : Int32) {Q : Mem → Prop} (hv : P < 11) (hq : vc_X3_changePeriod S P x1 x2 Q) : Cv l yX3_changePeriod (wA yX3_changePeriod cX3_changePeriod 3 none) rmX3_changePeriod D ad cy [.ref (ad 3 P 0), .int x1, .int x2] S Q := by
  intro o sz
  refine mkC (own := RX3) (lv := [(0, .ref (ad 3 P 0)), (1, .int x1), (2, .int x2)]) (by decide) rfl (Nat.le_of_ble_eq_true rfl) rfl ⟨rfl, rfl⟩ ?_
  intro p e s m below meth c ls hsz hM hlocks hret hK hA hX hl
  unfold vc_X3_changePeriod at hq
  refine lv_iload_n hM.1 hM.2.1 dX3_changePeriod_0 rfl (lv_at hl 1 rfl) ?_
  refine lv_if_lt (tgt := 20) hM.1 hM.2.1 dX3_changePeriod_1 (by decide) (fun c_1 => ?_) (fun c_1 => ?_)
  · replace hq := hq.1 c_1
    exact e_v hM hX hlocks hret hq dX3_changePeriod_20
  replace hq := hq.2 c_1
  refine lv_iload_n hM.1 hM.2.1 dX3_changePeriod_4 rfl (lv_at hl 1 rfl) ?_
  refine lv_aload_n hM.1 hM.2.1 dX3_changePeriod_5 rfl (lv_at hl 0 rfl) ?_
  refine g3 hM hK hX (id_P hv).2.1 2 (by decide) qf_RX3_22 rfl dX3_changePeriod_6 ?_
  refine r_alen (v := (4 : Int32)) (t0 := 0) hM hK hX (id_P hv).2.2.2.2.1 rfl rfl rfl dX3_changePeriod_9 ?_
  refine lv_icmp_ge (tgt := 20) hM.1 hM.2.1 dX3_changePeriod_10 (by decide) (fun c_2 => ?_) (fun c_2 => ?_)
  · replace hq := hq.1 c_2
    exact e_v hM hX hlocks hret hq dX3_changePeriod_20
  replace hq := hq.2 c_2
  refine lv_aload_n hM.1 hM.2.1 dX3_changePeriod_13 rfl (lv_at hl 0 rfl) ?_
  refine g3 hM hK hX (id_P hv).2.1 2 (by decide) qf_RX3_22 rfl dX3_changePeriod_14 ?_
  refine lv_iload_n hM.1 hM.2.1 dX3_changePeriod_17 rfl (lv_at hl 1 rfl) ?_
  refine lv_iload_n hM.1 hM.2.1 dX3_changePeriod_18 rfl (lv_at hl 2 rfl) ?_
  have c_4 := hq.1
  replace hq := hq.2
  refine r_iast hM hK hX (id_P hv).2.2.2.2.1 (a12 P 0) c_4 dX3_changePeriod_19 (fun S_3 e_5 H locs hX => ?_)
  replace hq := hq S_3 e_5
  exact e_v hM hX hlocks hret hq dX3_changePeriod_20
def rmX6_entry : Room := { frames := 0, cells := 0, slots := 0, locals := 0 }
theorem kX6_entry {R : Room} {s : State} {args : Array Value} {own : String} {index : Nat} (ht : ∀ w ∈ lw_all, w.before args s = true) (hl : Cond.methodLink own index yX6_entry ∈ lw_all) (hf : rmX6_entry.frames + 1 ≤ R.frames) (hlo : 8 + (2 + 11) + rmX6_entry.locals ≤ R.locals) : CallB R s args own index yX6_entry cX6_entry 2 (some Jvm.ClassFile.FieldType.int) (wA yX6_entry cX6_entry 2 (some Jvm.ClassFile.FieldType.int)) rmX6_entry 0 0 2 ∧ (Cond.static yX6_entry).before args s = true := va_cwS 2 ht (good_S hl qt_yX6_entry qi_RX6 qc_yX6_entry) rfl rfl rfl (by decide +kernel) ⟨hf, hlo⟩
theorem kNX6_entry {R : Room} {s : State} {args : Array Value} {own : String} {index : Nat} (ht : ∀ w ∈ lw_all, w.before args s = true) (hl : va_Nw (nestW (own, index, yX6_entry, RX6)) s) (hf : rmX6_entry.frames + 1 ≤ R.frames) (hlo : 8 + (2 + 11) + rmX6_entry.locals ≤ R.locals) : va_CN R s args own index yX6_entry RX6 cX6_entry 2 (some Jvm.ClassFile.FieldType.int) (wA yX6_entry cX6_entry 2 (some Jvm.ClassFile.FieldType.int)) rmX6_entry 0 0 2 ∧ (Cond.static yX6_entry).before args s = true ∧ True := ⟨va_cnB 2 ht (good_wA qc_yX6_entry) rfl rfl rfl hl (ht _ qi_RX6) (by decide +kernel) ⟨hf, hlo⟩, ht _ qt_yX6_entry, trivial⟩
set_option maxRecDepth 100000 in
set_option maxHeartbeats 4000000 in
theorem met_X6_entry (l : Launch) (D : va_G) (ad : Adr) (cy : Nat → ClassId) (S : Mem) (t0 : Nat) (P0 : Nat) (i0 : Nat) (n0 : Nat) (x1 : Int32) {Q : Mem → Int32 → Prop} (ha0 : iarr t0 P0 i0 n0) (hq : vc_X6_entry S t0 P0 i0 n0 x1 Q) : Ci l yX6_entry (wA yX6_entry cX6_entry 2 (some Jvm.ClassFile.FieldType.int)) rmX6_entry D ad cy [.ref (ad t0 P0 i0), .int x1] S Q := by
  intro o sz
  refine mkC (own := RX6) (lv := [(0, .ref (ad t0 P0 i0)), (1, .int x1)]) (by decide) rfl (Nat.le_of_ble_eq_true rfl) rfl ⟨rfl, rfl⟩ ?_
  intro p e s m below meth c ls hsz hM hlocks hret hK hA hX hl
  unfold vc_X6_entry at hq
  refine lv_iload_n hM.1 hM.2.1 dX6_entry_0 rfl (lv_at hl 1 rfl) ?_
  refine lv_if_lt (tgt := 16) hM.1 hM.2.1 dX6_entry_1 (by decide) (fun c_1 => ?_) (fun c_1 => ?_)
  · replace hq := hq.1 c_1
    refine lv_ldcw hM.1 hM.2.1 hM.2.2.2.1 (hM.2.2.2.2 _ qn_RX6_283) dX6_entry_16 ?_
    exact e_i hM hX hlocks hret hq dX6_entry_19
  replace hq := hq.2 c_1
  refine lv_iload_n hM.1 hM.2.1 dX6_entry_4 rfl (lv_at hl 1 rfl) ?_
  refine lv_aload_n hM.1 hM.2.1 dX6_entry_5 rfl (lv_at hl 0 rfl) ?_
  refine r_alen (v := nI n0) (t0 := 0) hM hK hX ha0.1 ((ha0.2 ad cy) _) rfl rfl dX6_entry_6 ?_
  refine lv_icmp_ge (tgt := 16) hM.1 hM.2.1 dX6_entry_7 (by decide) (fun c_2 => ?_) (fun c_2 => ?_)
  · replace hq := hq.1 c_2
    refine lv_ldcw hM.1 hM.2.1 hM.2.2.2.1 (hM.2.2.2.2 _ qn_RX6_283) dX6_entry_16 ?_
    exact e_i hM hX hlocks hret hq dX6_entry_19
  replace hq := hq.2 c_2
  refine lv_aload_n hM.1 hM.2.1 dX6_entry_10 rfl (lv_at hl 0 rfl) ?_
  refine lv_iload_n hM.1 hM.2.1 dX6_entry_11 rfl (lv_at hl 1 rfl) ?_
  have c_3 := hq.1
  replace hq := hq.2
  refine r_iald hM hK hX ha0.1 (ha0.2 ad cy) c_3 dX6_entry_12 ?_
  refine lv_goto (tgt := 19) hM.1 hM.2.1 dX6_entry_13 (by decide) ?_
  exact e_i hM hX hlocks hret hq dX6_entry_19
def rmX3_periodOf : Room := { frames := 1, cells := 0, slots := 0, locals := 21 }
theorem kX3_periodOf {R : Room} {s : State} {args : Array Value} {own : String} {index : Nat} (ht : ∀ w ∈ lw_all, w.before args s = true) (hl : Cond.methodLink own index yX3_periodOf ∈ lw_all) (hf : rmX3_periodOf.frames + 1 ≤ R.frames) (hlo : 8 + (2 + 11) + rmX3_periodOf.locals ≤ R.locals) : CallW R s args own RX3 index yX3_periodOf cX3_periodOf 2 (some Jvm.ClassFile.FieldType.int) (wA yX3_periodOf cX3_periodOf 2 (some Jvm.ClassFile.FieldType.int)) rmX3_periodOf 0 0 1 := cwV 1 ht (good_V hl qm_yX3_periodOf qs_yX3_periodOf qi_RX3 qc_yX3_periodOf) rfl rfl rfl (by decide +kernel) ⟨hf, hlo⟩
set_option maxRecDepth 100000 in
set_option maxHeartbeats 4000000 in
theorem met_X3_periodOf (l : Launch) (D : va_G) (ad : Adr) (cy : Nat → ClassId) (S : Mem) (P : Nat) (x1 : Int32) {Q : Mem → Int32 → Prop} (hv : P < 11) (hq : vc_X3_periodOf S P x1 Q) : Ci l yX3_periodOf (wA yX3_periodOf cX3_periodOf 2 (some Jvm.ClassFile.FieldType.int)) rmX3_periodOf D ad cy [.ref (ad 3 P 0), .int x1] S Q := by
  intro o sz
  refine mkC (own := RX3) (lv := [(0, .ref (ad 3 P 0)), (1, .int x1)]) (by decide) rfl (Nat.le_of_ble_eq_true rfl) rfl ⟨rfl, rfl⟩ ?_
  intro p e s m below meth c ls hsz hM hlocks hret hK hA hX hl
  unfold vc_X3_periodOf at hq
  refine lv_aload_n hM.1 hM.2.1 dX3_periodOf_0 rfl (lv_at hl 0 rfl) ?_
  refine g3 hM hK hX (id_P hv).2.1 2 (by decide) qf_RX3_22 rfl dX3_periodOf_1 ?_
  refine lv_iload_n hM.1 hM.2.1 dX3_periodOf_4 rfl (lv_at hl 1 rfl) ?_
  refine cSNi (As := [.ref (ad 12 P 0), .int x1]) hM hK hX hA (met_X6_entry l D ad cy S 12 P 0 4 x1 ⟨(id_P hv).2.2.2.2.1, fun _ _ => (a12 P 0)⟩ hq) (kNX6_entry hM.2.2.2.2 (hK.2 _ ql_RX3_78) (Nat.le_of_ble_eq_true rfl) (Nat.le_of_ble_eq_true rfl)) rfl hl.1 rfl (Nat.le_of_ble_eq_true rfl) dX3_periodOf_5 ⟨Nat.zero_le _, Nat.zero_le _⟩ (fun S_1 r_2 hq H locs hX => ?_)
  exact e_i hM hX hlocks hret hq dX3_periodOf_8
def rmX3_timesReadOf : Room := { frames := 1, cells := 0, slots := 0, locals := 21 }
theorem kX3_timesReadOf {R : Room} {s : State} {args : Array Value} {own : String} {index : Nat} (ht : ∀ w ∈ lw_all, w.before args s = true) (hl : Cond.methodLink own index yX3_timesReadOf ∈ lw_all) (hf : rmX3_timesReadOf.frames + 1 ≤ R.frames) (hlo : 8 + (2 + 11) + rmX3_timesReadOf.locals ≤ R.locals) : CallW R s args own RX3 index yX3_timesReadOf cX3_timesReadOf 2 (some Jvm.ClassFile.FieldType.int) (wA yX3_timesReadOf cX3_timesReadOf 2 (some Jvm.ClassFile.FieldType.int)) rmX3_timesReadOf 0 0 1 := cwV 1 ht (good_V hl qm_yX3_timesReadOf qs_yX3_timesReadOf qi_RX3 qc_yX3_timesReadOf) rfl rfl rfl (by decide +kernel) ⟨hf, hlo⟩
set_option maxRecDepth 100000 in
set_option maxHeartbeats 4000000 in
theorem met_X3_timesReadOf (l : Launch) (D : va_G) (ad : Adr) (cy : Nat → ClassId) (S : Mem) (P : Nat) (x1 : Int32) {Q : Mem → Int32 → Prop} (hv : P < 11) (hq : vc_X3_timesReadOf S P x1 Q) : Ci l yX3_timesReadOf (wA yX3_timesReadOf cX3_timesReadOf 2 (some Jvm.ClassFile.FieldType.int)) rmX3_timesReadOf D ad cy [.ref (ad 3 P 0), .int x1] S Q := by
  intro o sz
  refine mkC (own := RX3) (lv := [(0, .ref (ad 3 P 0)), (1, .int x1)]) (by decide) rfl (Nat.le_of_ble_eq_true rfl) rfl ⟨rfl, rfl⟩ ?_
  intro p e s m below meth c ls hsz hM hlocks hret hK hA hX hl
  unfold vc_X3_timesReadOf at hq
  refine lv_aload_n hM.1 hM.2.1 dX3_timesReadOf_0 rfl (lv_at hl 0 rfl) ?_
  refine g3 hM hK hX (id_P hv).2.1 3 (by decide) qf_RX3_26 rfl dX3_timesReadOf_1 ?_
  refine lv_iload_n hM.1 hM.2.1 dX3_timesReadOf_4 rfl (lv_at hl 1 rfl) ?_
  refine cSNi (As := [.ref (ad 13 P 0), .int x1]) hM hK hX hA (met_X6_entry l D ad cy S 13 P 0 4 x1 ⟨(id_P hv).2.2.2.2.2, fun _ _ => (a13 P 0)⟩ hq) (kNX6_entry hM.2.2.2.2 (hK.2 _ ql_RX3_78) (Nat.le_of_ble_eq_true rfl) (Nat.le_of_ble_eq_true rfl)) rfl hl.1 rfl (Nat.le_of_ble_eq_true rfl) dX3_timesReadOf_5 ⟨Nat.zero_le _, Nat.zero_le _⟩ (fun S_1 r_2 hq H locs hX => ?_)
  exact e_i hM hX hlocks hret hq dX3_timesReadOf_8
def rmX6_remainder : Room := { frames := 0, cells := 0, slots := 0, locals := 0 }
theorem kX6_remainder {R : Room} {s : State} {args : Array Value} {own : String} {index : Nat} (ht : ∀ w ∈ lw_all, w.before args s = true) (hl : Cond.methodLink own index yX6_remainder ∈ lw_all) (hf : rmX6_remainder.frames + 1 ≤ R.frames) (hlo : 8 + (2 + 11) + rmX6_remainder.locals ≤ R.locals) : CallB R s args own index yX6_remainder cX6_remainder 2 (some Jvm.ClassFile.FieldType.int) (wA yX6_remainder cX6_remainder 2 (some Jvm.ClassFile.FieldType.int)) rmX6_remainder 0 0 2 ∧ (Cond.static yX6_remainder).before args s = true := va_cwS 2 ht (good_S hl qt_yX6_remainder qi_RX6 qc_yX6_remainder) rfl rfl rfl (by decide +kernel) ⟨hf, hlo⟩
theorem kNX6_remainder {R : Room} {s : State} {args : Array Value} {own : String} {index : Nat} (ht : ∀ w ∈ lw_all, w.before args s = true) (hl : va_Nw (nestW (own, index, yX6_remainder, RX6)) s) (hf : rmX6_remainder.frames + 1 ≤ R.frames) (hlo : 8 + (2 + 11) + rmX6_remainder.locals ≤ R.locals) : va_CN R s args own index yX6_remainder RX6 cX6_remainder 2 (some Jvm.ClassFile.FieldType.int) (wA yX6_remainder cX6_remainder 2 (some Jvm.ClassFile.FieldType.int)) rmX6_remainder 0 0 2 ∧ (Cond.static yX6_remainder).before args s = true ∧ True := ⟨va_cnB 2 ht (good_wA qc_yX6_remainder) rfl rfl rfl hl (ht _ qi_RX6) (by decide +kernel) ⟨hf, hlo⟩, ht _ qt_yX6_remainder, trivial⟩
set_option maxRecDepth 100000 in
set_option maxHeartbeats 4000000 in
theorem met_X6_remainder (l : Launch) (D : va_G) (ad : Adr) (cy : Nat → ClassId) (S : Mem) (x0 : Int32) (x1 : Int32) {Q : Mem → Int32 → Prop} (hq : vc_X6_remainder S x0 x1 Q) : Ci l yX6_remainder (wA yX6_remainder cX6_remainder 2 (some Jvm.ClassFile.FieldType.int)) rmX6_remainder D ad cy [.int x0, .int x1] S Q := by
  intro o sz
  refine mkC (own := RX6) (lv := [(0, .int x0), (1, .int x1)]) (by decide) rfl (Nat.le_of_ble_eq_true rfl) rfl ⟨rfl, rfl⟩ ?_
  intro p e s m below meth c ls hsz hM hlocks hret hK hA hX hl
  unfold vc_X6_remainder at hq
  refine lv_iload_n hM.1 hM.2.1 dX6_remainder_0 rfl (lv_at hl 1 rfl) ?_
  refine lv_if_ne (tgt := 8) hM.1 hM.2.1 dX6_remainder_1 (by decide) (fun c_1 => ?_) (fun c_1 => ?_)
  · replace hq := hq.1 c_1
    refine lv_iload_n hM.1 hM.2.1 dX6_remainder_8 rfl (lv_at hl 0 rfl) ?_
    refine lv_iload_n hM.1 hM.2.1 dX6_remainder_9 rfl (lv_at hl 1 rfl) ?_
    have c_2 := hq.1
    replace hq := hq.2
    refine lv_irem hM.1 hM.2.1 dX6_remainder_10 c_2 ?_
    exact e_i hM hX hlocks hret hq dX6_remainder_11
  replace hq := hq.2 c_1
  refine lv_iconst (v := (0 : Int32)) hM.1 hM.2.1 dX6_remainder_4 (by decide) ?_
  refine lv_goto (tgt := 11) hM.1 hM.2.1 dX6_remainder_5 (by decide) ?_
  exact e_i hM hX hlocks hret hq dX6_remainder_11
def rmX3_hoursUntilRead : Room := { frames := 2, cells := 0, slots := 0, locals := 42 }
theorem kX3_hoursUntilRead {R : Room} {s : State} {args : Array Value} {own : String} {index : Nat} (ht : ∀ w ∈ lw_all, w.before args s = true) (hl : Cond.methodLink own index yX3_hoursUntilRead ∈ lw_all) (hf : rmX3_hoursUntilRead.frames + 1 ≤ R.frames) (hlo : 8 + (2 + 11) + rmX3_hoursUntilRead.locals ≤ R.locals) : CallW R s args own RX3 index yX3_hoursUntilRead cX3_hoursUntilRead 2 (some Jvm.ClassFile.FieldType.int) (wA yX3_hoursUntilRead cX3_hoursUntilRead 2 (some Jvm.ClassFile.FieldType.int)) rmX3_hoursUntilRead 0 0 1 := cwV 1 ht (good_V hl qm_yX3_hoursUntilRead qs_yX3_hoursUntilRead qi_RX3 qc_yX3_hoursUntilRead) rfl rfl rfl (by decide +kernel) ⟨hf, hlo⟩
set_option maxRecDepth 100000 in
set_option maxHeartbeats 4000000 in
theorem met_X3_hoursUntilRead (l : Launch) (D : va_G) (ad : Adr) (cy : Nat → ClassId) (S : Mem) (P : Nat) (x1 : Int32) {Q : Mem → Int32 → Prop} (hv : P < 11) (hq : vc_X3_hoursUntilRead S P x1 Q) : Ci l yX3_hoursUntilRead (wA yX3_hoursUntilRead cX3_hoursUntilRead 2 (some Jvm.ClassFile.FieldType.int)) rmX3_hoursUntilRead D ad cy [.ref (ad 3 P 0), .int x1] S Q := by
  intro o sz
  refine mkC (own := RX3) (lv := [(0, .ref (ad 3 P 0)), (1, .int x1)]) (by decide) rfl (Nat.le_of_ble_eq_true rfl) rfl ⟨rfl, rfl⟩ ?_
  intro p e s m below meth c ls hsz hM hlocks hret hK hA hX hl
  unfold vc_X3_hoursUntilRead at hq
  refine lv_aload_n hM.1 hM.2.1 dX3_hoursUntilRead_0 rfl (lv_at hl 0 rfl) ?_
  refine lv_iload_n hM.1 hM.2.1 dX3_hoursUntilRead_1 rfl (lv_at hl 1 rfl) ?_
  refine cVi (As := [.int x1]) hM hK hX hA (met_X3_periodOf l D ad cy S P x1 hv hq) (kX3_periodOf hM.2.2.2.2 ql_RX3_82 (Nat.le_of_ble_eq_true rfl) (Nat.le_of_ble_eq_true rfl)) (v3 hK hX (id_P hv).2.1) rfl hl.1 rfl (Nat.le_of_ble_eq_true rfl) dX3_hoursUntilRead_2 ⟨Nat.zero_le _, Nat.zero_le _⟩ (fun S_1 r_2 hq H locs hX => ?_)
  refine lv_aload_n hM.1 hM.2.1 dX3_hoursUntilRead_5 rfl (lv_at hl 0 rfl) ?_
  refine g3 hM hK hX (id_P hv).2.1 7 (by decide) qf_RX3_65 rfl dX3_hoursUntilRead_6 ?_
  refine lv_aload_n hM.1 hM.2.1 dX3_hoursUntilRead_9 rfl (lv_at hl 0 rfl) ?_
  refine lv_iload_n hM.1 hM.2.1 dX3_hoursUntilRead_10 rfl (lv_at hl 1 rfl) ?_
  refine cVi (As := [.int x1]) hM hK hX hA (met_X3_periodOf l D ad cy S_1 P x1 hv hq) (kX3_periodOf hM.2.2.2.2 ql_RX3_82 (Nat.le_of_ble_eq_true rfl) (Nat.le_of_ble_eq_true rfl)) (v3 hK hX (id_P hv).2.1) rfl hl.1 rfl (Nat.le_of_ble_eq_true rfl) dX3_hoursUntilRead_11 ⟨Nat.zero_le _, Nat.zero_le _⟩ (fun S_3 r_4 hq H locs hX => ?_)
  refine cSNi (As := [.int (S_1 3 P 0 7), .int r_4]) hM hK hX hA (met_X6_remainder l D ad cy S_3 (S_1 3 P 0 7) r_4 hq) (kNX6_remainder hM.2.2.2.2 (hK.2 _ ql_RX3_86) (Nat.le_of_ble_eq_true rfl) (Nat.le_of_ble_eq_true rfl)) rfl hl.1 rfl (Nat.le_of_ble_eq_true rfl) dX3_hoursUntilRead_14 ⟨Nat.zero_le _, Nat.zero_le _⟩ (fun S_5 r_6 hq H locs hX => ?_)
  refine lv_isub hM.1 hM.2.1 dX3_hoursUntilRead_17 ?_
  exact e_i hM hX hlocks hret hq dX3_hoursUntilRead_18
def rmX3_countInRow : Room := { frames := 1, cells := 0, slots := 0, locals := 22 }
theorem kX3_countInRow {R : Room} {s : State} {args : Array Value} {own : String} {index : Nat} (ht : ∀ w ∈ lw_all, w.before args s = true) (hl : Cond.methodLink own index yX3_countInRow ∈ lw_all) (hf : rmX3_countInRow.frames + 1 ≤ R.frames) (hlo : 8 + (4 + 11) + rmX3_countInRow.locals ≤ R.locals) : CallW R s args own RX3 index yX3_countInRow cX3_countInRow 4 (some Jvm.ClassFile.FieldType.int) (wA yX3_countInRow cX3_countInRow 4 (some Jvm.ClassFile.FieldType.int)) rmX3_countInRow 0 0 1 := cwV 1 ht (good_V hl qm_yX3_countInRow qs_yX3_countInRow qi_RX3 qc_yX3_countInRow) rfl rfl rfl (by decide +kernel) ⟨hf, hlo⟩
set_option maxRecDepth 100000 in
set_option maxHeartbeats 4000000 in
theorem met_X3_countInRow (l : Launch) (D : va_G) (ad : Adr) (cy : Nat → ClassId) (S : Mem) (P : Nat) (x1 : Int32) {Q : Mem → Int32 → Prop} (hv : P < 11) (hq : vc_X3_countInRow S P x1 Q) : Ci l yX3_countInRow (wA yX3_countInRow cX3_countInRow 4 (some Jvm.ClassFile.FieldType.int)) rmX3_countInRow D ad cy [.ref (ad 3 P 0), .int x1] S Q := by
  intro o sz
  refine mkC (own := RX3) (lv := [(0, .ref (ad 3 P 0)), (1, .int x1)]) (by decide) rfl (Nat.le_of_ble_eq_true rfl) rfl ⟨rfl, rfl⟩ ?_
  intro p e s m below meth c ls hsz hM hlocks hret hK hA hX hl
  have J27 : ∀ {K0 : Mem → Int32 → Int32 → Prop} (hk0 : ∀ (S : Mem) (y2 : Int32) (y3 : Int32), K0 S y2 y3 → ∀ (H : Heap) (locs : List Loc) (ls : Array Slot), PW D ad cy (AW ad sz) s.heap o S H locs → lv_has ls 4 [(0, .ref (ad 3 P 0)), (1, .int x1), (2, .int y2), (3, .int y3)] → Wi D ad cy o sz Q p l e rmX3_countInRow s m [.ref (ad 3 P 0), .int x1] below meth c H locs (F0 m 4 ls [])), ∀ {K1 : Mem → Int32 → Prop} (hk1 : ∀ (S : Mem) (y2 : Int32), K1 S y2 → ∀ (H : Heap) (locs : List Loc) (ls : Array Slot), PW D ad cy (AW ad sz) s.heap o S H locs → lv_has ls 4 [(2, .int y2)] → Wi D ad cy o sz Q p l e rmX3_countInRow s m [.ref (ad 3 P 0), .int x1] below meth c H locs (F0 m 33 ls [])), ∀ (S : Mem) (y2 : Int32) (y3 : Int32), vc_X3_countInRow_J27 Q K0 K1 P x1 S y2 y3 → ∀ (H : Heap) (locs : List Loc) (ls : Array Slot), PW D ad cy (AW ad sz) s.heap o S H locs → lv_has ls 4 [(0, .ref (ad 3 P 0)), (1, .int x1), (2, .int y2), (3, .int y3)] → Wi D ad cy o sz Q p l e rmX3_countInRow s m [.ref (ad 3 P 0), .int x1] below meth c H locs (F0 m 27 ls []) := by
    intro K0 hk0 K1 hk1 S y2 y3 hq H locs ls hX hl
    unfold vc_X3_countInRow_J27 at hq
    refine lv_iinc (v := (y3 + (1 : Int32))) (lv' := [(3, .int (y3 + (1 : Int32))), (0, .ref (ad 3 P 0)), (1, .int x1), (2, .int y2)]) hM.1 hM.2.1 dX3_countInRow_27 hl (k := 3) rfl rfl (by decide) rfl (fun ls hl => ?_)
    refine lv_goto (tgt := 4) hM.1 hM.2.1 dX3_countInRow_30 (by decide) ?_
    exact hk0 S y2 (y3 + (1 : Int32)) hq _ _ _ hX (lv_sub hl [1, 2, 3, 0] rfl)
  have L4 : ∀ {K : Mem → Int32 → Prop} (hk : ∀ (S : Mem) (y2 : Int32), K S y2 → ∀ (H : Heap) (locs : List Loc) (ls : Array Slot), PW D ad cy (AW ad sz) s.heap o S H locs → lv_has ls 4 [(2, .int y2)] → Wi D ad cy o sz Q p l e rmX3_countInRow s m [.ref (ad 3 P 0), .int x1] below meth c H locs (F0 m 33 ls [])), ∀ (n : Nat) (S : Mem) (y2 : Int32) (y3 : Int32), vc_X3_countInRow_L4 Q K P x1 n S y2 y3 → ∀ (H : Heap) (locs : List Loc) (ls : Array Slot), PW D ad cy (AW ad sz) s.heap o S H locs → lv_has ls 4 [(0, .ref (ad 3 P 0)), (1, .int x1), (2, .int y2), (3, .int y3)] → Wi D ad cy o sz Q p l e rmX3_countInRow s m [.ref (ad 3 P 0), .int x1] below meth c H locs (F0 m 4 ls []) := by
    intro K hk n
    induction n with
    | zero =>
      intro S y2 y3 hq
      rw [vc_X3_countInRow_L4] at hq
      exact hq.elim
    | succ n ih =>
      intro S y2 y3 hq H locs ls hX hl
      rw [vc_X3_countInRow_L4] at hq
      refine lv_iload_n hM.1 hM.2.1 dX3_countInRow_4 rfl (lv_at hl 3 rfl) ?_
      refine lv_aload_n hM.1 hM.2.1 dX3_countInRow_5 rfl (lv_at hl 0 rfl) ?_
      refine g3 hM hK hX (id_P hv).2.1 6 (by decide) qf_RX3_50 rfl dX3_countInRow_6 ?_
      refine lv_icmp_ge (tgt := 33) hM.1 hM.2.1 dX3_countInRow_9 (by decide) (fun c_1 => ?_) (fun c_1 => ?_)
      · replace hq := hq.1 c_1
        exact hk S y2 hq _ _ _ hX (lv_sub hl [2] rfl)
      replace hq := hq.2 c_1
      refine lv_aload_n hM.1 hM.2.1 dX3_countInRow_12 rfl (lv_at hl 0 rfl) ?_
      refine lv_iload_n hM.1 hM.2.1 dX3_countInRow_13 rfl (lv_at hl 3 rfl) ?_
      refine cVr (As := [.int y3]) hM hK hX hA (met_X3_at l D ad cy S P y3 hv hq) (kX3_at hM.2.2.2.2 ql_RX3_53 (Nat.le_of_ble_eq_true rfl) (Nat.le_of_ble_eq_true rfl)) (v3 hK hX (id_P hv).2.1) rfl hl.1 rfl (Nat.le_of_ble_eq_true rfl) dX3_countInRow_14 ⟨Nat.zero_le _, Nat.zero_le _⟩ (fun S_2 P_3 i_4 hq H locs hX => ?_)
      have hT_5 := hq.1
      replace hq := hq.2
      refine g5 hM hK hX (id_T hT_5).1 5 (by decide) qf_RX3_90 rfl dX3_countInRow_17 ?_
      refine lv_iload_n hM.1 hM.2.1 dX3_countInRow_20 rfl (lv_at hl 1 rfl) ?_
      refine lv_icmp_ne (tgt := 27) hM.1 hM.2.1 dX3_countInRow_21 (by decide) (fun c_6 => ?_) (fun c_6 => ?_)
      · replace hq := hq.1 c_6
        exact J27 ih hk S_2 y2 y3 hq _ _ _ hX (lv_sub hl [0, 1, 2, 3] rfl)
      replace hq := hq.2 c_6
      refine lv_iinc (v := (y2 + (1 : Int32))) (lv' := [(2, .int (y2 + (1 : Int32))), (0, .ref (ad 3 P 0)), (1, .int x1), (3, .int y3)]) hM.1 hM.2.1 dX3_countInRow_24 hl (k := 2) rfl rfl (by decide) rfl (fun ls hl => ?_)
      exact J27 ih hk S_2 (y2 + (1 : Int32)) y3 hq _ _ _ hX (lv_sub hl [1, 2, 0, 3] rfl)
  unfold vc_X3_countInRow at hq
  refine lv_iconst (v := (0 : Int32)) hM.1 hM.2.1 dX3_countInRow_0 (by decide) ?_
  refine lv_istore_n (lv' := [(2, .int (0 : Int32)), (0, .ref (ad 3 P 0)), (1, .int x1)]) hM.1 hM.2.1 dX3_countInRow_1 rfl hl (by decide) rfl (fun ls hl => ?_)
  refine lv_iconst (v := (0 : Int32)) hM.1 hM.2.1 dX3_countInRow_2 (by decide) ?_
  refine lv_istore_n (lv' := [(3, .int (0 : Int32)), (2, .int (0 : Int32)), (0, .ref (ad 3 P 0)), (1, .int x1)]) hM.1 hM.2.1 dX3_countInRow_3 rfl hl (by decide) rfl (fun ls hl => ?_)
  obtain ⟨k0, hq⟩ := hq
  refine L4 (fun S_7 y2_8 hq H locs ls hX hl => ?_) k0 S (0 : Int32) (0 : Int32) hq _ _ _ hX (lv_sub hl [2, 3, 1, 0] rfl)
  refine lv_iload_n hM.1 hM.2.1 dX3_countInRow_33 rfl (lv_at hl 0 rfl) ?_
  exact e_i hM hX hlocks hret hq dX3_countInRow_34
def rmX5_isAsked : Room := { frames := 0, cells := 0, slots := 0, locals := 0 }
theorem kX5_isAsked {R : Room} {s : State} {args : Array Value} {own : String} {index : Nat} (ht : ∀ w ∈ lw_all, w.before args s = true) (hl : Cond.methodLink own index yX5_isAsked ∈ lw_all) (hf : rmX5_isAsked.frames + 1 ≤ R.frames) (hlo : 8 + (1 + 11) + rmX5_isAsked.locals ≤ R.locals) : CallW R s args own RX5 index yX5_isAsked cX5_isAsked 1 (some Jvm.ClassFile.FieldType.boolean) (wA yX5_isAsked cX5_isAsked 1 (some Jvm.ClassFile.FieldType.boolean)) rmX5_isAsked 0 0 0 := cwV 0 ht (good_V hl qm_yX5_isAsked qs_yX5_isAsked qi_RX5 qc_yX5_isAsked) rfl rfl rfl (by decide +kernel) ⟨hf, hlo⟩
set_option maxRecDepth 100000 in
set_option maxHeartbeats 4000000 in
theorem met_X5_isAsked (l : Launch) (D : va_G) (ad : Adr) (cy : Nat → ClassId) (S : Mem) (P : Nat) (i : Nat) {Q : Mem → Int32 → Prop} (hv : P < 11 ∧ i < 11) (hq : vc_X5_isAsked S P i Q) : Ci l yX5_isAsked (wA yX5_isAsked cX5_isAsked 1 (some Jvm.ClassFile.FieldType.boolean)) rmX5_isAsked D ad cy [.ref (ad 5 P i)] S Q := by
  intro o sz
  refine mkC (own := RX5) (lv := [(0, .ref (ad 5 P i))]) (by decide) rfl (Nat.le_of_ble_eq_true rfl) rfl ⟨rfl, rfl⟩ ?_
  intro p e s m below meth c ls hsz hM hlocks hret hK hA hX hl
  unfold vc_X5_isAsked at hq
  refine lv_aload_n hM.1 hM.2.1 dX5_isAsked_0 rfl (lv_at hl 0 rfl) ?_
  refine g5 hM hK hX (id_T hv).1 2 (by decide) qf_RX5_45 rfl dX5_isAsked_1 ?_
  refine lv_if_le (tgt := 18) hM.1 hM.2.1 dX5_isAsked_4 (by decide) (fun c_1 => ?_) (fun c_1 => ?_)
  · replace hq := hq.1 c_1
    refine lv_iconst (v := (0 : Int32)) hM.1 hM.2.1 dX5_isAsked_18 (by decide) ?_
    exact e_z hM hX hlocks hret rfl hq dX5_isAsked_19
  replace hq := hq.2 c_1
  refine lv_aload_n hM.1 hM.2.1 dX5_isAsked_7 rfl (lv_at hl 0 rfl) ?_
  refine g5 hM hK hX (id_T hv).1 10 (by decide) qf_RX5_51 rfl dX5_isAsked_8 ?_
  refine lv_if_ne (tgt := 18) hM.1 hM.2.1 dX5_isAsked_11 (by decide) (fun c_2 => ?_) (fun c_2 => ?_)
  · replace hq := hq.1 c_2
    refine lv_iconst (v := (0 : Int32)) hM.1 hM.2.1 dX5_isAsked_18 (by decide) ?_
    exact e_z hM hX hlocks hret rfl hq dX5_isAsked_19
  replace hq := hq.2 c_2
  refine lv_iconst (v := (1 : Int32)) hM.1 hM.2.1 dX5_isAsked_14 (by decide) ?_
  refine lv_goto (tgt := 19) hM.1 hM.2.1 dX5_isAsked_15 (by decide) ?_
  exact e_z hM hX hlocks hret rfl hq dX5_isAsked_19
def rmX6_quotient : Room := { frames := 0, cells := 0, slots := 0, locals := 0 }
theorem kX6_quotient {R : Room} {s : State} {args : Array Value} {own : String} {index : Nat} (ht : ∀ w ∈ lw_all, w.before args s = true) (hl : Cond.methodLink own index yX6_quotient ∈ lw_all) (hf : rmX6_quotient.frames + 1 ≤ R.frames) (hlo : 8 + (2 + 11) + rmX6_quotient.locals ≤ R.locals) : CallB R s args own index yX6_quotient cX6_quotient 2 (some Jvm.ClassFile.FieldType.int) (wA yX6_quotient cX6_quotient 2 (some Jvm.ClassFile.FieldType.int)) rmX6_quotient 0 0 2 ∧ (Cond.static yX6_quotient).before args s = true := va_cwS 2 ht (good_S hl qt_yX6_quotient qi_RX6 qc_yX6_quotient) rfl rfl rfl (by decide +kernel) ⟨hf, hlo⟩
theorem kNX6_quotient {R : Room} {s : State} {args : Array Value} {own : String} {index : Nat} (ht : ∀ w ∈ lw_all, w.before args s = true) (hl : va_Nw (nestW (own, index, yX6_quotient, RX6)) s) (hf : rmX6_quotient.frames + 1 ≤ R.frames) (hlo : 8 + (2 + 11) + rmX6_quotient.locals ≤ R.locals) : va_CN R s args own index yX6_quotient RX6 cX6_quotient 2 (some Jvm.ClassFile.FieldType.int) (wA yX6_quotient cX6_quotient 2 (some Jvm.ClassFile.FieldType.int)) rmX6_quotient 0 0 2 ∧ (Cond.static yX6_quotient).before args s = true ∧ True := ⟨va_cnB 2 ht (good_wA qc_yX6_quotient) rfl rfl rfl hl (ht _ qi_RX6) (by decide +kernel) ⟨hf, hlo⟩, ht _ qt_yX6_quotient, trivial⟩
set_option maxRecDepth 100000 in
set_option maxHeartbeats 4000000 in
theorem met_X6_quotient (l : Launch) (D : va_G) (ad : Adr) (cy : Nat → ClassId) (S : Mem) (x0 : Int32) (x1 : Int32) {Q : Mem → Int32 → Prop} (hq : vc_X6_quotient S x0 x1 Q) : Ci l yX6_quotient (wA yX6_quotient cX6_quotient 2 (some Jvm.ClassFile.FieldType.int)) rmX6_quotient D ad cy [.int x0, .int x1] S Q := by
  intro o sz
  refine mkC (own := RX6) (lv := [(0, .int x0), (1, .int x1)]) (by decide) rfl (Nat.le_of_ble_eq_true rfl) rfl ⟨rfl, rfl⟩ ?_
  intro p e s m below meth c ls hsz hM hlocks hret hK hA hX hl
  unfold vc_X6_quotient at hq
  refine lv_iload_n hM.1 hM.2.1 dX6_quotient_0 rfl (lv_at hl 1 rfl) ?_
  refine lv_if_ne (tgt := 8) hM.1 hM.2.1 dX6_quotient_1 (by decide) (fun c_1 => ?_) (fun c_1 => ?_)
  · replace hq := hq.1 c_1
    refine lv_iload_n hM.1 hM.2.1 dX6_quotient_8 rfl (lv_at hl 0 rfl) ?_
    refine lv_iload_n hM.1 hM.2.1 dX6_quotient_9 rfl (lv_at hl 1 rfl) ?_
    have c_2 := hq.1
    replace hq := hq.2
    refine lv_idiv hM.1 hM.2.1 dX6_quotient_10 c_2 ?_
    exact e_i hM hX hlocks hret hq dX6_quotient_11
  replace hq := hq.2 c_1
  refine lv_iconst (v := (0 : Int32)) hM.1 hM.2.1 dX6_quotient_4 (by decide) ?_
  refine lv_goto (tgt := 11) hM.1 hM.2.1 dX6_quotient_5 (by decide) ?_
  exact e_i hM hX hlocks hret hq dX6_quotient_11
def rmX3_mean : Room := { frames := 1, cells := 0, slots := 0, locals := 22 }
theorem kX3_mean {R : Room} {s : State} {args : Array Value} {own : String} {index : Nat} (ht : ∀ w ∈ lw_all, w.before args s = true) (hl : Cond.methodLink own index yX3_mean ∈ lw_all) (hf : rmX3_mean.frames + 1 ≤ R.frames) (hlo : 8 + (4 + 11) + rmX3_mean.locals ≤ R.locals) : CallW R s args own RX3 index yX3_mean cX3_mean 4 (some Jvm.ClassFile.FieldType.int) (wA yX3_mean cX3_mean 4 (some Jvm.ClassFile.FieldType.int)) rmX3_mean 0 0 0 := cwV 0 ht (good_V hl qm_yX3_mean qs_yX3_mean qi_RX3 qc_yX3_mean) rfl rfl rfl (by decide +kernel) ⟨hf, hlo⟩
set_option maxRecDepth 100000 in
set_option maxHeartbeats 4000000 in
theorem met_X3_mean (l : Launch) (D : va_G) (ad : Adr) (cy : Nat → ClassId) (S : Mem) (P : Nat) {Q : Mem → Int32 → Prop} (hv : P < 11) (hq : vc_X3_mean S P Q) : Ci l yX3_mean (wA yX3_mean cX3_mean 4 (some Jvm.ClassFile.FieldType.int)) rmX3_mean D ad cy [.ref (ad 3 P 0)] S Q := by
  intro o sz
  refine mkC (own := RX3) (lv := [(0, .ref (ad 3 P 0))]) (by decide) rfl (Nat.le_of_ble_eq_true rfl) rfl ⟨rfl, rfl⟩ ?_
  intro p e s m below meth c ls hsz hM hlocks hret hK hA hX hl
  have J56 : ∀ {K0 : Mem → Int32 → Int32 → Int32 → Prop} (hk0 : ∀ (S : Mem) (y1 : Int32) (y2 : Int32) (y3 : Int32), K0 S y1 y2 y3 → ∀ (H : Heap) (locs : List Loc) (ls : Array Slot), PW D ad cy (AW ad sz) s.heap o S H locs → lv_has ls 4 [(0, .ref (ad 3 P 0)), (1, .int y1), (2, .int y2), (3, .int y3)] → Wi D ad cy o sz Q p l e rmX3_mean s m [.ref (ad 3 P 0)] below meth c H locs (F0 m 6 ls [])), ∀ {K1 : Mem → Int32 → Int32 → Prop} (hk1 : ∀ (S : Mem) (y1 : Int32) (y2 : Int32), K1 S y1 y2 → ∀ (H : Heap) (locs : List Loc) (ls : Array Slot), PW D ad cy (AW ad sz) s.heap o S H locs → lv_has ls 4 [(1, .int y1), (2, .int y2)] → Wi D ad cy o sz Q p l e rmX3_mean s m [.ref (ad 3 P 0)] below meth c H locs (F0 m 62 ls [])), ∀ (S : Mem) (y1 : Int32) (y2 : Int32) (y3 : Int32), vc_X3_mean_J56 Q K0 K1 P S y1 y2 y3 → ∀ (H : Heap) (locs : List Loc) (ls : Array Slot), PW D ad cy (AW ad sz) s.heap o S H locs → lv_has ls 4 [(0, .ref (ad 3 P 0)), (1, .int y1), (2, .int y2), (3, .int y3)] → Wi D ad cy o sz Q p l e rmX3_mean s m [.ref (ad 3 P 0)] below meth c H locs (F0 m 56 ls []) := by
    intro K0 hk0 K1 hk1 S y1 y2 y3 hq H locs ls hX hl
    unfold vc_X3_mean_J56 at hq
    refine lv_iinc (v := (y3 + (1 : Int32))) (lv' := [(3, .int (y3 + (1 : Int32))), (0, .ref (ad 3 P 0)), (1, .int y1), (2, .int y2)]) hM.1 hM.2.1 dX3_mean_56 hl (k := 3) rfl rfl (by decide) rfl (fun ls hl => ?_)
    refine lv_goto (tgt := 6) hM.1 hM.2.1 dX3_mean_59 (by decide) ?_
    exact hk0 S y1 y2 (y3 + (1 : Int32)) hq _ _ _ hX (lv_sub hl [1, 2, 3, 0] rfl)
  have L6 : ∀ {K : Mem → Int32 → Int32 → Prop} (hk : ∀ (S : Mem) (y1 : Int32) (y2 : Int32), K S y1 y2 → ∀ (H : Heap) (locs : List Loc) (ls : Array Slot), PW D ad cy (AW ad sz) s.heap o S H locs → lv_has ls 4 [(1, .int y1), (2, .int y2)] → Wi D ad cy o sz Q p l e rmX3_mean s m [.ref (ad 3 P 0)] below meth c H locs (F0 m 62 ls [])), ∀ (n : Nat) (S : Mem) (y1 : Int32) (y2 : Int32) (y3 : Int32), vc_X3_mean_L6 Q K P n S y1 y2 y3 → ∀ (H : Heap) (locs : List Loc) (ls : Array Slot), PW D ad cy (AW ad sz) s.heap o S H locs → lv_has ls 4 [(0, .ref (ad 3 P 0)), (1, .int y1), (2, .int y2), (3, .int y3)] → Wi D ad cy o sz Q p l e rmX3_mean s m [.ref (ad 3 P 0)] below meth c H locs (F0 m 6 ls []) := by
    intro K hk n
    induction n with
    | zero =>
      intro S y1 y2 y3 hq
      rw [vc_X3_mean_L6] at hq
      exact hq.elim
    | succ n ih =>
      intro S y1 y2 y3 hq H locs ls hX hl
      rw [vc_X3_mean_L6] at hq
      refine lv_iload_n hM.1 hM.2.1 dX3_mean_6 rfl (lv_at hl 3 rfl) ?_
      refine lv_aload_n hM.1 hM.2.1 dX3_mean_7 rfl (lv_at hl 0 rfl) ?_
      refine g3 hM hK hX (id_P hv).2.1 6 (by decide) qf_RX3_50 rfl dX3_mean_8 ?_
      refine lv_icmp_ge (tgt := 62) hM.1 hM.2.1 dX3_mean_11 (by decide) (fun c_1 => ?_) (fun c_1 => ?_)
      · replace hq := hq.1 c_1
        exact hk S y1 y2 hq _ _ _ hX (lv_sub hl [1, 2] rfl)
      replace hq := hq.2 c_1
      refine lv_aload_n hM.1 hM.2.1 dX3_mean_14 rfl (lv_at hl 0 rfl) ?_
      refine lv_iload_n hM.1 hM.2.1 dX3_mean_15 rfl (lv_at hl 3 rfl) ?_
      refine cVr (As := [.int y3]) hM hK hX hA (met_X3_at l D ad cy S P y3 hv hq) (kX3_at hM.2.2.2.2 ql_RX3_53 (Nat.le_of_ble_eq_true rfl) (Nat.le_of_ble_eq_true rfl)) (v3 hK hX (id_P hv).2.1) rfl hl.1 rfl (Nat.le_of_ble_eq_true rfl) dX3_mean_16 ⟨Nat.zero_le _, Nat.zero_le _⟩ (fun S_2 P_3 i_4 hq H locs hX => ?_)
      have hT_5 := hq.1
      replace hq := hq.2
      refine cVi (As := []) hM hK hX hA (met_X5_isAsked l D ad cy S_2 P_3 i_4 hT_5 hq) (kX5_isAsked hM.2.2.2.2 ql_RX3_153 (Nat.le_of_ble_eq_true rfl) (Nat.le_of_ble_eq_true rfl)) (v5 hK hX (id_T hT_5).1) rfl hl.1 rfl (Nat.le_of_ble_eq_true rfl) dX3_mean_19 ⟨Nat.zero_le _, Nat.zero_le _⟩ (fun S_6 r_7 hq H locs hX => ?_)
      refine lv_if_eq (tgt := 56) hM.1 hM.2.1 dX3_mean_22 (by decide) (fun c_8 => ?_) (fun c_8 => ?_)
      · replace hq := hq.1 c_8
        exact J56 ih hk S_6 y1 y2 y3 hq _ _ _ hX (lv_sub hl [0, 1, 2, 3] rfl)
      replace hq := hq.2 c_8
      refine lv_iload_n hM.1 hM.2.1 dX3_mean_25 rfl (lv_at hl 1 rfl) ?_
      refine lv_aload_n hM.1 hM.2.1 dX3_mean_26 rfl (lv_at hl 0 rfl) ?_
      refine lv_iload_n hM.1 hM.2.1 dX3_mean_27 rfl (lv_at hl 3 rfl) ?_
      refine cVr (As := [.int y3]) hM hK hX hA (met_X3_at l D ad cy S_6 P y3 hv hq) (kX3_at hM.2.2.2.2 ql_RX3_53 (Nat.le_of_ble_eq_true rfl) (Nat.le_of_ble_eq_true rfl)) (v3 hK hX (id_P hv).2.1) rfl hl.1 rfl (Nat.le_of_ble_eq_true rfl) dX3_mean_28 ⟨Nat.zero_le _, Nat.zero_le _⟩ (fun S_9 P_10 i_11 hq H locs hX => ?_)
      have hT_12 := hq.1
      replace hq := hq.2
      refine g5 hM hK hX (id_T hT_12).1 11 (by decide) qf_RX3_157 rfl dX3_mean_31 ?_
      refine lv_aload_n hM.1 hM.2.1 dX3_mean_34 rfl (lv_at hl 0 rfl) ?_
      refine lv_iload_n hM.1 hM.2.1 dX3_mean_35 rfl (lv_at hl 3 rfl) ?_
      refine cVr (As := [.int y3]) hM hK hX hA (met_X3_at l D ad cy S_9 P y3 hv hq) (kX3_at hM.2.2.2.2 ql_RX3_53 (Nat.le_of_ble_eq_true rfl) (Nat.le_of_ble_eq_true rfl)) (v3 hK hX (id_P hv).2.1) rfl hl.1 rfl (Nat.le_of_ble_eq_true rfl) dX3_mean_36 ⟨Nat.zero_le _, Nat.zero_le _⟩ (fun S_13 P_14 i_15 hq H locs hX => ?_)
      have hT_16 := hq.1
      replace hq := hq.2
      refine g5 hM hK hX (id_T hT_16).1 6 (by decide) qf_RX3_170 rfl dX3_mean_39 ?_
      refine lv_imul hM.1 hM.2.1 dX3_mean_42 ?_
      refine lv_iadd hM.1 hM.2.1 dX3_mean_43 ?_
      refine lv_istore_n (lv' := [(1, .int (y1 + ((S_9 5 P_10 i_11 11) * (S_13 5 P_14 i_15 6)))), (0, .ref (ad 3 P 0)), (2, .int y2), (3, .int y3)]) hM.1 hM.2.1 dX3_mean_44 rfl hl (by decide) rfl (fun ls hl => ?_)
      refine lv_iload_n hM.1 hM.2.1 dX3_mean_45 rfl (lv_at hl 2 rfl) ?_
      refine lv_aload_n hM.1 hM.2.1 dX3_mean_46 rfl (lv_at hl 1 rfl) ?_
      refine lv_iload_n hM.1 hM.2.1 dX3_mean_47 rfl (lv_at hl 3 rfl) ?_
      refine cVr (As := [.int y3]) hM hK hX hA (met_X3_at l D ad cy S_13 P y3 hv hq) (kX3_at hM.2.2.2.2 ql_RX3_53 (Nat.le_of_ble_eq_true rfl) (Nat.le_of_ble_eq_true rfl)) (v3 hK hX (id_P hv).2.1) rfl hl.1 rfl (Nat.le_of_ble_eq_true rfl) dX3_mean_48 ⟨Nat.zero_le _, Nat.zero_le _⟩ (fun S_17 P_18 i_19 hq H locs hX => ?_)
      have hT_20 := hq.1
      replace hq := hq.2
      refine g5 hM hK hX (id_T hT_20).1 6 (by decide) qf_RX3_170 rfl dX3_mean_51 ?_
      refine lv_iadd hM.1 hM.2.1 dX3_mean_54 ?_
      refine lv_istore_n (lv' := [(2, .int (y2 + (S_17 5 P_18 i_19 6))), (1, .int (y1 + ((S_9 5 P_10 i_11 11) * (S_13 5 P_14 i_15 6)))), (0, .ref (ad 3 P 0)), (3, .int y3)]) hM.1 hM.2.1 dX3_mean_55 rfl hl (by decide) rfl (fun ls hl => ?_)
      exact J56 ih hk S_17 (y1 + ((S_9 5 P_10 i_11 11) * (S_13 5 P_14 i_15 6))) (y2 + (S_17 5 P_18 i_19 6)) y3 hq _ _ _ hX (lv_sub hl [2, 1, 0, 3] rfl)
  unfold vc_X3_mean at hq
  refine lv_iconst (v := (0 : Int32)) hM.1 hM.2.1 dX3_mean_0 (by decide) ?_
  refine lv_istore_n (lv' := [(1, .int (0 : Int32)), (0, .ref (ad 3 P 0))]) hM.1 hM.2.1 dX3_mean_1 rfl hl (by decide) rfl (fun ls hl => ?_)
  refine lv_iconst (v := (0 : Int32)) hM.1 hM.2.1 dX3_mean_2 (by decide) ?_
  refine lv_istore_n (lv' := [(2, .int (0 : Int32)), (1, .int (0 : Int32)), (0, .ref (ad 3 P 0))]) hM.1 hM.2.1 dX3_mean_3 rfl hl (by decide) rfl (fun ls hl => ?_)
  refine lv_iconst (v := (0 : Int32)) hM.1 hM.2.1 dX3_mean_4 (by decide) ?_
  refine lv_istore_n (lv' := [(3, .int (0 : Int32)), (2, .int (0 : Int32)), (1, .int (0 : Int32)), (0, .ref (ad 3 P 0))]) hM.1 hM.2.1 dX3_mean_5 rfl hl (by decide) rfl (fun ls hl => ?_)
  obtain ⟨k0, hq⟩ := hq
  refine L6 (fun S_21 y1_22 y2_23 hq H locs ls hX hl => ?_) k0 S (0 : Int32) (0 : Int32) (0 : Int32) hq _ _ _ hX (lv_sub hl [3, 2, 1, 0] rfl)
  refine lv_iload_n hM.1 hM.2.1 dX3_mean_62 rfl (lv_at hl 1 rfl) ?_
  refine lv_if_ne (tgt := 71) hM.1 hM.2.1 dX3_mean_63 (by decide) (fun c_24 => ?_) (fun c_24 => ?_)
  · replace hq := hq.1 c_24
    refine lv_iload_n hM.1 hM.2.1 dX3_mean_71 rfl (lv_at hl 0 rfl) ?_
    refine lv_iload_n hM.1 hM.2.1 dX3_mean_72 rfl (lv_at hl 1 rfl) ?_
    refine cSNi (As := [.int y1_22, .int y2_23]) hM hK hX hA (met_X6_quotient l D ad cy S_21 y1_22 y2_23 hq) (kNX6_quotient hM.2.2.2.2 (hK.2 _ ql_RX3_173) (Nat.le_of_ble_eq_true rfl) (Nat.le_of_ble_eq_true rfl)) rfl hl.1 rfl (Nat.le_of_ble_eq_true rfl) dX3_mean_73 ⟨Nat.zero_le _, Nat.zero_le _⟩ (fun S_25 r_26 hq H locs hX => ?_)
    exact e_i hM hX hlocks hret hq dX3_mean_76
  replace hq := hq.2 c_24
  refine lv_ldc hM.1 hM.2.1 hM.2.2.2.1 (hM.2.2.2.2 _ qn_RX3_36) dX3_mean_66 ?_
  refine lv_goto (tgt := 76) hM.1 hM.2.1 dX3_mean_68 (by decide) ?_
  exact e_i hM hX hlocks hret hq dX3_mean_76
def rmX5_stepFrom : Room := { frames := 1, cells := 0, slots := 0, locals := 21 }
theorem kX5_stepFrom {R : Room} {s : State} {args : Array Value} {own : String} {index : Nat} (ht : ∀ w ∈ lw_all, w.before args s = true) (hl : Cond.methodLink own index yX5_stepFrom ∈ lw_all) (hf : rmX5_stepFrom.frames + 1 ≤ R.frames) (hlo : 8 + (3 + 11) + rmX5_stepFrom.locals ≤ R.locals) : CallW R s args own RX5 index yX5_stepFrom cX5_stepFrom 3 (some Jvm.ClassFile.FieldType.int) (wA yX5_stepFrom cX5_stepFrom 3 (some Jvm.ClassFile.FieldType.int)) rmX5_stepFrom 0 0 2 := cwV 2 ht (good_V hl qm_yX5_stepFrom qs_yX5_stepFrom qi_RX5 qc_yX5_stepFrom) rfl rfl rfl (by decide +kernel) ⟨hf, hlo⟩
set_option maxRecDepth 100000 in
set_option maxHeartbeats 4000000 in
theorem met_X5_stepFrom (l : Launch) (D : va_G) (ad : Adr) (cy : Nat → ClassId) (S : Mem) (P : Nat) (i : Nat) (x1 : Int32) (x2 : Int32) {Q : Mem → Int32 → Prop} (hv : P < 11 ∧ i < 11) (hq : vc_X5_stepFrom S P i x1 x2 Q) : Ci l yX5_stepFrom (wA yX5_stepFrom cX5_stepFrom 3 (some Jvm.ClassFile.FieldType.int)) rmX5_stepFrom D ad cy [.ref (ad 5 P i), .int x1, .int x2] S Q := by
  intro o sz
  refine mkC (own := RX5) (lv := [(0, .ref (ad 5 P i)), (1, .int x1), (2, .int x2)]) (by decide) rfl (Nat.le_of_ble_eq_true rfl) rfl ⟨rfl, rfl⟩ ?_
  intro p e s m below meth c ls hsz hM hlocks hret hK hA hX hl
  unfold vc_X5_stepFrom at hq
  refine lv_iload_n hM.1 hM.2.1 dX5_stepFrom_0 rfl (lv_at hl 2 rfl) ?_
  refine lv_aload_n hM.1 hM.2.1 dX5_stepFrom_1 rfl (lv_at hl 0 rfl) ?_
  refine g5 hM hK hX (id_T hv).1 4 (by decide) qf_RX5_32 rfl dX5_stepFrom_2 ?_
  refine lv_iadd hM.1 hM.2.1 dX5_stepFrom_5 ?_
  refine lv_iload_n hM.1 hM.2.1 dX5_stepFrom_6 rfl (lv_at hl 1 rfl) ?_
  refine lv_isub hM.1 hM.2.1 dX5_stepFrom_7 ?_
  refine lv_aload_n hM.1 hM.2.1 dX5_stepFrom_8 rfl (lv_at hl 0 rfl) ?_
  refine g5 hM hK hX (id_T hv).1 3 (by decide) qf_RX5_18 rfl dX5_stepFrom_9 ?_
  refine cSNi (As := [.int ((x2 + (S 5 P i 4)) - x1), .int (S 5 P i 3)]) hM hK hX hA (met_X6_quotient l D ad cy S ((x2 + (S 5 P i 4)) - x1) (S 5 P i 3) hq) (kNX6_quotient hM.2.2.2.2 (hK.2 _ ql_RX5_63) (Nat.le_of_ble_eq_true rfl) (Nat.le_of_ble_eq_true rfl)) rfl hl.1 rfl (Nat.le_of_ble_eq_true rfl) dX5_stepFrom_12 ⟨Nat.zero_le _, Nat.zero_le _⟩ (fun S_1 r_2 hq H locs hX => ?_)
  exact e_i hM hX hlocks hret hq dX5_stepFrom_15
def rmX5_follow : Room := { frames := 2, cells := 0, slots := 0, locals := 43 }
theorem kX5_follow {R : Room} {s : State} {args : Array Value} {own : String} {index : Nat} (ht : ∀ w ∈ lw_all, w.before args s = true) (hl : Cond.methodLink own index yX5_follow ∈ lw_all) (hf : rmX5_follow.frames + 1 ≤ R.frames) (hlo : 8 + (2 + 11) + rmX5_follow.locals ≤ R.locals) : CallW R s args own RX5 index yX5_follow cX5_follow 2 none (wA yX5_follow cX5_follow 2 none) rmX5_follow 0 0 1 := cwV 1 ht (good_V hl qm_yX5_follow qs_yX5_follow qi_RX5 qc_yX5_follow) rfl rfl rfl (by decide +kernel) ⟨hf, hlo⟩
set_option maxRecDepth 100000 in
set_option maxHeartbeats 4000000 in
theorem met_X5_follow (l : Launch) (D : va_G) (ad : Adr) (cy : Nat → ClassId) (S : Mem) (P : Nat) (i : Nat) (x1 : Int32) {Q : Mem → Prop} (hv : P < 11 ∧ i < 11) (hq : vc_X5_follow S P i x1 Q) : Cv l yX5_follow (wA yX5_follow cX5_follow 2 none) rmX5_follow D ad cy [.ref (ad 5 P i), .int x1] S Q := by
  intro o sz
  refine mkC (own := RX5) (lv := [(0, .ref (ad 5 P i)), (1, .int x1)]) (by decide) rfl (Nat.le_of_ble_eq_true rfl) rfl ⟨rfl, rfl⟩ ?_
  intro p e s m below meth c ls hsz hM hlocks hret hK hA hX hl
  unfold vc_X5_follow at hq
  refine lv_aload_n hM.1 hM.2.1 dX5_follow_0 rfl (lv_at hl 0 rfl) ?_
  refine lv_dup hM.1 hM.2.1 dX5_follow_1 rfl ?_
  refine g5 hM hK hX (id_T hv).1 7 (by decide) qf_RX5_42 rfl dX5_follow_2 ?_
  refine lv_aload_n hM.1 hM.2.1 dX5_follow_5 rfl (lv_at hl 0 rfl) ?_
  refine lv_aload_n hM.1 hM.2.1 dX5_follow_6 rfl (lv_at hl 0 rfl) ?_
  refine g5 hM hK hX (id_T hv).1 7 (by decide) qf_RX5_42 rfl dX5_follow_7 ?_
  refine lv_iload_n hM.1 hM.2.1 dX5_follow_10 rfl (lv_at hl 1 rfl) ?_
  refine cVi (As := [.int (S 5 P i 7), .int x1]) hM hK hX hA (met_X5_stepFrom l D ad cy S P i (S 5 P i 7) x1 hv hq) (kX5_stepFrom hM.2.2.2.2 ql_RX5_59 (Nat.le_of_ble_eq_true rfl) (Nat.le_of_ble_eq_true rfl)) (v5 hK hX (id_T hv).1) rfl hl.1 rfl (Nat.le_of_ble_eq_true rfl) dX5_follow_11 ⟨Nat.zero_le _, Nat.zero_le _⟩ (fun S_1 r_2 hq H locs hX => ?_)
  refine lv_iadd hM.1 hM.2.1 dX5_follow_14 ?_
  refine p5_7 hM hK hX (id_T hv).1 qf_RX5_42 dX5_follow_15 (fun S_3 e_4 H locs hX => ?_)
  replace hq := hq S_3 e_4
  exact e_v hM hX hlocks hret hq dX5_follow_18
def rmX3_isReadNow : Room := { frames := 2, cells := 0, slots := 0, locals := 42 }
theorem kX3_isReadNow {R : Room} {s : State} {args : Array Value} {own : String} {index : Nat} (ht : ∀ w ∈ lw_all, w.before args s = true) (hl : Cond.methodLink own index yX3_isReadNow ∈ lw_all) (hf : rmX3_isReadNow.frames + 1 ≤ R.frames) (hlo : 8 + (2 + 11) + rmX3_isReadNow.locals ≤ R.locals) : CallW R s args own RX3 index yX3_isReadNow cX3_isReadNow 2 (some Jvm.ClassFile.FieldType.boolean) (wA yX3_isReadNow cX3_isReadNow 2 (some Jvm.ClassFile.FieldType.boolean)) rmX3_isReadNow 0 0 1 := cwV 1 ht (good_V hl qm_yX3_isReadNow qs_yX3_isReadNow qi_RX3 qc_yX3_isReadNow) rfl rfl rfl (by decide +kernel) ⟨hf, hlo⟩
set_option maxRecDepth 100000 in
set_option maxHeartbeats 4000000 in
theorem met_X3_isReadNow (l : Launch) (D : va_G) (ad : Adr) (cy : Nat → ClassId) (S : Mem) (P : Nat) (x1 : Int32) {Q : Mem → Int32 → Prop} (hv : P < 11) (hq : vc_X3_isReadNow S P x1 Q) : Ci l yX3_isReadNow (wA yX3_isReadNow cX3_isReadNow 2 (some Jvm.ClassFile.FieldType.boolean)) rmX3_isReadNow D ad cy [.ref (ad 3 P 0), .int x1] S Q := by
  intro o sz
  refine mkC (own := RX3) (lv := [(0, .ref (ad 3 P 0)), (1, .int x1)]) (by decide) rfl (Nat.le_of_ble_eq_true rfl) rfl ⟨rfl, rfl⟩ ?_
  intro p e s m below meth c ls hsz hM hlocks hret hK hA hX hl
  unfold vc_X3_isReadNow at hq
  refine lv_aload_n hM.1 hM.2.1 dX3_isReadNow_0 rfl (lv_at hl 0 rfl) ?_
  refine g3 hM hK hX (id_P hv).2.1 7 (by decide) qf_RX3_65 rfl dX3_isReadNow_1 ?_
  refine lv_aload_n hM.1 hM.2.1 dX3_isReadNow_4 rfl (lv_at hl 0 rfl) ?_
  refine lv_iload_n hM.1 hM.2.1 dX3_isReadNow_5 rfl (lv_at hl 1 rfl) ?_
  refine cVi (As := [.int x1]) hM hK hX hA (met_X3_periodOf l D ad cy S P x1 hv hq) (kX3_periodOf hM.2.2.2.2 ql_RX3_82 (Nat.le_of_ble_eq_true rfl) (Nat.le_of_ble_eq_true rfl)) (v3 hK hX (id_P hv).2.1) rfl hl.1 rfl (Nat.le_of_ble_eq_true rfl) dX3_isReadNow_6 ⟨Nat.zero_le _, Nat.zero_le _⟩ (fun S_1 r_2 hq H locs hX => ?_)
  refine cSNi (As := [.int (S 3 P 0 7), .int r_2]) hM hK hX hA (met_X6_remainder l D ad cy S_1 (S 3 P 0 7) r_2 hq) (kNX6_remainder hM.2.2.2.2 (hK.2 _ ql_RX3_86) (Nat.le_of_ble_eq_true rfl) (Nat.le_of_ble_eq_true rfl)) rfl hl.1 rfl (Nat.le_of_ble_eq_true rfl) dX3_isReadNow_9 ⟨Nat.zero_le _, Nat.zero_le _⟩ (fun S_3 r_4 hq H locs hX => ?_)
  refine lv_if_ne (tgt := 19) hM.1 hM.2.1 dX3_isReadNow_12 (by decide) (fun c_5 => ?_) (fun c_5 => ?_)
  · replace hq := hq.1 c_5
    refine lv_iconst (v := (0 : Int32)) hM.1 hM.2.1 dX3_isReadNow_19 (by decide) ?_
    exact e_z hM hX hlocks hret rfl hq dX3_isReadNow_20
  replace hq := hq.2 c_5
  refine lv_iconst (v := (1 : Int32)) hM.1 hM.2.1 dX3_isReadNow_15 (by decide) ?_
  refine lv_goto (tgt := 20) hM.1 hM.2.1 dX3_isReadNow_16 (by decide) ?_
  exact e_z hM hX hlocks hret rfl hq dX3_isReadNow_20
def rmX6_putFirst : Room := { frames := 0, cells := 0, slots := 0, locals := 0 }
theorem kX6_putFirst {R : Room} {s : State} {args : Array Value} {own : String} {index : Nat} (ht : ∀ w ∈ lw_all, w.before args s = true) (hl : Cond.methodLink own index yX6_putFirst ∈ lw_all) (hf : rmX6_putFirst.frames + 1 ≤ R.frames) (hlo : 8 + (3 + 11) + rmX6_putFirst.locals ≤ R.locals) : CallB R s args own index yX6_putFirst cX6_putFirst 3 none (wA yX6_putFirst cX6_putFirst 3 none) rmX6_putFirst 0 0 2 ∧ (Cond.static yX6_putFirst).before args s = true := va_cwS 2 ht (good_S hl qt_yX6_putFirst qi_RX6 qc_yX6_putFirst) rfl rfl rfl (by decide +kernel) ⟨hf, hlo⟩
theorem kNX6_putFirst {R : Room} {s : State} {args : Array Value} {own : String} {index : Nat} (ht : ∀ w ∈ lw_all, w.before args s = true) (hl : va_Nw (nestW (own, index, yX6_putFirst, RX6)) s) (hf : rmX6_putFirst.frames + 1 ≤ R.frames) (hlo : 8 + (3 + 11) + rmX6_putFirst.locals ≤ R.locals) : va_CN R s args own index yX6_putFirst RX6 cX6_putFirst 3 none (wA yX6_putFirst cX6_putFirst 3 none) rmX6_putFirst 0 0 2 ∧ (Cond.static yX6_putFirst).before args s = true ∧ True := ⟨va_cnB 2 ht (good_wA qc_yX6_putFirst) rfl rfl rfl hl (ht _ qi_RX6) (by decide +kernel) ⟨hf, hlo⟩, ht _ qt_yX6_putFirst, trivial⟩
set_option maxRecDepth 100000 in
set_option maxHeartbeats 4000000 in
theorem met_X6_putFirst (l : Launch) (D : va_G) (ad : Adr) (cy : Nat → ClassId) (S : Mem) (t0 : Nat) (P0 : Nat) (i0 : Nat) (n0 : Nat) (x1 : Int32) {Q : Mem → Prop} (ha0 : iarr t0 P0 i0 n0) (hq : vc_X6_putFirst S t0 P0 i0 n0 x1 Q) : Cv l yX6_putFirst (wA yX6_putFirst cX6_putFirst 3 none) rmX6_putFirst D ad cy [.ref (ad t0 P0 i0), .int x1] S Q := by
  intro o sz
  refine mkC (own := RX6) (lv := [(0, .ref (ad t0 P0 i0)), (1, .int x1)]) (by decide) rfl (Nat.le_of_ble_eq_true rfl) rfl ⟨rfl, rfl⟩ ?_
  intro p e s m below meth c ls hsz hM hlocks hret hK hA hX hl
  have L5 : ∀ {K : Mem → Prop} (hk : ∀ (S : Mem), K S → ∀ (H : Heap) (locs : List Loc) (ls : Array Slot), PW D ad cy (AW ad sz) s.heap o S H locs → lv_has ls 3 [(0, .ref (ad t0 P0 i0)), (1, .int x1)] → Wv D ad cy o sz Q p l e rmX6_putFirst s m [.ref (ad t0 P0 i0), .int x1] below meth c H locs (F0 m 23 ls [])), ∀ (n : Nat) (S : Mem) (y2 : Int32), vc_X6_putFirst_L5 Q K t0 P0 i0 n0 x1 n S y2 → ∀ (H : Heap) (locs : List Loc) (ls : Array Slot), PW D ad cy (AW ad sz) s.heap o S H locs → lv_has ls 3 [(0, .ref (ad t0 P0 i0)), (1, .int x1), (2, .int y2)] → Wv D ad cy o sz Q p l e rmX6_putFirst s m [.ref (ad t0 P0 i0), .int x1] below meth c H locs (F0 m 5 ls []) := by
    intro K hk n
    induction n with
    | zero =>
      intro S y2 hq
      rw [vc_X6_putFirst_L5] at hq
      exact hq.elim
    | succ n ih =>
      intro S y2 hq H locs ls hX hl
      rw [vc_X6_putFirst_L5] at hq
      refine lv_iload_n hM.1 hM.2.1 dX6_putFirst_5 rfl (lv_at hl 2 rfl) ?_
      refine lv_if_le (tgt := 23) hM.1 hM.2.1 dX6_putFirst_6 (by decide) (fun c_1 => ?_) (fun c_1 => ?_)
      · replace hq := hq.1 c_1
        exact hk S hq _ _ _ hX (lv_sub hl [0, 1] rfl)
      replace hq := hq.2 c_1
      refine lv_aload_n hM.1 hM.2.1 dX6_putFirst_9 rfl (lv_at hl 0 rfl) ?_
      refine lv_iload_n hM.1 hM.2.1 dX6_putFirst_10 rfl (lv_at hl 2 rfl) ?_
      refine lv_aload_n hM.1 hM.2.1 dX6_putFirst_11 rfl (lv_at hl 0 rfl) ?_
      refine lv_iload_n hM.1 hM.2.1 dX6_putFirst_12 rfl (lv_at hl 2 rfl) ?_
      refine lv_iconst (v := (1 : Int32)) hM.1 hM.2.1 dX6_putFirst_13 (by decide) ?_
      refine lv_isub hM.1 hM.2.1 dX6_putFirst_14 ?_
      have c_2 := hq.1
      replace hq := hq.2
      refine r_iald hM hK hX ha0.1 (ha0.2 ad cy) c_2 dX6_putFirst_15 ?_
      have c_4 := hq.1
      replace hq := hq.2
      refine r_iast hM hK hX ha0.1 (ha0.2 ad cy) c_4 dX6_putFirst_16 (fun S_3 e_5 H locs hX => ?_)
      replace hq := hq S_3 e_5
      refine lv_iinc (v := (y2 + (-1 : Int32))) (lv' := [(2, .int (y2 + (-1 : Int32))), (0, .ref (ad t0 P0 i0)), (1, .int x1)]) hM.1 hM.2.1 dX6_putFirst_17 hl (k := 2) rfl rfl (by decide) rfl (fun ls hl => ?_)
      refine lv_goto (tgt := 5) hM.1 hM.2.1 dX6_putFirst_20 (by decide) ?_
      exact ih S_3 (y2 + (-1 : Int32)) hq _ _ _ hX (lv_sub hl [1, 2, 0] rfl)
  unfold vc_X6_putFirst at hq
  refine lv_aload_n hM.1 hM.2.1 dX6_putFirst_0 rfl (lv_at hl 0 rfl) ?_
  refine r_alen (v := nI n0) (t0 := 0) hM hK hX ha0.1 ((ha0.2 ad cy) _) rfl rfl dX6_putFirst_1 ?_
  refine lv_iconst (v := (1 : Int32)) hM.1 hM.2.1 dX6_putFirst_2 (by decide) ?_
  refine lv_isub hM.1 hM.2.1 dX6_putFirst_3 ?_
  refine lv_istore_n (lv' := [(2, .int ((nI n0) - (1 : Int32))), (0, .ref (ad t0 P0 i0)), (1, .int x1)]) hM.1 hM.2.1 dX6_putFirst_4 rfl hl (by decide) rfl (fun ls hl => ?_)
  obtain ⟨k0, hq⟩ := hq
  refine L5 (fun S_6 hq H locs ls hX hl => ?_) k0 S ((nI n0) - (1 : Int32)) hq _ _ _ hX (lv_sub hl [1, 2, 0] rfl)
  refine lv_aload_n hM.1 hM.2.1 dX6_putFirst_23 rfl (lv_at hl 0 rfl) ?_
  refine r_alen (v := nI n0) (t0 := 0) hM hK hX ha0.1 ((ha0.2 ad cy) _) rfl rfl dX6_putFirst_24 ?_
  refine lv_if_le (tgt := 32) hM.1 hM.2.1 dX6_putFirst_25 (by decide) (fun c_7 => ?_) (fun c_7 => ?_)
  · replace hq := hq.1 c_7
    exact e_v hM hX hlocks hret hq dX6_putFirst_32
  replace hq := hq.2 c_7
  refine lv_aload_n hM.1 hM.2.1 dX6_putFirst_28 rfl (lv_at hl 0 rfl) ?_
  refine lv_iconst (v := (0 : Int32)) hM.1 hM.2.1 dX6_putFirst_29 (by decide) ?_
  refine lv_iload_n hM.1 hM.2.1 dX6_putFirst_30 rfl (lv_at hl 1 rfl) ?_
  have c_9 := hq.1
  replace hq := hq.2
  refine r_iast hM hK hX ha0.1 (ha0.2 ad cy) c_9 dX6_putFirst_31 (fun S_8 e_10 H locs hX => ?_)
  replace hq := hq S_8 e_10
  exact e_v hM hX hlocks hret hq dX6_putFirst_32
def rmX5_mendedWith : Room := { frames := 1, cells := 0, slots := 0, locals := 21 }
theorem kX5_mendedWith {R : Room} {s : State} {args : Array Value} {own : String} {index : Nat} (ht : ∀ w ∈ lw_all, w.before args s = true) (hl : Cond.methodLink own index yX5_mendedWith ∈ lw_all) (hf : rmX5_mendedWith.frames + 1 ≤ R.frames) (hlo : 8 + (5 + 11) + rmX5_mendedWith.locals ≤ R.locals) : CallW R s args own RX5 index yX5_mendedWith cX5_mendedWith 5 (some Jvm.ClassFile.FieldType.int) (wA yX5_mendedWith cX5_mendedWith 5 (some Jvm.ClassFile.FieldType.int)) rmX5_mendedWith 0 0 1 := cwV 1 ht (good_V hl qm_yX5_mendedWith qs_yX5_mendedWith qi_RX5 qc_yX5_mendedWith) rfl rfl rfl (by decide +kernel) ⟨hf, hlo⟩
set_option maxRecDepth 100000 in
set_option maxHeartbeats 4000000 in
theorem met_X5_mendedWith (l : Launch) (D : va_G) (ad : Adr) (cy : Nat → ClassId) (S : Mem) (P : Nat) (i : Nat) (x1 : Int32) {Q : Mem → Int32 → Prop} (hv : P < 11 ∧ i < 11) (hq : vc_X5_mendedWith S P i x1 Q) : Ci l yX5_mendedWith (wA yX5_mendedWith cX5_mendedWith 5 (some Jvm.ClassFile.FieldType.int)) rmX5_mendedWith D ad cy [.ref (ad 5 P i), .int x1] S Q := by
  intro o sz
  refine mkC (own := RX5) (lv := [(0, .ref (ad 5 P i)), (1, .int x1)]) (by decide) rfl (Nat.le_of_ble_eq_true rfl) rfl ⟨rfl, rfl⟩ ?_
  intro p e s m below meth c ls hsz hM hlocks hret hK hA hX hl
  unfold vc_X5_mendedWith at hq
  refine lv_aload_n hM.1 hM.2.1 dX5_mendedWith_0 rfl (lv_at hl 0 rfl) ?_
  refine g5 hM hK hX (id_T hv).1 2 (by decide) qf_RX5_45 rfl dX5_mendedWith_1 ?_
  refine lv_if_ne (tgt := 10) hM.1 hM.2.1 dX5_mendedWith_4 (by decide) (fun c_1 => ?_) (fun c_1 => ?_)
  · replace hq := hq.1 c_1
    refine lv_aload_n hM.1 hM.2.1 dX5_mendedWith_10 rfl (lv_at hl 0 rfl) ?_
    refine g5 hM hK hX (id_T hv).1 1 (by decide) qf_RX5_15 rfl dX5_mendedWith_11 ?_
    refine lv_iconst (v := (0 : Int32)) hM.1 hM.2.1 dX5_mendedWith_14 (by decide) ?_
    refine cSNi (As := [.ref (ad 7 P i), .int (0 : Int32)]) hM hK hX hA (met_X6_entry l D ad cy S 7 P i 6 (0 : Int32) ⟨(id_T hv).2.2, fun _ _ => (a7 P i)⟩ hq) (kNX6_entry hM.2.2.2.2 (hK.2 _ ql_RX5_80) (Nat.le_of_ble_eq_true rfl) (Nat.le_of_ble_eq_true rfl)) rfl hl.1 rfl (Nat.le_of_ble_eq_true rfl) dX5_mendedWith_15 ⟨Nat.zero_le _, Nat.zero_le _⟩ (fun S_2 r_3 hq H locs hX => ?_)
    refine lv_istore_n (lv' := [(2, .int r_3), (0, .ref (ad 5 P i)), (1, .int x1)]) hM.1 hM.2.1 dX5_mendedWith_18 rfl hl (by decide) rfl (fun ls hl => ?_)
    refine lv_aload_n hM.1 hM.2.1 dX5_mendedWith_19 rfl (lv_at hl 1 rfl) ?_
    refine g5 hM hK hX (id_T hv).1 2 (by decide) qf_RX5_45 rfl dX5_mendedWith_20 ?_
    refine lv_iconst (v := (1 : Int32)) hM.1 hM.2.1 dX5_mendedWith_23 (by decide) ?_
    refine lv_icmp_ne (tgt := 34) hM.1 hM.2.1 dX5_mendedWith_24 (by decide) (fun c_4 => ?_) (fun c_4 => ?_)
    · replace hq := hq.1 c_4
      refine lv_iload_n hM.1 hM.2.1 dX5_mendedWith_34 rfl (lv_at hl 0 rfl) ?_
      refine lv_aload_n hM.1 hM.2.1 dX5_mendedWith_35 rfl (lv_at hl 1 rfl) ?_
      refine g5 hM hK hX (id_T hv).1 1 (by decide) qf_RX5_15 rfl dX5_mendedWith_36 ?_
      refine lv_iconst (v := (1 : Int32)) hM.1 hM.2.1 dX5_mendedWith_39 (by decide) ?_
      refine cSNi (As := [.ref (ad 7 P i), .int (1 : Int32)]) hM hK hX hA (met_X6_entry l D ad cy S_2 7 P i 6 (1 : Int32) ⟨(id_T hv).2.2, fun _ _ => (a7 P i)⟩ hq) (kNX6_entry hM.2.2.2.2 (hK.2 _ ql_RX5_80) (Nat.le_of_ble_eq_true rfl) (Nat.le_of_ble_eq_true rfl)) rfl hl.1 rfl (Nat.le_of_ble_eq_true rfl) dX5_mendedWith_40 ⟨Nat.zero_le _, Nat.zero_le _⟩ (fun S_5 r_6 hq H locs hX => ?_)
      refine lv_isub hM.1 hM.2.1 dX5_mendedWith_43 ?_
      refine lv_istore_n (lv' := [(3, .int (r_3 - r_6)), (2, .int r_3), (0, .ref (ad 5 P i)), (1, .int x1)]) hM.1 hM.2.1 dX5_mendedWith_44 rfl hl (by decide) rfl (fun ls hl => ?_)
      refine lv_aload_n hM.1 hM.2.1 dX5_mendedWith_45 rfl (lv_at hl 2 rfl) ?_
      refine g5 hM hK hX (id_T hv).1 0 (by decide) qf_RX5_9 rfl dX5_mendedWith_46 ?_
      refine lv_iconst (v := (0 : Int32)) hM.1 hM.2.1 dX5_mendedWith_49 (by decide) ?_
      refine cSNi (As := [.ref (ad 6 P i), .int (0 : Int32)]) hM hK hX hA (met_X6_entry l D ad cy S_5 6 P i 6 (0 : Int32) ⟨(id_T hv).2.1, fun _ _ => (a6 P i)⟩ hq) (kNX6_entry hM.2.2.2.2 (hK.2 _ ql_RX5_80) (Nat.le_of_ble_eq_true rfl) (Nat.le_of_ble_eq_true rfl)) rfl hl.1 rfl (Nat.le_of_ble_eq_true rfl) dX5_mendedWith_50 ⟨Nat.zero_le _, Nat.zero_le _⟩ (fun S_7 r_8 hq H locs hX => ?_)
      refine lv_aload_n hM.1 hM.2.1 dX5_mendedWith_53 rfl (lv_at hl 2 rfl) ?_
      refine g5 hM hK hX (id_T hv).1 0 (by decide) qf_RX5_9 rfl dX5_mendedWith_54 ?_
      refine lv_iconst (v := (1 : Int32)) hM.1 hM.2.1 dX5_mendedWith_57 (by decide) ?_
      refine cSNi (As := [.ref (ad 6 P i), .int (1 : Int32)]) hM hK hX hA (met_X6_entry l D ad cy S_7 6 P i 6 (1 : Int32) ⟨(id_T hv).2.1, fun _ _ => (a6 P i)⟩ hq) (kNX6_entry hM.2.2.2.2 (hK.2 _ ql_RX5_80) (Nat.le_of_ble_eq_true rfl) (Nat.le_of_ble_eq_true rfl)) rfl hl.1 rfl (Nat.le_of_ble_eq_true rfl) dX5_mendedWith_58 ⟨Nat.zero_le _, Nat.zero_le _⟩ (fun S_9 r_10 hq H locs hX => ?_)
      refine lv_isub hM.1 hM.2.1 dX5_mendedWith_61 ?_
      refine lv_istore (lv' := [(4, .int (r_8 - r_10)), (3, .int (r_3 - r_6)), (2, .int r_3), (0, .ref (ad 5 P i)), (1, .int x1)]) hM.1 hM.2.1 dX5_mendedWith_62 hl (by decide) rfl (fun ls hl => ?_)
      refine lv_iload_n hM.1 hM.2.1 dX5_mendedWith_64 rfl (lv_at hl 2 rfl) ?_
      refine lv_iload_n hM.1 hM.2.1 dX5_mendedWith_65 rfl (lv_at hl 1 rfl) ?_
      refine lv_iload_n hM.1 hM.2.1 dX5_mendedWith_66 rfl (lv_at hl 4 rfl) ?_
      refine lv_iconst (v := (1 : Int32)) hM.1 hM.2.1 dX5_mendedWith_67 (by decide) ?_
      refine lv_isub hM.1 hM.2.1 dX5_mendedWith_68 ?_
      refine lv_imul hM.1 hM.2.1 dX5_mendedWith_69 ?_
      refine lv_iload hM.1 hM.2.1 dX5_mendedWith_70 (lv_at hl 0 rfl) ?_
      refine cSNi (As := [.int ((r_3 - r_6) * (x1 - (1 : Int32))), .int (r_8 - r_10)]) hM hK hX hA (met_X6_quotient l D ad cy S_9 ((r_3 - r_6) * (x1 - (1 : Int32))) (r_8 - r_10) hq) (kNX6_quotient hM.2.2.2.2 (hK.2 _ ql_RX5_63) (Nat.le_of_ble_eq_true rfl) (Nat.le_of_ble_eq_true rfl)) rfl hl.1 rfl (Nat.le_of_ble_eq_true rfl) dX5_mendedWith_72 ⟨Nat.zero_le _, Nat.zero_le _⟩ (fun S_11 r_12 hq H locs hX => ?_)
      refine lv_iadd hM.1 hM.2.1 dX5_mendedWith_75 ?_
      refine lv_aload_n hM.1 hM.2.1 dX5_mendedWith_76 rfl (lv_at hl 3 rfl) ?_
      refine g5 hM hK hX (id_T hv).1 4 (by decide) qf_RX5_32 rfl dX5_mendedWith_77 ?_
      refine lv_isub hM.1 hM.2.1 dX5_mendedWith_80 ?_
      exact e_i hM hX hlocks hret hq dX5_mendedWith_81
    replace hq := hq.2 c_4
    refine lv_iload_n hM.1 hM.2.1 dX5_mendedWith_27 rfl (lv_at hl 0 rfl) ?_
    refine lv_aload_n hM.1 hM.2.1 dX5_mendedWith_28 rfl (lv_at hl 1 rfl) ?_
    refine g5 hM hK hX (id_T hv).1 4 (by decide) qf_RX5_32 rfl dX5_mendedWith_29 ?_
    refine lv_isub hM.1 hM.2.1 dX5_mendedWith_32 ?_
    exact e_i hM hX hlocks hret hq dX5_mendedWith_33
  replace hq := hq.2 c_1
  refine lv_ldc hM.1 hM.2.1 hM.2.2.2.1 (hM.2.2.2.2 _ qn_RX5_25) dX5_mendedWith_7 ?_
  exact e_i hM hX hlocks hret hq dX5_mendedWith_9
def rmX5_takeReading : Room := { frames := 2, cells := 0, slots := 0, locals := 45 }
theorem kX5_takeReading {R : Room} {s : State} {args : Array Value} {own : String} {index : Nat} (ht : ∀ w ∈ lw_all, w.before args s = true) (hl : Cond.methodLink own index yX5_takeReading ∈ lw_all) (hf : rmX5_takeReading.frames + 1 ≤ R.frames) (hlo : 8 + (2 + 11) + rmX5_takeReading.locals ≤ R.locals) : CallW R s args own RX5 index yX5_takeReading cX5_takeReading 2 none (wA yX5_takeReading cX5_takeReading 2 none) rmX5_takeReading 0 0 1 := cwV 1 ht (good_V hl qm_yX5_takeReading qs_yX5_takeReading qi_RX5 qc_yX5_takeReading) rfl rfl rfl (by decide +kernel) ⟨hf, hlo⟩
set_option maxRecDepth 100000 in
set_option maxHeartbeats 4000000 in
theorem met_X5_takeReading (l : Launch) (D : va_G) (ad : Adr) (cy : Nat → ClassId) (S : Mem) (P : Nat) (i : Nat) (x1 : Int32) {Q : Mem → Prop} (hv : P < 11 ∧ i < 11) (hq : vc_X5_takeReading S P i x1 Q) : Cv l yX5_takeReading (wA yX5_takeReading cX5_takeReading 2 none) rmX5_takeReading D ad cy [.ref (ad 5 P i), .int x1] S Q := by
  intro o sz
  refine mkC (own := RX5) (lv := [(0, .ref (ad 5 P i)), (1, .int x1)]) (by decide) rfl (Nat.le_of_ble_eq_true rfl) rfl ⟨rfl, rfl⟩ ?_
  intro p e s m below meth c ls hsz hM hlocks hret hK hA hX hl
  unfold vc_X5_takeReading at hq
  refine lv_aload_n hM.1 hM.2.1 dX5_takeReading_0 rfl (lv_at hl 0 rfl) ?_
  refine g5 hM hK hX (id_T hv).1 0 (by decide) qf_RX5_9 rfl dX5_takeReading_1 ?_
  refine lv_iload_n hM.1 hM.2.1 dX5_takeReading_4 rfl (lv_at hl 1 rfl) ?_
  refine cSNv (As := [.ref (ad 6 P i), .int x1]) hM hK hX hA (met_X6_putFirst l D ad cy S 6 P i 6 x1 ⟨(id_T hv).2.1, fun _ _ => (a6 P i)⟩ hq) (kNX6_putFirst hM.2.2.2.2 (hK.2 _ ql_RX5_67) (Nat.le_of_ble_eq_true rfl) (Nat.le_of_ble_eq_true rfl)) rfl hl.1 rfl (Nat.le_of_ble_eq_true rfl) dX5_takeReading_5 ⟨Nat.zero_le _, Nat.zero_le _⟩ (fun S_1 hq H locs hX => ?_)
  refine lv_aload_n hM.1 hM.2.1 dX5_takeReading_8 rfl (lv_at hl 0 rfl) ?_
  refine g5 hM hK hX (id_T hv).1 1 (by decide) qf_RX5_15 rfl dX5_takeReading_9 ?_
  refine lv_aload_n hM.1 hM.2.1 dX5_takeReading_12 rfl (lv_at hl 0 rfl) ?_
  refine g5 hM hK hX (id_T hv).1 7 (by decide) qf_RX5_42 rfl dX5_takeReading_13 ?_
  refine cSNv (As := [.ref (ad 7 P i), .int (S_1 5 P i 7)]) hM hK hX hA (met_X6_putFirst l D ad cy S_1 7 P i 6 (S_1 5 P i 7) ⟨(id_T hv).2.2, fun _ _ => (a7 P i)⟩ hq) (kNX6_putFirst hM.2.2.2.2 (hK.2 _ ql_RX5_67) (Nat.le_of_ble_eq_true rfl) (Nat.le_of_ble_eq_true rfl)) rfl hl.1 rfl (Nat.le_of_ble_eq_true rfl) dX5_takeReading_16 ⟨Nat.zero_le _, Nat.zero_le _⟩ (fun S_2 hq H locs hX => ?_)
  refine lv_aload_n hM.1 hM.2.1 dX5_takeReading_19 rfl (lv_at hl 0 rfl) ?_
  refine lv_aload_n hM.1 hM.2.1 dX5_takeReading_20 rfl (lv_at hl 0 rfl) ?_
  refine g5 hM hK hX (id_T hv).1 2 (by decide) qf_RX5_45 rfl dX5_takeReading_21 ?_
  refine lv_iconst (v := (1 : Int32)) hM.1 hM.2.1 dX5_takeReading_24 (by decide) ?_
  refine lv_iadd hM.1 hM.2.1 dX5_takeReading_25 ?_
  refine lv_bipush (v := (6 : Int32)) hM.1 hM.2.1 dX5_takeReading_26 (by decide) ?_
  refine r_min hM hl.1 ql_RX5_71 (Nat.le_of_ble_eq_true rfl) (Nat.le_of_ble_eq_true rfl) (Nat.le_of_ble_eq_true rfl) (Nat.le_of_ble_eq_true rfl) dX5_takeReading_28 ?_
  refine p5_2 hM hK hX (id_T hv).1 qf_RX5_45 dX5_takeReading_31 (fun S_3 e_4 H locs hX => ?_)
  replace hq := hq S_3 e_4
  refine lv_aload_n hM.1 hM.2.1 dX5_takeReading_34 rfl (lv_at hl 0 rfl) ?_
  refine lv_aload_n hM.1 hM.2.1 dX5_takeReading_35 rfl (lv_at hl 0 rfl) ?_
  refine lv_aload_n hM.1 hM.2.1 dX5_takeReading_36 rfl (lv_at hl 0 rfl) ?_
  refine g5 hM hK hX (id_T hv).1 3 (by decide) qf_RX5_18 rfl dX5_takeReading_37 ?_
  refine cVi (As := [.int (S_3 5 P i 3)]) hM hK hX hA (met_X5_mendedWith l D ad cy S_3 P i (S_3 5 P i 3) hv hq) (kX5_mendedWith hM.2.2.2.2 ql_RX5_76 (Nat.le_of_ble_eq_true rfl) (Nat.le_of_ble_eq_true rfl)) (v5 hK hX (id_T hv).1) rfl hl.1 rfl (Nat.le_of_ble_eq_true rfl) dX5_takeReading_40 ⟨Nat.zero_le _, Nat.zero_le _⟩ (fun S_5 r_6 hq H locs hX => ?_)
  refine p5_11 hM hK hX (id_T hv).1 qf_RX5_26 dX5_takeReading_43 (fun S_7 e_8 H locs hX => ?_)
  replace hq := hq S_7 e_8
  exact e_v hM hX hlocks hret hq dX5_takeReading_46
def rmX3_readRows : Room := { frames := 3, cells := 0, slots := 0, locals := 66 }
theorem kX3_readRows {R : Room} {s : State} {args : Array Value} {own : String} {index : Nat} (ht : ∀ w ∈ lw_all, w.before args s = true) (hl : Cond.methodLink own index yX3_readRows ∈ lw_all) (hf : rmX3_readRows.frames + 1 ≤ R.frames) (hlo : 8 + (2 + 11) + rmX3_readRows.locals ≤ R.locals) : CallW R s args own RX3 index yX3_readRows cX3_readRows 2 none (wA yX3_readRows cX3_readRows 2 none) rmX3_readRows 0 0 0 := cwV 0 ht (good_V hl qm_yX3_readRows qs_yX3_readRows qi_RX3 qc_yX3_readRows) rfl rfl rfl (by decide +kernel) ⟨hf, hlo⟩
set_option maxRecDepth 100000 in
set_option maxHeartbeats 4000000 in
theorem met_X3_readRows (l : Launch) (D : va_G) (ad : Adr) (cy : Nat → ClassId) (S : Mem) (P : Nat) {Q : Mem → Prop} (hv : P < 11) (hq : vc_X3_readRows S P Q) : Cv l yX3_readRows (wA yX3_readRows cX3_readRows 2 none) rmX3_readRows D ad cy [.ref (ad 3 P 0)] S Q := by
  intro o sz
  refine mkC (own := RX3) (lv := [(0, .ref (ad 3 P 0))]) (by decide) rfl (Nat.le_of_ble_eq_true rfl) rfl ⟨rfl, rfl⟩ ?_
  intro p e s m below meth c ls hsz hM hlocks hret hK hA hX hl
  have J29 : ∀ {K0 : Mem → Int32 → Prop} (hk0 : ∀ (S : Mem) (y1 : Int32), K0 S y1 → ∀ (H : Heap) (locs : List Loc) (ls : Array Slot), PW D ad cy (AW ad sz) s.heap o S H locs → lv_has ls 2 [(0, .ref (ad 3 P 0)), (1, .int y1)] → Wv D ad cy o sz Q p l e rmX3_readRows s m [.ref (ad 3 P 0)] below meth c H locs (F0 m 2 ls [])), ∀ {K1 : Mem → Prop} (hk1 : ∀ (S : Mem), K1 S → ∀ (H : Heap) (locs : List Loc) (ls : Array Slot), PW D ad cy (AW ad sz) s.heap o S H locs → lv_has ls 2 [(0, .ref (ad 3 P 0))] → Wv D ad cy o sz Q p l e rmX3_readRows s m [.ref (ad 3 P 0)] below meth c H locs (F0 m 35 ls [])), ∀ (S : Mem) (y1 : Int32), vc_X3_readRows_J29 Q K0 K1 P S y1 → ∀ (H : Heap) (locs : List Loc) (ls : Array Slot), PW D ad cy (AW ad sz) s.heap o S H locs → lv_has ls 2 [(0, .ref (ad 3 P 0)), (1, .int y1)] → Wv D ad cy o sz Q p l e rmX3_readRows s m [.ref (ad 3 P 0)] below meth c H locs (F0 m 29 ls []) := by
    intro K0 hk0 K1 hk1 S y1 hq H locs ls hX hl
    unfold vc_X3_readRows_J29 at hq
    refine lv_iinc (v := (y1 + (1 : Int32))) (lv' := [(1, .int (y1 + (1 : Int32))), (0, .ref (ad 3 P 0))]) hM.1 hM.2.1 dX3_readRows_29 hl (k := 1) rfl rfl (by decide) rfl (fun ls hl => ?_)
    refine lv_goto (tgt := 2) hM.1 hM.2.1 dX3_readRows_32 (by decide) ?_
    exact hk0 S (y1 + (1 : Int32)) hq _ _ _ hX (lv_sub hl [1, 0] rfl)
  have L2 : ∀ {K : Mem → Prop} (hk : ∀ (S : Mem), K S → ∀ (H : Heap) (locs : List Loc) (ls : Array Slot), PW D ad cy (AW ad sz) s.heap o S H locs → lv_has ls 2 [(0, .ref (ad 3 P 0))] → Wv D ad cy o sz Q p l e rmX3_readRows s m [.ref (ad 3 P 0)] below meth c H locs (F0 m 35 ls [])), ∀ (n : Nat) (S : Mem) (y1 : Int32), vc_X3_readRows_L2 Q K P n S y1 → ∀ (H : Heap) (locs : List Loc) (ls : Array Slot), PW D ad cy (AW ad sz) s.heap o S H locs → lv_has ls 2 [(0, .ref (ad 3 P 0)), (1, .int y1)] → Wv D ad cy o sz Q p l e rmX3_readRows s m [.ref (ad 3 P 0)] below meth c H locs (F0 m 2 ls []) := by
    intro K hk n
    induction n with
    | zero =>
      intro S y1 hq
      rw [vc_X3_readRows_L2] at hq
      exact hq.elim
    | succ n ih =>
      intro S y1 hq H locs ls hX hl
      rw [vc_X3_readRows_L2] at hq
      refine lv_iload_n hM.1 hM.2.1 dX3_readRows_2 rfl (lv_at hl 1 rfl) ?_
      refine lv_aload_n hM.1 hM.2.1 dX3_readRows_3 rfl (lv_at hl 0 rfl) ?_
      refine g3 hM hK hX (id_P hv).2.1 3 (by decide) qf_RX3_26 rfl dX3_readRows_4 ?_
      refine r_alen (v := (4 : Int32)) (t0 := 0) hM hK hX (id_P hv).2.2.2.2.2 rfl rfl rfl dX3_readRows_7 ?_
      refine lv_icmp_ge (tgt := 35) hM.1 hM.2.1 dX3_readRows_8 (by decide) (fun c_1 => ?_) (fun c_1 => ?_)
      · replace hq := hq.1 c_1
        exact hk S hq _ _ _ hX (lv_sub hl [0] rfl)
      replace hq := hq.2 c_1
      refine lv_aload_n hM.1 hM.2.1 dX3_readRows_11 rfl (lv_at hl 0 rfl) ?_
      refine lv_iload_n hM.1 hM.2.1 dX3_readRows_12 rfl (lv_at hl 1 rfl) ?_
      refine cVi (As := [.int y1]) hM hK hX hA (met_X3_isReadNow l D ad cy S P y1 hv hq) (kX3_isReadNow hM.2.2.2.2 ql_RX3_118 (Nat.le_of_ble_eq_true rfl) (Nat.le_of_ble_eq_true rfl)) (v3 hK hX (id_P hv).2.1) rfl hl.1 rfl (Nat.le_of_ble_eq_true rfl) dX3_readRows_13 ⟨Nat.zero_le _, Nat.zero_le _⟩ (fun S_2 r_3 hq H locs hX => ?_)
      refine lv_if_eq (tgt := 29) hM.1 hM.2.1 dX3_readRows_16 (by decide) (fun c_4 => ?_) (fun c_4 => ?_)
      · replace hq := hq.1 c_4
        exact J29 ih hk S_2 y1 hq _ _ _ hX (lv_sub hl [0, 1] rfl)
      replace hq := hq.2 c_4
      refine lv_aload_n hM.1 hM.2.1 dX3_readRows_19 rfl (lv_at hl 0 rfl) ?_
      refine g3 hM hK hX (id_P hv).2.1 3 (by decide) qf_RX3_26 rfl dX3_readRows_20 ?_
      refine lv_iload_n hM.1 hM.2.1 dX3_readRows_23 rfl (lv_at hl 1 rfl) ?_
      refine lv_dup2_11 hM.1 hM.2.1 dX3_readRows_24 rfl rfl ?_
      have c_5 := hq.1
      replace hq := hq.2
      refine r_iald hM hK hX (id_P hv).2.2.2.2.2 (a13 P 0) c_5 dX3_readRows_25 ?_
      refine lv_iconst (v := (1 : Int32)) hM.1 hM.2.1 dX3_readRows_26 (by decide) ?_
      refine lv_iadd hM.1 hM.2.1 dX3_readRows_27 ?_
      have c_7 := hq.1
      replace hq := hq.2
      refine r_iast hM hK hX (id_P hv).2.2.2.2.2 (a13 P 0) c_7 dX3_readRows_28 (fun S_6 e_8 H locs hX => ?_)
      replace hq := hq S_6 e_8
      exact J29 ih hk S_6 y1 hq _ _ _ hX (lv_sub hl [0, 1] rfl)
  have J82 : ∀ {K0 : Mem → Int32 → Prop} (hk0 : ∀ (S : Mem) (y1 : Int32), K0 S y1 → ∀ (H : Heap) (locs : List Loc) (ls : Array Slot), PW D ad cy (AW ad sz) s.heap o S H locs → lv_has ls 2 [(0, .ref (ad 3 P 0)), (1, .int y1)] → Wv D ad cy o sz Q p l e rmX3_readRows s m [.ref (ad 3 P 0)] below meth c H locs (F0 m 37 ls [])), ∀ {K1 : Mem → Prop} (hk1 : ∀ (S : Mem), K1 S → ∀ (H : Heap) (locs : List Loc) (ls : Array Slot), PW D ad cy (AW ad sz) s.heap o S H locs → lv_has ls 2 [] → Wv D ad cy o sz Q p l e rmX3_readRows s m [.ref (ad 3 P 0)] below meth c H locs (F0 m 88 ls [])), ∀ (S : Mem) (y1 : Int32), vc_X3_readRows_J82 Q K0 K1 P S y1 → ∀ (H : Heap) (locs : List Loc) (ls : Array Slot), PW D ad cy (AW ad sz) s.heap o S H locs → lv_has ls 2 [(0, .ref (ad 3 P 0)), (1, .int y1)] → Wv D ad cy o sz Q p l e rmX3_readRows s m [.ref (ad 3 P 0)] below meth c H locs (F0 m 82 ls []) := by
    intro K0 hk0 K1 hk1 S y1 hq H locs ls hX hl
    unfold vc_X3_readRows_J82 at hq
    refine lv_iinc (v := (y1 + (1 : Int32))) (lv' := [(1, .int (y1 + (1 : Int32))), (0, .ref (ad 3 P 0))]) hM.1 hM.2.1 dX3_readRows_82 hl (k := 1) rfl rfl (by decide) rfl (fun ls hl => ?_)
    refine lv_goto (tgt := 37) hM.1 hM.2.1 dX3_readRows_85 (by decide) ?_
    exact hk0 S (y1 + (1 : Int32)) hq _ _ _ hX (lv_sub hl [1, 0] rfl)
  have L37 : ∀ {K : Mem → Prop} (hk : ∀ (S : Mem), K S → ∀ (H : Heap) (locs : List Loc) (ls : Array Slot), PW D ad cy (AW ad sz) s.heap o S H locs → lv_has ls 2 [] → Wv D ad cy o sz Q p l e rmX3_readRows s m [.ref (ad 3 P 0)] below meth c H locs (F0 m 88 ls [])), ∀ (n : Nat) (S : Mem) (y1 : Int32), vc_X3_readRows_L37 Q K P n S y1 → ∀ (H : Heap) (locs : List Loc) (ls : Array Slot), PW D ad cy (AW ad sz) s.heap o S H locs → lv_has ls 2 [(0, .ref (ad 3 P 0)), (1, .int y1)] → Wv D ad cy o sz Q p l e rmX3_readRows s m [.ref (ad 3 P 0)] below meth c H locs (F0 m 37 ls []) := by
    intro K hk n
    induction n with
    | zero =>
      intro S y1 hq
      rw [vc_X3_readRows_L37] at hq
      exact hq.elim
    | succ n ih =>
      intro S y1 hq H locs ls hX hl
      rw [vc_X3_readRows_L37] at hq
      refine lv_iload_n hM.1 hM.2.1 dX3_readRows_37 rfl (lv_at hl 1 rfl) ?_
      refine lv_aload_n hM.1 hM.2.1 dX3_readRows_38 rfl (lv_at hl 0 rfl) ?_
      refine g3 hM hK hX (id_P hv).2.1 6 (by decide) qf_RX3_50 rfl dX3_readRows_39 ?_
      refine lv_icmp_ge (tgt := 88) hM.1 hM.2.1 dX3_readRows_42 (by decide) (fun c_10 => ?_) (fun c_10 => ?_)
      · replace hq := hq.1 c_10
        exact hk S hq _ _ _ hX (lv_sub hl [] rfl)
      replace hq := hq.2 c_10
      refine lv_aload_n hM.1 hM.2.1 dX3_readRows_45 rfl (lv_at hl 0 rfl) ?_
      refine lv_aload_n hM.1 hM.2.1 dX3_readRows_46 rfl (lv_at hl 0 rfl) ?_
      refine lv_iload_n hM.1 hM.2.1 dX3_readRows_47 rfl (lv_at hl 1 rfl) ?_
      refine cVr (As := [.int y1]) hM hK hX hA (met_X3_at l D ad cy S P y1 hv hq) (kX3_at hM.2.2.2.2 ql_RX3_53 (Nat.le_of_ble_eq_true rfl) (Nat.le_of_ble_eq_true rfl)) (v3 hK hX (id_P hv).2.1) rfl hl.1 rfl (Nat.le_of_ble_eq_true rfl) dX3_readRows_48 ⟨Nat.zero_le _, Nat.zero_le _⟩ (fun S_11 P_12 i_13 hq H locs hX => ?_)
      have hT_14 := hq.1
      replace hq := hq.2
      refine g5 hM hK hX (id_T hT_14).1 5 (by decide) qf_RX3_90 rfl dX3_readRows_51 ?_
      refine cVi (As := [.int (S_11 5 P_12 i_13 5)]) hM hK hX hA (met_X3_isReadNow l D ad cy S_11 P (S_11 5 P_12 i_13 5) hv hq) (kX3_isReadNow hM.2.2.2.2 ql_RX3_118 (Nat.le_of_ble_eq_true rfl) (Nat.le_of_ble_eq_true rfl)) (v3 hK hX (id_P hv).2.1) rfl hl.1 rfl (Nat.le_of_ble_eq_true rfl) dX3_readRows_54 ⟨Nat.zero_le _, Nat.zero_le _⟩ (fun S_15 r_16 hq H locs hX => ?_)
      refine lv_if_eq (tgt := 82) hM.1 hM.2.1 dX3_readRows_57 (by decide) (fun c_17 => ?_) (fun c_17 => ?_)
      · replace hq := hq.1 c_17
        exact J82 ih hk S_15 y1 hq _ _ _ hX (lv_sub hl [0, 1] rfl)
      replace hq := hq.2 c_17
      refine lv_aload_n hM.1 hM.2.1 dX3_readRows_60 rfl (lv_at hl 0 rfl) ?_
      refine lv_iload_n hM.1 hM.2.1 dX3_readRows_61 rfl (lv_at hl 1 rfl) ?_
      refine cVr (As := [.int y1]) hM hK hX hA (met_X3_at l D ad cy S_15 P y1 hv hq) (kX3_at hM.2.2.2.2 ql_RX3_53 (Nat.le_of_ble_eq_true rfl) (Nat.le_of_ble_eq_true rfl)) (v3 hK hX (id_P hv).2.1) rfl hl.1 rfl (Nat.le_of_ble_eq_true rfl) dX3_readRows_62 ⟨Nat.zero_le _, Nat.zero_le _⟩ (fun S_18 P_19 i_20 hq H locs hX => ?_)
      refine lv_aload_n hM.1 hM.2.1 dX3_readRows_65 rfl (lv_at hl 0 rfl) ?_
      refine g3 hM hK hX (id_P hv).2.1 7 (by decide) qf_RX3_65 rfl dX3_readRows_66 ?_
      have hT_21 := hq.1
      replace hq := hq.2
      refine cVv (As := [.int (S_18 3 P 0 7)]) hM hK hX hA (met_X5_takeReading l D ad cy S_18 P_19 i_20 (S_18 3 P 0 7) hT_21 hq) (kX5_takeReading hM.2.2.2.2 ql_RX3_122 (Nat.le_of_ble_eq_true rfl) (Nat.le_of_ble_eq_true rfl)) (v5 hK hX (id_T hT_21).1) rfl hl.1 rfl (Nat.le_of_ble_eq_true rfl) dX3_readRows_69 ⟨Nat.zero_le _, Nat.zero_le _⟩ (fun S_22 hq H locs hX => ?_)
      refine lv_aload_n hM.1 hM.2.1 dX3_readRows_72 rfl (lv_at hl 0 rfl) ?_
      refine lv_dup hM.1 hM.2.1 dX3_readRows_73 rfl ?_
      refine g3 hM hK hX (id_P hv).2.1 9 (by decide) qf_RX3_68 rfl dX3_readRows_74 ?_
      refine lv_iconst (v := (1 : Int32)) hM.1 hM.2.1 dX3_readRows_77 (by decide) ?_
      refine lv_iadd hM.1 hM.2.1 dX3_readRows_78 ?_
      refine p3_9 hM hK hX (id_P hv).2.1 qf_RX3_68 dX3_readRows_79 (fun S_23 e_24 H locs hX => ?_)
      replace hq := hq S_23 e_24
      exact J82 ih hk S_23 y1 hq _ _ _ hX (lv_sub hl [0, 1] rfl)
  unfold vc_X3_readRows at hq
  refine lv_iconst (v := (0 : Int32)) hM.1 hM.2.1 dX3_readRows_0 (by decide) ?_
  refine lv_istore_n (lv' := [(1, .int (0 : Int32)), (0, .ref (ad 3 P 0))]) hM.1 hM.2.1 dX3_readRows_1 rfl hl (by decide) rfl (fun ls hl => ?_)
  obtain ⟨k0, hq⟩ := hq
  refine L2 (fun S_9 hq H locs ls hX hl => ?_) k0 S (0 : Int32) hq _ _ _ hX (lv_sub hl [1, 0] rfl)
  refine lv_iconst (v := (0 : Int32)) hM.1 hM.2.1 dX3_readRows_35 (by decide) ?_
  refine lv_istore_n (lv' := [(1, .int (0 : Int32)), (0, .ref (ad 3 P 0))]) hM.1 hM.2.1 dX3_readRows_36 rfl hl (by decide) rfl (fun ls hl => ?_)
  obtain ⟨k0, hq⟩ := hq
  refine L37 (fun S_25 hq H locs ls hX hl => ?_) k0 S_9 (0 : Int32) hq _ _ _ hX (lv_sub hl [1, 0] rfl)
  exact e_v hM hX hlocks hret hq dX3_readRows_88
def rmX3_maskOfAsked : Room := { frames := 1, cells := 0, slots := 0, locals := 22 }
theorem kX3_maskOfAsked {R : Room} {s : State} {args : Array Value} {own : String} {index : Nat} (ht : ∀ w ∈ lw_all, w.before args s = true) (hl : Cond.methodLink own index yX3_maskOfAsked ∈ lw_all) (hf : rmX3_maskOfAsked.frames + 1 ≤ R.frames) (hlo : 8 + (3 + 11) + rmX3_maskOfAsked.locals ≤ R.locals) : CallW R s args own RX3 index yX3_maskOfAsked cX3_maskOfAsked 3 (some Jvm.ClassFile.FieldType.int) (wA yX3_maskOfAsked cX3_maskOfAsked 3 (some Jvm.ClassFile.FieldType.int)) rmX3_maskOfAsked 0 0 0 := cwV 0 ht (good_V hl qm_yX3_maskOfAsked qs_yX3_maskOfAsked qi_RX3 qc_yX3_maskOfAsked) rfl rfl rfl (by decide +kernel) ⟨hf, hlo⟩
set_option maxRecDepth 100000 in
set_option maxHeartbeats 4000000 in
theorem met_X3_maskOfAsked (l : Launch) (D : va_G) (ad : Adr) (cy : Nat → ClassId) (S : Mem) (P : Nat) {Q : Mem → Int32 → Prop} (hv : P < 11) (hq : vc_X3_maskOfAsked S P Q) : Ci l yX3_maskOfAsked (wA yX3_maskOfAsked cX3_maskOfAsked 3 (some Jvm.ClassFile.FieldType.int)) rmX3_maskOfAsked D ad cy [.ref (ad 3 P 0)] S Q := by
  intro o sz
  refine mkC (own := RX3) (lv := [(0, .ref (ad 3 P 0))]) (by decide) rfl (Nat.le_of_ble_eq_true rfl) rfl ⟨rfl, rfl⟩ ?_
  intro p e s m below meth c ls hsz hM hlocks hret hK hA hX hl
  have J29 : ∀ {K0 : Mem → Int32 → Int32 → Prop} (hk0 : ∀ (S : Mem) (y1 : Int32) (y2 : Int32), K0 S y1 y2 → ∀ (H : Heap) (locs : List Loc) (ls : Array Slot), PW D ad cy (AW ad sz) s.heap o S H locs → lv_has ls 3 [(0, .ref (ad 3 P 0)), (1, .int y1), (2, .int y2)] → Wi D ad cy o sz Q p l e rmX3_maskOfAsked s m [.ref (ad 3 P 0)] below meth c H locs (F0 m 4 ls [])), ∀ {K1 : Mem → Int32 → Prop} (hk1 : ∀ (S : Mem) (y1 : Int32), K1 S y1 → ∀ (H : Heap) (locs : List Loc) (ls : Array Slot), PW D ad cy (AW ad sz) s.heap o S H locs → lv_has ls 3 [(1, .int y1)] → Wi D ad cy o sz Q p l e rmX3_maskOfAsked s m [.ref (ad 3 P 0)] below meth c H locs (F0 m 35 ls [])), ∀ (S : Mem) (y1 : Int32) (y2 : Int32), vc_X3_maskOfAsked_J29 Q K0 K1 P S y1 y2 → ∀ (H : Heap) (locs : List Loc) (ls : Array Slot), PW D ad cy (AW ad sz) s.heap o S H locs → lv_has ls 3 [(0, .ref (ad 3 P 0)), (1, .int y1), (2, .int y2)] → Wi D ad cy o sz Q p l e rmX3_maskOfAsked s m [.ref (ad 3 P 0)] below meth c H locs (F0 m 29 ls []) := by
    intro K0 hk0 K1 hk1 S y1 y2 hq H locs ls hX hl
    unfold vc_X3_maskOfAsked_J29 at hq
    refine lv_iinc (v := (y2 + (1 : Int32))) (lv' := [(2, .int (y2 + (1 : Int32))), (0, .ref (ad 3 P 0)), (1, .int y1)]) hM.1 hM.2.1 dX3_maskOfAsked_29 hl (k := 2) rfl rfl (by decide) rfl (fun ls hl => ?_)
    refine lv_goto (tgt := 4) hM.1 hM.2.1 dX3_maskOfAsked_32 (by decide) ?_
    exact hk0 S y1 (y2 + (1 : Int32)) hq _ _ _ hX (lv_sub hl [1, 2, 0] rfl)
  have L4 : ∀ {K : Mem → Int32 → Prop} (hk : ∀ (S : Mem) (y1 : Int32), K S y1 → ∀ (H : Heap) (locs : List Loc) (ls : Array Slot), PW D ad cy (AW ad sz) s.heap o S H locs → lv_has ls 3 [(1, .int y1)] → Wi D ad cy o sz Q p l e rmX3_maskOfAsked s m [.ref (ad 3 P 0)] below meth c H locs (F0 m 35 ls [])), ∀ (n : Nat) (S : Mem) (y1 : Int32) (y2 : Int32), vc_X3_maskOfAsked_L4 Q K P n S y1 y2 → ∀ (H : Heap) (locs : List Loc) (ls : Array Slot), PW D ad cy (AW ad sz) s.heap o S H locs → lv_has ls 3 [(0, .ref (ad 3 P 0)), (1, .int y1), (2, .int y2)] → Wi D ad cy o sz Q p l e rmX3_maskOfAsked s m [.ref (ad 3 P 0)] below meth c H locs (F0 m 4 ls []) := by
    intro K hk n
    induction n with
    | zero =>
      intro S y1 y2 hq
      rw [vc_X3_maskOfAsked_L4] at hq
      exact hq.elim
    | succ n ih =>
      intro S y1 y2 hq H locs ls hX hl
      rw [vc_X3_maskOfAsked_L4] at hq
      refine lv_iload_n hM.1 hM.2.1 dX3_maskOfAsked_4 rfl (lv_at hl 2 rfl) ?_
      refine lv_aload_n hM.1 hM.2.1 dX3_maskOfAsked_5 rfl (lv_at hl 0 rfl) ?_
      refine g3 hM hK hX (id_P hv).2.1 6 (by decide) qf_RX3_50 rfl dX3_maskOfAsked_6 ?_
      refine lv_icmp_ge (tgt := 35) hM.1 hM.2.1 dX3_maskOfAsked_9 (by decide) (fun c_1 => ?_) (fun c_1 => ?_)
      · replace hq := hq.1 c_1
        exact hk S y1 hq _ _ _ hX (lv_sub hl [1] rfl)
      replace hq := hq.2 c_1
      refine lv_aload_n hM.1 hM.2.1 dX3_maskOfAsked_12 rfl (lv_at hl 0 rfl) ?_
      refine lv_iload_n hM.1 hM.2.1 dX3_maskOfAsked_13 rfl (lv_at hl 2 rfl) ?_
      refine cVr (As := [.int y2]) hM hK hX hA (met_X3_at l D ad cy S P y2 hv hq) (kX3_at hM.2.2.2.2 ql_RX3_53 (Nat.le_of_ble_eq_true rfl) (Nat.le_of_ble_eq_true rfl)) (v3 hK hX (id_P hv).2.1) rfl hl.1 rfl (Nat.le_of_ble_eq_true rfl) dX3_maskOfAsked_14 ⟨Nat.zero_le _, Nat.zero_le _⟩ (fun S_2 P_3 i_4 hq H locs hX => ?_)
      have hT_5 := hq.1
      replace hq := hq.2
      refine cVi (As := []) hM hK hX hA (met_X5_isAsked l D ad cy S_2 P_3 i_4 hT_5 hq) (kX5_isAsked hM.2.2.2.2 ql_RX3_153 (Nat.le_of_ble_eq_true rfl) (Nat.le_of_ble_eq_true rfl)) (v5 hK hX (id_T hT_5).1) rfl hl.1 rfl (Nat.le_of_ble_eq_true rfl) dX3_maskOfAsked_17 ⟨Nat.zero_le _, Nat.zero_le _⟩ (fun S_6 r_7 hq H locs hX => ?_)
      refine lv_if_eq (tgt := 29) hM.1 hM.2.1 dX3_maskOfAsked_20 (by decide) (fun c_8 => ?_) (fun c_8 => ?_)
      · replace hq := hq.1 c_8
        exact J29 ih hk S_6 y1 y2 hq _ _ _ hX (lv_sub hl [0, 1, 2] rfl)
      replace hq := hq.2 c_8
      refine lv_iload_n hM.1 hM.2.1 dX3_maskOfAsked_23 rfl (lv_at hl 1 rfl) ?_
      refine lv_iconst (v := (1 : Int32)) hM.1 hM.2.1 dX3_maskOfAsked_24 (by decide) ?_
      refine lv_iload_n hM.1 hM.2.1 dX3_maskOfAsked_25 rfl (lv_at hl 2 rfl) ?_
      refine lv_ishl hM.1 hM.2.1 dX3_maskOfAsked_26 ?_
      refine lv_ior hM.1 hM.2.1 dX3_maskOfAsked_27 ?_
      refine lv_istore_n (lv' := [(1, .int (y1 ||| ((1 : Int32) <<< (y2 &&& 31)))), (0, .ref (ad 3 P 0)), (2, .int y2)]) hM.1 hM.2.1 dX3_maskOfAsked_28 rfl hl (by decide) rfl (fun ls hl => ?_)
      exact J29 ih hk S_6 (y1 ||| ((1 : Int32) <<< (y2 &&& 31))) y2 hq _ _ _ hX (lv_sub hl [1, 0, 2] rfl)
  unfold vc_X3_maskOfAsked at hq
  refine lv_iconst (v := (0 : Int32)) hM.1 hM.2.1 dX3_maskOfAsked_0 (by decide) ?_
  refine lv_istore_n (lv' := [(1, .int (0 : Int32)), (0, .ref (ad 3 P 0))]) hM.1 hM.2.1 dX3_maskOfAsked_1 rfl hl (by decide) rfl (fun ls hl => ?_)
  refine lv_iconst (v := (0 : Int32)) hM.1 hM.2.1 dX3_maskOfAsked_2 (by decide) ?_
  refine lv_istore_n (lv' := [(2, .int (0 : Int32)), (1, .int (0 : Int32)), (0, .ref (ad 3 P 0))]) hM.1 hM.2.1 dX3_maskOfAsked_3 rfl hl (by decide) rfl (fun ls hl => ?_)
  obtain ⟨k0, hq⟩ := hq
  refine L4 (fun S_9 y1_10 hq H locs ls hX hl => ?_) k0 S (0 : Int32) (0 : Int32) hq _ _ _ hX (lv_sub hl [2, 1, 0] rfl)
  refine lv_iload_n hM.1 hM.2.1 dX3_maskOfAsked_35 rfl (lv_at hl 0 rfl) ?_
  exact e_i hM hX hlocks hret hq dX3_maskOfAsked_36
def rmJ6_bitCount_0f7a4 : Room := { frames := 0, cells := 0, slots := 0, locals := 0 }
theorem kJ6_bitCount_0f7a4 {R : Room} {s : State} {args : Array Value} {own : String} {index : Nat} (ht : ∀ w ∈ lw_all, w.before args s = true) (hl : Cond.methodLink own index yJ6_bitCount_0f7a4 ∈ lw_all) (hf : rmJ6_bitCount_0f7a4.frames + 1 ≤ R.frames) (hlo : 8 + (1 + 11) + rmJ6_bitCount_0f7a4.locals ≤ R.locals) : CallB R s args own index yJ6_bitCount_0f7a4 cJ6_bitCount_0f7a4 1 (some Jvm.ClassFile.FieldType.int) (wA yJ6_bitCount_0f7a4 cJ6_bitCount_0f7a4 1 (some Jvm.ClassFile.FieldType.int)) rmJ6_bitCount_0f7a4 0 0 1 ∧ (Cond.static yJ6_bitCount_0f7a4).before args s = true := va_cwS 1 ht (good_S hl qt_yJ6_bitCount_0f7a4 qi_RJ6 qc_yJ6_bitCount_0f7a4) rfl rfl rfl (by decide +kernel) ⟨hf, hlo⟩
set_option maxRecDepth 100000 in
set_option maxHeartbeats 4000000 in
theorem met_J6_bitCount_0f7a4 (l : Launch) (D : va_G) (ad : Adr) (cy : Nat → ClassId) (S : Mem) (x0 : Int32) {Q : Mem → Int32 → Prop} (hq : vc_J6_bitCount_0f7a4 S x0 Q) : Ci l yJ6_bitCount_0f7a4 (wA yJ6_bitCount_0f7a4 cJ6_bitCount_0f7a4 1 (some Jvm.ClassFile.FieldType.int)) rmJ6_bitCount_0f7a4 D ad cy [.int x0] S Q := by
  intro o sz
  refine mkC (own := RJ6) (lv := [(0, .int x0)]) (by decide) rfl (Nat.le_of_ble_eq_true rfl) rfl ⟨rfl, rfl⟩ ?_
  intro p e s m below meth c ls hsz hM hlocks hret hK hA hX hl
  unfold vc_J6_bitCount_0f7a4 at hq
  refine lv_iload_n hM.1 hM.2.1 dJ6_bitCount_0f7a4_0 rfl (lv_at hl 0 rfl) ?_
  refine lv_iload_n hM.1 hM.2.1 dJ6_bitCount_0f7a4_1 rfl (lv_at hl 0 rfl) ?_
  refine lv_iconst (v := (1 : Int32)) hM.1 hM.2.1 dJ6_bitCount_0f7a4_2 (by decide) ?_
  refine lv_iushr hM.1 hM.2.1 dJ6_bitCount_0f7a4_3 rfl ?_
  refine lv_ldcw hM.1 hM.2.1 hM.2.2.2.1 (hM.2.2.2.2 _ qn_RJ6_265) dJ6_bitCount_0f7a4_4 ?_
  refine lv_iand hM.1 hM.2.1 dJ6_bitCount_0f7a4_7 ?_
  refine lv_isub hM.1 hM.2.1 dJ6_bitCount_0f7a4_8 ?_
  refine lv_istore_n (lv' := [(0, .int (x0 - ((x0.toUInt32 >>> ((1 : Int32).toUInt32 &&& Int32.toUInt32 31)).toInt32 &&& (1431655765 : Int32))))]) hM.1 hM.2.1 dJ6_bitCount_0f7a4_9 rfl hl (by decide) rfl (fun ls hl => ?_)
  refine lv_iload_n hM.1 hM.2.1 dJ6_bitCount_0f7a4_10 rfl (lv_at hl 0 rfl) ?_
  refine lv_ldcw hM.1 hM.2.1 hM.2.2.2.1 (hM.2.2.2.2 _ qn_RJ6_266) dJ6_bitCount_0f7a4_11 ?_
  refine lv_iand hM.1 hM.2.1 dJ6_bitCount_0f7a4_14 ?_
  refine lv_iload_n hM.1 hM.2.1 dJ6_bitCount_0f7a4_15 rfl (lv_at hl 0 rfl) ?_
  refine lv_iconst (v := (2 : Int32)) hM.1 hM.2.1 dJ6_bitCount_0f7a4_16 (by decide) ?_
  refine lv_iushr hM.1 hM.2.1 dJ6_bitCount_0f7a4_17 rfl ?_
  refine lv_ldcw hM.1 hM.2.1 hM.2.2.2.1 (hM.2.2.2.2 _ qn_RJ6_266) dJ6_bitCount_0f7a4_18 ?_
  refine lv_iand hM.1 hM.2.1 dJ6_bitCount_0f7a4_21 ?_
  refine lv_iadd hM.1 hM.2.1 dJ6_bitCount_0f7a4_22 ?_
  refine lv_istore_n (lv' := [(0, .int (((x0 - ((x0.toUInt32 >>> ((1 : Int32).toUInt32 &&& Int32.toUInt32 31)).toInt32 &&& (1431655765 : Int32))) &&& (858993459 : Int32)) + (((x0 - ((x0.toUInt32 >>> ((1 : Int32).toUInt32 &&& Int32.toUInt32 31)).toInt32 &&& (1431655765 : Int32))).toUInt32 >>> ((2 : Int32).toUInt32 &&& Int32.toUInt32 31)).toInt32 &&& (858993459 : Int32))))]) hM.1 hM.2.1 dJ6_bitCount_0f7a4_23 rfl hl (by decide) rfl (fun ls hl => ?_)
  refine lv_iload_n hM.1 hM.2.1 dJ6_bitCount_0f7a4_24 rfl (lv_at hl 0 rfl) ?_
  refine lv_iload_n hM.1 hM.2.1 dJ6_bitCount_0f7a4_25 rfl (lv_at hl 0 rfl) ?_
  refine lv_iconst (v := (4 : Int32)) hM.1 hM.2.1 dJ6_bitCount_0f7a4_26 (by decide) ?_
  refine lv_iushr hM.1 hM.2.1 dJ6_bitCount_0f7a4_27 rfl ?_
  refine lv_iadd hM.1 hM.2.1 dJ6_bitCount_0f7a4_28 ?_
  refine lv_ldcw hM.1 hM.2.1 hM.2.2.2.1 (hM.2.2.2.2 _ qn_RJ6_267) dJ6_bitCount_0f7a4_29 ?_
  refine lv_iand hM.1 hM.2.1 dJ6_bitCount_0f7a4_32 ?_
  refine lv_istore_n (lv' := [(0, .int (((((x0 - ((x0.toUInt32 >>> ((1 : Int32).toUInt32 &&& Int32.toUInt32 31)).toInt32 &&& (1431655765 : Int32))) &&& (858993459 : Int32)) + (((x0 - ((x0.toUInt32 >>> ((1 : Int32).toUInt32 &&& Int32.toUInt32 31)).toInt32 &&& (1431655765 : Int32))).toUInt32 >>> ((2 : Int32).toUInt32 &&& Int32.toUInt32 31)).toInt32 &&& (858993459 : Int32))) + ((((x0 - ((x0.toUInt32 >>> ((1 : Int32).toUInt32 &&& Int32.toUInt32 31)).toInt32 &&& (1431655765 : Int32))) &&& (858993459 : Int32)) + (((x0 - ((x0.toUInt32 >>> ((1 : Int32).toUInt32 &&& Int32.toUInt32 31)).toInt32 &&& (1431655765 : Int32))).toUInt32 >>> ((2 : Int32).toUInt32 &&& Int32.toUInt32 31)).toInt32 &&& (858993459 : Int32))).toUInt32 >>> ((4 : Int32).toUInt32 &&& Int32.toUInt32 31)).toInt32) &&& (252645135 : Int32)))]) hM.1 hM.2.1 dJ6_bitCount_0f7a4_33 rfl hl (by decide) rfl (fun ls hl => ?_)
  refine lv_iload_n hM.1 hM.2.1 dJ6_bitCount_0f7a4_34 rfl (lv_at hl 0 rfl) ?_
  refine lv_iload_n hM.1 hM.2.1 dJ6_bitCount_0f7a4_35 rfl (lv_at hl 0 rfl) ?_
  refine lv_bipush (v := (8 : Int32)) hM.1 hM.2.1 dJ6_bitCount_0f7a4_36 (by decide) ?_
  refine lv_iushr hM.1 hM.2.1 dJ6_bitCount_0f7a4_38 rfl ?_
  refine lv_iadd hM.1 hM.2.1 dJ6_bitCount_0f7a4_39 ?_
  refine lv_istore_n (lv' := [(0, .int ((((((x0 - ((x0.toUInt32 >>> ((1 : Int32).toUInt32 &&& Int32.toUInt32 31)).toInt32 &&& (1431655765 : Int32))) &&& (858993459 : Int32)) + (((x0 - ((x0.toUInt32 >>> ((1 : Int32).toUInt32 &&& Int32.toUInt32 31)).toInt32 &&& (1431655765 : Int32))).toUInt32 >>> ((2 : Int32).toUInt32 &&& Int32.toUInt32 31)).toInt32 &&& (858993459 : Int32))) + ((((x0 - ((x0.toUInt32 >>> ((1 : Int32).toUInt32 &&& Int32.toUInt32 31)).toInt32 &&& (1431655765 : Int32))) &&& (858993459 : Int32)) + (((x0 - ((x0.toUInt32 >>> ((1 : Int32).toUInt32 &&& Int32.toUInt32 31)).toInt32 &&& (1431655765 : Int32))).toUInt32 >>> ((2 : Int32).toUInt32 &&& Int32.toUInt32 31)).toInt32 &&& (858993459 : Int32))).toUInt32 >>> ((4 : Int32).toUInt32 &&& Int32.toUInt32 31)).toInt32) &&& (252645135 : Int32)) + ((((((x0 - ((x0.toUInt32 >>> ((1 : Int32).toUInt32 &&& Int32.toUInt32 31)).toInt32 &&& (1431655765 : Int32))) &&& (858993459 : Int32)) + (((x0 - ((x0.toUInt32 >>> ((1 : Int32).toUInt32 &&& Int32.toUInt32 31)).toInt32 &&& (1431655765 : Int32))).toUInt32 >>> ((2 : Int32).toUInt32 &&& Int32.toUInt32 31)).toInt32 &&& (858993459 : Int32))) + ((((x0 - ((x0.toUInt32 >>> ((1 : Int32).toUInt32 &&& Int32.toUInt32 31)).toInt32 &&& (1431655765 : Int32))) &&& (858993459 : Int32)) + (((x0 - ((x0.toUInt32 >>> ((1 : Int32).toUInt32 &&& Int32.toUInt32 31)).toInt32 &&& (1431655765 : Int32))).toUInt32 >>> ((2 : Int32).toUInt32 &&& Int32.toUInt32 31)).toInt32 &&& (858993459 : Int32))).toUInt32 >>> ((4 : Int32).toUInt32 &&& Int32.toUInt32 31)).toInt32) &&& (252645135 : Int32)).toUInt32 >>> ((8 : Int32).toUInt32 &&& Int32.toUInt32 31)).toInt32))]) hM.1 hM.2.1 dJ6_bitCount_0f7a4_40 rfl hl (by decide) rfl (fun ls hl => ?_)
  refine lv_iload_n hM.1 hM.2.1 dJ6_bitCount_0f7a4_41 rfl (lv_at hl 0 rfl) ?_
  refine lv_iload_n hM.1 hM.2.1 dJ6_bitCount_0f7a4_42 rfl (lv_at hl 0 rfl) ?_
  refine lv_bipush (v := (16 : Int32)) hM.1 hM.2.1 dJ6_bitCount_0f7a4_43 (by decide) ?_
  refine lv_iushr hM.1 hM.2.1 dJ6_bitCount_0f7a4_45 rfl ?_
  refine lv_iadd hM.1 hM.2.1 dJ6_bitCount_0f7a4_46 ?_
  refine lv_istore_n (lv' := [(0, .int (((((((x0 - ((x0.toUInt32 >>> ((1 : Int32).toUInt32 &&& Int32.toUInt32 31)).toInt32 &&& (1431655765 : Int32))) &&& (858993459 : Int32)) + (((x0 - ((x0.toUInt32 >>> ((1 : Int32).toUInt32 &&& Int32.toUInt32 31)).toInt32 &&& (1431655765 : Int32))).toUInt32 >>> ((2 : Int32).toUInt32 &&& Int32.toUInt32 31)).toInt32 &&& (858993459 : Int32))) + ((((x0 - ((x0.toUInt32 >>> ((1 : Int32).toUInt32 &&& Int32.toUInt32 31)).toInt32 &&& (1431655765 : Int32))) &&& (858993459 : Int32)) + (((x0 - ((x0.toUInt32 >>> ((1 : Int32).toUInt32 &&& Int32.toUInt32 31)).toInt32 &&& (1431655765 : Int32))).toUInt32 >>> ((2 : Int32).toUInt32 &&& Int32.toUInt32 31)).toInt32 &&& (858993459 : Int32))).toUInt32 >>> ((4 : Int32).toUInt32 &&& Int32.toUInt32 31)).toInt32) &&& (252645135 : Int32)) + ((((((x0 - ((x0.toUInt32 >>> ((1 : Int32).toUInt32 &&& Int32.toUInt32 31)).toInt32 &&& (1431655765 : Int32))) &&& (858993459 : Int32)) + (((x0 - ((x0.toUInt32 >>> ((1 : Int32).toUInt32 &&& Int32.toUInt32 31)).toInt32 &&& (1431655765 : Int32))).toUInt32 >>> ((2 : Int32).toUInt32 &&& Int32.toUInt32 31)).toInt32 &&& (858993459 : Int32))) + ((((x0 - ((x0.toUInt32 >>> ((1 : Int32).toUInt32 &&& Int32.toUInt32 31)).toInt32 &&& (1431655765 : Int32))) &&& (858993459 : Int32)) + (((x0 - ((x0.toUInt32 >>> ((1 : Int32).toUInt32 &&& Int32.toUInt32 31)).toInt32 &&& (1431655765 : Int32))).toUInt32 >>> ((2 : Int32).toUInt32 &&& Int32.toUInt32 31)).toInt32 &&& (858993459 : Int32))).toUInt32 >>> ((4 : Int32).toUInt32 &&& Int32.toUInt32 31)).toInt32) &&& (252645135 : Int32)).toUInt32 >>> ((8 : Int32).toUInt32 &&& Int32.toUInt32 31)).toInt32) + (((((((x0 - ((x0.toUInt32 >>> ((1 : Int32).toUInt32 &&& Int32.toUInt32 31)).toInt32 &&& (1431655765 : Int32))) &&& (858993459 : Int32)) + (((x0 - ((x0.toUInt32 >>> ((1 : Int32).toUInt32 &&& Int32.toUInt32 31)).toInt32 &&& (1431655765 : Int32))).toUInt32 >>> ((2 : Int32).toUInt32 &&& Int32.toUInt32 31)).toInt32 &&& (858993459 : Int32))) + ((((x0 - ((x0.toUInt32 >>> ((1 : Int32).toUInt32 &&& Int32.toUInt32 31)).toInt32 &&& (1431655765 : Int32))) &&& (858993459 : Int32)) + (((x0 - ((x0.toUInt32 >>> ((1 : Int32).toUInt32 &&& Int32.toUInt32 31)).toInt32 &&& (1431655765 : Int32))).toUInt32 >>> ((2 : Int32).toUInt32 &&& Int32.toUInt32 31)).toInt32 &&& (858993459 : Int32))).toUInt32 >>> ((4 : Int32).toUInt32 &&& Int32.toUInt32 31)).toInt32) &&& (252645135 : Int32)) + ((((((x0 - ((x0.toUInt32 >>> ((1 : Int32).toUInt32 &&& Int32.toUInt32 31)).toInt32 &&& (1431655765 : Int32))) &&& (858993459 : Int32)) + (((x0 - ((x0.toUInt32 >>> ((1 : Int32).toUInt32 &&& Int32.toUInt32 31)).toInt32 &&& (1431655765 : Int32))).toUInt32 >>> ((2 : Int32).toUInt32 &&& Int32.toUInt32 31)).toInt32 &&& (858993459 : Int32))) + ((((x0 - ((x0.toUInt32 >>> ((1 : Int32).toUInt32 &&& Int32.toUInt32 31)).toInt32 &&& (1431655765 : Int32))) &&& (858993459 : Int32)) + (((x0 - ((x0.toUInt32 >>> ((1 : Int32).toUInt32 &&& Int32.toUInt32 31)).toInt32 &&& (1431655765 : Int32))).toUInt32 >>> ((2 : Int32).toUInt32 &&& Int32.toUInt32 31)).toInt32 &&& (858993459 : Int32))).toUInt32 >>> ((4 : Int32).toUInt32 &&& Int32.toUInt32 31)).toInt32) &&& (252645135 : Int32)).toUInt32 >>> ((8 : Int32).toUInt32 &&& Int32.toUInt32 31)).toInt32).toUInt32 >>> ((16 : Int32).toUInt32 &&& Int32.toUInt32 31)).toInt32))]) hM.1 hM.2.1 dJ6_bitCount_0f7a4_47 rfl hl (by decide) rfl (fun ls hl => ?_)
  refine lv_iload_n hM.1 hM.2.1 dJ6_bitCount_0f7a4_48 rfl (lv_at hl 0 rfl) ?_
  refine lv_bipush (v := (63 : Int32)) hM.1 hM.2.1 dJ6_bitCount_0f7a4_49 (by decide) ?_
  refine lv_iand hM.1 hM.2.1 dJ6_bitCount_0f7a4_51 ?_
  exact e_i hM hX hlocks hret hq dJ6_bitCount_0f7a4_52
def rmX5_hourAgo : Room := { frames := 1, cells := 0, slots := 0, locals := 21 }
theorem kX5_hourAgo {R : Room} {s : State} {args : Array Value} {own : String} {index : Nat} (ht : ∀ w ∈ lw_all, w.before args s = true) (hl : Cond.methodLink own index yX5_hourAgo ∈ lw_all) (hf : rmX5_hourAgo.frames + 1 ≤ R.frames) (hlo : 8 + (2 + 11) + rmX5_hourAgo.locals ≤ R.locals) : CallW R s args own RX5 index yX5_hourAgo cX5_hourAgo 2 (some Jvm.ClassFile.FieldType.int) (wA yX5_hourAgo cX5_hourAgo 2 (some Jvm.ClassFile.FieldType.int)) rmX5_hourAgo 0 0 1 := cwV 1 ht (good_V hl qm_yX5_hourAgo qs_yX5_hourAgo qi_RX5 qc_yX5_hourAgo) rfl rfl rfl (by decide +kernel) ⟨hf, hlo⟩
set_option maxRecDepth 100000 in
set_option maxHeartbeats 4000000 in
theorem met_X5_hourAgo (l : Launch) (D : va_G) (ad : Adr) (cy : Nat → ClassId) (S : Mem) (P : Nat) (i : Nat) (x1 : Int32) {Q : Mem → Int32 → Prop} (hv : P < 11 ∧ i < 11) (hq : vc_X5_hourAgo S P i x1 Q) : Ci l yX5_hourAgo (wA yX5_hourAgo cX5_hourAgo 2 (some Jvm.ClassFile.FieldType.int)) rmX5_hourAgo D ad cy [.ref (ad 5 P i), .int x1] S Q := by
  intro o sz
  refine mkC (own := RX5) (lv := [(0, .ref (ad 5 P i)), (1, .int x1)]) (by decide) rfl (Nat.le_of_ble_eq_true rfl) rfl ⟨rfl, rfl⟩ ?_
  intro p e s m below meth c ls hsz hM hlocks hret hK hA hX hl
  unfold vc_X5_hourAgo at hq
  refine lv_iload_n hM.1 hM.2.1 dX5_hourAgo_0 rfl (lv_at hl 1 rfl) ?_
  refine lv_aload_n hM.1 hM.2.1 dX5_hourAgo_1 rfl (lv_at hl 0 rfl) ?_
  refine g5 hM hK hX (id_T hv).1 2 (by decide) qf_RX5_45 rfl dX5_hourAgo_2 ?_
  refine lv_icmp_ge (tgt := 19) hM.1 hM.2.1 dX5_hourAgo_5 (by decide) (fun c_1 => ?_) (fun c_1 => ?_)
  · replace hq := hq.1 c_1
    refine lv_ldc hM.1 hM.2.1 hM.2.2.2.1 (hM.2.2.2.2 _ qn_RX5_25) dX5_hourAgo_19 ?_
    exact e_i hM hX hlocks hret hq dX5_hourAgo_21
  replace hq := hq.2 c_1
  refine lv_aload_n hM.1 hM.2.1 dX5_hourAgo_8 rfl (lv_at hl 0 rfl) ?_
  refine g5 hM hK hX (id_T hv).1 0 (by decide) qf_RX5_9 rfl dX5_hourAgo_9 ?_
  refine lv_iload_n hM.1 hM.2.1 dX5_hourAgo_12 rfl (lv_at hl 1 rfl) ?_
  refine cSNi (As := [.ref (ad 6 P i), .int x1]) hM hK hX hA (met_X6_entry l D ad cy S 6 P i 6 x1 ⟨(id_T hv).2.1, fun _ _ => (a6 P i)⟩ hq) (kNX6_entry hM.2.2.2.2 (hK.2 _ ql_RX5_80) (Nat.le_of_ble_eq_true rfl) (Nat.le_of_ble_eq_true rfl)) rfl hl.1 rfl (Nat.le_of_ble_eq_true rfl) dX5_hourAgo_13 ⟨Nat.zero_le _, Nat.zero_le _⟩ (fun S_2 r_3 hq H locs hX => ?_)
  refine lv_goto (tgt := 21) hM.1 hM.2.1 dX5_hourAgo_16 (by decide) ?_
  exact e_i hM hX hlocks hret hq dX5_hourAgo_21
def rmX5_isAskedAndReadIn : Room := { frames := 2, cells := 0, slots := 0, locals := 42 }
theorem kX5_isAskedAndReadIn {R : Room} {s : State} {args : Array Value} {own : String} {index : Nat} (ht : ∀ w ∈ lw_all, w.before args s = true) (hl : Cond.methodLink own index yX5_isAskedAndReadIn ∈ lw_all) (hf : rmX5_isAskedAndReadIn.frames + 1 ≤ R.frames) (hlo : 8 + (2 + 11) + rmX5_isAskedAndReadIn.locals ≤ R.locals) : CallW R s args own RX5 index yX5_isAskedAndReadIn cX5_isAskedAndReadIn 2 (some Jvm.ClassFile.FieldType.boolean) (wA yX5_isAskedAndReadIn cX5_isAskedAndReadIn 2 (some Jvm.ClassFile.FieldType.boolean)) rmX5_isAskedAndReadIn 0 0 1 := cwV 1 ht (good_V hl qm_yX5_isAskedAndReadIn qs_yX5_isAskedAndReadIn qi_RX5 qc_yX5_isAskedAndReadIn) rfl rfl rfl (by decide +kernel) ⟨hf, hlo⟩
set_option maxRecDepth 100000 in
set_option maxHeartbeats 4000000 in
theorem met_X5_isAskedAndReadIn (l : Launch) (D : va_G) (ad : Adr) (cy : Nat → ClassId) (S : Mem) (P : Nat) (i : Nat) (x1 : Int32) {Q : Mem → Int32 → Prop} (hv : P < 11 ∧ i < 11) (hq : vc_X5_isAskedAndReadIn S P i x1 Q) : Ci l yX5_isAskedAndReadIn (wA yX5_isAskedAndReadIn cX5_isAskedAndReadIn 2 (some Jvm.ClassFile.FieldType.boolean)) rmX5_isAskedAndReadIn D ad cy [.ref (ad 5 P i), .int x1] S Q := by
  intro o sz
  refine mkC (own := RX5) (lv := [(0, .ref (ad 5 P i)), (1, .int x1)]) (by decide) rfl (Nat.le_of_ble_eq_true rfl) rfl ⟨rfl, rfl⟩ ?_
  intro p e s m below meth c ls hsz hM hlocks hret hK hA hX hl
  unfold vc_X5_isAskedAndReadIn at hq
  refine lv_aload_n hM.1 hM.2.1 dX5_isAskedAndReadIn_0 rfl (lv_at hl 0 rfl) ?_
  refine cVi (As := []) hM hK hX hA (met_X5_isAsked l D ad cy S P i hv hq) (kX5_isAsked hM.2.2.2.2 ql_RX5_84 (Nat.le_of_ble_eq_true rfl) (Nat.le_of_ble_eq_true rfl)) (v5 hK hX (id_T hv).1) rfl hl.1 rfl (Nat.le_of_ble_eq_true rfl) dX5_isAskedAndReadIn_1 ⟨Nat.zero_le _, Nat.zero_le _⟩ (fun S_1 r_2 hq H locs hX => ?_)
  refine lv_if_eq (tgt := 20) hM.1 hM.2.1 dX5_isAskedAndReadIn_4 (by decide) (fun c_3 => ?_) (fun c_3 => ?_)
  · replace hq := hq.1 c_3
    refine lv_iconst (v := (0 : Int32)) hM.1 hM.2.1 dX5_isAskedAndReadIn_20 (by decide) ?_
    exact e_z hM hX hlocks hret rfl hq dX5_isAskedAndReadIn_21
  replace hq := hq.2 c_3
  refine lv_aload_n hM.1 hM.2.1 dX5_isAskedAndReadIn_7 rfl (lv_at hl 0 rfl) ?_
  refine lv_iconst (v := (0 : Int32)) hM.1 hM.2.1 dX5_isAskedAndReadIn_8 (by decide) ?_
  refine cVi (As := [.int (0 : Int32)]) hM hK hX hA (met_X5_hourAgo l D ad cy S_1 P i (0 : Int32) hv hq) (kX5_hourAgo hM.2.2.2.2 ql_RX5_88 (Nat.le_of_ble_eq_true rfl) (Nat.le_of_ble_eq_true rfl)) (v5 hK hX (id_T hv).1) rfl hl.1 rfl (Nat.le_of_ble_eq_true rfl) dX5_isAskedAndReadIn_9 ⟨Nat.zero_le _, Nat.zero_le _⟩ (fun S_4 r_5 hq H locs hX => ?_)
  refine lv_iload_n hM.1 hM.2.1 dX5_isAskedAndReadIn_12 rfl (lv_at hl 1 rfl) ?_
  refine lv_icmp_ne (tgt := 20) hM.1 hM.2.1 dX5_isAskedAndReadIn_13 (by decide) (fun c_6 => ?_) (fun c_6 => ?_)
  · replace hq := hq.1 c_6
    refine lv_iconst (v := (0 : Int32)) hM.1 hM.2.1 dX5_isAskedAndReadIn_20 (by decide) ?_
    exact e_z hM hX hlocks hret rfl hq dX5_isAskedAndReadIn_21
  replace hq := hq.2 c_6
  refine lv_iconst (v := (1 : Int32)) hM.1 hM.2.1 dX5_isAskedAndReadIn_16 (by decide) ?_
  refine lv_goto (tgt := 21) hM.1 hM.2.1 dX5_isAskedAndReadIn_17 (by decide) ?_
  exact e_z hM hX hlocks hret rfl hq dX5_isAskedAndReadIn_21
def rmX3_middleWithout : Room := { frames := 1, cells := 0, slots := 0, locals := 22 }
theorem kX3_middleWithout {R : Room} {s : State} {args : Array Value} {own : String} {index : Nat} (ht : ∀ w ∈ lw_all, w.before args s = true) (hl : Cond.methodLink own index yX3_middleWithout ∈ lw_all) (hf : rmX3_middleWithout.frames + 1 ≤ R.frames) (hlo : 8 + (3 + 11) + rmX3_middleWithout.locals ≤ R.locals) : CallW R s args own RX3 index yX3_middleWithout cX3_middleWithout 3 (some Jvm.ClassFile.FieldType.int) (wA yX3_middleWithout cX3_middleWithout 3 (some Jvm.ClassFile.FieldType.int)) rmX3_middleWithout 0 0 1 := cwV 1 ht (good_V hl qm_yX3_middleWithout qs_yX3_middleWithout qi_RX3 qc_yX3_middleWithout) rfl rfl rfl (by decide +kernel) ⟨hf, hlo⟩
set_option maxRecDepth 100000 in
set_option maxHeartbeats 4000000 in
theorem met_X3_middleWithout (l : Launch) (D : va_G) (ad : Adr) (cy : Nat → ClassId) (S : Mem) (P : Nat) (x1 : Int32) {Q : Mem → Int32 → Prop} (hv : P < 11) (hq : vc_X3_middleWithout S P x1 Q) : Ci l yX3_middleWithout (wA yX3_middleWithout cX3_middleWithout 3 (some Jvm.ClassFile.FieldType.int)) rmX3_middleWithout D ad cy [.ref (ad 3 P 0), .int x1] S Q := by
  intro o sz
  refine mkC (own := RX3) (lv := [(0, .ref (ad 3 P 0)), (1, .int x1)]) (by decide) rfl (Nat.le_of_ble_eq_true rfl) rfl ⟨rfl, rfl⟩ ?_
  intro p e s m below meth c ls hsz hM hlocks hret hK hA hX hl
  have J48 : ∀ {K0 : Mem → Int32 → Prop} (hk0 : ∀ (S : Mem) (y2 : Int32), K0 S y2 → ∀ (H : Heap) (locs : List Loc) (ls : Array Slot), PW D ad cy (AW ad sz) s.heap o S H locs → lv_has ls 3 [(0, .ref (ad 3 P 0)), (1, .int x1), (2, .int y2)] → Wi D ad cy o sz Q p l e rmX3_middleWithout s m [.ref (ad 3 P 0), .int x1] below meth c H locs (F0 m 9 ls [])), ∀ {K1 : Mem → Prop} (hk1 : ∀ (S : Mem), K1 S → ∀ (H : Heap) (locs : List Loc) (ls : Array Slot), PW D ad cy (AW ad sz) s.heap o S H locs → lv_has ls 3 [(0, .ref (ad 3 P 0))] → Wi D ad cy o sz Q p l e rmX3_middleWithout s m [.ref (ad 3 P 0), .int x1] below meth c H locs (F0 m 54 ls [])), ∀ (S : Mem) (y2 : Int32), vc_X3_middleWithout_J48 Q K0 K1 P x1 S y2 → ∀ (H : Heap) (locs : List Loc) (ls : Array Slot), PW D ad cy (AW ad sz) s.heap o S H locs → lv_has ls 3 [(0, .ref (ad 3 P 0)), (1, .int x1), (2, .int y2)] → Wi D ad cy o sz Q p l e rmX3_middleWithout s m [.ref (ad 3 P 0), .int x1] below meth c H locs (F0 m 48 ls []) := by
    intro K0 hk0 K1 hk1 S y2 hq H locs ls hX hl
    unfold vc_X3_middleWithout_J48 at hq
    refine lv_iinc (v := (y2 + (1 : Int32))) (lv' := [(2, .int (y2 + (1 : Int32))), (0, .ref (ad 3 P 0)), (1, .int x1)]) hM.1 hM.2.1 dX3_middleWithout_48 hl (k := 2) rfl rfl (by decide) rfl (fun ls hl => ?_)
    refine lv_goto (tgt := 9) hM.1 hM.2.1 dX3_middleWithout_51 (by decide) ?_
    exact hk0 S (y2 + (1 : Int32)) hq _ _ _ hX (lv_sub hl [1, 2, 0] rfl)
  have L9 : ∀ {K : Mem → Prop} (hk : ∀ (S : Mem), K S → ∀ (H : Heap) (locs : List Loc) (ls : Array Slot), PW D ad cy (AW ad sz) s.heap o S H locs → lv_has ls 3 [(0, .ref (ad 3 P 0))] → Wi D ad cy o sz Q p l e rmX3_middleWithout s m [.ref (ad 3 P 0), .int x1] below meth c H locs (F0 m 54 ls [])), ∀ (n : Nat) (S : Mem) (y2 : Int32), vc_X3_middleWithout_L9 Q K P x1 n S y2 → ∀ (H : Heap) (locs : List Loc) (ls : Array Slot), PW D ad cy (AW ad sz) s.heap o S H locs → lv_has ls 3 [(0, .ref (ad 3 P 0)), (1, .int x1), (2, .int y2)] → Wi D ad cy o sz Q p l e rmX3_middleWithout s m [.ref (ad 3 P 0), .int x1] below meth c H locs (F0 m 9 ls []) := by
    intro K hk n
    induction n with
    | zero =>
      intro S y2 hq
      rw [vc_X3_middleWithout_L9] at hq
      exact hq.elim
    | succ n ih =>
      intro S y2 hq H locs ls hX hl
      rw [vc_X3_middleWithout_L9] at hq
      refine lv_iload_n hM.1 hM.2.1 dX3_middleWithout_9 rfl (lv_at hl 2 rfl) ?_
      refine lv_aload_n hM.1 hM.2.1 dX3_middleWithout_10 rfl (lv_at hl 0 rfl) ?_
      refine g3 hM hK hX (id_P hv).2.1 6 (by decide) qf_RX3_50 rfl dX3_middleWithout_11 ?_
      refine lv_icmp_ge (tgt := 54) hM.1 hM.2.1 dX3_middleWithout_14 (by decide) (fun c_2 => ?_) (fun c_2 => ?_)
      · replace hq := hq.1 c_2
        exact hk S hq _ _ _ hX (lv_sub hl [0] rfl)
      replace hq := hq.2 c_2
      refine lv_iload_n hM.1 hM.2.1 dX3_middleWithout_17 rfl (lv_at hl 2 rfl) ?_
      refine lv_iload_n hM.1 hM.2.1 dX3_middleWithout_18 rfl (lv_at hl 1 rfl) ?_
      refine lv_icmp_eq (tgt := 48) hM.1 hM.2.1 dX3_middleWithout_19 (by decide) (fun c_3 => ?_) (fun c_3 => ?_)
      · replace hq := hq.1 c_3
        exact J48 ih hk S y2 hq _ _ _ hX (lv_sub hl [0, 1, 2] rfl)
      replace hq := hq.2 c_3
      refine lv_aload_n hM.1 hM.2.1 dX3_middleWithout_22 rfl (lv_at hl 0 rfl) ?_
      refine lv_iload_n hM.1 hM.2.1 dX3_middleWithout_23 rfl (lv_at hl 2 rfl) ?_
      refine cVr (As := [.int y2]) hM hK hX hA (met_X3_at l D ad cy S P y2 hv hq) (kX3_at hM.2.2.2.2 ql_RX3_53 (Nat.le_of_ble_eq_true rfl) (Nat.le_of_ble_eq_true rfl)) (v3 hK hX (id_P hv).2.1) rfl hl.1 rfl (Nat.le_of_ble_eq_true rfl) dX3_middleWithout_24 ⟨Nat.zero_le _, Nat.zero_le _⟩ (fun S_4 P_5 i_6 hq H locs hX => ?_)
      have hT_7 := hq.1
      replace hq := hq.2
      refine cVi (As := []) hM hK hX hA (met_X5_isAsked l D ad cy S_4 P_5 i_6 hT_7 hq) (kX5_isAsked hM.2.2.2.2 ql_RX3_153 (Nat.le_of_ble_eq_true rfl) (Nat.le_of_ble_eq_true rfl)) (v5 hK hX (id_T hT_7).1) rfl hl.1 rfl (Nat.le_of_ble_eq_true rfl) dX3_middleWithout_27 ⟨Nat.zero_le _, Nat.zero_le _⟩ (fun S_8 r_9 hq H locs hX => ?_)
      refine lv_if_eq (tgt := 48) hM.1 hM.2.1 dX3_middleWithout_30 (by decide) (fun c_10 => ?_) (fun c_10 => ?_)
      · replace hq := hq.1 c_10
        exact J48 ih hk S_8 y2 hq _ _ _ hX (lv_sub hl [0, 1, 2] rfl)
      replace hq := hq.2 c_10
      refine lv_aload_n hM.1 hM.2.1 dX3_middleWithout_33 rfl (lv_at hl 0 rfl) ?_
      refine g3 hM hK hX (id_P hv).2.1 4 (by decide) qf_RX3_32 rfl dX3_middleWithout_34 ?_
      refine lv_aload_n hM.1 hM.2.1 dX3_middleWithout_37 rfl (lv_at hl 0 rfl) ?_
      refine lv_iload_n hM.1 hM.2.1 dX3_middleWithout_38 rfl (lv_at hl 2 rfl) ?_
      refine cVr (As := [.int y2]) hM hK hX hA (met_X3_at l D ad cy S_8 P y2 hv hq) (kX3_at hM.2.2.2.2 ql_RX3_53 (Nat.le_of_ble_eq_true rfl) (Nat.le_of_ble_eq_true rfl)) (v3 hK hX (id_P hv).2.1) rfl hl.1 rfl (Nat.le_of_ble_eq_true rfl) dX3_middleWithout_39 ⟨Nat.zero_le _, Nat.zero_le _⟩ (fun S_11 P_12 i_13 hq H locs hX => ?_)
      have hT_14 := hq.1
      replace hq := hq.2
      refine g5 hM hK hX (id_T hT_14).1 11 (by decide) qf_RX3_157 rfl dX3_middleWithout_42 ?_
      refine cVv (As := [.int (S_11 5 P_12 i_13 11)]) hM hK hX hA (met_X0_insert l D ad cy S_11 P (S_11 5 P_12 i_13 11) hv hq) (kX0_insert hM.2.2.2.2 ql_RX3_160 (Nat.le_of_ble_eq_true rfl) (Nat.le_of_ble_eq_true rfl)) (v0 hK hX (id_P hv).1) rfl hl.1 rfl (Nat.le_of_ble_eq_true rfl) dX3_middleWithout_45 ⟨Nat.zero_le _, Nat.zero_le _⟩ (fun S_15 hq H locs hX => ?_)
      exact J48 ih hk S_15 y2 hq _ _ _ hX (lv_sub hl [0, 1, 2] rfl)
  unfold vc_X3_middleWithout at hq
  refine lv_aload_n hM.1 hM.2.1 dX3_middleWithout_0 rfl (lv_at hl 0 rfl) ?_
  refine g3 hM hK hX (id_P hv).2.1 4 (by decide) qf_RX3_32 rfl dX3_middleWithout_1 ?_
  refine cVv (As := []) hM hK hX hA (met_X0_clear l D ad cy S P hv hq) (kX0_clear hM.2.2.2.2 ql_RX3_150 (Nat.le_of_ble_eq_true rfl) (Nat.le_of_ble_eq_true rfl)) (v0 hK hX (id_P hv).1) rfl hl.1 rfl (Nat.le_of_ble_eq_true rfl) dX3_middleWithout_4 ⟨Nat.zero_le _, Nat.zero_le _⟩ (fun S_1 hq H locs hX => ?_)
  refine lv_iconst (v := (0 : Int32)) hM.1 hM.2.1 dX3_middleWithout_7 (by decide) ?_
  refine lv_istore_n (lv' := [(2, .int (0 : Int32)), (0, .ref (ad 3 P 0)), (1, .int x1)]) hM.1 hM.2.1 dX3_middleWithout_8 rfl hl (by decide) rfl (fun ls hl => ?_)
  obtain ⟨k0, hq⟩ := hq
  refine L9 (fun S_16 hq H locs ls hX hl => ?_) k0 S_1 (0 : Int32) hq _ _ _ hX (lv_sub hl [1, 2, 0] rfl)
  refine lv_aload_n hM.1 hM.2.1 dX3_middleWithout_54 rfl (lv_at hl 0 rfl) ?_
  refine g3 hM hK hX (id_P hv).2.1 4 (by decide) qf_RX3_32 rfl dX3_middleWithout_55 ?_
  refine cVi (As := []) hM hK hX hA (met_X0_middle l D ad cy S_16 P hv hq) (kX0_middle hM.2.2.2.2 ql_RX3_163 (Nat.le_of_ble_eq_true rfl) (Nat.le_of_ble_eq_true rfl)) (v0 hK hX (id_P hv).1) rfl hl.1 rfl (Nat.le_of_ble_eq_true rfl) dX3_middleWithout_58 ⟨Nat.zero_le _, Nat.zero_le _⟩ (fun S_17 r_18 hq H locs hX => ?_)
  exact e_i hM hX hlocks hret hq dX3_middleWithout_61
