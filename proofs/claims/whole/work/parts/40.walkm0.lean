def rmX7_thrown : Room := { frames := 0, cells := 0, slots := 0, locals := 0 }
theorem kX7_thrown {R : Room} {s : State} {args : Array Value} {own : String} {index : Nat} (ht : ∀ w ∈ lw_all, w.before args s = true) (hl : Cond.methodLink own index yX7_thrown ∈ lw_all) (hf : rmX7_thrown.frames + 1 ≤ R.frames) (hlo : 8 + (1 + 11) + rmX7_thrown.locals ≤ R.locals) : CallW R s args own RX7 index yX7_thrown cX7_thrown 1 (some Jvm.ClassFile.FieldType.int) (wA yX7_thrown cX7_thrown 1 (some Jvm.ClassFile.FieldType.int)) rmX7_thrown 0 0 0 := cwV 0 ht (good_V hl qm_yX7_thrown qs_yX7_thrown qi_RX7 qc_yX7_thrown) rfl rfl rfl (by decide +kernel) ⟨hf, hlo⟩
set_option maxRecDepth 100000 in
set_option maxHeartbeats 4000000 in
theorem met_X7_thrown (l : Launch) (D : va_G) (ad : Adr) (cy : Nat → ClassId) (S : Mem) {Q : Mem → Int32 → Prop} (hq : vc_X7_thrown S Q) : Ci l yX7_thrown (wA yX7_thrown cX7_thrown 1 (some Jvm.ClassFile.FieldType.int)) rmX7_thrown D ad cy [.ref (ad 15 0 0)] S Q := by
  intro o sz
  refine mkC (own := RX7) (lv := [(0, .ref (ad 15 0 0))]) (by decide) rfl (Nat.le_of_ble_eq_true rfl) rfl ⟨rfl, rfl⟩ ?_
  intro p e s m below meth c ls hsz hM hlocks hret hK hA hX hl
  unfold vc_X7_thrown at hq
  refine lv_aload_n hM.1 hM.2.1 dX7_thrown_0 rfl (lv_at hl 0 rfl) ?_
  refine g15 hM hK hX m15 6 (by decide) qf_RX7_48 rfl dX7_thrown_1 ?_
  exact e_i hM hX hlocks hret hq dX7_thrown_4
def rmX7_fails : Room := { frames := 0, cells := 0, slots := 0, locals := 0 }
theorem kX7_fails {R : Room} {s : State} {args : Array Value} {own : String} {index : Nat} (ht : ∀ w ∈ lw_all, w.before args s = true) (hl : Cond.methodLink own index yX7_fails ∈ lw_all) (hf : rmX7_fails.frames + 1 ≤ R.frames) (hlo : 8 + (2 + 11) + rmX7_fails.locals ≤ R.locals) : CallW R s args own RX7 index yX7_fails cX7_fails 2 (some Jvm.ClassFile.FieldType.int) (wA yX7_fails cX7_fails 2 (some Jvm.ClassFile.FieldType.int)) rmX7_fails 0 0 1 := cwV 1 ht (good_V hl qm_yX7_fails qs_yX7_fails qi_RX7 qc_yX7_fails) rfl rfl rfl (by decide +kernel) ⟨hf, hlo⟩
set_option maxRecDepth 100000 in
set_option maxHeartbeats 4000000 in
theorem met_X7_fails (l : Launch) (D : va_G) (ad : Adr) (cy : Nat → ClassId) (S : Mem) (x1 : Int32) {Q : Mem → Int32 → Prop} (hq : vc_X7_fails S x1 Q) : Ci l yX7_fails (wA yX7_fails cX7_fails 2 (some Jvm.ClassFile.FieldType.int)) rmX7_fails D ad cy [.ref (ad 15 0 0), .int x1] S Q := by
  intro o sz
  refine mkC (own := RX7) (lv := [(0, .ref (ad 15 0 0)), (1, .int x1)]) (by decide) rfl (Nat.le_of_ble_eq_true rfl) rfl ⟨rfl, rfl⟩ ?_
  intro p e s m below meth c ls hsz hM hlocks hret hK hA hX hl
  unfold vc_X7_fails at hq
  refine lv_aload_n hM.1 hM.2.1 dX7_fails_0 rfl (lv_at hl 0 rfl) ?_
  refine lv_iload_n hM.1 hM.2.1 dX7_fails_1 rfl (lv_at hl 1 rfl) ?_
  refine p15_6 hM hK hX m15 qf_RX7_48 dX7_fails_2 (fun S_1 e_2 H locs hX => ?_)
  replace hq := hq S_1 e_2
  refine lv_iconst (v := (0 : Int32)) hM.1 hM.2.1 dX7_fails_5 (by decide) ?_
  exact e_i hM hX hlocks hret hq dX7_fails_6
def rmX7_in : Room := { frames := 0, cells := 0, slots := 0, locals := 0 }
theorem kX7_in {R : Room} {s : State} {args : Array Value} {own : String} {index : Nat} (ht : ∀ w ∈ lw_all, w.before args s = true) (hl : Cond.methodLink own index yX7_in ∈ lw_all) (hf : rmX7_in.frames + 1 ≤ R.frames) (hlo : 8 + (3 + 11) + rmX7_in.locals ≤ R.locals) : CallB R s args own index yX7_in cX7_in 3 (some Jvm.ClassFile.FieldType.boolean) (wA yX7_in cX7_in 3 (some Jvm.ClassFile.FieldType.boolean)) rmX7_in 0 0 3 ∧ (Cond.static yX7_in).before args s = true := va_cwS 3 ht (good_S hl qt_yX7_in qi_RX7 qc_yX7_in) rfl rfl rfl (by decide +kernel) ⟨hf, hlo⟩
set_option maxRecDepth 100000 in
set_option maxHeartbeats 4000000 in
theorem met_X7_in (l : Launch) (D : va_G) (ad : Adr) (cy : Nat → ClassId) (S : Mem) (x0 : Int32) (x1 : Int32) (x2 : Int32) {Q : Mem → Int32 → Prop} (hq : vc_X7_in S x0 x1 x2 Q) : Ci l yX7_in (wA yX7_in cX7_in 3 (some Jvm.ClassFile.FieldType.boolean)) rmX7_in D ad cy [.int x0, .int x1, .int x2] S Q := by
  intro o sz
  refine mkC (own := RX7) (lv := [(0, .int x0), (1, .int x1), (2, .int x2)]) (by decide) rfl (Nat.le_of_ble_eq_true rfl) rfl ⟨rfl, rfl⟩ ?_
  intro p e s m below meth c ls hsz hM hlocks hret hK hA hX hl
  unfold vc_X7_in at hq
  refine lv_iload_n hM.1 hM.2.1 dX7_in_0 rfl (lv_at hl 0 rfl) ?_
  refine lv_iload_n hM.1 hM.2.1 dX7_in_1 rfl (lv_at hl 1 rfl) ?_
  refine lv_icmp_lt (tgt := 14) hM.1 hM.2.1 dX7_in_2 (by decide) (fun c_1 => ?_) (fun c_1 => ?_)
  · replace hq := hq.1 c_1
    refine lv_iconst (v := (0 : Int32)) hM.1 hM.2.1 dX7_in_14 (by decide) ?_
    exact e_z hM hX hlocks hret rfl hq dX7_in_15
  replace hq := hq.2 c_1
  refine lv_iload_n hM.1 hM.2.1 dX7_in_5 rfl (lv_at hl 0 rfl) ?_
  refine lv_iload_n hM.1 hM.2.1 dX7_in_6 rfl (lv_at hl 2 rfl) ?_
  refine lv_icmp_gt (tgt := 14) hM.1 hM.2.1 dX7_in_7 (by decide) (fun c_2 => ?_) (fun c_2 => ?_)
  · replace hq := hq.1 c_2
    refine lv_iconst (v := (0 : Int32)) hM.1 hM.2.1 dX7_in_14 (by decide) ?_
    exact e_z hM hX hlocks hret rfl hq dX7_in_15
  replace hq := hq.2 c_2
  refine lv_iconst (v := (1 : Int32)) hM.1 hM.2.1 dX7_in_10 (by decide) ?_
  refine lv_goto (tgt := 15) hM.1 hM.2.1 dX7_in_11 (by decide) ?_
  exact e_z hM hX hlocks hret rfl hq dX7_in_15
def rmX7_isRow : Room := { frames := 1, cells := 0, slots := 0, locals := 22 }
theorem kX7_isRow {R : Room} {s : State} {args : Array Value} {own : String} {index : Nat} (ht : ∀ w ∈ lw_all, w.before args s = true) (hl : Cond.methodLink own index yX7_isRow ∈ lw_all) (hf : rmX7_isRow.frames + 1 ≤ R.frames) (hlo : 8 + (1 + 11) + rmX7_isRow.locals ≤ R.locals) : CallB R s args own index yX7_isRow cX7_isRow 1 (some Jvm.ClassFile.FieldType.boolean) (wA yX7_isRow cX7_isRow 1 (some Jvm.ClassFile.FieldType.boolean)) rmX7_isRow 0 0 1 ∧ (Cond.static yX7_isRow).before args s = true := va_cwS 1 ht (good_S hl qt_yX7_isRow qi_RX7 qc_yX7_isRow) rfl rfl rfl (by decide +kernel) ⟨hf, hlo⟩
set_option maxRecDepth 100000 in
set_option maxHeartbeats 4000000 in
theorem met_X7_isRow (l : Launch) (D : va_G) (ad : Adr) (cy : Nat → ClassId) (S : Mem) (x0 : Int32) {Q : Mem → Int32 → Prop} (hq : vc_X7_isRow S x0 Q) : Ci l yX7_isRow (wA yX7_isRow cX7_isRow 1 (some Jvm.ClassFile.FieldType.boolean)) rmX7_isRow D ad cy [.int x0] S Q := by
  intro o sz
  refine mkC (own := RX7) (lv := [(0, .int x0)]) (by decide) rfl (Nat.le_of_ble_eq_true rfl) rfl ⟨rfl, rfl⟩ ?_
  intro p e s m below meth c ls hsz hM hlocks hret hK hA hX hl
  unfold vc_X7_isRow at hq
  refine lv_iload_n hM.1 hM.2.1 dX7_isRow_0 rfl (lv_at hl 0 rfl) ?_
  refine lv_iconst (v := (0 : Int32)) hM.1 hM.2.1 dX7_isRow_1 (by decide) ?_
  refine lv_iconst (v := (3 : Int32)) hM.1 hM.2.1 dX7_isRow_2 (by decide) ?_
  refine cSi (As := [.int x0, .int (0 : Int32), .int (3 : Int32)]) hM hK hX hA (met_X7_in l D ad cy S x0 (0 : Int32) (3 : Int32) hq) (kX7_in hM.2.2.2.2 ql_RX7_52 (Nat.le_of_ble_eq_true rfl) (Nat.le_of_ble_eq_true rfl)) rfl hl.1 rfl (Nat.le_of_ble_eq_true rfl) dX7_isRow_3 ⟨Nat.zero_le _, Nat.zero_le _⟩ (fun S_1 r_2 hq H locs hX => ?_)
  exact e_z hM hX hlocks hret (nar_z hq.1).1 hq.2 dX7_isRow_6
def rmX7_is : Room := { frames := 1, cells := 0, slots := 0, locals := 22 }
theorem kX7_is {R : Room} {s : State} {args : Array Value} {own : String} {index : Nat} (ht : ∀ w ∈ lw_all, w.before args s = true) (hl : Cond.methodLink own index yX7_is ∈ lw_all) (hf : rmX7_is.frames + 1 ≤ R.frames) (hlo : 8 + (2 + 11) + rmX7_is.locals ≤ R.locals) : CallW R s args own RX7 index yX7_is cX7_is 2 (some Jvm.ClassFile.FieldType.boolean) (wA yX7_is cX7_is 2 (some Jvm.ClassFile.FieldType.boolean)) rmX7_is 0 0 1 := cwV 1 ht (good_V hl qm_yX7_is qs_yX7_is qi_RX7 qc_yX7_is) rfl rfl rfl (by decide +kernel) ⟨hf, hlo⟩
set_option maxRecDepth 100000 in
set_option maxHeartbeats 4000000 in
theorem met_X7_is (l : Launch) (D : va_G) (ad : Adr) (cy : Nat → ClassId) (S : Mem) (x1 : Int32) {Q : Mem → Int32 → Prop} (hq : vc_X7_is S x1 Q) : Ci l yX7_is (wA yX7_is cX7_is 2 (some Jvm.ClassFile.FieldType.boolean)) rmX7_is D ad cy [.ref (ad 15 0 0), .int x1] S Q := by
  intro o sz
  refine mkC (own := RX7) (lv := [(0, .ref (ad 15 0 0)), (1, .int x1)]) (by decide) rfl (Nat.le_of_ble_eq_true rfl) rfl ⟨rfl, rfl⟩ ?_
  intro p e s m below meth c ls hsz hM hlocks hret hK hA hX hl
  unfold vc_X7_is at hq
  refine lv_iload_n hM.1 hM.2.1 dX7_is_0 rfl (lv_at hl 1 rfl) ?_
  refine lv_iconst (v := (0 : Int32)) hM.1 hM.2.1 dX7_is_1 (by decide) ?_
  refine lv_aload_n hM.1 hM.2.1 dX7_is_2 rfl (lv_at hl 0 rfl) ?_
  refine g15 hM hK hX m15 0 (by decide) qf_RX7_7 rfl dX7_is_3 ?_
  refine lv_bipush (v := (15 : Int32)) hM.1 hM.2.1 dX7_is_6 (by decide) ?_
  have c_1 := hq.1
  replace hq := hq.2
  refine r_iald hM hK hX m16 (a16 0 0) c_1 dX7_is_8 ?_
  refine lv_iconst (v := (1 : Int32)) hM.1 hM.2.1 dX7_is_9 (by decide) ?_
  refine lv_isub hM.1 hM.2.1 dX7_is_10 ?_
  refine cSi (As := [.int x1, .int (0 : Int32), .int ((S 16 0 0 (15 : Int32).toNatClampNeg) - (1 : Int32))]) hM hK hX hA (met_X7_in l D ad cy S x1 (0 : Int32) ((S 16 0 0 (15 : Int32).toNatClampNeg) - (1 : Int32)) hq) (kX7_in hM.2.2.2.2 ql_RX7_52 (Nat.le_of_ble_eq_true rfl) (Nat.le_of_ble_eq_true rfl)) rfl hl.1 rfl (Nat.le_of_ble_eq_true rfl) dX7_is_11 ⟨Nat.zero_le _, Nat.zero_le _⟩ (fun S_2 r_3 hq H locs hX => ?_)
  exact e_z hM hX hlocks hret (nar_z hq.1).1 hq.2 dX7_is_14
def rmX7_of : Room := { frames := 0, cells := 0, slots := 0, locals := 0 }
theorem kX7_of {R : Room} {s : State} {args : Array Value} {own : String} {index : Nat} (ht : ∀ w ∈ lw_all, w.before args s = true) (hl : Cond.methodLink own index yX7_of ∈ lw_all) (hf : rmX7_of.frames + 1 ≤ R.frames) (hlo : 8 + (3 + 11) + rmX7_of.locals ≤ R.locals) : CallW R s args own RX7 index yX7_of cX7_of 3 (some Jvm.ClassFile.FieldType.int) (wA yX7_of cX7_of 3 (some Jvm.ClassFile.FieldType.int)) rmX7_of 0 0 2 := cwV 2 ht (good_V hl qm_yX7_of qs_yX7_of qi_RX7 qc_yX7_of) rfl rfl rfl (by decide +kernel) ⟨hf, hlo⟩
set_option maxRecDepth 100000 in
set_option maxHeartbeats 4000000 in
theorem met_X7_of (l : Launch) (D : va_G) (ad : Adr) (cy : Nat → ClassId) (S : Mem) (x1 : Int32) (x2 : Int32) {Q : Mem → Int32 → Prop} (hq : vc_X7_of S x1 x2 Q) : Ci l yX7_of (wA yX7_of cX7_of 3 (some Jvm.ClassFile.FieldType.int)) rmX7_of D ad cy [.ref (ad 15 0 0), .int x1, .int x2] S Q := by
  intro o sz
  refine mkC (own := RX7) (lv := [(0, .ref (ad 15 0 0)), (1, .int x1), (2, .int x2)]) (by decide) rfl (Nat.le_of_ble_eq_true rfl) rfl ⟨rfl, rfl⟩ ?_
  intro p e s m below meth c ls hsz hM hlocks hret hK hA hX hl
  unfold vc_X7_of at hq
  refine lv_aload_n hM.1 hM.2.1 dX7_of_0 rfl (lv_at hl 0 rfl) ?_
  refine g15 hM hK hX m15 0 (by decide) qf_RX7_7 rfl dX7_of_1 ?_
  refine lv_bipush (v := (16 : Int32)) hM.1 hM.2.1 dX7_of_4 (by decide) ?_
  refine lv_bipush (v := (21 : Int32)) hM.1 hM.2.1 dX7_of_6 (by decide) ?_
  refine lv_iload_n hM.1 hM.2.1 dX7_of_8 rfl (lv_at hl 1 rfl) ?_
  refine lv_imul hM.1 hM.2.1 dX7_of_9 ?_
  refine lv_iadd hM.1 hM.2.1 dX7_of_10 ?_
  refine lv_iload_n hM.1 hM.2.1 dX7_of_11 rfl (lv_at hl 2 rfl) ?_
  refine lv_iadd hM.1 hM.2.1 dX7_of_12 ?_
  have c_1 := hq.1
  replace hq := hq.2
  refine r_iald hM hK hX m16 (a16 0 0) c_1 dX7_of_13 ?_
  exact e_i hM hX hlocks hret hq dX7_of_14
def rmX7_put : Room := { frames := 0, cells := 0, slots := 0, locals := 0 }
theorem kX7_put {R : Room} {s : State} {args : Array Value} {own : String} {index : Nat} (ht : ∀ w ∈ lw_all, w.before args s = true) (hl : Cond.methodLink own index yX7_put ∈ lw_all) (hf : rmX7_put.frames + 1 ≤ R.frames) (hlo : 8 + (4 + 11) + rmX7_put.locals ≤ R.locals) : CallW R s args own RX7 index yX7_put cX7_put 4 none (wA yX7_put cX7_put 4 none) rmX7_put 0 0 3 := cwV 3 ht (good_V hl qm_yX7_put qs_yX7_put qi_RX7 qc_yX7_put) rfl rfl rfl (by decide +kernel) ⟨hf, hlo⟩
set_option maxRecDepth 100000 in
set_option maxHeartbeats 4000000 in
theorem met_X7_put (l : Launch) (D : va_G) (ad : Adr) (cy : Nat → ClassId) (S : Mem) (x1 : Int32) (x2 : Int32) (x3 : Int32) {Q : Mem → Prop} (hq : vc_X7_put S x1 x2 x3 Q) : Cv l yX7_put (wA yX7_put cX7_put 4 none) rmX7_put D ad cy [.ref (ad 15 0 0), .int x1, .int x2, .int x3] S Q := by
  intro o sz
  refine mkC (own := RX7) (lv := [(0, .ref (ad 15 0 0)), (1, .int x1), (2, .int x2), (3, .int x3)]) (by decide) rfl (Nat.le_of_ble_eq_true rfl) rfl ⟨rfl, rfl⟩ ?_
  intro p e s m below meth c ls hsz hM hlocks hret hK hA hX hl
  unfold vc_X7_put at hq
  refine lv_aload_n hM.1 hM.2.1 dX7_put_0 rfl (lv_at hl 0 rfl) ?_
  refine g15 hM hK hX m15 0 (by decide) qf_RX7_7 rfl dX7_put_1 ?_
  refine lv_bipush (v := (16 : Int32)) hM.1 hM.2.1 dX7_put_4 (by decide) ?_
  refine lv_bipush (v := (21 : Int32)) hM.1 hM.2.1 dX7_put_6 (by decide) ?_
  refine lv_iload_n hM.1 hM.2.1 dX7_put_8 rfl (lv_at hl 1 rfl) ?_
  refine lv_imul hM.1 hM.2.1 dX7_put_9 ?_
  refine lv_iadd hM.1 hM.2.1 dX7_put_10 ?_
  refine lv_iload_n hM.1 hM.2.1 dX7_put_11 rfl (lv_at hl 2 rfl) ?_
  refine lv_iadd hM.1 hM.2.1 dX7_put_12 ?_
  refine lv_iload_n hM.1 hM.2.1 dX7_put_13 rfl (lv_at hl 3 rfl) ?_
  have c_2 := hq.1
  replace hq := hq.2
  refine r_iast hM hK hX m16 (a16 0 0) c_2 dX7_put_14 (fun S_1 e_3 H locs hX => ?_)
  replace hq := hq S_1 e_3
  exact e_v hM hX hlocks hret hq dX7_put_15
def rmX7_size : Room := { frames := 0, cells := 0, slots := 0, locals := 0 }
theorem kX7_size {R : Room} {s : State} {args : Array Value} {own : String} {index : Nat} (ht : ∀ w ∈ lw_all, w.before args s = true) (hl : Cond.methodLink own index yX7_size ∈ lw_all) (hf : rmX7_size.frames + 1 ≤ R.frames) (hlo : 8 + (1 + 11) + rmX7_size.locals ≤ R.locals) : CallB R s args own index yX7_size cX7_size 1 (some Jvm.ClassFile.FieldType.int) (wA yX7_size cX7_size 1 (some Jvm.ClassFile.FieldType.int)) rmX7_size 0 0 1 ∧ (Cond.static yX7_size).before args s = true := va_cwS 1 ht (good_S hl qt_yX7_size qi_RX7 qc_yX7_size) rfl rfl rfl (by decide +kernel) ⟨hf, hlo⟩
set_option maxRecDepth 100000 in
set_option maxHeartbeats 4000000 in
theorem met_X7_size (l : Launch) (D : va_G) (ad : Adr) (cy : Nat → ClassId) (S : Mem) (x0 : Int32) {Q : Mem → Int32 → Prop} (hq : vc_X7_size S x0 Q) : Ci l yX7_size (wA yX7_size cX7_size 1 (some Jvm.ClassFile.FieldType.int)) rmX7_size D ad cy [.int x0] S Q := by
  intro o sz
  refine mkC (own := RX7) (lv := [(0, .int x0)]) (by decide) rfl (Nat.le_of_ble_eq_true rfl) rfl ⟨rfl, rfl⟩ ?_
  intro p e s m below meth c ls hsz hM hlocks hret hK hA hX hl
  unfold vc_X7_size at hq
  refine lv_iload_n hM.1 hM.2.1 dX7_size_0 rfl (lv_at hl 0 rfl) ?_
  refine lv_if_ge (tgt := 9) hM.1 hM.2.1 dX7_size_1 (by decide) (fun c_1 => ?_) (fun c_1 => ?_)
  · replace hq := hq.1 c_1
    refine lv_iload_n hM.1 hM.2.1 dX7_size_9 rfl (lv_at hl 0 rfl) ?_
    exact e_i hM hX hlocks hret hq dX7_size_10
  replace hq := hq.2 c_1
  refine lv_iload_n hM.1 hM.2.1 dX7_size_4 rfl (lv_at hl 0 rfl) ?_
  refine lv_ineg hM.1 hM.2.1 dX7_size_5 ?_
  refine lv_goto (tgt := 10) hM.1 hM.2.1 dX7_size_6 (by decide) ?_
  exact e_i hM hX hlocks hret hq dX7_size_10
def rmX7_save : Room := { frames := 0, cells := 0, slots := 0, locals := 0 }
theorem kX7_save {R : Room} {s : State} {args : Array Value} {own : String} {index : Nat} (ht : ∀ w ∈ lw_all, w.before args s = true) (hl : Cond.methodLink own index yX7_save ∈ lw_all) (hf : rmX7_save.frames + 1 ≤ R.frames) (hlo : 8 + (2 + 11) + rmX7_save.locals ≤ R.locals) : CallW R s args own RX7 index yX7_save cX7_save 2 none (wA yX7_save cX7_save 2 none) rmX7_save 0 0 0 := cwV 0 ht (good_V hl qm_yX7_save qs_yX7_save qi_RX7 qc_yX7_save) rfl rfl rfl (by decide +kernel) ⟨hf, hlo⟩
set_option maxRecDepth 100000 in
set_option maxHeartbeats 4000000 in
theorem met_X7_save (l : Launch) (D : va_G) (ad : Adr) (cy : Nat → ClassId) (S : Mem) {Q : Mem → Prop} (hq : vc_X7_save S Q) : Cv l yX7_save (wA yX7_save cX7_save 2 none) rmX7_save D ad cy [.ref (ad 15 0 0)] S Q := by
  intro o sz
  refine mkC (own := RX7) (lv := [(0, .ref (ad 15 0 0))]) (by decide) rfl (Nat.le_of_ble_eq_true rfl) rfl ⟨rfl, rfl⟩ ?_
  intro p e s m below meth c ls hsz hM hlocks hret hK hA hX hl
  have L52 : ∀ {K : Mem → Prop} (hk : ∀ (S : Mem), K S → ∀ (H : Heap) (locs : List Loc) (ls : Array Slot), PW D ad cy (AW ad sz) s.heap o S H locs → lv_has ls 2 [(0, .ref (ad 15 0 0))] → Wv D ad cy o sz Q p l e rmX7_save s m [.ref (ad 15 0 0)] below meth c H locs (F0 m 86 ls [])), ∀ (n : Nat) (S : Mem) (y1 : Int32), vc_X7_save_L52 Q K n S y1 → ∀ (H : Heap) (locs : List Loc) (ls : Array Slot), PW D ad cy (AW ad sz) s.heap o S H locs → lv_has ls 2 [(0, .ref (ad 15 0 0)), (1, .int y1)] → Wv D ad cy o sz Q p l e rmX7_save s m [.ref (ad 15 0 0)] below meth c H locs (F0 m 52 ls []) := by
    intro K hk n
    induction n with
    | zero =>
      intro S y1 hq
      rw [vc_X7_save_L52] at hq
      exact hq.elim
    | succ n ih =>
      intro S y1 hq H locs ls hX hl
      rw [vc_X7_save_L52] at hq
      refine lv_iload_n hM.1 hM.2.1 dX7_save_52 rfl (lv_at hl 1 rfl) ?_
      refine lv_sipush (v := (226 : Int32)) hM.1 hM.2.1 dX7_save_53 (by decide) ?_
      refine lv_icmp_ge (tgt := 86) hM.1 hM.2.1 dX7_save_56 (by decide) (fun c_2 => ?_) (fun c_2 => ?_)
      · replace hq := hq.1 c_2
        exact hk S hq _ _ _ hX (lv_sub hl [0] rfl)
      replace hq := hq.2 c_2
      refine lv_aload_n hM.1 hM.2.1 dX7_save_59 rfl (lv_at hl 0 rfl) ?_
      refine g15 hM hK hX m15 1 (by decide) qf_RX7_13 rfl dX7_save_60 ?_
      refine lv_sipush (v := (226 : Int32)) hM.1 hM.2.1 dX7_save_63 (by decide) ?_
      refine lv_aload_n hM.1 hM.2.1 dX7_save_66 rfl (lv_at hl 0 rfl) ?_
      refine g15 hM hK hX m15 2 (by decide) qf_RX7_56 rfl dX7_save_67 ?_
      refine lv_imul hM.1 hM.2.1 dX7_save_70 ?_
      refine lv_iload_n hM.1 hM.2.1 dX7_save_71 rfl (lv_at hl 1 rfl) ?_
      refine lv_iadd hM.1 hM.2.1 dX7_save_72 ?_
      refine lv_aload_n hM.1 hM.2.1 dX7_save_73 rfl (lv_at hl 0 rfl) ?_
      refine g15 hM hK hX m15 0 (by decide) qf_RX7_7 rfl dX7_save_74 ?_
      refine lv_iload_n hM.1 hM.2.1 dX7_save_77 rfl (lv_at hl 1 rfl) ?_
      have c_3 := hq.1
      replace hq := hq.2
      refine r_iald hM hK hX m16 (a16 0 0) c_3 dX7_save_78 ?_
      have c_5 := hq.1
      replace hq := hq.2
      refine r_iast hM hK hX m17 (a17 0 0) c_5 dX7_save_79 (fun S_4 e_6 H locs hX => ?_)
      replace hq := hq S_4 e_6
      refine lv_iinc (v := (y1 + (1 : Int32))) (lv' := [(1, .int (y1 + (1 : Int32))), (0, .ref (ad 15 0 0))]) hM.1 hM.2.1 dX7_save_80 hl (k := 1) rfl rfl (by decide) rfl (fun ls hl => ?_)
      refine lv_goto (tgt := 52) hM.1 hM.2.1 dX7_save_83 (by decide) ?_
      exact ih S_4 (y1 + (1 : Int32)) hq _ _ _ hX (lv_sub hl [1, 0] rfl)
  have J50 : ∀ (S : Mem), vc_X7_save_J50 Q S → ∀ (H : Heap) (locs : List Loc) (ls : Array Slot), PW D ad cy (AW ad sz) s.heap o S H locs → lv_has ls 2 [(0, .ref (ad 15 0 0))] → Wv D ad cy o sz Q p l e rmX7_save s m [.ref (ad 15 0 0)] below meth c H locs (F0 m 50 ls []) := by
    intro S hq H locs ls hX hl
    unfold vc_X7_save_J50 at hq
    refine lv_iconst (v := (0 : Int32)) hM.1 hM.2.1 dX7_save_50 (by decide) ?_
    refine lv_istore_n (lv' := [(1, .int (0 : Int32)), (0, .ref (ad 15 0 0))]) hM.1 hM.2.1 dX7_save_51 rfl hl (by decide) rfl (fun ls hl => ?_)
    obtain ⟨k0, hq⟩ := hq
    refine L52 (fun S_7 hq H locs ls hX hl => ?_) k0 S (0 : Int32) hq _ _ _ hX (lv_sub hl [1, 0] rfl)
    refine lv_aload_n hM.1 hM.2.1 dX7_save_86 rfl (lv_at hl 0 rfl) ?_
    refine lv_dup hM.1 hM.2.1 dX7_save_87 rfl ?_
    refine g15 hM hK hX m15 2 (by decide) qf_RX7_56 rfl dX7_save_88 ?_
    refine lv_iconst (v := (1 : Int32)) hM.1 hM.2.1 dX7_save_91 (by decide) ?_
    refine lv_iadd hM.1 hM.2.1 dX7_save_92 ?_
    refine p15_2 hM hK hX m15 qf_RX7_56 dX7_save_93 (fun S_8 e_9 H locs hX => ?_)
    replace hq := hq S_8 e_9
    exact e_v hM hX hlocks hret hq dX7_save_96
  have L11 : ∀ {K : Mem → Prop} (hk : ∀ (S : Mem), K S → ∀ (H : Heap) (locs : List Loc) (ls : Array Slot), PW D ad cy (AW ad sz) s.heap o S H locs → lv_has ls 2 [(0, .ref (ad 15 0 0))] → Wv D ad cy o sz Q p l e rmX7_save s m [.ref (ad 15 0 0)] below meth c H locs (F0 m 40 ls [])), ∀ (n : Nat) (S : Mem) (y1 : Int32), vc_X7_save_L11 Q K n S y1 → ∀ (H : Heap) (locs : List Loc) (ls : Array Slot), PW D ad cy (AW ad sz) s.heap o S H locs → lv_has ls 2 [(0, .ref (ad 15 0 0)), (1, .int y1)] → Wv D ad cy o sz Q p l e rmX7_save s m [.ref (ad 15 0 0)] below meth c H locs (F0 m 11 ls []) := by
    intro K hk n
    induction n with
    | zero =>
      intro S y1 hq
      rw [vc_X7_save_L11] at hq
      exact hq.elim
    | succ n ih =>
      intro S y1 hq H locs ls hX hl
      rw [vc_X7_save_L11] at hq
      refine lv_iload_n hM.1 hM.2.1 dX7_save_11 rfl (lv_at hl 1 rfl) ?_
      refine lv_sipush (v := (1130 : Int32)) hM.1 hM.2.1 dX7_save_12 (by decide) ?_
      refine lv_icmp_ge (tgt := 40) hM.1 hM.2.1 dX7_save_15 (by decide) (fun c_10 => ?_) (fun c_10 => ?_)
      · replace hq := hq.1 c_10
        exact hk S hq _ _ _ hX (lv_sub hl [0] rfl)
      replace hq := hq.2 c_10
      refine lv_aload_n hM.1 hM.2.1 dX7_save_18 rfl (lv_at hl 0 rfl) ?_
      refine g15 hM hK hX m15 1 (by decide) qf_RX7_13 rfl dX7_save_19 ?_
      refine lv_iload_n hM.1 hM.2.1 dX7_save_22 rfl (lv_at hl 1 rfl) ?_
      refine lv_aload_n hM.1 hM.2.1 dX7_save_23 rfl (lv_at hl 0 rfl) ?_
      refine g15 hM hK hX m15 1 (by decide) qf_RX7_13 rfl dX7_save_24 ?_
      refine lv_iload_n hM.1 hM.2.1 dX7_save_27 rfl (lv_at hl 1 rfl) ?_
      refine lv_sipush (v := (226 : Int32)) hM.1 hM.2.1 dX7_save_28 (by decide) ?_
      refine lv_iadd hM.1 hM.2.1 dX7_save_31 ?_
      have c_11 := hq.1
      replace hq := hq.2
      refine r_iald hM hK hX m17 (a17 0 0) c_11 dX7_save_32 ?_
      have c_13 := hq.1
      replace hq := hq.2
      refine r_iast hM hK hX m17 (a17 0 0) c_13 dX7_save_33 (fun S_12 e_14 H locs hX => ?_)
      replace hq := hq S_12 e_14
      refine lv_iinc (v := (y1 + (1 : Int32))) (lv' := [(1, .int (y1 + (1 : Int32))), (0, .ref (ad 15 0 0))]) hM.1 hM.2.1 dX7_save_34 hl (k := 1) rfl rfl (by decide) rfl (fun ls hl => ?_)
      refine lv_goto (tgt := 11) hM.1 hM.2.1 dX7_save_37 (by decide) ?_
      exact ih S_12 (y1 + (1 : Int32)) hq _ _ _ hX (lv_sub hl [1, 0] rfl)
  unfold vc_X7_save at hq
  refine lv_aload_n hM.1 hM.2.1 dX7_save_0 rfl (lv_at hl 0 rfl) ?_
  refine g15 hM hK hX m15 2 (by decide) qf_RX7_56 rfl dX7_save_1 ?_
  refine lv_bipush (v := (6 : Int32)) hM.1 hM.2.1 dX7_save_4 (by decide) ?_
  refine lv_icmp_ne (tgt := 50) hM.1 hM.2.1 dX7_save_6 (by decide) (fun c_1 => ?_) (fun c_1 => ?_)
  · replace hq := hq.1 c_1
    exact J50 S hq _ _ _ hX (lv_sub hl [0] rfl)
  replace hq := hq.2 c_1
  refine lv_iconst (v := (0 : Int32)) hM.1 hM.2.1 dX7_save_9 (by decide) ?_
  refine lv_istore_n (lv' := [(1, .int (0 : Int32)), (0, .ref (ad 15 0 0))]) hM.1 hM.2.1 dX7_save_10 rfl hl (by decide) rfl (fun ls hl => ?_)
  obtain ⟨k0, hq⟩ := hq
  refine L11 (fun S_15 hq H locs ls hX hl => ?_) k0 S (0 : Int32) hq _ _ _ hX (lv_sub hl [1, 0] rfl)
  refine lv_aload_n hM.1 hM.2.1 dX7_save_40 rfl (lv_at hl 0 rfl) ?_
  refine lv_dup hM.1 hM.2.1 dX7_save_41 rfl ?_
  refine g15 hM hK hX m15 2 (by decide) qf_RX7_56 rfl dX7_save_42 ?_
  refine lv_iconst (v := (1 : Int32)) hM.1 hM.2.1 dX7_save_45 (by decide) ?_
  refine lv_isub hM.1 hM.2.1 dX7_save_46 ?_
  refine p15_2 hM hK hX m15 qf_RX7_56 dX7_save_47 (fun S_16 e_17 H locs hX => ?_)
  replace hq := hq S_16 e_17
  exact J50 S_16 hq _ _ _ hX (lv_sub hl [0] rfl)
def rmX7_undo : Room := { frames := 1, cells := 0, slots := 0, locals := 21 }
theorem kX7_undo {R : Room} {s : State} {args : Array Value} {own : String} {index : Nat} (ht : ∀ w ∈ lw_all, w.before args s = true) (hl : Cond.methodLink own index yX7_undo ∈ lw_all) (hf : rmX7_undo.frames + 1 ≤ R.frames) (hlo : 8 + (2 + 11) + rmX7_undo.locals ≤ R.locals) : CallW R s args own RX7 index yX7_undo cX7_undo 2 (some Jvm.ClassFile.FieldType.int) (wA yX7_undo cX7_undo 2 (some Jvm.ClassFile.FieldType.int)) rmX7_undo 0 0 0 := cwV 0 ht (good_V hl qm_yX7_undo qs_yX7_undo qi_RX7 qc_yX7_undo) rfl rfl rfl (by decide +kernel) ⟨hf, hlo⟩
set_option maxRecDepth 100000 in
set_option maxHeartbeats 4000000 in
theorem met_X7_undo (l : Launch) (D : va_G) (ad : Adr) (cy : Nat → ClassId) (S : Mem) {Q : Mem → Int32 → Prop} (hq : vc_X7_undo S Q) : Ci l yX7_undo (wA yX7_undo cX7_undo 2 (some Jvm.ClassFile.FieldType.int)) rmX7_undo D ad cy [.ref (ad 15 0 0)] S Q := by
  intro o sz
  refine mkC (own := RX7) (lv := [(0, .ref (ad 15 0 0))]) (by decide) rfl (Nat.le_of_ble_eq_true rfl) rfl ⟨rfl, rfl⟩ ?_
  intro p e s m below meth c ls hsz hM hlocks hret hK hA hX hl
  have L30 : ∀ {K : Mem → Prop} (hk : ∀ (S : Mem), K S → ∀ (H : Heap) (locs : List Loc) (ls : Array Slot), PW D ad cy (AW ad sz) s.heap o S H locs → lv_has ls 2 [(0, .ref (ad 15 0 0))] → Wi D ad cy o sz Q p l e rmX7_undo s m [.ref (ad 15 0 0)] below meth c H locs (F0 m 64 ls [])), ∀ (n : Nat) (S : Mem) (y1 : Int32), vc_X7_undo_L30 Q K n S y1 → ∀ (H : Heap) (locs : List Loc) (ls : Array Slot), PW D ad cy (AW ad sz) s.heap o S H locs → lv_has ls 2 [(0, .ref (ad 15 0 0)), (1, .int y1)] → Wi D ad cy o sz Q p l e rmX7_undo s m [.ref (ad 15 0 0)] below meth c H locs (F0 m 30 ls []) := by
    intro K hk n
    induction n with
    | zero =>
      intro S y1 hq
      rw [vc_X7_undo_L30] at hq
      exact hq.elim
    | succ n ih =>
      intro S y1 hq H locs ls hX hl
      rw [vc_X7_undo_L30] at hq
      refine lv_iload_n hM.1 hM.2.1 dX7_undo_30 rfl (lv_at hl 1 rfl) ?_
      refine lv_sipush (v := (226 : Int32)) hM.1 hM.2.1 dX7_undo_31 (by decide) ?_
      refine lv_icmp_ge (tgt := 64) hM.1 hM.2.1 dX7_undo_34 (by decide) (fun c_6 => ?_) (fun c_6 => ?_)
      · replace hq := hq.1 c_6
        exact hk S hq _ _ _ hX (lv_sub hl [0] rfl)
      replace hq := hq.2 c_6
      refine lv_aload_n hM.1 hM.2.1 dX7_undo_37 rfl (lv_at hl 0 rfl) ?_
      refine g15 hM hK hX m15 0 (by decide) qf_RX7_7 rfl dX7_undo_38 ?_
      refine lv_iload_n hM.1 hM.2.1 dX7_undo_41 rfl (lv_at hl 1 rfl) ?_
      refine lv_aload_n hM.1 hM.2.1 dX7_undo_42 rfl (lv_at hl 0 rfl) ?_
      refine g15 hM hK hX m15 1 (by decide) qf_RX7_13 rfl dX7_undo_43 ?_
      refine lv_sipush (v := (226 : Int32)) hM.1 hM.2.1 dX7_undo_46 (by decide) ?_
      refine lv_aload_n hM.1 hM.2.1 dX7_undo_49 rfl (lv_at hl 0 rfl) ?_
      refine g15 hM hK hX m15 2 (by decide) qf_RX7_56 rfl dX7_undo_50 ?_
      refine lv_imul hM.1 hM.2.1 dX7_undo_53 ?_
      refine lv_iload_n hM.1 hM.2.1 dX7_undo_54 rfl (lv_at hl 1 rfl) ?_
      refine lv_iadd hM.1 hM.2.1 dX7_undo_55 ?_
      have c_7 := hq.1
      replace hq := hq.2
      refine r_iald hM hK hX m17 (a17 0 0) c_7 dX7_undo_56 ?_
      have c_9 := hq.1
      replace hq := hq.2
      refine r_iast hM hK hX m16 (a16 0 0) c_9 dX7_undo_57 (fun S_8 e_10 H locs hX => ?_)
      replace hq := hq S_8 e_10
      refine lv_iinc (v := (y1 + (1 : Int32))) (lv' := [(1, .int (y1 + (1 : Int32))), (0, .ref (ad 15 0 0))]) hM.1 hM.2.1 dX7_undo_58 hl (k := 1) rfl rfl (by decide) rfl (fun ls hl => ?_)
      refine lv_goto (tgt := 30) hM.1 hM.2.1 dX7_undo_61 (by decide) ?_
      exact ih S_8 (y1 + (1 : Int32)) hq _ _ _ hX (lv_sub hl [1, 0] rfl)
  unfold vc_X7_undo at hq
  refine lv_aload_n hM.1 hM.2.1 dX7_undo_0 rfl (lv_at hl 0 rfl) ?_
  refine lv_iconst (v := (0 : Int32)) hM.1 hM.2.1 dX7_undo_1 (by decide) ?_
  refine p15_6 hM hK hX m15 qf_RX7_48 dX7_undo_2 (fun S_1 e_2 H locs hX => ?_)
  replace hq := hq S_1 e_2
  refine lv_aload_n hM.1 hM.2.1 dX7_undo_5 rfl (lv_at hl 0 rfl) ?_
  refine g15 hM hK hX m15 2 (by decide) qf_RX7_56 rfl dX7_undo_6 ?_
  refine lv_if_ne (tgt := 18) hM.1 hM.2.1 dX7_undo_9 (by decide) (fun c_3 => ?_) (fun c_3 => ?_)
  · replace hq := hq.1 c_3
    refine lv_aload_n hM.1 hM.2.1 dX7_undo_18 rfl (lv_at hl 0 rfl) ?_
    refine lv_dup hM.1 hM.2.1 dX7_undo_19 rfl ?_
    refine g15 hM hK hX m15 2 (by decide) qf_RX7_56 rfl dX7_undo_20 ?_
    refine lv_iconst (v := (1 : Int32)) hM.1 hM.2.1 dX7_undo_23 (by decide) ?_
    refine lv_isub hM.1 hM.2.1 dX7_undo_24 ?_
    refine p15_2 hM hK hX m15 qf_RX7_56 dX7_undo_25 (fun S_4 e_5 H locs hX => ?_)
    replace hq := hq S_4 e_5
    refine lv_iconst (v := (0 : Int32)) hM.1 hM.2.1 dX7_undo_28 (by decide) ?_
    refine lv_istore_n (lv' := [(1, .int (0 : Int32)), (0, .ref (ad 15 0 0))]) hM.1 hM.2.1 dX7_undo_29 rfl hl (by decide) rfl (fun ls hl => ?_)
    obtain ⟨k0, hq⟩ := hq
    refine L30 (fun S_11 hq H locs ls hX hl => ?_) k0 S_4 (0 : Int32) hq _ _ _ hX (lv_sub hl [1, 0] rfl)
    refine lv_aload_n hM.1 hM.2.1 dX7_undo_64 rfl (lv_at hl 0 rfl) ?_
    refine g15 hM hK hX m15 2 (by decide) qf_RX7_56 rfl dX7_undo_65 ?_
    exact e_i hM hX hlocks hret hq dX7_undo_68
  replace hq := hq.2 c_3
  refine lv_aload_n hM.1 hM.2.1 dX7_undo_12 rfl (lv_at hl 0 rfl) ?_
  refine lv_iconst (v := (1 : Int32)) hM.1 hM.2.1 dX7_undo_13 (by decide) ?_
  refine cVi (As := [.int (1 : Int32)]) hM hK hX hA (met_X7_fails l D ad cy S_1 (1 : Int32) hq) (kX7_fails hM.2.2.2.2 ql_RX7_59 (Nat.le_of_ble_eq_true rfl) (Nat.le_of_ble_eq_true rfl)) (v15 hK hX m15) rfl hl.1 rfl (Nat.le_of_ble_eq_true rfl) dX7_undo_14 ⟨Nat.zero_le _, Nat.zero_le _⟩ (fun S_12 r_13 hq H locs hX => ?_)
  exact e_i hM hX hlocks hret hq dX7_undo_17
def rmX7_keep : Room := { frames := 1, cells := 0, slots := 0, locals := 22 }
theorem kX7_keep {R : Room} {s : State} {args : Array Value} {own : String} {index : Nat} (ht : ∀ w ∈ lw_all, w.before args s = true) (hl : Cond.methodLink own index yX7_keep ∈ lw_all) (hf : rmX7_keep.frames + 1 ≤ R.frames) (hlo : 8 + (3 + 11) + rmX7_keep.locals ≤ R.locals) : CallW R s args own RX7 index yX7_keep cX7_keep 3 (some Jvm.ClassFile.FieldType.int) (wA yX7_keep cX7_keep 3 (some Jvm.ClassFile.FieldType.int)) rmX7_keep 0 0 1 := cwV 1 ht (good_V hl qm_yX7_keep qs_yX7_keep qi_RX7 qc_yX7_keep) rfl rfl rfl (by decide +kernel) ⟨hf, hlo⟩
set_option maxRecDepth 100000 in
set_option maxHeartbeats 4000000 in
theorem met_X7_keep (l : Launch) (D : va_G) (ad : Adr) (cy : Nat → ClassId) (S : Mem) (x1 : Int32) {Q : Mem → Int32 → Prop} (hq : vc_X7_keep S x1 Q) : Ci l yX7_keep (wA yX7_keep cX7_keep 3 (some Jvm.ClassFile.FieldType.int)) rmX7_keep D ad cy [.ref (ad 15 0 0), .int x1] S Q := by
  intro o sz
  refine mkC (own := RX7) (lv := [(0, .ref (ad 15 0 0)), (1, .int x1)]) (by decide) rfl (Nat.le_of_ble_eq_true rfl) rfl ⟨rfl, rfl⟩ ?_
  intro p e s m below meth c ls hsz hM hlocks hret hK hA hX hl
  have L22 : ∀ {K : Mem → Prop} (hk : ∀ (S : Mem), K S → ∀ (H : Heap) (locs : List Loc) (ls : Array Slot), PW D ad cy (AW ad sz) s.heap o S H locs → lv_has ls 3 [(0, .ref (ad 15 0 0)), (1, .int x1)] → Wi D ad cy o sz Q p l e rmX7_keep s m [.ref (ad 15 0 0), .int x1] below meth c H locs (F0 m 53 ls [])), ∀ (n : Nat) (S : Mem) (y2 : Int32), vc_X7_keep_L22 Q K x1 n S y2 → ∀ (H : Heap) (locs : List Loc) (ls : Array Slot), PW D ad cy (AW ad sz) s.heap o S H locs → lv_has ls 3 [(0, .ref (ad 15 0 0)), (1, .int x1), (2, .int y2)] → Wi D ad cy o sz Q p l e rmX7_keep s m [.ref (ad 15 0 0), .int x1] below meth c H locs (F0 m 22 ls []) := by
    intro K hk n
    induction n with
    | zero =>
      intro S y2 hq
      rw [vc_X7_keep_L22] at hq
      exact hq.elim
    | succ n ih =>
      intro S y2 hq H locs ls hX hl
      rw [vc_X7_keep_L22] at hq
      refine lv_iload_n hM.1 hM.2.1 dX7_keep_22 rfl (lv_at hl 2 rfl) ?_
      refine lv_sipush (v := (226 : Int32)) hM.1 hM.2.1 dX7_keep_23 (by decide) ?_
      refine lv_icmp_ge (tgt := 53) hM.1 hM.2.1 dX7_keep_26 (by decide) (fun c_6 => ?_) (fun c_6 => ?_)
      · replace hq := hq.1 c_6
        exact hk S hq _ _ _ hX (lv_sub hl [0, 1] rfl)
      replace hq := hq.2 c_6
      refine lv_aload_n hM.1 hM.2.1 dX7_keep_29 rfl (lv_at hl 0 rfl) ?_
      refine g15 hM hK hX m15 3 (by decide) qf_RX7_16 rfl dX7_keep_30 ?_
      refine lv_sipush (v := (226 : Int32)) hM.1 hM.2.1 dX7_keep_33 (by decide) ?_
      refine lv_iload_n hM.1 hM.2.1 dX7_keep_36 rfl (lv_at hl 1 rfl) ?_
      refine lv_imul hM.1 hM.2.1 dX7_keep_37 ?_
      refine lv_iload_n hM.1 hM.2.1 dX7_keep_38 rfl (lv_at hl 2 rfl) ?_
      refine lv_iadd hM.1 hM.2.1 dX7_keep_39 ?_
      refine lv_aload_n hM.1 hM.2.1 dX7_keep_40 rfl (lv_at hl 0 rfl) ?_
      refine g15 hM hK hX m15 0 (by decide) qf_RX7_7 rfl dX7_keep_41 ?_
      refine lv_iload_n hM.1 hM.2.1 dX7_keep_44 rfl (lv_at hl 2 rfl) ?_
      have c_7 := hq.1
      replace hq := hq.2
      refine r_iald hM hK hX m16 (a16 0 0) c_7 dX7_keep_45 ?_
      have c_9 := hq.1
      replace hq := hq.2
      refine r_iast hM hK hX m18 (a18 0 0) c_9 dX7_keep_46 (fun S_8 e_10 H locs hX => ?_)
      replace hq := hq S_8 e_10
      refine lv_iinc (v := (y2 + (1 : Int32))) (lv' := [(2, .int (y2 + (1 : Int32))), (0, .ref (ad 15 0 0)), (1, .int x1)]) hM.1 hM.2.1 dX7_keep_47 hl (k := 2) rfl rfl (by decide) rfl (fun ls hl => ?_)
      refine lv_goto (tgt := 22) hM.1 hM.2.1 dX7_keep_50 (by decide) ?_
      exact ih S_8 (y2 + (1 : Int32)) hq _ _ _ hX (lv_sub hl [1, 2, 0] rfl)
  unfold vc_X7_keep at hq
  refine lv_aload_n hM.1 hM.2.1 dX7_keep_0 rfl (lv_at hl 0 rfl) ?_
  refine lv_iconst (v := (0 : Int32)) hM.1 hM.2.1 dX7_keep_1 (by decide) ?_
  refine p15_6 hM hK hX m15 qf_RX7_48 dX7_keep_2 (fun S_1 e_2 H locs hX => ?_)
  replace hq := hq S_1 e_2
  refine lv_iload_n hM.1 hM.2.1 dX7_keep_5 rfl (lv_at hl 1 rfl) ?_
  refine lv_iconst (v := (0 : Int32)) hM.1 hM.2.1 dX7_keep_6 (by decide) ?_
  refine lv_iconst (v := (1 : Int32)) hM.1 hM.2.1 dX7_keep_7 (by decide) ?_
  refine cSi (As := [.int x1, .int (0 : Int32), .int (1 : Int32)]) hM hK hX hA (met_X7_in l D ad cy S_1 x1 (0 : Int32) (1 : Int32) hq) (kX7_in hM.2.2.2.2 ql_RX7_52 (Nat.le_of_ble_eq_true rfl) (Nat.le_of_ble_eq_true rfl)) rfl hl.1 rfl (Nat.le_of_ble_eq_true rfl) dX7_keep_8 ⟨Nat.zero_le _, Nat.zero_le _⟩ (fun S_3 r_4 hq H locs hX => ?_)
  refine lv_if_ne (tgt := 20) hM.1 hM.2.1 dX7_keep_11 (by decide) (fun c_5 => ?_) (fun c_5 => ?_)
  · replace hq := hq.1 c_5
    refine lv_iconst (v := (0 : Int32)) hM.1 hM.2.1 dX7_keep_20 (by decide) ?_
    refine lv_istore_n (lv' := [(2, .int (0 : Int32)), (0, .ref (ad 15 0 0)), (1, .int x1)]) hM.1 hM.2.1 dX7_keep_21 rfl hl (by decide) rfl (fun ls hl => ?_)
    obtain ⟨k0, hq⟩ := hq
    refine L22 (fun S_11 hq H locs ls hX hl => ?_) k0 S_3 (0 : Int32) hq _ _ _ hX (lv_sub hl [1, 2, 0] rfl)
    refine lv_aload_n hM.1 hM.2.1 dX7_keep_53 rfl (lv_at hl 0 rfl) ?_
    refine g15 hM hK hX m15 4 (by decide) qf_RX7_19 rfl dX7_keep_54 ?_
    refine lv_iload_n hM.1 hM.2.1 dX7_keep_57 rfl (lv_at hl 1 rfl) ?_
    refine lv_iconst (v := (1 : Int32)) hM.1 hM.2.1 dX7_keep_58 (by decide) ?_
    have c_13 := hq.1
    replace hq := hq.2
    refine r_zast hM hK hX m19 (a19 0 0) c_13 dX7_keep_59 (fun S_12 e_14 H locs hX => ?_)
    replace hq := hq S_12 e_14
    refine lv_aload_n hM.1 hM.2.1 dX7_keep_60 rfl (lv_at hl 0 rfl) ?_
    refine g15 hM hK hX m15 0 (by decide) qf_RX7_7 rfl dX7_keep_61 ?_
    refine lv_iconst (v := (0 : Int32)) hM.1 hM.2.1 dX7_keep_64 (by decide) ?_
    have c_15 := hq.1
    replace hq := hq.2
    refine r_iald hM hK hX m16 (a16 0 0) c_15 dX7_keep_65 ?_
    exact e_i hM hX hlocks hret hq dX7_keep_66
  replace hq := hq.2 c_5
  refine lv_aload_n hM.1 hM.2.1 dX7_keep_14 rfl (lv_at hl 0 rfl) ?_
  refine lv_iconst (v := (1 : Int32)) hM.1 hM.2.1 dX7_keep_15 (by decide) ?_
  refine cVi (As := [.int (1 : Int32)]) hM hK hX hA (met_X7_fails l D ad cy S_3 (1 : Int32) hq) (kX7_fails hM.2.2.2.2 ql_RX7_59 (Nat.le_of_ble_eq_true rfl) (Nat.le_of_ble_eq_true rfl)) (v15 hK hX m15) rfl hl.1 rfl (Nat.le_of_ble_eq_true rfl) dX7_keep_16 ⟨Nat.zero_le _, Nat.zero_le _⟩ (fun S_16 r_17 hq H locs hX => ?_)
  exact e_i hM hX hlocks hret hq dX7_keep_19
def rmX7_goBack : Room := { frames := 1, cells := 0, slots := 0, locals := 22 }
theorem kX7_goBack {R : Room} {s : State} {args : Array Value} {own : String} {index : Nat} (ht : ∀ w ∈ lw_all, w.before args s = true) (hl : Cond.methodLink own index yX7_goBack ∈ lw_all) (hf : rmX7_goBack.frames + 1 ≤ R.frames) (hlo : 8 + (3 + 11) + rmX7_goBack.locals ≤ R.locals) : CallW R s args own RX7 index yX7_goBack cX7_goBack 3 (some Jvm.ClassFile.FieldType.int) (wA yX7_goBack cX7_goBack 3 (some Jvm.ClassFile.FieldType.int)) rmX7_goBack 0 0 1 := cwV 1 ht (good_V hl qm_yX7_goBack qs_yX7_goBack qi_RX7 qc_yX7_goBack) rfl rfl rfl (by decide +kernel) ⟨hf, hlo⟩
set_option maxRecDepth 100000 in
set_option maxHeartbeats 4000000 in
theorem met_X7_goBack (l : Launch) (D : va_G) (ad : Adr) (cy : Nat → ClassId) (S : Mem) (x1 : Int32) {Q : Mem → Int32 → Prop} (hq : vc_X7_goBack S x1 Q) : Ci l yX7_goBack (wA yX7_goBack cX7_goBack 3 (some Jvm.ClassFile.FieldType.int)) rmX7_goBack D ad cy [.ref (ad 15 0 0), .int x1] S Q := by
  intro o sz
  refine mkC (own := RX7) (lv := [(0, .ref (ad 15 0 0)), (1, .int x1)]) (by decide) rfl (Nat.le_of_ble_eq_true rfl) rfl ⟨rfl, rfl⟩ ?_
  intro p e s m below meth c ls hsz hM hlocks hret hK hA hX hl
  have L41 : ∀ {K : Mem → Prop} (hk : ∀ (S : Mem), K S → ∀ (H : Heap) (locs : List Loc) (ls : Array Slot), PW D ad cy (AW ad sz) s.heap o S H locs → lv_has ls 3 [(0, .ref (ad 15 0 0))] → Wi D ad cy o sz Q p l e rmX7_goBack s m [.ref (ad 15 0 0), .int x1] below meth c H locs (F0 m 72 ls [])), ∀ (n : Nat) (S : Mem) (y2 : Int32), vc_X7_goBack_L41 Q K x1 n S y2 → ∀ (H : Heap) (locs : List Loc) (ls : Array Slot), PW D ad cy (AW ad sz) s.heap o S H locs → lv_has ls 3 [(0, .ref (ad 15 0 0)), (1, .int x1), (2, .int y2)] → Wi D ad cy o sz Q p l e rmX7_goBack s m [.ref (ad 15 0 0), .int x1] below meth c H locs (F0 m 41 ls []) := by
    intro K hk n
    induction n with
    | zero =>
      intro S y2 hq
      rw [vc_X7_goBack_L41] at hq
      exact hq.elim
    | succ n ih =>
      intro S y2 hq H locs ls hX hl
      rw [vc_X7_goBack_L41] at hq
      refine lv_iload_n hM.1 hM.2.1 dX7_goBack_41 rfl (lv_at hl 2 rfl) ?_
      refine lv_sipush (v := (226 : Int32)) hM.1 hM.2.1 dX7_goBack_42 (by decide) ?_
      refine lv_icmp_ge (tgt := 72) hM.1 hM.2.1 dX7_goBack_45 (by decide) (fun c_9 => ?_) (fun c_9 => ?_)
      · replace hq := hq.1 c_9
        exact hk S hq _ _ _ hX (lv_sub hl [0] rfl)
      replace hq := hq.2 c_9
      refine lv_aload_n hM.1 hM.2.1 dX7_goBack_48 rfl (lv_at hl 0 rfl) ?_
      refine g15 hM hK hX m15 0 (by decide) qf_RX7_7 rfl dX7_goBack_49 ?_
      refine lv_iload_n hM.1 hM.2.1 dX7_goBack_52 rfl (lv_at hl 2 rfl) ?_
      refine lv_aload_n hM.1 hM.2.1 dX7_goBack_53 rfl (lv_at hl 0 rfl) ?_
      refine g15 hM hK hX m15 3 (by decide) qf_RX7_16 rfl dX7_goBack_54 ?_
      refine lv_sipush (v := (226 : Int32)) hM.1 hM.2.1 dX7_goBack_57 (by decide) ?_
      refine lv_iload_n hM.1 hM.2.1 dX7_goBack_60 rfl (lv_at hl 1 rfl) ?_
      refine lv_imul hM.1 hM.2.1 dX7_goBack_61 ?_
      refine lv_iload_n hM.1 hM.2.1 dX7_goBack_62 rfl (lv_at hl 2 rfl) ?_
      refine lv_iadd hM.1 hM.2.1 dX7_goBack_63 ?_
      have c_10 := hq.1
      replace hq := hq.2
      refine r_iald hM hK hX m18 (a18 0 0) c_10 dX7_goBack_64 ?_
      have c_12 := hq.1
      replace hq := hq.2
      refine r_iast hM hK hX m16 (a16 0 0) c_12 dX7_goBack_65 (fun S_11 e_13 H locs hX => ?_)
      replace hq := hq S_11 e_13
      refine lv_iinc (v := (y2 + (1 : Int32))) (lv' := [(2, .int (y2 + (1 : Int32))), (0, .ref (ad 15 0 0)), (1, .int x1)]) hM.1 hM.2.1 dX7_goBack_66 hl (k := 2) rfl rfl (by decide) rfl (fun ls hl => ?_)
      refine lv_goto (tgt := 41) hM.1 hM.2.1 dX7_goBack_69 (by decide) ?_
      exact ih S_11 (y2 + (1 : Int32)) hq _ _ _ hX (lv_sub hl [1, 2, 0] rfl)
  unfold vc_X7_goBack at hq
  refine lv_aload_n hM.1 hM.2.1 dX7_goBack_0 rfl (lv_at hl 0 rfl) ?_
  refine lv_iconst (v := (0 : Int32)) hM.1 hM.2.1 dX7_goBack_1 (by decide) ?_
  refine p15_6 hM hK hX m15 qf_RX7_48 dX7_goBack_2 (fun S_1 e_2 H locs hX => ?_)
  replace hq := hq S_1 e_2
  refine lv_iload_n hM.1 hM.2.1 dX7_goBack_5 rfl (lv_at hl 1 rfl) ?_
  refine lv_iconst (v := (0 : Int32)) hM.1 hM.2.1 dX7_goBack_6 (by decide) ?_
  refine lv_iconst (v := (1 : Int32)) hM.1 hM.2.1 dX7_goBack_7 (by decide) ?_
  refine cSi (As := [.int x1, .int (0 : Int32), .int (1 : Int32)]) hM hK hX hA (met_X7_in l D ad cy S_1 x1 (0 : Int32) (1 : Int32) hq) (kX7_in hM.2.2.2.2 ql_RX7_52 (Nat.le_of_ble_eq_true rfl) (Nat.le_of_ble_eq_true rfl)) rfl hl.1 rfl (Nat.le_of_ble_eq_true rfl) dX7_goBack_8 ⟨Nat.zero_le _, Nat.zero_le _⟩ (fun S_3 r_4 hq H locs hX => ?_)
  refine lv_if_ne (tgt := 20) hM.1 hM.2.1 dX7_goBack_11 (by decide) (fun c_5 => ?_) (fun c_5 => ?_)
  · replace hq := hq.1 c_5
    refine lv_aload_n hM.1 hM.2.1 dX7_goBack_20 rfl (lv_at hl 0 rfl) ?_
    refine g15 hM hK hX m15 4 (by decide) qf_RX7_19 rfl dX7_goBack_21 ?_
    refine lv_iload_n hM.1 hM.2.1 dX7_goBack_24 rfl (lv_at hl 1 rfl) ?_
    have c_6 := hq.1
    replace hq := hq.2
    refine r_zald hM hK hX m19 (a19 0 0) c_6 dX7_goBack_25 ?_
    refine lv_if_ne (tgt := 35) hM.1 hM.2.1 dX7_goBack_26 (by decide) (fun c_7 => ?_) (fun c_7 => ?_)
    · replace hq := hq.1 c_7
      refine lv_aload_n hM.1 hM.2.1 dX7_goBack_35 rfl (lv_at hl 0 rfl) ?_
      refine cVv (As := []) hM hK hX hA (met_X7_save l D ad cy S_3 hq) (kX7_save hM.2.2.2.2 ql_RX7_63 (Nat.le_of_ble_eq_true rfl) (Nat.le_of_ble_eq_true rfl)) (v15 hK hX m15) rfl hl.1 rfl (Nat.le_of_ble_eq_true rfl) dX7_goBack_36 ⟨Nat.zero_le _, Nat.zero_le _⟩ (fun S_8 hq H locs hX => ?_)
      refine lv_iconst (v := (0 : Int32)) hM.1 hM.2.1 dX7_goBack_39 (by decide) ?_
      refine lv_istore_n (lv' := [(2, .int (0 : Int32)), (0, .ref (ad 15 0 0)), (1, .int x1)]) hM.1 hM.2.1 dX7_goBack_40 rfl hl (by decide) rfl (fun ls hl => ?_)
      obtain ⟨k0, hq⟩ := hq
      refine L41 (fun S_14 hq H locs ls hX hl => ?_) k0 S_8 (0 : Int32) hq _ _ _ hX (lv_sub hl [1, 2, 0] rfl)
      refine lv_aload_n hM.1 hM.2.1 dX7_goBack_72 rfl (lv_at hl 0 rfl) ?_
      refine g15 hM hK hX m15 0 (by decide) qf_RX7_7 rfl dX7_goBack_73 ?_
      refine lv_iconst (v := (0 : Int32)) hM.1 hM.2.1 dX7_goBack_76 (by decide) ?_
      have c_15 := hq.1
      replace hq := hq.2
      refine r_iald hM hK hX m16 (a16 0 0) c_15 dX7_goBack_77 ?_
      exact e_i hM hX hlocks hret hq dX7_goBack_78
    replace hq := hq.2 c_7
    refine lv_aload_n hM.1 hM.2.1 dX7_goBack_29 rfl (lv_at hl 0 rfl) ?_
    refine lv_iconst (v := (2 : Int32)) hM.1 hM.2.1 dX7_goBack_30 (by decide) ?_
    refine cVi (As := [.int (2 : Int32)]) hM hK hX hA (met_X7_fails l D ad cy S_3 (2 : Int32) hq) (kX7_fails hM.2.2.2.2 ql_RX7_59 (Nat.le_of_ble_eq_true rfl) (Nat.le_of_ble_eq_true rfl)) (v15 hK hX m15) rfl hl.1 rfl (Nat.le_of_ble_eq_true rfl) dX7_goBack_31 ⟨Nat.zero_le _, Nat.zero_le _⟩ (fun S_16 r_17 hq H locs hX => ?_)
    exact e_i hM hX hlocks hret hq dX7_goBack_34
  replace hq := hq.2 c_5
  refine lv_aload_n hM.1 hM.2.1 dX7_goBack_14 rfl (lv_at hl 0 rfl) ?_
  refine lv_iconst (v := (1 : Int32)) hM.1 hM.2.1 dX7_goBack_15 (by decide) ?_
  refine cVi (As := [.int (1 : Int32)]) hM hK hX hA (met_X7_fails l D ad cy S_3 (1 : Int32) hq) (kX7_fails hM.2.2.2.2 ql_RX7_59 (Nat.le_of_ble_eq_true rfl) (Nat.le_of_ble_eq_true rfl)) (v15 hK hX m15) rfl hl.1 rfl (Nat.le_of_ble_eq_true rfl) dX7_goBack_16 ⟨Nat.zero_le _, Nat.zero_le _⟩ (fun S_18 r_19 hq H locs hX => ?_)
  exact e_i hM hX hlocks hret hq dX7_goBack_19
def rmX7_mendedBy : Room := { frames := 1, cells := 0, slots := 0, locals := 22 }
theorem kX7_mendedBy {R : Room} {s : State} {args : Array Value} {own : String} {index : Nat} (ht : ∀ w ∈ lw_all, w.before args s = true) (hl : Cond.methodLink own index yX7_mendedBy ∈ lw_all) (hf : rmX7_mendedBy.frames + 1 ≤ R.frames) (hlo : 8 + (5 + 11) + rmX7_mendedBy.locals ≤ R.locals) : CallW R s args own RX7 index yX7_mendedBy cX7_mendedBy 5 (some Jvm.ClassFile.FieldType.int) (wA yX7_mendedBy cX7_mendedBy 5 (some Jvm.ClassFile.FieldType.int)) rmX7_mendedBy 0 0 2 := cwV 2 ht (good_V hl qm_yX7_mendedBy qs_yX7_mendedBy qi_RX7 qc_yX7_mendedBy) rfl rfl rfl (by decide +kernel) ⟨hf, hlo⟩
set_option maxRecDepth 100000 in
set_option maxHeartbeats 4000000 in
theorem met_X7_mendedBy (l : Launch) (D : va_G) (ad : Adr) (cy : Nat → ClassId) (S : Mem) (x1 : Int32) (x2 : Int32) {Q : Mem → Int32 → Prop} (hq : vc_X7_mendedBy S x1 x2 Q) : Ci l yX7_mendedBy (wA yX7_mendedBy cX7_mendedBy 5 (some Jvm.ClassFile.FieldType.int)) rmX7_mendedBy D ad cy [.ref (ad 15 0 0), .int x1, .int x2] S Q := by
  intro o sz
  refine mkC (own := RX7) (lv := [(0, .ref (ad 15 0 0)), (1, .int x1), (2, .int x2)]) (by decide) rfl (Nat.le_of_ble_eq_true rfl) rfl ⟨rfl, rfl⟩ ?_
  intro p e s m below meth c ls hsz hM hlocks hret hK hA hX hl
  unfold vc_X7_mendedBy at hq
  refine lv_aload_n hM.1 hM.2.1 dX7_mendedBy_0 rfl (lv_at hl 0 rfl) ?_
  refine lv_iload_n hM.1 hM.2.1 dX7_mendedBy_1 rfl (lv_at hl 1 rfl) ?_
  refine lv_bipush (v := (7 : Int32)) hM.1 hM.2.1 dX7_mendedBy_2 (by decide) ?_
  refine cVi (As := [.int x1, .int (7 : Int32)]) hM hK hX hA (met_X7_of l D ad cy S x1 (7 : Int32) hq) (kX7_of hM.2.2.2.2 ql_RX7_66 (Nat.le_of_ble_eq_true rfl) (Nat.le_of_ble_eq_true rfl)) (v15 hK hX m15) rfl hl.1 rfl (Nat.le_of_ble_eq_true rfl) dX7_mendedBy_4 ⟨Nat.zero_le _, Nat.zero_le _⟩ (fun S_1 r_2 hq H locs hX => ?_)
  refine lv_if_ne (tgt := 13) hM.1 hM.2.1 dX7_mendedBy_7 (by decide) (fun c_3 => ?_) (fun c_3 => ?_)
  · replace hq := hq.1 c_3
    refine lv_aload_n hM.1 hM.2.1 dX7_mendedBy_13 rfl (lv_at hl 0 rfl) ?_
    refine lv_iload_n hM.1 hM.2.1 dX7_mendedBy_14 rfl (lv_at hl 1 rfl) ?_
    refine lv_bipush (v := (10 : Int32)) hM.1 hM.2.1 dX7_mendedBy_15 (by decide) ?_
    refine cVi (As := [.int x1, .int (10 : Int32)]) hM hK hX hA (met_X7_of l D ad cy S_1 x1 (10 : Int32) hq) (kX7_of hM.2.2.2.2 ql_RX7_66 (Nat.le_of_ble_eq_true rfl) (Nat.le_of_ble_eq_true rfl)) (v15 hK hX m15) rfl hl.1 rfl (Nat.le_of_ble_eq_true rfl) dX7_mendedBy_17 ⟨Nat.zero_le _, Nat.zero_le _⟩ (fun S_4 r_5 hq H locs hX => ?_)
    refine lv_istore_n (lv' := [(3, .int r_5), (0, .ref (ad 15 0 0)), (1, .int x1), (2, .int x2)]) hM.1 hM.2.1 dX7_mendedBy_20 rfl hl (by decide) rfl (fun ls hl => ?_)
    refine lv_aload_n hM.1 hM.2.1 dX7_mendedBy_21 rfl (lv_at hl 1 rfl) ?_
    refine lv_iload_n hM.1 hM.2.1 dX7_mendedBy_22 rfl (lv_at hl 2 rfl) ?_
    refine lv_bipush (v := (7 : Int32)) hM.1 hM.2.1 dX7_mendedBy_23 (by decide) ?_
    refine cVi (As := [.int x1, .int (7 : Int32)]) hM hK hX hA (met_X7_of l D ad cy S_4 x1 (7 : Int32) hq) (kX7_of hM.2.2.2.2 ql_RX7_66 (Nat.le_of_ble_eq_true rfl) (Nat.le_of_ble_eq_true rfl)) (v15 hK hX m15) rfl hl.1 rfl (Nat.le_of_ble_eq_true rfl) dX7_mendedBy_25 ⟨Nat.zero_le _, Nat.zero_le _⟩ (fun S_6 r_7 hq H locs hX => ?_)
    refine lv_iconst (v := (1 : Int32)) hM.1 hM.2.1 dX7_mendedBy_28 (by decide) ?_
    refine lv_icmp_le (tgt := 68) hM.1 hM.2.1 dX7_mendedBy_29 (by decide) (fun c_8 => ?_) (fun c_8 => ?_)
    · replace hq := hq.1 c_8
      refine lv_iload_n hM.1 hM.2.1 dX7_mendedBy_68 rfl (lv_at hl 0 rfl) ?_
      refine lv_aload_n hM.1 hM.2.1 dX7_mendedBy_69 rfl (lv_at hl 1 rfl) ?_
      refine lv_iload_n hM.1 hM.2.1 dX7_mendedBy_70 rfl (lv_at hl 2 rfl) ?_
      refine lv_iconst (v := (2 : Int32)) hM.1 hM.2.1 dX7_mendedBy_71 (by decide) ?_
      refine cVi (As := [.int x1, .int (2 : Int32)]) hM hK hX hA (met_X7_of l D ad cy S_6 x1 (2 : Int32) hq) (kX7_of hM.2.2.2.2 ql_RX7_66 (Nat.le_of_ble_eq_true rfl) (Nat.le_of_ble_eq_true rfl)) (v15 hK hX m15) rfl hl.1 rfl (Nat.le_of_ble_eq_true rfl) dX7_mendedBy_72 ⟨Nat.zero_le _, Nat.zero_le _⟩ (fun S_9 r_10 hq H locs hX => ?_)
      refine lv_isub hM.1 hM.2.1 dX7_mendedBy_75 ?_
      exact e_i hM hX hlocks hret hq dX7_mendedBy_76
    replace hq := hq.2 c_8
    refine lv_aload_n hM.1 hM.2.1 dX7_mendedBy_32 rfl (lv_at hl 1 rfl) ?_
    refine lv_iload_n hM.1 hM.2.1 dX7_mendedBy_33 rfl (lv_at hl 2 rfl) ?_
    refine lv_bipush (v := (9 : Int32)) hM.1 hM.2.1 dX7_mendedBy_34 (by decide) ?_
    refine cVi (As := [.int x1, .int (9 : Int32)]) hM hK hX hA (met_X7_of l D ad cy S_6 x1 (9 : Int32) hq) (kX7_of hM.2.2.2.2 ql_RX7_66 (Nat.le_of_ble_eq_true rfl) (Nat.le_of_ble_eq_true rfl)) (v15 hK hX m15) rfl hl.1 rfl (Nat.le_of_ble_eq_true rfl) dX7_mendedBy_36 ⟨Nat.zero_le _, Nat.zero_le _⟩ (fun S_11 r_12 hq H locs hX => ?_)
    refine lv_aload_n hM.1 hM.2.1 dX7_mendedBy_39 rfl (lv_at hl 1 rfl) ?_
    refine lv_iload_n hM.1 hM.2.1 dX7_mendedBy_40 rfl (lv_at hl 2 rfl) ?_
    refine lv_bipush (v := (11 : Int32)) hM.1 hM.2.1 dX7_mendedBy_41 (by decide) ?_
    refine cVi (As := [.int x1, .int (11 : Int32)]) hM hK hX hA (met_X7_of l D ad cy S_11 x1 (11 : Int32) hq) (kX7_of hM.2.2.2.2 ql_RX7_66 (Nat.le_of_ble_eq_true rfl) (Nat.le_of_ble_eq_true rfl)) (v15 hK hX m15) rfl hl.1 rfl (Nat.le_of_ble_eq_true rfl) dX7_mendedBy_43 ⟨Nat.zero_le _, Nat.zero_le _⟩ (fun S_13 r_14 hq H locs hX => ?_)
    refine lv_isub hM.1 hM.2.1 dX7_mendedBy_46 ?_
    refine lv_istore (lv' := [(4, .int (r_12 - r_14)), (3, .int r_5), (0, .ref (ad 15 0 0)), (1, .int x1), (2, .int x2)]) hM.1 hM.2.1 dX7_mendedBy_47 hl (by decide) rfl (fun ls hl => ?_)
    refine lv_iload_n hM.1 hM.2.1 dX7_mendedBy_49 rfl (lv_at hl 1 rfl) ?_
    refine lv_iload_n hM.1 hM.2.1 dX7_mendedBy_50 rfl (lv_at hl 1 rfl) ?_
    refine lv_aload_n hM.1 hM.2.1 dX7_mendedBy_51 rfl (lv_at hl 2 rfl) ?_
    refine lv_iload_n hM.1 hM.2.1 dX7_mendedBy_52 rfl (lv_at hl 3 rfl) ?_
    refine lv_bipush (v := (12 : Int32)) hM.1 hM.2.1 dX7_mendedBy_53 (by decide) ?_
    refine cVi (As := [.int x1, .int (12 : Int32)]) hM hK hX hA (met_X7_of l D ad cy S_13 x1 (12 : Int32) hq) (kX7_of hM.2.2.2.2 ql_RX7_66 (Nat.le_of_ble_eq_true rfl) (Nat.le_of_ble_eq_true rfl)) (v15 hK hX m15) rfl hl.1 rfl (Nat.le_of_ble_eq_true rfl) dX7_mendedBy_55 ⟨Nat.zero_le _, Nat.zero_le _⟩ (fun S_15 r_16 hq H locs hX => ?_)
    refine lv_isub hM.1 hM.2.1 dX7_mendedBy_58 ?_
    refine lv_iload_n hM.1 hM.2.1 dX7_mendedBy_59 rfl (lv_at hl 4 rfl) ?_
    refine lv_iconst (v := (1 : Int32)) hM.1 hM.2.1 dX7_mendedBy_60 (by decide) ?_
    refine lv_isub hM.1 hM.2.1 dX7_mendedBy_61 ?_
    refine lv_imul hM.1 hM.2.1 dX7_mendedBy_62 ?_
    refine lv_iload hM.1 hM.2.1 dX7_mendedBy_63 (lv_at hl 0 rfl) ?_
    have c_17 := hq.1
    replace hq := hq.2
    refine lv_idiv hM.1 hM.2.1 dX7_mendedBy_65 c_17 ?_
    refine lv_iadd hM.1 hM.2.1 dX7_mendedBy_66 ?_
    refine lv_istore_n (lv' := [(3, .int (r_5 + (((r_5 - r_16) * (x2 - (1 : Int32))) / (r_12 - r_14)))), (4, .int (r_12 - r_14)), (0, .ref (ad 15 0 0)), (1, .int x1), (2, .int x2)]) hM.1 hM.2.1 dX7_mendedBy_67 rfl hl (by decide) rfl (fun ls hl => ?_)
    refine lv_iload_n hM.1 hM.2.1 dX7_mendedBy_68 rfl (lv_at hl 0 rfl) ?_
    refine lv_aload_n hM.1 hM.2.1 dX7_mendedBy_69 rfl (lv_at hl 2 rfl) ?_
    refine lv_iload_n hM.1 hM.2.1 dX7_mendedBy_70 rfl (lv_at hl 3 rfl) ?_
    refine lv_iconst (v := (2 : Int32)) hM.1 hM.2.1 dX7_mendedBy_71 (by decide) ?_
    refine cVi (As := [.int x1, .int (2 : Int32)]) hM hK hX hA (met_X7_of l D ad cy S_15 x1 (2 : Int32) hq) (kX7_of hM.2.2.2.2 ql_RX7_66 (Nat.le_of_ble_eq_true rfl) (Nat.le_of_ble_eq_true rfl)) (v15 hK hX m15) rfl hl.1 rfl (Nat.le_of_ble_eq_true rfl) dX7_mendedBy_72 ⟨Nat.zero_le _, Nat.zero_le _⟩ (fun S_18 r_19 hq H locs hX => ?_)
    refine lv_isub hM.1 hM.2.1 dX7_mendedBy_75 ?_
    exact e_i hM hX hlocks hret hq dX7_mendedBy_76
  replace hq := hq.2 c_3
  refine lv_ldc hM.1 hM.2.1 hM.2.2.2.1 (hM.2.2.2.2 _ qn_RX7_47) dX7_mendedBy_10 ?_
  exact e_i hM hX hlocks hret hq dX7_mendedBy_12
def rmX7_mended : Room := { frames := 2, cells := 0, slots := 0, locals := 46 }
theorem kX7_mended {R : Room} {s : State} {args : Array Value} {own : String} {index : Nat} (ht : ∀ w ∈ lw_all, w.before args s = true) (hl : Cond.methodLink own index yX7_mended ∈ lw_all) (hf : rmX7_mended.frames + 1 ≤ R.frames) (hlo : 8 + (2 + 11) + rmX7_mended.locals ≤ R.locals) : CallW R s args own RX7 index yX7_mended cX7_mended 2 (some Jvm.ClassFile.FieldType.int) (wA yX7_mended cX7_mended 2 (some Jvm.ClassFile.FieldType.int)) rmX7_mended 0 0 1 := cwV 1 ht (good_V hl qm_yX7_mended qs_yX7_mended qi_RX7 qc_yX7_mended) rfl rfl rfl (by decide +kernel) ⟨hf, hlo⟩
set_option maxRecDepth 100000 in
set_option maxHeartbeats 4000000 in
theorem met_X7_mended (l : Launch) (D : va_G) (ad : Adr) (cy : Nat → ClassId) (S : Mem) (x1 : Int32) {Q : Mem → Int32 → Prop} (hq : vc_X7_mended S x1 Q) : Ci l yX7_mended (wA yX7_mended cX7_mended 2 (some Jvm.ClassFile.FieldType.int)) rmX7_mended D ad cy [.ref (ad 15 0 0), .int x1] S Q := by
  intro o sz
  refine mkC (own := RX7) (lv := [(0, .ref (ad 15 0 0)), (1, .int x1)]) (by decide) rfl (Nat.le_of_ble_eq_true rfl) rfl ⟨rfl, rfl⟩ ?_
  intro p e s m below meth c ls hsz hM hlocks hret hK hA hX hl
  unfold vc_X7_mended at hq
  refine lv_aload_n hM.1 hM.2.1 dX7_mended_0 rfl (lv_at hl 0 rfl) ?_
  refine lv_iload_n hM.1 hM.2.1 dX7_mended_1 rfl (lv_at hl 1 rfl) ?_
  refine lv_aload_n hM.1 hM.2.1 dX7_mended_2 rfl (lv_at hl 0 rfl) ?_
  refine lv_iload_n hM.1 hM.2.1 dX7_mended_3 rfl (lv_at hl 1 rfl) ?_
  refine lv_iconst (v := (1 : Int32)) hM.1 hM.2.1 dX7_mended_4 (by decide) ?_
  refine cVi (As := [.int x1, .int (1 : Int32)]) hM hK hX hA (met_X7_of l D ad cy S x1 (1 : Int32) hq) (kX7_of hM.2.2.2.2 ql_RX7_66 (Nat.le_of_ble_eq_true rfl) (Nat.le_of_ble_eq_true rfl)) (v15 hK hX m15) rfl hl.1 rfl (Nat.le_of_ble_eq_true rfl) dX7_mended_5 ⟨Nat.zero_le _, Nat.zero_le _⟩ (fun S_1 r_2 hq H locs hX => ?_)
  refine cVi (As := [.int x1, .int r_2]) hM hK hX hA (met_X7_mendedBy l D ad cy S_1 x1 r_2 hq) (kX7_mendedBy hM.2.2.2.2 ql_RX7_70 (Nat.le_of_ble_eq_true rfl) (Nat.le_of_ble_eq_true rfl)) (v15 hK hX m15) rfl hl.1 rfl (Nat.le_of_ble_eq_true rfl) dX7_mended_8 ⟨Nat.zero_le _, Nat.zero_le _⟩ (fun S_3 r_4 hq H locs hX => ?_)
  exact e_i hM hX hlocks hret hq dX7_mended_11
def rmX7_isAsked : Room := { frames := 1, cells := 0, slots := 0, locals := 22 }
theorem kX7_isAsked {R : Room} {s : State} {args : Array Value} {own : String} {index : Nat} (ht : ∀ w ∈ lw_all, w.before args s = true) (hl : Cond.methodLink own index yX7_isAsked ∈ lw_all) (hf : rmX7_isAsked.frames + 1 ≤ R.frames) (hlo : 8 + (2 + 11) + rmX7_isAsked.locals ≤ R.locals) : CallW R s args own RX7 index yX7_isAsked cX7_isAsked 2 (some Jvm.ClassFile.FieldType.boolean) (wA yX7_isAsked cX7_isAsked 2 (some Jvm.ClassFile.FieldType.boolean)) rmX7_isAsked 0 0 1 := cwV 1 ht (good_V hl qm_yX7_isAsked qs_yX7_isAsked qi_RX7 qc_yX7_isAsked) rfl rfl rfl (by decide +kernel) ⟨hf, hlo⟩
set_option maxRecDepth 100000 in
set_option maxHeartbeats 4000000 in
theorem met_X7_isAsked (l : Launch) (D : va_G) (ad : Adr) (cy : Nat → ClassId) (S : Mem) (x1 : Int32) {Q : Mem → Int32 → Prop} (hq : vc_X7_isAsked S x1 Q) : Ci l yX7_isAsked (wA yX7_isAsked cX7_isAsked 2 (some Jvm.ClassFile.FieldType.boolean)) rmX7_isAsked D ad cy [.ref (ad 15 0 0), .int x1] S Q := by
  intro o sz
  refine mkC (own := RX7) (lv := [(0, .ref (ad 15 0 0)), (1, .int x1)]) (by decide) rfl (Nat.le_of_ble_eq_true rfl) rfl ⟨rfl, rfl⟩ ?_
  intro p e s m below meth c ls hsz hM hlocks hret hK hA hX hl
  unfold vc_X7_isAsked at hq
  refine lv_aload_n hM.1 hM.2.1 dX7_isAsked_0 rfl (lv_at hl 0 rfl) ?_
  refine lv_iload_n hM.1 hM.2.1 dX7_isAsked_1 rfl (lv_at hl 1 rfl) ?_
  refine lv_bipush (v := (7 : Int32)) hM.1 hM.2.1 dX7_isAsked_2 (by decide) ?_
  refine cVi (As := [.int x1, .int (7 : Int32)]) hM hK hX hA (met_X7_of l D ad cy S x1 (7 : Int32) hq) (kX7_of hM.2.2.2.2 ql_RX7_66 (Nat.le_of_ble_eq_true rfl) (Nat.le_of_ble_eq_true rfl)) (v15 hK hX m15) rfl hl.1 rfl (Nat.le_of_ble_eq_true rfl) dX7_isAsked_4 ⟨Nat.zero_le _, Nat.zero_le _⟩ (fun S_1 r_2 hq H locs hX => ?_)
  refine lv_if_le (tgt := 24) hM.1 hM.2.1 dX7_isAsked_7 (by decide) (fun c_3 => ?_) (fun c_3 => ?_)
  · replace hq := hq.1 c_3
    refine lv_iconst (v := (0 : Int32)) hM.1 hM.2.1 dX7_isAsked_24 (by decide) ?_
    exact e_z hM hX hlocks hret rfl hq dX7_isAsked_25
  replace hq := hq.2 c_3
  refine lv_aload_n hM.1 hM.2.1 dX7_isAsked_10 rfl (lv_at hl 0 rfl) ?_
  refine lv_iload_n hM.1 hM.2.1 dX7_isAsked_11 rfl (lv_at hl 1 rfl) ?_
  refine lv_bipush (v := (6 : Int32)) hM.1 hM.2.1 dX7_isAsked_12 (by decide) ?_
  refine cVi (As := [.int x1, .int (6 : Int32)]) hM hK hX hA (met_X7_of l D ad cy S_1 x1 (6 : Int32) hq) (kX7_of hM.2.2.2.2 ql_RX7_66 (Nat.le_of_ble_eq_true rfl) (Nat.le_of_ble_eq_true rfl)) (v15 hK hX m15) rfl hl.1 rfl (Nat.le_of_ble_eq_true rfl) dX7_isAsked_14 ⟨Nat.zero_le _, Nat.zero_le _⟩ (fun S_4 r_5 hq H locs hX => ?_)
  refine lv_if_ne (tgt := 24) hM.1 hM.2.1 dX7_isAsked_17 (by decide) (fun c_6 => ?_) (fun c_6 => ?_)
  · replace hq := hq.1 c_6
    refine lv_iconst (v := (0 : Int32)) hM.1 hM.2.1 dX7_isAsked_24 (by decide) ?_
    exact e_z hM hX hlocks hret rfl hq dX7_isAsked_25
  replace hq := hq.2 c_6
  refine lv_iconst (v := (1 : Int32)) hM.1 hM.2.1 dX7_isAsked_20 (by decide) ?_
  refine lv_goto (tgt := 25) hM.1 hM.2.1 dX7_isAsked_21 (by decide) ?_
  exact e_z hM hX hlocks hret rfl hq dX7_isAsked_25
def rmX7_sortIn : Room := { frames := 0, cells := 0, slots := 0, locals := 0 }
theorem kX7_sortIn {R : Room} {s : State} {args : Array Value} {own : String} {index : Nat} (ht : ∀ w ∈ lw_all, w.before args s = true) (hl : Cond.methodLink own index yX7_sortIn ∈ lw_all) (hf : rmX7_sortIn.frames + 1 ≤ R.frames) (hlo : 8 + (3 + 11) + rmX7_sortIn.locals ≤ R.locals) : CallW R s args own RX7 index yX7_sortIn cX7_sortIn 3 none (wA yX7_sortIn cX7_sortIn 3 none) rmX7_sortIn 0 0 1 := cwV 1 ht (good_V hl qm_yX7_sortIn qs_yX7_sortIn qi_RX7 qc_yX7_sortIn) rfl rfl rfl (by decide +kernel) ⟨hf, hlo⟩
set_option maxRecDepth 100000 in
set_option maxHeartbeats 4000000 in
theorem met_X7_sortIn (l : Launch) (D : va_G) (ad : Adr) (cy : Nat → ClassId) (S : Mem) (x1 : Int32) {Q : Mem → Prop} (hq : vc_X7_sortIn S x1 Q) : Cv l yX7_sortIn (wA yX7_sortIn cX7_sortIn 3 none) rmX7_sortIn D ad cy [.ref (ad 15 0 0), .int x1] S Q := by
  intro o sz
  refine mkC (own := RX7) (lv := [(0, .ref (ad 15 0 0)), (1, .int x1)]) (by decide) rfl (Nat.le_of_ble_eq_true rfl) rfl ⟨rfl, rfl⟩ ?_
  intro p e s m below meth c ls hsz hM hlocks hret hK hA hX hl
  have L5 : ∀ {K : Mem → Int32 → Prop} (hk : ∀ (S : Mem) (y2 : Int32), K S y2 → ∀ (H : Heap) (locs : List Loc) (ls : Array Slot), PW D ad cy (AW ad sz) s.heap o S H locs → lv_has ls 3 [(0, .ref (ad 15 0 0)), (1, .int x1), (2, .int y2)] → Wv D ad cy o sz Q p l e rmX7_sortIn s m [.ref (ad 15 0 0), .int x1] below meth c H locs (F0 m 41 ls [])), ∀ (n : Nat) (S : Mem) (y2 : Int32), vc_X7_sortIn_L5 Q K x1 n S y2 → ∀ (H : Heap) (locs : List Loc) (ls : Array Slot), PW D ad cy (AW ad sz) s.heap o S H locs → lv_has ls 3 [(0, .ref (ad 15 0 0)), (1, .int x1), (2, .int y2)] → Wv D ad cy o sz Q p l e rmX7_sortIn s m [.ref (ad 15 0 0), .int x1] below meth c H locs (F0 m 5 ls []) := by
    intro K hk n
    induction n with
    | zero =>
      intro S y2 hq
      rw [vc_X7_sortIn_L5] at hq
      exact hq.elim
    | succ n ih =>
      intro S y2 hq H locs ls hX hl
      rw [vc_X7_sortIn_L5] at hq
      refine lv_iload_n hM.1 hM.2.1 dX7_sortIn_5 rfl (lv_at hl 2 rfl) ?_
      refine lv_if_le (tgt := 41) hM.1 hM.2.1 dX7_sortIn_6 (by decide) (fun c_1 => ?_) (fun c_1 => ?_)
      · replace hq := hq.1 c_1
        exact hk S y2 hq _ _ _ hX (lv_sub hl [0, 1, 2] rfl)
      replace hq := hq.2 c_1
      refine lv_aload_n hM.1 hM.2.1 dX7_sortIn_9 rfl (lv_at hl 0 rfl) ?_
      refine g15 hM hK hX m15 7 (by decide) qf_RX7_26 rfl dX7_sortIn_10 ?_
      refine lv_iload_n hM.1 hM.2.1 dX7_sortIn_13 rfl (lv_at hl 2 rfl) ?_
      refine lv_iconst (v := (1 : Int32)) hM.1 hM.2.1 dX7_sortIn_14 (by decide) ?_
      refine lv_isub hM.1 hM.2.1 dX7_sortIn_15 ?_
      have c_2 := hq.1
      replace hq := hq.2
      refine r_iald hM hK hX m21 (a21 0 0) c_2 dX7_sortIn_16 ?_
      refine lv_iload_n hM.1 hM.2.1 dX7_sortIn_17 rfl (lv_at hl 1 rfl) ?_
      refine lv_icmp_le (tgt := 41) hM.1 hM.2.1 dX7_sortIn_18 (by decide) (fun c_3 => ?_) (fun c_3 => ?_)
      · replace hq := hq.1 c_3
        exact hk S y2 hq _ _ _ hX (lv_sub hl [0, 1, 2] rfl)
      replace hq := hq.2 c_3
      refine lv_aload_n hM.1 hM.2.1 dX7_sortIn_21 rfl (lv_at hl 0 rfl) ?_
      refine g15 hM hK hX m15 7 (by decide) qf_RX7_26 rfl dX7_sortIn_22 ?_
      refine lv_iload_n hM.1 hM.2.1 dX7_sortIn_25 rfl (lv_at hl 2 rfl) ?_
      refine lv_aload_n hM.1 hM.2.1 dX7_sortIn_26 rfl (lv_at hl 0 rfl) ?_
      refine g15 hM hK hX m15 7 (by decide) qf_RX7_26 rfl dX7_sortIn_27 ?_
      refine lv_iload_n hM.1 hM.2.1 dX7_sortIn_30 rfl (lv_at hl 2 rfl) ?_
      refine lv_iconst (v := (1 : Int32)) hM.1 hM.2.1 dX7_sortIn_31 (by decide) ?_
      refine lv_isub hM.1 hM.2.1 dX7_sortIn_32 ?_
      have c_4 := hq.1
      replace hq := hq.2
      refine r_iald hM hK hX m21 (a21 0 0) c_4 dX7_sortIn_33 ?_
      have c_6 := hq.1
      replace hq := hq.2
      refine r_iast hM hK hX m21 (a21 0 0) c_6 dX7_sortIn_34 (fun S_5 e_7 H locs hX => ?_)
      replace hq := hq S_5 e_7
      refine lv_iinc (v := (y2 + (-1 : Int32))) (lv' := [(2, .int (y2 + (-1 : Int32))), (0, .ref (ad 15 0 0)), (1, .int x1)]) hM.1 hM.2.1 dX7_sortIn_35 hl (k := 2) rfl rfl (by decide) rfl (fun ls hl => ?_)
      refine lv_goto (tgt := 5) hM.1 hM.2.1 dX7_sortIn_38 (by decide) ?_
      exact ih S_5 (y2 + (-1 : Int32)) hq _ _ _ hX (lv_sub hl [1, 2, 0] rfl)
  have J41 : ∀ (S : Mem) (y2 : Int32), vc_X7_sortIn_J41 Q x1 S y2 → ∀ (H : Heap) (locs : List Loc) (ls : Array Slot), PW D ad cy (AW ad sz) s.heap o S H locs → lv_has ls 3 [(0, .ref (ad 15 0 0)), (1, .int x1), (2, .int y2)] → Wv D ad cy o sz Q p l e rmX7_sortIn s m [.ref (ad 15 0 0), .int x1] below meth c H locs (F0 m 41 ls []) := by
    intro S y2 hq H locs ls hX hl
    unfold vc_X7_sortIn_J41 at hq
    refine lv_aload_n hM.1 hM.2.1 dX7_sortIn_41 rfl (lv_at hl 0 rfl) ?_
    refine g15 hM hK hX m15 7 (by decide) qf_RX7_26 rfl dX7_sortIn_42 ?_
    refine lv_iload_n hM.1 hM.2.1 dX7_sortIn_45 rfl (lv_at hl 2 rfl) ?_
    refine lv_iload_n hM.1 hM.2.1 dX7_sortIn_46 rfl (lv_at hl 1 rfl) ?_
    have c_11 := hq.1
    replace hq := hq.2
    refine r_iast hM hK hX m21 (a21 0 0) c_11 dX7_sortIn_47 (fun S_10 e_12 H locs hX => ?_)
    replace hq := hq S_10 e_12
    refine lv_aload_n hM.1 hM.2.1 dX7_sortIn_48 rfl (lv_at hl 0 rfl) ?_
    refine lv_dup hM.1 hM.2.1 dX7_sortIn_49 rfl ?_
    refine g15 hM hK hX m15 8 (by decide) qf_RX7_73 rfl dX7_sortIn_50 ?_
    refine lv_iconst (v := (1 : Int32)) hM.1 hM.2.1 dX7_sortIn_53 (by decide) ?_
    refine lv_iadd hM.1 hM.2.1 dX7_sortIn_54 ?_
    refine p15_8 hM hK hX m15 qf_RX7_73 dX7_sortIn_55 (fun S_13 e_14 H locs hX => ?_)
    replace hq := hq S_13 e_14
    exact e_v hM hX hlocks hret hq dX7_sortIn_58
  unfold vc_X7_sortIn at hq
  refine lv_aload_n hM.1 hM.2.1 dX7_sortIn_0 rfl (lv_at hl 0 rfl) ?_
  refine g15 hM hK hX m15 8 (by decide) qf_RX7_73 rfl dX7_sortIn_1 ?_
  refine lv_istore_n (lv' := [(2, .int (S 15 0 0 8)), (0, .ref (ad 15 0 0)), (1, .int x1)]) hM.1 hM.2.1 dX7_sortIn_4 rfl hl (by decide) rfl (fun ls hl => ?_)
  obtain ⟨k0, hq⟩ := hq
  refine L5 (fun S_8 y2_9 hq H locs ls hX hl => ?_) k0 S (S 15 0 0 8) hq _ _ _ hX (lv_sub hl [1, 2, 0] rfl)
  exact J41 S_8 y2_9 hq _ _ _ hX (lv_sub hl [0, 1, 2] rfl)
def rmX7_middleWithout : Room := { frames := 3, cells := 0, slots := 0, locals := 67 }
theorem kX7_middleWithout {R : Room} {s : State} {args : Array Value} {own : String} {index : Nat} (ht : ∀ w ∈ lw_all, w.before args s = true) (hl : Cond.methodLink own index yX7_middleWithout ∈ lw_all) (hf : rmX7_middleWithout.frames + 1 ≤ R.frames) (hlo : 8 + (3 + 11) + rmX7_middleWithout.locals ≤ R.locals) : CallW R s args own RX7 index yX7_middleWithout cX7_middleWithout 3 (some Jvm.ClassFile.FieldType.int) (wA yX7_middleWithout cX7_middleWithout 3 (some Jvm.ClassFile.FieldType.int)) rmX7_middleWithout 0 0 1 := cwV 1 ht (good_V hl qm_yX7_middleWithout qs_yX7_middleWithout qi_RX7 qc_yX7_middleWithout) rfl rfl rfl (by decide +kernel) ⟨hf, hlo⟩
set_option maxRecDepth 100000 in
set_option maxHeartbeats 4000000 in
theorem met_X7_middleWithout (l : Launch) (D : va_G) (ad : Adr) (cy : Nat → ClassId) (S : Mem) (x1 : Int32) {Q : Mem → Int32 → Prop} (hq : vc_X7_middleWithout S x1 Q) : Ci l yX7_middleWithout (wA yX7_middleWithout cX7_middleWithout 3 (some Jvm.ClassFile.FieldType.int)) rmX7_middleWithout D ad cy [.ref (ad 15 0 0), .int x1] S Q := by
  intro o sz
  refine mkC (own := RX7) (lv := [(0, .ref (ad 15 0 0)), (1, .int x1)]) (by decide) rfl (Nat.le_of_ble_eq_true rfl) rfl ⟨rfl, rfl⟩ ?_
  intro p e s m below meth c ls hsz hM hlocks hret hK hA hX hl
  have J40 : ∀ {K0 : Mem → Int32 → Prop} (hk0 : ∀ (S : Mem) (y2 : Int32), K0 S y2 → ∀ (H : Heap) (locs : List Loc) (ls : Array Slot), PW D ad cy (AW ad sz) s.heap o S H locs → lv_has ls 3 [(0, .ref (ad 15 0 0)), (1, .int x1), (2, .int y2)] → Wi D ad cy o sz Q p l e rmX7_middleWithout s m [.ref (ad 15 0 0), .int x1] below meth c H locs (F0 m 7 ls [])), ∀ {K1 : Mem → Prop} (hk1 : ∀ (S : Mem), K1 S → ∀ (H : Heap) (locs : List Loc) (ls : Array Slot), PW D ad cy (AW ad sz) s.heap o S H locs → lv_has ls 3 [(0, .ref (ad 15 0 0))] → Wi D ad cy o sz Q p l e rmX7_middleWithout s m [.ref (ad 15 0 0), .int x1] below meth c H locs (F0 m 46 ls [])), ∀ (S : Mem) (y2 : Int32), vc_X7_middleWithout_J40 Q K0 K1 x1 S y2 → ∀ (H : Heap) (locs : List Loc) (ls : Array Slot), PW D ad cy (AW ad sz) s.heap o S H locs → lv_has ls 3 [(0, .ref (ad 15 0 0)), (1, .int x1), (2, .int y2)] → Wi D ad cy o sz Q p l e rmX7_middleWithout s m [.ref (ad 15 0 0), .int x1] below meth c H locs (F0 m 40 ls []) := by
    intro K0 hk0 K1 hk1 S y2 hq H locs ls hX hl
    unfold vc_X7_middleWithout_J40 at hq
    refine lv_iinc (v := (y2 + (1 : Int32))) (lv' := [(2, .int (y2 + (1 : Int32))), (0, .ref (ad 15 0 0)), (1, .int x1)]) hM.1 hM.2.1 dX7_middleWithout_40 hl (k := 2) rfl rfl (by decide) rfl (fun ls hl => ?_)
    refine lv_goto (tgt := 7) hM.1 hM.2.1 dX7_middleWithout_43 (by decide) ?_
    exact hk0 S (y2 + (1 : Int32)) hq _ _ _ hX (lv_sub hl [1, 2, 0] rfl)
  have L7 : ∀ {K : Mem → Prop} (hk : ∀ (S : Mem), K S → ∀ (H : Heap) (locs : List Loc) (ls : Array Slot), PW D ad cy (AW ad sz) s.heap o S H locs → lv_has ls 3 [(0, .ref (ad 15 0 0))] → Wi D ad cy o sz Q p l e rmX7_middleWithout s m [.ref (ad 15 0 0), .int x1] below meth c H locs (F0 m 46 ls [])), ∀ (n : Nat) (S : Mem) (y2 : Int32), vc_X7_middleWithout_L7 Q K x1 n S y2 → ∀ (H : Heap) (locs : List Loc) (ls : Array Slot), PW D ad cy (AW ad sz) s.heap o S H locs → lv_has ls 3 [(0, .ref (ad 15 0 0)), (1, .int x1), (2, .int y2)] → Wi D ad cy o sz Q p l e rmX7_middleWithout s m [.ref (ad 15 0 0), .int x1] below meth c H locs (F0 m 7 ls []) := by
    intro K hk n
    induction n with
    | zero =>
      intro S y2 hq
      rw [vc_X7_middleWithout_L7] at hq
      exact hq.elim
    | succ n ih =>
      intro S y2 hq H locs ls hX hl
      rw [vc_X7_middleWithout_L7] at hq
      refine lv_iload_n hM.1 hM.2.1 dX7_middleWithout_7 rfl (lv_at hl 2 rfl) ?_
      refine lv_aload_n hM.1 hM.2.1 dX7_middleWithout_8 rfl (lv_at hl 0 rfl) ?_
      refine g15 hM hK hX m15 0 (by decide) qf_RX7_7 rfl dX7_middleWithout_9 ?_
      refine lv_bipush (v := (15 : Int32)) hM.1 hM.2.1 dX7_middleWithout_12 (by decide) ?_
      have c_3 := hq.1
      replace hq := hq.2
      refine r_iald hM hK hX m16 (a16 0 0) c_3 dX7_middleWithout_14 ?_
      refine lv_icmp_ge (tgt := 46) hM.1 hM.2.1 dX7_middleWithout_15 (by decide) (fun c_4 => ?_) (fun c_4 => ?_)
      · replace hq := hq.1 c_4
        exact hk S hq _ _ _ hX (lv_sub hl [0] rfl)
      replace hq := hq.2 c_4
      refine lv_iload_n hM.1 hM.2.1 dX7_middleWithout_18 rfl (lv_at hl 2 rfl) ?_
      refine lv_iload_n hM.1 hM.2.1 dX7_middleWithout_19 rfl (lv_at hl 1 rfl) ?_
      refine lv_icmp_eq (tgt := 40) hM.1 hM.2.1 dX7_middleWithout_20 (by decide) (fun c_5 => ?_) (fun c_5 => ?_)
      · replace hq := hq.1 c_5
        exact J40 ih hk S y2 hq _ _ _ hX (lv_sub hl [0, 1, 2] rfl)
      replace hq := hq.2 c_5
      refine lv_aload_n hM.1 hM.2.1 dX7_middleWithout_23 rfl (lv_at hl 0 rfl) ?_
      refine lv_iload_n hM.1 hM.2.1 dX7_middleWithout_24 rfl (lv_at hl 2 rfl) ?_
      refine cVi (As := [.int y2]) hM hK hX hA (met_X7_isAsked l D ad cy S y2 hq) (kX7_isAsked hM.2.2.2.2 ql_RX7_76 (Nat.le_of_ble_eq_true rfl) (Nat.le_of_ble_eq_true rfl)) (v15 hK hX m15) rfl hl.1 rfl (Nat.le_of_ble_eq_true rfl) dX7_middleWithout_25 ⟨Nat.zero_le _, Nat.zero_le _⟩ (fun S_6 r_7 hq H locs hX => ?_)
      refine lv_if_eq (tgt := 40) hM.1 hM.2.1 dX7_middleWithout_28 (by decide) (fun c_8 => ?_) (fun c_8 => ?_)
      · replace hq := hq.1 c_8
        exact J40 ih hk S_6 y2 hq _ _ _ hX (lv_sub hl [0, 1, 2] rfl)
      replace hq := hq.2 c_8
      refine lv_aload_n hM.1 hM.2.1 dX7_middleWithout_31 rfl (lv_at hl 0 rfl) ?_
      refine lv_aload_n hM.1 hM.2.1 dX7_middleWithout_32 rfl (lv_at hl 0 rfl) ?_
      refine lv_iload_n hM.1 hM.2.1 dX7_middleWithout_33 rfl (lv_at hl 2 rfl) ?_
      refine cVi (As := [.int y2]) hM hK hX hA (met_X7_mended l D ad cy S_6 y2 hq) (kX7_mended hM.2.2.2.2 ql_RX7_80 (Nat.le_of_ble_eq_true rfl) (Nat.le_of_ble_eq_true rfl)) (v15 hK hX m15) rfl hl.1 rfl (Nat.le_of_ble_eq_true rfl) dX7_middleWithout_34 ⟨Nat.zero_le _, Nat.zero_le _⟩ (fun S_9 r_10 hq H locs hX => ?_)
      refine cVv (As := [.int r_10]) hM hK hX hA (met_X7_sortIn l D ad cy S_9 r_10 hq) (kX7_sortIn hM.2.2.2.2 ql_RX7_83 (Nat.le_of_ble_eq_true rfl) (Nat.le_of_ble_eq_true rfl)) (v15 hK hX m15) rfl hl.1 rfl (Nat.le_of_ble_eq_true rfl) dX7_middleWithout_37 ⟨Nat.zero_le _, Nat.zero_le _⟩ (fun S_11 hq H locs hX => ?_)
      exact J40 ih hk S_11 y2 hq _ _ _ hX (lv_sub hl [0, 1, 2] rfl)
  unfold vc_X7_middleWithout at hq
  refine lv_aload_n hM.1 hM.2.1 dX7_middleWithout_0 rfl (lv_at hl 0 rfl) ?_
  refine lv_iconst (v := (0 : Int32)) hM.1 hM.2.1 dX7_middleWithout_1 (by decide) ?_
  refine p15_8 hM hK hX m15 qf_RX7_73 dX7_middleWithout_2 (fun S_1 e_2 H locs hX => ?_)
  replace hq := hq S_1 e_2
  refine lv_iconst (v := (0 : Int32)) hM.1 hM.2.1 dX7_middleWithout_5 (by decide) ?_
  refine lv_istore_n (lv' := [(2, .int (0 : Int32)), (0, .ref (ad 15 0 0)), (1, .int x1)]) hM.1 hM.2.1 dX7_middleWithout_6 rfl hl (by decide) rfl (fun ls hl => ?_)
  obtain ⟨k0, hq⟩ := hq
  refine L7 (fun S_12 hq H locs ls hX hl => ?_) k0 S_1 (0 : Int32) hq _ _ _ hX (lv_sub hl [1, 2, 0] rfl)
  refine lv_aload_n hM.1 hM.2.1 dX7_middleWithout_46 rfl (lv_at hl 0 rfl) ?_
  refine g15 hM hK hX m15 8 (by decide) qf_RX7_73 rfl dX7_middleWithout_47 ?_
  refine lv_if_ne (tgt := 58) hM.1 hM.2.1 dX7_middleWithout_50 (by decide) (fun c_13 => ?_) (fun c_13 => ?_)
  · replace hq := hq.1 c_13
    refine lv_aload_n hM.1 hM.2.1 dX7_middleWithout_58 rfl (lv_at hl 0 rfl) ?_
    refine g15 hM hK hX m15 7 (by decide) qf_RX7_26 rfl dX7_middleWithout_59 ?_
    refine lv_aload_n hM.1 hM.2.1 dX7_middleWithout_62 rfl (lv_at hl 0 rfl) ?_
    refine g15 hM hK hX m15 8 (by decide) qf_RX7_73 rfl dX7_middleWithout_63 ?_
    refine lv_iconst (v := (1 : Int32)) hM.1 hM.2.1 dX7_middleWithout_66 (by decide) ?_
    refine lv_isub hM.1 hM.2.1 dX7_middleWithout_67 ?_
    refine lv_iconst (v := (2 : Int32)) hM.1 hM.2.1 dX7_middleWithout_68 (by decide) ?_
    have c_14 := hq.1
    replace hq := hq.2
    refine lv_idiv hM.1 hM.2.1 dX7_middleWithout_69 c_14 ?_
    have c_15 := hq.1
    replace hq := hq.2
    refine r_iald hM hK hX m21 (a21 0 0) c_15 dX7_middleWithout_70 ?_
    exact e_i hM hX hlocks hret hq dX7_middleWithout_71
  replace hq := hq.2 c_13
  refine lv_ldc hM.1 hM.2.1 hM.2.2.2.1 (hM.2.2.2.2 _ qn_RX7_47) dX7_middleWithout_53 ?_
  refine lv_goto (tgt := 71) hM.1 hM.2.1 dX7_middleWithout_55 (by decide) ?_
  exact e_i hM hX hlocks hret hq dX7_middleWithout_71
def rmX7_mean : Room := { frames := 3, cells := 0, slots := 0, locals := 67 }
theorem kX7_mean {R : Room} {s : State} {args : Array Value} {own : String} {index : Nat} (ht : ∀ w ∈ lw_all, w.before args s = true) (hl : Cond.methodLink own index yX7_mean ∈ lw_all) (hf : rmX7_mean.frames + 1 ≤ R.frames) (hlo : 8 + (4 + 11) + rmX7_mean.locals ≤ R.locals) : CallW R s args own RX7 index yX7_mean cX7_mean 4 (some Jvm.ClassFile.FieldType.int) (wA yX7_mean cX7_mean 4 (some Jvm.ClassFile.FieldType.int)) rmX7_mean 0 0 0 := cwV 0 ht (good_V hl qm_yX7_mean qs_yX7_mean qi_RX7 qc_yX7_mean) rfl rfl rfl (by decide +kernel) ⟨hf, hlo⟩
set_option maxRecDepth 100000 in
set_option maxHeartbeats 4000000 in
theorem met_X7_mean (l : Launch) (D : va_G) (ad : Adr) (cy : Nat → ClassId) (S : Mem) {Q : Mem → Int32 → Prop} (hq : vc_X7_mean S Q) : Ci l yX7_mean (wA yX7_mean cX7_mean 4 (some Jvm.ClassFile.FieldType.int)) rmX7_mean D ad cy [.ref (ad 15 0 0)] S Q := by
  intro o sz
  refine mkC (own := RX7) (lv := [(0, .ref (ad 15 0 0))]) (by decide) rfl (Nat.le_of_ble_eq_true rfl) rfl ⟨rfl, rfl⟩ ?_
  intro p e s m below meth c ls hsz hM hlocks hret hK hA hX hl
  have J49 : ∀ {K0 : Mem → Int32 → Int32 → Int32 → Prop} (hk0 : ∀ (S : Mem) (y1 : Int32) (y2 : Int32) (y3 : Int32), K0 S y1 y2 y3 → ∀ (H : Heap) (locs : List Loc) (ls : Array Slot), PW D ad cy (AW ad sz) s.heap o S H locs → lv_has ls 4 [(0, .ref (ad 15 0 0)), (1, .int y1), (2, .int y2), (3, .int y3)] → Wi D ad cy o sz Q p l e rmX7_mean s m [.ref (ad 15 0 0)] below meth c H locs (F0 m 6 ls [])), ∀ {K1 : Mem → Int32 → Int32 → Prop} (hk1 : ∀ (S : Mem) (y1 : Int32) (y2 : Int32), K1 S y1 y2 → ∀ (H : Heap) (locs : List Loc) (ls : Array Slot), PW D ad cy (AW ad sz) s.heap o S H locs → lv_has ls 4 [(1, .int y1), (2, .int y2)] → Wi D ad cy o sz Q p l e rmX7_mean s m [.ref (ad 15 0 0)] below meth c H locs (F0 m 55 ls [])), ∀ (S : Mem) (y1 : Int32) (y2 : Int32) (y3 : Int32), vc_X7_mean_J49 Q K0 K1 S y1 y2 y3 → ∀ (H : Heap) (locs : List Loc) (ls : Array Slot), PW D ad cy (AW ad sz) s.heap o S H locs → lv_has ls 4 [(0, .ref (ad 15 0 0)), (1, .int y1), (2, .int y2), (3, .int y3)] → Wi D ad cy o sz Q p l e rmX7_mean s m [.ref (ad 15 0 0)] below meth c H locs (F0 m 49 ls []) := by
    intro K0 hk0 K1 hk1 S y1 y2 y3 hq H locs ls hX hl
    unfold vc_X7_mean_J49 at hq
    refine lv_iinc (v := (y3 + (1 : Int32))) (lv' := [(3, .int (y3 + (1 : Int32))), (0, .ref (ad 15 0 0)), (1, .int y1), (2, .int y2)]) hM.1 hM.2.1 dX7_mean_49 hl (k := 3) rfl rfl (by decide) rfl (fun ls hl => ?_)
    refine lv_goto (tgt := 6) hM.1 hM.2.1 dX7_mean_52 (by decide) ?_
    exact hk0 S y1 y2 (y3 + (1 : Int32)) hq _ _ _ hX (lv_sub hl [1, 2, 3, 0] rfl)
  have L6 : ∀ {K : Mem → Int32 → Int32 → Prop} (hk : ∀ (S : Mem) (y1 : Int32) (y2 : Int32), K S y1 y2 → ∀ (H : Heap) (locs : List Loc) (ls : Array Slot), PW D ad cy (AW ad sz) s.heap o S H locs → lv_has ls 4 [(1, .int y1), (2, .int y2)] → Wi D ad cy o sz Q p l e rmX7_mean s m [.ref (ad 15 0 0)] below meth c H locs (F0 m 55 ls [])), ∀ (n : Nat) (S : Mem) (y1 : Int32) (y2 : Int32) (y3 : Int32), vc_X7_mean_L6 Q K n S y1 y2 y3 → ∀ (H : Heap) (locs : List Loc) (ls : Array Slot), PW D ad cy (AW ad sz) s.heap o S H locs → lv_has ls 4 [(0, .ref (ad 15 0 0)), (1, .int y1), (2, .int y2), (3, .int y3)] → Wi D ad cy o sz Q p l e rmX7_mean s m [.ref (ad 15 0 0)] below meth c H locs (F0 m 6 ls []) := by
    intro K hk n
    induction n with
    | zero =>
      intro S y1 y2 y3 hq
      rw [vc_X7_mean_L6] at hq
      exact hq.elim
    | succ n ih =>
      intro S y1 y2 y3 hq H locs ls hX hl
      rw [vc_X7_mean_L6] at hq
      refine lv_iload_n hM.1 hM.2.1 dX7_mean_6 rfl (lv_at hl 3 rfl) ?_
      refine lv_aload_n hM.1 hM.2.1 dX7_mean_7 rfl (lv_at hl 0 rfl) ?_
      refine g15 hM hK hX m15 0 (by decide) qf_RX7_7 rfl dX7_mean_8 ?_
      refine lv_bipush (v := (15 : Int32)) hM.1 hM.2.1 dX7_mean_11 (by decide) ?_
      have c_1 := hq.1
      replace hq := hq.2
      refine r_iald hM hK hX m16 (a16 0 0) c_1 dX7_mean_13 ?_
      refine lv_icmp_ge (tgt := 55) hM.1 hM.2.1 dX7_mean_14 (by decide) (fun c_2 => ?_) (fun c_2 => ?_)
      · replace hq := hq.1 c_2
        exact hk S y1 y2 hq _ _ _ hX (lv_sub hl [1, 2] rfl)
      replace hq := hq.2 c_2
      refine lv_aload_n hM.1 hM.2.1 dX7_mean_17 rfl (lv_at hl 0 rfl) ?_
      refine lv_iload_n hM.1 hM.2.1 dX7_mean_18 rfl (lv_at hl 3 rfl) ?_
      refine cVi (As := [.int y3]) hM hK hX hA (met_X7_isAsked l D ad cy S y3 hq) (kX7_isAsked hM.2.2.2.2 ql_RX7_76 (Nat.le_of_ble_eq_true rfl) (Nat.le_of_ble_eq_true rfl)) (v15 hK hX m15) rfl hl.1 rfl (Nat.le_of_ble_eq_true rfl) dX7_mean_19 ⟨Nat.zero_le _, Nat.zero_le _⟩ (fun S_3 r_4 hq H locs hX => ?_)
      refine lv_if_eq (tgt := 49) hM.1 hM.2.1 dX7_mean_22 (by decide) (fun c_5 => ?_) (fun c_5 => ?_)
      · replace hq := hq.1 c_5
        exact J49 ih hk S_3 y1 y2 y3 hq _ _ _ hX (lv_sub hl [0, 1, 2, 3] rfl)
      replace hq := hq.2 c_5
      refine lv_iload_n hM.1 hM.2.1 dX7_mean_25 rfl (lv_at hl 1 rfl) ?_
      refine lv_aload_n hM.1 hM.2.1 dX7_mean_26 rfl (lv_at hl 0 rfl) ?_
      refine lv_iload_n hM.1 hM.2.1 dX7_mean_27 rfl (lv_at hl 3 rfl) ?_
      refine cVi (As := [.int y3]) hM hK hX hA (met_X7_mended l D ad cy S_3 y3 hq) (kX7_mended hM.2.2.2.2 ql_RX7_80 (Nat.le_of_ble_eq_true rfl) (Nat.le_of_ble_eq_true rfl)) (v15 hK hX m15) rfl hl.1 rfl (Nat.le_of_ble_eq_true rfl) dX7_mean_28 ⟨Nat.zero_le _, Nat.zero_le _⟩ (fun S_6 r_7 hq H locs hX => ?_)
      refine lv_aload_n hM.1 hM.2.1 dX7_mean_31 rfl (lv_at hl 0 rfl) ?_
      refine lv_iload_n hM.1 hM.2.1 dX7_mean_32 rfl (lv_at hl 3 rfl) ?_
      refine lv_iconst (v := (3 : Int32)) hM.1 hM.2.1 dX7_mean_33 (by decide) ?_
      refine cVi (As := [.int y3, .int (3 : Int32)]) hM hK hX hA (met_X7_of l D ad cy S_6 y3 (3 : Int32) hq) (kX7_of hM.2.2.2.2 ql_RX7_66 (Nat.le_of_ble_eq_true rfl) (Nat.le_of_ble_eq_true rfl)) (v15 hK hX m15) rfl hl.1 rfl (Nat.le_of_ble_eq_true rfl) dX7_mean_34 ⟨Nat.zero_le _, Nat.zero_le _⟩ (fun S_8 r_9 hq H locs hX => ?_)
      refine lv_imul hM.1 hM.2.1 dX7_mean_37 ?_
      refine lv_iadd hM.1 hM.2.1 dX7_mean_38 ?_
      refine lv_istore_n (lv' := [(1, .int (y1 + (r_7 * r_9))), (0, .ref (ad 15 0 0)), (2, .int y2), (3, .int y3)]) hM.1 hM.2.1 dX7_mean_39 rfl hl (by decide) rfl (fun ls hl => ?_)
      refine lv_iload_n hM.1 hM.2.1 dX7_mean_40 rfl (lv_at hl 2 rfl) ?_
      refine lv_aload_n hM.1 hM.2.1 dX7_mean_41 rfl (lv_at hl 1 rfl) ?_
      refine lv_iload_n hM.1 hM.2.1 dX7_mean_42 rfl (lv_at hl 3 rfl) ?_
      refine lv_iconst (v := (3 : Int32)) hM.1 hM.2.1 dX7_mean_43 (by decide) ?_
      refine cVi (As := [.int y3, .int (3 : Int32)]) hM hK hX hA (met_X7_of l D ad cy S_8 y3 (3 : Int32) hq) (kX7_of hM.2.2.2.2 ql_RX7_66 (Nat.le_of_ble_eq_true rfl) (Nat.le_of_ble_eq_true rfl)) (v15 hK hX m15) rfl hl.1 rfl (Nat.le_of_ble_eq_true rfl) dX7_mean_44 ⟨Nat.zero_le _, Nat.zero_le _⟩ (fun S_10 r_11 hq H locs hX => ?_)
      refine lv_iadd hM.1 hM.2.1 dX7_mean_47 ?_
      refine lv_istore_n (lv' := [(2, .int (y2 + r_11)), (1, .int (y1 + (r_7 * r_9))), (0, .ref (ad 15 0 0)), (3, .int y3)]) hM.1 hM.2.1 dX7_mean_48 rfl hl (by decide) rfl (fun ls hl => ?_)
      exact J49 ih hk S_10 (y1 + (r_7 * r_9)) (y2 + r_11) y3 hq _ _ _ hX (lv_sub hl [2, 1, 0, 3] rfl)
  unfold vc_X7_mean at hq
  refine lv_iconst (v := (0 : Int32)) hM.1 hM.2.1 dX7_mean_0 (by decide) ?_
  refine lv_istore_n (lv' := [(1, .int (0 : Int32)), (0, .ref (ad 15 0 0))]) hM.1 hM.2.1 dX7_mean_1 rfl hl (by decide) rfl (fun ls hl => ?_)
  refine lv_iconst (v := (0 : Int32)) hM.1 hM.2.1 dX7_mean_2 (by decide) ?_
  refine lv_istore_n (lv' := [(2, .int (0 : Int32)), (1, .int (0 : Int32)), (0, .ref (ad 15 0 0))]) hM.1 hM.2.1 dX7_mean_3 rfl hl (by decide) rfl (fun ls hl => ?_)
  refine lv_iconst (v := (0 : Int32)) hM.1 hM.2.1 dX7_mean_4 (by decide) ?_
  refine lv_istore_n (lv' := [(3, .int (0 : Int32)), (2, .int (0 : Int32)), (1, .int (0 : Int32)), (0, .ref (ad 15 0 0))]) hM.1 hM.2.1 dX7_mean_5 rfl hl (by decide) rfl (fun ls hl => ?_)
  obtain ⟨k0, hq⟩ := hq
  refine L6 (fun S_12 y1_13 y2_14 hq H locs ls hX hl => ?_) k0 S (0 : Int32) (0 : Int32) (0 : Int32) hq _ _ _ hX (lv_sub hl [3, 2, 1, 0] rfl)
  refine lv_iload_n hM.1 hM.2.1 dX7_mean_55 rfl (lv_at hl 1 rfl) ?_
  refine lv_if_ne (tgt := 64) hM.1 hM.2.1 dX7_mean_56 (by decide) (fun c_15 => ?_) (fun c_15 => ?_)
  · replace hq := hq.1 c_15
    refine lv_iload_n hM.1 hM.2.1 dX7_mean_64 rfl (lv_at hl 0 rfl) ?_
    refine lv_iload_n hM.1 hM.2.1 dX7_mean_65 rfl (lv_at hl 1 rfl) ?_
    have c_16 := hq.1
    replace hq := hq.2
    refine lv_idiv hM.1 hM.2.1 dX7_mean_66 c_16 ?_
    exact e_i hM hX hlocks hret hq dX7_mean_67
  replace hq := hq.2 c_15
  refine lv_ldc hM.1 hM.2.1 hM.2.2.2.1 (hM.2.2.2.2 _ qn_RX7_47) dX7_mean_59 ?_
  refine lv_goto (tgt := 67) hM.1 hM.2.1 dX7_mean_61 (by decide) ?_
  exact e_i hM hX hlocks hret hq dX7_mean_67
def rmX7_slope : Room := { frames := 4, cells := 0, slots := 0, locals := 90 }
theorem kX7_slope {R : Room} {s : State} {args : Array Value} {own : String} {index : Nat} (ht : ∀ w ∈ lw_all, w.before args s = true) (hl : Cond.methodLink own index yX7_slope ∈ lw_all) (hf : rmX7_slope.frames + 1 ≤ R.frames) (hlo : 8 + (2 + 11) + rmX7_slope.locals ≤ R.locals) : CallW R s args own RX7 index yX7_slope cX7_slope 2 (some Jvm.ClassFile.FieldType.int) (wA yX7_slope cX7_slope 2 (some Jvm.ClassFile.FieldType.int)) rmX7_slope 0 0 0 := cwV 0 ht (good_V hl qm_yX7_slope qs_yX7_slope qi_RX7 qc_yX7_slope) rfl rfl rfl (by decide +kernel) ⟨hf, hlo⟩
set_option maxRecDepth 100000 in
set_option maxHeartbeats 4000000 in
theorem met_X7_slope (l : Launch) (D : va_G) (ad : Adr) (cy : Nat → ClassId) (S : Mem) {Q : Mem → Int32 → Prop} (hq : vc_X7_slope S Q) : Ci l yX7_slope (wA yX7_slope cX7_slope 2 (some Jvm.ClassFile.FieldType.int)) rmX7_slope D ad cy [.ref (ad 15 0 0)] S Q := by
  intro o sz
  refine mkC (own := RX7) (lv := [(0, .ref (ad 15 0 0))]) (by decide) rfl (Nat.le_of_ble_eq_true rfl) rfl ⟨rfl, rfl⟩ ?_
  intro p e s m below meth c ls hsz hM hlocks hret hK hA hX hl
  unfold vc_X7_slope at hq
  refine lv_aload_n hM.1 hM.2.1 dX7_slope_0 rfl (lv_at hl 0 rfl) ?_
  refine cVi (As := []) hM hK hX hA (met_X7_mean l D ad cy S hq) (kX7_mean hM.2.2.2.2 ql_RX7_87 (Nat.le_of_ble_eq_true rfl) (Nat.le_of_ble_eq_true rfl)) (v15 hK hX m15) rfl hl.1 rfl (Nat.le_of_ble_eq_true rfl) dX7_slope_1 ⟨Nat.zero_le _, Nat.zero_le _⟩ (fun S_1 r_2 hq H locs hX => ?_)
  refine lv_istore_n (lv' := [(1, .int r_2), (0, .ref (ad 15 0 0))]) hM.1 hM.2.1 dX7_slope_4 rfl hl (by decide) rfl (fun ls hl => ?_)
  refine lv_iload_n hM.1 hM.2.1 dX7_slope_5 rfl (lv_at hl 0 rfl) ?_
  refine lv_ldc hM.1 hM.2.1 hM.2.2.2.1 (hM.2.2.2.2 _ qn_RX7_47) dX7_slope_6 ?_
  refine lv_icmp_eq (tgt := 23) hM.1 hM.2.1 dX7_slope_8 (by decide) (fun c_3 => ?_) (fun c_3 => ?_)
  · replace hq := hq.1 c_3
    refine lv_ldc hM.1 hM.2.1 hM.2.2.2.1 (hM.2.2.2.2 _ qn_RX7_47) dX7_slope_23 ?_
    refine lv_goto (tgt := 37) hM.1 hM.2.1 dX7_slope_25 (by decide) ?_
    exact e_i hM hX hlocks hret hq dX7_slope_37
  replace hq := hq.2 c_3
  refine lv_aload_n hM.1 hM.2.1 dX7_slope_11 rfl (lv_at hl 1 rfl) ?_
  refine g15 hM hK hX m15 0 (by decide) qf_RX7_7 rfl dX7_slope_12 ?_
  refine lv_bipush (v := (14 : Int32)) hM.1 hM.2.1 dX7_slope_15 (by decide) ?_
  have c_4 := hq.1
  replace hq := hq.2
  refine r_iald hM hK hX m16 (a16 0 0) c_4 dX7_slope_17 ?_
  refine lv_ldc hM.1 hM.2.1 hM.2.2.2.1 (hM.2.2.2.2 _ qn_RX7_47) dX7_slope_18 ?_
  refine lv_icmp_ne (tgt := 28) hM.1 hM.2.1 dX7_slope_20 (by decide) (fun c_5 => ?_) (fun c_5 => ?_)
  · replace hq := hq.1 c_5
    refine lv_iload_n hM.1 hM.2.1 dX7_slope_28 rfl (lv_at hl 0 rfl) ?_
    refine lv_aload_n hM.1 hM.2.1 dX7_slope_29 rfl (lv_at hl 1 rfl) ?_
    refine g15 hM hK hX m15 0 (by decide) qf_RX7_7 rfl dX7_slope_30 ?_
    refine lv_bipush (v := (14 : Int32)) hM.1 hM.2.1 dX7_slope_33 (by decide) ?_
    have c_6 := hq.1
    replace hq := hq.2
    refine r_iald hM hK hX m16 (a16 0 0) c_6 dX7_slope_35 ?_
    refine lv_isub hM.1 hM.2.1 dX7_slope_36 ?_
    exact e_i hM hX hlocks hret hq dX7_slope_37
  replace hq := hq.2 c_5
  refine lv_ldc hM.1 hM.2.1 hM.2.2.2.1 (hM.2.2.2.2 _ qn_RX7_47) dX7_slope_23 ?_
  refine lv_goto (tgt := 37) hM.1 hM.2.1 dX7_slope_25 (by decide) ?_
  exact e_i hM hX hlocks hret hq dX7_slope_37
def rmX7_changeOf : Room := { frames := 1, cells := 0, slots := 0, locals := 22 }
theorem kX7_changeOf {R : Room} {s : State} {args : Array Value} {own : String} {index : Nat} (ht : ∀ w ∈ lw_all, w.before args s = true) (hl : Cond.methodLink own index yX7_changeOf ∈ lw_all) (hf : rmX7_changeOf.frames + 1 ≤ R.frames) (hlo : 8 + (2 + 11) + rmX7_changeOf.locals ≤ R.locals) : CallW R s args own RX7 index yX7_changeOf cX7_changeOf 2 (some Jvm.ClassFile.FieldType.int) (wA yX7_changeOf cX7_changeOf 2 (some Jvm.ClassFile.FieldType.int)) rmX7_changeOf 0 0 1 := cwV 1 ht (good_V hl qm_yX7_changeOf qs_yX7_changeOf qi_RX7 qc_yX7_changeOf) rfl rfl rfl (by decide +kernel) ⟨hf, hlo⟩
set_option maxRecDepth 100000 in
set_option maxHeartbeats 4000000 in
theorem met_X7_changeOf (l : Launch) (D : va_G) (ad : Adr) (cy : Nat → ClassId) (S : Mem) (x1 : Int32) {Q : Mem → Int32 → Prop} (hq : vc_X7_changeOf S x1 Q) : Ci l yX7_changeOf (wA yX7_changeOf cX7_changeOf 2 (some Jvm.ClassFile.FieldType.int)) rmX7_changeOf D ad cy [.ref (ad 15 0 0), .int x1] S Q := by
  intro o sz
  refine mkC (own := RX7) (lv := [(0, .ref (ad 15 0 0)), (1, .int x1)]) (by decide) rfl (Nat.le_of_ble_eq_true rfl) rfl ⟨rfl, rfl⟩ ?_
  intro p e s m below meth c ls hsz hM hlocks hret hK hA hX hl
  unfold vc_X7_changeOf at hq
  refine lv_aload_n hM.1 hM.2.1 dX7_changeOf_0 rfl (lv_at hl 0 rfl) ?_
  refine g15 hM hK hX m15 0 (by decide) qf_RX7_7 rfl dX7_changeOf_1 ?_
  refine lv_iconst (v := (1 : Int32)) hM.1 hM.2.1 dX7_changeOf_4 (by decide) ?_
  have c_1 := hq.1
  replace hq := hq.2
  refine r_iald hM hK hX m16 (a16 0 0) c_1 dX7_changeOf_5 ?_
  refine lv_aload_n hM.1 hM.2.1 dX7_changeOf_6 rfl (lv_at hl 0 rfl) ?_
  refine lv_iload_n hM.1 hM.2.1 dX7_changeOf_7 rfl (lv_at hl 1 rfl) ?_
  refine lv_iconst (v := (2 : Int32)) hM.1 hM.2.1 dX7_changeOf_8 (by decide) ?_
  refine cVi (As := [.int x1, .int (2 : Int32)]) hM hK hX hA (met_X7_of l D ad cy S x1 (2 : Int32) hq) (kX7_of hM.2.2.2.2 ql_RX7_66 (Nat.le_of_ble_eq_true rfl) (Nat.le_of_ble_eq_true rfl)) (v15 hK hX m15) rfl hl.1 rfl (Nat.le_of_ble_eq_true rfl) dX7_changeOf_9 ⟨Nat.zero_le _, Nat.zero_le _⟩ (fun S_2 r_3 hq H locs hX => ?_)
  refine lv_iadd hM.1 hM.2.1 dX7_changeOf_12 ?_
  refine lv_aload_n hM.1 hM.2.1 dX7_changeOf_13 rfl (lv_at hl 0 rfl) ?_
  refine lv_iload_n hM.1 hM.2.1 dX7_changeOf_14 rfl (lv_at hl 1 rfl) ?_
  refine lv_iconst (v := (4 : Int32)) hM.1 hM.2.1 dX7_changeOf_15 (by decide) ?_
  refine cVi (As := [.int x1, .int (4 : Int32)]) hM hK hX hA (met_X7_of l D ad cy S_2 x1 (4 : Int32) hq) (kX7_of hM.2.2.2.2 ql_RX7_66 (Nat.le_of_ble_eq_true rfl) (Nat.le_of_ble_eq_true rfl)) (v15 hK hX m15) rfl hl.1 rfl (Nat.le_of_ble_eq_true rfl) dX7_changeOf_16 ⟨Nat.zero_le _, Nat.zero_le _⟩ (fun S_4 r_5 hq H locs hX => ?_)
  refine lv_isub hM.1 hM.2.1 dX7_changeOf_19 ?_
  refine lv_aload_n hM.1 hM.2.1 dX7_changeOf_20 rfl (lv_at hl 0 rfl) ?_
  refine lv_iload_n hM.1 hM.2.1 dX7_changeOf_21 rfl (lv_at hl 1 rfl) ?_
  refine lv_iconst (v := (1 : Int32)) hM.1 hM.2.1 dX7_changeOf_22 (by decide) ?_
  refine cVi (As := [.int x1, .int (1 : Int32)]) hM hK hX hA (met_X7_of l D ad cy S_4 x1 (1 : Int32) hq) (kX7_of hM.2.2.2.2 ql_RX7_66 (Nat.le_of_ble_eq_true rfl) (Nat.le_of_ble_eq_true rfl)) (v15 hK hX m15) rfl hl.1 rfl (Nat.le_of_ble_eq_true rfl) dX7_changeOf_23 ⟨Nat.zero_le _, Nat.zero_le _⟩ (fun S_6 r_7 hq H locs hX => ?_)
  have c_8 := hq.1
  replace hq := hq.2
  refine lv_idiv hM.1 hM.2.1 dX7_changeOf_26 c_8 ?_
  exact e_i hM hX hlocks hret hq dX7_changeOf_27
def rmX7_follow : Room := { frames := 2, cells := 0, slots := 0, locals := 43 }
theorem kX7_follow {R : Room} {s : State} {args : Array Value} {own : String} {index : Nat} (ht : ∀ w ∈ lw_all, w.before args s = true) (hl : Cond.methodLink own index yX7_follow ∈ lw_all) (hf : rmX7_follow.frames + 1 ≤ R.frames) (hlo : 8 + (2 + 11) + rmX7_follow.locals ≤ R.locals) : CallW R s args own RX7 index yX7_follow cX7_follow 2 none (wA yX7_follow cX7_follow 2 none) rmX7_follow 0 0 1 := cwV 1 ht (good_V hl qm_yX7_follow qs_yX7_follow qi_RX7 qc_yX7_follow) rfl rfl rfl (by decide +kernel) ⟨hf, hlo⟩
set_option maxRecDepth 100000 in
set_option maxHeartbeats 4000000 in
theorem met_X7_follow (l : Launch) (D : va_G) (ad : Adr) (cy : Nat → ClassId) (S : Mem) (x1 : Int32) {Q : Mem → Prop} (hq : vc_X7_follow S x1 Q) : Cv l yX7_follow (wA yX7_follow cX7_follow 2 none) rmX7_follow D ad cy [.ref (ad 15 0 0), .int x1] S Q := by
  intro o sz
  refine mkC (own := RX7) (lv := [(0, .ref (ad 15 0 0)), (1, .int x1)]) (by decide) rfl (Nat.le_of_ble_eq_true rfl) rfl ⟨rfl, rfl⟩ ?_
  intro p e s m below meth c ls hsz hM hlocks hret hK hA hX hl
  unfold vc_X7_follow at hq
  refine lv_aload_n hM.1 hM.2.1 dX7_follow_0 rfl (lv_at hl 0 rfl) ?_
  refine lv_iload_n hM.1 hM.2.1 dX7_follow_1 rfl (lv_at hl 1 rfl) ?_
  refine lv_iconst (v := (4 : Int32)) hM.1 hM.2.1 dX7_follow_2 (by decide) ?_
  refine lv_aload_n hM.1 hM.2.1 dX7_follow_3 rfl (lv_at hl 0 rfl) ?_
  refine lv_iload_n hM.1 hM.2.1 dX7_follow_4 rfl (lv_at hl 1 rfl) ?_
  refine lv_iconst (v := (4 : Int32)) hM.1 hM.2.1 dX7_follow_5 (by decide) ?_
  refine cVi (As := [.int x1, .int (4 : Int32)]) hM hK hX hA (met_X7_of l D ad cy S x1 (4 : Int32) hq) (kX7_of hM.2.2.2.2 ql_RX7_66 (Nat.le_of_ble_eq_true rfl) (Nat.le_of_ble_eq_true rfl)) (v15 hK hX m15) rfl hl.1 rfl (Nat.le_of_ble_eq_true rfl) dX7_follow_6 ⟨Nat.zero_le _, Nat.zero_le _⟩ (fun S_1 r_2 hq H locs hX => ?_)
  refine lv_aload_n hM.1 hM.2.1 dX7_follow_9 rfl (lv_at hl 0 rfl) ?_
  refine lv_iload_n hM.1 hM.2.1 dX7_follow_10 rfl (lv_at hl 1 rfl) ?_
  refine cVi (As := [.int x1]) hM hK hX hA (met_X7_changeOf l D ad cy S_1 x1 hq) (kX7_changeOf hM.2.2.2.2 ql_RX7_91 (Nat.le_of_ble_eq_true rfl) (Nat.le_of_ble_eq_true rfl)) (v15 hK hX m15) rfl hl.1 rfl (Nat.le_of_ble_eq_true rfl) dX7_follow_11 ⟨Nat.zero_le _, Nat.zero_le _⟩ (fun S_3 r_4 hq H locs hX => ?_)
  refine lv_iadd hM.1 hM.2.1 dX7_follow_14 ?_
  refine cVv (As := [.int x1, .int (4 : Int32), .int (r_2 + r_4)]) hM hK hX hA (met_X7_put l D ad cy S_3 x1 (4 : Int32) (r_2 + r_4) hq) (kX7_put hM.2.2.2.2 ql_RX7_94 (Nat.le_of_ble_eq_true rfl) (Nat.le_of_ble_eq_true rfl)) (v15 hK hX m15) rfl hl.1 rfl (Nat.le_of_ble_eq_true rfl) dX7_follow_15 ⟨Nat.zero_le _, Nat.zero_le _⟩ (fun S_5 hq H locs hX => ?_)
  exact e_v hM hX hlocks hret hq dX7_follow_18
def rmX7_read : Room := { frames := 1, cells := 0, slots := 0, locals := 23 }
theorem kX7_read {R : Room} {s : State} {args : Array Value} {own : String} {index : Nat} (ht : ∀ w ∈ lw_all, w.before args s = true) (hl : Cond.methodLink own index yX7_read ∈ lw_all) (hf : rmX7_read.frames + 1 ≤ R.frames) (hlo : 8 + (3 + 11) + rmX7_read.locals ≤ R.locals) : CallW R s args own RX7 index yX7_read cX7_read 3 none (wA yX7_read cX7_read 3 none) rmX7_read 0 0 1 := cwV 1 ht (good_V hl qm_yX7_read qs_yX7_read qi_RX7 qc_yX7_read) rfl rfl rfl (by decide +kernel) ⟨hf, hlo⟩
set_option maxRecDepth 100000 in
set_option maxHeartbeats 4000000 in
theorem met_X7_read (l : Launch) (D : va_G) (ad : Adr) (cy : Nat → ClassId) (S : Mem) (x1 : Int32) {Q : Mem → Prop} (hq : vc_X7_read S x1 Q) : Cv l yX7_read (wA yX7_read cX7_read 3 none) rmX7_read D ad cy [.ref (ad 15 0 0), .int x1] S Q := by
  intro o sz
  refine mkC (own := RX7) (lv := [(0, .ref (ad 15 0 0)), (1, .int x1)]) (by decide) rfl (Nat.le_of_ble_eq_true rfl) rfl ⟨rfl, rfl⟩ ?_
  intro p e s m below meth c ls hsz hM hlocks hret hK hA hX hl
  have L3 : ∀ {K : Mem → Prop} (hk : ∀ (S : Mem), K S → ∀ (H : Heap) (locs : List Loc) (ls : Array Slot), PW D ad cy (AW ad sz) s.heap o S H locs → lv_has ls 3 [(0, .ref (ad 15 0 0)), (1, .int x1)] → Wv D ad cy o sz Q p l e rmX7_read s m [.ref (ad 15 0 0), .int x1] below meth c H locs (F0 m 34 ls [])), ∀ (n : Nat) (S : Mem) (y2 : Int32), vc_X7_read_L3 Q K x1 n S y2 → ∀ (H : Heap) (locs : List Loc) (ls : Array Slot), PW D ad cy (AW ad sz) s.heap o S H locs → lv_has ls 3 [(0, .ref (ad 15 0 0)), (1, .int x1), (2, .int y2)] → Wv D ad cy o sz Q p l e rmX7_read s m [.ref (ad 15 0 0), .int x1] below meth c H locs (F0 m 3 ls []) := by
    intro K hk n
    induction n with
    | zero =>
      intro S y2 hq
      rw [vc_X7_read_L3] at hq
      exact hq.elim
    | succ n ih =>
      intro S y2 hq H locs ls hX hl
      rw [vc_X7_read_L3] at hq
      refine lv_iload_n hM.1 hM.2.1 dX7_read_3 rfl (lv_at hl 2 rfl) ?_
      refine lv_iconst (v := (1 : Int32)) hM.1 hM.2.1 dX7_read_4 (by decide) ?_
      refine lv_icmp_le (tgt := 34) hM.1 hM.2.1 dX7_read_5 (by decide) (fun c_1 => ?_) (fun c_1 => ?_)
      · replace hq := hq.1 c_1
        exact hk S hq _ _ _ hX (lv_sub hl [0, 1] rfl)
      replace hq := hq.2 c_1
      refine lv_aload_n hM.1 hM.2.1 dX7_read_8 rfl (lv_at hl 0 rfl) ?_
      refine lv_iload_n hM.1 hM.2.1 dX7_read_9 rfl (lv_at hl 1 rfl) ?_
      refine lv_bipush (v := (9 : Int32)) hM.1 hM.2.1 dX7_read_10 (by decide) ?_
      refine lv_iload_n hM.1 hM.2.1 dX7_read_12 rfl (lv_at hl 2 rfl) ?_
      refine lv_iadd hM.1 hM.2.1 dX7_read_13 ?_
      refine lv_aload_n hM.1 hM.2.1 dX7_read_14 rfl (lv_at hl 0 rfl) ?_
      refine lv_iload_n hM.1 hM.2.1 dX7_read_15 rfl (lv_at hl 1 rfl) ?_
      refine lv_bipush (v := (9 : Int32)) hM.1 hM.2.1 dX7_read_16 (by decide) ?_
      refine lv_iload_n hM.1 hM.2.1 dX7_read_18 rfl (lv_at hl 2 rfl) ?_
      refine lv_iadd hM.1 hM.2.1 dX7_read_19 ?_
      refine lv_iconst (v := (2 : Int32)) hM.1 hM.2.1 dX7_read_20 (by decide) ?_
      refine lv_isub hM.1 hM.2.1 dX7_read_21 ?_
      refine cVi (As := [.int x1, .int (((9 : Int32) + y2) - (2 : Int32))]) hM hK hX hA (met_X7_of l D ad cy S x1 (((9 : Int32) + y2) - (2 : Int32)) hq) (kX7_of hM.2.2.2.2 ql_RX7_66 (Nat.le_of_ble_eq_true rfl) (Nat.le_of_ble_eq_true rfl)) (v15 hK hX m15) rfl hl.1 rfl (Nat.le_of_ble_eq_true rfl) dX7_read_22 ⟨Nat.zero_le _, Nat.zero_le _⟩ (fun S_2 r_3 hq H locs hX => ?_)
      refine cVv (As := [.int x1, .int ((9 : Int32) + y2), .int r_3]) hM hK hX hA (met_X7_put l D ad cy S_2 x1 ((9 : Int32) + y2) r_3 hq) (kX7_put hM.2.2.2.2 ql_RX7_94 (Nat.le_of_ble_eq_true rfl) (Nat.le_of_ble_eq_true rfl)) (v15 hK hX m15) rfl hl.1 rfl (Nat.le_of_ble_eq_true rfl) dX7_read_25 ⟨Nat.zero_le _, Nat.zero_le _⟩ (fun S_4 hq H locs hX => ?_)
      refine lv_iinc (v := (y2 + (-1 : Int32))) (lv' := [(2, .int (y2 + (-1 : Int32))), (0, .ref (ad 15 0 0)), (1, .int x1)]) hM.1 hM.2.1 dX7_read_28 hl (k := 2) rfl rfl (by decide) rfl (fun ls hl => ?_)
      refine lv_goto (tgt := 3) hM.1 hM.2.1 dX7_read_31 (by decide) ?_
      exact ih S_4 (y2 + (-1 : Int32)) hq _ _ _ hX (lv_sub hl [1, 2, 0] rfl)
  have J90 : ∀ (S : Mem) (w1 : Int32) (w2 : Int32) (w3 : Int32), vc_X7_read_J90 Q x1 S w1 w2 w3 → ∀ (H : Heap) (locs : List Loc) (ls : Array Slot), PW D ad cy (AW ad sz) s.heap o S H locs → lv_has ls 3 [(0, .ref (ad 15 0 0))] → Wv D ad cy o sz Q p l e rmX7_read s m [.ref (ad 15 0 0), .int x1] below meth c H locs (F0 m 90 ls [.int w3, .int w2, .int w1, .ref (ad 15 0 0)]) := by
    intro S w1 w2 w3 hq H locs ls hX hl
    unfold vc_X7_read_J90 at hq
    refine cVv (As := [.int w1, .int w2, .int w3]) hM hK hX hA (met_X7_put l D ad cy S w1 w2 w3 hq) (kX7_put hM.2.2.2.2 ql_RX7_94 (Nat.le_of_ble_eq_true rfl) (Nat.le_of_ble_eq_true rfl)) (v15 hK hX m15) rfl hl.1 rfl (Nat.le_of_ble_eq_true rfl) dX7_read_90 ⟨Nat.zero_le _, Nat.zero_le _⟩ (fun S_14 hq H locs hX => ?_)
    refine lv_aload_n hM.1 hM.2.1 dX7_read_93 rfl (lv_at hl 0 rfl) ?_
    refine g15 hM hK hX m15 0 (by decide) qf_RX7_7 rfl dX7_read_94 ?_
    refine lv_bipush (v := (12 : Int32)) hM.1 hM.2.1 dX7_read_97 (by decide) ?_
    refine lv_dup2_11 hM.1 hM.2.1 dX7_read_99 rfl rfl ?_
    have c_15 := hq.1
    replace hq := hq.2
    refine r_iald hM hK hX m16 (a16 0 0) c_15 dX7_read_100 ?_
    refine lv_iconst (v := (1 : Int32)) hM.1 hM.2.1 dX7_read_101 (by decide) ?_
    refine lv_iadd hM.1 hM.2.1 dX7_read_102 ?_
    have c_17 := hq.1
    replace hq := hq.2
    refine r_iast hM hK hX m16 (a16 0 0) c_17 dX7_read_103 (fun S_16 e_18 H locs hX => ?_)
    replace hq := hq S_16 e_18
    exact e_v hM hX hlocks hret hq dX7_read_104
  unfold vc_X7_read at hq
  refine lv_bipush (v := (11 : Int32)) hM.1 hM.2.1 dX7_read_0 (by decide) ?_
  refine lv_istore_n (lv' := [(2, .int (11 : Int32)), (0, .ref (ad 15 0 0)), (1, .int x1)]) hM.1 hM.2.1 dX7_read_2 rfl hl (by decide) rfl (fun ls hl => ?_)
  obtain ⟨k0, hq⟩ := hq
  refine L3 (fun S_5 hq H locs ls hX hl => ?_) k0 S (11 : Int32) hq _ _ _ hX (lv_sub hl [1, 2, 0] rfl)
  refine lv_aload_n hM.1 hM.2.1 dX7_read_34 rfl (lv_at hl 0 rfl) ?_
  refine lv_iload_n hM.1 hM.2.1 dX7_read_35 rfl (lv_at hl 1 rfl) ?_
  refine lv_bipush (v := (9 : Int32)) hM.1 hM.2.1 dX7_read_36 (by decide) ?_
  refine lv_aload_n hM.1 hM.2.1 dX7_read_38 rfl (lv_at hl 0 rfl) ?_
  refine g15 hM hK hX m15 0 (by decide) qf_RX7_7 rfl dX7_read_39 ?_
  refine lv_iconst (v := (0 : Int32)) hM.1 hM.2.1 dX7_read_42 (by decide) ?_
  have c_6 := hq.1
  replace hq := hq.2
  refine r_iald hM hK hX m16 (a16 0 0) c_6 dX7_read_43 ?_
  refine cVv (As := [.int x1, .int (9 : Int32), .int (S_5 16 0 0 (0 : Int32).toNatClampNeg)]) hM hK hX hA (met_X7_put l D ad cy S_5 x1 (9 : Int32) (S_5 16 0 0 (0 : Int32).toNatClampNeg) hq) (kX7_put hM.2.2.2.2 ql_RX7_94 (Nat.le_of_ble_eq_true rfl) (Nat.le_of_ble_eq_true rfl)) (v15 hK hX m15) rfl hl.1 rfl (Nat.le_of_ble_eq_true rfl) dX7_read_44 ⟨Nat.zero_le _, Nat.zero_le _⟩ (fun S_7 hq H locs hX => ?_)
  refine lv_aload_n hM.1 hM.2.1 dX7_read_47 rfl (lv_at hl 0 rfl) ?_
  refine lv_iload_n hM.1 hM.2.1 dX7_read_48 rfl (lv_at hl 1 rfl) ?_
  refine lv_bipush (v := (10 : Int32)) hM.1 hM.2.1 dX7_read_49 (by decide) ?_
  refine lv_aload_n hM.1 hM.2.1 dX7_read_51 rfl (lv_at hl 0 rfl) ?_
  refine lv_iload_n hM.1 hM.2.1 dX7_read_52 rfl (lv_at hl 1 rfl) ?_
  refine lv_iconst (v := (4 : Int32)) hM.1 hM.2.1 dX7_read_53 (by decide) ?_
  refine cVi (As := [.int x1, .int (4 : Int32)]) hM hK hX hA (met_X7_of l D ad cy S_7 x1 (4 : Int32) hq) (kX7_of hM.2.2.2.2 ql_RX7_66 (Nat.le_of_ble_eq_true rfl) (Nat.le_of_ble_eq_true rfl)) (v15 hK hX m15) rfl hl.1 rfl (Nat.le_of_ble_eq_true rfl) dX7_read_54 ⟨Nat.zero_le _, Nat.zero_le _⟩ (fun S_8 r_9 hq H locs hX => ?_)
  refine cVv (As := [.int x1, .int (10 : Int32), .int r_9]) hM hK hX hA (met_X7_put l D ad cy S_8 x1 (10 : Int32) r_9 hq) (kX7_put hM.2.2.2.2 ql_RX7_94 (Nat.le_of_ble_eq_true rfl) (Nat.le_of_ble_eq_true rfl)) (v15 hK hX m15) rfl hl.1 rfl (Nat.le_of_ble_eq_true rfl) dX7_read_57 ⟨Nat.zero_le _, Nat.zero_le _⟩ (fun S_10 hq H locs hX => ?_)
  refine lv_aload_n hM.1 hM.2.1 dX7_read_60 rfl (lv_at hl 0 rfl) ?_
  refine lv_iload_n hM.1 hM.2.1 dX7_read_61 rfl (lv_at hl 1 rfl) ?_
  refine lv_bipush (v := (7 : Int32)) hM.1 hM.2.1 dX7_read_62 (by decide) ?_
  refine lv_aload_n hM.1 hM.2.1 dX7_read_64 rfl (lv_at hl 0 rfl) ?_
  refine lv_iload_n hM.1 hM.2.1 dX7_read_65 rfl (lv_at hl 1 rfl) ?_
  refine lv_bipush (v := (7 : Int32)) hM.1 hM.2.1 dX7_read_66 (by decide) ?_
  refine cVi (As := [.int x1, .int (7 : Int32)]) hM hK hX hA (met_X7_of l D ad cy S_10 x1 (7 : Int32) hq) (kX7_of hM.2.2.2.2 ql_RX7_66 (Nat.le_of_ble_eq_true rfl) (Nat.le_of_ble_eq_true rfl)) (v15 hK hX m15) rfl hl.1 rfl (Nat.le_of_ble_eq_true rfl) dX7_read_68 ⟨Nat.zero_le _, Nat.zero_le _⟩ (fun S_11 r_12 hq H locs hX => ?_)
  refine lv_bipush (v := (6 : Int32)) hM.1 hM.2.1 dX7_read_71 (by decide) ?_
  refine lv_icmp_ge (tgt := 88) hM.1 hM.2.1 dX7_read_73 (by decide) (fun c_13 => ?_) (fun c_13 => ?_)
  · replace hq := hq.1 c_13
    refine lv_bipush (v := (6 : Int32)) hM.1 hM.2.1 dX7_read_88 (by decide) ?_
    exact J90 S_11 x1 (7 : Int32) (6 : Int32) hq _ _ _ hX (lv_sub hl [0] rfl)
  replace hq := hq.2 c_13
  refine lv_aload_n hM.1 hM.2.1 dX7_read_76 rfl (lv_at hl 0 rfl) ?_
  refine lv_iload_n hM.1 hM.2.1 dX7_read_77 rfl (lv_at hl 1 rfl) ?_
  refine lv_bipush (v := (7 : Int32)) hM.1 hM.2.1 dX7_read_78 (by decide) ?_
  refine cVi (As := [.int x1, .int (7 : Int32)]) hM hK hX hA (met_X7_of l D ad cy S_11 x1 (7 : Int32) hq) (kX7_of hM.2.2.2.2 ql_RX7_66 (Nat.le_of_ble_eq_true rfl) (Nat.le_of_ble_eq_true rfl)) (v15 hK hX m15) rfl hl.1 rfl (Nat.le_of_ble_eq_true rfl) dX7_read_80 ⟨Nat.zero_le _, Nat.zero_le _⟩ (fun S_19 r_20 hq H locs hX => ?_)
  refine lv_iconst (v := (1 : Int32)) hM.1 hM.2.1 dX7_read_83 (by decide) ?_
  refine lv_iadd hM.1 hM.2.1 dX7_read_84 ?_
  refine lv_goto (tgt := 90) hM.1 hM.2.1 dX7_read_85 (by decide) ?_
  exact J90 S_19 x1 (7 : Int32) (r_20 + (1 : Int32)) hq _ _ _ hX (lv_sub hl [0] rfl)
def rmX7_isDue : Room := { frames := 0, cells := 0, slots := 0, locals := 0 }
theorem kX7_isDue {R : Room} {s : State} {args : Array Value} {own : String} {index : Nat} (ht : ∀ w ∈ lw_all, w.before args s = true) (hl : Cond.methodLink own index yX7_isDue ∈ lw_all) (hf : rmX7_isDue.frames + 1 ≤ R.frames) (hlo : 8 + (2 + 11) + rmX7_isDue.locals ≤ R.locals) : CallW R s args own RX7 index yX7_isDue cX7_isDue 2 (some Jvm.ClassFile.FieldType.boolean) (wA yX7_isDue cX7_isDue 2 (some Jvm.ClassFile.FieldType.boolean)) rmX7_isDue 0 0 1 := cwV 1 ht (good_V hl qm_yX7_isDue qs_yX7_isDue qi_RX7 qc_yX7_isDue) rfl rfl rfl (by decide +kernel) ⟨hf, hlo⟩
set_option maxRecDepth 100000 in
set_option maxHeartbeats 4000000 in
theorem met_X7_isDue (l : Launch) (D : va_G) (ad : Adr) (cy : Nat → ClassId) (S : Mem) (x1 : Int32) {Q : Mem → Int32 → Prop} (hq : vc_X7_isDue S x1 Q) : Ci l yX7_isDue (wA yX7_isDue cX7_isDue 2 (some Jvm.ClassFile.FieldType.boolean)) rmX7_isDue D ad cy [.ref (ad 15 0 0), .int x1] S Q := by
  intro o sz
  refine mkC (own := RX7) (lv := [(0, .ref (ad 15 0 0)), (1, .int x1)]) (by decide) rfl (Nat.le_of_ble_eq_true rfl) rfl ⟨rfl, rfl⟩ ?_
  intro p e s m below meth c ls hsz hM hlocks hret hK hA hX hl
  unfold vc_X7_isDue at hq
  refine lv_aload_n hM.1 hM.2.1 dX7_isDue_0 rfl (lv_at hl 0 rfl) ?_
  refine g15 hM hK hX m15 0 (by decide) qf_RX7_7 rfl dX7_isDue_1 ?_
  refine lv_iconst (v := (0 : Int32)) hM.1 hM.2.1 dX7_isDue_4 (by decide) ?_
  have c_1 := hq.1
  replace hq := hq.2
  refine r_iald hM hK hX m16 (a16 0 0) c_1 dX7_isDue_5 ?_
  refine lv_aload_n hM.1 hM.2.1 dX7_isDue_6 rfl (lv_at hl 0 rfl) ?_
  refine g15 hM hK hX m15 0 (by decide) qf_RX7_7 rfl dX7_isDue_7 ?_
  refine lv_iconst (v := (4 : Int32)) hM.1 hM.2.1 dX7_isDue_10 (by decide) ?_
  refine lv_iload_n hM.1 hM.2.1 dX7_isDue_11 rfl (lv_at hl 1 rfl) ?_
  refine lv_iadd hM.1 hM.2.1 dX7_isDue_12 ?_
  have c_2 := hq.1
  replace hq := hq.2
  refine r_iald hM hK hX m16 (a16 0 0) c_2 dX7_isDue_13 ?_
  have c_3 := hq.1
  replace hq := hq.2
  refine lv_irem hM.1 hM.2.1 dX7_isDue_14 c_3 ?_
  refine lv_if_ne (tgt := 22) hM.1 hM.2.1 dX7_isDue_15 (by decide) (fun c_4 => ?_) (fun c_4 => ?_)
  · replace hq := hq.1 c_4
    refine lv_iconst (v := (0 : Int32)) hM.1 hM.2.1 dX7_isDue_22 (by decide) ?_
    exact e_z hM hX hlocks hret rfl hq dX7_isDue_23
  replace hq := hq.2 c_4
  refine lv_iconst (v := (1 : Int32)) hM.1 hM.2.1 dX7_isDue_18 (by decide) ?_
  refine lv_goto (tgt := 23) hM.1 hM.2.1 dX7_isDue_19 (by decide) ?_
  exact e_z hM hX hlocks hret rfl hq dX7_isDue_23
def rmX7_readRows : Room := { frames := 2, cells := 0, slots := 0, locals := 45 }
theorem kX7_readRows {R : Room} {s : State} {args : Array Value} {own : String} {index : Nat} (ht : ∀ w ∈ lw_all, w.before args s = true) (hl : Cond.methodLink own index yX7_readRows ∈ lw_all) (hf : rmX7_readRows.frames + 1 ≤ R.frames) (hlo : 8 + (4 + 11) + rmX7_readRows.locals ≤ R.locals) : CallW R s args own RX7 index yX7_readRows cX7_readRows 4 (some Jvm.ClassFile.FieldType.int) (wA yX7_readRows cX7_readRows 4 (some Jvm.ClassFile.FieldType.int)) rmX7_readRows 0 0 0 := cwV 0 ht (good_V hl qm_yX7_readRows qs_yX7_readRows qi_RX7 qc_yX7_readRows) rfl rfl rfl (by decide +kernel) ⟨hf, hlo⟩
set_option maxRecDepth 100000 in
set_option maxHeartbeats 4000000 in
theorem met_X7_readRows (l : Launch) (D : va_G) (ad : Adr) (cy : Nat → ClassId) (S : Mem) {Q : Mem → Int32 → Prop} (hq : vc_X7_readRows S Q) : Ci l yX7_readRows (wA yX7_readRows cX7_readRows 4 (some Jvm.ClassFile.FieldType.int)) rmX7_readRows D ad cy [.ref (ad 15 0 0)] S Q := by
  intro o sz
  refine mkC (own := RX7) (lv := [(0, .ref (ad 15 0 0))]) (by decide) rfl (Nat.le_of_ble_eq_true rfl) rfl ⟨rfl, rfl⟩ ?_
  intro p e s m below meth c ls hsz hM hlocks hret hK hA hX hl
  have J70 : ∀ {K0 : Mem → Int32 → Int32 → Prop} (hk0 : ∀ (S : Mem) (y1 : Int32) (y2 : Int32), K0 S y1 y2 → ∀ (H : Heap) (locs : List Loc) (ls : Array Slot), PW D ad cy (AW ad sz) s.heap o S H locs → lv_has ls 4 [(0, .ref (ad 15 0 0)), (1, .int y1), (2, .int y2)] → Wi D ad cy o sz Q p l e rmX7_readRows s m [.ref (ad 15 0 0)] below meth c H locs (F0 m 10 ls [])), ∀ {K1 : Mem → Int32 → Prop} (hk1 : ∀ (S : Mem) (y1 : Int32), K1 S y1 → ∀ (H : Heap) (locs : List Loc) (ls : Array Slot), PW D ad cy (AW ad sz) s.heap o S H locs → lv_has ls 4 [(0, .ref (ad 15 0 0)), (1, .int y1)] → Wi D ad cy o sz Q p l e rmX7_readRows s m [.ref (ad 15 0 0)] below meth c H locs (F0 m 76 ls [])), ∀ (S : Mem) (y1 : Int32) (y2 : Int32), vc_X7_readRows_J70 Q K0 K1 S y1 y2 → ∀ (H : Heap) (locs : List Loc) (ls : Array Slot), PW D ad cy (AW ad sz) s.heap o S H locs → lv_has ls 4 [(0, .ref (ad 15 0 0)), (1, .int y1), (2, .int y2)] → Wi D ad cy o sz Q p l e rmX7_readRows s m [.ref (ad 15 0 0)] below meth c H locs (F0 m 70 ls []) := by
    intro K0 hk0 K1 hk1 S y1 y2 hq H locs ls hX hl
    unfold vc_X7_readRows_J70 at hq
    refine lv_iinc (v := (y2 + (1 : Int32))) (lv' := [(2, .int (y2 + (1 : Int32))), (0, .ref (ad 15 0 0)), (1, .int y1)]) hM.1 hM.2.1 dX7_readRows_70 hl (k := 2) rfl rfl (by decide) rfl (fun ls hl => ?_)
    refine lv_goto (tgt := 10) hM.1 hM.2.1 dX7_readRows_73 (by decide) ?_
    exact hk0 S y1 (y2 + (1 : Int32)) hq _ _ _ hX (lv_sub hl [1, 2, 0] rfl)
  have J64 : ∀ {K0 : Mem → Int32 → Int32 → Int32 → Prop} (hk0 : ∀ (S : Mem) (y1 : Int32) (y2 : Int32) (y3 : Int32), K0 S y1 y2 y3 → ∀ (H : Heap) (locs : List Loc) (ls : Array Slot), PW D ad cy (AW ad sz) s.heap o S H locs → lv_has ls 4 [(0, .ref (ad 15 0 0)), (1, .int y1), (2, .int y2), (3, .int y3)] → Wi D ad cy o sz Q p l e rmX7_readRows s m [.ref (ad 15 0 0)] below meth c H locs (F0 m 38 ls [])), ∀ {K1 : Mem → Int32 → Int32 → Prop} (hk1 : ∀ (S : Mem) (y1 : Int32) (y2 : Int32), K1 S y1 y2 → ∀ (H : Heap) (locs : List Loc) (ls : Array Slot), PW D ad cy (AW ad sz) s.heap o S H locs → lv_has ls 4 [(0, .ref (ad 15 0 0)), (1, .int y1), (2, .int y2)] → Wi D ad cy o sz Q p l e rmX7_readRows s m [.ref (ad 15 0 0)] below meth c H locs (F0 m 70 ls [])), ∀ (S : Mem) (y1 : Int32) (y2 : Int32) (y3 : Int32), vc_X7_readRows_J64 Q K0 K1 S y1 y2 y3 → ∀ (H : Heap) (locs : List Loc) (ls : Array Slot), PW D ad cy (AW ad sz) s.heap o S H locs → lv_has ls 4 [(0, .ref (ad 15 0 0)), (1, .int y1), (2, .int y2), (3, .int y3)] → Wi D ad cy o sz Q p l e rmX7_readRows s m [.ref (ad 15 0 0)] below meth c H locs (F0 m 64 ls []) := by
    intro K0 hk0 K1 hk1 S y1 y2 y3 hq H locs ls hX hl
    unfold vc_X7_readRows_J64 at hq
    refine lv_iinc (v := (y3 + (1 : Int32))) (lv' := [(3, .int (y3 + (1 : Int32))), (0, .ref (ad 15 0 0)), (1, .int y1), (2, .int y2)]) hM.1 hM.2.1 dX7_readRows_64 hl (k := 3) rfl rfl (by decide) rfl (fun ls hl => ?_)
    refine lv_goto (tgt := 38) hM.1 hM.2.1 dX7_readRows_67 (by decide) ?_
    exact hk0 S y1 y2 (y3 + (1 : Int32)) hq _ _ _ hX (lv_sub hl [1, 2, 3, 0] rfl)
  have L38 : ∀ {K : Mem → Int32 → Int32 → Prop} (hk : ∀ (S : Mem) (y1 : Int32) (y2 : Int32), K S y1 y2 → ∀ (H : Heap) (locs : List Loc) (ls : Array Slot), PW D ad cy (AW ad sz) s.heap o S H locs → lv_has ls 4 [(0, .ref (ad 15 0 0)), (1, .int y1), (2, .int y2)] → Wi D ad cy o sz Q p l e rmX7_readRows s m [.ref (ad 15 0 0)] below meth c H locs (F0 m 70 ls [])), ∀ (n : Nat) (S : Mem) (y1 : Int32) (y2 : Int32) (y3 : Int32), vc_X7_readRows_L38 Q K n S y1 y2 y3 → ∀ (H : Heap) (locs : List Loc) (ls : Array Slot), PW D ad cy (AW ad sz) s.heap o S H locs → lv_has ls 4 [(0, .ref (ad 15 0 0)), (1, .int y1), (2, .int y2), (3, .int y3)] → Wi D ad cy o sz Q p l e rmX7_readRows s m [.ref (ad 15 0 0)] below meth c H locs (F0 m 38 ls []) := by
    intro K hk n
    induction n with
    | zero =>
      intro S y1 y2 y3 hq
      rw [vc_X7_readRows_L38] at hq
      exact hq.elim
    | succ n ih =>
      intro S y1 y2 y3 hq H locs ls hX hl
      rw [vc_X7_readRows_L38] at hq
      refine lv_iload_n hM.1 hM.2.1 dX7_readRows_38 rfl (lv_at hl 3 rfl) ?_
      refine lv_aload_n hM.1 hM.2.1 dX7_readRows_39 rfl (lv_at hl 0 rfl) ?_
      refine g15 hM hK hX m15 0 (by decide) qf_RX7_7 rfl dX7_readRows_40 ?_
      refine lv_bipush (v := (15 : Int32)) hM.1 hM.2.1 dX7_readRows_43 (by decide) ?_
      have c_10 := hq.1
      replace hq := hq.2
      refine r_iald hM hK hX m16 (a16 0 0) c_10 dX7_readRows_45 ?_
      refine lv_icmp_ge (tgt := 70) hM.1 hM.2.1 dX7_readRows_46 (by decide) (fun c_11 => ?_) (fun c_11 => ?_)
      · replace hq := hq.1 c_11
        exact hk S y1 y2 hq _ _ _ hX (lv_sub hl [0, 1, 2] rfl)
      replace hq := hq.2 c_11
      refine lv_aload_n hM.1 hM.2.1 dX7_readRows_49 rfl (lv_at hl 0 rfl) ?_
      refine lv_iload_n hM.1 hM.2.1 dX7_readRows_50 rfl (lv_at hl 3 rfl) ?_
      refine lv_iconst (v := (0 : Int32)) hM.1 hM.2.1 dX7_readRows_51 (by decide) ?_
      refine cVi (As := [.int y3, .int (0 : Int32)]) hM hK hX hA (met_X7_of l D ad cy S y3 (0 : Int32) hq) (kX7_of hM.2.2.2.2 ql_RX7_66 (Nat.le_of_ble_eq_true rfl) (Nat.le_of_ble_eq_true rfl)) (v15 hK hX m15) rfl hl.1 rfl (Nat.le_of_ble_eq_true rfl) dX7_readRows_52 ⟨Nat.zero_le _, Nat.zero_le _⟩ (fun S_12 r_13 hq H locs hX => ?_)
      refine lv_iload_n hM.1 hM.2.1 dX7_readRows_55 rfl (lv_at hl 2 rfl) ?_
      refine lv_icmp_ne (tgt := 64) hM.1 hM.2.1 dX7_readRows_56 (by decide) (fun c_14 => ?_) (fun c_14 => ?_)
      · replace hq := hq.1 c_14
        exact J64 ih hk S_12 y1 y2 y3 hq _ _ _ hX (lv_sub hl [0, 1, 2, 3] rfl)
      replace hq := hq.2 c_14
      refine lv_aload_n hM.1 hM.2.1 dX7_readRows_59 rfl (lv_at hl 0 rfl) ?_
      refine lv_iload_n hM.1 hM.2.1 dX7_readRows_60 rfl (lv_at hl 3 rfl) ?_
      refine cVv (As := [.int y3]) hM hK hX hA (met_X7_read l D ad cy S_12 y3 hq) (kX7_read hM.2.2.2.2 ql_RX7_101 (Nat.le_of_ble_eq_true rfl) (Nat.le_of_ble_eq_true rfl)) (v15 hK hX m15) rfl hl.1 rfl (Nat.le_of_ble_eq_true rfl) dX7_readRows_61 ⟨Nat.zero_le _, Nat.zero_le _⟩ (fun S_15 hq H locs hX => ?_)
      exact J64 ih hk S_15 y1 y2 y3 hq _ _ _ hX (lv_sub hl [0, 1, 2, 3] rfl)
  have L10 : ∀ {K : Mem → Int32 → Prop} (hk : ∀ (S : Mem) (y1 : Int32), K S y1 → ∀ (H : Heap) (locs : List Loc) (ls : Array Slot), PW D ad cy (AW ad sz) s.heap o S H locs → lv_has ls 4 [(0, .ref (ad 15 0 0)), (1, .int y1)] → Wi D ad cy o sz Q p l e rmX7_readRows s m [.ref (ad 15 0 0)] below meth c H locs (F0 m 76 ls [])), ∀ (n : Nat) (S : Mem) (y1 : Int32) (y2 : Int32), vc_X7_readRows_L10 Q K n S y1 y2 → ∀ (H : Heap) (locs : List Loc) (ls : Array Slot), PW D ad cy (AW ad sz) s.heap o S H locs → lv_has ls 4 [(0, .ref (ad 15 0 0)), (1, .int y1), (2, .int y2)] → Wi D ad cy o sz Q p l e rmX7_readRows s m [.ref (ad 15 0 0)] below meth c H locs (F0 m 10 ls []) := by
    intro K hk n
    induction n with
    | zero =>
      intro S y1 y2 hq
      rw [vc_X7_readRows_L10] at hq
      exact hq.elim
    | succ n ih =>
      intro S y1 y2 hq H locs ls hX hl
      rw [vc_X7_readRows_L10] at hq
      refine lv_iload_n hM.1 hM.2.1 dX7_readRows_10 rfl (lv_at hl 2 rfl) ?_
      refine lv_iconst (v := (4 : Int32)) hM.1 hM.2.1 dX7_readRows_11 (by decide) ?_
      refine lv_icmp_ge (tgt := 76) hM.1 hM.2.1 dX7_readRows_12 (by decide) (fun c_2 => ?_) (fun c_2 => ?_)
      · replace hq := hq.1 c_2
        exact hk S y1 hq _ _ _ hX (lv_sub hl [0, 1] rfl)
      replace hq := hq.2 c_2
      refine lv_aload_n hM.1 hM.2.1 dX7_readRows_15 rfl (lv_at hl 0 rfl) ?_
      refine lv_iload_n hM.1 hM.2.1 dX7_readRows_16 rfl (lv_at hl 2 rfl) ?_
      refine cVi (As := [.int y2]) hM hK hX hA (met_X7_isDue l D ad cy S y2 hq) (kX7_isDue hM.2.2.2.2 ql_RX7_98 (Nat.le_of_ble_eq_true rfl) (Nat.le_of_ble_eq_true rfl)) (v15 hK hX m15) rfl hl.1 rfl (Nat.le_of_ble_eq_true rfl) dX7_readRows_17 ⟨Nat.zero_le _, Nat.zero_le _⟩ (fun S_3 r_4 hq H locs hX => ?_)
      refine lv_if_eq (tgt := 70) hM.1 hM.2.1 dX7_readRows_20 (by decide) (fun c_5 => ?_) (fun c_5 => ?_)
      · replace hq := hq.1 c_5
        exact J70 ih hk S_3 y1 y2 hq _ _ _ hX (lv_sub hl [0, 1, 2] rfl)
      replace hq := hq.2 c_5
      refine lv_aload_n hM.1 hM.2.1 dX7_readRows_23 rfl (lv_at hl 0 rfl) ?_
      refine g15 hM hK hX m15 0 (by decide) qf_RX7_7 rfl dX7_readRows_24 ?_
      refine lv_bipush (v := (8 : Int32)) hM.1 hM.2.1 dX7_readRows_27 (by decide) ?_
      refine lv_iload_n hM.1 hM.2.1 dX7_readRows_29 rfl (lv_at hl 2 rfl) ?_
      refine lv_iadd hM.1 hM.2.1 dX7_readRows_30 ?_
      refine lv_dup2_11 hM.1 hM.2.1 dX7_readRows_31 rfl rfl ?_
      have c_6 := hq.1
      replace hq := hq.2
      refine r_iald hM hK hX m16 (a16 0 0) c_6 dX7_readRows_32 ?_
      refine lv_iconst (v := (1 : Int32)) hM.1 hM.2.1 dX7_readRows_33 (by decide) ?_
      refine lv_iadd hM.1 hM.2.1 dX7_readRows_34 ?_
      have c_8 := hq.1
      replace hq := hq.2
      refine r_iast hM hK hX m16 (a16 0 0) c_8 dX7_readRows_35 (fun S_7 e_9 H locs hX => ?_)
      replace hq := hq S_7 e_9
      refine lv_iconst (v := (0 : Int32)) hM.1 hM.2.1 dX7_readRows_36 (by decide) ?_
      refine lv_istore_n (lv' := [(3, .int (0 : Int32)), (0, .ref (ad 15 0 0)), (1, .int y1), (2, .int y2)]) hM.1 hM.2.1 dX7_readRows_37 rfl hl (by decide) rfl (fun ls hl => ?_)
      obtain ⟨k0, hq⟩ := hq
      refine L38 (fun S_16 y1_17 y2_18 hq H locs ls hX hl => ?_) k0 S_7 y1 y2 (0 : Int32) hq _ _ _ hX (lv_sub hl [1, 2, 3, 0] rfl)
      exact J70 ih hk S_16 y1_17 y2_18 hq _ _ _ hX (lv_sub hl [0, 1, 2] rfl)
  unfold vc_X7_readRows at hq
  refine lv_aload_n hM.1 hM.2.1 dX7_readRows_0 rfl (lv_at hl 0 rfl) ?_
  refine g15 hM hK hX m15 0 (by decide) qf_RX7_7 rfl dX7_readRows_1 ?_
  refine lv_bipush (v := (12 : Int32)) hM.1 hM.2.1 dX7_readRows_4 (by decide) ?_
  have c_1 := hq.1
  replace hq := hq.2
  refine r_iald hM hK hX m16 (a16 0 0) c_1 dX7_readRows_6 ?_
  refine lv_istore_n (lv' := [(1, .int (S 16 0 0 (12 : Int32).toNatClampNeg)), (0, .ref (ad 15 0 0))]) hM.1 hM.2.1 dX7_readRows_7 rfl hl (by decide) rfl (fun ls hl => ?_)
  refine lv_iconst (v := (0 : Int32)) hM.1 hM.2.1 dX7_readRows_8 (by decide) ?_
  refine lv_istore_n (lv' := [(2, .int (0 : Int32)), (1, .int (S 16 0 0 (12 : Int32).toNatClampNeg)), (0, .ref (ad 15 0 0))]) hM.1 hM.2.1 dX7_readRows_9 rfl hl (by decide) rfl (fun ls hl => ?_)
  obtain ⟨k0, hq⟩ := hq
  refine L10 (fun S_19 y1_20 hq H locs ls hX hl => ?_) k0 S (S 16 0 0 (12 : Int32).toNatClampNeg) (0 : Int32) hq _ _ _ hX (lv_sub hl [2, 1, 0] rfl)
  refine lv_aload_n hM.1 hM.2.1 dX7_readRows_76 rfl (lv_at hl 0 rfl) ?_
  refine g15 hM hK hX m15 0 (by decide) qf_RX7_7 rfl dX7_readRows_77 ?_
  refine lv_bipush (v := (12 : Int32)) hM.1 hM.2.1 dX7_readRows_80 (by decide) ?_
  have c_21 := hq.1
  replace hq := hq.2
  refine r_iald hM hK hX m16 (a16 0 0) c_21 dX7_readRows_82 ?_
  refine lv_iload_n hM.1 hM.2.1 dX7_readRows_83 rfl (lv_at hl 1 rfl) ?_
  refine lv_isub hM.1 hM.2.1 dX7_readRows_84 ?_
  exact e_i hM hX hlocks hret hq dX7_readRows_85
def rmX7_compare : Room := { frames := 4, cells := 0, slots := 0, locals := 89 }
theorem kX7_compare {R : Room} {s : State} {args : Array Value} {own : String} {index : Nat} (ht : ∀ w ∈ lw_all, w.before args s = true) (hl : Cond.methodLink own index yX7_compare ∈ lw_all) (hf : rmX7_compare.frames + 1 ≤ R.frames) (hlo : 8 + (3 + 11) + rmX7_compare.locals ≤ R.locals) : CallW R s args own RX7 index yX7_compare cX7_compare 3 none (wA yX7_compare cX7_compare 3 none) rmX7_compare 0 0 1 := cwV 1 ht (good_V hl qm_yX7_compare qs_yX7_compare qi_RX7 qc_yX7_compare) rfl rfl rfl (by decide +kernel) ⟨hf, hlo⟩
set_option maxRecDepth 100000 in
set_option maxHeartbeats 4000000 in
theorem met_X7_compare (l : Launch) (D : va_G) (ad : Adr) (cy : Nat → ClassId) (S : Mem) (x1 : Int32) {Q : Mem → Prop} (hq : vc_X7_compare S x1 Q) : Cv l yX7_compare (wA yX7_compare cX7_compare 3 none) rmX7_compare D ad cy [.ref (ad 15 0 0), .int x1] S Q := by
  intro o sz
  refine mkC (own := RX7) (lv := [(0, .ref (ad 15 0 0)), (1, .int x1)]) (by decide) rfl (Nat.le_of_ble_eq_true rfl) rfl ⟨rfl, rfl⟩ ?_
  intro p e s m below meth c ls hsz hM hlocks hret hK hA hX hl
  have J43 : ∀ (S : Mem) (y2 : Int32) (w1 : Int32) (w2 : Int32), vc_X7_compare_J43 Q x1 S y2 w1 w2 → ∀ (H : Heap) (locs : List Loc) (ls : Array Slot), PW D ad cy (AW ad sz) s.heap o S H locs → lv_has ls 3 [(0, .ref (ad 15 0 0)), (1, .int x1), (2, .int y2)] → Wv D ad cy o sz Q p l e rmX7_compare s m [.ref (ad 15 0 0), .int x1] below meth c H locs (F0 m 43 ls [.int w2, .int w1, .ref (ad 22 0 0)]) := by
    intro S y2 w1 w2 hq H locs ls hX hl
    unfold vc_X7_compare_J43 at hq
    have c_7 := hq.1
    replace hq := hq.2
    refine r_zast hM hK hX m22 (a22 0 0) c_7 dX7_compare_43 (fun S_6 e_8 H locs hX => ?_)
    replace hq := hq S_6 e_8
    refine lv_aload_n hM.1 hM.2.1 dX7_compare_44 rfl (lv_at hl 0 rfl) ?_
    refine g15 hM hK hX m15 9 (by decide) qf_RX7_29 rfl dX7_compare_45 ?_
    refine lv_iload_n hM.1 hM.2.1 dX7_compare_48 rfl (lv_at hl 1 rfl) ?_
    have c_9 := hq.1
    replace hq := hq.2
    refine r_zald hM hK hX m22 (a22 0 0) c_9 dX7_compare_49 ?_
    refine lv_if_ne (tgt := 54) hM.1 hM.2.1 dX7_compare_50 (by decide) (fun c_10 => ?_) (fun c_10 => ?_)
    · replace hq := hq.1 c_10
      refine lv_aload_n hM.1 hM.2.1 dX7_compare_54 rfl (lv_at hl 0 rfl) ?_
      refine lv_iload_n hM.1 hM.2.1 dX7_compare_55 rfl (lv_at hl 1 rfl) ?_
      refine cVi (As := [.int x1]) hM hK hX hA (met_X7_mended l D ad cy S_6 x1 hq) (kX7_mended hM.2.2.2.2 ql_RX7_80 (Nat.le_of_ble_eq_true rfl) (Nat.le_of_ble_eq_true rfl)) (v15 hK hX m15) rfl hl.1 rfl (Nat.le_of_ble_eq_true rfl) dX7_compare_56 ⟨Nat.zero_le _, Nat.zero_le _⟩ (fun S_11 r_12 hq H locs hX => ?_)
      refine lv_iload_n hM.1 hM.2.1 dX7_compare_59 rfl (lv_at hl 2 rfl) ?_
      refine lv_isub hM.1 hM.2.1 dX7_compare_60 ?_
      refine cSi (As := [.int (r_12 - y2)]) hM hK hX hA (met_X7_size l D ad cy S_11 (r_12 - y2) hq) (kX7_size hM.2.2.2.2 ql_RX7_107 (Nat.le_of_ble_eq_true rfl) (Nat.le_of_ble_eq_true rfl)) rfl hl.1 rfl (Nat.le_of_ble_eq_true rfl) dX7_compare_61 ⟨Nat.zero_le _, Nat.zero_le _⟩ (fun S_13 r_14 hq H locs hX => ?_)
      refine lv_aload_n hM.1 hM.2.1 dX7_compare_64 rfl (lv_at hl 0 rfl) ?_
      refine g15 hM hK hX m15 0 (by decide) qf_RX7_7 rfl dX7_compare_65 ?_
      refine lv_iconst (v := (2 : Int32)) hM.1 hM.2.1 dX7_compare_68 (by decide) ?_
      have c_15 := hq.1
      replace hq := hq.2
      refine r_iald hM hK hX m16 (a16 0 0) c_15 dX7_compare_69 ?_
      refine lv_icmp_le (tgt := 117) hM.1 hM.2.1 dX7_compare_70 (by decide) (fun c_16 => ?_) (fun c_16 => ?_)
      · replace hq := hq.1 c_16
        refine lv_aload_n hM.1 hM.2.1 dX7_compare_117 rfl (lv_at hl 0 rfl) ?_
        refine lv_iload_n hM.1 hM.2.1 dX7_compare_118 rfl (lv_at hl 1 rfl) ?_
        refine lv_iconst (v := (5 : Int32)) hM.1 hM.2.1 dX7_compare_119 (by decide) ?_
        refine lv_iconst (v := (0 : Int32)) hM.1 hM.2.1 dX7_compare_120 (by decide) ?_
        refine cVv (As := [.int x1, .int (5 : Int32), .int (0 : Int32)]) hM hK hX hA (met_X7_put l D ad cy S_13 x1 (5 : Int32) (0 : Int32) hq) (kX7_put hM.2.2.2.2 ql_RX7_94 (Nat.le_of_ble_eq_true rfl) (Nat.le_of_ble_eq_true rfl)) (v15 hK hX m15) rfl hl.1 rfl (Nat.le_of_ble_eq_true rfl) dX7_compare_121 ⟨Nat.zero_le _, Nat.zero_le _⟩ (fun S_17 hq H locs hX => ?_)
        exact e_v hM hX hlocks hret hq dX7_compare_124
      replace hq := hq.2 c_16
      refine lv_aload_n hM.1 hM.2.1 dX7_compare_73 rfl (lv_at hl 0 rfl) ?_
      refine g15 hM hK hX m15 0 (by decide) qf_RX7_7 rfl dX7_compare_74 ?_
      refine lv_bipush (v := (13 : Int32)) hM.1 hM.2.1 dX7_compare_77 (by decide) ?_
      refine lv_dup2_11 hM.1 hM.2.1 dX7_compare_79 rfl rfl ?_
      have c_18 := hq.1
      replace hq := hq.2
      refine r_iald hM hK hX m16 (a16 0 0) c_18 dX7_compare_80 ?_
      refine lv_iconst (v := (1 : Int32)) hM.1 hM.2.1 dX7_compare_81 (by decide) ?_
      refine lv_iadd hM.1 hM.2.1 dX7_compare_82 ?_
      have c_20 := hq.1
      replace hq := hq.2
      refine r_iast hM hK hX m16 (a16 0 0) c_20 dX7_compare_83 (fun S_19 e_21 H locs hX => ?_)
      replace hq := hq S_19 e_21
      refine lv_aload_n hM.1 hM.2.1 dX7_compare_84 rfl (lv_at hl 0 rfl) ?_
      refine lv_iload_n hM.1 hM.2.1 dX7_compare_85 rfl (lv_at hl 1 rfl) ?_
      refine lv_bipush (v := (8 : Int32)) hM.1 hM.2.1 dX7_compare_86 (by decide) ?_
      refine lv_aload_n hM.1 hM.2.1 dX7_compare_88 rfl (lv_at hl 0 rfl) ?_
      refine lv_iload_n hM.1 hM.2.1 dX7_compare_89 rfl (lv_at hl 1 rfl) ?_
      refine lv_bipush (v := (8 : Int32)) hM.1 hM.2.1 dX7_compare_90 (by decide) ?_
      refine cVi (As := [.int x1, .int (8 : Int32)]) hM hK hX hA (met_X7_of l D ad cy S_19 x1 (8 : Int32) hq) (kX7_of hM.2.2.2.2 ql_RX7_66 (Nat.le_of_ble_eq_true rfl) (Nat.le_of_ble_eq_true rfl)) (v15 hK hX m15) rfl hl.1 rfl (Nat.le_of_ble_eq_true rfl) dX7_compare_92 ⟨Nat.zero_le _, Nat.zero_le _⟩ (fun S_22 r_23 hq H locs hX => ?_)
      refine lv_iconst (v := (1 : Int32)) hM.1 hM.2.1 dX7_compare_95 (by decide) ?_
      refine lv_iadd hM.1 hM.2.1 dX7_compare_96 ?_
      refine cVv (As := [.int x1, .int (8 : Int32), .int (r_23 + (1 : Int32))]) hM hK hX hA (met_X7_put l D ad cy S_22 x1 (8 : Int32) (r_23 + (1 : Int32)) hq) (kX7_put hM.2.2.2.2 ql_RX7_94 (Nat.le_of_ble_eq_true rfl) (Nat.le_of_ble_eq_true rfl)) (v15 hK hX m15) rfl hl.1 rfl (Nat.le_of_ble_eq_true rfl) dX7_compare_97 ⟨Nat.zero_le _, Nat.zero_le _⟩ (fun S_24 hq H locs hX => ?_)
      refine lv_aload_n hM.1 hM.2.1 dX7_compare_100 rfl (lv_at hl 0 rfl) ?_
      refine lv_iload_n hM.1 hM.2.1 dX7_compare_101 rfl (lv_at hl 1 rfl) ?_
      refine lv_iconst (v := (5 : Int32)) hM.1 hM.2.1 dX7_compare_102 (by decide) ?_
      refine lv_aload_n hM.1 hM.2.1 dX7_compare_103 rfl (lv_at hl 0 rfl) ?_
      refine lv_iload_n hM.1 hM.2.1 dX7_compare_104 rfl (lv_at hl 1 rfl) ?_
      refine lv_iconst (v := (5 : Int32)) hM.1 hM.2.1 dX7_compare_105 (by decide) ?_
      refine cVi (As := [.int x1, .int (5 : Int32)]) hM hK hX hA (met_X7_of l D ad cy S_24 x1 (5 : Int32) hq) (kX7_of hM.2.2.2.2 ql_RX7_66 (Nat.le_of_ble_eq_true rfl) (Nat.le_of_ble_eq_true rfl)) (v15 hK hX m15) rfl hl.1 rfl (Nat.le_of_ble_eq_true rfl) dX7_compare_106 ⟨Nat.zero_le _, Nat.zero_le _⟩ (fun S_25 r_26 hq H locs hX => ?_)
      refine lv_iconst (v := (1 : Int32)) hM.1 hM.2.1 dX7_compare_109 (by decide) ?_
      refine lv_iadd hM.1 hM.2.1 dX7_compare_110 ?_
      refine cVv (As := [.int x1, .int (5 : Int32), .int (r_26 + (1 : Int32))]) hM hK hX hA (met_X7_put l D ad cy S_25 x1 (5 : Int32) (r_26 + (1 : Int32)) hq) (kX7_put hM.2.2.2.2 ql_RX7_94 (Nat.le_of_ble_eq_true rfl) (Nat.le_of_ble_eq_true rfl)) (v15 hK hX m15) rfl hl.1 rfl (Nat.le_of_ble_eq_true rfl) dX7_compare_111 ⟨Nat.zero_le _, Nat.zero_le _⟩ (fun S_27 hq H locs hX => ?_)
      refine lv_goto (tgt := 124) hM.1 hM.2.1 dX7_compare_114 (by decide) ?_
      exact e_v hM hX hlocks hret hq dX7_compare_124
    replace hq := hq.2 c_10
    exact e_v hM hX hlocks hret hq dX7_compare_53
  have J42 : ∀ (S : Mem) (y2 : Int32) (w1 : Int32), vc_X7_compare_J42 Q x1 S y2 w1 → ∀ (H : Heap) (locs : List Loc) (ls : Array Slot), PW D ad cy (AW ad sz) s.heap o S H locs → lv_has ls 3 [(0, .ref (ad 15 0 0)), (1, .int x1), (2, .int y2)] → Wv D ad cy o sz Q p l e rmX7_compare s m [.ref (ad 15 0 0), .int x1] below meth c H locs (F0 m 42 ls [.int w1, .ref (ad 22 0 0)]) := by
    intro S y2 w1 hq H locs ls hX hl
    unfold vc_X7_compare_J42 at hq
    refine lv_iconst (v := (0 : Int32)) hM.1 hM.2.1 dX7_compare_42 (by decide) ?_
    exact J43 S y2 w1 (0 : Int32) hq _ _ _ hX (lv_sub hl [0, 1, 2] rfl)
  unfold vc_X7_compare at hq
  refine lv_aload_n hM.1 hM.2.1 dX7_compare_0 rfl (lv_at hl 0 rfl) ?_
  refine lv_iload_n hM.1 hM.2.1 dX7_compare_1 rfl (lv_at hl 1 rfl) ?_
  refine cVi (As := [.int x1]) hM hK hX hA (met_X7_middleWithout l D ad cy S x1 hq) (kX7_middleWithout hM.2.2.2.2 ql_RX7_104 (Nat.le_of_ble_eq_true rfl) (Nat.le_of_ble_eq_true rfl)) (v15 hK hX m15) rfl hl.1 rfl (Nat.le_of_ble_eq_true rfl) dX7_compare_2 ⟨Nat.zero_le _, Nat.zero_le _⟩ (fun S_1 r_2 hq H locs hX => ?_)
  refine lv_istore_n (lv' := [(2, .int r_2), (0, .ref (ad 15 0 0)), (1, .int x1)]) hM.1 hM.2.1 dX7_compare_5 rfl hl (by decide) rfl (fun ls hl => ?_)
  refine lv_aload_n hM.1 hM.2.1 dX7_compare_6 rfl (lv_at hl 1 rfl) ?_
  refine g15 hM hK hX m15 9 (by decide) qf_RX7_29 rfl dX7_compare_7 ?_
  refine lv_iload_n hM.1 hM.2.1 dX7_compare_10 rfl (lv_at hl 2 rfl) ?_
  refine lv_aload_n hM.1 hM.2.1 dX7_compare_11 rfl (lv_at hl 1 rfl) ?_
  refine lv_iload_n hM.1 hM.2.1 dX7_compare_12 rfl (lv_at hl 2 rfl) ?_
  refine cVi (As := [.int x1]) hM hK hX hA (met_X7_isAsked l D ad cy S_1 x1 hq) (kX7_isAsked hM.2.2.2.2 ql_RX7_76 (Nat.le_of_ble_eq_true rfl) (Nat.le_of_ble_eq_true rfl)) (v15 hK hX m15) rfl hl.1 rfl (Nat.le_of_ble_eq_true rfl) dX7_compare_13 ⟨Nat.zero_le _, Nat.zero_le _⟩ (fun S_3 r_4 hq H locs hX => ?_)
  refine lv_if_eq (tgt := 42) hM.1 hM.2.1 dX7_compare_16 (by decide) (fun c_5 => ?_) (fun c_5 => ?_)
  · replace hq := hq.1 c_5
    exact J42 S_3 r_2 x1 hq _ _ _ hX (lv_sub hl [1, 2, 0] rfl)
  replace hq := hq.2 c_5
  refine lv_aload_n hM.1 hM.2.1 dX7_compare_19 rfl (lv_at hl 1 rfl) ?_
  refine lv_aload_n hM.1 hM.2.1 dX7_compare_20 rfl (lv_at hl 1 rfl) ?_
  refine lv_iload_n hM.1 hM.2.1 dX7_compare_21 rfl (lv_at hl 2 rfl) ?_
  refine lv_iconst (v := (0 : Int32)) hM.1 hM.2.1 dX7_compare_22 (by decide) ?_
  refine cVi (As := [.int x1, .int (0 : Int32)]) hM hK hX hA (met_X7_of l D ad cy S_3 x1 (0 : Int32) hq) (kX7_of hM.2.2.2.2 ql_RX7_66 (Nat.le_of_ble_eq_true rfl) (Nat.le_of_ble_eq_true rfl)) (v15 hK hX m15) rfl hl.1 rfl (Nat.le_of_ble_eq_true rfl) dX7_compare_23 ⟨Nat.zero_le _, Nat.zero_le _⟩ (fun S_28 r_29 hq H locs hX => ?_)
  refine cVi (As := [.int r_29]) hM hK hX hA (met_X7_isDue l D ad cy S_28 r_29 hq) (kX7_isDue hM.2.2.2.2 ql_RX7_98 (Nat.le_of_ble_eq_true rfl) (Nat.le_of_ble_eq_true rfl)) (v15 hK hX m15) rfl hl.1 rfl (Nat.le_of_ble_eq_true rfl) dX7_compare_26 ⟨Nat.zero_le _, Nat.zero_le _⟩ (fun S_30 r_31 hq H locs hX => ?_)
  refine lv_if_eq (tgt := 42) hM.1 hM.2.1 dX7_compare_29 (by decide) (fun c_32 => ?_) (fun c_32 => ?_)
  · replace hq := hq.1 c_32
    exact J42 S_30 r_2 x1 hq _ _ _ hX (lv_sub hl [1, 2, 0] rfl)
  replace hq := hq.2 c_32
  refine lv_iload_n hM.1 hM.2.1 dX7_compare_32 rfl (lv_at hl 0 rfl) ?_
  refine lv_ldc hM.1 hM.2.1 hM.2.2.2.1 (hM.2.2.2.2 _ qn_RX7_47) dX7_compare_33 ?_
  refine lv_icmp_eq (tgt := 42) hM.1 hM.2.1 dX7_compare_35 (by decide) (fun c_33 => ?_) (fun c_33 => ?_)
  · replace hq := hq.1 c_33
    exact J42 S_30 r_2 x1 hq _ _ _ hX (lv_sub hl [1, 2, 0] rfl)
  replace hq := hq.2 c_33
  refine lv_iconst (v := (1 : Int32)) hM.1 hM.2.1 dX7_compare_38 (by decide) ?_
  refine lv_goto (tgt := 43) hM.1 hM.2.1 dX7_compare_39 (by decide) ?_
  exact J43 S_30 r_2 x1 (1 : Int32) hq _ _ _ hX (lv_sub hl [1, 2, 0] rfl)
def rmX7_lookForSpikes : Room := { frames := 5, cells := 0, slots := 0, locals := 111 }
theorem kX7_lookForSpikes {R : Room} {s : State} {args : Array Value} {own : String} {index : Nat} (ht : ∀ w ∈ lw_all, w.before args s = true) (hl : Cond.methodLink own index yX7_lookForSpikes ∈ lw_all) (hf : rmX7_lookForSpikes.frames + 1 ≤ R.frames) (hlo : 8 + (2 + 11) + rmX7_lookForSpikes.locals ≤ R.locals) : CallW R s args own RX7 index yX7_lookForSpikes cX7_lookForSpikes 2 none (wA yX7_lookForSpikes cX7_lookForSpikes 2 none) rmX7_lookForSpikes 0 0 0 := cwV 0 ht (good_V hl qm_yX7_lookForSpikes qs_yX7_lookForSpikes qi_RX7 qc_yX7_lookForSpikes) rfl rfl rfl (by decide +kernel) ⟨hf, hlo⟩
set_option maxRecDepth 100000 in
set_option maxHeartbeats 4000000 in
theorem met_X7_lookForSpikes (l : Launch) (D : va_G) (ad : Adr) (cy : Nat → ClassId) (S : Mem) {Q : Mem → Prop} (hq : vc_X7_lookForSpikes S Q) : Cv l yX7_lookForSpikes (wA yX7_lookForSpikes cX7_lookForSpikes 2 none) rmX7_lookForSpikes D ad cy [.ref (ad 15 0 0)] S Q := by
  intro o sz
  refine mkC (own := RX7) (lv := [(0, .ref (ad 15 0 0))]) (by decide) rfl (Nat.le_of_ble_eq_true rfl) rfl ⟨rfl, rfl⟩ ?_
  intro p e s m below meth c ls hsz hM hlocks hret hK hA hX hl
  have L2 : ∀ {K : Mem → Prop} (hk : ∀ (S : Mem), K S → ∀ (H : Heap) (locs : List Loc) (ls : Array Slot), PW D ad cy (AW ad sz) s.heap o S H locs → lv_has ls 2 [(0, .ref (ad 15 0 0))] → Wv D ad cy o sz Q p l e rmX7_lookForSpikes s m [.ref (ad 15 0 0)] below meth c H locs (F0 m 24 ls [])), ∀ (n : Nat) (S : Mem) (y1 : Int32), vc_X7_lookForSpikes_L2 Q K n S y1 → ∀ (H : Heap) (locs : List Loc) (ls : Array Slot), PW D ad cy (AW ad sz) s.heap o S H locs → lv_has ls 2 [(0, .ref (ad 15 0 0)), (1, .int y1)] → Wv D ad cy o sz Q p l e rmX7_lookForSpikes s m [.ref (ad 15 0 0)] below meth c H locs (F0 m 2 ls []) := by
    intro K hk n
    induction n with
    | zero =>
      intro S y1 hq
      rw [vc_X7_lookForSpikes_L2] at hq
      exact hq.elim
    | succ n ih =>
      intro S y1 hq H locs ls hX hl
      rw [vc_X7_lookForSpikes_L2] at hq
      refine lv_iload_n hM.1 hM.2.1 dX7_lookForSpikes_2 rfl (lv_at hl 1 rfl) ?_
      refine lv_aload_n hM.1 hM.2.1 dX7_lookForSpikes_3 rfl (lv_at hl 0 rfl) ?_
      refine g15 hM hK hX m15 0 (by decide) qf_RX7_7 rfl dX7_lookForSpikes_4 ?_
      refine lv_bipush (v := (15 : Int32)) hM.1 hM.2.1 dX7_lookForSpikes_7 (by decide) ?_
      have c_1 := hq.1
      replace hq := hq.2
      refine r_iald hM hK hX m16 (a16 0 0) c_1 dX7_lookForSpikes_9 ?_
      refine lv_icmp_ge (tgt := 24) hM.1 hM.2.1 dX7_lookForSpikes_10 (by decide) (fun c_2 => ?_) (fun c_2 => ?_)
      · replace hq := hq.1 c_2
        exact hk S hq _ _ _ hX (lv_sub hl [0] rfl)
      replace hq := hq.2 c_2
      refine lv_aload_n hM.1 hM.2.1 dX7_lookForSpikes_13 rfl (lv_at hl 0 rfl) ?_
      refine lv_iload_n hM.1 hM.2.1 dX7_lookForSpikes_14 rfl (lv_at hl 1 rfl) ?_
      refine cVv (As := [.int y1]) hM hK hX hA (met_X7_compare l D ad cy S y1 hq) (kX7_compare hM.2.2.2.2 ql_RX7_110 (Nat.le_of_ble_eq_true rfl) (Nat.le_of_ble_eq_true rfl)) (v15 hK hX m15) rfl hl.1 rfl (Nat.le_of_ble_eq_true rfl) dX7_lookForSpikes_15 ⟨Nat.zero_le _, Nat.zero_le _⟩ (fun S_3 hq H locs hX => ?_)
      refine lv_iinc (v := (y1 + (1 : Int32))) (lv' := [(1, .int (y1 + (1 : Int32))), (0, .ref (ad 15 0 0))]) hM.1 hM.2.1 dX7_lookForSpikes_18 hl (k := 1) rfl rfl (by decide) rfl (fun ls hl => ?_)
      refine lv_goto (tgt := 2) hM.1 hM.2.1 dX7_lookForSpikes_21 (by decide) ?_
      exact ih S_3 (y1 + (1 : Int32)) hq _ _ _ hX (lv_sub hl [1, 0] rfl)
  have J69 : ∀ {K0 : Mem → Int32 → Prop} (hk0 : ∀ (S : Mem) (y1 : Int32), K0 S y1 → ∀ (H : Heap) (locs : List Loc) (ls : Array Slot), PW D ad cy (AW ad sz) s.heap o S H locs → lv_has ls 2 [(0, .ref (ad 15 0 0)), (1, .int y1)] → Wv D ad cy o sz Q p l e rmX7_lookForSpikes s m [.ref (ad 15 0 0)] below meth c H locs (F0 m 26 ls [])), ∀ {K1 : Mem → Prop} (hk1 : ∀ (S : Mem), K1 S → ∀ (H : Heap) (locs : List Loc) (ls : Array Slot), PW D ad cy (AW ad sz) s.heap o S H locs → lv_has ls 2 [] → Wv D ad cy o sz Q p l e rmX7_lookForSpikes s m [.ref (ad 15 0 0)] below meth c H locs (F0 m 75 ls [])), ∀ (S : Mem) (y1 : Int32), vc_X7_lookForSpikes_J69 Q K0 K1 S y1 → ∀ (H : Heap) (locs : List Loc) (ls : Array Slot), PW D ad cy (AW ad sz) s.heap o S H locs → lv_has ls 2 [(0, .ref (ad 15 0 0)), (1, .int y1)] → Wv D ad cy o sz Q p l e rmX7_lookForSpikes s m [.ref (ad 15 0 0)] below meth c H locs (F0 m 69 ls []) := by
    intro K0 hk0 K1 hk1 S y1 hq H locs ls hX hl
    unfold vc_X7_lookForSpikes_J69 at hq
    refine lv_iinc (v := (y1 + (1 : Int32))) (lv' := [(1, .int (y1 + (1 : Int32))), (0, .ref (ad 15 0 0))]) hM.1 hM.2.1 dX7_lookForSpikes_69 hl (k := 1) rfl rfl (by decide) rfl (fun ls hl => ?_)
    refine lv_goto (tgt := 26) hM.1 hM.2.1 dX7_lookForSpikes_72 (by decide) ?_
    exact hk0 S (y1 + (1 : Int32)) hq _ _ _ hX (lv_sub hl [1, 0] rfl)
  have L26 : ∀ {K : Mem → Prop} (hk : ∀ (S : Mem), K S → ∀ (H : Heap) (locs : List Loc) (ls : Array Slot), PW D ad cy (AW ad sz) s.heap o S H locs → lv_has ls 2 [] → Wv D ad cy o sz Q p l e rmX7_lookForSpikes s m [.ref (ad 15 0 0)] below meth c H locs (F0 m 75 ls [])), ∀ (n : Nat) (S : Mem) (y1 : Int32), vc_X7_lookForSpikes_L26 Q K n S y1 → ∀ (H : Heap) (locs : List Loc) (ls : Array Slot), PW D ad cy (AW ad sz) s.heap o S H locs → lv_has ls 2 [(0, .ref (ad 15 0 0)), (1, .int y1)] → Wv D ad cy o sz Q p l e rmX7_lookForSpikes s m [.ref (ad 15 0 0)] below meth c H locs (F0 m 26 ls []) := by
    intro K hk n
    induction n with
    | zero =>
      intro S y1 hq
      rw [vc_X7_lookForSpikes_L26] at hq
      exact hq.elim
    | succ n ih =>
      intro S y1 hq H locs ls hX hl
      rw [vc_X7_lookForSpikes_L26] at hq
      refine lv_iload_n hM.1 hM.2.1 dX7_lookForSpikes_26 rfl (lv_at hl 1 rfl) ?_
      refine lv_aload_n hM.1 hM.2.1 dX7_lookForSpikes_27 rfl (lv_at hl 0 rfl) ?_
      refine g15 hM hK hX m15 0 (by decide) qf_RX7_7 rfl dX7_lookForSpikes_28 ?_
      refine lv_bipush (v := (15 : Int32)) hM.1 hM.2.1 dX7_lookForSpikes_31 (by decide) ?_
      have c_5 := hq.1
      replace hq := hq.2
      refine r_iald hM hK hX m16 (a16 0 0) c_5 dX7_lookForSpikes_33 ?_
      refine lv_icmp_ge (tgt := 75) hM.1 hM.2.1 dX7_lookForSpikes_34 (by decide) (fun c_6 => ?_) (fun c_6 => ?_)
      · replace hq := hq.1 c_6
        exact hk S hq _ _ _ hX (lv_sub hl [] rfl)
      replace hq := hq.2 c_6
      refine lv_aload_n hM.1 hM.2.1 dX7_lookForSpikes_37 rfl (lv_at hl 0 rfl) ?_
      refine g15 hM hK hX m15 9 (by decide) qf_RX7_29 rfl dX7_lookForSpikes_38 ?_
      refine lv_iload_n hM.1 hM.2.1 dX7_lookForSpikes_41 rfl (lv_at hl 1 rfl) ?_
      have c_7 := hq.1
      replace hq := hq.2
      refine r_zald hM hK hX m22 (a22 0 0) c_7 dX7_lookForSpikes_42 ?_
      refine lv_if_eq (tgt := 69) hM.1 hM.2.1 dX7_lookForSpikes_43 (by decide) (fun c_8 => ?_) (fun c_8 => ?_)
      · replace hq := hq.1 c_8
        exact J69 ih hk S y1 hq _ _ _ hX (lv_sub hl [0, 1] rfl)
      replace hq := hq.2 c_8
      refine lv_aload_n hM.1 hM.2.1 dX7_lookForSpikes_46 rfl (lv_at hl 0 rfl) ?_
      refine lv_iload_n hM.1 hM.2.1 dX7_lookForSpikes_47 rfl (lv_at hl 1 rfl) ?_
      refine lv_iconst (v := (5 : Int32)) hM.1 hM.2.1 dX7_lookForSpikes_48 (by decide) ?_
      refine cVi (As := [.int y1, .int (5 : Int32)]) hM hK hX hA (met_X7_of l D ad cy S y1 (5 : Int32) hq) (kX7_of hM.2.2.2.2 ql_RX7_66 (Nat.le_of_ble_eq_true rfl) (Nat.le_of_ble_eq_true rfl)) (v15 hK hX m15) rfl hl.1 rfl (Nat.le_of_ble_eq_true rfl) dX7_lookForSpikes_49 ⟨Nat.zero_le _, Nat.zero_le _⟩ (fun S_9 r_10 hq H locs hX => ?_)
      refine lv_aload_n hM.1 hM.2.1 dX7_lookForSpikes_52 rfl (lv_at hl 0 rfl) ?_
      refine g15 hM hK hX m15 0 (by decide) qf_RX7_7 rfl dX7_lookForSpikes_53 ?_
      refine lv_iconst (v := (3 : Int32)) hM.1 hM.2.1 dX7_lookForSpikes_56 (by decide) ?_
      have c_11 := hq.1
      replace hq := hq.2
      refine r_iald hM hK hX m16 (a16 0 0) c_11 dX7_lookForSpikes_57 ?_
      refine lv_icmp_lt (tgt := 69) hM.1 hM.2.1 dX7_lookForSpikes_58 (by decide) (fun c_12 => ?_) (fun c_12 => ?_)
      · replace hq := hq.1 c_12
        exact J69 ih hk S_9 y1 hq _ _ _ hX (lv_sub hl [0, 1] rfl)
      replace hq := hq.2 c_12
      refine lv_aload_n hM.1 hM.2.1 dX7_lookForSpikes_61 rfl (lv_at hl 0 rfl) ?_
      refine lv_iload_n hM.1 hM.2.1 dX7_lookForSpikes_62 rfl (lv_at hl 1 rfl) ?_
      refine lv_bipush (v := (6 : Int32)) hM.1 hM.2.1 dX7_lookForSpikes_63 (by decide) ?_
      refine lv_iconst (v := (1 : Int32)) hM.1 hM.2.1 dX7_lookForSpikes_65 (by decide) ?_
      refine cVv (As := [.int y1, .int (6 : Int32), .int (1 : Int32)]) hM hK hX hA (met_X7_put l D ad cy S_9 y1 (6 : Int32) (1 : Int32) hq) (kX7_put hM.2.2.2.2 ql_RX7_94 (Nat.le_of_ble_eq_true rfl) (Nat.le_of_ble_eq_true rfl)) (v15 hK hX m15) rfl hl.1 rfl (Nat.le_of_ble_eq_true rfl) dX7_lookForSpikes_66 ⟨Nat.zero_le _, Nat.zero_le _⟩ (fun S_13 hq H locs hX => ?_)
      exact J69 ih hk S_13 y1 hq _ _ _ hX (lv_sub hl [0, 1] rfl)
  unfold vc_X7_lookForSpikes at hq
  refine lv_iconst (v := (0 : Int32)) hM.1 hM.2.1 dX7_lookForSpikes_0 (by decide) ?_
  refine lv_istore_n (lv' := [(1, .int (0 : Int32)), (0, .ref (ad 15 0 0))]) hM.1 hM.2.1 dX7_lookForSpikes_1 rfl hl (by decide) rfl (fun ls hl => ?_)
  obtain ⟨k0, hq⟩ := hq
  refine L2 (fun S_4 hq H locs ls hX hl => ?_) k0 S (0 : Int32) hq _ _ _ hX (lv_sub hl [1, 0] rfl)
  refine lv_iconst (v := (0 : Int32)) hM.1 hM.2.1 dX7_lookForSpikes_24 (by decide) ?_
  refine lv_istore_n (lv' := [(1, .int (0 : Int32)), (0, .ref (ad 15 0 0))]) hM.1 hM.2.1 dX7_lookForSpikes_25 rfl hl (by decide) rfl (fun ls hl => ?_)
  obtain ⟨k0, hq⟩ := hq
  refine L26 (fun S_14 hq H locs ls hX hl => ?_) k0 S_4 (0 : Int32) hq _ _ _ hX (lv_sub hl [1, 0] rfl)
  exact e_v hM hX hlocks hret hq dX7_lookForSpikes_75
