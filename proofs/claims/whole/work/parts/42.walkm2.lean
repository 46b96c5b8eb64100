def rmX7_execute : Room := { frames := 8, cells := 0, slots := 0, locals := 175 }
theorem kX7_execute {R : Room} {s : State} {args : Array Value} {own : String} {index : Nat} (ht : ∀ w ∈ lw_all, w.before args s = true) (hl : Cond.methodLink own index yX7_execute ∈ lw_all) (hf : rmX7_execute.frames + 1 ≤ R.frames) (hlo : 8 + (3 + 11) + rmX7_execute.locals ≤ R.locals) : CallW R s args own RX7 index yX7_execute cX7_execute 3 (some Jvm.ClassFile.FieldType.int) (wA yX7_execute cX7_execute 3 (some Jvm.ClassFile.FieldType.int)) rmX7_execute 0 0 0 := cwV 0 ht (good_V hl qm_yX7_execute qs_yX7_execute qi_RX7 qc_yX7_execute) rfl rfl rfl (by decide +kernel) ⟨hf, hlo⟩
set_option maxRecDepth 100000 in
set_option maxHeartbeats 4000000 in
theorem met_X7_execute (l : Launch) (D : va_G) (ad : Adr) (cy : Nat → ClassId) (S : Mem) {Q : Mem → Int32 → Prop} (hq : vc_X7_execute S Q) : Ci l yX7_execute (wA yX7_execute cX7_execute 3 (some Jvm.ClassFile.FieldType.int)) rmX7_execute D ad cy [.ref (ad 15 0 0)] S Q := by
  intro o sz
  refine mkC (own := RX7) (lv := [(0, .ref (ad 15 0 0))]) (by decide) rfl (Nat.le_of_ble_eq_true rfl) rfl ⟨rfl, rfl⟩ ?_
  intro p e s m below meth c ls hsz hM hlocks hret hK hA hX hl
  have L24 : ∀ {K : Mem → Int32 → Prop} (hk : ∀ (S : Mem) (y1 : Int32), K S y1 → ∀ (H : Heap) (locs : List Loc) (ls : Array Slot), PW D ad cy (AW ad sz) s.heap o S H locs → lv_has ls 3 [(0, .ref (ad 15 0 0)), (1, .int y1)] → Wi D ad cy o sz Q p l e rmX7_execute s m [.ref (ad 15 0 0)] below meth c H locs (F0 m 52 ls [])), ∀ (n : Nat) (S : Mem) (y1 : Int32), vc_X7_execute_L24 Q K n S y1 → ∀ (H : Heap) (locs : List Loc) (ls : Array Slot), PW D ad cy (AW ad sz) s.heap o S H locs → lv_has ls 3 [(0, .ref (ad 15 0 0)), (1, .int y1)] → Wi D ad cy o sz Q p l e rmX7_execute s m [.ref (ad 15 0 0)] below meth c H locs (F0 m 24 ls []) := by
    intro K hk n
    induction n with
    | zero =>
      intro S y1 hq
      rw [vc_X7_execute_L24] at hq
      exact hq.elim
    | succ n ih =>
      intro S y1 hq H locs ls hX hl
      rw [vc_X7_execute_L24] at hq
      refine lv_iload_n hM.1 hM.2.1 dX7_execute_24 rfl (lv_at hl 1 rfl) ?_
      refine lv_aload_n hM.1 hM.2.1 dX7_execute_25 rfl (lv_at hl 0 rfl) ?_
      refine g15 hM hK hX m15 13 (by decide) qf_RX7_161 rfl dX7_execute_26 ?_
      refine lv_icmp_ge (tgt := 52) hM.1 hM.2.1 dX7_execute_29 (by decide) (fun c_7 => ?_) (fun c_7 => ?_)
      · replace hq := hq.1 c_7
        exact hk S y1 hq _ _ _ hX (lv_sub hl [0, 1] rfl)
      replace hq := hq.2 c_7
      refine lv_aload_n hM.1 hM.2.1 dX7_execute_32 rfl (lv_at hl 0 rfl) ?_
      refine lv_iload_n hM.1 hM.2.1 dX7_execute_33 rfl (lv_at hl 1 rfl) ?_
      refine cVi (As := [.int y1]) hM hK hX hA (met_X7_canDo l D ad cy S y1 hq) (kX7_canDo hM.2.2.2.2 ql_RX7_183 (Nat.le_of_ble_eq_true rfl) (Nat.le_of_ble_eq_true rfl)) (v15 hK hX m15) rfl hl.1 rfl (Nat.le_of_ble_eq_true rfl) dX7_execute_34 ⟨Nat.zero_le _, Nat.zero_le _⟩ (fun S_8 r_9 hq H locs hX => ?_)
      refine lv_if_eq (tgt := 52) hM.1 hM.2.1 dX7_execute_37 (by decide) (fun c_10 => ?_) (fun c_10 => ?_)
      · replace hq := hq.1 c_10
        exact hk S_8 y1 hq _ _ _ hX (lv_sub hl [0, 1] rfl)
      replace hq := hq.2 c_10
      refine lv_aload_n hM.1 hM.2.1 dX7_execute_40 rfl (lv_at hl 0 rfl) ?_
      refine lv_iload_n hM.1 hM.2.1 dX7_execute_41 rfl (lv_at hl 1 rfl) ?_
      refine cVi (As := [.int y1]) hM hK hX hA (met_X7_doOrder l D ad cy S_8 y1 hq) (kX7_doOrder hM.2.2.2.2 ql_RX7_186 (Nat.le_of_ble_eq_true rfl) (Nat.le_of_ble_eq_true rfl)) (v15 hK hX m15) rfl hl.1 rfl (Nat.le_of_ble_eq_true rfl) dX7_execute_42 ⟨Nat.zero_le _, Nat.zero_le _⟩ (fun S_11 r_12 hq H locs hX => ?_)
      refine lv_istore_n (lv' := [(2, .int r_12), (0, .ref (ad 15 0 0)), (1, .int y1)]) hM.1 hM.2.1 dX7_execute_45 rfl hl (by decide) rfl (fun ls hl => ?_)
      refine lv_iinc (v := (y1 + (1 : Int32))) (lv' := [(1, .int (y1 + (1 : Int32))), (2, .int r_12), (0, .ref (ad 15 0 0))]) hM.1 hM.2.1 dX7_execute_46 hl (k := 2) rfl rfl (by decide) rfl (fun ls hl => ?_)
      refine lv_goto (tgt := 24) hM.1 hM.2.1 dX7_execute_49 (by decide) ?_
      exact ih S_11 (y1 + (1 : Int32)) hq _ _ _ hX (lv_sub hl [2, 0] rfl)
  unfold vc_X7_execute at hq
  refine lv_aload_n hM.1 hM.2.1 dX7_execute_0 rfl (lv_at hl 0 rfl) ?_
  refine lv_iconst (v := (0 : Int32)) hM.1 hM.2.1 dX7_execute_1 (by decide) ?_
  refine p15_6 hM hK hX m15 qf_RX7_48 dX7_execute_2 (fun S_1 e_2 H locs hX => ?_)
  replace hq := hq S_1 e_2
  refine lv_aload_n hM.1 hM.2.1 dX7_execute_5 rfl (lv_at hl 0 rfl) ?_
  refine cVi (As := []) hM hK hX hA (met_X7_isComplete l D ad cy S_1 hq) (kX7_isComplete hM.2.2.2.2 ql_RX7_180 (Nat.le_of_ble_eq_true rfl) (Nat.le_of_ble_eq_true rfl)) (v15 hK hX m15) rfl hl.1 rfl (Nat.le_of_ble_eq_true rfl) dX7_execute_6 ⟨Nat.zero_le _, Nat.zero_le _⟩ (fun S_3 r_4 hq H locs hX => ?_)
  refine lv_if_ne (tgt := 18) hM.1 hM.2.1 dX7_execute_9 (by decide) (fun c_5 => ?_) (fun c_5 => ?_)
  · replace hq := hq.1 c_5
    refine lv_aload_n hM.1 hM.2.1 dX7_execute_18 rfl (lv_at hl 0 rfl) ?_
    refine cVv (As := []) hM hK hX hA (met_X7_save l D ad cy S_3 hq) (kX7_save hM.2.2.2.2 ql_RX7_63 (Nat.le_of_ble_eq_true rfl) (Nat.le_of_ble_eq_true rfl)) (v15 hK hX m15) rfl hl.1 rfl (Nat.le_of_ble_eq_true rfl) dX7_execute_19 ⟨Nat.zero_le _, Nat.zero_le _⟩ (fun S_6 hq H locs hX => ?_)
    refine lv_iconst (v := (0 : Int32)) hM.1 hM.2.1 dX7_execute_22 (by decide) ?_
    refine lv_istore_n (lv' := [(1, .int (0 : Int32)), (0, .ref (ad 15 0 0))]) hM.1 hM.2.1 dX7_execute_23 rfl hl (by decide) rfl (fun ls hl => ?_)
    obtain ⟨k0, hq⟩ := hq
    refine L24 (fun S_13 y1_14 hq H locs ls hX hl => ?_) k0 S_6 (0 : Int32) hq _ _ _ hX (lv_sub hl [1, 0] rfl)
    refine lv_aload_n hM.1 hM.2.1 dX7_execute_52 rfl (lv_at hl 0 rfl) ?_
    refine lv_iconst (v := (0 : Int32)) hM.1 hM.2.1 dX7_execute_53 (by decide) ?_
    refine p15_11 hM hK hX m15 qf_RX7_148 dX7_execute_54 (fun S_15 e_16 H locs hX => ?_)
    replace hq := hq S_15 e_16
    refine lv_iload_n hM.1 hM.2.1 dX7_execute_57 rfl (lv_at hl 1 rfl) ?_
    exact e_i hM hX hlocks hret hq dX7_execute_58
  replace hq := hq.2 c_5
  refine lv_aload_n hM.1 hM.2.1 dX7_execute_12 rfl (lv_at hl 0 rfl) ?_
  refine lv_iconst (v := (1 : Int32)) hM.1 hM.2.1 dX7_execute_13 (by decide) ?_
  refine cVi (As := [.int (1 : Int32)]) hM hK hX hA (met_X7_fails l D ad cy S_3 (1 : Int32) hq) (kX7_fails hM.2.2.2.2 ql_RX7_59 (Nat.le_of_ble_eq_true rfl) (Nat.le_of_ble_eq_true rfl)) (v15 hK hX m15) rfl hl.1 rfl (Nat.le_of_ble_eq_true rfl) dX7_execute_14 ⟨Nat.zero_le _, Nat.zero_le _⟩ (fun S_17 r_18 hq H locs hX => ?_)
  exact e_i hM hX hlocks hret hq dX7_execute_17
def rmX7_ofThermometer : Room := { frames := 3, cells := 0, slots := 0, locals := 67 }
theorem kX7_ofThermometer {R : Room} {s : State} {args : Array Value} {own : String} {index : Nat} (ht : ∀ w ∈ lw_all, w.before args s = true) (hl : Cond.methodLink own index yX7_ofThermometer ∈ lw_all) (hf : rmX7_ofThermometer.frames + 1 ≤ R.frames) (hlo : 8 + (3 + 11) + rmX7_ofThermometer.locals ≤ R.locals) : CallW R s args own RX7 index yX7_ofThermometer cX7_ofThermometer 3 (some Jvm.ClassFile.FieldType.int) (wA yX7_ofThermometer cX7_ofThermometer 3 (some Jvm.ClassFile.FieldType.int)) rmX7_ofThermometer 0 0 2 := cwV 2 ht (good_V hl qm_yX7_ofThermometer qs_yX7_ofThermometer qi_RX7 qc_yX7_ofThermometer) rfl rfl rfl (by decide +kernel) ⟨hf, hlo⟩
set_option maxRecDepth 100000 in
set_option maxHeartbeats 4000000 in
theorem met_X7_ofThermometer (l : Launch) (D : va_G) (ad : Adr) (cy : Nat → ClassId) (S : Mem) (x1 : Int32) (x2 : Int32) {Q : Mem → Int32 → Prop} (hq : vc_X7_ofThermometer S x1 x2 Q) : Ci l yX7_ofThermometer (wA yX7_ofThermometer cX7_ofThermometer 3 (some Jvm.ClassFile.FieldType.int)) rmX7_ofThermometer D ad cy [.ref (ad 15 0 0), .int x1, .int x2] S Q := by
  intro o sz
  refine mkC (own := RX7) (lv := [(0, .ref (ad 15 0 0)), (1, .int x1), (2, .int x2)]) (by decide) rfl (Nat.le_of_ble_eq_true rfl) rfl ⟨rfl, rfl⟩ ?_
  intro p e s m below meth c ls hsz hM hlocks hret hK hA hX hl
  unfold vc_X7_ofThermometer at hq
  refine lv_aload_n hM.1 hM.2.1 dX7_ofThermometer_0 rfl (lv_at hl 0 rfl) ?_
  refine lv_iconst (v := (0 : Int32)) hM.1 hM.2.1 dX7_ofThermometer_1 (by decide) ?_
  refine p15_6 hM hK hX m15 qf_RX7_48 dX7_ofThermometer_2 (fun S_1 e_2 H locs hX => ?_)
  replace hq := hq S_1 e_2
  refine lv_aload_n hM.1 hM.2.1 dX7_ofThermometer_5 rfl (lv_at hl 0 rfl) ?_
  refine lv_iload_n hM.1 hM.2.1 dX7_ofThermometer_6 rfl (lv_at hl 1 rfl) ?_
  refine cVi (As := [.int x1]) hM hK hX hA (met_X7_is l D ad cy S_1 x1 hq) (kX7_is hM.2.2.2.2 ql_RX7_141 (Nat.le_of_ble_eq_true rfl) (Nat.le_of_ble_eq_true rfl)) (v15 hK hX m15) rfl hl.1 rfl (Nat.le_of_ble_eq_true rfl) dX7_ofThermometer_7 ⟨Nat.zero_le _, Nat.zero_le _⟩ (fun S_3 r_4 hq H locs hX => ?_)
  refine lv_if_ne (tgt := 19) hM.1 hM.2.1 dX7_ofThermometer_10 (by decide) (fun c_5 => ?_) (fun c_5 => ?_)
  · replace hq := hq.1 c_5
    refine lv_iload_n hM.1 hM.2.1 dX7_ofThermometer_19 rfl (lv_at hl 2 rfl) ?_
    refine lv_iconst (v := (0 : Int32)) hM.1 hM.2.1 dX7_ofThermometer_20 (by decide) ?_
    refine lv_bipush (v := (9 : Int32)) hM.1 hM.2.1 dX7_ofThermometer_21 (by decide) ?_
    refine cSi (As := [.int x2, .int (0 : Int32), .int (9 : Int32)]) hM hK hX hA (met_X7_in l D ad cy S_3 x2 (0 : Int32) (9 : Int32) hq) (kX7_in hM.2.2.2.2 ql_RX7_52 (Nat.le_of_ble_eq_true rfl) (Nat.le_of_ble_eq_true rfl)) rfl hl.1 rfl (Nat.le_of_ble_eq_true rfl) dX7_ofThermometer_23 ⟨Nat.zero_le _, Nat.zero_le _⟩ (fun S_6 r_7 hq H locs hX => ?_)
    refine lv_if_ne (tgt := 35) hM.1 hM.2.1 dX7_ofThermometer_26 (by decide) (fun c_8 => ?_) (fun c_8 => ?_)
    · replace hq := hq.1 c_8
      refine lv_iload_n hM.1 hM.2.1 dX7_ofThermometer_35 rfl (lv_at hl 2 rfl) ?_
      refine lv_bipush (v := (9 : Int32)) hM.1 hM.2.1 dX7_ofThermometer_36 (by decide) ?_
      refine lv_icmp_ne (tgt := 49) hM.1 hM.2.1 dX7_ofThermometer_38 (by decide) (fun c_9 => ?_) (fun c_9 => ?_)
      · replace hq := hq.1 c_9
        refine lv_aload_n hM.1 hM.2.1 dX7_ofThermometer_49 rfl (lv_at hl 0 rfl) ?_
        refine lv_iload_n hM.1 hM.2.1 dX7_ofThermometer_50 rfl (lv_at hl 1 rfl) ?_
        refine lv_iload_n hM.1 hM.2.1 dX7_ofThermometer_51 rfl (lv_at hl 2 rfl) ?_
        refine cVi (As := [.int x1, .int x2]) hM hK hX hA (met_X7_of l D ad cy S_6 x1 x2 hq) (kX7_of hM.2.2.2.2 ql_RX7_66 (Nat.le_of_ble_eq_true rfl) (Nat.le_of_ble_eq_true rfl)) (v15 hK hX m15) rfl hl.1 rfl (Nat.le_of_ble_eq_true rfl) dX7_ofThermometer_52 ⟨Nat.zero_le _, Nat.zero_le _⟩ (fun S_10 r_11 hq H locs hX => ?_)
        exact e_i hM hX hlocks hret hq dX7_ofThermometer_55
      replace hq := hq.2 c_9
      refine lv_aload_n hM.1 hM.2.1 dX7_ofThermometer_41 rfl (lv_at hl 0 rfl) ?_
      refine lv_iload_n hM.1 hM.2.1 dX7_ofThermometer_42 rfl (lv_at hl 1 rfl) ?_
      refine cVi (As := [.int x1]) hM hK hX hA (met_X7_mended l D ad cy S_6 x1 hq) (kX7_mended hM.2.2.2.2 ql_RX7_80 (Nat.le_of_ble_eq_true rfl) (Nat.le_of_ble_eq_true rfl)) (v15 hK hX m15) rfl hl.1 rfl (Nat.le_of_ble_eq_true rfl) dX7_ofThermometer_43 ⟨Nat.zero_le _, Nat.zero_le _⟩ (fun S_12 r_13 hq H locs hX => ?_)
      refine lv_goto (tgt := 55) hM.1 hM.2.1 dX7_ofThermometer_46 (by decide) ?_
      exact e_i hM hX hlocks hret hq dX7_ofThermometer_55
    replace hq := hq.2 c_8
    refine lv_aload_n hM.1 hM.2.1 dX7_ofThermometer_29 rfl (lv_at hl 0 rfl) ?_
    refine lv_iconst (v := (2 : Int32)) hM.1 hM.2.1 dX7_ofThermometer_30 (by decide) ?_
    refine cVi (As := [.int (2 : Int32)]) hM hK hX hA (met_X7_fails l D ad cy S_6 (2 : Int32) hq) (kX7_fails hM.2.2.2.2 ql_RX7_59 (Nat.le_of_ble_eq_true rfl) (Nat.le_of_ble_eq_true rfl)) (v15 hK hX m15) rfl hl.1 rfl (Nat.le_of_ble_eq_true rfl) dX7_ofThermometer_31 ⟨Nat.zero_le _, Nat.zero_le _⟩ (fun S_14 r_15 hq H locs hX => ?_)
    exact e_i hM hX hlocks hret hq dX7_ofThermometer_34
  replace hq := hq.2 c_5
  refine lv_aload_n hM.1 hM.2.1 dX7_ofThermometer_13 rfl (lv_at hl 0 rfl) ?_
  refine lv_iconst (v := (1 : Int32)) hM.1 hM.2.1 dX7_ofThermometer_14 (by decide) ?_
  refine cVi (As := [.int (1 : Int32)]) hM hK hX hA (met_X7_fails l D ad cy S_3 (1 : Int32) hq) (kX7_fails hM.2.2.2.2 ql_RX7_59 (Nat.le_of_ble_eq_true rfl) (Nat.le_of_ble_eq_true rfl)) (v15 hK hX m15) rfl hl.1 rfl (Nat.le_of_ble_eq_true rfl) dX7_ofThermometer_15 ⟨Nat.zero_le _, Nat.zero_le _⟩ (fun S_16 r_17 hq H locs hX => ?_)
  exact e_i hM hX hlocks hret hq dX7_ofThermometer_18
def rmX7_reading : Room := { frames := 2, cells := 0, slots := 0, locals := 43 }
theorem kX7_reading {R : Room} {s : State} {args : Array Value} {own : String} {index : Nat} (ht : ∀ w ∈ lw_all, w.before args s = true) (hl : Cond.methodLink own index yX7_reading ∈ lw_all) (hf : rmX7_reading.frames + 1 ≤ R.frames) (hlo : 8 + (4 + 11) + rmX7_reading.locals ≤ R.locals) : CallW R s args own RX7 index yX7_reading cX7_reading 4 (some Jvm.ClassFile.FieldType.int) (wA yX7_reading cX7_reading 4 (some Jvm.ClassFile.FieldType.int)) rmX7_reading 0 0 3 := cwV 3 ht (good_V hl qm_yX7_reading qs_yX7_reading qi_RX7 qc_yX7_reading) rfl rfl rfl (by decide +kernel) ⟨hf, hlo⟩
set_option maxRecDepth 100000 in
set_option maxHeartbeats 4000000 in
theorem met_X7_reading (l : Launch) (D : va_G) (ad : Adr) (cy : Nat → ClassId) (S : Mem) (x1 : Int32) (x2 : Int32) (x3 : Int32) {Q : Mem → Int32 → Prop} (hq : vc_X7_reading S x1 x2 x3 Q) : Ci l yX7_reading (wA yX7_reading cX7_reading 4 (some Jvm.ClassFile.FieldType.int)) rmX7_reading D ad cy [.ref (ad 15 0 0), .int x1, .int x2, .int x3] S Q := by
  intro o sz
  refine mkC (own := RX7) (lv := [(0, .ref (ad 15 0 0)), (1, .int x1), (2, .int x2), (3, .int x3)]) (by decide) rfl (Nat.le_of_ble_eq_true rfl) rfl ⟨rfl, rfl⟩ ?_
  intro p e s m below meth c ls hsz hM hlocks hret hK hA hX hl
  unfold vc_X7_reading at hq
  refine lv_aload_n hM.1 hM.2.1 dX7_reading_0 rfl (lv_at hl 0 rfl) ?_
  refine lv_iconst (v := (0 : Int32)) hM.1 hM.2.1 dX7_reading_1 (by decide) ?_
  refine p15_6 hM hK hX m15 qf_RX7_48 dX7_reading_2 (fun S_1 e_2 H locs hX => ?_)
  replace hq := hq S_1 e_2
  refine lv_aload_n hM.1 hM.2.1 dX7_reading_5 rfl (lv_at hl 0 rfl) ?_
  refine lv_iload_n hM.1 hM.2.1 dX7_reading_6 rfl (lv_at hl 1 rfl) ?_
  refine cVi (As := [.int x1]) hM hK hX hA (met_X7_is l D ad cy S_1 x1 hq) (kX7_is hM.2.2.2.2 ql_RX7_141 (Nat.le_of_ble_eq_true rfl) (Nat.le_of_ble_eq_true rfl)) (v15 hK hX m15) rfl hl.1 rfl (Nat.le_of_ble_eq_true rfl) dX7_reading_7 ⟨Nat.zero_le _, Nat.zero_le _⟩ (fun S_3 r_4 hq H locs hX => ?_)
  refine lv_if_ne (tgt := 19) hM.1 hM.2.1 dX7_reading_10 (by decide) (fun c_5 => ?_) (fun c_5 => ?_)
  · replace hq := hq.1 c_5
    refine lv_iload_n hM.1 hM.2.1 dX7_reading_19 rfl (lv_at hl 2 rfl) ?_
    refine lv_if_lt (tgt := 32) hM.1 hM.2.1 dX7_reading_20 (by decide) (fun c_6 => ?_) (fun c_6 => ?_)
    · replace hq := hq.1 c_6
      refine lv_aload_n hM.1 hM.2.1 dX7_reading_32 rfl (lv_at hl 0 rfl) ?_
      refine lv_iconst (v := (2 : Int32)) hM.1 hM.2.1 dX7_reading_33 (by decide) ?_
      refine cVi (As := [.int (2 : Int32)]) hM hK hX hA (met_X7_fails l D ad cy S_3 (2 : Int32) hq) (kX7_fails hM.2.2.2.2 ql_RX7_59 (Nat.le_of_ble_eq_true rfl) (Nat.le_of_ble_eq_true rfl)) (v15 hK hX m15) rfl hl.1 rfl (Nat.le_of_ble_eq_true rfl) dX7_reading_34 ⟨Nat.zero_le _, Nat.zero_le _⟩ (fun S_7 r_8 hq H locs hX => ?_)
      exact e_i hM hX hlocks hret hq dX7_reading_37
    replace hq := hq.2 c_6
    refine lv_iload_n hM.1 hM.2.1 dX7_reading_23 rfl (lv_at hl 3 rfl) ?_
    refine lv_iconst (v := (0 : Int32)) hM.1 hM.2.1 dX7_reading_24 (by decide) ?_
    refine lv_iconst (v := (1 : Int32)) hM.1 hM.2.1 dX7_reading_25 (by decide) ?_
    refine cSi (As := [.int x3, .int (0 : Int32), .int (1 : Int32)]) hM hK hX hA (met_X7_in l D ad cy S_3 x3 (0 : Int32) (1 : Int32) hq) (kX7_in hM.2.2.2.2 ql_RX7_52 (Nat.le_of_ble_eq_true rfl) (Nat.le_of_ble_eq_true rfl)) rfl hl.1 rfl (Nat.le_of_ble_eq_true rfl) dX7_reading_26 ⟨Nat.zero_le _, Nat.zero_le _⟩ (fun S_9 r_10 hq H locs hX => ?_)
    refine lv_if_ne (tgt := 38) hM.1 hM.2.1 dX7_reading_29 (by decide) (fun c_11 => ?_) (fun c_11 => ?_)
    · replace hq := hq.1 c_11
      refine lv_iload_n hM.1 hM.2.1 dX7_reading_38 rfl (lv_at hl 2 rfl) ?_
      refine lv_aload_n hM.1 hM.2.1 dX7_reading_39 rfl (lv_at hl 0 rfl) ?_
      refine lv_iload_n hM.1 hM.2.1 dX7_reading_40 rfl (lv_at hl 1 rfl) ?_
      refine lv_bipush (v := (7 : Int32)) hM.1 hM.2.1 dX7_reading_41 (by decide) ?_
      refine cVi (As := [.int x1, .int (7 : Int32)]) hM hK hX hA (met_X7_of l D ad cy S_9 x1 (7 : Int32) hq) (kX7_of hM.2.2.2.2 ql_RX7_66 (Nat.le_of_ble_eq_true rfl) (Nat.le_of_ble_eq_true rfl)) (v15 hK hX m15) rfl hl.1 rfl (Nat.le_of_ble_eq_true rfl) dX7_reading_43 ⟨Nat.zero_le _, Nat.zero_le _⟩ (fun S_12 r_13 hq H locs hX => ?_)
      refine lv_icmp_ge (tgt := 65) hM.1 hM.2.1 dX7_reading_46 (by decide) (fun c_14 => ?_) (fun c_14 => ?_)
      · replace hq := hq.1 c_14
        refine lv_ldc hM.1 hM.2.1 hM.2.2.2.1 (hM.2.2.2.2 _ qn_RX7_47) dX7_reading_65 ?_
        exact e_i hM hX hlocks hret hq dX7_reading_67
      replace hq := hq.2 c_14
      refine lv_aload_n hM.1 hM.2.1 dX7_reading_49 rfl (lv_at hl 0 rfl) ?_
      refine lv_iload_n hM.1 hM.2.1 dX7_reading_50 rfl (lv_at hl 1 rfl) ?_
      refine lv_bipush (v := (9 : Int32)) hM.1 hM.2.1 dX7_reading_51 (by decide) ?_
      refine lv_iconst (v := (2 : Int32)) hM.1 hM.2.1 dX7_reading_53 (by decide) ?_
      refine lv_iload_n hM.1 hM.2.1 dX7_reading_54 rfl (lv_at hl 2 rfl) ?_
      refine lv_imul hM.1 hM.2.1 dX7_reading_55 ?_
      refine lv_iadd hM.1 hM.2.1 dX7_reading_56 ?_
      refine lv_iload_n hM.1 hM.2.1 dX7_reading_57 rfl (lv_at hl 3 rfl) ?_
      refine lv_iadd hM.1 hM.2.1 dX7_reading_58 ?_
      refine cVi (As := [.int x1, .int (((9 : Int32) + ((2 : Int32) * x2)) + x3)]) hM hK hX hA (met_X7_of l D ad cy S_12 x1 (((9 : Int32) + ((2 : Int32) * x2)) + x3) hq) (kX7_of hM.2.2.2.2 ql_RX7_66 (Nat.le_of_ble_eq_true rfl) (Nat.le_of_ble_eq_true rfl)) (v15 hK hX m15) rfl hl.1 rfl (Nat.le_of_ble_eq_true rfl) dX7_reading_59 ⟨Nat.zero_le _, Nat.zero_le _⟩ (fun S_15 r_16 hq H locs hX => ?_)
      refine lv_goto (tgt := 67) hM.1 hM.2.1 dX7_reading_62 (by decide) ?_
      exact e_i hM hX hlocks hret hq dX7_reading_67
    replace hq := hq.2 c_11
    refine lv_aload_n hM.1 hM.2.1 dX7_reading_32 rfl (lv_at hl 0 rfl) ?_
    refine lv_iconst (v := (2 : Int32)) hM.1 hM.2.1 dX7_reading_33 (by decide) ?_
    refine cVi (As := [.int (2 : Int32)]) hM hK hX hA (met_X7_fails l D ad cy S_9 (2 : Int32) hq) (kX7_fails hM.2.2.2.2 ql_RX7_59 (Nat.le_of_ble_eq_true rfl) (Nat.le_of_ble_eq_true rfl)) (v15 hK hX m15) rfl hl.1 rfl (Nat.le_of_ble_eq_true rfl) dX7_reading_34 ⟨Nat.zero_le _, Nat.zero_le _⟩ (fun S_17 r_18 hq H locs hX => ?_)
    exact e_i hM hX hlocks hret hq dX7_reading_37
  replace hq := hq.2 c_5
  refine lv_aload_n hM.1 hM.2.1 dX7_reading_13 rfl (lv_at hl 0 rfl) ?_
  refine lv_iconst (v := (1 : Int32)) hM.1 hM.2.1 dX7_reading_14 (by decide) ?_
  refine cVi (As := [.int (1 : Int32)]) hM hK hX hA (met_X7_fails l D ad cy S_3 (1 : Int32) hq) (kX7_fails hM.2.2.2.2 ql_RX7_59 (Nat.le_of_ble_eq_true rfl) (Nat.le_of_ble_eq_true rfl)) (v15 hK hX m15) rfl hl.1 rfl (Nat.le_of_ble_eq_true rfl) dX7_reading_15 ⟨Nat.zero_le _, Nat.zero_le _⟩ (fun S_19 r_20 hq H locs hX => ?_)
  exact e_i hM hX hlocks hret hq dX7_reading_18
def rmX7_inRow : Room := { frames := 1, cells := 0, slots := 0, locals := 22 }
theorem kX7_inRow {R : Room} {s : State} {args : Array Value} {own : String} {index : Nat} (ht : ∀ w ∈ lw_all, w.before args s = true) (hl : Cond.methodLink own index yX7_inRow ∈ lw_all) (hf : rmX7_inRow.frames + 1 ≤ R.frames) (hlo : 8 + (4 + 11) + rmX7_inRow.locals ≤ R.locals) : CallW R s args own RX7 index yX7_inRow cX7_inRow 4 (some Jvm.ClassFile.FieldType.int) (wA yX7_inRow cX7_inRow 4 (some Jvm.ClassFile.FieldType.int)) rmX7_inRow 0 0 1 := cwV 1 ht (good_V hl qm_yX7_inRow qs_yX7_inRow qi_RX7 qc_yX7_inRow) rfl rfl rfl (by decide +kernel) ⟨hf, hlo⟩
set_option maxRecDepth 100000 in
set_option maxHeartbeats 4000000 in
theorem met_X7_inRow (l : Launch) (D : va_G) (ad : Adr) (cy : Nat → ClassId) (S : Mem) (x1 : Int32) {Q : Mem → Int32 → Prop} (hq : vc_X7_inRow S x1 Q) : Ci l yX7_inRow (wA yX7_inRow cX7_inRow 4 (some Jvm.ClassFile.FieldType.int)) rmX7_inRow D ad cy [.ref (ad 15 0 0), .int x1] S Q := by
  intro o sz
  refine mkC (own := RX7) (lv := [(0, .ref (ad 15 0 0)), (1, .int x1)]) (by decide) rfl (Nat.le_of_ble_eq_true rfl) rfl ⟨rfl, rfl⟩ ?_
  intro p e s m below meth c ls hsz hM hlocks hret hK hA hX hl
  have J31 : ∀ {K0 : Mem → Int32 → Int32 → Prop} (hk0 : ∀ (S : Mem) (y2 : Int32) (y3 : Int32), K0 S y2 y3 → ∀ (H : Heap) (locs : List Loc) (ls : Array Slot), PW D ad cy (AW ad sz) s.heap o S H locs → lv_has ls 4 [(0, .ref (ad 15 0 0)), (1, .int x1), (2, .int y2), (3, .int y3)] → Wi D ad cy o sz Q p l e rmX7_inRow s m [.ref (ad 15 0 0), .int x1] below meth c H locs (F0 m 4 ls [])), ∀ {K1 : Mem → Int32 → Prop} (hk1 : ∀ (S : Mem) (y2 : Int32), K1 S y2 → ∀ (H : Heap) (locs : List Loc) (ls : Array Slot), PW D ad cy (AW ad sz) s.heap o S H locs → lv_has ls 4 [(2, .int y2)] → Wi D ad cy o sz Q p l e rmX7_inRow s m [.ref (ad 15 0 0), .int x1] below meth c H locs (F0 m 39 ls [])), ∀ (S : Mem) (y3 : Int32) (w0 : Int32) (w1 : Int32), vc_X7_inRow_J31 Q K0 K1 x1 S y3 w0 w1 → ∀ (H : Heap) (locs : List Loc) (ls : Array Slot), PW D ad cy (AW ad sz) s.heap o S H locs → lv_has ls 4 [(0, .ref (ad 15 0 0)), (1, .int x1), (3, .int y3)] → Wi D ad cy o sz Q p l e rmX7_inRow s m [.ref (ad 15 0 0), .int x1] below meth c H locs (F0 m 31 ls [.int w1, .int w0]) := by
    intro K0 hk0 K1 hk1 S y3 w0 w1 hq H locs ls hX hl
    unfold vc_X7_inRow_J31 at hq
    refine lv_iadd hM.1 hM.2.1 dX7_inRow_31 ?_
    refine lv_istore_n (lv' := [(2, .int (w0 + w1)), (0, .ref (ad 15 0 0)), (1, .int x1), (3, .int y3)]) hM.1 hM.2.1 dX7_inRow_32 rfl hl (by decide) rfl (fun ls hl => ?_)
    refine lv_iinc (v := (y3 + (1 : Int32))) (lv' := [(3, .int (y3 + (1 : Int32))), (2, .int (w0 + w1)), (0, .ref (ad 15 0 0)), (1, .int x1)]) hM.1 hM.2.1 dX7_inRow_33 hl (k := 3) rfl rfl (by decide) rfl (fun ls hl => ?_)
    refine lv_goto (tgt := 4) hM.1 hM.2.1 dX7_inRow_36 (by decide) ?_
    exact hk0 S (w0 + w1) (y3 + (1 : Int32)) hq _ _ _ hX (lv_sub hl [2, 3, 1, 0] rfl)
  have L4 : ∀ {K : Mem → Int32 → Prop} (hk : ∀ (S : Mem) (y2 : Int32), K S y2 → ∀ (H : Heap) (locs : List Loc) (ls : Array Slot), PW D ad cy (AW ad sz) s.heap o S H locs → lv_has ls 4 [(2, .int y2)] → Wi D ad cy o sz Q p l e rmX7_inRow s m [.ref (ad 15 0 0), .int x1] below meth c H locs (F0 m 39 ls [])), ∀ (n : Nat) (S : Mem) (y2 : Int32) (y3 : Int32), vc_X7_inRow_L4 Q K x1 n S y2 y3 → ∀ (H : Heap) (locs : List Loc) (ls : Array Slot), PW D ad cy (AW ad sz) s.heap o S H locs → lv_has ls 4 [(0, .ref (ad 15 0 0)), (1, .int x1), (2, .int y2), (3, .int y3)] → Wi D ad cy o sz Q p l e rmX7_inRow s m [.ref (ad 15 0 0), .int x1] below meth c H locs (F0 m 4 ls []) := by
    intro K hk n
    induction n with
    | zero =>
      intro S y2 y3 hq
      rw [vc_X7_inRow_L4] at hq
      exact hq.elim
    | succ n ih =>
      intro S y2 y3 hq H locs ls hX hl
      rw [vc_X7_inRow_L4] at hq
      refine lv_iload_n hM.1 hM.2.1 dX7_inRow_4 rfl (lv_at hl 3 rfl) ?_
      refine lv_aload_n hM.1 hM.2.1 dX7_inRow_5 rfl (lv_at hl 0 rfl) ?_
      refine g15 hM hK hX m15 0 (by decide) qf_RX7_7 rfl dX7_inRow_6 ?_
      refine lv_bipush (v := (15 : Int32)) hM.1 hM.2.1 dX7_inRow_9 (by decide) ?_
      have c_1 := hq.1
      replace hq := hq.2
      refine r_iald hM hK hX m16 (a16 0 0) c_1 dX7_inRow_11 ?_
      refine lv_icmp_ge (tgt := 39) hM.1 hM.2.1 dX7_inRow_12 (by decide) (fun c_2 => ?_) (fun c_2 => ?_)
      · replace hq := hq.1 c_2
        exact hk S y2 hq _ _ _ hX (lv_sub hl [2] rfl)
      replace hq := hq.2 c_2
      refine lv_iload_n hM.1 hM.2.1 dX7_inRow_15 rfl (lv_at hl 2 rfl) ?_
      refine lv_aload_n hM.1 hM.2.1 dX7_inRow_16 rfl (lv_at hl 0 rfl) ?_
      refine lv_iload_n hM.1 hM.2.1 dX7_inRow_17 rfl (lv_at hl 3 rfl) ?_
      refine lv_iconst (v := (0 : Int32)) hM.1 hM.2.1 dX7_inRow_18 (by decide) ?_
      refine cVi (As := [.int y3, .int (0 : Int32)]) hM hK hX hA (met_X7_of l D ad cy S y3 (0 : Int32) hq) (kX7_of hM.2.2.2.2 ql_RX7_66 (Nat.le_of_ble_eq_true rfl) (Nat.le_of_ble_eq_true rfl)) (v15 hK hX m15) rfl hl.1 rfl (Nat.le_of_ble_eq_true rfl) dX7_inRow_19 ⟨Nat.zero_le _, Nat.zero_le _⟩ (fun S_3 r_4 hq H locs hX => ?_)
      refine lv_iload_n hM.1 hM.2.1 dX7_inRow_22 rfl (lv_at hl 1 rfl) ?_
      refine lv_icmp_ne (tgt := 30) hM.1 hM.2.1 dX7_inRow_23 (by decide) (fun c_5 => ?_) (fun c_5 => ?_)
      · replace hq := hq.1 c_5
        refine lv_iconst (v := (0 : Int32)) hM.1 hM.2.1 dX7_inRow_30 (by decide) ?_
        exact J31 ih hk S_3 y3 y2 (0 : Int32) hq _ _ _ hX (lv_sub hl [0, 1, 3] rfl)
      replace hq := hq.2 c_5
      refine lv_iconst (v := (1 : Int32)) hM.1 hM.2.1 dX7_inRow_26 (by decide) ?_
      refine lv_goto (tgt := 31) hM.1 hM.2.1 dX7_inRow_27 (by decide) ?_
      exact J31 ih hk S_3 y3 y2 (1 : Int32) hq _ _ _ hX (lv_sub hl [0, 1, 3] rfl)
  unfold vc_X7_inRow at hq
  refine lv_iconst (v := (0 : Int32)) hM.1 hM.2.1 dX7_inRow_0 (by decide) ?_
  refine lv_istore_n (lv' := [(2, .int (0 : Int32)), (0, .ref (ad 15 0 0)), (1, .int x1)]) hM.1 hM.2.1 dX7_inRow_1 rfl hl (by decide) rfl (fun ls hl => ?_)
  refine lv_iconst (v := (0 : Int32)) hM.1 hM.2.1 dX7_inRow_2 (by decide) ?_
  refine lv_istore_n (lv' := [(3, .int (0 : Int32)), (2, .int (0 : Int32)), (0, .ref (ad 15 0 0)), (1, .int x1)]) hM.1 hM.2.1 dX7_inRow_3 rfl hl (by decide) rfl (fun ls hl => ?_)
  obtain ⟨k0, hq⟩ := hq
  refine L4 (fun S_6 y2_7 hq H locs ls hX hl => ?_) k0 S (0 : Int32) (0 : Int32) hq _ _ _ hX (lv_sub hl [2, 3, 1, 0] rfl)
  refine lv_iload_n hM.1 hM.2.1 dX7_inRow_39 rfl (lv_at hl 0 rfl) ?_
  exact e_i hM hX hlocks hret hq dX7_inRow_40
def rmX7_ofRow : Room := { frames := 2, cells := 0, slots := 0, locals := 45 }
theorem kX7_ofRow {R : Room} {s : State} {args : Array Value} {own : String} {index : Nat} (ht : ∀ w ∈ lw_all, w.before args s = true) (hl : Cond.methodLink own index yX7_ofRow ∈ lw_all) (hf : rmX7_ofRow.frames + 1 ≤ R.frames) (hlo : 8 + (4 + 11) + rmX7_ofRow.locals ≤ R.locals) : CallW R s args own RX7 index yX7_ofRow cX7_ofRow 4 (some Jvm.ClassFile.FieldType.int) (wA yX7_ofRow cX7_ofRow 4 (some Jvm.ClassFile.FieldType.int)) rmX7_ofRow 0 0 2 := cwV 2 ht (good_V hl qm_yX7_ofRow qs_yX7_ofRow qi_RX7 qc_yX7_ofRow) rfl rfl rfl (by decide +kernel) ⟨hf, hlo⟩
set_option maxRecDepth 100000 in
set_option maxHeartbeats 4000000 in
theorem met_X7_ofRow (l : Launch) (D : va_G) (ad : Adr) (cy : Nat → ClassId) (S : Mem) (x1 : Int32) (x2 : Int32) {Q : Mem → Int32 → Prop} (hq : vc_X7_ofRow S x1 x2 Q) : Ci l yX7_ofRow (wA yX7_ofRow cX7_ofRow 4 (some Jvm.ClassFile.FieldType.int)) rmX7_ofRow D ad cy [.ref (ad 15 0 0), .int x1, .int x2] S Q := by
  intro o sz
  refine mkC (own := RX7) (lv := [(0, .ref (ad 15 0 0)), (1, .int x1), (2, .int x2)]) (by decide) rfl (Nat.le_of_ble_eq_true rfl) rfl ⟨rfl, rfl⟩ ?_
  intro p e s m below meth c ls hsz hM hlocks hret hK hA hX hl
  unfold vc_X7_ofRow at hq
  refine lv_aload_n hM.1 hM.2.1 dX7_ofRow_0 rfl (lv_at hl 0 rfl) ?_
  refine g15 hM hK hX m15 0 (by decide) qf_RX7_7 rfl dX7_ofRow_1 ?_
  refine lv_iconst (v := (4 : Int32)) hM.1 hM.2.1 dX7_ofRow_4 (by decide) ?_
  refine lv_iload_n hM.1 hM.2.1 dX7_ofRow_5 rfl (lv_at hl 1 rfl) ?_
  refine lv_iadd hM.1 hM.2.1 dX7_ofRow_6 ?_
  have c_1 := hq.1
  replace hq := hq.2
  refine r_iald hM hK hX m16 (a16 0 0) c_1 dX7_ofRow_7 ?_
  refine lv_istore_n (lv' := [(3, .int (S 16 0 0 ((4 : Int32) + x1).toNatClampNeg)), (0, .ref (ad 15 0 0)), (1, .int x1), (2, .int x2)]) hM.1 hM.2.1 dX7_ofRow_8 rfl hl (by decide) rfl (fun ls hl => ?_)
  refine lv_iload_n hM.1 hM.2.1 dX7_ofRow_9 rfl (lv_at hl 3 rfl) ?_
  refine lv_if_ne (tgt := 17) hM.1 hM.2.1 dX7_ofRow_10 (by decide) (fun c_2 => ?_) (fun c_2 => ?_)
  · replace hq := hq.1 c_2
    refine lv_iload_n hM.1 hM.2.1 dX7_ofRow_17 rfl (lv_at hl 3 rfl) ?_
    refine lv_iconst (v := (1 : Int32)) hM.1 hM.2.1 dX7_ofRow_18 (by decide) ?_
    refine lv_icmp_ne (tgt := 30) hM.1 hM.2.1 dX7_ofRow_19 (by decide) (fun c_3 => ?_) (fun c_3 => ?_)
    · replace hq := hq.1 c_3
      refine lv_iload_n hM.1 hM.2.1 dX7_ofRow_30 rfl (lv_at hl 3 rfl) ?_
      refine lv_iconst (v := (2 : Int32)) hM.1 hM.2.1 dX7_ofRow_31 (by decide) ?_
      refine lv_icmp_ne (tgt := 48) hM.1 hM.2.1 dX7_ofRow_32 (by decide) (fun c_4 => ?_) (fun c_4 => ?_)
      · replace hq := hq.1 c_4
        refine lv_aload_n hM.1 hM.2.1 dX7_ofRow_48 rfl (lv_at hl 1 rfl) ?_
        refine g15 hM hK hX m15 0 (by decide) qf_RX7_7 rfl dX7_ofRow_49 ?_
        refine lv_bipush (v := (8 : Int32)) hM.1 hM.2.1 dX7_ofRow_52 (by decide) ?_
        refine lv_iload_n hM.1 hM.2.1 dX7_ofRow_54 rfl (lv_at hl 2 rfl) ?_
        refine lv_iadd hM.1 hM.2.1 dX7_ofRow_55 ?_
        have c_5 := hq.1
        replace hq := hq.2
        refine r_iald hM hK hX m16 (a16 0 0) c_5 dX7_ofRow_56 ?_
        exact e_i hM hX hlocks hret hq dX7_ofRow_57
      replace hq := hq.2 c_4
      refine lv_iload_n hM.1 hM.2.1 dX7_ofRow_35 rfl (lv_at hl 0 rfl) ?_
      refine lv_aload_n hM.1 hM.2.1 dX7_ofRow_36 rfl (lv_at hl 1 rfl) ?_
      refine g15 hM hK hX m15 0 (by decide) qf_RX7_7 rfl dX7_ofRow_37 ?_
      refine lv_iconst (v := (0 : Int32)) hM.1 hM.2.1 dX7_ofRow_40 (by decide) ?_
      have c_6 := hq.1
      replace hq := hq.2
      refine r_iald hM hK hX m16 (a16 0 0) c_6 dX7_ofRow_41 ?_
      refine lv_iload_n hM.1 hM.2.1 dX7_ofRow_42 rfl (lv_at hl 0 rfl) ?_
      have c_7 := hq.1
      replace hq := hq.2
      refine lv_irem hM.1 hM.2.1 dX7_ofRow_43 c_7 ?_
      refine lv_isub hM.1 hM.2.1 dX7_ofRow_44 ?_
      refine lv_goto (tgt := 57) hM.1 hM.2.1 dX7_ofRow_45 (by decide) ?_
      exact e_i hM hX hlocks hret hq dX7_ofRow_57
    replace hq := hq.2 c_3
    refine lv_aload_n hM.1 hM.2.1 dX7_ofRow_22 rfl (lv_at hl 1 rfl) ?_
    refine lv_iload_n hM.1 hM.2.1 dX7_ofRow_23 rfl (lv_at hl 2 rfl) ?_
    refine cVi (As := [.int x1]) hM hK hX hA (met_X7_inRow l D ad cy S x1 hq) (kX7_inRow hM.2.2.2.2 ql_RX7_189 (Nat.le_of_ble_eq_true rfl) (Nat.le_of_ble_eq_true rfl)) (v15 hK hX m15) rfl hl.1 rfl (Nat.le_of_ble_eq_true rfl) dX7_ofRow_24 ⟨Nat.zero_le _, Nat.zero_le _⟩ (fun S_8 r_9 hq H locs hX => ?_)
    refine lv_goto (tgt := 57) hM.1 hM.2.1 dX7_ofRow_27 (by decide) ?_
    exact e_i hM hX hlocks hret hq dX7_ofRow_57
  replace hq := hq.2 c_2
  refine lv_iload_n hM.1 hM.2.1 dX7_ofRow_13 rfl (lv_at hl 0 rfl) ?_
  refine lv_goto (tgt := 57) hM.1 hM.2.1 dX7_ofRow_14 (by decide) ?_
  exact e_i hM hX hlocks hret hq dX7_ofRow_57
def rmX7_row : Room := { frames := 3, cells := 0, slots := 0, locals := 68 }
theorem kX7_row {R : Room} {s : State} {args : Array Value} {own : String} {index : Nat} (ht : ∀ w ∈ lw_all, w.before args s = true) (hl : Cond.methodLink own index yX7_row ∈ lw_all) (hf : rmX7_row.frames + 1 ≤ R.frames) (hlo : 8 + (3 + 11) + rmX7_row.locals ≤ R.locals) : CallW R s args own RX7 index yX7_row cX7_row 3 (some Jvm.ClassFile.FieldType.int) (wA yX7_row cX7_row 3 (some Jvm.ClassFile.FieldType.int)) rmX7_row 0 0 2 := cwV 2 ht (good_V hl qm_yX7_row qs_yX7_row qi_RX7 qc_yX7_row) rfl rfl rfl (by decide +kernel) ⟨hf, hlo⟩
set_option maxRecDepth 100000 in
set_option maxHeartbeats 4000000 in
theorem met_X7_row (l : Launch) (D : va_G) (ad : Adr) (cy : Nat → ClassId) (S : Mem) (x1 : Int32) (x2 : Int32) {Q : Mem → Int32 → Prop} (hq : vc_X7_row S x1 x2 Q) : Ci l yX7_row (wA yX7_row cX7_row 3 (some Jvm.ClassFile.FieldType.int)) rmX7_row D ad cy [.ref (ad 15 0 0), .int x1, .int x2] S Q := by
  intro o sz
  refine mkC (own := RX7) (lv := [(0, .ref (ad 15 0 0)), (1, .int x1), (2, .int x2)]) (by decide) rfl (Nat.le_of_ble_eq_true rfl) rfl ⟨rfl, rfl⟩ ?_
  intro p e s m below meth c ls hsz hM hlocks hret hK hA hX hl
  unfold vc_X7_row at hq
  refine lv_aload_n hM.1 hM.2.1 dX7_row_0 rfl (lv_at hl 0 rfl) ?_
  refine lv_iconst (v := (0 : Int32)) hM.1 hM.2.1 dX7_row_1 (by decide) ?_
  refine p15_6 hM hK hX m15 qf_RX7_48 dX7_row_2 (fun S_1 e_2 H locs hX => ?_)
  replace hq := hq S_1 e_2
  refine lv_iload_n hM.1 hM.2.1 dX7_row_5 rfl (lv_at hl 1 rfl) ?_
  refine cSi (As := [.int x1]) hM hK hX hA (met_X7_isRow l D ad cy S_1 x1 hq) (kX7_isRow hM.2.2.2.2 ql_RX7_122 (Nat.le_of_ble_eq_true rfl) (Nat.le_of_ble_eq_true rfl)) rfl hl.1 rfl (Nat.le_of_ble_eq_true rfl) dX7_row_6 ⟨Nat.zero_le _, Nat.zero_le _⟩ (fun S_3 r_4 hq H locs hX => ?_)
  refine lv_if_ne (tgt := 18) hM.1 hM.2.1 dX7_row_9 (by decide) (fun c_5 => ?_) (fun c_5 => ?_)
  · replace hq := hq.1 c_5
    refine lv_iload_n hM.1 hM.2.1 dX7_row_18 rfl (lv_at hl 2 rfl) ?_
    refine lv_iconst (v := (0 : Int32)) hM.1 hM.2.1 dX7_row_19 (by decide) ?_
    refine lv_iconst (v := (3 : Int32)) hM.1 hM.2.1 dX7_row_20 (by decide) ?_
    refine cSi (As := [.int x2, .int (0 : Int32), .int (3 : Int32)]) hM hK hX hA (met_X7_in l D ad cy S_3 x2 (0 : Int32) (3 : Int32) hq) (kX7_in hM.2.2.2.2 ql_RX7_52 (Nat.le_of_ble_eq_true rfl) (Nat.le_of_ble_eq_true rfl)) rfl hl.1 rfl (Nat.le_of_ble_eq_true rfl) dX7_row_21 ⟨Nat.zero_le _, Nat.zero_le _⟩ (fun S_6 r_7 hq H locs hX => ?_)
    refine lv_if_eq (tgt := 36) hM.1 hM.2.1 dX7_row_24 (by decide) (fun c_8 => ?_) (fun c_8 => ?_)
    · replace hq := hq.1 c_8
      refine lv_aload_n hM.1 hM.2.1 dX7_row_36 rfl (lv_at hl 0 rfl) ?_
      refine lv_iconst (v := (2 : Int32)) hM.1 hM.2.1 dX7_row_37 (by decide) ?_
      refine cVi (As := [.int (2 : Int32)]) hM hK hX hA (met_X7_fails l D ad cy S_6 (2 : Int32) hq) (kX7_fails hM.2.2.2.2 ql_RX7_59 (Nat.le_of_ble_eq_true rfl) (Nat.le_of_ble_eq_true rfl)) (v15 hK hX m15) rfl hl.1 rfl (Nat.le_of_ble_eq_true rfl) dX7_row_38 ⟨Nat.zero_le _, Nat.zero_le _⟩ (fun S_9 r_10 hq H locs hX => ?_)
      exact e_i hM hX hlocks hret hq dX7_row_41
    replace hq := hq.2 c_8
    refine lv_aload_n hM.1 hM.2.1 dX7_row_27 rfl (lv_at hl 0 rfl) ?_
    refine lv_iload_n hM.1 hM.2.1 dX7_row_28 rfl (lv_at hl 1 rfl) ?_
    refine lv_iload_n hM.1 hM.2.1 dX7_row_29 rfl (lv_at hl 2 rfl) ?_
    refine cVi (As := [.int x1, .int x2]) hM hK hX hA (met_X7_ofRow l D ad cy S_6 x1 x2 hq) (kX7_ofRow hM.2.2.2.2 ql_RX7_192 (Nat.le_of_ble_eq_true rfl) (Nat.le_of_ble_eq_true rfl)) (v15 hK hX m15) rfl hl.1 rfl (Nat.le_of_ble_eq_true rfl) dX7_row_30 ⟨Nat.zero_le _, Nat.zero_le _⟩ (fun S_11 r_12 hq H locs hX => ?_)
    refine lv_goto (tgt := 41) hM.1 hM.2.1 dX7_row_33 (by decide) ?_
    exact e_i hM hX hlocks hret hq dX7_row_41
  replace hq := hq.2 c_5
  refine lv_aload_n hM.1 hM.2.1 dX7_row_12 rfl (lv_at hl 0 rfl) ?_
  refine lv_iconst (v := (1 : Int32)) hM.1 hM.2.1 dX7_row_13 (by decide) ?_
  refine cVi (As := [.int (1 : Int32)]) hM hK hX hA (met_X7_fails l D ad cy S_3 (1 : Int32) hq) (kX7_fails hM.2.2.2.2 ql_RX7_59 (Nat.le_of_ble_eq_true rfl) (Nat.le_of_ble_eq_true rfl)) (v15 hK hX m15) rfl hl.1 rfl (Nat.le_of_ble_eq_true rfl) dX7_row_14 ⟨Nat.zero_le _, Nat.zero_le _⟩ (fun S_13 r_14 hq H locs hX => ?_)
  exact e_i hM hX hlocks hret hq dX7_row_17
def rmX7_asked : Room := { frames := 2, cells := 0, slots := 0, locals := 43 }
theorem kX7_asked {R : Room} {s : State} {args : Array Value} {own : String} {index : Nat} (ht : ∀ w ∈ lw_all, w.before args s = true) (hl : Cond.methodLink own index yX7_asked ∈ lw_all) (hf : rmX7_asked.frames + 1 ≤ R.frames) (hlo : 8 + (3 + 11) + rmX7_asked.locals ≤ R.locals) : CallW R s args own RX7 index yX7_asked cX7_asked 3 (some Jvm.ClassFile.FieldType.int) (wA yX7_asked cX7_asked 3 (some Jvm.ClassFile.FieldType.int)) rmX7_asked 0 0 0 := cwV 0 ht (good_V hl qm_yX7_asked qs_yX7_asked qi_RX7 qc_yX7_asked) rfl rfl rfl (by decide +kernel) ⟨hf, hlo⟩
set_option maxRecDepth 100000 in
set_option maxHeartbeats 4000000 in
theorem met_X7_asked (l : Launch) (D : va_G) (ad : Adr) (cy : Nat → ClassId) (S : Mem) {Q : Mem → Int32 → Prop} (hq : vc_X7_asked S Q) : Ci l yX7_asked (wA yX7_asked cX7_asked 3 (some Jvm.ClassFile.FieldType.int)) rmX7_asked D ad cy [.ref (ad 15 0 0)] S Q := by
  intro o sz
  refine mkC (own := RX7) (lv := [(0, .ref (ad 15 0 0))]) (by decide) rfl (Nat.le_of_ble_eq_true rfl) rfl ⟨rfl, rfl⟩ ?_
  intro p e s m below meth c ls hsz hM hlocks hret hK hA hX hl
  have J31 : ∀ {K0 : Mem → Int32 → Int32 → Prop} (hk0 : ∀ (S : Mem) (y1 : Int32) (y2 : Int32), K0 S y1 y2 → ∀ (H : Heap) (locs : List Loc) (ls : Array Slot), PW D ad cy (AW ad sz) s.heap o S H locs → lv_has ls 3 [(0, .ref (ad 15 0 0)), (1, .int y1), (2, .int y2)] → Wi D ad cy o sz Q p l e rmX7_asked s m [.ref (ad 15 0 0)] below meth c H locs (F0 m 4 ls [])), ∀ {K1 : Mem → Int32 → Prop} (hk1 : ∀ (S : Mem) (y1 : Int32), K1 S y1 → ∀ (H : Heap) (locs : List Loc) (ls : Array Slot), PW D ad cy (AW ad sz) s.heap o S H locs → lv_has ls 3 [(1, .int y1)] → Wi D ad cy o sz Q p l e rmX7_asked s m [.ref (ad 15 0 0)] below meth c H locs (F0 m 39 ls [])), ∀ (S : Mem) (y2 : Int32) (w0 : Int32) (w1 : Int32), vc_X7_asked_J31 Q K0 K1 S y2 w0 w1 → ∀ (H : Heap) (locs : List Loc) (ls : Array Slot), PW D ad cy (AW ad sz) s.heap o S H locs → lv_has ls 3 [(0, .ref (ad 15 0 0)), (2, .int y2)] → Wi D ad cy o sz Q p l e rmX7_asked s m [.ref (ad 15 0 0)] below meth c H locs (F0 m 31 ls [.int w1, .int w0]) := by
    intro K0 hk0 K1 hk1 S y2 w0 w1 hq H locs ls hX hl
    unfold vc_X7_asked_J31 at hq
    refine lv_ior hM.1 hM.2.1 dX7_asked_31 ?_
    refine lv_istore_n (lv' := [(1, .int (w0 ||| w1)), (0, .ref (ad 15 0 0)), (2, .int y2)]) hM.1 hM.2.1 dX7_asked_32 rfl hl (by decide) rfl (fun ls hl => ?_)
    refine lv_iinc (v := (y2 + (1 : Int32))) (lv' := [(2, .int (y2 + (1 : Int32))), (1, .int (w0 ||| w1)), (0, .ref (ad 15 0 0))]) hM.1 hM.2.1 dX7_asked_33 hl (k := 2) rfl rfl (by decide) rfl (fun ls hl => ?_)
    refine lv_goto (tgt := 4) hM.1 hM.2.1 dX7_asked_36 (by decide) ?_
    exact hk0 S (w0 ||| w1) (y2 + (1 : Int32)) hq _ _ _ hX (lv_sub hl [2, 1, 0] rfl)
  have L4 : ∀ {K : Mem → Int32 → Prop} (hk : ∀ (S : Mem) (y1 : Int32), K S y1 → ∀ (H : Heap) (locs : List Loc) (ls : Array Slot), PW D ad cy (AW ad sz) s.heap o S H locs → lv_has ls 3 [(1, .int y1)] → Wi D ad cy o sz Q p l e rmX7_asked s m [.ref (ad 15 0 0)] below meth c H locs (F0 m 39 ls [])), ∀ (n : Nat) (S : Mem) (y1 : Int32) (y2 : Int32), vc_X7_asked_L4 Q K n S y1 y2 → ∀ (H : Heap) (locs : List Loc) (ls : Array Slot), PW D ad cy (AW ad sz) s.heap o S H locs → lv_has ls 3 [(0, .ref (ad 15 0 0)), (1, .int y1), (2, .int y2)] → Wi D ad cy o sz Q p l e rmX7_asked s m [.ref (ad 15 0 0)] below meth c H locs (F0 m 4 ls []) := by
    intro K hk n
    induction n with
    | zero =>
      intro S y1 y2 hq
      rw [vc_X7_asked_L4] at hq
      exact hq.elim
    | succ n ih =>
      intro S y1 y2 hq H locs ls hX hl
      rw [vc_X7_asked_L4] at hq
      refine lv_iload_n hM.1 hM.2.1 dX7_asked_4 rfl (lv_at hl 2 rfl) ?_
      refine lv_aload_n hM.1 hM.2.1 dX7_asked_5 rfl (lv_at hl 0 rfl) ?_
      refine g15 hM hK hX m15 0 (by decide) qf_RX7_7 rfl dX7_asked_6 ?_
      refine lv_bipush (v := (15 : Int32)) hM.1 hM.2.1 dX7_asked_9 (by decide) ?_
      have c_1 := hq.1
      replace hq := hq.2
      refine r_iald hM hK hX m16 (a16 0 0) c_1 dX7_asked_11 ?_
      refine lv_icmp_ge (tgt := 39) hM.1 hM.2.1 dX7_asked_12 (by decide) (fun c_2 => ?_) (fun c_2 => ?_)
      · replace hq := hq.1 c_2
        exact hk S y1 hq _ _ _ hX (lv_sub hl [1] rfl)
      replace hq := hq.2 c_2
      refine lv_iload_n hM.1 hM.2.1 dX7_asked_15 rfl (lv_at hl 1 rfl) ?_
      refine lv_aload_n hM.1 hM.2.1 dX7_asked_16 rfl (lv_at hl 0 rfl) ?_
      refine lv_iload_n hM.1 hM.2.1 dX7_asked_17 rfl (lv_at hl 2 rfl) ?_
      refine cVi (As := [.int y2]) hM hK hX hA (met_X7_isAsked l D ad cy S y2 hq) (kX7_isAsked hM.2.2.2.2 ql_RX7_76 (Nat.le_of_ble_eq_true rfl) (Nat.le_of_ble_eq_true rfl)) (v15 hK hX m15) rfl hl.1 rfl (Nat.le_of_ble_eq_true rfl) dX7_asked_18 ⟨Nat.zero_le _, Nat.zero_le _⟩ (fun S_3 r_4 hq H locs hX => ?_)
      refine lv_if_eq (tgt := 30) hM.1 hM.2.1 dX7_asked_21 (by decide) (fun c_5 => ?_) (fun c_5 => ?_)
      · replace hq := hq.1 c_5
        refine lv_iconst (v := (0 : Int32)) hM.1 hM.2.1 dX7_asked_30 (by decide) ?_
        exact J31 ih hk S_3 y2 y1 (0 : Int32) hq _ _ _ hX (lv_sub hl [0, 2] rfl)
      replace hq := hq.2 c_5
      refine lv_iconst (v := (1 : Int32)) hM.1 hM.2.1 dX7_asked_24 (by decide) ?_
      refine lv_iload_n hM.1 hM.2.1 dX7_asked_25 rfl (lv_at hl 2 rfl) ?_
      refine lv_ishl hM.1 hM.2.1 dX7_asked_26 ?_
      refine lv_goto (tgt := 31) hM.1 hM.2.1 dX7_asked_27 (by decide) ?_
      exact J31 ih hk S_3 y2 y1 ((1 : Int32) <<< (y2 &&& 31)) hq _ _ _ hX (lv_sub hl [0, 2] rfl)
  unfold vc_X7_asked at hq
  refine lv_iconst (v := (0 : Int32)) hM.1 hM.2.1 dX7_asked_0 (by decide) ?_
  refine lv_istore_n (lv' := [(1, .int (0 : Int32)), (0, .ref (ad 15 0 0))]) hM.1 hM.2.1 dX7_asked_1 rfl hl (by decide) rfl (fun ls hl => ?_)
  refine lv_iconst (v := (0 : Int32)) hM.1 hM.2.1 dX7_asked_2 (by decide) ?_
  refine lv_istore_n (lv' := [(2, .int (0 : Int32)), (1, .int (0 : Int32)), (0, .ref (ad 15 0 0))]) hM.1 hM.2.1 dX7_asked_3 rfl hl (by decide) rfl (fun ls hl => ?_)
  obtain ⟨k0, hq⟩ := hq
  refine L4 (fun S_6 y1_7 hq H locs ls hX hl => ?_) k0 S (0 : Int32) (0 : Int32) hq _ _ _ hX (lv_sub hl [2, 1, 0] rfl)
  refine lv_iload_n hM.1 hM.2.1 dX7_asked_39 rfl (lv_at hl 0 rfl) ?_
  exact e_i hM hX hlocks hret hq dX7_asked_40
def rmX7_shutOut : Room := { frames := 1, cells := 0, slots := 0, locals := 22 }
theorem kX7_shutOut {R : Room} {s : State} {args : Array Value} {own : String} {index : Nat} (ht : ∀ w ∈ lw_all, w.before args s = true) (hl : Cond.methodLink own index yX7_shutOut ∈ lw_all) (hf : rmX7_shutOut.frames + 1 ≤ R.frames) (hlo : 8 + (3 + 11) + rmX7_shutOut.locals ≤ R.locals) : CallW R s args own RX7 index yX7_shutOut cX7_shutOut 3 (some Jvm.ClassFile.FieldType.int) (wA yX7_shutOut cX7_shutOut 3 (some Jvm.ClassFile.FieldType.int)) rmX7_shutOut 0 0 0 := cwV 0 ht (good_V hl qm_yX7_shutOut qs_yX7_shutOut qi_RX7 qc_yX7_shutOut) rfl rfl rfl (by decide +kernel) ⟨hf, hlo⟩
set_option maxRecDepth 100000 in
set_option maxHeartbeats 4000000 in
theorem met_X7_shutOut (l : Launch) (D : va_G) (ad : Adr) (cy : Nat → ClassId) (S : Mem) {Q : Mem → Int32 → Prop} (hq : vc_X7_shutOut S Q) : Ci l yX7_shutOut (wA yX7_shutOut cX7_shutOut 3 (some Jvm.ClassFile.FieldType.int)) rmX7_shutOut D ad cy [.ref (ad 15 0 0)] S Q := by
  intro o sz
  refine mkC (own := RX7) (lv := [(0, .ref (ad 15 0 0))]) (by decide) rfl (Nat.le_of_ble_eq_true rfl) rfl ⟨rfl, rfl⟩ ?_
  intro p e s m below meth c ls hsz hM hlocks hret hK hA hX hl
  have L4 : ∀ {K : Mem → Int32 → Prop} (hk : ∀ (S : Mem) (y1 : Int32), K S y1 → ∀ (H : Heap) (locs : List Loc) (ls : Array Slot), PW D ad cy (AW ad sz) s.heap o S H locs → lv_has ls 3 [(1, .int y1)] → Wi D ad cy o sz Q p l e rmX7_shutOut s m [.ref (ad 15 0 0)] below meth c H locs (F0 m 33 ls [])), ∀ (n : Nat) (S : Mem) (y1 : Int32) (y2 : Int32), vc_X7_shutOut_L4 Q K n S y1 y2 → ∀ (H : Heap) (locs : List Loc) (ls : Array Slot), PW D ad cy (AW ad sz) s.heap o S H locs → lv_has ls 3 [(0, .ref (ad 15 0 0)), (1, .int y1), (2, .int y2)] → Wi D ad cy o sz Q p l e rmX7_shutOut s m [.ref (ad 15 0 0)] below meth c H locs (F0 m 4 ls []) := by
    intro K hk n
    induction n with
    | zero =>
      intro S y1 y2 hq
      rw [vc_X7_shutOut_L4] at hq
      exact hq.elim
    | succ n ih =>
      intro S y1 y2 hq H locs ls hX hl
      rw [vc_X7_shutOut_L4] at hq
      refine lv_iload_n hM.1 hM.2.1 dX7_shutOut_4 rfl (lv_at hl 2 rfl) ?_
      refine lv_aload_n hM.1 hM.2.1 dX7_shutOut_5 rfl (lv_at hl 0 rfl) ?_
      refine g15 hM hK hX m15 0 (by decide) qf_RX7_7 rfl dX7_shutOut_6 ?_
      refine lv_bipush (v := (15 : Int32)) hM.1 hM.2.1 dX7_shutOut_9 (by decide) ?_
      have c_1 := hq.1
      replace hq := hq.2
      refine r_iald hM hK hX m16 (a16 0 0) c_1 dX7_shutOut_11 ?_
      refine lv_icmp_ge (tgt := 33) hM.1 hM.2.1 dX7_shutOut_12 (by decide) (fun c_2 => ?_) (fun c_2 => ?_)
      · replace hq := hq.1 c_2
        exact hk S y1 hq _ _ _ hX (lv_sub hl [1] rfl)
      replace hq := hq.2 c_2
      refine lv_iload_n hM.1 hM.2.1 dX7_shutOut_15 rfl (lv_at hl 1 rfl) ?_
      refine lv_aload_n hM.1 hM.2.1 dX7_shutOut_16 rfl (lv_at hl 0 rfl) ?_
      refine lv_iload_n hM.1 hM.2.1 dX7_shutOut_17 rfl (lv_at hl 2 rfl) ?_
      refine lv_bipush (v := (6 : Int32)) hM.1 hM.2.1 dX7_shutOut_18 (by decide) ?_
      refine cVi (As := [.int y2, .int (6 : Int32)]) hM hK hX hA (met_X7_of l D ad cy S y2 (6 : Int32) hq) (kX7_of hM.2.2.2.2 ql_RX7_66 (Nat.le_of_ble_eq_true rfl) (Nat.le_of_ble_eq_true rfl)) (v15 hK hX m15) rfl hl.1 rfl (Nat.le_of_ble_eq_true rfl) dX7_shutOut_20 ⟨Nat.zero_le _, Nat.zero_le _⟩ (fun S_3 r_4 hq H locs hX => ?_)
      refine lv_iload_n hM.1 hM.2.1 dX7_shutOut_23 rfl (lv_at hl 2 rfl) ?_
      refine lv_ishl hM.1 hM.2.1 dX7_shutOut_24 ?_
      refine lv_ior hM.1 hM.2.1 dX7_shutOut_25 ?_
      refine lv_istore_n (lv' := [(1, .int (y1 ||| (r_4 <<< (y2 &&& 31)))), (0, .ref (ad 15 0 0)), (2, .int y2)]) hM.1 hM.2.1 dX7_shutOut_26 rfl hl (by decide) rfl (fun ls hl => ?_)
      refine lv_iinc (v := (y2 + (1 : Int32))) (lv' := [(2, .int (y2 + (1 : Int32))), (1, .int (y1 ||| (r_4 <<< (y2 &&& 31)))), (0, .ref (ad 15 0 0))]) hM.1 hM.2.1 dX7_shutOut_27 hl (k := 2) rfl rfl (by decide) rfl (fun ls hl => ?_)
      refine lv_goto (tgt := 4) hM.1 hM.2.1 dX7_shutOut_30 (by decide) ?_
      exact ih S_3 (y1 ||| (r_4 <<< (y2 &&& 31))) (y2 + (1 : Int32)) hq _ _ _ hX (lv_sub hl [2, 1, 0] rfl)
  unfold vc_X7_shutOut at hq
  refine lv_iconst (v := (0 : Int32)) hM.1 hM.2.1 dX7_shutOut_0 (by decide) ?_
  refine lv_istore_n (lv' := [(1, .int (0 : Int32)), (0, .ref (ad 15 0 0))]) hM.1 hM.2.1 dX7_shutOut_1 rfl hl (by decide) rfl (fun ls hl => ?_)
  refine lv_iconst (v := (0 : Int32)) hM.1 hM.2.1 dX7_shutOut_2 (by decide) ?_
  refine lv_istore_n (lv' := [(2, .int (0 : Int32)), (1, .int (0 : Int32)), (0, .ref (ad 15 0 0))]) hM.1 hM.2.1 dX7_shutOut_3 rfl hl (by decide) rfl (fun ls hl => ?_)
  obtain ⟨k0, hq⟩ := hq
  refine L4 (fun S_5 y1_6 hq H locs ls hX hl => ?_) k0 S (0 : Int32) (0 : Int32) hq _ _ _ hX (lv_sub hl [2, 1, 0] rfl)
  refine lv_iload_n hM.1 hM.2.1 dX7_shutOut_33 rfl (lv_at hl 0 rfl) ?_
  exact e_i hM hX hlocks hret hq dX7_shutOut_34
def rmX7_number : Room := { frames := 5, cells := 0, slots := 0, locals := 111 }
theorem kX7_number {R : Room} {s : State} {args : Array Value} {own : String} {index : Nat} (ht : ∀ w ∈ lw_all, w.before args s = true) (hl : Cond.methodLink own index yX7_number ∈ lw_all) (hf : rmX7_number.frames + 1 ≤ R.frames) (hlo : 8 + (2 + 11) + rmX7_number.locals ≤ R.locals) : CallW R s args own RX7 index yX7_number cX7_number 2 (some Jvm.ClassFile.FieldType.int) (wA yX7_number cX7_number 2 (some Jvm.ClassFile.FieldType.int)) rmX7_number 0 0 1 := cwV 1 ht (good_V hl qm_yX7_number qs_yX7_number qi_RX7 qc_yX7_number) rfl rfl rfl (by decide +kernel) ⟨hf, hlo⟩
set_option maxRecDepth 100000 in
set_option maxHeartbeats 4000000 in
theorem met_X7_number (l : Launch) (D : va_G) (ad : Adr) (cy : Nat → ClassId) (S : Mem) (x1 : Int32) {Q : Mem → Int32 → Prop} (hq : vc_X7_number S x1 Q) : Ci l yX7_number (wA yX7_number cX7_number 2 (some Jvm.ClassFile.FieldType.int)) rmX7_number D ad cy [.ref (ad 15 0 0), .int x1] S Q := by
  intro o sz
  refine mkC (own := RX7) (lv := [(0, .ref (ad 15 0 0)), (1, .int x1)]) (by decide) rfl (Nat.le_of_ble_eq_true rfl) rfl ⟨rfl, rfl⟩ ?_
  intro p e s m below meth c ls hsz hM hlocks hret hK hA hX hl
  unfold vc_X7_number at hq
  refine lv_iload_n hM.1 hM.2.1 dX7_number_0 rfl (lv_at hl 1 rfl) ?_
  refine r_case (x := x1) (v := (0 : Int32)) (fun c_1 => ?_) (fun c_1 => ?_)
  · replace hq := hq.1 c_1
    refine r_tsw (v := (0 : Int32)) (tgt := 64) hM c_1 dX7_number_1 (by decide) (by decide) (by rfl) (by decide) ?_
    refine lv_aload_n hM.1 hM.2.1 dX7_number_64 rfl (lv_at hl 0 rfl) ?_
    refine g15 hM hK hX m15 0 (by decide) qf_RX7_7 rfl dX7_number_65 ?_
    refine lv_iconst (v := (0 : Int32)) hM.1 hM.2.1 dX7_number_68 (by decide) ?_
    have c_2 := hq.1
    replace hq := hq.2
    refine r_iald hM hK hX m16 (a16 0 0) c_2 dX7_number_69 ?_
    exact e_i hM hX hlocks hret hq dX7_number_70
  replace hq := hq.2 c_1
  refine r_case (x := x1) (v := (1 : Int32)) (fun c_3 => ?_) (fun c_3 => ?_)
  · replace hq := hq.1 c_3
    refine r_tsw (v := (1 : Int32)) (tgt := 71) hM c_3 dX7_number_1 (by decide) (by decide) (by rfl) (by decide) ?_
    refine lv_aload_n hM.1 hM.2.1 dX7_number_71 rfl (lv_at hl 0 rfl) ?_
    refine g15 hM hK hX m15 0 (by decide) qf_RX7_7 rfl dX7_number_72 ?_
    refine lv_bipush (v := (15 : Int32)) hM.1 hM.2.1 dX7_number_75 (by decide) ?_
    have c_4 := hq.1
    replace hq := hq.2
    refine r_iald hM hK hX m16 (a16 0 0) c_4 dX7_number_77 ?_
    exact e_i hM hX hlocks hret hq dX7_number_78
  replace hq := hq.2 c_3
  refine r_case (x := x1) (v := (2 : Int32)) (fun c_5 => ?_) (fun c_5 => ?_)
  · replace hq := hq.1 c_5
    refine r_tsw (v := (2 : Int32)) (tgt := 79) hM c_5 dX7_number_1 (by decide) (by decide) (by rfl) (by decide) ?_
    refine lv_aload_n hM.1 hM.2.1 dX7_number_79 rfl (lv_at hl 0 rfl) ?_
    refine g15 hM hK hX m15 0 (by decide) qf_RX7_7 rfl dX7_number_80 ?_
    refine lv_iconst (v := (1 : Int32)) hM.1 hM.2.1 dX7_number_83 (by decide) ?_
    have c_6 := hq.1
    replace hq := hq.2
    refine r_iald hM hK hX m16 (a16 0 0) c_6 dX7_number_84 ?_
    exact e_i hM hX hlocks hret hq dX7_number_85
  replace hq := hq.2 c_5
  refine r_case (x := x1) (v := (3 : Int32)) (fun c_7 => ?_) (fun c_7 => ?_)
  · replace hq := hq.1 c_7
    refine r_tsw (v := (3 : Int32)) (tgt := 86) hM c_7 dX7_number_1 (by decide) (by decide) (by rfl) (by decide) ?_
    refine lv_aload_n hM.1 hM.2.1 dX7_number_86 rfl (lv_at hl 0 rfl) ?_
    refine cVi (As := []) hM hK hX hA (met_X7_asked l D ad cy S hq) (kX7_asked hM.2.2.2.2 ql_RX7_195 (Nat.le_of_ble_eq_true rfl) (Nat.le_of_ble_eq_true rfl)) (v15 hK hX m15) rfl hl.1 rfl (Nat.le_of_ble_eq_true rfl) dX7_number_87 ⟨Nat.zero_le _, Nat.zero_le _⟩ (fun S_8 r_9 hq H locs hX => ?_)
    exact e_i hM hX hlocks hret hq dX7_number_90
  replace hq := hq.2 c_7
  refine r_case (x := x1) (v := (4 : Int32)) (fun c_10 => ?_) (fun c_10 => ?_)
  · replace hq := hq.1 c_10
    refine r_tsw (v := (4 : Int32)) (tgt := 91) hM c_10 dX7_number_1 (by decide) (by decide) (by rfl) (by decide) ?_
    refine lv_aload_n hM.1 hM.2.1 dX7_number_91 rfl (lv_at hl 0 rfl) ?_
    refine cVi (As := []) hM hK hX hA (met_X7_shutOut l D ad cy S hq) (kX7_shutOut hM.2.2.2.2 ql_RX7_198 (Nat.le_of_ble_eq_true rfl) (Nat.le_of_ble_eq_true rfl)) (v15 hK hX m15) rfl hl.1 rfl (Nat.le_of_ble_eq_true rfl) dX7_number_92 ⟨Nat.zero_le _, Nat.zero_le _⟩ (fun S_11 r_12 hq H locs hX => ?_)
    exact e_i hM hX hlocks hret hq dX7_number_95
  replace hq := hq.2 c_10
  refine r_case (x := x1) (v := (5 : Int32)) (fun c_13 => ?_) (fun c_13 => ?_)
  · replace hq := hq.1 c_13
    refine r_tsw (v := (5 : Int32)) (tgt := 96) hM c_13 dX7_number_1 (by decide) (by decide) (by rfl) (by decide) ?_
    refine lv_aload_n hM.1 hM.2.1 dX7_number_96 rfl (lv_at hl 0 rfl) ?_
    refine cVi (As := []) hM hK hX hA (met_X7_mean l D ad cy S hq) (kX7_mean hM.2.2.2.2 ql_RX7_87 (Nat.le_of_ble_eq_true rfl) (Nat.le_of_ble_eq_true rfl)) (v15 hK hX m15) rfl hl.1 rfl (Nat.le_of_ble_eq_true rfl) dX7_number_97 ⟨Nat.zero_le _, Nat.zero_le _⟩ (fun S_14 r_15 hq H locs hX => ?_)
    exact e_i hM hX hlocks hret hq dX7_number_100
  replace hq := hq.2 c_13
  refine r_case (x := x1) (v := (6 : Int32)) (fun c_16 => ?_) (fun c_16 => ?_)
  · replace hq := hq.1 c_16
    refine r_tsw (v := (6 : Int32)) (tgt := 101) hM c_16 dX7_number_1 (by decide) (by decide) (by rfl) (by decide) ?_
    refine lv_aload_n hM.1 hM.2.1 dX7_number_101 rfl (lv_at hl 0 rfl) ?_
    refine cVi (As := []) hM hK hX hA (met_X7_slope l D ad cy S hq) (kX7_slope hM.2.2.2.2 ql_RX7_201 (Nat.le_of_ble_eq_true rfl) (Nat.le_of_ble_eq_true rfl)) (v15 hK hX m15) rfl hl.1 rfl (Nat.le_of_ble_eq_true rfl) dX7_number_102 ⟨Nat.zero_le _, Nat.zero_le _⟩ (fun S_17 r_18 hq H locs hX => ?_)
    exact e_i hM hX hlocks hret hq dX7_number_105
  replace hq := hq.2 c_16
  refine r_case (x := x1) (v := (7 : Int32)) (fun c_19 => ?_) (fun c_19 => ?_)
  · replace hq := hq.1 c_19
    refine r_tsw (v := (7 : Int32)) (tgt := 106) hM c_19 dX7_number_1 (by decide) (by decide) (by rfl) (by decide) ?_
    refine lv_aload_n hM.1 hM.2.1 dX7_number_106 rfl (lv_at hl 0 rfl) ?_
    refine lv_ldc hM.1 hM.2.1 hM.2.2.2.1 (hM.2.2.2.2 _ qn_RX7_47) dX7_number_107 ?_
    refine cVi (As := [.int (-999999 : Int32)]) hM hK hX hA (met_X7_middleWithout l D ad cy S (-999999 : Int32) hq) (kX7_middleWithout hM.2.2.2.2 ql_RX7_104 (Nat.le_of_ble_eq_true rfl) (Nat.le_of_ble_eq_true rfl)) (v15 hK hX m15) rfl hl.1 rfl (Nat.le_of_ble_eq_true rfl) dX7_number_109 ⟨Nat.zero_le _, Nat.zero_le _⟩ (fun S_20 r_21 hq H locs hX => ?_)
    exact e_i hM hX hlocks hret hq dX7_number_112
  replace hq := hq.2 c_19
  refine r_case (x := x1) (v := (8 : Int32)) (fun c_22 => ?_) (fun c_22 => ?_)
  · replace hq := hq.1 c_22
    refine r_tsw (v := (8 : Int32)) (tgt := 113) hM c_22 dX7_number_1 (by decide) (by decide) (by rfl) (by decide) ?_
    refine lv_aload_n hM.1 hM.2.1 dX7_number_113 rfl (lv_at hl 0 rfl) ?_
    refine g15 hM hK hX m15 0 (by decide) qf_RX7_7 rfl dX7_number_114 ?_
    refine lv_bipush (v := (12 : Int32)) hM.1 hM.2.1 dX7_number_117 (by decide) ?_
    have c_23 := hq.1
    replace hq := hq.2
    refine r_iald hM hK hX m16 (a16 0 0) c_23 dX7_number_119 ?_
    exact e_i hM hX hlocks hret hq dX7_number_120
  replace hq := hq.2 c_22
  refine r_case (x := x1) (v := (9 : Int32)) (fun c_24 => ?_) (fun c_24 => ?_)
  · replace hq := hq.1 c_24
    refine r_tsw (v := (9 : Int32)) (tgt := 121) hM c_24 dX7_number_1 (by decide) (by decide) (by rfl) (by decide) ?_
    refine lv_aload_n hM.1 hM.2.1 dX7_number_121 rfl (lv_at hl 0 rfl) ?_
    refine g15 hM hK hX m15 0 (by decide) qf_RX7_7 rfl dX7_number_122 ?_
    refine lv_bipush (v := (13 : Int32)) hM.1 hM.2.1 dX7_number_125 (by decide) ?_
    have c_25 := hq.1
    replace hq := hq.2
    refine r_iald hM hK hX m16 (a16 0 0) c_25 dX7_number_127 ?_
    exact e_i hM hX hlocks hret hq dX7_number_128
  replace hq := hq.2 c_24
  refine r_case (x := x1) (v := (10 : Int32)) (fun c_26 => ?_) (fun c_26 => ?_)
  · replace hq := hq.1 c_26
    refine r_tsw (v := (10 : Int32)) (tgt := 129) hM c_26 dX7_number_1 (by decide) (by decide) (by rfl) (by decide) ?_
    refine lv_aload_n hM.1 hM.2.1 dX7_number_129 rfl (lv_at hl 0 rfl) ?_
    refine g15 hM hK hX m15 2 (by decide) qf_RX7_56 rfl dX7_number_130 ?_
    exact e_i hM hX hlocks hret hq dX7_number_133
  replace hq := hq.2 c_26
  refine r_case (x := x1) (v := (11 : Int32)) (fun c_27 => ?_) (fun c_27 => ?_)
  · replace hq := hq.1 c_27
    refine r_tsw (v := (11 : Int32)) (tgt := 134) hM c_27 dX7_number_1 (by decide) (by decide) (by rfl) (by decide) ?_
    refine lv_aload_n hM.1 hM.2.1 dX7_number_134 rfl (lv_at hl 0 rfl) ?_
    refine g15 hM hK hX m15 11 (by decide) qf_RX7_148 rfl dX7_number_135 ?_
    exact e_i hM hX hlocks hret hq dX7_number_138
  replace hq := hq.2 c_27
  refine r_tswD (tgt := 139) 12 hM (by decide) (by decide) (fun k hk => ?_) dX7_number_1 (by decide) ?_
  · match k, hk with
    | 0, _ => exact c_1
    | 1, _ => exact c_3
    | 2, _ => exact c_5
    | 3, _ => exact c_7
    | 4, _ => exact c_10
    | 5, _ => exact c_13
    | 6, _ => exact c_16
    | 7, _ => exact c_19
    | 8, _ => exact c_22
    | 9, _ => exact c_24
    | 10, _ => exact c_26
    | 11, _ => exact c_27
    | k + 12, h => exact absurd h (by omega)
  refine lv_aload_n hM.1 hM.2.1 dX7_number_139 rfl (lv_at hl 0 rfl) ?_
  refine g15 hM hK hX m15 0 (by decide) qf_RX7_7 rfl dX7_number_140 ?_
  refine lv_iconst (v := (2 : Int32)) hM.1 hM.2.1 dX7_number_143 (by decide) ?_
  refine lv_iload_n hM.1 hM.2.1 dX7_number_144 rfl (lv_at hl 1 rfl) ?_
  refine lv_iadd hM.1 hM.2.1 dX7_number_145 ?_
  refine lv_bipush (v := (12 : Int32)) hM.1 hM.2.1 dX7_number_146 (by decide) ?_
  refine lv_isub hM.1 hM.2.1 dX7_number_148 ?_
  have c_28 := hq.1
  replace hq := hq.2
  refine r_iald hM hK hX m16 (a16 0 0) c_28 dX7_number_149 ?_
  exact e_i hM hX hlocks hret hq dX7_number_150
def rmX7_count : Room := { frames := 6, cells := 0, slots := 0, locals := 132 }
theorem kX7_count {R : Room} {s : State} {args : Array Value} {own : String} {index : Nat} (ht : ∀ w ∈ lw_all, w.before args s = true) (hl : Cond.methodLink own index yX7_count ∈ lw_all) (hf : rmX7_count.frames + 1 ≤ R.frames) (hlo : 8 + (2 + 11) + rmX7_count.locals ≤ R.locals) : CallW R s args own RX7 index yX7_count cX7_count 2 (some Jvm.ClassFile.FieldType.int) (wA yX7_count cX7_count 2 (some Jvm.ClassFile.FieldType.int)) rmX7_count 0 0 1 := cwV 1 ht (good_V hl qm_yX7_count qs_yX7_count qi_RX7 qc_yX7_count) rfl rfl rfl (by decide +kernel) ⟨hf, hlo⟩
set_option maxRecDepth 100000 in
set_option maxHeartbeats 4000000 in
theorem met_X7_count (l : Launch) (D : va_G) (ad : Adr) (cy : Nat → ClassId) (S : Mem) (x1 : Int32) {Q : Mem → Int32 → Prop} (hq : vc_X7_count S x1 Q) : Ci l yX7_count (wA yX7_count cX7_count 2 (some Jvm.ClassFile.FieldType.int)) rmX7_count D ad cy [.ref (ad 15 0 0), .int x1] S Q := by
  intro o sz
  refine mkC (own := RX7) (lv := [(0, .ref (ad 15 0 0)), (1, .int x1)]) (by decide) rfl (Nat.le_of_ble_eq_true rfl) rfl ⟨rfl, rfl⟩ ?_
  intro p e s m below meth c ls hsz hM hlocks hret hK hA hX hl
  unfold vc_X7_count at hq
  refine lv_aload_n hM.1 hM.2.1 dX7_count_0 rfl (lv_at hl 0 rfl) ?_
  refine lv_iconst (v := (0 : Int32)) hM.1 hM.2.1 dX7_count_1 (by decide) ?_
  refine p15_6 hM hK hX m15 qf_RX7_48 dX7_count_2 (fun S_1 e_2 H locs hX => ?_)
  replace hq := hq S_1 e_2
  refine lv_iload_n hM.1 hM.2.1 dX7_count_5 rfl (lv_at hl 1 rfl) ?_
  refine lv_iconst (v := (0 : Int32)) hM.1 hM.2.1 dX7_count_6 (by decide) ?_
  refine lv_bipush (v := (13 : Int32)) hM.1 hM.2.1 dX7_count_7 (by decide) ?_
  refine cSi (As := [.int x1, .int (0 : Int32), .int (13 : Int32)]) hM hK hX hA (met_X7_in l D ad cy S_1 x1 (0 : Int32) (13 : Int32) hq) (kX7_in hM.2.2.2.2 ql_RX7_52 (Nat.le_of_ble_eq_true rfl) (Nat.le_of_ble_eq_true rfl)) rfl hl.1 rfl (Nat.le_of_ble_eq_true rfl) dX7_count_9 ⟨Nat.zero_le _, Nat.zero_le _⟩ (fun S_3 r_4 hq H locs hX => ?_)
  refine lv_if_eq (tgt := 23) hM.1 hM.2.1 dX7_count_12 (by decide) (fun c_5 => ?_) (fun c_5 => ?_)
  · replace hq := hq.1 c_5
    refine lv_aload_n hM.1 hM.2.1 dX7_count_23 rfl (lv_at hl 0 rfl) ?_
    refine lv_iconst (v := (1 : Int32)) hM.1 hM.2.1 dX7_count_24 (by decide) ?_
    refine cVi (As := [.int (1 : Int32)]) hM hK hX hA (met_X7_fails l D ad cy S_3 (1 : Int32) hq) (kX7_fails hM.2.2.2.2 ql_RX7_59 (Nat.le_of_ble_eq_true rfl) (Nat.le_of_ble_eq_true rfl)) (v15 hK hX m15) rfl hl.1 rfl (Nat.le_of_ble_eq_true rfl) dX7_count_25 ⟨Nat.zero_le _, Nat.zero_le _⟩ (fun S_6 r_7 hq H locs hX => ?_)
    exact e_i hM hX hlocks hret hq dX7_count_28
  replace hq := hq.2 c_5
  refine lv_aload_n hM.1 hM.2.1 dX7_count_15 rfl (lv_at hl 0 rfl) ?_
  refine lv_iload_n hM.1 hM.2.1 dX7_count_16 rfl (lv_at hl 1 rfl) ?_
  refine cVi (As := [.int x1]) hM hK hX hA (met_X7_number l D ad cy S_3 x1 hq) (kX7_number hM.2.2.2.2 ql_RX7_204 (Nat.le_of_ble_eq_true rfl) (Nat.le_of_ble_eq_true rfl)) (v15 hK hX m15) rfl hl.1 rfl (Nat.le_of_ble_eq_true rfl) dX7_count_17 ⟨Nat.zero_le _, Nat.zero_le _⟩ (fun S_8 r_9 hq H locs hX => ?_)
  refine lv_goto (tgt := 28) hM.1 hM.2.1 dX7_count_20 (by decide) ?_
  exact e_i hM hX hlocks hret hq dX7_count_28
def rmX7_off : Room := { frames := 3, cells := 0, slots := 0, locals := 67 }
theorem kX7_off {R : Room} {s : State} {args : Array Value} {own : String} {index : Nat} (ht : ∀ w ∈ lw_all, w.before args s = true) (hl : Cond.methodLink own index yX7_off ∈ lw_all) (hf : rmX7_off.frames + 1 ≤ R.frames) (hlo : 8 + (2 + 11) + rmX7_off.locals ≤ R.locals) : CallW R s args own RX7 index yX7_off cX7_off 2 (some Jvm.ClassFile.FieldType.int) (wA yX7_off cX7_off 2 (some Jvm.ClassFile.FieldType.int)) rmX7_off 0 0 1 := cwV 1 ht (good_V hl qm_yX7_off qs_yX7_off qi_RX7 qc_yX7_off) rfl rfl rfl (by decide +kernel) ⟨hf, hlo⟩
set_option maxRecDepth 100000 in
set_option maxHeartbeats 4000000 in
theorem met_X7_off (l : Launch) (D : va_G) (ad : Adr) (cy : Nat → ClassId) (S : Mem) (x1 : Int32) {Q : Mem → Int32 → Prop} (hq : vc_X7_off S x1 Q) : Ci l yX7_off (wA yX7_off cX7_off 2 (some Jvm.ClassFile.FieldType.int)) rmX7_off D ad cy [.ref (ad 15 0 0), .int x1] S Q := by
  intro o sz
  refine mkC (own := RX7) (lv := [(0, .ref (ad 15 0 0)), (1, .int x1)]) (by decide) rfl (Nat.le_of_ble_eq_true rfl) rfl ⟨rfl, rfl⟩ ?_
  intro p e s m below meth c ls hsz hM hlocks hret hK hA hX hl
  unfold vc_X7_off at hq
  refine lv_aload_n hM.1 hM.2.1 dX7_off_0 rfl (lv_at hl 0 rfl) ?_
  refine lv_iload_n hM.1 hM.2.1 dX7_off_1 rfl (lv_at hl 1 rfl) ?_
  refine cVi (As := [.int x1]) hM hK hX hA (met_X7_mended l D ad cy S x1 hq) (kX7_mended hM.2.2.2.2 ql_RX7_80 (Nat.le_of_ble_eq_true rfl) (Nat.le_of_ble_eq_true rfl)) (v15 hK hX m15) rfl hl.1 rfl (Nat.le_of_ble_eq_true rfl) dX7_off_2 ⟨Nat.zero_le _, Nat.zero_le _⟩ (fun S_1 r_2 hq H locs hX => ?_)
  refine lv_aload_n hM.1 hM.2.1 dX7_off_5 rfl (lv_at hl 0 rfl) ?_
  refine g15 hM hK hX m15 0 (by decide) qf_RX7_7 rfl dX7_off_6 ?_
  refine lv_iconst (v := (1 : Int32)) hM.1 hM.2.1 dX7_off_9 (by decide) ?_
  have c_3 := hq.1
  replace hq := hq.2
  refine r_iald hM hK hX m16 (a16 0 0) c_3 dX7_off_10 ?_
  refine lv_isub hM.1 hM.2.1 dX7_off_11 ?_
  refine cSi (As := [.int (r_2 - (S_1 16 0 0 (1 : Int32).toNatClampNeg))]) hM hK hX hA (met_X7_size l D ad cy S_1 (r_2 - (S_1 16 0 0 (1 : Int32).toNatClampNeg)) hq) (kX7_size hM.2.2.2.2 ql_RX7_107 (Nat.le_of_ble_eq_true rfl) (Nat.le_of_ble_eq_true rfl)) rfl hl.1 rfl (Nat.le_of_ble_eq_true rfl) dX7_off_12 ⟨Nat.zero_le _, Nat.zero_le _⟩ (fun S_4 r_5 hq H locs hX => ?_)
  exact e_i hM hX hlocks hret hq dX7_off_15
def rmX7_key : Room := { frames := 4, cells := 0, slots := 0, locals := 88 }
theorem kX7_key {R : Room} {s : State} {args : Array Value} {own : String} {index : Nat} (ht : ∀ w ∈ lw_all, w.before args s = true) (hl : Cond.methodLink own index yX7_key ∈ lw_all) (hf : rmX7_key.frames + 1 ≤ R.frames) (hlo : 8 + (3 + 11) + rmX7_key.locals ≤ R.locals) : CallW R s args own RX7 index yX7_key cX7_key 3 (some Jvm.ClassFile.FieldType.int) (wA yX7_key cX7_key 3 (some Jvm.ClassFile.FieldType.int)) rmX7_key 0 0 2 := cwV 2 ht (good_V hl qm_yX7_key qs_yX7_key qi_RX7 qc_yX7_key) rfl rfl rfl (by decide +kernel) ⟨hf, hlo⟩
set_option maxRecDepth 100000 in
set_option maxHeartbeats 4000000 in
theorem met_X7_key (l : Launch) (D : va_G) (ad : Adr) (cy : Nat → ClassId) (S : Mem) (x1 : Int32) (x2 : Int32) {Q : Mem → Int32 → Prop} (hq : vc_X7_key S x1 x2 Q) : Ci l yX7_key (wA yX7_key cX7_key 3 (some Jvm.ClassFile.FieldType.int)) rmX7_key D ad cy [.ref (ad 15 0 0), .int x1, .int x2] S Q := by
  intro o sz
  refine mkC (own := RX7) (lv := [(0, .ref (ad 15 0 0)), (1, .int x1), (2, .int x2)]) (by decide) rfl (Nat.le_of_ble_eq_true rfl) rfl ⟨rfl, rfl⟩ ?_
  intro p e s m below meth c ls hsz hM hlocks hret hK hA hX hl
  unfold vc_X7_key at hq
  refine lv_iload_n hM.1 hM.2.1 dX7_key_0 rfl (lv_at hl 2 rfl) ?_
  refine lv_if_ne (tgt := 12) hM.1 hM.2.1 dX7_key_1 (by decide) (fun c_1 => ?_) (fun c_1 => ?_)
  · replace hq := hq.1 c_1
    refine lv_aload_n hM.1 hM.2.1 dX7_key_12 rfl (lv_at hl 0 rfl) ?_
    refine lv_iload_n hM.1 hM.2.1 dX7_key_13 rfl (lv_at hl 1 rfl) ?_
    refine cVi (As := [.int x1]) hM hK hX hA (met_X7_off l D ad cy S x1 hq) (kX7_off hM.2.2.2.2 ql_RX7_207 (Nat.le_of_ble_eq_true rfl) (Nat.le_of_ble_eq_true rfl)) (v15 hK hX m15) rfl hl.1 rfl (Nat.le_of_ble_eq_true rfl) dX7_key_14 ⟨Nat.zero_le _, Nat.zero_le _⟩ (fun S_2 r_3 hq H locs hX => ?_)
    refine lv_ineg hM.1 hM.2.1 dX7_key_17 ?_
    exact e_i hM hX hlocks hret hq dX7_key_18
  replace hq := hq.2 c_1
  refine lv_aload_n hM.1 hM.2.1 dX7_key_4 rfl (lv_at hl 0 rfl) ?_
  refine lv_iload_n hM.1 hM.2.1 dX7_key_5 rfl (lv_at hl 1 rfl) ?_
  refine cVi (As := [.int x1]) hM hK hX hA (met_X7_mended l D ad cy S x1 hq) (kX7_mended hM.2.2.2.2 ql_RX7_80 (Nat.le_of_ble_eq_true rfl) (Nat.le_of_ble_eq_true rfl)) (v15 hK hX m15) rfl hl.1 rfl (Nat.le_of_ble_eq_true rfl) dX7_key_6 ⟨Nat.zero_le _, Nat.zero_le _⟩ (fun S_4 r_5 hq H locs hX => ?_)
  refine lv_goto (tgt := 18) hM.1 hM.2.1 dX7_key_9 (by decide) ?_
  exact e_i hM hX hlocks hret hq dX7_key_18
def rmX7_ofRank : Room := { frames := 5, cells := 0, slots := 0, locals := 110 }
theorem kX7_ofRank {R : Room} {s : State} {args : Array Value} {own : String} {index : Nat} (ht : ∀ w ∈ lw_all, w.before args s = true) (hl : Cond.methodLink own index yX7_ofRank ∈ lw_all) (hf : rmX7_ofRank.frames + 1 ≤ R.frames) (hlo : 8 + (8 + 11) + rmX7_ofRank.locals ≤ R.locals) : CallW R s args own RX7 index yX7_ofRank cX7_ofRank 8 (some Jvm.ClassFile.FieldType.int) (wA yX7_ofRank cX7_ofRank 8 (some Jvm.ClassFile.FieldType.int)) rmX7_ofRank 0 0 2 := cwV 2 ht (good_V hl qm_yX7_ofRank qs_yX7_ofRank qi_RX7 qc_yX7_ofRank) rfl rfl rfl (by decide +kernel) ⟨hf, hlo⟩
set_option maxRecDepth 100000 in
set_option maxHeartbeats 4000000 in
theorem met_X7_ofRank (l : Launch) (D : va_G) (ad : Adr) (cy : Nat → ClassId) (S : Mem) (x1 : Int32) (x2 : Int32) {Q : Mem → Int32 → Prop} (hq : vc_X7_ofRank S x1 x2 Q) : Ci l yX7_ofRank (wA yX7_ofRank cX7_ofRank 8 (some Jvm.ClassFile.FieldType.int)) rmX7_ofRank D ad cy [.ref (ad 15 0 0), .int x1, .int x2] S Q := by
  intro o sz
  refine mkC (own := RX7) (lv := [(0, .ref (ad 15 0 0)), (1, .int x1), (2, .int x2)]) (by decide) rfl (Nat.le_of_ble_eq_true rfl) rfl ⟨rfl, rfl⟩ ?_
  intro p e s m below meth c ls hsz hM hlocks hret hK hA hX hl
  have J88 : ∀ {K0 : Mem → Int32 → Int32 → Int32 → Int32 → Prop} (hk0 : ∀ (S : Mem) (y3 : Int32) (y4 : Int32) (y5 : Int32) (y6 : Int32), K0 S y3 y4 y5 y6 → ∀ (H : Heap) (locs : List Loc) (ls : Array Slot), PW D ad cy (AW ad sz) s.heap o S H locs → lv_has ls 8 [(0, .ref (ad 15 0 0)), (1, .int x1), (2, .int x2), (3, .int y3), (4, .int y4), (5, .int y5), (6, .int y6)] → Wi D ad cy o sz Q p l e rmX7_ofRank s m [.ref (ad 15 0 0), .int x1, .int x2] below meth c H locs (F0 m 24 ls [])), ∀ {K1 : Mem → Int32 → Int32 → Int32 → Prop} (hk1 : ∀ (S : Mem) (y3 : Int32) (y4 : Int32) (y5 : Int32), K1 S y3 y4 y5 → ∀ (H : Heap) (locs : List Loc) (ls : Array Slot), PW D ad cy (AW ad sz) s.heap o S H locs → lv_has ls 8 [(0, .ref (ad 15 0 0)), (1, .int x1), (2, .int x2), (3, .int y3), (4, .int y4), (5, .int y5)] → Wi D ad cy o sz Q p l e rmX7_ofRank s m [.ref (ad 15 0 0), .int x1, .int x2] below meth c H locs (F0 m 97 ls [])), ∀ (S : Mem) (y3 : Int32) (y4 : Int32) (y6 : Int32) (w0 : Int32) (w1 : Int32), vc_X7_ofRank_J88 Q K0 K1 x1 x2 S y3 y4 y6 w0 w1 → ∀ (H : Heap) (locs : List Loc) (ls : Array Slot), PW D ad cy (AW ad sz) s.heap o S H locs → lv_has ls 8 [(0, .ref (ad 15 0 0)), (1, .int x1), (2, .int x2), (3, .int y3), (4, .int y4), (6, .int y6)] → Wi D ad cy o sz Q p l e rmX7_ofRank s m [.ref (ad 15 0 0), .int x1, .int x2] below meth c H locs (F0 m 88 ls [.int w1, .int w0]) := by
    intro K0 hk0 K1 hk1 S y3 y4 y6 w0 w1 hq H locs ls hX hl
    unfold vc_X7_ofRank_J88 at hq
    refine lv_iadd hM.1 hM.2.1 dX7_ofRank_88 ?_
    refine lv_istore (lv' := [(5, .int (w0 + w1)), (0, .ref (ad 15 0 0)), (1, .int x1), (2, .int x2), (3, .int y3), (4, .int y4), (6, .int y6)]) hM.1 hM.2.1 dX7_ofRank_89 hl (by decide) rfl (fun ls hl => ?_)
    refine lv_iinc (v := (y6 + (1 : Int32))) (lv' := [(6, .int (y6 + (1 : Int32))), (5, .int (w0 + w1)), (0, .ref (ad 15 0 0)), (1, .int x1), (2, .int x2), (3, .int y3), (4, .int y4)]) hM.1 hM.2.1 dX7_ofRank_91 hl (k := 6) rfl rfl (by decide) rfl (fun ls hl => ?_)
    refine lv_goto (tgt := 24) hM.1 hM.2.1 dX7_ofRank_94 (by decide) ?_
    exact hk0 S y3 y4 (w0 + w1) (y6 + (1 : Int32)) hq _ _ _ hX (lv_sub hl [2, 3, 4, 5, 6, 1, 0] rfl)
  have J87 : ∀ {K0 : Mem → Int32 → Int32 → Int32 → Int32 → Prop} (hk0 : ∀ (S : Mem) (y3 : Int32) (y4 : Int32) (y5 : Int32) (y6 : Int32), K0 S y3 y4 y5 y6 → ∀ (H : Heap) (locs : List Loc) (ls : Array Slot), PW D ad cy (AW ad sz) s.heap o S H locs → lv_has ls 8 [(0, .ref (ad 15 0 0)), (1, .int x1), (2, .int x2), (3, .int y3), (4, .int y4), (5, .int y5), (6, .int y6)] → Wi D ad cy o sz Q p l e rmX7_ofRank s m [.ref (ad 15 0 0), .int x1, .int x2] below meth c H locs (F0 m 24 ls [])), ∀ {K1 : Mem → Int32 → Int32 → Int32 → Prop} (hk1 : ∀ (S : Mem) (y3 : Int32) (y4 : Int32) (y5 : Int32), K1 S y3 y4 y5 → ∀ (H : Heap) (locs : List Loc) (ls : Array Slot), PW D ad cy (AW ad sz) s.heap o S H locs → lv_has ls 8 [(0, .ref (ad 15 0 0)), (1, .int x1), (2, .int x2), (3, .int y3), (4, .int y4), (5, .int y5)] → Wi D ad cy o sz Q p l e rmX7_ofRank s m [.ref (ad 15 0 0), .int x1, .int x2] below meth c H locs (F0 m 97 ls [])), ∀ (S : Mem) (y3 : Int32) (y4 : Int32) (y6 : Int32) (w0 : Int32), vc_X7_ofRank_J87 Q K0 K1 x1 x2 S y3 y4 y6 w0 → ∀ (H : Heap) (locs : List Loc) (ls : Array Slot), PW D ad cy (AW ad sz) s.heap o S H locs → lv_has ls 8 [(0, .ref (ad 15 0 0)), (1, .int x1), (2, .int x2), (3, .int y3), (4, .int y4), (6, .int y6)] → Wi D ad cy o sz Q p l e rmX7_ofRank s m [.ref (ad 15 0 0), .int x1, .int x2] below meth c H locs (F0 m 87 ls [.int w0]) := by
    intro K0 hk0 K1 hk1 S y3 y4 y6 w0 hq H locs ls hX hl
    unfold vc_X7_ofRank_J87 at hq
    refine lv_iconst (v := (0 : Int32)) hM.1 hM.2.1 dX7_ofRank_87 (by decide) ?_
    exact J88 hk0 hk1 S y3 y4 y6 w0 (0 : Int32) hq _ _ _ hX (lv_sub hl [0, 1, 2, 3, 4, 5] rfl)
  have J83 : ∀ {K0 : Mem → Int32 → Int32 → Int32 → Int32 → Prop} (hk0 : ∀ (S : Mem) (y3 : Int32) (y4 : Int32) (y5 : Int32) (y6 : Int32), K0 S y3 y4 y5 y6 → ∀ (H : Heap) (locs : List Loc) (ls : Array Slot), PW D ad cy (AW ad sz) s.heap o S H locs → lv_has ls 8 [(0, .ref (ad 15 0 0)), (1, .int x1), (2, .int x2), (3, .int y3), (4, .int y4), (5, .int y5), (6, .int y6)] → Wi D ad cy o sz Q p l e rmX7_ofRank s m [.ref (ad 15 0 0), .int x1, .int x2] below meth c H locs (F0 m 24 ls [])), ∀ {K1 : Mem → Int32 → Int32 → Int32 → Prop} (hk1 : ∀ (S : Mem) (y3 : Int32) (y4 : Int32) (y5 : Int32), K1 S y3 y4 y5 → ∀ (H : Heap) (locs : List Loc) (ls : Array Slot), PW D ad cy (AW ad sz) s.heap o S H locs → lv_has ls 8 [(0, .ref (ad 15 0 0)), (1, .int x1), (2, .int x2), (3, .int y3), (4, .int y4), (5, .int y5)] → Wi D ad cy o sz Q p l e rmX7_ofRank s m [.ref (ad 15 0 0), .int x1, .int x2] below meth c H locs (F0 m 97 ls [])), ∀ (S : Mem) (y3 : Int32) (y4 : Int32) (y6 : Int32) (w0 : Int32), vc_X7_ofRank_J83 Q K0 K1 x1 x2 S y3 y4 y6 w0 → ∀ (H : Heap) (locs : List Loc) (ls : Array Slot), PW D ad cy (AW ad sz) s.heap o S H locs → lv_has ls 8 [(0, .ref (ad 15 0 0)), (1, .int x1), (2, .int x2), (3, .int y3), (4, .int y4), (6, .int y6)] → Wi D ad cy o sz Q p l e rmX7_ofRank s m [.ref (ad 15 0 0), .int x1, .int x2] below meth c H locs (F0 m 83 ls [.int w0]) := by
    intro K0 hk0 K1 hk1 S y3 y4 y6 w0 hq H locs ls hX hl
    unfold vc_X7_ofRank_J83 at hq
    refine lv_iconst (v := (1 : Int32)) hM.1 hM.2.1 dX7_ofRank_83 (by decide) ?_
    refine lv_goto (tgt := 88) hM.1 hM.2.1 dX7_ofRank_84 (by decide) ?_
    exact J88 hk0 hk1 S y3 y4 y6 w0 (1 : Int32) hq _ _ _ hX (lv_sub hl [0, 1, 2, 3, 4, 5] rfl)
  have L24 : ∀ {K : Mem → Int32 → Int32 → Int32 → Prop} (hk : ∀ (S : Mem) (y3 : Int32) (y4 : Int32) (y5 : Int32), K S y3 y4 y5 → ∀ (H : Heap) (locs : List Loc) (ls : Array Slot), PW D ad cy (AW ad sz) s.heap o S H locs → lv_has ls 8 [(0, .ref (ad 15 0 0)), (1, .int x1), (2, .int x2), (3, .int y3), (4, .int y4), (5, .int y5)] → Wi D ad cy o sz Q p l e rmX7_ofRank s m [.ref (ad 15 0 0), .int x1, .int x2] below meth c H locs (F0 m 97 ls [])), ∀ (n : Nat) (S : Mem) (y3 : Int32) (y4 : Int32) (y5 : Int32) (y6 : Int32), vc_X7_ofRank_L24 Q K x1 x2 n S y3 y4 y5 y6 → ∀ (H : Heap) (locs : List Loc) (ls : Array Slot), PW D ad cy (AW ad sz) s.heap o S H locs → lv_has ls 8 [(0, .ref (ad 15 0 0)), (1, .int x1), (2, .int x2), (3, .int y3), (4, .int y4), (5, .int y5), (6, .int y6)] → Wi D ad cy o sz Q p l e rmX7_ofRank s m [.ref (ad 15 0 0), .int x1, .int x2] below meth c H locs (F0 m 24 ls []) := by
    intro K hk n
    induction n with
    | zero =>
      intro S y3 y4 y5 y6 hq
      rw [vc_X7_ofRank_L24] at hq
      exact hq.elim
    | succ n ih =>
      intro S y3 y4 y5 y6 hq H locs ls hX hl
      rw [vc_X7_ofRank_L24] at hq
      refine lv_iload hM.1 hM.2.1 dX7_ofRank_24 (lv_at hl 6 rfl) ?_
      refine lv_aload_n hM.1 hM.2.1 dX7_ofRank_26 rfl (lv_at hl 0 rfl) ?_
      refine g15 hM hK hX m15 0 (by decide) qf_RX7_7 rfl dX7_ofRank_27 ?_
      refine lv_bipush (v := (15 : Int32)) hM.1 hM.2.1 dX7_ofRank_30 (by decide) ?_
      have c_3 := hq.1
      replace hq := hq.2
      refine r_iald hM hK hX m16 (a16 0 0) c_3 dX7_ofRank_32 ?_
      refine lv_icmp_ge (tgt := 97) hM.1 hM.2.1 dX7_ofRank_33 (by decide) (fun c_4 => ?_) (fun c_4 => ?_)
      · replace hq := hq.1 c_4
        exact hk S y3 y4 y5 hq _ _ _ hX (lv_sub hl [0, 1, 2, 3, 4, 5] rfl)
      replace hq := hq.2 c_4
      refine lv_aload_n hM.1 hM.2.1 dX7_ofRank_36 rfl (lv_at hl 0 rfl) ?_
      refine lv_iload hM.1 hM.2.1 dX7_ofRank_37 (lv_at hl 6 rfl) ?_
      refine lv_iload_n hM.1 hM.2.1 dX7_ofRank_39 rfl (lv_at hl 1 rfl) ?_
      refine cVi (As := [.int y6, .int x1]) hM hK hX hA (met_X7_key l D ad cy S y6 x1 hq) (kX7_key hM.2.2.2.2 ql_RX7_210 (Nat.le_of_ble_eq_true rfl) (Nat.le_of_ble_eq_true rfl)) (v15 hK hX m15) rfl hl.1 rfl (Nat.le_of_ble_eq_true rfl) dX7_ofRank_40 ⟨Nat.zero_le _, Nat.zero_le _⟩ (fun S_5 r_6 hq H locs hX => ?_)
      refine lv_aload_n hM.1 hM.2.1 dX7_ofRank_43 rfl (lv_at hl 0 rfl) ?_
      refine lv_iload hM.1 hM.2.1 dX7_ofRank_44 (lv_at hl 4 rfl) ?_
      refine lv_iload_n hM.1 hM.2.1 dX7_ofRank_46 rfl (lv_at hl 1 rfl) ?_
      refine cVi (As := [.int y4, .int x1]) hM hK hX hA (met_X7_key l D ad cy S_5 y4 x1 hq) (kX7_key hM.2.2.2.2 ql_RX7_210 (Nat.le_of_ble_eq_true rfl) (Nat.le_of_ble_eq_true rfl)) (v15 hK hX m15) rfl hl.1 rfl (Nat.le_of_ble_eq_true rfl) dX7_ofRank_47 ⟨Nat.zero_le _, Nat.zero_le _⟩ (fun S_7 r_8 hq H locs hX => ?_)
      refine lv_isub hM.1 hM.2.1 dX7_ofRank_50 ?_
      refine lv_istore (lv' := [(7, .int (r_6 - r_8)), (0, .ref (ad 15 0 0)), (1, .int x1), (2, .int x2), (3, .int y3), (4, .int y4), (5, .int y5), (6, .int y6)]) hM.1 hM.2.1 dX7_ofRank_51 hl (by decide) rfl (fun ls hl => ?_)
      refine lv_iload hM.1 hM.2.1 dX7_ofRank_53 (lv_at hl 6 rfl) ?_
      refine lv_aload_n hM.1 hM.2.1 dX7_ofRank_55 rfl (lv_at hl 1 rfl) ?_
      refine lv_iload hM.1 hM.2.1 dX7_ofRank_56 (lv_at hl 7 rfl) ?_
      refine lv_bipush (v := (7 : Int32)) hM.1 hM.2.1 dX7_ofRank_58 (by decide) ?_
      refine cVi (As := [.int y6, .int (7 : Int32)]) hM hK hX hA (met_X7_of l D ad cy S_7 y6 (7 : Int32) hq) (kX7_of hM.2.2.2.2 ql_RX7_66 (Nat.le_of_ble_eq_true rfl) (Nat.le_of_ble_eq_true rfl)) (v15 hK hX m15) rfl hl.1 rfl (Nat.le_of_ble_eq_true rfl) dX7_ofRank_60 ⟨Nat.zero_le _, Nat.zero_le _⟩ (fun S_9 r_10 hq H locs hX => ?_)
      refine lv_if_le (tgt := 87) hM.1 hM.2.1 dX7_ofRank_63 (by decide) (fun c_11 => ?_) (fun c_11 => ?_)
      · replace hq := hq.1 c_11
        exact J87 ih hk S_9 y3 y4 y6 y5 hq _ _ _ hX (lv_sub hl [1, 2, 3, 4, 5, 7] rfl)
      replace hq := hq.2 c_11
      refine lv_iload hM.1 hM.2.1 dX7_ofRank_66 (lv_at hl 0 rfl) ?_
      refine lv_if_lt (tgt := 83) hM.1 hM.2.1 dX7_ofRank_68 (by decide) (fun c_12 => ?_) (fun c_12 => ?_)
      · replace hq := hq.1 c_12
        exact J83 ih hk S_9 y3 y4 y6 y5 hq _ _ _ hX (lv_sub hl [1, 2, 3, 4, 5, 7] rfl)
      replace hq := hq.2 c_12
      refine lv_iload hM.1 hM.2.1 dX7_ofRank_71 (lv_at hl 0 rfl) ?_
      refine lv_if_ne (tgt := 87) hM.1 hM.2.1 dX7_ofRank_73 (by decide) (fun c_13 => ?_) (fun c_13 => ?_)
      · replace hq := hq.1 c_13
        exact J87 ih hk S_9 y3 y4 y6 y5 hq _ _ _ hX (lv_sub hl [1, 2, 3, 4, 5, 7] rfl)
      replace hq := hq.2 c_13
      refine lv_iload hM.1 hM.2.1 dX7_ofRank_76 (lv_at hl 7 rfl) ?_
      refine lv_iload hM.1 hM.2.1 dX7_ofRank_78 (lv_at hl 5 rfl) ?_
      refine lv_icmp_ge (tgt := 87) hM.1 hM.2.1 dX7_ofRank_80 (by decide) (fun c_14 => ?_) (fun c_14 => ?_)
      · replace hq := hq.1 c_14
        exact J87 ih hk S_9 y3 y4 y6 y5 hq _ _ _ hX (lv_sub hl [1, 2, 3, 4, 5, 7] rfl)
      replace hq := hq.2 c_14
      exact J83 ih hk S_9 y3 y4 y6 y5 hq _ _ _ hX (lv_sub hl [1, 2, 3, 4, 5, 7] rfl)
  have J120 : ∀ {K0 : Mem → Int32 → Int32 → Prop} (hk0 : ∀ (S : Mem) (y3 : Int32) (y4 : Int32), K0 S y3 y4 → ∀ (H : Heap) (locs : List Loc) (ls : Array Slot), PW D ad cy (AW ad sz) s.heap o S H locs → lv_has ls 8 [(0, .ref (ad 15 0 0)), (1, .int x1), (2, .int x2), (3, .int y3), (4, .int y4)] → Wi D ad cy o sz Q p l e rmX7_ofRank s m [.ref (ad 15 0 0), .int x1, .int x2] below meth c H locs (F0 m 6 ls [])), ∀ {K1 : Mem → Int32 → Prop} (hk1 : ∀ (S : Mem) (y3 : Int32), K1 S y3 → ∀ (H : Heap) (locs : List Loc) (ls : Array Slot), PW D ad cy (AW ad sz) s.heap o S H locs → lv_has ls 8 [(3, .int y3)] → Wi D ad cy o sz Q p l e rmX7_ofRank s m [.ref (ad 15 0 0), .int x1, .int x2] below meth c H locs (F0 m 127 ls [])), ∀ (S : Mem) (y4 : Int32) (w0 : Int32), vc_X7_ofRank_J120 Q K0 K1 x1 x2 S y4 w0 → ∀ (H : Heap) (locs : List Loc) (ls : Array Slot), PW D ad cy (AW ad sz) s.heap o S H locs → lv_has ls 8 [(0, .ref (ad 15 0 0)), (1, .int x1), (2, .int x2), (4, .int y4)] → Wi D ad cy o sz Q p l e rmX7_ofRank s m [.ref (ad 15 0 0), .int x1, .int x2] below meth c H locs (F0 m 120 ls [.int w0]) := by
    intro K0 hk0 K1 hk1 S y4 w0 hq H locs ls hX hl
    unfold vc_X7_ofRank_J120 at hq
    refine lv_istore_n (lv' := [(3, .int w0), (0, .ref (ad 15 0 0)), (1, .int x1), (2, .int x2), (4, .int y4)]) hM.1 hM.2.1 dX7_ofRank_120 rfl hl (by decide) rfl (fun ls hl => ?_)
    refine lv_iinc (v := (y4 + (1 : Int32))) (lv' := [(4, .int (y4 + (1 : Int32))), (3, .int w0), (0, .ref (ad 15 0 0)), (1, .int x1), (2, .int x2)]) hM.1 hM.2.1 dX7_ofRank_121 hl (k := 4) rfl rfl (by decide) rfl (fun ls hl => ?_)
    refine lv_goto (tgt := 6) hM.1 hM.2.1 dX7_ofRank_124 (by decide) ?_
    exact hk0 S w0 (y4 + (1 : Int32)) hq _ _ _ hX (lv_sub hl [2, 3, 4, 1, 0] rfl)
  have J119 : ∀ {K0 : Mem → Int32 → Int32 → Prop} (hk0 : ∀ (S : Mem) (y3 : Int32) (y4 : Int32), K0 S y3 y4 → ∀ (H : Heap) (locs : List Loc) (ls : Array Slot), PW D ad cy (AW ad sz) s.heap o S H locs → lv_has ls 8 [(0, .ref (ad 15 0 0)), (1, .int x1), (2, .int x2), (3, .int y3), (4, .int y4)] → Wi D ad cy o sz Q p l e rmX7_ofRank s m [.ref (ad 15 0 0), .int x1, .int x2] below meth c H locs (F0 m 6 ls [])), ∀ {K1 : Mem → Int32 → Prop} (hk1 : ∀ (S : Mem) (y3 : Int32), K1 S y3 → ∀ (H : Heap) (locs : List Loc) (ls : Array Slot), PW D ad cy (AW ad sz) s.heap o S H locs → lv_has ls 8 [(3, .int y3)] → Wi D ad cy o sz Q p l e rmX7_ofRank s m [.ref (ad 15 0 0), .int x1, .int x2] below meth c H locs (F0 m 127 ls [])), ∀ (S : Mem) (y3 : Int32) (y4 : Int32), vc_X7_ofRank_J119 Q K0 K1 x1 x2 S y3 y4 → ∀ (H : Heap) (locs : List Loc) (ls : Array Slot), PW D ad cy (AW ad sz) s.heap o S H locs → lv_has ls 8 [(0, .ref (ad 15 0 0)), (1, .int x1), (2, .int x2), (3, .int y3), (4, .int y4)] → Wi D ad cy o sz Q p l e rmX7_ofRank s m [.ref (ad 15 0 0), .int x1, .int x2] below meth c H locs (F0 m 119 ls []) := by
    intro K0 hk0 K1 hk1 S y3 y4 hq H locs ls hX hl
    unfold vc_X7_ofRank_J119 at hq
    refine lv_iload_n hM.1 hM.2.1 dX7_ofRank_119 rfl (lv_at hl 3 rfl) ?_
    exact J120 hk0 hk1 S y4 y3 hq _ _ _ hX (lv_sub hl [0, 1, 2, 4] rfl)
  have L6 : ∀ {K : Mem → Int32 → Prop} (hk : ∀ (S : Mem) (y3 : Int32), K S y3 → ∀ (H : Heap) (locs : List Loc) (ls : Array Slot), PW D ad cy (AW ad sz) s.heap o S H locs → lv_has ls 8 [(3, .int y3)] → Wi D ad cy o sz Q p l e rmX7_ofRank s m [.ref (ad 15 0 0), .int x1, .int x2] below meth c H locs (F0 m 127 ls [])), ∀ (n : Nat) (S : Mem) (y3 : Int32) (y4 : Int32), vc_X7_ofRank_L6 Q K x1 x2 n S y3 y4 → ∀ (H : Heap) (locs : List Loc) (ls : Array Slot), PW D ad cy (AW ad sz) s.heap o S H locs → lv_has ls 8 [(0, .ref (ad 15 0 0)), (1, .int x1), (2, .int x2), (3, .int y3), (4, .int y4)] → Wi D ad cy o sz Q p l e rmX7_ofRank s m [.ref (ad 15 0 0), .int x1, .int x2] below meth c H locs (F0 m 6 ls []) := by
    intro K hk n
    induction n with
    | zero =>
      intro S y3 y4 hq
      rw [vc_X7_ofRank_L6] at hq
      exact hq.elim
    | succ n ih =>
      intro S y3 y4 hq H locs ls hX hl
      rw [vc_X7_ofRank_L6] at hq
      refine lv_iload hM.1 hM.2.1 dX7_ofRank_6 (lv_at hl 4 rfl) ?_
      refine lv_aload_n hM.1 hM.2.1 dX7_ofRank_8 rfl (lv_at hl 0 rfl) ?_
      refine g15 hM hK hX m15 0 (by decide) qf_RX7_7 rfl dX7_ofRank_9 ?_
      refine lv_bipush (v := (15 : Int32)) hM.1 hM.2.1 dX7_ofRank_12 (by decide) ?_
      have c_1 := hq.1
      replace hq := hq.2
      refine r_iald hM hK hX m16 (a16 0 0) c_1 dX7_ofRank_14 ?_
      refine lv_icmp_ge (tgt := 127) hM.1 hM.2.1 dX7_ofRank_15 (by decide) (fun c_2 => ?_) (fun c_2 => ?_)
      · replace hq := hq.1 c_2
        exact hk S y3 hq _ _ _ hX (lv_sub hl [3] rfl)
      replace hq := hq.2 c_2
      refine lv_iconst (v := (0 : Int32)) hM.1 hM.2.1 dX7_ofRank_18 (by decide) ?_
      refine lv_istore (lv' := [(5, .int (0 : Int32)), (0, .ref (ad 15 0 0)), (1, .int x1), (2, .int x2), (3, .int y3), (4, .int y4)]) hM.1 hM.2.1 dX7_ofRank_19 hl (by decide) rfl (fun ls hl => ?_)
      refine lv_iconst (v := (0 : Int32)) hM.1 hM.2.1 dX7_ofRank_21 (by decide) ?_
      refine lv_istore (lv' := [(6, .int (0 : Int32)), (5, .int (0 : Int32)), (0, .ref (ad 15 0 0)), (1, .int x1), (2, .int x2), (3, .int y3), (4, .int y4)]) hM.1 hM.2.1 dX7_ofRank_22 hl (by decide) rfl (fun ls hl => ?_)
      obtain ⟨k0, hq⟩ := hq
      refine L24 (fun S_15 y3_16 y4_17 y5_18 hq H locs ls hX hl => ?_) k0 S y3 y4 (0 : Int32) (0 : Int32) hq _ _ _ hX (lv_sub hl [2, 3, 4, 5, 6, 1, 0] rfl)
      refine lv_aload_n hM.1 hM.2.1 dX7_ofRank_97 rfl (lv_at hl 0 rfl) ?_
      refine lv_iload hM.1 hM.2.1 dX7_ofRank_98 (lv_at hl 4 rfl) ?_
      refine lv_bipush (v := (7 : Int32)) hM.1 hM.2.1 dX7_ofRank_100 (by decide) ?_
      refine cVi (As := [.int y4_17, .int (7 : Int32)]) hM hK hX hA (met_X7_of l D ad cy S_15 y4_17 (7 : Int32) hq) (kX7_of hM.2.2.2.2 ql_RX7_66 (Nat.le_of_ble_eq_true rfl) (Nat.le_of_ble_eq_true rfl)) (v15 hK hX m15) rfl hl.1 rfl (Nat.le_of_ble_eq_true rfl) dX7_ofRank_102 ⟨Nat.zero_le _, Nat.zero_le _⟩ (fun S_19 r_20 hq H locs hX => ?_)
      refine lv_if_le (tgt := 119) hM.1 hM.2.1 dX7_ofRank_105 (by decide) (fun c_21 => ?_) (fun c_21 => ?_)
      · replace hq := hq.1 c_21
        exact J119 ih hk S_19 y3_16 y4_17 hq _ _ _ hX (lv_sub hl [0, 1, 2, 3, 4] rfl)
      replace hq := hq.2 c_21
      refine lv_iload hM.1 hM.2.1 dX7_ofRank_108 (lv_at hl 5 rfl) ?_
      refine lv_iload_n hM.1 hM.2.1 dX7_ofRank_110 rfl (lv_at hl 2 rfl) ?_
      refine lv_icmp_ne (tgt := 119) hM.1 hM.2.1 dX7_ofRank_111 (by decide) (fun c_22 => ?_) (fun c_22 => ?_)
      · replace hq := hq.1 c_22
        exact J119 ih hk S_19 y3_16 y4_17 hq _ _ _ hX (lv_sub hl [0, 1, 2, 3, 4] rfl)
      replace hq := hq.2 c_22
      refine lv_iload hM.1 hM.2.1 dX7_ofRank_114 (lv_at hl 4 rfl) ?_
      refine lv_goto (tgt := 120) hM.1 hM.2.1 dX7_ofRank_116 (by decide) ?_
      exact J120 ih hk S_19 y4_17 y4_17 hq _ _ _ hX (lv_sub hl [0, 1, 2, 4] rfl)
  unfold vc_X7_ofRank at hq
  refine lv_ldc hM.1 hM.2.1 hM.2.2.2.1 (hM.2.2.2.2 _ qn_RX7_47) dX7_ofRank_0 ?_
  refine lv_istore_n (lv' := [(3, .int (-999999 : Int32)), (0, .ref (ad 15 0 0)), (1, .int x1), (2, .int x2)]) hM.1 hM.2.1 dX7_ofRank_2 rfl hl (by decide) rfl (fun ls hl => ?_)
  refine lv_iconst (v := (0 : Int32)) hM.1 hM.2.1 dX7_ofRank_3 (by decide) ?_
  refine lv_istore (lv' := [(4, .int (0 : Int32)), (3, .int (-999999 : Int32)), (0, .ref (ad 15 0 0)), (1, .int x1), (2, .int x2)]) hM.1 hM.2.1 dX7_ofRank_4 hl (by decide) rfl (fun ls hl => ?_)
  obtain ⟨k0, hq⟩ := hq
  refine L6 (fun S_23 y3_24 hq H locs ls hX hl => ?_) k0 S (-999999 : Int32) (0 : Int32) hq _ _ _ hX (lv_sub hl [2, 3, 4, 1, 0] rfl)
  refine lv_iload_n hM.1 hM.2.1 dX7_ofRank_127 rfl (lv_at hl 0 rfl) ?_
  exact e_i hM hX hlocks hret hq dX7_ofRank_128
def rmX7_ranked : Room := { frames := 6, cells := 0, slots := 0, locals := 137 }
theorem kX7_ranked {R : Room} {s : State} {args : Array Value} {own : String} {index : Nat} (ht : ∀ w ∈ lw_all, w.before args s = true) (hl : Cond.methodLink own index yX7_ranked ∈ lw_all) (hf : rmX7_ranked.frames + 1 ≤ R.frames) (hlo : 8 + (3 + 11) + rmX7_ranked.locals ≤ R.locals) : CallW R s args own RX7 index yX7_ranked cX7_ranked 3 (some Jvm.ClassFile.FieldType.int) (wA yX7_ranked cX7_ranked 3 (some Jvm.ClassFile.FieldType.int)) rmX7_ranked 0 0 2 := cwV 2 ht (good_V hl qm_yX7_ranked qs_yX7_ranked qi_RX7 qc_yX7_ranked) rfl rfl rfl (by decide +kernel) ⟨hf, hlo⟩
set_option maxRecDepth 100000 in
set_option maxHeartbeats 4000000 in
theorem met_X7_ranked (l : Launch) (D : va_G) (ad : Adr) (cy : Nat → ClassId) (S : Mem) (x1 : Int32) (x2 : Int32) {Q : Mem → Int32 → Prop} (hq : vc_X7_ranked S x1 x2 Q) : Ci l yX7_ranked (wA yX7_ranked cX7_ranked 3 (some Jvm.ClassFile.FieldType.int)) rmX7_ranked D ad cy [.ref (ad 15 0 0), .int x1, .int x2] S Q := by
  intro o sz
  refine mkC (own := RX7) (lv := [(0, .ref (ad 15 0 0)), (1, .int x1), (2, .int x2)]) (by decide) rfl (Nat.le_of_ble_eq_true rfl) rfl ⟨rfl, rfl⟩ ?_
  intro p e s m below meth c ls hsz hM hlocks hret hK hA hX hl
  unfold vc_X7_ranked at hq
  refine lv_aload_n hM.1 hM.2.1 dX7_ranked_0 rfl (lv_at hl 0 rfl) ?_
  refine lv_iconst (v := (0 : Int32)) hM.1 hM.2.1 dX7_ranked_1 (by decide) ?_
  refine p15_6 hM hK hX m15 qf_RX7_48 dX7_ranked_2 (fun S_1 e_2 H locs hX => ?_)
  replace hq := hq S_1 e_2
  refine lv_iload_n hM.1 hM.2.1 dX7_ranked_5 rfl (lv_at hl 1 rfl) ?_
  refine lv_iconst (v := (0 : Int32)) hM.1 hM.2.1 dX7_ranked_6 (by decide) ?_
  refine lv_iconst (v := (1 : Int32)) hM.1 hM.2.1 dX7_ranked_7 (by decide) ?_
  refine cSi (As := [.int x1, .int (0 : Int32), .int (1 : Int32)]) hM hK hX hA (met_X7_in l D ad cy S_1 x1 (0 : Int32) (1 : Int32) hq) (kX7_in hM.2.2.2.2 ql_RX7_52 (Nat.le_of_ble_eq_true rfl) (Nat.le_of_ble_eq_true rfl)) rfl hl.1 rfl (Nat.le_of_ble_eq_true rfl) dX7_ranked_8 ⟨Nat.zero_le _, Nat.zero_le _⟩ (fun S_3 r_4 hq H locs hX => ?_)
  refine lv_if_eq (tgt := 27) hM.1 hM.2.1 dX7_ranked_11 (by decide) (fun c_5 => ?_) (fun c_5 => ?_)
  · replace hq := hq.1 c_5
    refine lv_aload_n hM.1 hM.2.1 dX7_ranked_27 rfl (lv_at hl 0 rfl) ?_
    refine lv_iconst (v := (1 : Int32)) hM.1 hM.2.1 dX7_ranked_28 (by decide) ?_
    refine cVi (As := [.int (1 : Int32)]) hM hK hX hA (met_X7_fails l D ad cy S_3 (1 : Int32) hq) (kX7_fails hM.2.2.2.2 ql_RX7_59 (Nat.le_of_ble_eq_true rfl) (Nat.le_of_ble_eq_true rfl)) (v15 hK hX m15) rfl hl.1 rfl (Nat.le_of_ble_eq_true rfl) dX7_ranked_29 ⟨Nat.zero_le _, Nat.zero_le _⟩ (fun S_6 r_7 hq H locs hX => ?_)
    exact e_i hM hX hlocks hret hq dX7_ranked_32
  replace hq := hq.2 c_5
  refine lv_iload_n hM.1 hM.2.1 dX7_ranked_14 rfl (lv_at hl 2 rfl) ?_
  refine lv_if_lt (tgt := 27) hM.1 hM.2.1 dX7_ranked_15 (by decide) (fun c_8 => ?_) (fun c_8 => ?_)
  · replace hq := hq.1 c_8
    refine lv_aload_n hM.1 hM.2.1 dX7_ranked_27 rfl (lv_at hl 0 rfl) ?_
    refine lv_iconst (v := (1 : Int32)) hM.1 hM.2.1 dX7_ranked_28 (by decide) ?_
    refine cVi (As := [.int (1 : Int32)]) hM hK hX hA (met_X7_fails l D ad cy S_3 (1 : Int32) hq) (kX7_fails hM.2.2.2.2 ql_RX7_59 (Nat.le_of_ble_eq_true rfl) (Nat.le_of_ble_eq_true rfl)) (v15 hK hX m15) rfl hl.1 rfl (Nat.le_of_ble_eq_true rfl) dX7_ranked_29 ⟨Nat.zero_le _, Nat.zero_le _⟩ (fun S_9 r_10 hq H locs hX => ?_)
    exact e_i hM hX hlocks hret hq dX7_ranked_32
  replace hq := hq.2 c_8
  refine lv_aload_n hM.1 hM.2.1 dX7_ranked_18 rfl (lv_at hl 0 rfl) ?_
  refine lv_iload_n hM.1 hM.2.1 dX7_ranked_19 rfl (lv_at hl 1 rfl) ?_
  refine lv_iload_n hM.1 hM.2.1 dX7_ranked_20 rfl (lv_at hl 2 rfl) ?_
  refine cVi (As := [.int x1, .int x2]) hM hK hX hA (met_X7_ofRank l D ad cy S_3 x1 x2 hq) (kX7_ofRank hM.2.2.2.2 ql_RX7_213 (Nat.le_of_ble_eq_true rfl) (Nat.le_of_ble_eq_true rfl)) (v15 hK hX m15) rfl hl.1 rfl (Nat.le_of_ble_eq_true rfl) dX7_ranked_21 ⟨Nat.zero_le _, Nat.zero_le _⟩ (fun S_11 r_12 hq H locs hX => ?_)
  refine lv_goto (tgt := 32) hM.1 hM.2.1 dX7_ranked_24 (by decide) ?_
  exact e_i hM hX hlocks hret hq dX7_ranked_32
def rmX7_between : Room := { frames := 3, cells := 0, slots := 0, locals := 67 }
theorem kX7_between {R : Room} {s : State} {args : Array Value} {own : String} {index : Nat} (ht : ∀ w ∈ lw_all, w.before args s = true) (hl : Cond.methodLink own index yX7_between ∈ lw_all) (hf : rmX7_between.frames + 1 ≤ R.frames) (hlo : 8 + (5 + 11) + rmX7_between.locals ≤ R.locals) : CallW R s args own RX7 index yX7_between cX7_between 5 (some Jvm.ClassFile.FieldType.int) (wA yX7_between cX7_between 5 (some Jvm.ClassFile.FieldType.int)) rmX7_between 0 0 2 := cwV 2 ht (good_V hl qm_yX7_between qs_yX7_between qi_RX7 qc_yX7_between) rfl rfl rfl (by decide +kernel) ⟨hf, hlo⟩
set_option maxRecDepth 100000 in
set_option maxHeartbeats 4000000 in
theorem met_X7_between (l : Launch) (D : va_G) (ad : Adr) (cy : Nat → ClassId) (S : Mem) (x1 : Int32) (x2 : Int32) {Q : Mem → Int32 → Prop} (hq : vc_X7_between S x1 x2 Q) : Ci l yX7_between (wA yX7_between cX7_between 5 (some Jvm.ClassFile.FieldType.int)) rmX7_between D ad cy [.ref (ad 15 0 0), .int x1, .int x2] S Q := by
  intro o sz
  refine mkC (own := RX7) (lv := [(0, .ref (ad 15 0 0)), (1, .int x1), (2, .int x2)]) (by decide) rfl (Nat.le_of_ble_eq_true rfl) rfl ⟨rfl, rfl⟩ ?_
  intro p e s m below meth c ls hsz hM hlocks hret hK hA hX hl
  have J53 : ∀ {K0 : Mem → Int32 → Int32 → Prop} (hk0 : ∀ (S : Mem) (y3 : Int32) (y4 : Int32), K0 S y3 y4 → ∀ (H : Heap) (locs : List Loc) (ls : Array Slot), PW D ad cy (AW ad sz) s.heap o S H locs → lv_has ls 5 [(0, .ref (ad 15 0 0)), (1, .int x1), (2, .int x2), (3, .int y3), (4, .int y4)] → Wi D ad cy o sz Q p l e rmX7_between s m [.ref (ad 15 0 0), .int x1, .int x2] below meth c H locs (F0 m 10 ls [])), ∀ {K1 : Mem → Int32 → Prop} (hk1 : ∀ (S : Mem) (y3 : Int32), K1 S y3 → ∀ (H : Heap) (locs : List Loc) (ls : Array Slot), PW D ad cy (AW ad sz) s.heap o S H locs → lv_has ls 5 [(3, .int y3)] → Wi D ad cy o sz Q p l e rmX7_between s m [.ref (ad 15 0 0), .int x1, .int x2] below meth c H locs (F0 m 61 ls [])), ∀ (S : Mem) (y4 : Int32) (w0 : Int32) (w1 : Int32), vc_X7_between_J53 Q K0 K1 x1 x2 S y4 w0 w1 → ∀ (H : Heap) (locs : List Loc) (ls : Array Slot), PW D ad cy (AW ad sz) s.heap o S H locs → lv_has ls 5 [(0, .ref (ad 15 0 0)), (1, .int x1), (2, .int x2), (4, .int y4)] → Wi D ad cy o sz Q p l e rmX7_between s m [.ref (ad 15 0 0), .int x1, .int x2] below meth c H locs (F0 m 53 ls [.int w1, .int w0]) := by
    intro K0 hk0 K1 hk1 S y4 w0 w1 hq H locs ls hX hl
    unfold vc_X7_between_J53 at hq
    refine lv_iadd hM.1 hM.2.1 dX7_between_53 ?_
    refine lv_istore_n (lv' := [(3, .int (w0 + w1)), (0, .ref (ad 15 0 0)), (1, .int x1), (2, .int x2), (4, .int y4)]) hM.1 hM.2.1 dX7_between_54 rfl hl (by decide) rfl (fun ls hl => ?_)
    refine lv_iinc (v := (y4 + (1 : Int32))) (lv' := [(4, .int (y4 + (1 : Int32))), (3, .int (w0 + w1)), (0, .ref (ad 15 0 0)), (1, .int x1), (2, .int x2)]) hM.1 hM.2.1 dX7_between_55 hl (k := 4) rfl rfl (by decide) rfl (fun ls hl => ?_)
    refine lv_goto (tgt := 10) hM.1 hM.2.1 dX7_between_58 (by decide) ?_
    exact hk0 S (w0 + w1) (y4 + (1 : Int32)) hq _ _ _ hX (lv_sub hl [2, 3, 4, 1, 0] rfl)
  have J52 : ∀ {K0 : Mem → Int32 → Int32 → Prop} (hk0 : ∀ (S : Mem) (y3 : Int32) (y4 : Int32), K0 S y3 y4 → ∀ (H : Heap) (locs : List Loc) (ls : Array Slot), PW D ad cy (AW ad sz) s.heap o S H locs → lv_has ls 5 [(0, .ref (ad 15 0 0)), (1, .int x1), (2, .int x2), (3, .int y3), (4, .int y4)] → Wi D ad cy o sz Q p l e rmX7_between s m [.ref (ad 15 0 0), .int x1, .int x2] below meth c H locs (F0 m 10 ls [])), ∀ {K1 : Mem → Int32 → Prop} (hk1 : ∀ (S : Mem) (y3 : Int32), K1 S y3 → ∀ (H : Heap) (locs : List Loc) (ls : Array Slot), PW D ad cy (AW ad sz) s.heap o S H locs → lv_has ls 5 [(3, .int y3)] → Wi D ad cy o sz Q p l e rmX7_between s m [.ref (ad 15 0 0), .int x1, .int x2] below meth c H locs (F0 m 61 ls [])), ∀ (S : Mem) (y4 : Int32) (w0 : Int32), vc_X7_between_J52 Q K0 K1 x1 x2 S y4 w0 → ∀ (H : Heap) (locs : List Loc) (ls : Array Slot), PW D ad cy (AW ad sz) s.heap o S H locs → lv_has ls 5 [(0, .ref (ad 15 0 0)), (1, .int x1), (2, .int x2), (4, .int y4)] → Wi D ad cy o sz Q p l e rmX7_between s m [.ref (ad 15 0 0), .int x1, .int x2] below meth c H locs (F0 m 52 ls [.int w0]) := by
    intro K0 hk0 K1 hk1 S y4 w0 hq H locs ls hX hl
    unfold vc_X7_between_J52 at hq
    refine lv_iconst (v := (0 : Int32)) hM.1 hM.2.1 dX7_between_52 (by decide) ?_
    exact J53 hk0 hk1 S y4 w0 (0 : Int32) hq _ _ _ hX (lv_sub hl [0, 1, 2, 3] rfl)
  have L10 : ∀ {K : Mem → Int32 → Prop} (hk : ∀ (S : Mem) (y3 : Int32), K S y3 → ∀ (H : Heap) (locs : List Loc) (ls : Array Slot), PW D ad cy (AW ad sz) s.heap o S H locs → lv_has ls 5 [(3, .int y3)] → Wi D ad cy o sz Q p l e rmX7_between s m [.ref (ad 15 0 0), .int x1, .int x2] below meth c H locs (F0 m 61 ls [])), ∀ (n : Nat) (S : Mem) (y3 : Int32) (y4 : Int32), vc_X7_between_L10 Q K x1 x2 n S y3 y4 → ∀ (H : Heap) (locs : List Loc) (ls : Array Slot), PW D ad cy (AW ad sz) s.heap o S H locs → lv_has ls 5 [(0, .ref (ad 15 0 0)), (1, .int x1), (2, .int x2), (3, .int y3), (4, .int y4)] → Wi D ad cy o sz Q p l e rmX7_between s m [.ref (ad 15 0 0), .int x1, .int x2] below meth c H locs (F0 m 10 ls []) := by
    intro K hk n
    induction n with
    | zero =>
      intro S y3 y4 hq
      rw [vc_X7_between_L10] at hq
      exact hq.elim
    | succ n ih =>
      intro S y3 y4 hq H locs ls hX hl
      rw [vc_X7_between_L10] at hq
      refine lv_iload hM.1 hM.2.1 dX7_between_10 (lv_at hl 4 rfl) ?_
      refine lv_aload_n hM.1 hM.2.1 dX7_between_12 rfl (lv_at hl 0 rfl) ?_
      refine g15 hM hK hX m15 0 (by decide) qf_RX7_7 rfl dX7_between_13 ?_
      refine lv_bipush (v := (15 : Int32)) hM.1 hM.2.1 dX7_between_16 (by decide) ?_
      have c_3 := hq.1
      replace hq := hq.2
      refine r_iald hM hK hX m16 (a16 0 0) c_3 dX7_between_18 ?_
      refine lv_icmp_ge (tgt := 61) hM.1 hM.2.1 dX7_between_19 (by decide) (fun c_4 => ?_) (fun c_4 => ?_)
      · replace hq := hq.1 c_4
        exact hk S y3 hq _ _ _ hX (lv_sub hl [3] rfl)
      replace hq := hq.2 c_4
      refine lv_iload_n hM.1 hM.2.1 dX7_between_22 rfl (lv_at hl 3 rfl) ?_
      refine lv_aload_n hM.1 hM.2.1 dX7_between_23 rfl (lv_at hl 0 rfl) ?_
      refine lv_iload hM.1 hM.2.1 dX7_between_24 (lv_at hl 4 rfl) ?_
      refine lv_bipush (v := (7 : Int32)) hM.1 hM.2.1 dX7_between_26 (by decide) ?_
      refine cVi (As := [.int y4, .int (7 : Int32)]) hM hK hX hA (met_X7_of l D ad cy S y4 (7 : Int32) hq) (kX7_of hM.2.2.2.2 ql_RX7_66 (Nat.le_of_ble_eq_true rfl) (Nat.le_of_ble_eq_true rfl)) (v15 hK hX m15) rfl hl.1 rfl (Nat.le_of_ble_eq_true rfl) dX7_between_28 ⟨Nat.zero_le _, Nat.zero_le _⟩ (fun S_5 r_6 hq H locs hX => ?_)
      refine lv_if_le (tgt := 52) hM.1 hM.2.1 dX7_between_31 (by decide) (fun c_7 => ?_) (fun c_7 => ?_)
      · replace hq := hq.1 c_7
        exact J52 ih hk S_5 y4 y3 hq _ _ _ hX (lv_sub hl [0, 1, 2, 4] rfl)
      replace hq := hq.2 c_7
      refine lv_aload_n hM.1 hM.2.1 dX7_between_34 rfl (lv_at hl 0 rfl) ?_
      refine lv_iload hM.1 hM.2.1 dX7_between_35 (lv_at hl 4 rfl) ?_
      refine cVi (As := [.int y4]) hM hK hX hA (met_X7_mended l D ad cy S_5 y4 hq) (kX7_mended hM.2.2.2.2 ql_RX7_80 (Nat.le_of_ble_eq_true rfl) (Nat.le_of_ble_eq_true rfl)) (v15 hK hX m15) rfl hl.1 rfl (Nat.le_of_ble_eq_true rfl) dX7_between_37 ⟨Nat.zero_le _, Nat.zero_le _⟩ (fun S_8 r_9 hq H locs hX => ?_)
      refine lv_iload_n hM.1 hM.2.1 dX7_between_40 rfl (lv_at hl 1 rfl) ?_
      refine lv_iload_n hM.1 hM.2.1 dX7_between_41 rfl (lv_at hl 2 rfl) ?_
      refine cSi (As := [.int r_9, .int x1, .int x2]) hM hK hX hA (met_X7_in l D ad cy S_8 r_9 x1 x2 hq) (kX7_in hM.2.2.2.2 ql_RX7_52 (Nat.le_of_ble_eq_true rfl) (Nat.le_of_ble_eq_true rfl)) rfl hl.1 rfl (Nat.le_of_ble_eq_true rfl) dX7_between_42 ⟨Nat.zero_le _, Nat.zero_le _⟩ (fun S_10 r_11 hq H locs hX => ?_)
      refine lv_if_eq (tgt := 52) hM.1 hM.2.1 dX7_between_45 (by decide) (fun c_12 => ?_) (fun c_12 => ?_)
      · replace hq := hq.1 c_12
        exact J52 ih hk S_10 y4 y3 hq _ _ _ hX (lv_sub hl [0, 1, 2, 4] rfl)
      replace hq := hq.2 c_12
      refine lv_iconst (v := (1 : Int32)) hM.1 hM.2.1 dX7_between_48 (by decide) ?_
      refine lv_goto (tgt := 53) hM.1 hM.2.1 dX7_between_49 (by decide) ?_
      exact J53 ih hk S_10 y4 y3 (1 : Int32) hq _ _ _ hX (lv_sub hl [0, 1, 2, 4] rfl)
  unfold vc_X7_between at hq
  refine lv_aload_n hM.1 hM.2.1 dX7_between_0 rfl (lv_at hl 0 rfl) ?_
  refine lv_iconst (v := (0 : Int32)) hM.1 hM.2.1 dX7_between_1 (by decide) ?_
  refine p15_6 hM hK hX m15 qf_RX7_48 dX7_between_2 (fun S_1 e_2 H locs hX => ?_)
  replace hq := hq S_1 e_2
  refine lv_iconst (v := (0 : Int32)) hM.1 hM.2.1 dX7_between_5 (by decide) ?_
  refine lv_istore_n (lv' := [(3, .int (0 : Int32)), (0, .ref (ad 15 0 0)), (1, .int x1), (2, .int x2)]) hM.1 hM.2.1 dX7_between_6 rfl hl (by decide) rfl (fun ls hl => ?_)
  refine lv_iconst (v := (0 : Int32)) hM.1 hM.2.1 dX7_between_7 (by decide) ?_
  refine lv_istore (lv' := [(4, .int (0 : Int32)), (3, .int (0 : Int32)), (0, .ref (ad 15 0 0)), (1, .int x1), (2, .int x2)]) hM.1 hM.2.1 dX7_between_8 hl (by decide) rfl (fun ls hl => ?_)
  obtain ⟨k0, hq⟩ := hq
  refine L10 (fun S_13 y3_14 hq H locs ls hX hl => ?_) k0 S_1 (0 : Int32) (0 : Int32) hq _ _ _ hX (lv_sub hl [2, 3, 4, 1, 0] rfl)
  refine lv_iload_n hM.1 hM.2.1 dX7_between_61 rfl (lv_at hl 0 rfl) ?_
  exact e_i hM hX hlocks hret hq dX7_between_62
def rmX7_ifLag : Room := { frames := 2, cells := 0, slots := 0, locals := 46 }
theorem kX7_ifLag {R : Room} {s : State} {args : Array Value} {own : String} {index : Nat} (ht : ∀ w ∈ lw_all, w.before args s = true) (hl : Cond.methodLink own index yX7_ifLag ∈ lw_all) (hf : rmX7_ifLag.frames + 1 ≤ R.frames) (hlo : 8 + (3 + 11) + rmX7_ifLag.locals ≤ R.locals) : CallW R s args own RX7 index yX7_ifLag cX7_ifLag 3 (some Jvm.ClassFile.FieldType.int) (wA yX7_ifLag cX7_ifLag 3 (some Jvm.ClassFile.FieldType.int)) rmX7_ifLag 0 0 2 := cwV 2 ht (good_V hl qm_yX7_ifLag qs_yX7_ifLag qi_RX7 qc_yX7_ifLag) rfl rfl rfl (by decide +kernel) ⟨hf, hlo⟩
set_option maxRecDepth 100000 in
set_option maxHeartbeats 4000000 in
theorem met_X7_ifLag (l : Launch) (D : va_G) (ad : Adr) (cy : Nat → ClassId) (S : Mem) (x1 : Int32) (x2 : Int32) {Q : Mem → Int32 → Prop} (hq : vc_X7_ifLag S x1 x2 Q) : Ci l yX7_ifLag (wA yX7_ifLag cX7_ifLag 3 (some Jvm.ClassFile.FieldType.int)) rmX7_ifLag D ad cy [.ref (ad 15 0 0), .int x1, .int x2] S Q := by
  intro o sz
  refine mkC (own := RX7) (lv := [(0, .ref (ad 15 0 0)), (1, .int x1), (2, .int x2)]) (by decide) rfl (Nat.le_of_ble_eq_true rfl) rfl ⟨rfl, rfl⟩ ?_
  intro p e s m below meth c ls hsz hM hlocks hret hK hA hX hl
  unfold vc_X7_ifLag at hq
  refine lv_aload_n hM.1 hM.2.1 dX7_ifLag_0 rfl (lv_at hl 0 rfl) ?_
  refine lv_iconst (v := (0 : Int32)) hM.1 hM.2.1 dX7_ifLag_1 (by decide) ?_
  refine p15_6 hM hK hX m15 qf_RX7_48 dX7_ifLag_2 (fun S_1 e_2 H locs hX => ?_)
  replace hq := hq S_1 e_2
  refine lv_aload_n hM.1 hM.2.1 dX7_ifLag_5 rfl (lv_at hl 0 rfl) ?_
  refine lv_iload_n hM.1 hM.2.1 dX7_ifLag_6 rfl (lv_at hl 1 rfl) ?_
  refine cVi (As := [.int x1]) hM hK hX hA (met_X7_is l D ad cy S_1 x1 hq) (kX7_is hM.2.2.2.2 ql_RX7_141 (Nat.le_of_ble_eq_true rfl) (Nat.le_of_ble_eq_true rfl)) (v15 hK hX m15) rfl hl.1 rfl (Nat.le_of_ble_eq_true rfl) dX7_ifLag_7 ⟨Nat.zero_le _, Nat.zero_le _⟩ (fun S_3 r_4 hq H locs hX => ?_)
  refine lv_if_ne (tgt := 19) hM.1 hM.2.1 dX7_ifLag_10 (by decide) (fun c_5 => ?_) (fun c_5 => ?_)
  · replace hq := hq.1 c_5
    refine lv_iload_n hM.1 hM.2.1 dX7_ifLag_19 rfl (lv_at hl 2 rfl) ?_
    refine lv_iconst (v := (1 : Int32)) hM.1 hM.2.1 dX7_ifLag_20 (by decide) ?_
    refine lv_bipush (v := (9 : Int32)) hM.1 hM.2.1 dX7_ifLag_21 (by decide) ?_
    refine cSi (As := [.int x2, .int (1 : Int32), .int (9 : Int32)]) hM hK hX hA (met_X7_in l D ad cy S_3 x2 (1 : Int32) (9 : Int32) hq) (kX7_in hM.2.2.2.2 ql_RX7_52 (Nat.le_of_ble_eq_true rfl) (Nat.le_of_ble_eq_true rfl)) rfl hl.1 rfl (Nat.le_of_ble_eq_true rfl) dX7_ifLag_23 ⟨Nat.zero_le _, Nat.zero_le _⟩ (fun S_6 r_7 hq H locs hX => ?_)
    refine lv_if_eq (tgt := 38) hM.1 hM.2.1 dX7_ifLag_26 (by decide) (fun c_8 => ?_) (fun c_8 => ?_)
    · replace hq := hq.1 c_8
      refine lv_aload_n hM.1 hM.2.1 dX7_ifLag_38 rfl (lv_at hl 0 rfl) ?_
      refine lv_iconst (v := (2 : Int32)) hM.1 hM.2.1 dX7_ifLag_39 (by decide) ?_
      refine cVi (As := [.int (2 : Int32)]) hM hK hX hA (met_X7_fails l D ad cy S_6 (2 : Int32) hq) (kX7_fails hM.2.2.2.2 ql_RX7_59 (Nat.le_of_ble_eq_true rfl) (Nat.le_of_ble_eq_true rfl)) (v15 hK hX m15) rfl hl.1 rfl (Nat.le_of_ble_eq_true rfl) dX7_ifLag_40 ⟨Nat.zero_le _, Nat.zero_le _⟩ (fun S_9 r_10 hq H locs hX => ?_)
      exact e_i hM hX hlocks hret hq dX7_ifLag_43
    replace hq := hq.2 c_8
    refine lv_aload_n hM.1 hM.2.1 dX7_ifLag_29 rfl (lv_at hl 0 rfl) ?_
    refine lv_iload_n hM.1 hM.2.1 dX7_ifLag_30 rfl (lv_at hl 1 rfl) ?_
    refine lv_iload_n hM.1 hM.2.1 dX7_ifLag_31 rfl (lv_at hl 2 rfl) ?_
    refine cVi (As := [.int x1, .int x2]) hM hK hX hA (met_X7_mendedBy l D ad cy S_6 x1 x2 hq) (kX7_mendedBy hM.2.2.2.2 ql_RX7_70 (Nat.le_of_ble_eq_true rfl) (Nat.le_of_ble_eq_true rfl)) (v15 hK hX m15) rfl hl.1 rfl (Nat.le_of_ble_eq_true rfl) dX7_ifLag_32 ⟨Nat.zero_le _, Nat.zero_le _⟩ (fun S_11 r_12 hq H locs hX => ?_)
    refine lv_goto (tgt := 43) hM.1 hM.2.1 dX7_ifLag_35 (by decide) ?_
    exact e_i hM hX hlocks hret hq dX7_ifLag_43
  replace hq := hq.2 c_5
  refine lv_aload_n hM.1 hM.2.1 dX7_ifLag_13 rfl (lv_at hl 0 rfl) ?_
  refine lv_iconst (v := (1 : Int32)) hM.1 hM.2.1 dX7_ifLag_14 (by decide) ?_
  refine cVi (As := [.int (1 : Int32)]) hM hK hX hA (met_X7_fails l D ad cy S_3 (1 : Int32) hq) (kX7_fails hM.2.2.2.2 ql_RX7_59 (Nat.le_of_ble_eq_true rfl) (Nat.le_of_ble_eq_true rfl)) (v15 hK hX m15) rfl hl.1 rfl (Nat.le_of_ble_eq_true rfl) dX7_ifLag_15 ⟨Nat.zero_le _, Nat.zero_le _⟩ (fun S_13 r_14 hq H locs hX => ?_)
  exact e_i hM hX hlocks hret hq dX7_ifLag_18
def rmX7_best : Room := { frames := 2, cells := 0, slots := 0, locals := 46 }
theorem kX7_best {R : Room} {s : State} {args : Array Value} {own : String} {index : Nat} (ht : ∀ w ∈ lw_all, w.before args s = true) (hl : Cond.methodLink own index yX7_best ∈ lw_all) (hf : rmX7_best.frames + 1 ≤ R.frames) (hlo : 8 + (4 + 11) + rmX7_best.locals ≤ R.locals) : CallW R s args own RX7 index yX7_best cX7_best 4 (some Jvm.ClassFile.FieldType.int) (wA yX7_best cX7_best 4 (some Jvm.ClassFile.FieldType.int)) rmX7_best 0 0 1 := cwV 1 ht (good_V hl qm_yX7_best qs_yX7_best qi_RX7 qc_yX7_best) rfl rfl rfl (by decide +kernel) ⟨hf, hlo⟩
set_option maxRecDepth 100000 in
set_option maxHeartbeats 4000000 in
theorem met_X7_best (l : Launch) (D : va_G) (ad : Adr) (cy : Nat → ClassId) (S : Mem) (x1 : Int32) {Q : Mem → Int32 → Prop} (hq : vc_X7_best S x1 Q) : Ci l yX7_best (wA yX7_best cX7_best 4 (some Jvm.ClassFile.FieldType.int)) rmX7_best D ad cy [.ref (ad 15 0 0), .int x1] S Q := by
  intro o sz
  refine mkC (own := RX7) (lv := [(0, .ref (ad 15 0 0)), (1, .int x1)]) (by decide) rfl (Nat.le_of_ble_eq_true rfl) rfl ⟨rfl, rfl⟩ ?_
  intro p e s m below meth c ls hsz hM hlocks hret hK hA hX hl
  have J63 : ∀ {K0 : Mem → Int32 → Int32 → Prop} (hk0 : ∀ (S : Mem) (y2 : Int32) (y3 : Int32), K0 S y2 y3 → ∀ (H : Heap) (locs : List Loc) (ls : Array Slot), PW D ad cy (AW ad sz) s.heap o S H locs → lv_has ls 4 [(0, .ref (ad 15 0 0)), (1, .int x1), (2, .int y2), (3, .int y3)] → Wi D ad cy o sz Q p l e rmX7_best s m [.ref (ad 15 0 0), .int x1] below meth c H locs (F0 m 17 ls [])), ∀ {K1 : Mem → Int32 → Prop} (hk1 : ∀ (S : Mem) (y2 : Int32), K1 S y2 → ∀ (H : Heap) (locs : List Loc) (ls : Array Slot), PW D ad cy (AW ad sz) s.heap o S H locs → lv_has ls 4 [(2, .int y2)] → Wi D ad cy o sz Q p l e rmX7_best s m [.ref (ad 15 0 0), .int x1] below meth c H locs (F0 m 70 ls [])), ∀ (S : Mem) (y3 : Int32) (w0 : Int32), vc_X7_best_J63 Q K0 K1 x1 S y3 w0 → ∀ (H : Heap) (locs : List Loc) (ls : Array Slot), PW D ad cy (AW ad sz) s.heap o S H locs → lv_has ls 4 [(0, .ref (ad 15 0 0)), (1, .int x1), (3, .int y3)] → Wi D ad cy o sz Q p l e rmX7_best s m [.ref (ad 15 0 0), .int x1] below meth c H locs (F0 m 63 ls [.int w0]) := by
    intro K0 hk0 K1 hk1 S y3 w0 hq H locs ls hX hl
    unfold vc_X7_best_J63 at hq
    refine lv_istore_n (lv' := [(2, .int w0), (0, .ref (ad 15 0 0)), (1, .int x1), (3, .int y3)]) hM.1 hM.2.1 dX7_best_63 rfl hl (by decide) rfl (fun ls hl => ?_)
    refine lv_iinc (v := (y3 + (1 : Int32))) (lv' := [(3, .int (y3 + (1 : Int32))), (2, .int w0), (0, .ref (ad 15 0 0)), (1, .int x1)]) hM.1 hM.2.1 dX7_best_64 hl (k := 3) rfl rfl (by decide) rfl (fun ls hl => ?_)
    refine lv_goto (tgt := 17) hM.1 hM.2.1 dX7_best_67 (by decide) ?_
    exact hk0 S w0 (y3 + (1 : Int32)) hq _ _ _ hX (lv_sub hl [2, 3, 1, 0] rfl)
  have L17 : ∀ {K : Mem → Int32 → Prop} (hk : ∀ (S : Mem) (y2 : Int32), K S y2 → ∀ (H : Heap) (locs : List Loc) (ls : Array Slot), PW D ad cy (AW ad sz) s.heap o S H locs → lv_has ls 4 [(2, .int y2)] → Wi D ad cy o sz Q p l e rmX7_best s m [.ref (ad 15 0 0), .int x1] below meth c H locs (F0 m 70 ls [])), ∀ (n : Nat) (S : Mem) (y2 : Int32) (y3 : Int32), vc_X7_best_L17 Q K x1 n S y2 y3 → ∀ (H : Heap) (locs : List Loc) (ls : Array Slot), PW D ad cy (AW ad sz) s.heap o S H locs → lv_has ls 4 [(0, .ref (ad 15 0 0)), (1, .int x1), (2, .int y2), (3, .int y3)] → Wi D ad cy o sz Q p l e rmX7_best s m [.ref (ad 15 0 0), .int x1] below meth c H locs (F0 m 17 ls []) := by
    intro K hk n
    induction n with
    | zero =>
      intro S y2 y3 hq
      rw [vc_X7_best_L17] at hq
      exact hq.elim
    | succ n ih =>
      intro S y2 y3 hq H locs ls hX hl
      rw [vc_X7_best_L17] at hq
      refine lv_iload_n hM.1 hM.2.1 dX7_best_17 rfl (lv_at hl 3 rfl) ?_
      refine lv_bipush (v := (9 : Int32)) hM.1 hM.2.1 dX7_best_18 (by decide) ?_
      refine lv_icmp_gt (tgt := 70) hM.1 hM.2.1 dX7_best_20 (by decide) (fun c_4 => ?_) (fun c_4 => ?_)
      · replace hq := hq.1 c_4
        exact hk S y2 hq _ _ _ hX (lv_sub hl [2] rfl)
      replace hq := hq.2 c_4
      refine lv_aload_n hM.1 hM.2.1 dX7_best_23 rfl (lv_at hl 0 rfl) ?_
      refine lv_iload_n hM.1 hM.2.1 dX7_best_24 rfl (lv_at hl 1 rfl) ?_
      refine lv_iload_n hM.1 hM.2.1 dX7_best_25 rfl (lv_at hl 3 rfl) ?_
      refine cVi (As := [.int x1, .int y3]) hM hK hX hA (met_X7_mendedBy l D ad cy S x1 y3 hq) (kX7_mendedBy hM.2.2.2.2 ql_RX7_70 (Nat.le_of_ble_eq_true rfl) (Nat.le_of_ble_eq_true rfl)) (v15 hK hX m15) rfl hl.1 rfl (Nat.le_of_ble_eq_true rfl) dX7_best_26 ⟨Nat.zero_le _, Nat.zero_le _⟩ (fun S_5 r_6 hq H locs hX => ?_)
      refine lv_aload_n hM.1 hM.2.1 dX7_best_29 rfl (lv_at hl 0 rfl) ?_
      refine g15 hM hK hX m15 0 (by decide) qf_RX7_7 rfl dX7_best_30 ?_
      refine lv_iconst (v := (1 : Int32)) hM.1 hM.2.1 dX7_best_33 (by decide) ?_
      have c_7 := hq.1
      replace hq := hq.2
      refine r_iald hM hK hX m16 (a16 0 0) c_7 dX7_best_34 ?_
      refine lv_isub hM.1 hM.2.1 dX7_best_35 ?_
      refine cSi (As := [.int (r_6 - (S_5 16 0 0 (1 : Int32).toNatClampNeg))]) hM hK hX hA (met_X7_size l D ad cy S_5 (r_6 - (S_5 16 0 0 (1 : Int32).toNatClampNeg)) hq) (kX7_size hM.2.2.2.2 ql_RX7_107 (Nat.le_of_ble_eq_true rfl) (Nat.le_of_ble_eq_true rfl)) rfl hl.1 rfl (Nat.le_of_ble_eq_true rfl) dX7_best_36 ⟨Nat.zero_le _, Nat.zero_le _⟩ (fun S_8 r_9 hq H locs hX => ?_)
      refine lv_aload_n hM.1 hM.2.1 dX7_best_39 rfl (lv_at hl 0 rfl) ?_
      refine lv_iload_n hM.1 hM.2.1 dX7_best_40 rfl (lv_at hl 1 rfl) ?_
      refine lv_iload_n hM.1 hM.2.1 dX7_best_41 rfl (lv_at hl 2 rfl) ?_
      refine cVi (As := [.int x1, .int y2]) hM hK hX hA (met_X7_mendedBy l D ad cy S_8 x1 y2 hq) (kX7_mendedBy hM.2.2.2.2 ql_RX7_70 (Nat.le_of_ble_eq_true rfl) (Nat.le_of_ble_eq_true rfl)) (v15 hK hX m15) rfl hl.1 rfl (Nat.le_of_ble_eq_true rfl) dX7_best_42 ⟨Nat.zero_le _, Nat.zero_le _⟩ (fun S_10 r_11 hq H locs hX => ?_)
      refine lv_aload_n hM.1 hM.2.1 dX7_best_45 rfl (lv_at hl 0 rfl) ?_
      refine g15 hM hK hX m15 0 (by decide) qf_RX7_7 rfl dX7_best_46 ?_
      refine lv_iconst (v := (1 : Int32)) hM.1 hM.2.1 dX7_best_49 (by decide) ?_
      have c_12 := hq.1
      replace hq := hq.2
      refine r_iald hM hK hX m16 (a16 0 0) c_12 dX7_best_50 ?_
      refine lv_isub hM.1 hM.2.1 dX7_best_51 ?_
      refine cSi (As := [.int (r_11 - (S_10 16 0 0 (1 : Int32).toNatClampNeg))]) hM hK hX hA (met_X7_size l D ad cy S_10 (r_11 - (S_10 16 0 0 (1 : Int32).toNatClampNeg)) hq) (kX7_size hM.2.2.2.2 ql_RX7_107 (Nat.le_of_ble_eq_true rfl) (Nat.le_of_ble_eq_true rfl)) rfl hl.1 rfl (Nat.le_of_ble_eq_true rfl) dX7_best_52 ⟨Nat.zero_le _, Nat.zero_le _⟩ (fun S_13 r_14 hq H locs hX => ?_)
      refine lv_icmp_ge (tgt := 62) hM.1 hM.2.1 dX7_best_55 (by decide) (fun c_15 => ?_) (fun c_15 => ?_)
      · replace hq := hq.1 c_15
        refine lv_iload_n hM.1 hM.2.1 dX7_best_62 rfl (lv_at hl 2 rfl) ?_
        exact J63 ih hk S_13 y3 y2 hq _ _ _ hX (lv_sub hl [0, 1, 3] rfl)
      replace hq := hq.2 c_15
      refine lv_iload_n hM.1 hM.2.1 dX7_best_58 rfl (lv_at hl 3 rfl) ?_
      refine lv_goto (tgt := 63) hM.1 hM.2.1 dX7_best_59 (by decide) ?_
      exact J63 ih hk S_13 y3 y3 hq _ _ _ hX (lv_sub hl [0, 1, 3] rfl)
  unfold vc_X7_best at hq
  refine lv_aload_n hM.1 hM.2.1 dX7_best_0 rfl (lv_at hl 0 rfl) ?_
  refine lv_iload_n hM.1 hM.2.1 dX7_best_1 rfl (lv_at hl 1 rfl) ?_
  refine lv_bipush (v := (7 : Int32)) hM.1 hM.2.1 dX7_best_2 (by decide) ?_
  refine cVi (As := [.int x1, .int (7 : Int32)]) hM hK hX hA (met_X7_of l D ad cy S x1 (7 : Int32) hq) (kX7_of hM.2.2.2.2 ql_RX7_66 (Nat.le_of_ble_eq_true rfl) (Nat.le_of_ble_eq_true rfl)) (v15 hK hX m15) rfl hl.1 rfl (Nat.le_of_ble_eq_true rfl) dX7_best_4 ⟨Nat.zero_le _, Nat.zero_le _⟩ (fun S_1 r_2 hq H locs hX => ?_)
  refine lv_if_ne (tgt := 13) hM.1 hM.2.1 dX7_best_7 (by decide) (fun c_3 => ?_) (fun c_3 => ?_)
  · replace hq := hq.1 c_3
    refine lv_iconst (v := (1 : Int32)) hM.1 hM.2.1 dX7_best_13 (by decide) ?_
    refine lv_istore_n (lv' := [(2, .int (1 : Int32)), (0, .ref (ad 15 0 0)), (1, .int x1)]) hM.1 hM.2.1 dX7_best_14 rfl hl (by decide) rfl (fun ls hl => ?_)
    refine lv_iconst (v := (2 : Int32)) hM.1 hM.2.1 dX7_best_15 (by decide) ?_
    refine lv_istore_n (lv' := [(3, .int (2 : Int32)), (2, .int (1 : Int32)), (0, .ref (ad 15 0 0)), (1, .int x1)]) hM.1 hM.2.1 dX7_best_16 rfl hl (by decide) rfl (fun ls hl => ?_)
    obtain ⟨k0, hq⟩ := hq
    refine L17 (fun S_16 y2_17 hq H locs ls hX hl => ?_) k0 S_1 (1 : Int32) (2 : Int32) hq _ _ _ hX (lv_sub hl [2, 3, 1, 0] rfl)
    refine lv_iload_n hM.1 hM.2.1 dX7_best_70 rfl (lv_at hl 0 rfl) ?_
    exact e_i hM hX hlocks hret hq dX7_best_71
  replace hq := hq.2 c_3
  refine lv_ldc hM.1 hM.2.1 hM.2.2.2.1 (hM.2.2.2.2 _ qn_RX7_47) dX7_best_10 ?_
  exact e_i hM hX hlocks hret hq dX7_best_12
def rmX7_bestLag : Room := { frames := 3, cells := 0, slots := 0, locals := 69 }
theorem kX7_bestLag {R : Room} {s : State} {args : Array Value} {own : String} {index : Nat} (ht : ∀ w ∈ lw_all, w.before args s = true) (hl : Cond.methodLink own index yX7_bestLag ∈ lw_all) (hf : rmX7_bestLag.frames + 1 ≤ R.frames) (hlo : 8 + (2 + 11) + rmX7_bestLag.locals ≤ R.locals) : CallW R s args own RX7 index yX7_bestLag cX7_bestLag 2 (some Jvm.ClassFile.FieldType.int) (wA yX7_bestLag cX7_bestLag 2 (some Jvm.ClassFile.FieldType.int)) rmX7_bestLag 0 0 1 := cwV 1 ht (good_V hl qm_yX7_bestLag qs_yX7_bestLag qi_RX7 qc_yX7_bestLag) rfl rfl rfl (by decide +kernel) ⟨hf, hlo⟩
set_option maxRecDepth 100000 in
set_option maxHeartbeats 4000000 in
theorem met_X7_bestLag (l : Launch) (D : va_G) (ad : Adr) (cy : Nat → ClassId) (S : Mem) (x1 : Int32) {Q : Mem → Int32 → Prop} (hq : vc_X7_bestLag S x1 Q) : Ci l yX7_bestLag (wA yX7_bestLag cX7_bestLag 2 (some Jvm.ClassFile.FieldType.int)) rmX7_bestLag D ad cy [.ref (ad 15 0 0), .int x1] S Q := by
  intro o sz
  refine mkC (own := RX7) (lv := [(0, .ref (ad 15 0 0)), (1, .int x1)]) (by decide) rfl (Nat.le_of_ble_eq_true rfl) rfl ⟨rfl, rfl⟩ ?_
  intro p e s m below meth c ls hsz hM hlocks hret hK hA hX hl
  unfold vc_X7_bestLag at hq
  refine lv_aload_n hM.1 hM.2.1 dX7_bestLag_0 rfl (lv_at hl 0 rfl) ?_
  refine lv_iconst (v := (0 : Int32)) hM.1 hM.2.1 dX7_bestLag_1 (by decide) ?_
  refine p15_6 hM hK hX m15 qf_RX7_48 dX7_bestLag_2 (fun S_1 e_2 H locs hX => ?_)
  replace hq := hq S_1 e_2
  refine lv_aload_n hM.1 hM.2.1 dX7_bestLag_5 rfl (lv_at hl 0 rfl) ?_
  refine lv_iload_n hM.1 hM.2.1 dX7_bestLag_6 rfl (lv_at hl 1 rfl) ?_
  refine cVi (As := [.int x1]) hM hK hX hA (met_X7_is l D ad cy S_1 x1 hq) (kX7_is hM.2.2.2.2 ql_RX7_141 (Nat.le_of_ble_eq_true rfl) (Nat.le_of_ble_eq_true rfl)) (v15 hK hX m15) rfl hl.1 rfl (Nat.le_of_ble_eq_true rfl) dX7_bestLag_7 ⟨Nat.zero_le _, Nat.zero_le _⟩ (fun S_3 r_4 hq H locs hX => ?_)
  refine lv_if_eq (tgt := 21) hM.1 hM.2.1 dX7_bestLag_10 (by decide) (fun c_5 => ?_) (fun c_5 => ?_)
  · replace hq := hq.1 c_5
    refine lv_aload_n hM.1 hM.2.1 dX7_bestLag_21 rfl (lv_at hl 0 rfl) ?_
    refine lv_iconst (v := (1 : Int32)) hM.1 hM.2.1 dX7_bestLag_22 (by decide) ?_
    refine cVi (As := [.int (1 : Int32)]) hM hK hX hA (met_X7_fails l D ad cy S_3 (1 : Int32) hq) (kX7_fails hM.2.2.2.2 ql_RX7_59 (Nat.le_of_ble_eq_true rfl) (Nat.le_of_ble_eq_true rfl)) (v15 hK hX m15) rfl hl.1 rfl (Nat.le_of_ble_eq_true rfl) dX7_bestLag_23 ⟨Nat.zero_le _, Nat.zero_le _⟩ (fun S_6 r_7 hq H locs hX => ?_)
    exact e_i hM hX hlocks hret hq dX7_bestLag_26
  replace hq := hq.2 c_5
  refine lv_aload_n hM.1 hM.2.1 dX7_bestLag_13 rfl (lv_at hl 0 rfl) ?_
  refine lv_iload_n hM.1 hM.2.1 dX7_bestLag_14 rfl (lv_at hl 1 rfl) ?_
  refine cVi (As := [.int x1]) hM hK hX hA (met_X7_best l D ad cy S_3 x1 hq) (kX7_best hM.2.2.2.2 ql_RX7_216 (Nat.le_of_ble_eq_true rfl) (Nat.le_of_ble_eq_true rfl)) (v15 hK hX m15) rfl hl.1 rfl (Nat.le_of_ble_eq_true rfl) dX7_bestLag_15 ⟨Nat.zero_le _, Nat.zero_le _⟩ (fun S_8 r_9 hq H locs hX => ?_)
  refine lv_goto (tgt := 26) hM.1 hM.2.1 dX7_bestLag_18 (by decide) ?_
  exact e_i hM hX hlocks hret hq dX7_bestLag_26
def rmX7_widest : Room := { frames := 1, cells := 0, slots := 0, locals := 22 }
theorem kX7_widest {R : Room} {s : State} {args : Array Value} {own : String} {index : Nat} (ht : ∀ w ∈ lw_all, w.before args s = true) (hl : Cond.methodLink own index yX7_widest ∈ lw_all) (hf : rmX7_widest.frames + 1 ≤ R.frames) (hlo : 8 + (4 + 11) + rmX7_widest.locals ≤ R.locals) : CallW R s args own RX7 index yX7_widest cX7_widest 4 (some Jvm.ClassFile.FieldType.int) (wA yX7_widest cX7_widest 4 (some Jvm.ClassFile.FieldType.int)) rmX7_widest 0 0 0 := cwV 0 ht (good_V hl qm_yX7_widest qs_yX7_widest qi_RX7 qc_yX7_widest) rfl rfl rfl (by decide +kernel) ⟨hf, hlo⟩
set_option maxRecDepth 100000 in
set_option maxHeartbeats 4000000 in
theorem met_X7_widest (l : Launch) (D : va_G) (ad : Adr) (cy : Nat → ClassId) (S : Mem) {Q : Mem → Int32 → Prop} (hq : vc_X7_widest S Q) : Ci l yX7_widest (wA yX7_widest cX7_widest 4 (some Jvm.ClassFile.FieldType.int)) rmX7_widest D ad cy [.ref (ad 15 0 0)] S Q := by
  intro o sz
  refine mkC (own := RX7) (lv := [(0, .ref (ad 15 0 0))]) (by decide) rfl (Nat.le_of_ble_eq_true rfl) rfl ⟨rfl, rfl⟩ ?_
  intro p e s m below meth c ls hsz hM hlocks hret hK hA hX hl
  have J49 : ∀ {K0 : Mem → Int32 → Int32 → Prop} (hk0 : ∀ (S : Mem) (y1 : Int32) (y2 : Int32), K0 S y1 y2 → ∀ (H : Heap) (locs : List Loc) (ls : Array Slot), PW D ad cy (AW ad sz) s.heap o S H locs → lv_has ls 4 [(0, .ref (ad 15 0 0)), (1, .int y1), (2, .int y2)] → Wi D ad cy o sz Q p l e rmX7_widest s m [.ref (ad 15 0 0)] below meth c H locs (F0 m 4 ls [])), ∀ {K1 : Mem → Int32 → Prop} (hk1 : ∀ (S : Mem) (y1 : Int32), K1 S y1 → ∀ (H : Heap) (locs : List Loc) (ls : Array Slot), PW D ad cy (AW ad sz) s.heap o S H locs → lv_has ls 4 [(1, .int y1)] → Wi D ad cy o sz Q p l e rmX7_widest s m [.ref (ad 15 0 0)] below meth c H locs (F0 m 56 ls [])), ∀ (S : Mem) (y2 : Int32) (w0 : Int32), vc_X7_widest_J49 Q K0 K1 S y2 w0 → ∀ (H : Heap) (locs : List Loc) (ls : Array Slot), PW D ad cy (AW ad sz) s.heap o S H locs → lv_has ls 4 [(0, .ref (ad 15 0 0)), (2, .int y2)] → Wi D ad cy o sz Q p l e rmX7_widest s m [.ref (ad 15 0 0)] below meth c H locs (F0 m 49 ls [.int w0]) := by
    intro K0 hk0 K1 hk1 S y2 w0 hq H locs ls hX hl
    unfold vc_X7_widest_J49 at hq
    refine lv_istore_n (lv' := [(1, .int w0), (0, .ref (ad 15 0 0)), (2, .int y2)]) hM.1 hM.2.1 dX7_widest_49 rfl hl (by decide) rfl (fun ls hl => ?_)
    refine lv_iinc (v := (y2 + (1 : Int32))) (lv' := [(2, .int (y2 + (1 : Int32))), (1, .int w0), (0, .ref (ad 15 0 0))]) hM.1 hM.2.1 dX7_widest_50 hl (k := 2) rfl rfl (by decide) rfl (fun ls hl => ?_)
    refine lv_goto (tgt := 4) hM.1 hM.2.1 dX7_widest_53 (by decide) ?_
    exact hk0 S w0 (y2 + (1 : Int32)) hq _ _ _ hX (lv_sub hl [2, 1, 0] rfl)
  have L4 : ∀ {K : Mem → Int32 → Prop} (hk : ∀ (S : Mem) (y1 : Int32), K S y1 → ∀ (H : Heap) (locs : List Loc) (ls : Array Slot), PW D ad cy (AW ad sz) s.heap o S H locs → lv_has ls 4 [(1, .int y1)] → Wi D ad cy o sz Q p l e rmX7_widest s m [.ref (ad 15 0 0)] below meth c H locs (F0 m 56 ls [])), ∀ (n : Nat) (S : Mem) (y1 : Int32) (y2 : Int32), vc_X7_widest_L4 Q K n S y1 y2 → ∀ (H : Heap) (locs : List Loc) (ls : Array Slot), PW D ad cy (AW ad sz) s.heap o S H locs → lv_has ls 4 [(0, .ref (ad 15 0 0)), (1, .int y1), (2, .int y2)] → Wi D ad cy o sz Q p l e rmX7_widest s m [.ref (ad 15 0 0)] below meth c H locs (F0 m 4 ls []) := by
    intro K hk n
    induction n with
    | zero =>
      intro S y1 y2 hq
      rw [vc_X7_widest_L4] at hq
      exact hq.elim
    | succ n ih =>
      intro S y1 y2 hq H locs ls hX hl
      rw [vc_X7_widest_L4] at hq
      refine lv_iload_n hM.1 hM.2.1 dX7_widest_4 rfl (lv_at hl 2 rfl) ?_
      refine lv_aload_n hM.1 hM.2.1 dX7_widest_5 rfl (lv_at hl 0 rfl) ?_
      refine g15 hM hK hX m15 0 (by decide) qf_RX7_7 rfl dX7_widest_6 ?_
      refine lv_bipush (v := (15 : Int32)) hM.1 hM.2.1 dX7_widest_9 (by decide) ?_
      have c_1 := hq.1
      replace hq := hq.2
      refine r_iald hM hK hX m16 (a16 0 0) c_1 dX7_widest_11 ?_
      refine lv_icmp_ge (tgt := 56) hM.1 hM.2.1 dX7_widest_12 (by decide) (fun c_2 => ?_) (fun c_2 => ?_)
      · replace hq := hq.1 c_2
        exact hk S y1 hq _ _ _ hX (lv_sub hl [1] rfl)
      replace hq := hq.2 c_2
      refine lv_aload_n hM.1 hM.2.1 dX7_widest_15 rfl (lv_at hl 0 rfl) ?_
      refine lv_iload_n hM.1 hM.2.1 dX7_widest_16 rfl (lv_at hl 2 rfl) ?_
      refine lv_iconst (v := (4 : Int32)) hM.1 hM.2.1 dX7_widest_17 (by decide) ?_
      refine cVi (As := [.int y2, .int (4 : Int32)]) hM hK hX hA (met_X7_of l D ad cy S y2 (4 : Int32) hq) (kX7_of hM.2.2.2.2 ql_RX7_66 (Nat.le_of_ble_eq_true rfl) (Nat.le_of_ble_eq_true rfl)) (v15 hK hX m15) rfl hl.1 rfl (Nat.le_of_ble_eq_true rfl) dX7_widest_18 ⟨Nat.zero_le _, Nat.zero_le _⟩ (fun S_3 r_4 hq H locs hX => ?_)
      refine lv_aload_n hM.1 hM.2.1 dX7_widest_21 rfl (lv_at hl 0 rfl) ?_
      refine lv_iload_n hM.1 hM.2.1 dX7_widest_22 rfl (lv_at hl 2 rfl) ?_
      refine lv_iconst (v := (2 : Int32)) hM.1 hM.2.1 dX7_widest_23 (by decide) ?_
      refine cVi (As := [.int y2, .int (2 : Int32)]) hM hK hX hA (met_X7_of l D ad cy S_3 y2 (2 : Int32) hq) (kX7_of hM.2.2.2.2 ql_RX7_66 (Nat.le_of_ble_eq_true rfl) (Nat.le_of_ble_eq_true rfl)) (v15 hK hX m15) rfl hl.1 rfl (Nat.le_of_ble_eq_true rfl) dX7_widest_24 ⟨Nat.zero_le _, Nat.zero_le _⟩ (fun S_5 r_6 hq H locs hX => ?_)
      refine lv_isub hM.1 hM.2.1 dX7_widest_27 ?_
      refine lv_aload_n hM.1 hM.2.1 dX7_widest_28 rfl (lv_at hl 0 rfl) ?_
      refine g15 hM hK hX m15 0 (by decide) qf_RX7_7 rfl dX7_widest_29 ?_
      refine lv_iconst (v := (1 : Int32)) hM.1 hM.2.1 dX7_widest_32 (by decide) ?_
      have c_7 := hq.1
      replace hq := hq.2
      refine r_iald hM hK hX m16 (a16 0 0) c_7 dX7_widest_33 ?_
      refine lv_isub hM.1 hM.2.1 dX7_widest_34 ?_
      refine cSi (As := [.int ((r_4 - r_6) - (S_5 16 0 0 (1 : Int32).toNatClampNeg))]) hM hK hX hA (met_X7_size l D ad cy S_5 ((r_4 - r_6) - (S_5 16 0 0 (1 : Int32).toNatClampNeg)) hq) (kX7_size hM.2.2.2.2 ql_RX7_107 (Nat.le_of_ble_eq_true rfl) (Nat.le_of_ble_eq_true rfl)) rfl hl.1 rfl (Nat.le_of_ble_eq_true rfl) dX7_widest_35 ⟨Nat.zero_le _, Nat.zero_le _⟩ (fun S_8 r_9 hq H locs hX => ?_)
      refine lv_istore_n (lv' := [(3, .int r_9), (0, .ref (ad 15 0 0)), (1, .int y1), (2, .int y2)]) hM.1 hM.2.1 dX7_widest_38 rfl hl (by decide) rfl (fun ls hl => ?_)
      refine lv_iload_n hM.1 hM.2.1 dX7_widest_39 rfl (lv_at hl 0 rfl) ?_
      refine lv_iload_n hM.1 hM.2.1 dX7_widest_40 rfl (lv_at hl 2 rfl) ?_
      refine lv_icmp_le (tgt := 48) hM.1 hM.2.1 dX7_widest_41 (by decide) (fun c_10 => ?_) (fun c_10 => ?_)
      · replace hq := hq.1 c_10
        refine lv_iload_n hM.1 hM.2.1 dX7_widest_48 rfl (lv_at hl 2 rfl) ?_
        exact J49 ih hk S_8 y2 y1 hq _ _ _ hX (lv_sub hl [1, 3] rfl)
      replace hq := hq.2 c_10
      refine lv_iload_n hM.1 hM.2.1 dX7_widest_44 rfl (lv_at hl 0 rfl) ?_
      refine lv_goto (tgt := 49) hM.1 hM.2.1 dX7_widest_45 (by decide) ?_
      exact J49 ih hk S_8 y2 r_9 hq _ _ _ hX (lv_sub hl [1, 3] rfl)
  unfold vc_X7_widest at hq
  refine lv_iconst (v := (0 : Int32)) hM.1 hM.2.1 dX7_widest_0 (by decide) ?_
  refine lv_istore_n (lv' := [(1, .int (0 : Int32)), (0, .ref (ad 15 0 0))]) hM.1 hM.2.1 dX7_widest_1 rfl hl (by decide) rfl (fun ls hl => ?_)
  refine lv_iconst (v := (0 : Int32)) hM.1 hM.2.1 dX7_widest_2 (by decide) ?_
  refine lv_istore_n (lv' := [(2, .int (0 : Int32)), (1, .int (0 : Int32)), (0, .ref (ad 15 0 0))]) hM.1 hM.2.1 dX7_widest_3 rfl hl (by decide) rfl (fun ls hl => ?_)
  obtain ⟨k0, hq⟩ := hq
  refine L4 (fun S_11 y1_12 hq H locs ls hX hl => ?_) k0 S (0 : Int32) (0 : Int32) hq _ _ _ hX (lv_sub hl [2, 1, 0] rfl)
  refine lv_iload_n hM.1 hM.2.1 dX7_widest_56 rfl (lv_at hl 0 rfl) ?_
  exact e_i hM hX hlocks hret hq dX7_widest_57
def rmX7_behind : Room := { frames := 7, cells := 0, slots := 0, locals := 154 }
theorem kX7_behind {R : Room} {s : State} {args : Array Value} {own : String} {index : Nat} (ht : ∀ w ∈ lw_all, w.before args s = true) (hl : Cond.methodLink own index yX7_behind ∈ lw_all) (hf : rmX7_behind.frames + 1 ≤ R.frames) (hlo : 8 + (5 + 11) + rmX7_behind.locals ≤ R.locals) : CallW R s args own RX7 index yX7_behind cX7_behind 5 (some Jvm.ClassFile.FieldType.int) (wA yX7_behind cX7_behind 5 (some Jvm.ClassFile.FieldType.int)) rmX7_behind 0 0 2 := cwV 2 ht (good_V hl qm_yX7_behind qs_yX7_behind qi_RX7 qc_yX7_behind) rfl rfl rfl (by decide +kernel) ⟨hf, hlo⟩
set_option maxRecDepth 100000 in
set_option maxHeartbeats 4000000 in
theorem met_X7_behind (l : Launch) (D : va_G) (ad : Adr) (cy : Nat → ClassId) (S : Mem) (x1 : Int32) (x2 : Int32) {Q : Mem → Int32 → Prop} (hq : vc_X7_behind S x1 x2 Q) : Ci l yX7_behind (wA yX7_behind cX7_behind 5 (some Jvm.ClassFile.FieldType.int)) rmX7_behind D ad cy [.ref (ad 15 0 0), .int x1, .int x2] S Q := by
  intro o sz
  refine mkC (own := RX7) (lv := [(0, .ref (ad 15 0 0)), (1, .int x1), (2, .int x2)]) (by decide) rfl (Nat.le_of_ble_eq_true rfl) rfl ⟨rfl, rfl⟩ ?_
  intro p e s m below meth c ls hsz hM hlocks hret hK hA hX hl
  have L2 : ∀ {K : Mem → Prop} (hk : ∀ (S : Mem), K S → ∀ (H : Heap) (locs : List Loc) (ls : Array Slot), PW D ad cy (AW ad sz) s.heap o S H locs → lv_has ls 5 [(0, .ref (ad 15 0 0)), (1, .int x1), (2, .int x2)] → Wi D ad cy o sz Q p l e rmX7_behind s m [.ref (ad 15 0 0), .int x1, .int x2] below meth c H locs (F0 m 27 ls [])), ∀ (n : Nat) (S : Mem) (y3 : Int32), vc_X7_behind_L2 Q K x1 x2 n S y3 → ∀ (H : Heap) (locs : List Loc) (ls : Array Slot), PW D ad cy (AW ad sz) s.heap o S H locs → lv_has ls 5 [(0, .ref (ad 15 0 0)), (1, .int x1), (2, .int x2), (3, .int y3)] → Wi D ad cy o sz Q p l e rmX7_behind s m [.ref (ad 15 0 0), .int x1, .int x2] below meth c H locs (F0 m 2 ls []) := by
    intro K hk n
    induction n with
    | zero =>
      intro S y3 hq
      rw [vc_X7_behind_L2] at hq
      exact hq.elim
    | succ n ih =>
      intro S y3 hq H locs ls hX hl
      rw [vc_X7_behind_L2] at hq
      refine lv_iload_n hM.1 hM.2.1 dX7_behind_2 rfl (lv_at hl 3 rfl) ?_
      refine lv_sipush (v := (226 : Int32)) hM.1 hM.2.1 dX7_behind_3 (by decide) ?_
      refine lv_icmp_ge (tgt := 27) hM.1 hM.2.1 dX7_behind_6 (by decide) (fun c_1 => ?_) (fun c_1 => ?_)
      · replace hq := hq.1 c_1
        exact hk S hq _ _ _ hX (lv_sub hl [0, 1, 2] rfl)
      replace hq := hq.2 c_1
      refine lv_aload_n hM.1 hM.2.1 dX7_behind_9 rfl (lv_at hl 0 rfl) ?_
      refine g15 hM hK hX m15 5 (by decide) qf_RX7_23 rfl dX7_behind_10 ?_
      refine lv_iload_n hM.1 hM.2.1 dX7_behind_13 rfl (lv_at hl 3 rfl) ?_
      refine lv_aload_n hM.1 hM.2.1 dX7_behind_14 rfl (lv_at hl 0 rfl) ?_
      refine g15 hM hK hX m15 0 (by decide) qf_RX7_7 rfl dX7_behind_15 ?_
      refine lv_iload_n hM.1 hM.2.1 dX7_behind_18 rfl (lv_at hl 3 rfl) ?_
      have c_2 := hq.1
      replace hq := hq.2
      refine r_iald hM hK hX m16 (a16 0 0) c_2 dX7_behind_19 ?_
      have c_4 := hq.1
      replace hq := hq.2
      refine r_iast hM hK hX m20 (a20 0 0) c_4 dX7_behind_20 (fun S_3 e_5 H locs hX => ?_)
      replace hq := hq S_3 e_5
      refine lv_iinc (v := (y3 + (1 : Int32))) (lv' := [(3, .int (y3 + (1 : Int32))), (0, .ref (ad 15 0 0)), (1, .int x1), (2, .int x2)]) hM.1 hM.2.1 dX7_behind_21 hl (k := 3) rfl rfl (by decide) rfl (fun ls hl => ?_)
      refine lv_goto (tgt := 2) hM.1 hM.2.1 dX7_behind_24 (by decide) ?_
      exact ih S_3 (y3 + (1 : Int32)) hq _ _ _ hX (lv_sub hl [1, 2, 3, 0] rfl)
  have L29 : ∀ {K : Mem → Prop} (hk : ∀ (S : Mem), K S → ∀ (H : Heap) (locs : List Loc) (ls : Array Slot), PW D ad cy (AW ad sz) s.heap o S H locs → lv_has ls 5 [(0, .ref (ad 15 0 0)), (2, .int x2)] → Wi D ad cy o sz Q p l e rmX7_behind s m [.ref (ad 15 0 0), .int x1, .int x2] below meth c H locs (F0 m 52 ls [])), ∀ (n : Nat) (S : Mem) (y3 : Int32), vc_X7_behind_L29 Q K x1 x2 n S y3 → ∀ (H : Heap) (locs : List Loc) (ls : Array Slot), PW D ad cy (AW ad sz) s.heap o S H locs → lv_has ls 5 [(0, .ref (ad 15 0 0)), (1, .int x1), (2, .int x2), (3, .int y3)] → Wi D ad cy o sz Q p l e rmX7_behind s m [.ref (ad 15 0 0), .int x1, .int x2] below meth c H locs (F0 m 29 ls []) := by
    intro K hk n
    induction n with
    | zero =>
      intro S y3 hq
      rw [vc_X7_behind_L29] at hq
      exact hq.elim
    | succ n ih =>
      intro S y3 hq H locs ls hX hl
      rw [vc_X7_behind_L29] at hq
      refine lv_iload_n hM.1 hM.2.1 dX7_behind_29 rfl (lv_at hl 3 rfl) ?_
      refine lv_iload_n hM.1 hM.2.1 dX7_behind_30 rfl (lv_at hl 1 rfl) ?_
      refine lv_icmp_ge (tgt := 52) hM.1 hM.2.1 dX7_behind_31 (by decide) (fun c_7 => ?_) (fun c_7 => ?_)
      · replace hq := hq.1 c_7
        exact hk S hq _ _ _ hX (lv_sub hl [0, 2] rfl)
      replace hq := hq.2 c_7
      refine lv_aload_n hM.1 hM.2.1 dX7_behind_34 rfl (lv_at hl 0 rfl) ?_
      refine lv_aload_n hM.1 hM.2.1 dX7_behind_35 rfl (lv_at hl 0 rfl) ?_
      refine g15 hM hK hX m15 0 (by decide) qf_RX7_7 rfl dX7_behind_36 ?_
      refine lv_iconst (v := (1 : Int32)) hM.1 hM.2.1 dX7_behind_39 (by decide) ?_
      have c_8 := hq.1
      replace hq := hq.2
      refine r_iald hM hK hX m16 (a16 0 0) c_8 dX7_behind_40 ?_
      refine cVi (As := [.int (S 16 0 0 (1 : Int32).toNatClampNeg)]) hM hK hX hA (met_X7_pass l D ad cy S (S 16 0 0 (1 : Int32).toNatClampNeg) hq) (kX7_pass hM.2.2.2.2 ql_RX7_135 (Nat.le_of_ble_eq_true rfl) (Nat.le_of_ble_eq_true rfl)) (v15 hK hX m15) rfl hl.1 rfl (Nat.le_of_ble_eq_true rfl) dX7_behind_41 ⟨Nat.zero_le _, Nat.zero_le _⟩ (fun S_9 r_10 hq H locs hX => ?_)
      refine lv_istore (lv' := [(4, .int r_10), (0, .ref (ad 15 0 0)), (1, .int x1), (2, .int x2), (3, .int y3)]) hM.1 hM.2.1 dX7_behind_44 hl (by decide) rfl (fun ls hl => ?_)
      refine lv_iinc (v := (y3 + (1 : Int32))) (lv' := [(3, .int (y3 + (1 : Int32))), (4, .int r_10), (0, .ref (ad 15 0 0)), (1, .int x1), (2, .int x2)]) hM.1 hM.2.1 dX7_behind_46 hl (k := 4) rfl rfl (by decide) rfl (fun ls hl => ?_)
      refine lv_goto (tgt := 29) hM.1 hM.2.1 dX7_behind_49 (by decide) ?_
      exact ih S_9 (y3 + (1 : Int32)) hq _ _ _ hX (lv_sub hl [2, 3, 4, 0] rfl)
  have L106 : ∀ {K : Mem → Int32 → Prop} (hk : ∀ (S : Mem) (y3 : Int32), K S y3 → ∀ (H : Heap) (locs : List Loc) (ls : Array Slot), PW D ad cy (AW ad sz) s.heap o S H locs → lv_has ls 5 [(3, .int y3)] → Wi D ad cy o sz Q p l e rmX7_behind s m [.ref (ad 15 0 0), .int x1, .int x2] below meth c H locs (F0 m 134 ls [])), ∀ (n : Nat) (S : Mem) (y3 : Int32) (y4 : Int32), vc_X7_behind_L106 Q K x1 x2 n S y3 y4 → ∀ (H : Heap) (locs : List Loc) (ls : Array Slot), PW D ad cy (AW ad sz) s.heap o S H locs → lv_has ls 5 [(0, .ref (ad 15 0 0)), (3, .int y3), (4, .int y4)] → Wi D ad cy o sz Q p l e rmX7_behind s m [.ref (ad 15 0 0), .int x1, .int x2] below meth c H locs (F0 m 106 ls []) := by
    intro K hk n
    induction n with
    | zero =>
      intro S y3 y4 hq
      rw [vc_X7_behind_L106] at hq
      exact hq.elim
    | succ n ih =>
      intro S y3 y4 hq H locs ls hX hl
      rw [vc_X7_behind_L106] at hq
      refine lv_iload hM.1 hM.2.1 dX7_behind_106 (lv_at hl 2 rfl) ?_
      refine lv_sipush (v := (226 : Int32)) hM.1 hM.2.1 dX7_behind_108 (by decide) ?_
      refine lv_icmp_ge (tgt := 134) hM.1 hM.2.1 dX7_behind_111 (by decide) (fun c_17 => ?_) (fun c_17 => ?_)
      · replace hq := hq.1 c_17
        exact hk S y3 hq _ _ _ hX (lv_sub hl [1] rfl)
      replace hq := hq.2 c_17
      refine lv_aload_n hM.1 hM.2.1 dX7_behind_114 rfl (lv_at hl 0 rfl) ?_
      refine g15 hM hK hX m15 0 (by decide) qf_RX7_7 rfl dX7_behind_115 ?_
      refine lv_iload hM.1 hM.2.1 dX7_behind_118 (lv_at hl 2 rfl) ?_
      refine lv_aload_n hM.1 hM.2.1 dX7_behind_120 rfl (lv_at hl 0 rfl) ?_
      refine g15 hM hK hX m15 5 (by decide) qf_RX7_23 rfl dX7_behind_121 ?_
      refine lv_iload hM.1 hM.2.1 dX7_behind_124 (lv_at hl 2 rfl) ?_
      have c_18 := hq.1
      replace hq := hq.2
      refine r_iald hM hK hX m20 (a20 0 0) c_18 dX7_behind_126 ?_
      have c_20 := hq.1
      replace hq := hq.2
      refine r_iast hM hK hX m16 (a16 0 0) c_20 dX7_behind_127 (fun S_19 e_21 H locs hX => ?_)
      replace hq := hq S_19 e_21
      refine lv_iinc (v := (y4 + (1 : Int32))) (lv' := [(4, .int (y4 + (1 : Int32))), (0, .ref (ad 15 0 0)), (3, .int y3)]) hM.1 hM.2.1 dX7_behind_128 hl (k := 2) rfl rfl (by decide) rfl (fun ls hl => ?_)
      refine lv_goto (tgt := 106) hM.1 hM.2.1 dX7_behind_131 (by decide) ?_
      exact ih S_19 y3 (y4 + (1 : Int32)) hq _ _ _ hX (lv_sub hl [1, 2, 0] rfl)
  have J102 : ∀ (S : Mem) (w0 : Int32), vc_X7_behind_J102 Q x1 x2 S w0 → ∀ (H : Heap) (locs : List Loc) (ls : Array Slot), PW D ad cy (AW ad sz) s.heap o S H locs → lv_has ls 5 [(0, .ref (ad 15 0 0))] → Wi D ad cy o sz Q p l e rmX7_behind s m [.ref (ad 15 0 0), .int x1, .int x2] below meth c H locs (F0 m 102 ls [.int w0]) := by
    intro S w0 hq H locs ls hX hl
    unfold vc_X7_behind_J102 at hq
    refine lv_istore_n (lv' := [(3, .int w0), (0, .ref (ad 15 0 0))]) hM.1 hM.2.1 dX7_behind_102 rfl hl (by decide) rfl (fun ls hl => ?_)
    refine lv_iconst (v := (0 : Int32)) hM.1 hM.2.1 dX7_behind_103 (by decide) ?_
    refine lv_istore (lv' := [(4, .int (0 : Int32)), (3, .int w0), (0, .ref (ad 15 0 0))]) hM.1 hM.2.1 dX7_behind_104 hl (by decide) rfl (fun ls hl => ?_)
    obtain ⟨k0, hq⟩ := hq
    refine L106 (fun S_22 y3_23 hq H locs ls hX hl => ?_) k0 S w0 (0 : Int32) hq _ _ _ hX (lv_sub hl [2, 1, 0] rfl)
    refine lv_iload_n hM.1 hM.2.1 dX7_behind_134 rfl (lv_at hl 0 rfl) ?_
    exact e_i hM hX hlocks hret hq dX7_behind_135
  unfold vc_X7_behind at hq
  refine lv_iconst (v := (0 : Int32)) hM.1 hM.2.1 dX7_behind_0 (by decide) ?_
  refine lv_istore_n (lv' := [(3, .int (0 : Int32)), (0, .ref (ad 15 0 0)), (1, .int x1), (2, .int x2)]) hM.1 hM.2.1 dX7_behind_1 rfl hl (by decide) rfl (fun ls hl => ?_)
  obtain ⟨k0, hq⟩ := hq
  refine L2 (fun S_6 hq H locs ls hX hl => ?_) k0 S (0 : Int32) hq _ _ _ hX (lv_sub hl [1, 2, 3, 0] rfl)
  refine lv_iconst (v := (0 : Int32)) hM.1 hM.2.1 dX7_behind_27 (by decide) ?_
  refine lv_istore_n (lv' := [(3, .int (0 : Int32)), (0, .ref (ad 15 0 0)), (1, .int x1), (2, .int x2)]) hM.1 hM.2.1 dX7_behind_28 rfl hl (by decide) rfl (fun ls hl => ?_)
  obtain ⟨k0, hq⟩ := hq
  refine L29 (fun S_11 hq H locs ls hX hl => ?_) k0 S_6 (0 : Int32) hq _ _ _ hX (lv_sub hl [1, 2, 3, 0] rfl)
  refine lv_iload_n hM.1 hM.2.1 dX7_behind_52 rfl (lv_at hl 1 rfl) ?_
  refine lv_if_ne (tgt := 63) hM.1 hM.2.1 dX7_behind_53 (by decide) (fun c_12 => ?_) (fun c_12 => ?_)
  · replace hq := hq.1 c_12
    refine lv_iload_n hM.1 hM.2.1 dX7_behind_63 rfl (lv_at hl 1 rfl) ?_
    refine lv_iconst (v := (1 : Int32)) hM.1 hM.2.1 dX7_behind_64 (by decide) ?_
    refine lv_icmp_ne (tgt := 75) hM.1 hM.2.1 dX7_behind_65 (by decide) (fun c_13 => ?_) (fun c_13 => ?_)
    · replace hq := hq.1 c_13
      refine lv_iload_n hM.1 hM.2.1 dX7_behind_75 rfl (lv_at hl 1 rfl) ?_
      refine lv_iconst (v := (2 : Int32)) hM.1 hM.2.1 dX7_behind_76 (by decide) ?_
      refine lv_icmp_ne (tgt := 98) hM.1 hM.2.1 dX7_behind_77 (by decide) (fun c_14 => ?_) (fun c_14 => ?_)
      · replace hq := hq.1 c_14
        refine lv_aload_n hM.1 hM.2.1 dX7_behind_98 rfl (lv_at hl 0 rfl) ?_
        refine cVi (As := []) hM hK hX hA (met_X7_widest l D ad cy S_11 hq) (kX7_widest hM.2.2.2.2 ql_RX7_219 (Nat.le_of_ble_eq_true rfl) (Nat.le_of_ble_eq_true rfl)) (v15 hK hX m15) rfl hl.1 rfl (Nat.le_of_ble_eq_true rfl) dX7_behind_99 ⟨Nat.zero_le _, Nat.zero_le _⟩ (fun S_15 r_16 hq H locs hX => ?_)
        exact J102 S_15 r_16 hq _ _ _ hX (lv_sub hl [0] rfl)
      replace hq := hq.2 c_14
      refine lv_aload_n hM.1 hM.2.1 dX7_behind_80 rfl (lv_at hl 0 rfl) ?_
      refine g15 hM hK hX m15 0 (by decide) qf_RX7_7 rfl dX7_behind_81 ?_
      refine lv_bipush (v := (13 : Int32)) hM.1 hM.2.1 dX7_behind_84 (by decide) ?_
      have c_24 := hq.1
      replace hq := hq.2
      refine r_iald hM hK hX m16 (a16 0 0) c_24 dX7_behind_86 ?_
      refine lv_aload_n hM.1 hM.2.1 dX7_behind_87 rfl (lv_at hl 0 rfl) ?_
      refine g15 hM hK hX m15 5 (by decide) qf_RX7_23 rfl dX7_behind_88 ?_
      refine lv_bipush (v := (13 : Int32)) hM.1 hM.2.1 dX7_behind_91 (by decide) ?_
      have c_25 := hq.1
      replace hq := hq.2
      refine r_iald hM hK hX m20 (a20 0 0) c_25 dX7_behind_93 ?_
      refine lv_isub hM.1 hM.2.1 dX7_behind_94 ?_
      refine lv_goto (tgt := 102) hM.1 hM.2.1 dX7_behind_95 (by decide) ?_
      exact J102 S_11 ((S_11 16 0 0 (13 : Int32).toNatClampNeg) - (S_11 20 0 0 (13 : Int32).toNatClampNeg)) hq _ _ _ hX (lv_sub hl [0] rfl)
    replace hq := hq.2 c_13
    refine lv_aload_n hM.1 hM.2.1 dX7_behind_68 rfl (lv_at hl 0 rfl) ?_
    refine cVi (As := []) hM hK hX hA (met_X7_shutOut l D ad cy S_11 hq) (kX7_shutOut hM.2.2.2.2 ql_RX7_198 (Nat.le_of_ble_eq_true rfl) (Nat.le_of_ble_eq_true rfl)) (v15 hK hX m15) rfl hl.1 rfl (Nat.le_of_ble_eq_true rfl) dX7_behind_69 ⟨Nat.zero_le _, Nat.zero_le _⟩ (fun S_26 r_27 hq H locs hX => ?_)
    refine lv_goto (tgt := 102) hM.1 hM.2.1 dX7_behind_72 (by decide) ?_
    exact J102 S_26 r_27 hq _ _ _ hX (lv_sub hl [0] rfl)
  replace hq := hq.2 c_12
  refine lv_aload_n hM.1 hM.2.1 dX7_behind_56 rfl (lv_at hl 0 rfl) ?_
  refine cVi (As := []) hM hK hX hA (met_X7_mean l D ad cy S_11 hq) (kX7_mean hM.2.2.2.2 ql_RX7_87 (Nat.le_of_ble_eq_true rfl) (Nat.le_of_ble_eq_true rfl)) (v15 hK hX m15) rfl hl.1 rfl (Nat.le_of_ble_eq_true rfl) dX7_behind_57 ⟨Nat.zero_le _, Nat.zero_le _⟩ (fun S_28 r_29 hq H locs hX => ?_)
  refine lv_goto (tgt := 102) hM.1 hM.2.1 dX7_behind_60 (by decide) ?_
  exact J102 S_28 r_29 hq _ _ _ hX (lv_sub hl [0] rfl)
def rmX7_ifStill : Room := { frames := 8, cells := 0, slots := 0, locals := 178 }
theorem kX7_ifStill {R : Room} {s : State} {args : Array Value} {own : String} {index : Nat} (ht : ∀ w ∈ lw_all, w.before args s = true) (hl : Cond.methodLink own index yX7_ifStill ∈ lw_all) (hf : rmX7_ifStill.frames + 1 ≤ R.frames) (hlo : 8 + (3 + 11) + rmX7_ifStill.locals ≤ R.locals) : CallW R s args own RX7 index yX7_ifStill cX7_ifStill 3 (some Jvm.ClassFile.FieldType.int) (wA yX7_ifStill cX7_ifStill 3 (some Jvm.ClassFile.FieldType.int)) rmX7_ifStill 0 0 2 := cwV 2 ht (good_V hl qm_yX7_ifStill qs_yX7_ifStill qi_RX7 qc_yX7_ifStill) rfl rfl rfl (by decide +kernel) ⟨hf, hlo⟩
set_option maxRecDepth 100000 in
set_option maxHeartbeats 4000000 in
theorem met_X7_ifStill (l : Launch) (D : va_G) (ad : Adr) (cy : Nat → ClassId) (S : Mem) (x1 : Int32) (x2 : Int32) {Q : Mem → Int32 → Prop} (hq : vc_X7_ifStill S x1 x2 Q) : Ci l yX7_ifStill (wA yX7_ifStill cX7_ifStill 3 (some Jvm.ClassFile.FieldType.int)) rmX7_ifStill D ad cy [.ref (ad 15 0 0), .int x1, .int x2] S Q := by
  intro o sz
  refine mkC (own := RX7) (lv := [(0, .ref (ad 15 0 0)), (1, .int x1), (2, .int x2)]) (by decide) rfl (Nat.le_of_ble_eq_true rfl) rfl ⟨rfl, rfl⟩ ?_
  intro p e s m below meth c ls hsz hM hlocks hret hK hA hX hl
  unfold vc_X7_ifStill at hq
  refine lv_aload_n hM.1 hM.2.1 dX7_ifStill_0 rfl (lv_at hl 0 rfl) ?_
  refine lv_iconst (v := (0 : Int32)) hM.1 hM.2.1 dX7_ifStill_1 (by decide) ?_
  refine p15_6 hM hK hX m15 qf_RX7_48 dX7_ifStill_2 (fun S_1 e_2 H locs hX => ?_)
  replace hq := hq S_1 e_2
  refine lv_iload_n hM.1 hM.2.1 dX7_ifStill_5 rfl (lv_at hl 1 rfl) ?_
  refine lv_iconst (v := (1 : Int32)) hM.1 hM.2.1 dX7_ifStill_6 (by decide) ?_
  refine lv_bipush (v := (48 : Int32)) hM.1 hM.2.1 dX7_ifStill_7 (by decide) ?_
  refine cSi (As := [.int x1, .int (1 : Int32), .int (48 : Int32)]) hM hK hX hA (met_X7_in l D ad cy S_1 x1 (1 : Int32) (48 : Int32) hq) (kX7_in hM.2.2.2.2 ql_RX7_52 (Nat.le_of_ble_eq_true rfl) (Nat.le_of_ble_eq_true rfl)) rfl hl.1 rfl (Nat.le_of_ble_eq_true rfl) dX7_ifStill_9 ⟨Nat.zero_le _, Nat.zero_le _⟩ (fun S_3 r_4 hq H locs hX => ?_)
  refine lv_if_eq (tgt := 33) hM.1 hM.2.1 dX7_ifStill_12 (by decide) (fun c_5 => ?_) (fun c_5 => ?_)
  · replace hq := hq.1 c_5
    refine lv_aload_n hM.1 hM.2.1 dX7_ifStill_33 rfl (lv_at hl 0 rfl) ?_
    refine lv_iconst (v := (1 : Int32)) hM.1 hM.2.1 dX7_ifStill_34 (by decide) ?_
    refine cVi (As := [.int (1 : Int32)]) hM hK hX hA (met_X7_fails l D ad cy S_3 (1 : Int32) hq) (kX7_fails hM.2.2.2.2 ql_RX7_59 (Nat.le_of_ble_eq_true rfl) (Nat.le_of_ble_eq_true rfl)) (v15 hK hX m15) rfl hl.1 rfl (Nat.le_of_ble_eq_true rfl) dX7_ifStill_35 ⟨Nat.zero_le _, Nat.zero_le _⟩ (fun S_6 r_7 hq H locs hX => ?_)
    exact e_i hM hX hlocks hret hq dX7_ifStill_38
  replace hq := hq.2 c_5
  refine lv_iload_n hM.1 hM.2.1 dX7_ifStill_15 rfl (lv_at hl 2 rfl) ?_
  refine lv_iconst (v := (0 : Int32)) hM.1 hM.2.1 dX7_ifStill_16 (by decide) ?_
  refine lv_iconst (v := (3 : Int32)) hM.1 hM.2.1 dX7_ifStill_17 (by decide) ?_
  refine cSi (As := [.int x2, .int (0 : Int32), .int (3 : Int32)]) hM hK hX hA (met_X7_in l D ad cy S_3 x2 (0 : Int32) (3 : Int32) hq) (kX7_in hM.2.2.2.2 ql_RX7_52 (Nat.le_of_ble_eq_true rfl) (Nat.le_of_ble_eq_true rfl)) rfl hl.1 rfl (Nat.le_of_ble_eq_true rfl) dX7_ifStill_18 ⟨Nat.zero_le _, Nat.zero_le _⟩ (fun S_8 r_9 hq H locs hX => ?_)
  refine lv_if_eq (tgt := 33) hM.1 hM.2.1 dX7_ifStill_21 (by decide) (fun c_10 => ?_) (fun c_10 => ?_)
  · replace hq := hq.1 c_10
    refine lv_aload_n hM.1 hM.2.1 dX7_ifStill_33 rfl (lv_at hl 0 rfl) ?_
    refine lv_iconst (v := (1 : Int32)) hM.1 hM.2.1 dX7_ifStill_34 (by decide) ?_
    refine cVi (As := [.int (1 : Int32)]) hM hK hX hA (met_X7_fails l D ad cy S_8 (1 : Int32) hq) (kX7_fails hM.2.2.2.2 ql_RX7_59 (Nat.le_of_ble_eq_true rfl) (Nat.le_of_ble_eq_true rfl)) (v15 hK hX m15) rfl hl.1 rfl (Nat.le_of_ble_eq_true rfl) dX7_ifStill_35 ⟨Nat.zero_le _, Nat.zero_le _⟩ (fun S_11 r_12 hq H locs hX => ?_)
    exact e_i hM hX hlocks hret hq dX7_ifStill_38
  replace hq := hq.2 c_10
  refine lv_aload_n hM.1 hM.2.1 dX7_ifStill_24 rfl (lv_at hl 0 rfl) ?_
  refine lv_iload_n hM.1 hM.2.1 dX7_ifStill_25 rfl (lv_at hl 1 rfl) ?_
  refine lv_iload_n hM.1 hM.2.1 dX7_ifStill_26 rfl (lv_at hl 2 rfl) ?_
  refine cVi (As := [.int x1, .int x2]) hM hK hX hA (met_X7_behind l D ad cy S_8 x1 x2 hq) (kX7_behind hM.2.2.2.2 ql_RX7_222 (Nat.le_of_ble_eq_true rfl) (Nat.le_of_ble_eq_true rfl)) (v15 hK hX m15) rfl hl.1 rfl (Nat.le_of_ble_eq_true rfl) dX7_ifStill_27 ⟨Nat.zero_le _, Nat.zero_le _⟩ (fun S_13 r_14 hq H locs hX => ?_)
  refine lv_goto (tgt := 38) hM.1 hM.2.1 dX7_ifStill_30 (by decide) ?_
  exact e_i hM hX hlocks hret hq dX7_ifStill_38
def rmX7_stillIn : Room := { frames := 3, cells := 0, slots := 0, locals := 64 }
theorem kX7_stillIn {R : Room} {s : State} {args : Array Value} {own : String} {index : Nat} (ht : ∀ w ∈ lw_all, w.before args s = true) (hl : Cond.methodLink own index yX7_stillIn ∈ lw_all) (hf : rmX7_stillIn.frames + 1 ≤ R.frames) (hlo : 8 + (4 + 11) + rmX7_stillIn.locals ≤ R.locals) : CallW R s args own RX7 index yX7_stillIn cX7_stillIn 4 (some Jvm.ClassFile.FieldType.int) (wA yX7_stillIn cX7_stillIn 4 (some Jvm.ClassFile.FieldType.int)) rmX7_stillIn 0 0 1 := cwV 1 ht (good_V hl qm_yX7_stillIn qs_yX7_stillIn qi_RX7 qc_yX7_stillIn) rfl rfl rfl (by decide +kernel) ⟨hf, hlo⟩
set_option maxRecDepth 100000 in
set_option maxHeartbeats 4000000 in
theorem met_X7_stillIn (l : Launch) (D : va_G) (ad : Adr) (cy : Nat → ClassId) (S : Mem) (x1 : Int32) {Q : Mem → Int32 → Prop} (hq : vc_X7_stillIn S x1 Q) : Ci l yX7_stillIn (wA yX7_stillIn cX7_stillIn 4 (some Jvm.ClassFile.FieldType.int)) rmX7_stillIn D ad cy [.ref (ad 15 0 0), .int x1] S Q := by
  intro o sz
  refine mkC (own := RX7) (lv := [(0, .ref (ad 15 0 0)), (1, .int x1)]) (by decide) rfl (Nat.le_of_ble_eq_true rfl) rfl ⟨rfl, rfl⟩ ?_
  intro p e s m below meth c ls hsz hM hlocks hret hK hA hX hl
  have L28 : ∀ {K : Mem → Int32 → Int32 → Prop} (hk : ∀ (S : Mem) (y2 : Int32) (y3 : Int32), K S y2 y3 → ∀ (H : Heap) (locs : List Loc) (ls : Array Slot), PW D ad cy (AW ad sz) s.heap o S H locs → lv_has ls 4 [(0, .ref (ad 15 0 0)), (1, .int x1), (2, .int y2), (3, .int y3)] → Wi D ad cy o sz Q p l e rmX7_stillIn s m [.ref (ad 15 0 0), .int x1] below meth c H locs (F0 m 47 ls [])), ∀ (n : Nat) (S : Mem) (y2 : Int32) (y3 : Int32), vc_X7_stillIn_L28 Q K x1 n S y2 y3 → ∀ (H : Heap) (locs : List Loc) (ls : Array Slot), PW D ad cy (AW ad sz) s.heap o S H locs → lv_has ls 4 [(0, .ref (ad 15 0 0)), (1, .int x1), (2, .int y2), (3, .int y3)] → Wi D ad cy o sz Q p l e rmX7_stillIn s m [.ref (ad 15 0 0), .int x1] below meth c H locs (F0 m 28 ls []) := by
    intro K hk n
    induction n with
    | zero =>
      intro S y2 y3 hq
      rw [vc_X7_stillIn_L28] at hq
      exact hq.elim
    | succ n ih =>
      intro S y2 y3 hq H locs ls hX hl
      rw [vc_X7_stillIn_L28] at hq
      refine lv_aload_n hM.1 hM.2.1 dX7_stillIn_28 rfl (lv_at hl 0 rfl) ?_
      refine lv_iload_n hM.1 hM.2.1 dX7_stillIn_29 rfl (lv_at hl 1 rfl) ?_
      refine cVi (As := [.int x1]) hM hK hX hA (met_X7_changeOf l D ad cy S x1 hq) (kX7_changeOf hM.2.2.2.2 ql_RX7_91 (Nat.le_of_ble_eq_true rfl) (Nat.le_of_ble_eq_true rfl)) (v15 hK hX m15) rfl hl.1 rfl (Nat.le_of_ble_eq_true rfl) dX7_stillIn_30 ⟨Nat.zero_le _, Nat.zero_le _⟩ (fun S_8 r_9 hq H locs hX => ?_)
      refine lv_if_eq (tgt := 47) hM.1 hM.2.1 dX7_stillIn_33 (by decide) (fun c_10 => ?_) (fun c_10 => ?_)
      · replace hq := hq.1 c_10
        exact hk S_8 y2 y3 hq _ _ _ hX (lv_sub hl [0, 1, 2, 3] rfl)
      replace hq := hq.2 c_10
      refine lv_aload_n hM.1 hM.2.1 dX7_stillIn_36 rfl (lv_at hl 0 rfl) ?_
      refine lv_iload_n hM.1 hM.2.1 dX7_stillIn_37 rfl (lv_at hl 1 rfl) ?_
      refine cVv (As := [.int x1]) hM hK hX hA (met_X7_follow l D ad cy S_8 x1 hq) (kX7_follow hM.2.2.2.2 ql_RX7_113 (Nat.le_of_ble_eq_true rfl) (Nat.le_of_ble_eq_true rfl)) (v15 hK hX m15) rfl hl.1 rfl (Nat.le_of_ble_eq_true rfl) dX7_stillIn_38 ⟨Nat.zero_le _, Nat.zero_le _⟩ (fun S_11 hq H locs hX => ?_)
      refine lv_iinc (v := (y3 + (1 : Int32))) (lv' := [(3, .int (y3 + (1 : Int32))), (0, .ref (ad 15 0 0)), (1, .int x1), (2, .int y2)]) hM.1 hM.2.1 dX7_stillIn_41 hl (k := 3) rfl rfl (by decide) rfl (fun ls hl => ?_)
      refine lv_goto (tgt := 28) hM.1 hM.2.1 dX7_stillIn_44 (by decide) ?_
      exact ih S_11 y2 (y3 + (1 : Int32)) hq _ _ _ hX (lv_sub hl [1, 2, 3, 0] rfl)
  unfold vc_X7_stillIn at hq
  refine lv_aload_n hM.1 hM.2.1 dX7_stillIn_0 rfl (lv_at hl 0 rfl) ?_
  refine lv_iconst (v := (0 : Int32)) hM.1 hM.2.1 dX7_stillIn_1 (by decide) ?_
  refine p15_6 hM hK hX m15 qf_RX7_48 dX7_stillIn_2 (fun S_1 e_2 H locs hX => ?_)
  replace hq := hq S_1 e_2
  refine lv_aload_n hM.1 hM.2.1 dX7_stillIn_5 rfl (lv_at hl 0 rfl) ?_
  refine lv_iload_n hM.1 hM.2.1 dX7_stillIn_6 rfl (lv_at hl 1 rfl) ?_
  refine cVi (As := [.int x1]) hM hK hX hA (met_X7_is l D ad cy S_1 x1 hq) (kX7_is hM.2.2.2.2 ql_RX7_141 (Nat.le_of_ble_eq_true rfl) (Nat.le_of_ble_eq_true rfl)) (v15 hK hX m15) rfl hl.1 rfl (Nat.le_of_ble_eq_true rfl) dX7_stillIn_7 ⟨Nat.zero_le _, Nat.zero_le _⟩ (fun S_3 r_4 hq H locs hX => ?_)
  refine lv_if_ne (tgt := 19) hM.1 hM.2.1 dX7_stillIn_10 (by decide) (fun c_5 => ?_) (fun c_5 => ?_)
  · replace hq := hq.1 c_5
    refine lv_aload_n hM.1 hM.2.1 dX7_stillIn_19 rfl (lv_at hl 0 rfl) ?_
    refine lv_iload_n hM.1 hM.2.1 dX7_stillIn_20 rfl (lv_at hl 1 rfl) ?_
    refine lv_iconst (v := (4 : Int32)) hM.1 hM.2.1 dX7_stillIn_21 (by decide) ?_
    refine cVi (As := [.int x1, .int (4 : Int32)]) hM hK hX hA (met_X7_of l D ad cy S_3 x1 (4 : Int32) hq) (kX7_of hM.2.2.2.2 ql_RX7_66 (Nat.le_of_ble_eq_true rfl) (Nat.le_of_ble_eq_true rfl)) (v15 hK hX m15) rfl hl.1 rfl (Nat.le_of_ble_eq_true rfl) dX7_stillIn_22 ⟨Nat.zero_le _, Nat.zero_le _⟩ (fun S_6 r_7 hq H locs hX => ?_)
    refine lv_istore_n (lv' := [(2, .int r_7), (0, .ref (ad 15 0 0)), (1, .int x1)]) hM.1 hM.2.1 dX7_stillIn_25 rfl hl (by decide) rfl (fun ls hl => ?_)
    refine lv_iconst (v := (0 : Int32)) hM.1 hM.2.1 dX7_stillIn_26 (by decide) ?_
    refine lv_istore_n (lv' := [(3, .int (0 : Int32)), (2, .int r_7), (0, .ref (ad 15 0 0)), (1, .int x1)]) hM.1 hM.2.1 dX7_stillIn_27 rfl hl (by decide) rfl (fun ls hl => ?_)
    obtain ⟨k0, hq⟩ := hq
    refine L28 (fun S_12 y2_13 y3_14 hq H locs ls hX hl => ?_) k0 S_6 r_7 (0 : Int32) hq _ _ _ hX (lv_sub hl [2, 3, 1, 0] rfl)
    refine lv_aload_n hM.1 hM.2.1 dX7_stillIn_47 rfl (lv_at hl 0 rfl) ?_
    refine lv_iload_n hM.1 hM.2.1 dX7_stillIn_48 rfl (lv_at hl 1 rfl) ?_
    refine lv_iconst (v := (4 : Int32)) hM.1 hM.2.1 dX7_stillIn_49 (by decide) ?_
    refine lv_iload_n hM.1 hM.2.1 dX7_stillIn_50 rfl (lv_at hl 2 rfl) ?_
    refine cVv (As := [.int x1, .int (4 : Int32), .int y2_13]) hM hK hX hA (met_X7_put l D ad cy S_12 x1 (4 : Int32) y2_13 hq) (kX7_put hM.2.2.2.2 ql_RX7_94 (Nat.le_of_ble_eq_true rfl) (Nat.le_of_ble_eq_true rfl)) (v15 hK hX m15) rfl hl.1 rfl (Nat.le_of_ble_eq_true rfl) dX7_stillIn_51 ⟨Nat.zero_le _, Nat.zero_le _⟩ (fun S_15 hq H locs hX => ?_)
    refine lv_iload_n hM.1 hM.2.1 dX7_stillIn_54 rfl (lv_at hl 3 rfl) ?_
    exact e_i hM hX hlocks hret hq dX7_stillIn_55
  replace hq := hq.2 c_5
  refine lv_aload_n hM.1 hM.2.1 dX7_stillIn_13 rfl (lv_at hl 0 rfl) ?_
  refine lv_iconst (v := (1 : Int32)) hM.1 hM.2.1 dX7_stillIn_14 (by decide) ?_
  refine cVi (As := [.int (1 : Int32)]) hM hK hX hA (met_X7_fails l D ad cy S_3 (1 : Int32) hq) (kX7_fails hM.2.2.2.2 ql_RX7_59 (Nat.le_of_ble_eq_true rfl) (Nat.le_of_ble_eq_true rfl)) (v15 hK hX m15) rfl hl.1 rfl (Nat.le_of_ble_eq_true rfl) dX7_stillIn_15 ⟨Nat.zero_le _, Nat.zero_le _⟩ (fun S_16 r_17 hq H locs hX => ?_)
  exact e_i hM hX hlocks hret hq dX7_stillIn_18
