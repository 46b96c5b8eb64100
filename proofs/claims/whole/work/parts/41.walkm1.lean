def rmX7_pass : Room := { frames := 6, cells := 0, slots := 0, locals := 132 }
theorem kX7_pass {R : Room} {s : State} {args : Array Value} {own : String} {index : Nat} (ht : ∀ w ∈ lw_all, w.before args s = true) (hl : Cond.methodLink own index yX7_pass ∈ lw_all) (hf : rmX7_pass.frames + 1 ≤ R.frames) (hlo : 8 + (3 + 11) + rmX7_pass.locals ≤ R.locals) : CallW R s args own RX7 index yX7_pass cX7_pass 3 (some Jvm.ClassFile.FieldType.int) (wA yX7_pass cX7_pass 3 (some Jvm.ClassFile.FieldType.int)) rmX7_pass 0 0 1 := cwV 1 ht (good_V hl qm_yX7_pass qs_yX7_pass qi_RX7 qc_yX7_pass) rfl rfl rfl (by decide +kernel) ⟨hf, hlo⟩
set_option maxRecDepth 100000 in
set_option maxHeartbeats 4000000 in
theorem met_X7_pass (l : Launch) (D : va_G) (ad : Adr) (cy : Nat → ClassId) (S : Mem) (x1 : Int32) {Q : Mem → Int32 → Prop} (hq : vc_X7_pass S x1 Q) : Ci l yX7_pass (wA yX7_pass cX7_pass 3 (some Jvm.ClassFile.FieldType.int)) rmX7_pass D ad cy [.ref (ad 15 0 0), .int x1] S Q := by
  intro o sz
  refine mkC (own := RX7) (lv := [(0, .ref (ad 15 0 0)), (1, .int x1)]) (by decide) rfl (Nat.le_of_ble_eq_true rfl) rfl ⟨rfl, rfl⟩ ?_
  intro p e s m below meth c ls hsz hM hlocks hret hK hA hX hl
  have L30 : ∀ {K : Mem → Prop} (hk : ∀ (S : Mem), K S → ∀ (H : Heap) (locs : List Loc) (ls : Array Slot), PW D ad cy (AW ad sz) s.heap o S H locs → lv_has ls 3 [(0, .ref (ad 15 0 0))] → Wi D ad cy o sz Q p l e rmX7_pass s m [.ref (ad 15 0 0), .int x1] below meth c H locs (F0 m 52 ls [])), ∀ (n : Nat) (S : Mem) (y2 : Int32), vc_X7_pass_L30 Q K x1 n S y2 → ∀ (H : Heap) (locs : List Loc) (ls : Array Slot), PW D ad cy (AW ad sz) s.heap o S H locs → lv_has ls 3 [(0, .ref (ad 15 0 0)), (2, .int y2)] → Wi D ad cy o sz Q p l e rmX7_pass s m [.ref (ad 15 0 0), .int x1] below meth c H locs (F0 m 30 ls []) := by
    intro K hk n
    induction n with
    | zero =>
      intro S y2 hq
      rw [vc_X7_pass_L30] at hq
      exact hq.elim
    | succ n ih =>
      intro S y2 hq H locs ls hX hl
      rw [vc_X7_pass_L30] at hq
      refine lv_iload_n hM.1 hM.2.1 dX7_pass_30 rfl (lv_at hl 1 rfl) ?_
      refine lv_aload_n hM.1 hM.2.1 dX7_pass_31 rfl (lv_at hl 0 rfl) ?_
      refine g15 hM hK hX m15 0 (by decide) qf_RX7_7 rfl dX7_pass_32 ?_
      refine lv_bipush (v := (15 : Int32)) hM.1 hM.2.1 dX7_pass_35 (by decide) ?_
      have c_13 := hq.1
      replace hq := hq.2
      refine r_iald hM hK hX m16 (a16 0 0) c_13 dX7_pass_37 ?_
      refine lv_icmp_ge (tgt := 52) hM.1 hM.2.1 dX7_pass_38 (by decide) (fun c_14 => ?_) (fun c_14 => ?_)
      · replace hq := hq.1 c_14
        exact hk S hq _ _ _ hX (lv_sub hl [0] rfl)
      replace hq := hq.2 c_14
      refine lv_aload_n hM.1 hM.2.1 dX7_pass_41 rfl (lv_at hl 0 rfl) ?_
      refine lv_iload_n hM.1 hM.2.1 dX7_pass_42 rfl (lv_at hl 1 rfl) ?_
      refine cVv (As := [.int y2]) hM hK hX hA (met_X7_follow l D ad cy S y2 hq) (kX7_follow hM.2.2.2.2 ql_RX7_113 (Nat.le_of_ble_eq_true rfl) (Nat.le_of_ble_eq_true rfl)) (v15 hK hX m15) rfl hl.1 rfl (Nat.le_of_ble_eq_true rfl) dX7_pass_43 ⟨Nat.zero_le _, Nat.zero_le _⟩ (fun S_15 hq H locs hX => ?_)
      refine lv_iinc (v := (y2 + (1 : Int32))) (lv' := [(2, .int (y2 + (1 : Int32))), (0, .ref (ad 15 0 0))]) hM.1 hM.2.1 dX7_pass_46 hl (k := 1) rfl rfl (by decide) rfl (fun ls hl => ?_)
      refine lv_goto (tgt := 30) hM.1 hM.2.1 dX7_pass_49 (by decide) ?_
      exact ih S_15 (y2 + (1 : Int32)) hq _ _ _ hX (lv_sub hl [1, 0] rfl)
  unfold vc_X7_pass at hq
  refine lv_aload_n hM.1 hM.2.1 dX7_pass_0 rfl (lv_at hl 0 rfl) ?_
  refine g15 hM hK hX m15 0 (by decide) qf_RX7_7 rfl dX7_pass_1 ?_
  refine lv_bipush (v := (14 : Int32)) hM.1 hM.2.1 dX7_pass_4 (by decide) ?_
  refine lv_aload_n hM.1 hM.2.1 dX7_pass_6 rfl (lv_at hl 0 rfl) ?_
  refine cVi (As := []) hM hK hX hA (met_X7_mean l D ad cy S hq) (kX7_mean hM.2.2.2.2 ql_RX7_87 (Nat.le_of_ble_eq_true rfl) (Nat.le_of_ble_eq_true rfl)) (v15 hK hX m15) rfl hl.1 rfl (Nat.le_of_ble_eq_true rfl) dX7_pass_7 ⟨Nat.zero_le _, Nat.zero_le _⟩ (fun S_1 r_2 hq H locs hX => ?_)
  have c_4 := hq.1
  replace hq := hq.2
  refine r_iast hM hK hX m16 (a16 0 0) c_4 dX7_pass_10 (fun S_3 e_5 H locs hX => ?_)
  replace hq := hq S_3 e_5
  refine lv_aload_n hM.1 hM.2.1 dX7_pass_11 rfl (lv_at hl 0 rfl) ?_
  refine g15 hM hK hX m15 0 (by decide) qf_RX7_7 rfl dX7_pass_12 ?_
  refine lv_iconst (v := (0 : Int32)) hM.1 hM.2.1 dX7_pass_15 (by decide) ?_
  refine lv_dup2_11 hM.1 hM.2.1 dX7_pass_16 rfl rfl ?_
  have c_6 := hq.1
  replace hq := hq.2
  refine r_iald hM hK hX m16 (a16 0 0) c_6 dX7_pass_17 ?_
  refine lv_iconst (v := (1 : Int32)) hM.1 hM.2.1 dX7_pass_18 (by decide) ?_
  refine lv_iadd hM.1 hM.2.1 dX7_pass_19 ?_
  have c_8 := hq.1
  replace hq := hq.2
  refine r_iast hM hK hX m16 (a16 0 0) c_8 dX7_pass_20 (fun S_7 e_9 H locs hX => ?_)
  replace hq := hq S_7 e_9
  refine lv_aload_n hM.1 hM.2.1 dX7_pass_21 rfl (lv_at hl 0 rfl) ?_
  refine g15 hM hK hX m15 0 (by decide) qf_RX7_7 rfl dX7_pass_22 ?_
  refine lv_iconst (v := (1 : Int32)) hM.1 hM.2.1 dX7_pass_25 (by decide) ?_
  refine lv_iload_n hM.1 hM.2.1 dX7_pass_26 rfl (lv_at hl 1 rfl) ?_
  have c_11 := hq.1
  replace hq := hq.2
  refine r_iast hM hK hX m16 (a16 0 0) c_11 dX7_pass_27 (fun S_10 e_12 H locs hX => ?_)
  replace hq := hq S_10 e_12
  refine lv_iconst (v := (0 : Int32)) hM.1 hM.2.1 dX7_pass_28 (by decide) ?_
  refine lv_istore_n (lv' := [(2, .int (0 : Int32)), (0, .ref (ad 15 0 0)), (1, .int x1)]) hM.1 hM.2.1 dX7_pass_29 rfl hl (by decide) rfl (fun ls hl => ?_)
  obtain ⟨k0, hq⟩ := hq
  refine L30 (fun S_16 hq H locs ls hX hl => ?_) k0 S_10 (0 : Int32) hq _ _ _ hX (lv_sub hl [1, 0] rfl)
  refine lv_aload_n hM.1 hM.2.1 dX7_pass_52 rfl (lv_at hl 0 rfl) ?_
  refine cVi (As := []) hM hK hX hA (met_X7_readRows l D ad cy S_16 hq) (kX7_readRows hM.2.2.2.2 ql_RX7_116 (Nat.le_of_ble_eq_true rfl) (Nat.le_of_ble_eq_true rfl)) (v15 hK hX m15) rfl hl.1 rfl (Nat.le_of_ble_eq_true rfl) dX7_pass_53 ⟨Nat.zero_le _, Nat.zero_le _⟩ (fun S_17 r_18 hq H locs hX => ?_)
  refine lv_istore_n (lv' := [(2, .int r_18), (0, .ref (ad 15 0 0))]) hM.1 hM.2.1 dX7_pass_56 rfl hl (by decide) rfl (fun ls hl => ?_)
  refine lv_aload_n hM.1 hM.2.1 dX7_pass_57 rfl (lv_at hl 1 rfl) ?_
  refine cVv (As := []) hM hK hX hA (met_X7_lookForSpikes l D ad cy S_17 hq) (kX7_lookForSpikes hM.2.2.2.2 ql_RX7_119 (Nat.le_of_ble_eq_true rfl) (Nat.le_of_ble_eq_true rfl)) (v15 hK hX m15) rfl hl.1 rfl (Nat.le_of_ble_eq_true rfl) dX7_pass_58 ⟨Nat.zero_le _, Nat.zero_le _⟩ (fun S_19 hq H locs hX => ?_)
  refine lv_iload_n hM.1 hM.2.1 dX7_pass_61 rfl (lv_at hl 0 rfl) ?_
  exact e_i hM hX hlocks hret hq dX7_pass_62
def rmX7_areNumbers : Room := { frames := 1, cells := 0, slots := 0, locals := 22 }
theorem kX7_areNumbers {R : Room} {s : State} {args : Array Value} {own : String} {index : Nat} (ht : ∀ w ∈ lw_all, w.before args s = true) (hl : Cond.methodLink own index yX7_areNumbers ∈ lw_all) (hf : rmX7_areNumbers.frames + 1 ≤ R.frames) (hlo : 8 + (3 + 11) + rmX7_areNumbers.locals ≤ R.locals) : CallB R s args own index yX7_areNumbers cX7_areNumbers 3 (some Jvm.ClassFile.FieldType.boolean) (wA yX7_areNumbers cX7_areNumbers 3 (some Jvm.ClassFile.FieldType.boolean)) rmX7_areNumbers 0 0 3 ∧ (Cond.static yX7_areNumbers).before args s = true := va_cwS 3 ht (good_S hl qt_yX7_areNumbers qi_RX7 qc_yX7_areNumbers) rfl rfl rfl (by decide +kernel) ⟨hf, hlo⟩
set_option maxRecDepth 100000 in
set_option maxHeartbeats 4000000 in
theorem met_X7_areNumbers (l : Launch) (D : va_G) (ad : Adr) (cy : Nat → ClassId) (S : Mem) (x0 : Int32) (x1 : Int32) (x2 : Int32) {Q : Mem → Int32 → Prop} (hq : vc_X7_areNumbers S x0 x1 x2 Q) : Ci l yX7_areNumbers (wA yX7_areNumbers cX7_areNumbers 3 (some Jvm.ClassFile.FieldType.boolean)) rmX7_areNumbers D ad cy [.int x0, .int x1, .int x2] S Q := by
  intro o sz
  refine mkC (own := RX7) (lv := [(0, .int x0), (1, .int x1), (2, .int x2)]) (by decide) rfl (Nat.le_of_ble_eq_true rfl) rfl ⟨rfl, rfl⟩ ?_
  intro p e s m below meth c ls hsz hM hlocks hret hK hA hX hl
  unfold vc_X7_areNumbers at hq
  refine lv_iload_n hM.1 hM.2.1 dX7_areNumbers_0 rfl (lv_at hl 0 rfl) ?_
  refine lv_iconst (v := (1 : Int32)) hM.1 hM.2.1 dX7_areNumbers_1 (by decide) ?_
  refine lv_bipush (v := (9 : Int32)) hM.1 hM.2.1 dX7_areNumbers_2 (by decide) ?_
  refine cSi (As := [.int x0, .int (1 : Int32), .int (9 : Int32)]) hM hK hX hA (met_X7_in l D ad cy S x0 (1 : Int32) (9 : Int32) hq) (kX7_in hM.2.2.2.2 ql_RX7_52 (Nat.le_of_ble_eq_true rfl) (Nat.le_of_ble_eq_true rfl)) rfl hl.1 rfl (Nat.le_of_ble_eq_true rfl) dX7_areNumbers_4 ⟨Nat.zero_le _, Nat.zero_le _⟩ (fun S_1 r_2 hq H locs hX => ?_)
  refine lv_if_eq (tgt := 36) hM.1 hM.2.1 dX7_areNumbers_7 (by decide) (fun c_3 => ?_) (fun c_3 => ?_)
  · replace hq := hq.1 c_3
    refine lv_iconst (v := (0 : Int32)) hM.1 hM.2.1 dX7_areNumbers_36 (by decide) ?_
    exact e_z hM hX hlocks hret rfl hq dX7_areNumbers_37
  replace hq := hq.2 c_3
  refine lv_iload_n hM.1 hM.2.1 dX7_areNumbers_10 rfl (lv_at hl 1 rfl) ?_
  refine lv_sipush (v := (-200 : Int32)) hM.1 hM.2.1 dX7_areNumbers_11 (by decide) ?_
  refine lv_sipush (v := (200 : Int32)) hM.1 hM.2.1 dX7_areNumbers_14 (by decide) ?_
  refine cSi (As := [.int x1, .int (-200 : Int32), .int (200 : Int32)]) hM hK hX hA (met_X7_in l D ad cy S_1 x1 (-200 : Int32) (200 : Int32) hq) (kX7_in hM.2.2.2.2 ql_RX7_52 (Nat.le_of_ble_eq_true rfl) (Nat.le_of_ble_eq_true rfl)) rfl hl.1 rfl (Nat.le_of_ble_eq_true rfl) dX7_areNumbers_17 ⟨Nat.zero_le _, Nat.zero_le _⟩ (fun S_4 r_5 hq H locs hX => ?_)
  refine lv_if_eq (tgt := 36) hM.1 hM.2.1 dX7_areNumbers_20 (by decide) (fun c_6 => ?_) (fun c_6 => ?_)
  · replace hq := hq.1 c_6
    refine lv_iconst (v := (0 : Int32)) hM.1 hM.2.1 dX7_areNumbers_36 (by decide) ?_
    exact e_z hM hX hlocks hret rfl hq dX7_areNumbers_37
  replace hq := hq.2 c_6
  refine lv_iload_n hM.1 hM.2.1 dX7_areNumbers_23 rfl (lv_at hl 2 rfl) ?_
  refine lv_iconst (v := (1 : Int32)) hM.1 hM.2.1 dX7_areNumbers_24 (by decide) ?_
  refine lv_iconst (v := (5 : Int32)) hM.1 hM.2.1 dX7_areNumbers_25 (by decide) ?_
  refine cSi (As := [.int x2, .int (1 : Int32), .int (5 : Int32)]) hM hK hX hA (met_X7_in l D ad cy S_4 x2 (1 : Int32) (5 : Int32) hq) (kX7_in hM.2.2.2.2 ql_RX7_52 (Nat.le_of_ble_eq_true rfl) (Nat.le_of_ble_eq_true rfl)) rfl hl.1 rfl (Nat.le_of_ble_eq_true rfl) dX7_areNumbers_26 ⟨Nat.zero_le _, Nat.zero_le _⟩ (fun S_7 r_8 hq H locs hX => ?_)
  refine lv_if_eq (tgt := 36) hM.1 hM.2.1 dX7_areNumbers_29 (by decide) (fun c_9 => ?_) (fun c_9 => ?_)
  · replace hq := hq.1 c_9
    refine lv_iconst (v := (0 : Int32)) hM.1 hM.2.1 dX7_areNumbers_36 (by decide) ?_
    exact e_z hM hX hlocks hret rfl hq dX7_areNumbers_37
  replace hq := hq.2 c_9
  refine lv_iconst (v := (1 : Int32)) hM.1 hM.2.1 dX7_areNumbers_32 (by decide) ?_
  refine lv_goto (tgt := 37) hM.1 hM.2.1 dX7_areNumbers_33 (by decide) ?_
  exact e_z hM hX hlocks hret rfl hq dX7_areNumbers_37
def rmX7_add : Room := { frames := 1, cells := 0, slots := 0, locals := 23 }
theorem kX7_add {R : Room} {s : State} {args : Array Value} {own : String} {index : Nat} (ht : ∀ w ∈ lw_all, w.before args s = true) (hl : Cond.methodLink own index yX7_add ∈ lw_all) (hf : rmX7_add.frames + 1 ≤ R.frames) (hlo : 8 + (7 + 11) + rmX7_add.locals ≤ R.locals) : CallW R s args own RX7 index yX7_add cX7_add 7 (some Jvm.ClassFile.FieldType.int) (wA yX7_add cX7_add 7 (some Jvm.ClassFile.FieldType.int)) rmX7_add 0 0 4 := cwV 4 ht (good_V hl qm_yX7_add qs_yX7_add qi_RX7 qc_yX7_add) rfl rfl rfl (by decide +kernel) ⟨hf, hlo⟩
set_option maxRecDepth 100000 in
set_option maxHeartbeats 4000000 in
theorem met_X7_add (l : Launch) (D : va_G) (ad : Adr) (cy : Nat → ClassId) (S : Mem) (x1 : Int32) (x2 : Int32) (x3 : Int32) (x4 : Int32) {Q : Mem → Int32 → Prop} (hq : vc_X7_add S x1 x2 x3 x4 Q) : Ci l yX7_add (wA yX7_add cX7_add 7 (some Jvm.ClassFile.FieldType.int)) rmX7_add D ad cy [.ref (ad 15 0 0), .int x1, .int x2, .int x3, .int x4] S Q := by
  intro o sz
  refine mkC (own := RX7) (lv := [(0, .ref (ad 15 0 0)), (1, .int x1), (2, .int x2), (3, .int x3), (4, .int x4)]) (by decide) rfl (Nat.le_of_ble_eq_true rfl) rfl ⟨rfl, rfl⟩ ?_
  intro p e s m below meth c ls hsz hM hlocks hret hK hA hX hl
  have L12 : ∀ {K : Mem → Int32 → Prop} (hk : ∀ (S : Mem) (y5 : Int32), K S y5 → ∀ (H : Heap) (locs : List Loc) (ls : Array Slot), PW D ad cy (AW ad sz) s.heap o S H locs → lv_has ls 7 [(0, .ref (ad 15 0 0)), (1, .int x1), (2, .int x2), (3, .int x3), (4, .int x4), (5, .int y5)] → Wi D ad cy o sz Q p l e rmX7_add s m [.ref (ad 15 0 0), .int x1, .int x2, .int x3, .int x4] below meth c H locs (F0 m 34 ls [])), ∀ (n : Nat) (S : Mem) (y5 : Int32) (y6 : Int32), vc_X7_add_L12 Q K x1 x2 x3 x4 n S y5 y6 → ∀ (H : Heap) (locs : List Loc) (ls : Array Slot), PW D ad cy (AW ad sz) s.heap o S H locs → lv_has ls 7 [(0, .ref (ad 15 0 0)), (1, .int x1), (2, .int x2), (3, .int x3), (4, .int x4), (5, .int y5), (6, .int y6)] → Wi D ad cy o sz Q p l e rmX7_add s m [.ref (ad 15 0 0), .int x1, .int x2, .int x3, .int x4] below meth c H locs (F0 m 12 ls []) := by
    intro K hk n
    induction n with
    | zero =>
      intro S y5 y6 hq
      rw [vc_X7_add_L12] at hq
      exact hq.elim
    | succ n ih =>
      intro S y5 y6 hq H locs ls hX hl
      rw [vc_X7_add_L12] at hq
      refine lv_iload hM.1 hM.2.1 dX7_add_12 (lv_at hl 6 rfl) ?_
      refine lv_bipush (v := (21 : Int32)) hM.1 hM.2.1 dX7_add_14 (by decide) ?_
      refine lv_icmp_ge (tgt := 34) hM.1 hM.2.1 dX7_add_16 (by decide) (fun c_2 => ?_) (fun c_2 => ?_)
      · replace hq := hq.1 c_2
        exact hk S y5 hq _ _ _ hX (lv_sub hl [0, 1, 2, 3, 4, 5] rfl)
      replace hq := hq.2 c_2
      refine lv_aload_n hM.1 hM.2.1 dX7_add_19 rfl (lv_at hl 0 rfl) ?_
      refine lv_iload hM.1 hM.2.1 dX7_add_20 (lv_at hl 5 rfl) ?_
      refine lv_iload hM.1 hM.2.1 dX7_add_22 (lv_at hl 6 rfl) ?_
      refine lv_iconst (v := (0 : Int32)) hM.1 hM.2.1 dX7_add_24 (by decide) ?_
      refine cVv (As := [.int y5, .int y6, .int (0 : Int32)]) hM hK hX hA (met_X7_put l D ad cy S y5 y6 (0 : Int32) hq) (kX7_put hM.2.2.2.2 ql_RX7_94 (Nat.le_of_ble_eq_true rfl) (Nat.le_of_ble_eq_true rfl)) (v15 hK hX m15) rfl hl.1 rfl (Nat.le_of_ble_eq_true rfl) dX7_add_25 ⟨Nat.zero_le _, Nat.zero_le _⟩ (fun S_3 hq H locs hX => ?_)
      refine lv_iinc (v := (y6 + (1 : Int32))) (lv' := [(6, .int (y6 + (1 : Int32))), (0, .ref (ad 15 0 0)), (1, .int x1), (2, .int x2), (3, .int x3), (4, .int x4), (5, .int y5)]) hM.1 hM.2.1 dX7_add_28 hl (k := 6) rfl rfl (by decide) rfl (fun ls hl => ?_)
      refine lv_goto (tgt := 12) hM.1 hM.2.1 dX7_add_31 (by decide) ?_
      exact ih S_3 y5 (y6 + (1 : Int32)) hq _ _ _ hX (lv_sub hl [1, 2, 3, 4, 5, 6, 0] rfl)
  unfold vc_X7_add at hq
  refine lv_aload_n hM.1 hM.2.1 dX7_add_0 rfl (lv_at hl 0 rfl) ?_
  refine g15 hM hK hX m15 0 (by decide) qf_RX7_7 rfl dX7_add_1 ?_
  refine lv_bipush (v := (15 : Int32)) hM.1 hM.2.1 dX7_add_4 (by decide) ?_
  have c_1 := hq.1
  replace hq := hq.2
  refine r_iald hM hK hX m16 (a16 0 0) c_1 dX7_add_6 ?_
  refine lv_istore (lv' := [(5, .int (S 16 0 0 (15 : Int32).toNatClampNeg)), (0, .ref (ad 15 0 0)), (1, .int x1), (2, .int x2), (3, .int x3), (4, .int x4)]) hM.1 hM.2.1 dX7_add_7 hl (by decide) rfl (fun ls hl => ?_)
  refine lv_iconst (v := (0 : Int32)) hM.1 hM.2.1 dX7_add_9 (by decide) ?_
  refine lv_istore (lv' := [(6, .int (0 : Int32)), (5, .int (S 16 0 0 (15 : Int32).toNatClampNeg)), (0, .ref (ad 15 0 0)), (1, .int x1), (2, .int x2), (3, .int x3), (4, .int x4)]) hM.1 hM.2.1 dX7_add_10 hl (by decide) rfl (fun ls hl => ?_)
  obtain ⟨k0, hq⟩ := hq
  refine L12 (fun S_4 y5_5 hq H locs ls hX hl => ?_) k0 S (S 16 0 0 (15 : Int32).toNatClampNeg) (0 : Int32) hq _ _ _ hX (lv_sub hl [2, 3, 4, 5, 6, 1, 0] rfl)
  refine lv_aload_n hM.1 hM.2.1 dX7_add_34 rfl (lv_at hl 0 rfl) ?_
  refine lv_iload hM.1 hM.2.1 dX7_add_35 (lv_at hl 5 rfl) ?_
  refine lv_iconst (v := (0 : Int32)) hM.1 hM.2.1 dX7_add_37 (by decide) ?_
  refine lv_iload_n hM.1 hM.2.1 dX7_add_38 rfl (lv_at hl 1 rfl) ?_
  refine cVv (As := [.int y5_5, .int (0 : Int32), .int x1]) hM hK hX hA (met_X7_put l D ad cy S_4 y5_5 (0 : Int32) x1 hq) (kX7_put hM.2.2.2.2 ql_RX7_94 (Nat.le_of_ble_eq_true rfl) (Nat.le_of_ble_eq_true rfl)) (v15 hK hX m15) rfl hl.1 rfl (Nat.le_of_ble_eq_true rfl) dX7_add_39 ⟨Nat.zero_le _, Nat.zero_le _⟩ (fun S_6 hq H locs hX => ?_)
  refine lv_aload_n hM.1 hM.2.1 dX7_add_42 rfl (lv_at hl 0 rfl) ?_
  refine lv_iload hM.1 hM.2.1 dX7_add_43 (lv_at hl 5 rfl) ?_
  refine lv_iconst (v := (1 : Int32)) hM.1 hM.2.1 dX7_add_45 (by decide) ?_
  refine lv_iload_n hM.1 hM.2.1 dX7_add_46 rfl (lv_at hl 2 rfl) ?_
  refine cVv (As := [.int y5_5, .int (1 : Int32), .int x2]) hM hK hX hA (met_X7_put l D ad cy S_6 y5_5 (1 : Int32) x2 hq) (kX7_put hM.2.2.2.2 ql_RX7_94 (Nat.le_of_ble_eq_true rfl) (Nat.le_of_ble_eq_true rfl)) (v15 hK hX m15) rfl hl.1 rfl (Nat.le_of_ble_eq_true rfl) dX7_add_47 ⟨Nat.zero_le _, Nat.zero_le _⟩ (fun S_7 hq H locs hX => ?_)
  refine lv_aload_n hM.1 hM.2.1 dX7_add_50 rfl (lv_at hl 0 rfl) ?_
  refine lv_iload hM.1 hM.2.1 dX7_add_51 (lv_at hl 5 rfl) ?_
  refine lv_iconst (v := (2 : Int32)) hM.1 hM.2.1 dX7_add_53 (by decide) ?_
  refine lv_iload_n hM.1 hM.2.1 dX7_add_54 rfl (lv_at hl 3 rfl) ?_
  refine cVv (As := [.int y5_5, .int (2 : Int32), .int x3]) hM hK hX hA (met_X7_put l D ad cy S_7 y5_5 (2 : Int32) x3 hq) (kX7_put hM.2.2.2.2 ql_RX7_94 (Nat.le_of_ble_eq_true rfl) (Nat.le_of_ble_eq_true rfl)) (v15 hK hX m15) rfl hl.1 rfl (Nat.le_of_ble_eq_true rfl) dX7_add_55 ⟨Nat.zero_le _, Nat.zero_le _⟩ (fun S_8 hq H locs hX => ?_)
  refine lv_aload_n hM.1 hM.2.1 dX7_add_58 rfl (lv_at hl 0 rfl) ?_
  refine lv_iload hM.1 hM.2.1 dX7_add_59 (lv_at hl 5 rfl) ?_
  refine lv_iconst (v := (3 : Int32)) hM.1 hM.2.1 dX7_add_61 (by decide) ?_
  refine lv_iload hM.1 hM.2.1 dX7_add_62 (lv_at hl 4 rfl) ?_
  refine cVv (As := [.int y5_5, .int (3 : Int32), .int x4]) hM hK hX hA (met_X7_put l D ad cy S_8 y5_5 (3 : Int32) x4 hq) (kX7_put hM.2.2.2.2 ql_RX7_94 (Nat.le_of_ble_eq_true rfl) (Nat.le_of_ble_eq_true rfl)) (v15 hK hX m15) rfl hl.1 rfl (Nat.le_of_ble_eq_true rfl) dX7_add_64 ⟨Nat.zero_le _, Nat.zero_le _⟩ (fun S_9 hq H locs hX => ?_)
  refine lv_aload_n hM.1 hM.2.1 dX7_add_67 rfl (lv_at hl 0 rfl) ?_
  refine lv_iload hM.1 hM.2.1 dX7_add_68 (lv_at hl 5 rfl) ?_
  refine lv_iconst (v := (4 : Int32)) hM.1 hM.2.1 dX7_add_70 (by decide) ?_
  refine lv_aload_n hM.1 hM.2.1 dX7_add_71 rfl (lv_at hl 0 rfl) ?_
  refine g15 hM hK hX m15 0 (by decide) qf_RX7_7 rfl dX7_add_72 ?_
  refine lv_iconst (v := (1 : Int32)) hM.1 hM.2.1 dX7_add_75 (by decide) ?_
  have c_10 := hq.1
  replace hq := hq.2
  refine r_iald hM hK hX m16 (a16 0 0) c_10 dX7_add_76 ?_
  refine lv_iload_n hM.1 hM.2.1 dX7_add_77 rfl (lv_at hl 3 rfl) ?_
  refine lv_iadd hM.1 hM.2.1 dX7_add_78 ?_
  refine cVv (As := [.int y5_5, .int (4 : Int32), .int ((S_9 16 0 0 (1 : Int32).toNatClampNeg) + x3)]) hM hK hX hA (met_X7_put l D ad cy S_9 y5_5 (4 : Int32) ((S_9 16 0 0 (1 : Int32).toNatClampNeg) + x3) hq) (kX7_put hM.2.2.2.2 ql_RX7_94 (Nat.le_of_ble_eq_true rfl) (Nat.le_of_ble_eq_true rfl)) (v15 hK hX m15) rfl hl.1 rfl (Nat.le_of_ble_eq_true rfl) dX7_add_79 ⟨Nat.zero_le _, Nat.zero_le _⟩ (fun S_11 hq H locs hX => ?_)
  refine lv_aload_n hM.1 hM.2.1 dX7_add_82 rfl (lv_at hl 0 rfl) ?_
  refine g15 hM hK hX m15 0 (by decide) qf_RX7_7 rfl dX7_add_83 ?_
  refine lv_bipush (v := (15 : Int32)) hM.1 hM.2.1 dX7_add_86 (by decide) ?_
  refine lv_dup2_11 hM.1 hM.2.1 dX7_add_88 rfl rfl ?_
  have c_12 := hq.1
  replace hq := hq.2
  refine r_iald hM hK hX m16 (a16 0 0) c_12 dX7_add_89 ?_
  refine lv_iconst (v := (1 : Int32)) hM.1 hM.2.1 dX7_add_90 (by decide) ?_
  refine lv_iadd hM.1 hM.2.1 dX7_add_91 ?_
  have c_14 := hq.1
  replace hq := hq.2
  refine r_iast hM hK hX m16 (a16 0 0) c_14 dX7_add_92 (fun S_13 e_15 H locs hX => ?_)
  replace hq := hq S_13 e_15
  refine lv_iload hM.1 hM.2.1 dX7_add_93 (lv_at hl 5 rfl) ?_
  exact e_i hM hX hlocks hret hq dX7_add_95
def rmX7_thermometer : Room := { frames := 2, cells := 0, slots := 0, locals := 49 }
theorem kX7_thermometer {R : Room} {s : State} {args : Array Value} {own : String} {index : Nat} (ht : ∀ w ∈ lw_all, w.before args s = true) (hl : Cond.methodLink own index yX7_thermometer ∈ lw_all) (hf : rmX7_thermometer.frames + 1 ≤ R.frames) (hlo : 8 + (5 + 11) + rmX7_thermometer.locals ≤ R.locals) : CallW R s args own RX7 index yX7_thermometer cX7_thermometer 5 (some Jvm.ClassFile.FieldType.int) (wA yX7_thermometer cX7_thermometer 5 (some Jvm.ClassFile.FieldType.int)) rmX7_thermometer 0 0 4 := cwV 4 ht (good_V hl qm_yX7_thermometer qs_yX7_thermometer qi_RX7 qc_yX7_thermometer) rfl rfl rfl (by decide +kernel) ⟨hf, hlo⟩
set_option maxRecDepth 100000 in
set_option maxHeartbeats 4000000 in
theorem met_X7_thermometer (l : Launch) (D : va_G) (ad : Adr) (cy : Nat → ClassId) (S : Mem) (x1 : Int32) (x2 : Int32) (x3 : Int32) (x4 : Int32) {Q : Mem → Int32 → Prop} (hq : vc_X7_thermometer S x1 x2 x3 x4 Q) : Ci l yX7_thermometer (wA yX7_thermometer cX7_thermometer 5 (some Jvm.ClassFile.FieldType.int)) rmX7_thermometer D ad cy [.ref (ad 15 0 0), .int x1, .int x2, .int x3, .int x4] S Q := by
  intro o sz
  refine mkC (own := RX7) (lv := [(0, .ref (ad 15 0 0)), (1, .int x1), (2, .int x2), (3, .int x3), (4, .int x4)]) (by decide) rfl (Nat.le_of_ble_eq_true rfl) rfl ⟨rfl, rfl⟩ ?_
  intro p e s m below meth c ls hsz hM hlocks hret hK hA hX hl
  unfold vc_X7_thermometer at hq
  refine lv_aload_n hM.1 hM.2.1 dX7_thermometer_0 rfl (lv_at hl 0 rfl) ?_
  refine lv_iconst (v := (0 : Int32)) hM.1 hM.2.1 dX7_thermometer_1 (by decide) ?_
  refine p15_6 hM hK hX m15 qf_RX7_48 dX7_thermometer_2 (fun S_1 e_2 H locs hX => ?_)
  replace hq := hq S_1 e_2
  refine lv_iload_n hM.1 hM.2.1 dX7_thermometer_5 rfl (lv_at hl 1 rfl) ?_
  refine cSi (As := [.int x1]) hM hK hX hA (met_X7_isRow l D ad cy S_1 x1 hq) (kX7_isRow hM.2.2.2.2 ql_RX7_122 (Nat.le_of_ble_eq_true rfl) (Nat.le_of_ble_eq_true rfl)) rfl hl.1 rfl (Nat.le_of_ble_eq_true rfl) dX7_thermometer_6 ⟨Nat.zero_le _, Nat.zero_le _⟩ (fun S_3 r_4 hq H locs hX => ?_)
  refine lv_if_ne (tgt := 18) hM.1 hM.2.1 dX7_thermometer_9 (by decide) (fun c_5 => ?_) (fun c_5 => ?_)
  · replace hq := hq.1 c_5
    refine lv_iload_n hM.1 hM.2.1 dX7_thermometer_18 rfl (lv_at hl 2 rfl) ?_
    refine lv_iload_n hM.1 hM.2.1 dX7_thermometer_19 rfl (lv_at hl 3 rfl) ?_
    refine lv_iload hM.1 hM.2.1 dX7_thermometer_20 (lv_at hl 4 rfl) ?_
    refine cSi (As := [.int x2, .int x3, .int x4]) hM hK hX hA (met_X7_areNumbers l D ad cy S_3 x2 x3 x4 hq) (kX7_areNumbers hM.2.2.2.2 ql_RX7_125 (Nat.le_of_ble_eq_true rfl) (Nat.le_of_ble_eq_true rfl)) rfl hl.1 rfl (Nat.le_of_ble_eq_true rfl) dX7_thermometer_22 ⟨Nat.zero_le _, Nat.zero_le _⟩ (fun S_6 r_7 hq H locs hX => ?_)
    refine lv_if_ne (tgt := 34) hM.1 hM.2.1 dX7_thermometer_25 (by decide) (fun c_8 => ?_) (fun c_8 => ?_)
    · replace hq := hq.1 c_8
      refine lv_aload_n hM.1 hM.2.1 dX7_thermometer_34 rfl (lv_at hl 0 rfl) ?_
      refine g15 hM hK hX m15 0 (by decide) qf_RX7_7 rfl dX7_thermometer_35 ?_
      refine lv_bipush (v := (15 : Int32)) hM.1 hM.2.1 dX7_thermometer_38 (by decide) ?_
      have c_9 := hq.1
      replace hq := hq.2
      refine r_iald hM hK hX m16 (a16 0 0) c_9 dX7_thermometer_40 ?_
      refine lv_bipush (v := (10 : Int32)) hM.1 hM.2.1 dX7_thermometer_41 (by decide) ?_
      refine lv_icmp_ne (tgt := 52) hM.1 hM.2.1 dX7_thermometer_43 (by decide) (fun c_10 => ?_) (fun c_10 => ?_)
      · replace hq := hq.1 c_10
        refine lv_aload_n hM.1 hM.2.1 dX7_thermometer_52 rfl (lv_at hl 0 rfl) ?_
        refine cVv (As := []) hM hK hX hA (met_X7_save l D ad cy S_6 hq) (kX7_save hM.2.2.2.2 ql_RX7_63 (Nat.le_of_ble_eq_true rfl) (Nat.le_of_ble_eq_true rfl)) (v15 hK hX m15) rfl hl.1 rfl (Nat.le_of_ble_eq_true rfl) dX7_thermometer_53 ⟨Nat.zero_le _, Nat.zero_le _⟩ (fun S_11 hq H locs hX => ?_)
        refine lv_aload_n hM.1 hM.2.1 dX7_thermometer_56 rfl (lv_at hl 0 rfl) ?_
        refine lv_iload_n hM.1 hM.2.1 dX7_thermometer_57 rfl (lv_at hl 1 rfl) ?_
        refine lv_iload_n hM.1 hM.2.1 dX7_thermometer_58 rfl (lv_at hl 2 rfl) ?_
        refine lv_iload_n hM.1 hM.2.1 dX7_thermometer_59 rfl (lv_at hl 3 rfl) ?_
        refine lv_iload hM.1 hM.2.1 dX7_thermometer_60 (lv_at hl 4 rfl) ?_
        refine cVi (As := [.int x1, .int x2, .int x3, .int x4]) hM hK hX hA (met_X7_add l D ad cy S_11 x1 x2 x3 x4 hq) (kX7_add hM.2.2.2.2 ql_RX7_128 (Nat.le_of_ble_eq_true rfl) (Nat.le_of_ble_eq_true rfl)) (v15 hK hX m15) rfl hl.1 rfl (Nat.le_of_ble_eq_true rfl) dX7_thermometer_62 ⟨Nat.zero_le _, Nat.zero_le _⟩ (fun S_12 r_13 hq H locs hX => ?_)
        exact e_i hM hX hlocks hret hq dX7_thermometer_65
      replace hq := hq.2 c_10
      refine lv_aload_n hM.1 hM.2.1 dX7_thermometer_46 rfl (lv_at hl 0 rfl) ?_
      refine lv_iconst (v := (3 : Int32)) hM.1 hM.2.1 dX7_thermometer_47 (by decide) ?_
      refine cVi (As := [.int (3 : Int32)]) hM hK hX hA (met_X7_fails l D ad cy S_6 (3 : Int32) hq) (kX7_fails hM.2.2.2.2 ql_RX7_59 (Nat.le_of_ble_eq_true rfl) (Nat.le_of_ble_eq_true rfl)) (v15 hK hX m15) rfl hl.1 rfl (Nat.le_of_ble_eq_true rfl) dX7_thermometer_48 ⟨Nat.zero_le _, Nat.zero_le _⟩ (fun S_14 r_15 hq H locs hX => ?_)
      exact e_i hM hX hlocks hret hq dX7_thermometer_51
    replace hq := hq.2 c_8
    refine lv_aload_n hM.1 hM.2.1 dX7_thermometer_28 rfl (lv_at hl 0 rfl) ?_
    refine lv_iconst (v := (2 : Int32)) hM.1 hM.2.1 dX7_thermometer_29 (by decide) ?_
    refine cVi (As := [.int (2 : Int32)]) hM hK hX hA (met_X7_fails l D ad cy S_6 (2 : Int32) hq) (kX7_fails hM.2.2.2.2 ql_RX7_59 (Nat.le_of_ble_eq_true rfl) (Nat.le_of_ble_eq_true rfl)) (v15 hK hX m15) rfl hl.1 rfl (Nat.le_of_ble_eq_true rfl) dX7_thermometer_30 ⟨Nat.zero_le _, Nat.zero_le _⟩ (fun S_16 r_17 hq H locs hX => ?_)
    exact e_i hM hX hlocks hret hq dX7_thermometer_33
  replace hq := hq.2 c_5
  refine lv_aload_n hM.1 hM.2.1 dX7_thermometer_12 rfl (lv_at hl 0 rfl) ?_
  refine lv_iconst (v := (1 : Int32)) hM.1 hM.2.1 dX7_thermometer_13 (by decide) ?_
  refine cVi (As := [.int (1 : Int32)]) hM hK hX hA (met_X7_fails l D ad cy S_3 (1 : Int32) hq) (kX7_fails hM.2.2.2.2 ql_RX7_59 (Nat.le_of_ble_eq_true rfl) (Nat.le_of_ble_eq_true rfl)) (v15 hK hX m15) rfl hl.1 rfl (Nat.le_of_ble_eq_true rfl) dX7_thermometer_14 ⟨Nat.zero_le _, Nat.zero_le _⟩ (fun S_18 r_19 hq H locs hX => ?_)
  exact e_i hM hX hlocks hret hq dX7_thermometer_17
def rmX7_isTemperature : Room := { frames := 1, cells := 0, slots := 0, locals := 22 }
theorem kX7_isTemperature {R : Room} {s : State} {args : Array Value} {own : String} {index : Nat} (ht : ∀ w ∈ lw_all, w.before args s = true) (hl : Cond.methodLink own index yX7_isTemperature ∈ lw_all) (hf : rmX7_isTemperature.frames + 1 ≤ R.frames) (hlo : 8 + (1 + 11) + rmX7_isTemperature.locals ≤ R.locals) : CallB R s args own index yX7_isTemperature cX7_isTemperature 1 (some Jvm.ClassFile.FieldType.boolean) (wA yX7_isTemperature cX7_isTemperature 1 (some Jvm.ClassFile.FieldType.boolean)) rmX7_isTemperature 0 0 1 ∧ (Cond.static yX7_isTemperature).before args s = true := va_cwS 1 ht (good_S hl qt_yX7_isTemperature qi_RX7 qc_yX7_isTemperature) rfl rfl rfl (by decide +kernel) ⟨hf, hlo⟩
set_option maxRecDepth 100000 in
set_option maxHeartbeats 4000000 in
theorem met_X7_isTemperature (l : Launch) (D : va_G) (ad : Adr) (cy : Nat → ClassId) (S : Mem) (x0 : Int32) {Q : Mem → Int32 → Prop} (hq : vc_X7_isTemperature S x0 Q) : Ci l yX7_isTemperature (wA yX7_isTemperature cX7_isTemperature 1 (some Jvm.ClassFile.FieldType.boolean)) rmX7_isTemperature D ad cy [.int x0] S Q := by
  intro o sz
  refine mkC (own := RX7) (lv := [(0, .int x0)]) (by decide) rfl (Nat.le_of_ble_eq_true rfl) rfl ⟨rfl, rfl⟩ ?_
  intro p e s m below meth c ls hsz hM hlocks hret hK hA hX hl
  unfold vc_X7_isTemperature at hq
  refine lv_iload_n hM.1 hM.2.1 dX7_isTemperature_0 rfl (lv_at hl 0 rfl) ?_
  refine lv_sipush (v := (-5000 : Int32)) hM.1 hM.2.1 dX7_isTemperature_1 (by decide) ?_
  refine lv_sipush (v := (5000 : Int32)) hM.1 hM.2.1 dX7_isTemperature_4 (by decide) ?_
  refine cSi (As := [.int x0, .int (-5000 : Int32), .int (5000 : Int32)]) hM hK hX hA (met_X7_in l D ad cy S x0 (-5000 : Int32) (5000 : Int32) hq) (kX7_in hM.2.2.2.2 ql_RX7_52 (Nat.le_of_ble_eq_true rfl) (Nat.le_of_ble_eq_true rfl)) rfl hl.1 rfl (Nat.le_of_ble_eq_true rfl) dX7_isTemperature_7 ⟨Nat.zero_le _, Nat.zero_le _⟩ (fun S_1 r_2 hq H locs hX => ?_)
  exact e_z hM hX hlocks hret (nar_z hq.1).1 hq.2 dX7_isTemperature_10
def rmX7_hour : Room := { frames := 7, cells := 0, slots := 0, locals := 154 }
theorem kX7_hour {R : Room} {s : State} {args : Array Value} {own : String} {index : Nat} (ht : ∀ w ∈ lw_all, w.before args s = true) (hl : Cond.methodLink own index yX7_hour ∈ lw_all) (hf : rmX7_hour.frames + 1 ≤ R.frames) (hlo : 8 + (2 + 11) + rmX7_hour.locals ≤ R.locals) : CallW R s args own RX7 index yX7_hour cX7_hour 2 (some Jvm.ClassFile.FieldType.int) (wA yX7_hour cX7_hour 2 (some Jvm.ClassFile.FieldType.int)) rmX7_hour 0 0 1 := cwV 1 ht (good_V hl qm_yX7_hour qs_yX7_hour qi_RX7 qc_yX7_hour) rfl rfl rfl (by decide +kernel) ⟨hf, hlo⟩
set_option maxRecDepth 100000 in
set_option maxHeartbeats 4000000 in
theorem met_X7_hour (l : Launch) (D : va_G) (ad : Adr) (cy : Nat → ClassId) (S : Mem) (x1 : Int32) {Q : Mem → Int32 → Prop} (hq : vc_X7_hour S x1 Q) : Ci l yX7_hour (wA yX7_hour cX7_hour 2 (some Jvm.ClassFile.FieldType.int)) rmX7_hour D ad cy [.ref (ad 15 0 0), .int x1] S Q := by
  intro o sz
  refine mkC (own := RX7) (lv := [(0, .ref (ad 15 0 0)), (1, .int x1)]) (by decide) rfl (Nat.le_of_ble_eq_true rfl) rfl ⟨rfl, rfl⟩ ?_
  intro p e s m below meth c ls hsz hM hlocks hret hK hA hX hl
  unfold vc_X7_hour at hq
  refine lv_aload_n hM.1 hM.2.1 dX7_hour_0 rfl (lv_at hl 0 rfl) ?_
  refine lv_iconst (v := (0 : Int32)) hM.1 hM.2.1 dX7_hour_1 (by decide) ?_
  refine p15_6 hM hK hX m15 qf_RX7_48 dX7_hour_2 (fun S_1 e_2 H locs hX => ?_)
  replace hq := hq S_1 e_2
  refine lv_iload_n hM.1 hM.2.1 dX7_hour_5 rfl (lv_at hl 1 rfl) ?_
  refine cSi (As := [.int x1]) hM hK hX hA (met_X7_isTemperature l D ad cy S_1 x1 hq) (kX7_isTemperature hM.2.2.2.2 ql_RX7_132 (Nat.le_of_ble_eq_true rfl) (Nat.le_of_ble_eq_true rfl)) rfl hl.1 rfl (Nat.le_of_ble_eq_true rfl) dX7_hour_6 ⟨Nat.zero_le _, Nat.zero_le _⟩ (fun S_3 r_4 hq H locs hX => ?_)
  refine lv_if_ne (tgt := 18) hM.1 hM.2.1 dX7_hour_9 (by decide) (fun c_5 => ?_) (fun c_5 => ?_)
  · replace hq := hq.1 c_5
    refine lv_aload_n hM.1 hM.2.1 dX7_hour_18 rfl (lv_at hl 0 rfl) ?_
    refine g15 hM hK hX m15 0 (by decide) qf_RX7_7 rfl dX7_hour_19 ?_
    refine lv_iconst (v := (0 : Int32)) hM.1 hM.2.1 dX7_hour_22 (by decide) ?_
    have c_6 := hq.1
    replace hq := hq.2
    refine r_iald hM hK hX m16 (a16 0 0) c_6 dX7_hour_23 ?_
    refine lv_sipush (v := (9999 : Int32)) hM.1 hM.2.1 dX7_hour_24 (by decide) ?_
    refine lv_icmp_ne (tgt := 36) hM.1 hM.2.1 dX7_hour_27 (by decide) (fun c_7 => ?_) (fun c_7 => ?_)
    · replace hq := hq.1 c_7
      refine lv_aload_n hM.1 hM.2.1 dX7_hour_36 rfl (lv_at hl 0 rfl) ?_
      refine cVv (As := []) hM hK hX hA (met_X7_save l D ad cy S_3 hq) (kX7_save hM.2.2.2.2 ql_RX7_63 (Nat.le_of_ble_eq_true rfl) (Nat.le_of_ble_eq_true rfl)) (v15 hK hX m15) rfl hl.1 rfl (Nat.le_of_ble_eq_true rfl) dX7_hour_37 ⟨Nat.zero_le _, Nat.zero_le _⟩ (fun S_8 hq H locs hX => ?_)
      refine lv_aload_n hM.1 hM.2.1 dX7_hour_40 rfl (lv_at hl 0 rfl) ?_
      refine lv_iload_n hM.1 hM.2.1 dX7_hour_41 rfl (lv_at hl 1 rfl) ?_
      refine cVi (As := [.int x1]) hM hK hX hA (met_X7_pass l D ad cy S_8 x1 hq) (kX7_pass hM.2.2.2.2 ql_RX7_135 (Nat.le_of_ble_eq_true rfl) (Nat.le_of_ble_eq_true rfl)) (v15 hK hX m15) rfl hl.1 rfl (Nat.le_of_ble_eq_true rfl) dX7_hour_42 ⟨Nat.zero_le _, Nat.zero_le _⟩ (fun S_9 r_10 hq H locs hX => ?_)
      exact e_i hM hX hlocks hret hq dX7_hour_45
    replace hq := hq.2 c_7
    refine lv_aload_n hM.1 hM.2.1 dX7_hour_30 rfl (lv_at hl 0 rfl) ?_
    refine lv_iconst (v := (2 : Int32)) hM.1 hM.2.1 dX7_hour_31 (by decide) ?_
    refine cVi (As := [.int (2 : Int32)]) hM hK hX hA (met_X7_fails l D ad cy S_3 (2 : Int32) hq) (kX7_fails hM.2.2.2.2 ql_RX7_59 (Nat.le_of_ble_eq_true rfl) (Nat.le_of_ble_eq_true rfl)) (v15 hK hX m15) rfl hl.1 rfl (Nat.le_of_ble_eq_true rfl) dX7_hour_32 ⟨Nat.zero_le _, Nat.zero_le _⟩ (fun S_11 r_12 hq H locs hX => ?_)
    exact e_i hM hX hlocks hret hq dX7_hour_35
  replace hq := hq.2 c_5
  refine lv_aload_n hM.1 hM.2.1 dX7_hour_12 rfl (lv_at hl 0 rfl) ?_
  refine lv_iconst (v := (1 : Int32)) hM.1 hM.2.1 dX7_hour_13 (by decide) ?_
  refine cVi (As := [.int (1 : Int32)]) hM hK hX hA (met_X7_fails l D ad cy S_3 (1 : Int32) hq) (kX7_fails hM.2.2.2.2 ql_RX7_59 (Nat.le_of_ble_eq_true rfl) (Nat.le_of_ble_eq_true rfl)) (v15 hK hX m15) rfl hl.1 rfl (Nat.le_of_ble_eq_true rfl) dX7_hour_14 ⟨Nat.zero_le _, Nat.zero_le _⟩ (fun S_13 r_14 hq H locs hX => ?_)
  exact e_i hM hX hlocks hret hq dX7_hour_17
def rmX7_hours : Room := { frames := 7, cells := 0, slots := 0, locals := 154 }
theorem kX7_hours {R : Room} {s : State} {args : Array Value} {own : String} {index : Nat} (ht : ∀ w ∈ lw_all, w.before args s = true) (hl : Cond.methodLink own index yX7_hours ∈ lw_all) (hf : rmX7_hours.frames + 1 ≤ R.frames) (hlo : 8 + (6 + 11) + rmX7_hours.locals ≤ R.locals) : CallW R s args own RX7 index yX7_hours cX7_hours 6 (some Jvm.ClassFile.FieldType.int) (wA yX7_hours cX7_hours 6 (some Jvm.ClassFile.FieldType.int)) rmX7_hours 0 0 2 := cwV 2 ht (good_V hl qm_yX7_hours qs_yX7_hours qi_RX7 qc_yX7_hours) rfl rfl rfl (by decide +kernel) ⟨hf, hlo⟩
set_option maxRecDepth 100000 in
set_option maxHeartbeats 4000000 in
theorem met_X7_hours (l : Launch) (D : va_G) (ad : Adr) (cy : Nat → ClassId) (S : Mem) (x1 : Int32) (x2 : Int32) {Q : Mem → Int32 → Prop} (hq : vc_X7_hours S x1 x2 Q) : Ci l yX7_hours (wA yX7_hours cX7_hours 6 (some Jvm.ClassFile.FieldType.int)) rmX7_hours D ad cy [.ref (ad 15 0 0), .int x1, .int x2] S Q := by
  intro o sz
  refine mkC (own := RX7) (lv := [(0, .ref (ad 15 0 0)), (1, .int x1), (2, .int x2)]) (by decide) rfl (Nat.le_of_ble_eq_true rfl) rfl ⟨rfl, rfl⟩ ?_
  intro p e s m below meth c ls hsz hM hlocks hret hK hA hX hl
  have J106 : ∀ {K0 : Mem → Int32 → Prop} (hk0 : ∀ (S : Mem) (y3 : Int32), K0 S y3 → ∀ (H : Heap) (locs : List Loc) (ls : Array Slot), PW D ad cy (AW ad sz) s.heap o S H locs → lv_has ls 6 [(0, .ref (ad 15 0 0)), (1, .int x1), (2, .int x2), (3, .int y3)] → Wi D ad cy o sz Q p l e rmX7_hours s m [.ref (ad 15 0 0), .int x1, .int x2] below meth c H locs (F0 m 60 ls [])), ∀ {K1 : Mem → Prop} (hk1 : ∀ (S : Mem), K1 S → ∀ (H : Heap) (locs : List Loc) (ls : Array Slot), PW D ad cy (AW ad sz) s.heap o S H locs → lv_has ls 6 [(0, .ref (ad 15 0 0))] → Wi D ad cy o sz Q p l e rmX7_hours s m [.ref (ad 15 0 0), .int x1, .int x2] below meth c H locs (F0 m 117 ls [])), ∀ (S : Mem) (y3 : Int32) (w1 : Int32), vc_X7_hours_J106 Q K0 K1 x1 x2 S y3 w1 → ∀ (H : Heap) (locs : List Loc) (ls : Array Slot), PW D ad cy (AW ad sz) s.heap o S H locs → lv_has ls 6 [(0, .ref (ad 15 0 0)), (1, .int x1), (2, .int x2), (3, .int y3)] → Wi D ad cy o sz Q p l e rmX7_hours s m [.ref (ad 15 0 0), .int x1, .int x2] below meth c H locs (F0 m 106 ls [.int w1, .ref (ad 15 0 0)]) := by
    intro K0 hk0 K1 hk1 S y3 w1 hq H locs ls hX hl
    unfold vc_X7_hours_J106 at hq
    refine cVi (As := [.int w1]) hM hK hX hA (met_X7_pass l D ad cy S w1 hq) (kX7_pass hM.2.2.2.2 ql_RX7_135 (Nat.le_of_ble_eq_true rfl) (Nat.le_of_ble_eq_true rfl)) (v15 hK hX m15) rfl hl.1 rfl (Nat.le_of_ble_eq_true rfl) dX7_hours_106 ⟨Nat.zero_le _, Nat.zero_le _⟩ (fun S_18 r_19 hq H locs hX => ?_)
    refine lv_istore (lv' := [(5, .int r_19), (0, .ref (ad 15 0 0)), (1, .int x1), (2, .int x2), (3, .int y3)]) hM.1 hM.2.1 dX7_hours_109 hl (by decide) rfl (fun ls hl => ?_)
    refine lv_iinc (v := (y3 + (1 : Int32))) (lv' := [(3, .int (y3 + (1 : Int32))), (5, .int r_19), (0, .ref (ad 15 0 0)), (1, .int x1), (2, .int x2)]) hM.1 hM.2.1 dX7_hours_111 hl (k := 4) rfl rfl (by decide) rfl (fun ls hl => ?_)
    refine lv_goto (tgt := 60) hM.1 hM.2.1 dX7_hours_114 (by decide) ?_
    exact hk0 S_18 (y3 + (1 : Int32)) hq _ _ _ hX (lv_sub hl [2, 3, 4, 0] rfl)
  have L60 : ∀ {K : Mem → Prop} (hk : ∀ (S : Mem), K S → ∀ (H : Heap) (locs : List Loc) (ls : Array Slot), PW D ad cy (AW ad sz) s.heap o S H locs → lv_has ls 6 [(0, .ref (ad 15 0 0))] → Wi D ad cy o sz Q p l e rmX7_hours s m [.ref (ad 15 0 0), .int x1, .int x2] below meth c H locs (F0 m 117 ls [])), ∀ (n : Nat) (S : Mem) (y3 : Int32), vc_X7_hours_L60 Q K x1 x2 n S y3 → ∀ (H : Heap) (locs : List Loc) (ls : Array Slot), PW D ad cy (AW ad sz) s.heap o S H locs → lv_has ls 6 [(0, .ref (ad 15 0 0)), (1, .int x1), (2, .int x2), (3, .int y3)] → Wi D ad cy o sz Q p l e rmX7_hours s m [.ref (ad 15 0 0), .int x1, .int x2] below meth c H locs (F0 m 60 ls []) := by
    intro K hk n
    induction n with
    | zero =>
      intro S y3 hq
      rw [vc_X7_hours_L60] at hq
      exact hq.elim
    | succ n ih =>
      intro S y3 hq H locs ls hX hl
      rw [vc_X7_hours_L60] at hq
      refine lv_iload_n hM.1 hM.2.1 dX7_hours_60 rfl (lv_at hl 3 rfl) ?_
      refine lv_iload_n hM.1 hM.2.1 dX7_hours_61 rfl (lv_at hl 1 rfl) ?_
      refine lv_icmp_ge (tgt := 117) hM.1 hM.2.1 dX7_hours_62 (by decide) (fun c_14 => ?_) (fun c_14 => ?_)
      · replace hq := hq.1 c_14
        exact hk S hq _ _ _ hX (lv_sub hl [0] rfl)
      replace hq := hq.2 c_14
      refine lv_aload_n hM.1 hM.2.1 dX7_hours_65 rfl (lv_at hl 0 rfl) ?_
      refine g15 hM hK hX m15 0 (by decide) qf_RX7_7 rfl dX7_hours_66 ?_
      refine lv_iconst (v := (1 : Int32)) hM.1 hM.2.1 dX7_hours_69 (by decide) ?_
      have c_15 := hq.1
      replace hq := hq.2
      refine r_iald hM hK hX m16 (a16 0 0) c_15 dX7_hours_70 ?_
      refine lv_iload_n hM.1 hM.2.1 dX7_hours_71 rfl (lv_at hl 2 rfl) ?_
      refine lv_iadd hM.1 hM.2.1 dX7_hours_72 ?_
      refine lv_istore (lv' := [(4, .int ((S 16 0 0 (1 : Int32).toNatClampNeg) + x2)), (0, .ref (ad 15 0 0)), (1, .int x1), (2, .int x2), (3, .int y3)]) hM.1 hM.2.1 dX7_hours_73 hl (by decide) rfl (fun ls hl => ?_)
      refine lv_aload_n hM.1 hM.2.1 dX7_hours_75 rfl (lv_at hl 1 rfl) ?_
      refine lv_iload hM.1 hM.2.1 dX7_hours_76 (lv_at hl 0 rfl) ?_
      refine lv_sipush (v := (-5000 : Int32)) hM.1 hM.2.1 dX7_hours_78 (by decide) ?_
      refine lv_icmp_ge (tgt := 90) hM.1 hM.2.1 dX7_hours_81 (by decide) (fun c_16 => ?_) (fun c_16 => ?_)
      · replace hq := hq.1 c_16
        refine lv_iload hM.1 hM.2.1 dX7_hours_90 (lv_at hl 0 rfl) ?_
        refine lv_sipush (v := (5000 : Int32)) hM.1 hM.2.1 dX7_hours_92 (by decide) ?_
        refine lv_icmp_le (tgt := 104) hM.1 hM.2.1 dX7_hours_95 (by decide) (fun c_17 => ?_) (fun c_17 => ?_)
        · replace hq := hq.1 c_17
          refine lv_iload hM.1 hM.2.1 dX7_hours_104 (lv_at hl 0 rfl) ?_
          exact J106 ih hk S y3 ((S 16 0 0 (1 : Int32).toNatClampNeg) + x2) hq _ _ _ hX (lv_sub hl [1, 2, 3, 4] rfl)
        replace hq := hq.2 c_17
        refine lv_sipush (v := (5000 : Int32)) hM.1 hM.2.1 dX7_hours_98 (by decide) ?_
        refine lv_goto (tgt := 106) hM.1 hM.2.1 dX7_hours_101 (by decide) ?_
        exact J106 ih hk S y3 (5000 : Int32) hq _ _ _ hX (lv_sub hl [1, 2, 3, 4] rfl)
      replace hq := hq.2 c_16
      refine lv_sipush (v := (-5000 : Int32)) hM.1 hM.2.1 dX7_hours_84 (by decide) ?_
      refine lv_goto (tgt := 106) hM.1 hM.2.1 dX7_hours_87 (by decide) ?_
      exact J106 ih hk S y3 (-5000 : Int32) hq _ _ _ hX (lv_sub hl [1, 2, 3, 4] rfl)
  unfold vc_X7_hours at hq
  refine lv_aload_n hM.1 hM.2.1 dX7_hours_0 rfl (lv_at hl 0 rfl) ?_
  refine lv_iconst (v := (0 : Int32)) hM.1 hM.2.1 dX7_hours_1 (by decide) ?_
  refine p15_6 hM hK hX m15 qf_RX7_48 dX7_hours_2 (fun S_1 e_2 H locs hX => ?_)
  replace hq := hq S_1 e_2
  refine lv_iload_n hM.1 hM.2.1 dX7_hours_5 rfl (lv_at hl 1 rfl) ?_
  refine lv_iconst (v := (1 : Int32)) hM.1 hM.2.1 dX7_hours_6 (by decide) ?_
  refine lv_bipush (v := (24 : Int32)) hM.1 hM.2.1 dX7_hours_7 (by decide) ?_
  refine cSi (As := [.int x1, .int (1 : Int32), .int (24 : Int32)]) hM hK hX hA (met_X7_in l D ad cy S_1 x1 (1 : Int32) (24 : Int32) hq) (kX7_in hM.2.2.2.2 ql_RX7_52 (Nat.le_of_ble_eq_true rfl) (Nat.le_of_ble_eq_true rfl)) rfl hl.1 rfl (Nat.le_of_ble_eq_true rfl) dX7_hours_9 ⟨Nat.zero_le _, Nat.zero_le _⟩ (fun S_3 r_4 hq H locs hX => ?_)
  refine lv_if_eq (tgt := 28) hM.1 hM.2.1 dX7_hours_12 (by decide) (fun c_5 => ?_) (fun c_5 => ?_)
  · replace hq := hq.1 c_5
    refine lv_aload_n hM.1 hM.2.1 dX7_hours_28 rfl (lv_at hl 0 rfl) ?_
    refine lv_iconst (v := (1 : Int32)) hM.1 hM.2.1 dX7_hours_29 (by decide) ?_
    refine cVi (As := [.int (1 : Int32)]) hM hK hX hA (met_X7_fails l D ad cy S_3 (1 : Int32) hq) (kX7_fails hM.2.2.2.2 ql_RX7_59 (Nat.le_of_ble_eq_true rfl) (Nat.le_of_ble_eq_true rfl)) (v15 hK hX m15) rfl hl.1 rfl (Nat.le_of_ble_eq_true rfl) dX7_hours_30 ⟨Nat.zero_le _, Nat.zero_le _⟩ (fun S_6 r_7 hq H locs hX => ?_)
    exact e_i hM hX hlocks hret hq dX7_hours_33
  replace hq := hq.2 c_5
  refine lv_iload_n hM.1 hM.2.1 dX7_hours_15 rfl (lv_at hl 2 rfl) ?_
  refine lv_sipush (v := (-500 : Int32)) hM.1 hM.2.1 dX7_hours_16 (by decide) ?_
  refine lv_sipush (v := (500 : Int32)) hM.1 hM.2.1 dX7_hours_19 (by decide) ?_
  refine cSi (As := [.int x2, .int (-500 : Int32), .int (500 : Int32)]) hM hK hX hA (met_X7_in l D ad cy S_3 x2 (-500 : Int32) (500 : Int32) hq) (kX7_in hM.2.2.2.2 ql_RX7_52 (Nat.le_of_ble_eq_true rfl) (Nat.le_of_ble_eq_true rfl)) rfl hl.1 rfl (Nat.le_of_ble_eq_true rfl) dX7_hours_22 ⟨Nat.zero_le _, Nat.zero_le _⟩ (fun S_8 r_9 hq H locs hX => ?_)
  refine lv_if_ne (tgt := 34) hM.1 hM.2.1 dX7_hours_25 (by decide) (fun c_10 => ?_) (fun c_10 => ?_)
  · replace hq := hq.1 c_10
    refine lv_aload_n hM.1 hM.2.1 dX7_hours_34 rfl (lv_at hl 0 rfl) ?_
    refine g15 hM hK hX m15 0 (by decide) qf_RX7_7 rfl dX7_hours_35 ?_
    refine lv_iconst (v := (0 : Int32)) hM.1 hM.2.1 dX7_hours_38 (by decide) ?_
    have c_11 := hq.1
    replace hq := hq.2
    refine r_iald hM hK hX m16 (a16 0 0) c_11 dX7_hours_39 ?_
    refine lv_iload_n hM.1 hM.2.1 dX7_hours_40 rfl (lv_at hl 1 rfl) ?_
    refine lv_iadd hM.1 hM.2.1 dX7_hours_41 ?_
    refine lv_sipush (v := (9999 : Int32)) hM.1 hM.2.1 dX7_hours_42 (by decide) ?_
    refine lv_icmp_le (tgt := 54) hM.1 hM.2.1 dX7_hours_45 (by decide) (fun c_12 => ?_) (fun c_12 => ?_)
    · replace hq := hq.1 c_12
      refine lv_aload_n hM.1 hM.2.1 dX7_hours_54 rfl (lv_at hl 0 rfl) ?_
      refine cVv (As := []) hM hK hX hA (met_X7_save l D ad cy S_8 hq) (kX7_save hM.2.2.2.2 ql_RX7_63 (Nat.le_of_ble_eq_true rfl) (Nat.le_of_ble_eq_true rfl)) (v15 hK hX m15) rfl hl.1 rfl (Nat.le_of_ble_eq_true rfl) dX7_hours_55 ⟨Nat.zero_le _, Nat.zero_le _⟩ (fun S_13 hq H locs hX => ?_)
      refine lv_iconst (v := (0 : Int32)) hM.1 hM.2.1 dX7_hours_58 (by decide) ?_
      refine lv_istore_n (lv' := [(3, .int (0 : Int32)), (0, .ref (ad 15 0 0)), (1, .int x1), (2, .int x2)]) hM.1 hM.2.1 dX7_hours_59 rfl hl (by decide) rfl (fun ls hl => ?_)
      obtain ⟨k0, hq⟩ := hq
      refine L60 (fun S_20 hq H locs ls hX hl => ?_) k0 S_13 (0 : Int32) hq _ _ _ hX (lv_sub hl [1, 2, 3, 0] rfl)
      refine lv_aload_n hM.1 hM.2.1 dX7_hours_117 rfl (lv_at hl 0 rfl) ?_
      refine g15 hM hK hX m15 0 (by decide) qf_RX7_7 rfl dX7_hours_118 ?_
      refine lv_iconst (v := (1 : Int32)) hM.1 hM.2.1 dX7_hours_121 (by decide) ?_
      have c_21 := hq.1
      replace hq := hq.2
      refine r_iald hM hK hX m16 (a16 0 0) c_21 dX7_hours_122 ?_
      exact e_i hM hX hlocks hret hq dX7_hours_123
    replace hq := hq.2 c_12
    refine lv_aload_n hM.1 hM.2.1 dX7_hours_48 rfl (lv_at hl 0 rfl) ?_
    refine lv_iconst (v := (2 : Int32)) hM.1 hM.2.1 dX7_hours_49 (by decide) ?_
    refine cVi (As := [.int (2 : Int32)]) hM hK hX hA (met_X7_fails l D ad cy S_8 (2 : Int32) hq) (kX7_fails hM.2.2.2.2 ql_RX7_59 (Nat.le_of_ble_eq_true rfl) (Nat.le_of_ble_eq_true rfl)) (v15 hK hX m15) rfl hl.1 rfl (Nat.le_of_ble_eq_true rfl) dX7_hours_50 ⟨Nat.zero_le _, Nat.zero_le _⟩ (fun S_22 r_23 hq H locs hX => ?_)
    exact e_i hM hX hlocks hret hq dX7_hours_53
  replace hq := hq.2 c_10
  refine lv_aload_n hM.1 hM.2.1 dX7_hours_28 rfl (lv_at hl 0 rfl) ?_
  refine lv_iconst (v := (1 : Int32)) hM.1 hM.2.1 dX7_hours_29 (by decide) ?_
  refine cVi (As := [.int (1 : Int32)]) hM hK hX hA (met_X7_fails l D ad cy S_8 (1 : Int32) hq) (kX7_fails hM.2.2.2.2 ql_RX7_59 (Nat.le_of_ble_eq_true rfl) (Nat.le_of_ble_eq_true rfl)) (v15 hK hX m15) rfl hl.1 rfl (Nat.le_of_ble_eq_true rfl) dX7_hours_30 ⟨Nat.zero_le _, Nat.zero_le _⟩ (fun S_24 r_25 hq H locs hX => ?_)
  exact e_i hM hX hlocks hret hq dX7_hours_33
def rmX7_periodNow : Room := { frames := 0, cells := 0, slots := 0, locals := 0 }
theorem kX7_periodNow {R : Room} {s : State} {args : Array Value} {own : String} {index : Nat} (ht : ∀ w ∈ lw_all, w.before args s = true) (hl : Cond.methodLink own index yX7_periodNow ∈ lw_all) (hf : rmX7_periodNow.frames + 1 ≤ R.frames) (hlo : 8 + (4 + 11) + rmX7_periodNow.locals ≤ R.locals) : CallW R s args own RX7 index yX7_periodNow cX7_periodNow 4 (some Jvm.ClassFile.FieldType.int) (wA yX7_periodNow cX7_periodNow 4 (some Jvm.ClassFile.FieldType.int)) rmX7_periodNow 0 0 2 := cwV 2 ht (good_V hl qm_yX7_periodNow qs_yX7_periodNow qi_RX7 qc_yX7_periodNow) rfl rfl rfl (by decide +kernel) ⟨hf, hlo⟩
set_option maxRecDepth 100000 in
set_option maxHeartbeats 4000000 in
theorem met_X7_periodNow (l : Launch) (D : va_G) (ad : Adr) (cy : Nat → ClassId) (S : Mem) (x1 : Int32) (x2 : Int32) {Q : Mem → Int32 → Prop} (hq : vc_X7_periodNow S x1 x2 Q) : Ci l yX7_periodNow (wA yX7_periodNow cX7_periodNow 4 (some Jvm.ClassFile.FieldType.int)) rmX7_periodNow D ad cy [.ref (ad 15 0 0), .int x1, .int x2] S Q := by
  intro o sz
  refine mkC (own := RX7) (lv := [(0, .ref (ad 15 0 0)), (1, .int x1), (2, .int x2)]) (by decide) rfl (Nat.le_of_ble_eq_true rfl) rfl ⟨rfl, rfl⟩ ?_
  intro p e s m below meth c ls hsz hM hlocks hret hK hA hX hl
  unfold vc_X7_periodNow at hq
  refine lv_aload_n hM.1 hM.2.1 dX7_periodNow_0 rfl (lv_at hl 0 rfl) ?_
  refine g15 hM hK hX m15 0 (by decide) qf_RX7_7 rfl dX7_periodNow_1 ?_
  refine lv_iconst (v := (4 : Int32)) hM.1 hM.2.1 dX7_periodNow_4 (by decide) ?_
  refine lv_iload_n hM.1 hM.2.1 dX7_periodNow_5 rfl (lv_at hl 1 rfl) ?_
  refine lv_iadd hM.1 hM.2.1 dX7_periodNow_6 ?_
  have c_1 := hq.1
  replace hq := hq.2
  refine r_iald hM hK hX m16 (a16 0 0) c_1 dX7_periodNow_7 ?_
  refine lv_istore_n (lv' := [(3, .int (S 16 0 0 ((4 : Int32) + x1).toNatClampNeg)), (0, .ref (ad 15 0 0)), (1, .int x1), (2, .int x2)]) hM.1 hM.2.1 dX7_periodNow_8 rfl hl (by decide) rfl (fun ls hl => ?_)
  refine lv_aload_n hM.1 hM.2.1 dX7_periodNow_9 rfl (lv_at hl 1 rfl) ?_
  refine g15 hM hK hX m15 0 (by decide) qf_RX7_7 rfl dX7_periodNow_10 ?_
  refine lv_iconst (v := (4 : Int32)) hM.1 hM.2.1 dX7_periodNow_13 (by decide) ?_
  refine lv_iload_n hM.1 hM.2.1 dX7_periodNow_14 rfl (lv_at hl 2 rfl) ?_
  refine lv_iadd hM.1 hM.2.1 dX7_periodNow_15 ?_
  refine lv_iload_n hM.1 hM.2.1 dX7_periodNow_16 rfl (lv_at hl 3 rfl) ?_
  have c_3 := hq.1
  replace hq := hq.2
  refine r_iast hM hK hX m16 (a16 0 0) c_3 dX7_periodNow_17 (fun S_2 e_4 H locs hX => ?_)
  replace hq := hq S_2 e_4
  refine lv_iload_n hM.1 hM.2.1 dX7_periodNow_18 rfl (lv_at hl 0 rfl) ?_
  exact e_i hM hX hlocks hret hq dX7_periodNow_19
def rmX7_period : Room := { frames := 2, cells := 0, slots := 0, locals := 42 }
theorem kX7_period {R : Room} {s : State} {args : Array Value} {own : String} {index : Nat} (ht : ∀ w ∈ lw_all, w.before args s = true) (hl : Cond.methodLink own index yX7_period ∈ lw_all) (hf : rmX7_period.frames + 1 ≤ R.frames) (hlo : 8 + (3 + 11) + rmX7_period.locals ≤ R.locals) : CallW R s args own RX7 index yX7_period cX7_period 3 (some Jvm.ClassFile.FieldType.int) (wA yX7_period cX7_period 3 (some Jvm.ClassFile.FieldType.int)) rmX7_period 0 0 2 := cwV 2 ht (good_V hl qm_yX7_period qs_yX7_period qi_RX7 qc_yX7_period) rfl rfl rfl (by decide +kernel) ⟨hf, hlo⟩
set_option maxRecDepth 100000 in
set_option maxHeartbeats 4000000 in
theorem met_X7_period (l : Launch) (D : va_G) (ad : Adr) (cy : Nat → ClassId) (S : Mem) (x1 : Int32) (x2 : Int32) {Q : Mem → Int32 → Prop} (hq : vc_X7_period S x1 x2 Q) : Ci l yX7_period (wA yX7_period cX7_period 3 (some Jvm.ClassFile.FieldType.int)) rmX7_period D ad cy [.ref (ad 15 0 0), .int x1, .int x2] S Q := by
  intro o sz
  refine mkC (own := RX7) (lv := [(0, .ref (ad 15 0 0)), (1, .int x1), (2, .int x2)]) (by decide) rfl (Nat.le_of_ble_eq_true rfl) rfl ⟨rfl, rfl⟩ ?_
  intro p e s m below meth c ls hsz hM hlocks hret hK hA hX hl
  unfold vc_X7_period at hq
  refine lv_aload_n hM.1 hM.2.1 dX7_period_0 rfl (lv_at hl 0 rfl) ?_
  refine lv_iconst (v := (0 : Int32)) hM.1 hM.2.1 dX7_period_1 (by decide) ?_
  refine p15_6 hM hK hX m15 qf_RX7_48 dX7_period_2 (fun S_1 e_2 H locs hX => ?_)
  replace hq := hq S_1 e_2
  refine lv_iload_n hM.1 hM.2.1 dX7_period_5 rfl (lv_at hl 1 rfl) ?_
  refine cSi (As := [.int x1]) hM hK hX hA (met_X7_isRow l D ad cy S_1 x1 hq) (kX7_isRow hM.2.2.2.2 ql_RX7_122 (Nat.le_of_ble_eq_true rfl) (Nat.le_of_ble_eq_true rfl)) rfl hl.1 rfl (Nat.le_of_ble_eq_true rfl) dX7_period_6 ⟨Nat.zero_le _, Nat.zero_le _⟩ (fun S_3 r_4 hq H locs hX => ?_)
  refine lv_if_ne (tgt := 18) hM.1 hM.2.1 dX7_period_9 (by decide) (fun c_5 => ?_) (fun c_5 => ?_)
  · replace hq := hq.1 c_5
    refine lv_iload_n hM.1 hM.2.1 dX7_period_18 rfl (lv_at hl 2 rfl) ?_
    refine lv_iconst (v := (1 : Int32)) hM.1 hM.2.1 dX7_period_19 (by decide) ?_
    refine lv_bipush (v := (6 : Int32)) hM.1 hM.2.1 dX7_period_20 (by decide) ?_
    refine cSi (As := [.int x2, .int (1 : Int32), .int (6 : Int32)]) hM hK hX hA (met_X7_in l D ad cy S_3 x2 (1 : Int32) (6 : Int32) hq) (kX7_in hM.2.2.2.2 ql_RX7_52 (Nat.le_of_ble_eq_true rfl) (Nat.le_of_ble_eq_true rfl)) rfl hl.1 rfl (Nat.le_of_ble_eq_true rfl) dX7_period_22 ⟨Nat.zero_le _, Nat.zero_le _⟩ (fun S_6 r_7 hq H locs hX => ?_)
    refine lv_if_ne (tgt := 34) hM.1 hM.2.1 dX7_period_25 (by decide) (fun c_8 => ?_) (fun c_8 => ?_)
    · replace hq := hq.1 c_8
      refine lv_aload_n hM.1 hM.2.1 dX7_period_34 rfl (lv_at hl 0 rfl) ?_
      refine cVv (As := []) hM hK hX hA (met_X7_save l D ad cy S_6 hq) (kX7_save hM.2.2.2.2 ql_RX7_63 (Nat.le_of_ble_eq_true rfl) (Nat.le_of_ble_eq_true rfl)) (v15 hK hX m15) rfl hl.1 rfl (Nat.le_of_ble_eq_true rfl) dX7_period_35 ⟨Nat.zero_le _, Nat.zero_le _⟩ (fun S_9 hq H locs hX => ?_)
      refine lv_aload_n hM.1 hM.2.1 dX7_period_38 rfl (lv_at hl 0 rfl) ?_
      refine lv_iload_n hM.1 hM.2.1 dX7_period_39 rfl (lv_at hl 1 rfl) ?_
      refine lv_iload_n hM.1 hM.2.1 dX7_period_40 rfl (lv_at hl 2 rfl) ?_
      refine cVi (As := [.int x1, .int x2]) hM hK hX hA (met_X7_periodNow l D ad cy S_9 x1 x2 hq) (kX7_periodNow hM.2.2.2.2 ql_RX7_138 (Nat.le_of_ble_eq_true rfl) (Nat.le_of_ble_eq_true rfl)) (v15 hK hX m15) rfl hl.1 rfl (Nat.le_of_ble_eq_true rfl) dX7_period_41 ⟨Nat.zero_le _, Nat.zero_le _⟩ (fun S_10 r_11 hq H locs hX => ?_)
      exact e_i hM hX hlocks hret hq dX7_period_44
    replace hq := hq.2 c_8
    refine lv_aload_n hM.1 hM.2.1 dX7_period_28 rfl (lv_at hl 0 rfl) ?_
    refine lv_iconst (v := (2 : Int32)) hM.1 hM.2.1 dX7_period_29 (by decide) ?_
    refine cVi (As := [.int (2 : Int32)]) hM hK hX hA (met_X7_fails l D ad cy S_6 (2 : Int32) hq) (kX7_fails hM.2.2.2.2 ql_RX7_59 (Nat.le_of_ble_eq_true rfl) (Nat.le_of_ble_eq_true rfl)) (v15 hK hX m15) rfl hl.1 rfl (Nat.le_of_ble_eq_true rfl) dX7_period_30 ⟨Nat.zero_le _, Nat.zero_le _⟩ (fun S_12 r_13 hq H locs hX => ?_)
    exact e_i hM hX hlocks hret hq dX7_period_33
  replace hq := hq.2 c_5
  refine lv_aload_n hM.1 hM.2.1 dX7_period_12 rfl (lv_at hl 0 rfl) ?_
  refine lv_iconst (v := (1 : Int32)) hM.1 hM.2.1 dX7_period_13 (by decide) ?_
  refine cVi (As := [.int (1 : Int32)]) hM hK hX hA (met_X7_fails l D ad cy S_3 (1 : Int32) hq) (kX7_fails hM.2.2.2.2 ql_RX7_59 (Nat.le_of_ble_eq_true rfl) (Nat.le_of_ble_eq_true rfl)) (v15 hK hX m15) rfl hl.1 rfl (Nat.le_of_ble_eq_true rfl) dX7_period_14 ⟨Nat.zero_le _, Nat.zero_le _⟩ (fun S_14 r_15 hq H locs hX => ?_)
  exact e_i hM hX hlocks hret hq dX7_period_17
def rmX7_calibrateNow : Room := { frames := 1, cells := 0, slots := 0, locals := 23 }
theorem kX7_calibrateNow {R : Room} {s : State} {args : Array Value} {own : String} {index : Nat} (ht : ∀ w ∈ lw_all, w.before args s = true) (hl : Cond.methodLink own index yX7_calibrateNow ∈ lw_all) (hf : rmX7_calibrateNow.frames + 1 ≤ R.frames) (hlo : 8 + (4 + 11) + rmX7_calibrateNow.locals ≤ R.locals) : CallW R s args own RX7 index yX7_calibrateNow cX7_calibrateNow 4 (some Jvm.ClassFile.FieldType.int) (wA yX7_calibrateNow cX7_calibrateNow 4 (some Jvm.ClassFile.FieldType.int)) rmX7_calibrateNow 0 0 1 := cwV 1 ht (good_V hl qm_yX7_calibrateNow qs_yX7_calibrateNow qi_RX7 qc_yX7_calibrateNow) rfl rfl rfl (by decide +kernel) ⟨hf, hlo⟩
set_option maxRecDepth 100000 in
set_option maxHeartbeats 4000000 in
theorem met_X7_calibrateNow (l : Launch) (D : va_G) (ad : Adr) (cy : Nat → ClassId) (S : Mem) (x1 : Int32) {Q : Mem → Int32 → Prop} (hq : vc_X7_calibrateNow S x1 Q) : Ci l yX7_calibrateNow (wA yX7_calibrateNow cX7_calibrateNow 4 (some Jvm.ClassFile.FieldType.int)) rmX7_calibrateNow D ad cy [.ref (ad 15 0 0), .int x1] S Q := by
  intro o sz
  refine mkC (own := RX7) (lv := [(0, .ref (ad 15 0 0)), (1, .int x1)]) (by decide) rfl (Nat.le_of_ble_eq_true rfl) rfl ⟨rfl, rfl⟩ ?_
  intro p e s m below meth c ls hsz hM hlocks hret hK hA hX hl
  have L51 : ∀ {K : Mem → Int32 → Prop} (hk : ∀ (S : Mem) (y2 : Int32), K S y2 → ∀ (H : Heap) (locs : List Loc) (ls : Array Slot), PW D ad cy (AW ad sz) s.heap o S H locs → lv_has ls 4 [(2, .int y2)] → Wi D ad cy o sz Q p l e rmX7_calibrateNow s m [.ref (ad 15 0 0), .int x1] below meth c H locs (F0 m 73 ls [])), ∀ (n : Nat) (S : Mem) (y2 : Int32) (y3 : Int32), vc_X7_calibrateNow_L51 Q K x1 n S y2 y3 → ∀ (H : Heap) (locs : List Loc) (ls : Array Slot), PW D ad cy (AW ad sz) s.heap o S H locs → lv_has ls 4 [(0, .ref (ad 15 0 0)), (1, .int x1), (2, .int y2), (3, .int y3)] → Wi D ad cy o sz Q p l e rmX7_calibrateNow s m [.ref (ad 15 0 0), .int x1] below meth c H locs (F0 m 51 ls []) := by
    intro K hk n
    induction n with
    | zero =>
      intro S y2 y3 hq
      rw [vc_X7_calibrateNow_L51] at hq
      exact hq.elim
    | succ n ih =>
      intro S y2 y3 hq H locs ls hX hl
      rw [vc_X7_calibrateNow_L51] at hq
      refine lv_iload_n hM.1 hM.2.1 dX7_calibrateNow_51 rfl (lv_at hl 3 rfl) ?_
      refine lv_bipush (v := (12 : Int32)) hM.1 hM.2.1 dX7_calibrateNow_52 (by decide) ?_
      refine lv_icmp_ge (tgt := 73) hM.1 hM.2.1 dX7_calibrateNow_54 (by decide) (fun c_10 => ?_) (fun c_10 => ?_)
      · replace hq := hq.1 c_10
        exact hk S y2 hq _ _ _ hX (lv_sub hl [2] rfl)
      replace hq := hq.2 c_10
      refine lv_aload_n hM.1 hM.2.1 dX7_calibrateNow_57 rfl (lv_at hl 0 rfl) ?_
      refine lv_iload_n hM.1 hM.2.1 dX7_calibrateNow_58 rfl (lv_at hl 1 rfl) ?_
      refine lv_bipush (v := (9 : Int32)) hM.1 hM.2.1 dX7_calibrateNow_59 (by decide) ?_
      refine lv_iload_n hM.1 hM.2.1 dX7_calibrateNow_61 rfl (lv_at hl 3 rfl) ?_
      refine lv_iadd hM.1 hM.2.1 dX7_calibrateNow_62 ?_
      refine lv_iconst (v := (0 : Int32)) hM.1 hM.2.1 dX7_calibrateNow_63 (by decide) ?_
      refine cVv (As := [.int x1, .int ((9 : Int32) + y3), .int (0 : Int32)]) hM hK hX hA (met_X7_put l D ad cy S x1 ((9 : Int32) + y3) (0 : Int32) hq) (kX7_put hM.2.2.2.2 ql_RX7_94 (Nat.le_of_ble_eq_true rfl) (Nat.le_of_ble_eq_true rfl)) (v15 hK hX m15) rfl hl.1 rfl (Nat.le_of_ble_eq_true rfl) dX7_calibrateNow_64 ⟨Nat.zero_le _, Nat.zero_le _⟩ (fun S_11 hq H locs hX => ?_)
      refine lv_iinc (v := (y3 + (1 : Int32))) (lv' := [(3, .int (y3 + (1 : Int32))), (0, .ref (ad 15 0 0)), (1, .int x1), (2, .int y2)]) hM.1 hM.2.1 dX7_calibrateNow_67 hl (k := 3) rfl rfl (by decide) rfl (fun ls hl => ?_)
      refine lv_goto (tgt := 51) hM.1 hM.2.1 dX7_calibrateNow_70 (by decide) ?_
      exact ih S_11 y2 (y3 + (1 : Int32)) hq _ _ _ hX (lv_sub hl [1, 2, 3, 0] rfl)
  unfold vc_X7_calibrateNow at hq
  refine lv_aload_n hM.1 hM.2.1 dX7_calibrateNow_0 rfl (lv_at hl 0 rfl) ?_
  refine lv_iload_n hM.1 hM.2.1 dX7_calibrateNow_1 rfl (lv_at hl 1 rfl) ?_
  refine lv_iconst (v := (5 : Int32)) hM.1 hM.2.1 dX7_calibrateNow_2 (by decide) ?_
  refine cVi (As := [.int x1, .int (5 : Int32)]) hM hK hX hA (met_X7_of l D ad cy S x1 (5 : Int32) hq) (kX7_of hM.2.2.2.2 ql_RX7_66 (Nat.le_of_ble_eq_true rfl) (Nat.le_of_ble_eq_true rfl)) (v15 hK hX m15) rfl hl.1 rfl (Nat.le_of_ble_eq_true rfl) dX7_calibrateNow_3 ⟨Nat.zero_le _, Nat.zero_le _⟩ (fun S_1 r_2 hq H locs hX => ?_)
  refine lv_istore_n (lv' := [(2, .int r_2), (0, .ref (ad 15 0 0)), (1, .int x1)]) hM.1 hM.2.1 dX7_calibrateNow_6 rfl hl (by decide) rfl (fun ls hl => ?_)
  refine lv_aload_n hM.1 hM.2.1 dX7_calibrateNow_7 rfl (lv_at hl 1 rfl) ?_
  refine lv_iload_n hM.1 hM.2.1 dX7_calibrateNow_8 rfl (lv_at hl 2 rfl) ?_
  refine lv_iconst (v := (4 : Int32)) hM.1 hM.2.1 dX7_calibrateNow_9 (by decide) ?_
  refine lv_aload_n hM.1 hM.2.1 dX7_calibrateNow_10 rfl (lv_at hl 1 rfl) ?_
  refine g15 hM hK hX m15 0 (by decide) qf_RX7_7 rfl dX7_calibrateNow_11 ?_
  refine lv_iconst (v := (1 : Int32)) hM.1 hM.2.1 dX7_calibrateNow_14 (by decide) ?_
  have c_3 := hq.1
  replace hq := hq.2
  refine r_iald hM hK hX m16 (a16 0 0) c_3 dX7_calibrateNow_15 ?_
  refine lv_aload_n hM.1 hM.2.1 dX7_calibrateNow_16 rfl (lv_at hl 1 rfl) ?_
  refine lv_iload_n hM.1 hM.2.1 dX7_calibrateNow_17 rfl (lv_at hl 2 rfl) ?_
  refine lv_iconst (v := (2 : Int32)) hM.1 hM.2.1 dX7_calibrateNow_18 (by decide) ?_
  refine cVi (As := [.int x1, .int (2 : Int32)]) hM hK hX hA (met_X7_of l D ad cy S_1 x1 (2 : Int32) hq) (kX7_of hM.2.2.2.2 ql_RX7_66 (Nat.le_of_ble_eq_true rfl) (Nat.le_of_ble_eq_true rfl)) (v15 hK hX m15) rfl hl.1 rfl (Nat.le_of_ble_eq_true rfl) dX7_calibrateNow_19 ⟨Nat.zero_le _, Nat.zero_le _⟩ (fun S_4 r_5 hq H locs hX => ?_)
  refine lv_iadd hM.1 hM.2.1 dX7_calibrateNow_22 ?_
  refine cVv (As := [.int x1, .int (4 : Int32), .int ((S_1 16 0 0 (1 : Int32).toNatClampNeg) + r_5)]) hM hK hX hA (met_X7_put l D ad cy S_4 x1 (4 : Int32) ((S_1 16 0 0 (1 : Int32).toNatClampNeg) + r_5) hq) (kX7_put hM.2.2.2.2 ql_RX7_94 (Nat.le_of_ble_eq_true rfl) (Nat.le_of_ble_eq_true rfl)) (v15 hK hX m15) rfl hl.1 rfl (Nat.le_of_ble_eq_true rfl) dX7_calibrateNow_23 ⟨Nat.zero_le _, Nat.zero_le _⟩ (fun S_6 hq H locs hX => ?_)
  refine lv_aload_n hM.1 hM.2.1 dX7_calibrateNow_26 rfl (lv_at hl 1 rfl) ?_
  refine lv_iload_n hM.1 hM.2.1 dX7_calibrateNow_27 rfl (lv_at hl 2 rfl) ?_
  refine lv_iconst (v := (5 : Int32)) hM.1 hM.2.1 dX7_calibrateNow_28 (by decide) ?_
  refine lv_iconst (v := (0 : Int32)) hM.1 hM.2.1 dX7_calibrateNow_29 (by decide) ?_
  refine cVv (As := [.int x1, .int (5 : Int32), .int (0 : Int32)]) hM hK hX hA (met_X7_put l D ad cy S_6 x1 (5 : Int32) (0 : Int32) hq) (kX7_put hM.2.2.2.2 ql_RX7_94 (Nat.le_of_ble_eq_true rfl) (Nat.le_of_ble_eq_true rfl)) (v15 hK hX m15) rfl hl.1 rfl (Nat.le_of_ble_eq_true rfl) dX7_calibrateNow_30 ⟨Nat.zero_le _, Nat.zero_le _⟩ (fun S_7 hq H locs hX => ?_)
  refine lv_aload_n hM.1 hM.2.1 dX7_calibrateNow_33 rfl (lv_at hl 1 rfl) ?_
  refine lv_iload_n hM.1 hM.2.1 dX7_calibrateNow_34 rfl (lv_at hl 2 rfl) ?_
  refine lv_bipush (v := (6 : Int32)) hM.1 hM.2.1 dX7_calibrateNow_35 (by decide) ?_
  refine lv_iconst (v := (0 : Int32)) hM.1 hM.2.1 dX7_calibrateNow_37 (by decide) ?_
  refine cVv (As := [.int x1, .int (6 : Int32), .int (0 : Int32)]) hM hK hX hA (met_X7_put l D ad cy S_7 x1 (6 : Int32) (0 : Int32) hq) (kX7_put hM.2.2.2.2 ql_RX7_94 (Nat.le_of_ble_eq_true rfl) (Nat.le_of_ble_eq_true rfl)) (v15 hK hX m15) rfl hl.1 rfl (Nat.le_of_ble_eq_true rfl) dX7_calibrateNow_38 ⟨Nat.zero_le _, Nat.zero_le _⟩ (fun S_8 hq H locs hX => ?_)
  refine lv_aload_n hM.1 hM.2.1 dX7_calibrateNow_41 rfl (lv_at hl 1 rfl) ?_
  refine lv_iload_n hM.1 hM.2.1 dX7_calibrateNow_42 rfl (lv_at hl 2 rfl) ?_
  refine lv_bipush (v := (7 : Int32)) hM.1 hM.2.1 dX7_calibrateNow_43 (by decide) ?_
  refine lv_iconst (v := (0 : Int32)) hM.1 hM.2.1 dX7_calibrateNow_45 (by decide) ?_
  refine cVv (As := [.int x1, .int (7 : Int32), .int (0 : Int32)]) hM hK hX hA (met_X7_put l D ad cy S_8 x1 (7 : Int32) (0 : Int32) hq) (kX7_put hM.2.2.2.2 ql_RX7_94 (Nat.le_of_ble_eq_true rfl) (Nat.le_of_ble_eq_true rfl)) (v15 hK hX m15) rfl hl.1 rfl (Nat.le_of_ble_eq_true rfl) dX7_calibrateNow_46 ⟨Nat.zero_le _, Nat.zero_le _⟩ (fun S_9 hq H locs hX => ?_)
  refine lv_iconst (v := (0 : Int32)) hM.1 hM.2.1 dX7_calibrateNow_49 (by decide) ?_
  refine lv_istore_n (lv' := [(3, .int (0 : Int32)), (2, .int r_2), (0, .ref (ad 15 0 0)), (1, .int x1)]) hM.1 hM.2.1 dX7_calibrateNow_50 rfl hl (by decide) rfl (fun ls hl => ?_)
  obtain ⟨k0, hq⟩ := hq
  refine L51 (fun S_12 y2_13 hq H locs ls hX hl => ?_) k0 S_9 r_2 (0 : Int32) hq _ _ _ hX (lv_sub hl [2, 3, 1, 0] rfl)
  refine lv_iload_n hM.1 hM.2.1 dX7_calibrateNow_73 rfl (lv_at hl 0 rfl) ?_
  exact e_i hM hX hlocks hret hq dX7_calibrateNow_74
def rmX7_calibrate : Room := { frames := 2, cells := 0, slots := 0, locals := 46 }
theorem kX7_calibrate {R : Room} {s : State} {args : Array Value} {own : String} {index : Nat} (ht : ∀ w ∈ lw_all, w.before args s = true) (hl : Cond.methodLink own index yX7_calibrate ∈ lw_all) (hf : rmX7_calibrate.frames + 1 ≤ R.frames) (hlo : 8 + (2 + 11) + rmX7_calibrate.locals ≤ R.locals) : CallW R s args own RX7 index yX7_calibrate cX7_calibrate 2 (some Jvm.ClassFile.FieldType.int) (wA yX7_calibrate cX7_calibrate 2 (some Jvm.ClassFile.FieldType.int)) rmX7_calibrate 0 0 1 := cwV 1 ht (good_V hl qm_yX7_calibrate qs_yX7_calibrate qi_RX7 qc_yX7_calibrate) rfl rfl rfl (by decide +kernel) ⟨hf, hlo⟩
set_option maxRecDepth 100000 in
set_option maxHeartbeats 4000000 in
theorem met_X7_calibrate (l : Launch) (D : va_G) (ad : Adr) (cy : Nat → ClassId) (S : Mem) (x1 : Int32) {Q : Mem → Int32 → Prop} (hq : vc_X7_calibrate S x1 Q) : Ci l yX7_calibrate (wA yX7_calibrate cX7_calibrate 2 (some Jvm.ClassFile.FieldType.int)) rmX7_calibrate D ad cy [.ref (ad 15 0 0), .int x1] S Q := by
  intro o sz
  refine mkC (own := RX7) (lv := [(0, .ref (ad 15 0 0)), (1, .int x1)]) (by decide) rfl (Nat.le_of_ble_eq_true rfl) rfl ⟨rfl, rfl⟩ ?_
  intro p e s m below meth c ls hsz hM hlocks hret hK hA hX hl
  unfold vc_X7_calibrate at hq
  refine lv_aload_n hM.1 hM.2.1 dX7_calibrate_0 rfl (lv_at hl 0 rfl) ?_
  refine lv_iconst (v := (0 : Int32)) hM.1 hM.2.1 dX7_calibrate_1 (by decide) ?_
  refine p15_6 hM hK hX m15 qf_RX7_48 dX7_calibrate_2 (fun S_1 e_2 H locs hX => ?_)
  replace hq := hq S_1 e_2
  refine lv_aload_n hM.1 hM.2.1 dX7_calibrate_5 rfl (lv_at hl 0 rfl) ?_
  refine lv_iload_n hM.1 hM.2.1 dX7_calibrate_6 rfl (lv_at hl 1 rfl) ?_
  refine cVi (As := [.int x1]) hM hK hX hA (met_X7_is l D ad cy S_1 x1 hq) (kX7_is hM.2.2.2.2 ql_RX7_141 (Nat.le_of_ble_eq_true rfl) (Nat.le_of_ble_eq_true rfl)) (v15 hK hX m15) rfl hl.1 rfl (Nat.le_of_ble_eq_true rfl) dX7_calibrate_7 ⟨Nat.zero_le _, Nat.zero_le _⟩ (fun S_3 r_4 hq H locs hX => ?_)
  refine lv_if_ne (tgt := 19) hM.1 hM.2.1 dX7_calibrate_10 (by decide) (fun c_5 => ?_) (fun c_5 => ?_)
  · replace hq := hq.1 c_5
    refine lv_aload_n hM.1 hM.2.1 dX7_calibrate_19 rfl (lv_at hl 0 rfl) ?_
    refine cVv (As := []) hM hK hX hA (met_X7_save l D ad cy S_3 hq) (kX7_save hM.2.2.2.2 ql_RX7_63 (Nat.le_of_ble_eq_true rfl) (Nat.le_of_ble_eq_true rfl)) (v15 hK hX m15) rfl hl.1 rfl (Nat.le_of_ble_eq_true rfl) dX7_calibrate_20 ⟨Nat.zero_le _, Nat.zero_le _⟩ (fun S_6 hq H locs hX => ?_)
    refine lv_aload_n hM.1 hM.2.1 dX7_calibrate_23 rfl (lv_at hl 0 rfl) ?_
    refine lv_iload_n hM.1 hM.2.1 dX7_calibrate_24 rfl (lv_at hl 1 rfl) ?_
    refine cVi (As := [.int x1]) hM hK hX hA (met_X7_calibrateNow l D ad cy S_6 x1 hq) (kX7_calibrateNow hM.2.2.2.2 ql_RX7_144 (Nat.le_of_ble_eq_true rfl) (Nat.le_of_ble_eq_true rfl)) (v15 hK hX m15) rfl hl.1 rfl (Nat.le_of_ble_eq_true rfl) dX7_calibrate_25 ⟨Nat.zero_le _, Nat.zero_le _⟩ (fun S_7 r_8 hq H locs hX => ?_)
    exact e_i hM hX hlocks hret hq dX7_calibrate_28
  replace hq := hq.2 c_5
  refine lv_aload_n hM.1 hM.2.1 dX7_calibrate_13 rfl (lv_at hl 0 rfl) ?_
  refine lv_iconst (v := (1 : Int32)) hM.1 hM.2.1 dX7_calibrate_14 (by decide) ?_
  refine cVi (As := [.int (1 : Int32)]) hM hK hX hA (met_X7_fails l D ad cy S_3 (1 : Int32) hq) (kX7_fails hM.2.2.2.2 ql_RX7_59 (Nat.le_of_ble_eq_true rfl) (Nat.le_of_ble_eq_true rfl)) (v15 hK hX m15) rfl hl.1 rfl (Nat.le_of_ble_eq_true rfl) dX7_calibrate_15 ⟨Nat.zero_le _, Nat.zero_le _⟩ (fun S_9 r_10 hq H locs hX => ?_)
  exact e_i hM hX hlocks hret hq dX7_calibrate_18
def rmX7_knock : Room := { frames := 2, cells := 0, slots := 0, locals := 43 }
theorem kX7_knock {R : Room} {s : State} {args : Array Value} {own : String} {index : Nat} (ht : ∀ w ∈ lw_all, w.before args s = true) (hl : Cond.methodLink own index yX7_knock ∈ lw_all) (hf : rmX7_knock.frames + 1 ≤ R.frames) (hlo : 8 + (4 + 11) + rmX7_knock.locals ≤ R.locals) : CallW R s args own RX7 index yX7_knock cX7_knock 4 (some Jvm.ClassFile.FieldType.int) (wA yX7_knock cX7_knock 4 (some Jvm.ClassFile.FieldType.int)) rmX7_knock 0 0 2 := cwV 2 ht (good_V hl qm_yX7_knock qs_yX7_knock qi_RX7 qc_yX7_knock) rfl rfl rfl (by decide +kernel) ⟨hf, hlo⟩
set_option maxRecDepth 100000 in
set_option maxHeartbeats 4000000 in
theorem met_X7_knock (l : Launch) (D : va_G) (ad : Adr) (cy : Nat → ClassId) (S : Mem) (x1 : Int32) (x2 : Int32) {Q : Mem → Int32 → Prop} (hq : vc_X7_knock S x1 x2 Q) : Ci l yX7_knock (wA yX7_knock cX7_knock 4 (some Jvm.ClassFile.FieldType.int)) rmX7_knock D ad cy [.ref (ad 15 0 0), .int x1, .int x2] S Q := by
  intro o sz
  refine mkC (own := RX7) (lv := [(0, .ref (ad 15 0 0)), (1, .int x1), (2, .int x2)]) (by decide) rfl (Nat.le_of_ble_eq_true rfl) rfl ⟨rfl, rfl⟩ ?_
  intro p e s m below meth c ls hsz hM hlocks hret hK hA hX hl
  unfold vc_X7_knock at hq
  refine lv_aload_n hM.1 hM.2.1 dX7_knock_0 rfl (lv_at hl 0 rfl) ?_
  refine lv_iconst (v := (0 : Int32)) hM.1 hM.2.1 dX7_knock_1 (by decide) ?_
  refine p15_6 hM hK hX m15 qf_RX7_48 dX7_knock_2 (fun S_1 e_2 H locs hX => ?_)
  replace hq := hq S_1 e_2
  refine lv_aload_n hM.1 hM.2.1 dX7_knock_5 rfl (lv_at hl 0 rfl) ?_
  refine lv_iload_n hM.1 hM.2.1 dX7_knock_6 rfl (lv_at hl 1 rfl) ?_
  refine cVi (As := [.int x1]) hM hK hX hA (met_X7_is l D ad cy S_1 x1 hq) (kX7_is hM.2.2.2.2 ql_RX7_141 (Nat.le_of_ble_eq_true rfl) (Nat.le_of_ble_eq_true rfl)) (v15 hK hX m15) rfl hl.1 rfl (Nat.le_of_ble_eq_true rfl) dX7_knock_7 ⟨Nat.zero_le _, Nat.zero_le _⟩ (fun S_3 r_4 hq H locs hX => ?_)
  refine lv_if_ne (tgt := 19) hM.1 hM.2.1 dX7_knock_10 (by decide) (fun c_5 => ?_) (fun c_5 => ?_)
  · replace hq := hq.1 c_5
    refine lv_iload_n hM.1 hM.2.1 dX7_knock_19 rfl (lv_at hl 2 rfl) ?_
    refine lv_sipush (v := (-3000 : Int32)) hM.1 hM.2.1 dX7_knock_20 (by decide) ?_
    refine lv_sipush (v := (3000 : Int32)) hM.1 hM.2.1 dX7_knock_23 (by decide) ?_
    refine cSi (As := [.int x2, .int (-3000 : Int32), .int (3000 : Int32)]) hM hK hX hA (met_X7_in l D ad cy S_3 x2 (-3000 : Int32) (3000 : Int32) hq) (kX7_in hM.2.2.2.2 ql_RX7_52 (Nat.le_of_ble_eq_true rfl) (Nat.le_of_ble_eq_true rfl)) rfl hl.1 rfl (Nat.le_of_ble_eq_true rfl) dX7_knock_26 ⟨Nat.zero_le _, Nat.zero_le _⟩ (fun S_6 r_7 hq H locs hX => ?_)
    refine lv_if_ne (tgt := 38) hM.1 hM.2.1 dX7_knock_29 (by decide) (fun c_8 => ?_) (fun c_8 => ?_)
    · replace hq := hq.1 c_8
      refine lv_aload_n hM.1 hM.2.1 dX7_knock_38 rfl (lv_at hl 0 rfl) ?_
      refine lv_iload_n hM.1 hM.2.1 dX7_knock_39 rfl (lv_at hl 1 rfl) ?_
      refine lv_iconst (v := (4 : Int32)) hM.1 hM.2.1 dX7_knock_40 (by decide) ?_
      refine cVi (As := [.int x1, .int (4 : Int32)]) hM hK hX hA (met_X7_of l D ad cy S_6 x1 (4 : Int32) hq) (kX7_of hM.2.2.2.2 ql_RX7_66 (Nat.le_of_ble_eq_true rfl) (Nat.le_of_ble_eq_true rfl)) (v15 hK hX m15) rfl hl.1 rfl (Nat.le_of_ble_eq_true rfl) dX7_knock_41 ⟨Nat.zero_le _, Nat.zero_le _⟩ (fun S_9 r_10 hq H locs hX => ?_)
      refine lv_iload_n hM.1 hM.2.1 dX7_knock_44 rfl (lv_at hl 2 rfl) ?_
      refine lv_iadd hM.1 hM.2.1 dX7_knock_45 ?_
      refine lv_istore_n (lv' := [(3, .int (r_10 + x2)), (0, .ref (ad 15 0 0)), (1, .int x1), (2, .int x2)]) hM.1 hM.2.1 dX7_knock_46 rfl hl (by decide) rfl (fun ls hl => ?_)
      refine lv_iload_n hM.1 hM.2.1 dX7_knock_47 rfl (lv_at hl 0 rfl) ?_
      refine lv_sipush (v := (-20000 : Int32)) hM.1 hM.2.1 dX7_knock_48 (by decide) ?_
      refine lv_sipush (v := (20000 : Int32)) hM.1 hM.2.1 dX7_knock_51 (by decide) ?_
      refine cSi (As := [.int (r_10 + x2), .int (-20000 : Int32), .int (20000 : Int32)]) hM hK hX hA (met_X7_in l D ad cy S_9 (r_10 + x2) (-20000 : Int32) (20000 : Int32) hq) (kX7_in hM.2.2.2.2 ql_RX7_52 (Nat.le_of_ble_eq_true rfl) (Nat.le_of_ble_eq_true rfl)) rfl hl.1 rfl (Nat.le_of_ble_eq_true rfl) dX7_knock_54 ⟨Nat.zero_le _, Nat.zero_le _⟩ (fun S_11 r_12 hq H locs hX => ?_)
      refine lv_if_ne (tgt := 66) hM.1 hM.2.1 dX7_knock_57 (by decide) (fun c_13 => ?_) (fun c_13 => ?_)
      · replace hq := hq.1 c_13
        refine lv_aload_n hM.1 hM.2.1 dX7_knock_66 rfl (lv_at hl 1 rfl) ?_
        refine cVv (As := []) hM hK hX hA (met_X7_save l D ad cy S_11 hq) (kX7_save hM.2.2.2.2 ql_RX7_63 (Nat.le_of_ble_eq_true rfl) (Nat.le_of_ble_eq_true rfl)) (v15 hK hX m15) rfl hl.1 rfl (Nat.le_of_ble_eq_true rfl) dX7_knock_67 ⟨Nat.zero_le _, Nat.zero_le _⟩ (fun S_14 hq H locs hX => ?_)
        refine lv_aload_n hM.1 hM.2.1 dX7_knock_70 rfl (lv_at hl 1 rfl) ?_
        refine lv_iload_n hM.1 hM.2.1 dX7_knock_71 rfl (lv_at hl 2 rfl) ?_
        refine lv_iconst (v := (4 : Int32)) hM.1 hM.2.1 dX7_knock_72 (by decide) ?_
        refine lv_iload_n hM.1 hM.2.1 dX7_knock_73 rfl (lv_at hl 0 rfl) ?_
        refine cVv (As := [.int x1, .int (4 : Int32), .int (r_10 + x2)]) hM hK hX hA (met_X7_put l D ad cy S_14 x1 (4 : Int32) (r_10 + x2) hq) (kX7_put hM.2.2.2.2 ql_RX7_94 (Nat.le_of_ble_eq_true rfl) (Nat.le_of_ble_eq_true rfl)) (v15 hK hX m15) rfl hl.1 rfl (Nat.le_of_ble_eq_true rfl) dX7_knock_74 ⟨Nat.zero_le _, Nat.zero_le _⟩ (fun S_15 hq H locs hX => ?_)
        refine lv_iload_n hM.1 hM.2.1 dX7_knock_77 rfl (lv_at hl 0 rfl) ?_
        refine lv_ldc hM.1 hM.2.1 hM.2.2.2.1 (hM.2.2.2.2 _ qn_RX7_147) dX7_knock_78 ?_
        refine lv_iadd hM.1 hM.2.1 dX7_knock_80 ?_
        exact e_i hM hX hlocks hret hq dX7_knock_81
      replace hq := hq.2 c_13
      refine lv_aload_n hM.1 hM.2.1 dX7_knock_60 rfl (lv_at hl 1 rfl) ?_
      refine lv_iconst (v := (3 : Int32)) hM.1 hM.2.1 dX7_knock_61 (by decide) ?_
      refine cVi (As := [.int (3 : Int32)]) hM hK hX hA (met_X7_fails l D ad cy S_11 (3 : Int32) hq) (kX7_fails hM.2.2.2.2 ql_RX7_59 (Nat.le_of_ble_eq_true rfl) (Nat.le_of_ble_eq_true rfl)) (v15 hK hX m15) rfl hl.1 rfl (Nat.le_of_ble_eq_true rfl) dX7_knock_62 ⟨Nat.zero_le _, Nat.zero_le _⟩ (fun S_16 r_17 hq H locs hX => ?_)
      exact e_i hM hX hlocks hret hq dX7_knock_65
    replace hq := hq.2 c_8
    refine lv_aload_n hM.1 hM.2.1 dX7_knock_32 rfl (lv_at hl 0 rfl) ?_
    refine lv_iconst (v := (2 : Int32)) hM.1 hM.2.1 dX7_knock_33 (by decide) ?_
    refine cVi (As := [.int (2 : Int32)]) hM hK hX hA (met_X7_fails l D ad cy S_6 (2 : Int32) hq) (kX7_fails hM.2.2.2.2 ql_RX7_59 (Nat.le_of_ble_eq_true rfl) (Nat.le_of_ble_eq_true rfl)) (v15 hK hX m15) rfl hl.1 rfl (Nat.le_of_ble_eq_true rfl) dX7_knock_34 ⟨Nat.zero_le _, Nat.zero_le _⟩ (fun S_18 r_19 hq H locs hX => ?_)
    exact e_i hM hX hlocks hret hq dX7_knock_37
  replace hq := hq.2 c_5
  refine lv_aload_n hM.1 hM.2.1 dX7_knock_13 rfl (lv_at hl 0 rfl) ?_
  refine lv_iconst (v := (1 : Int32)) hM.1 hM.2.1 dX7_knock_14 (by decide) ?_
  refine cVi (As := [.int (1 : Int32)]) hM hK hX hA (met_X7_fails l D ad cy S_3 (1 : Int32) hq) (kX7_fails hM.2.2.2.2 ql_RX7_59 (Nat.le_of_ble_eq_true rfl) (Nat.le_of_ble_eq_true rfl)) (v15 hK hX m15) rfl hl.1 rfl (Nat.le_of_ble_eq_true rfl) dX7_knock_15 ⟨Nat.zero_le _, Nat.zero_le _⟩ (fun S_20 r_21 hq H locs hX => ?_)
  exact e_i hM hX hlocks hret hq dX7_knock_18
def rmX7_set : Room := { frames := 1, cells := 0, slots := 0, locals := 22 }
theorem kX7_set {R : Room} {s : State} {args : Array Value} {own : String} {index : Nat} (ht : ∀ w ∈ lw_all, w.before args s = true) (hl : Cond.methodLink own index yX7_set ∈ lw_all) (hf : rmX7_set.frames + 1 ≤ R.frames) (hlo : 8 + (4 + 11) + rmX7_set.locals ≤ R.locals) : CallW R s args own RX7 index yX7_set cX7_set 4 (some Jvm.ClassFile.FieldType.int) (wA yX7_set cX7_set 4 (some Jvm.ClassFile.FieldType.int)) rmX7_set 0 0 2 := cwV 2 ht (good_V hl qm_yX7_set qs_yX7_set qi_RX7 qc_yX7_set) rfl rfl rfl (by decide +kernel) ⟨hf, hlo⟩
set_option maxRecDepth 100000 in
set_option maxHeartbeats 4000000 in
theorem met_X7_set (l : Launch) (D : va_G) (ad : Adr) (cy : Nat → ClassId) (S : Mem) (x1 : Int32) (x2 : Int32) {Q : Mem → Int32 → Prop} (hq : vc_X7_set S x1 x2 Q) : Ci l yX7_set (wA yX7_set cX7_set 4 (some Jvm.ClassFile.FieldType.int)) rmX7_set D ad cy [.ref (ad 15 0 0), .int x1, .int x2] S Q := by
  intro o sz
  refine mkC (own := RX7) (lv := [(0, .ref (ad 15 0 0)), (1, .int x1), (2, .int x2)]) (by decide) rfl (Nat.le_of_ble_eq_true rfl) rfl ⟨rfl, rfl⟩ ?_
  intro p e s m below meth c ls hsz hM hlocks hret hK hA hX hl
  have J54 : ∀ (S : Mem), vc_X7_set_J54 Q x1 x2 S → ∀ (H : Heap) (locs : List Loc) (ls : Array Slot), PW D ad cy (AW ad sz) s.heap o S H locs → lv_has ls 4 [(0, .ref (ad 15 0 0)), (1, .int x1), (2, .int x2)] → Wi D ad cy o sz Q p l e rmX7_set s m [.ref (ad 15 0 0), .int x1, .int x2] below meth c H locs (F0 m 54 ls []) := by
    intro S hq H locs ls hX hl
    unfold vc_X7_set_J54 at hq
    refine lv_aload_n hM.1 hM.2.1 dX7_set_54 rfl (lv_at hl 0 rfl) ?_
    refine cVv (As := []) hM hK hX hA (met_X7_save l D ad cy S hq) (kX7_save hM.2.2.2.2 ql_RX7_63 (Nat.le_of_ble_eq_true rfl) (Nat.le_of_ble_eq_true rfl)) (v15 hK hX m15) rfl hl.1 rfl (Nat.le_of_ble_eq_true rfl) dX7_set_55 ⟨Nat.zero_le _, Nat.zero_le _⟩ (fun S_10 hq H locs hX => ?_)
    refine lv_aload_n hM.1 hM.2.1 dX7_set_58 rfl (lv_at hl 0 rfl) ?_
    refine g15 hM hK hX m15 0 (by decide) qf_RX7_7 rfl dX7_set_59 ?_
    refine lv_iconst (v := (2 : Int32)) hM.1 hM.2.1 dX7_set_62 (by decide) ?_
    refine lv_iload_n hM.1 hM.2.1 dX7_set_63 rfl (lv_at hl 1 rfl) ?_
    refine lv_iadd hM.1 hM.2.1 dX7_set_64 ?_
    have c_11 := hq.1
    replace hq := hq.2
    refine r_iald hM hK hX m16 (a16 0 0) c_11 dX7_set_65 ?_
    refine lv_istore_n (lv' := [(3, .int (S_10 16 0 0 ((2 : Int32) + x1).toNatClampNeg)), (0, .ref (ad 15 0 0)), (1, .int x1), (2, .int x2)]) hM.1 hM.2.1 dX7_set_66 rfl hl (by decide) rfl (fun ls hl => ?_)
    refine lv_aload_n hM.1 hM.2.1 dX7_set_67 rfl (lv_at hl 1 rfl) ?_
    refine g15 hM hK hX m15 0 (by decide) qf_RX7_7 rfl dX7_set_68 ?_
    refine lv_iconst (v := (2 : Int32)) hM.1 hM.2.1 dX7_set_71 (by decide) ?_
    refine lv_iload_n hM.1 hM.2.1 dX7_set_72 rfl (lv_at hl 2 rfl) ?_
    refine lv_iadd hM.1 hM.2.1 dX7_set_73 ?_
    refine lv_iload_n hM.1 hM.2.1 dX7_set_74 rfl (lv_at hl 3 rfl) ?_
    have c_13 := hq.1
    replace hq := hq.2
    refine r_iast hM hK hX m16 (a16 0 0) c_13 dX7_set_75 (fun S_12 e_14 H locs hX => ?_)
    replace hq := hq S_12 e_14
    refine lv_iload_n hM.1 hM.2.1 dX7_set_76 rfl (lv_at hl 0 rfl) ?_
    exact e_i hM hX hlocks hret hq dX7_set_77
  unfold vc_X7_set at hq
  refine lv_aload_n hM.1 hM.2.1 dX7_set_0 rfl (lv_at hl 0 rfl) ?_
  refine lv_iconst (v := (0 : Int32)) hM.1 hM.2.1 dX7_set_1 (by decide) ?_
  refine p15_6 hM hK hX m15 qf_RX7_48 dX7_set_2 (fun S_1 e_2 H locs hX => ?_)
  replace hq := hq S_1 e_2
  refine lv_iload_n hM.1 hM.2.1 dX7_set_5 rfl (lv_at hl 1 rfl) ?_
  refine lv_iconst (v := (0 : Int32)) hM.1 hM.2.1 dX7_set_6 (by decide) ?_
  refine lv_iconst (v := (1 : Int32)) hM.1 hM.2.1 dX7_set_7 (by decide) ?_
  refine cSi (As := [.int x1, .int (0 : Int32), .int (1 : Int32)]) hM hK hX hA (met_X7_in l D ad cy S_1 x1 (0 : Int32) (1 : Int32) hq) (kX7_in hM.2.2.2.2 ql_RX7_52 (Nat.le_of_ble_eq_true rfl) (Nat.le_of_ble_eq_true rfl)) rfl hl.1 rfl (Nat.le_of_ble_eq_true rfl) dX7_set_8 ⟨Nat.zero_le _, Nat.zero_le _⟩ (fun S_3 r_4 hq H locs hX => ?_)
  refine lv_if_ne (tgt := 20) hM.1 hM.2.1 dX7_set_11 (by decide) (fun c_5 => ?_) (fun c_5 => ?_)
  · replace hq := hq.1 c_5
    refine lv_iload_n hM.1 hM.2.1 dX7_set_20 rfl (lv_at hl 1 rfl) ?_
    refine lv_if_ne (tgt := 39) hM.1 hM.2.1 dX7_set_21 (by decide) (fun c_6 => ?_) (fun c_6 => ?_)
    · replace hq := hq.1 c_6
      refine lv_iload_n hM.1 hM.2.1 dX7_set_39 rfl (lv_at hl 2 rfl) ?_
      refine lv_iconst (v := (1 : Int32)) hM.1 hM.2.1 dX7_set_40 (by decide) ?_
      refine lv_iconst (v := (5 : Int32)) hM.1 hM.2.1 dX7_set_41 (by decide) ?_
      refine cSi (As := [.int x2, .int (1 : Int32), .int (5 : Int32)]) hM hK hX hA (met_X7_in l D ad cy S_3 x2 (1 : Int32) (5 : Int32) hq) (kX7_in hM.2.2.2.2 ql_RX7_52 (Nat.le_of_ble_eq_true rfl) (Nat.le_of_ble_eq_true rfl)) rfl hl.1 rfl (Nat.le_of_ble_eq_true rfl) dX7_set_42 ⟨Nat.zero_le _, Nat.zero_le _⟩ (fun S_7 r_8 hq H locs hX => ?_)
      refine lv_if_ne (tgt := 54) hM.1 hM.2.1 dX7_set_45 (by decide) (fun c_9 => ?_) (fun c_9 => ?_)
      · replace hq := hq.1 c_9
        exact J54 S_7 hq _ _ _ hX (lv_sub hl [0, 1, 2] rfl)
      replace hq := hq.2 c_9
      refine lv_aload_n hM.1 hM.2.1 dX7_set_48 rfl (lv_at hl 0 rfl) ?_
      refine lv_iconst (v := (2 : Int32)) hM.1 hM.2.1 dX7_set_49 (by decide) ?_
      refine cVi (As := [.int (2 : Int32)]) hM hK hX hA (met_X7_fails l D ad cy S_7 (2 : Int32) hq) (kX7_fails hM.2.2.2.2 ql_RX7_59 (Nat.le_of_ble_eq_true rfl) (Nat.le_of_ble_eq_true rfl)) (v15 hK hX m15) rfl hl.1 rfl (Nat.le_of_ble_eq_true rfl) dX7_set_50 ⟨Nat.zero_le _, Nat.zero_le _⟩ (fun S_15 r_16 hq H locs hX => ?_)
      exact e_i hM hX hlocks hret hq dX7_set_53
    replace hq := hq.2 c_6
    refine lv_iload_n hM.1 hM.2.1 dX7_set_24 rfl (lv_at hl 2 rfl) ?_
    refine lv_bipush (v := (10 : Int32)) hM.1 hM.2.1 dX7_set_25 (by decide) ?_
    refine lv_sipush (v := (2000 : Int32)) hM.1 hM.2.1 dX7_set_27 (by decide) ?_
    refine cSi (As := [.int x2, .int (10 : Int32), .int (2000 : Int32)]) hM hK hX hA (met_X7_in l D ad cy S_3 x2 (10 : Int32) (2000 : Int32) hq) (kX7_in hM.2.2.2.2 ql_RX7_52 (Nat.le_of_ble_eq_true rfl) (Nat.le_of_ble_eq_true rfl)) rfl hl.1 rfl (Nat.le_of_ble_eq_true rfl) dX7_set_30 ⟨Nat.zero_le _, Nat.zero_le _⟩ (fun S_17 r_18 hq H locs hX => ?_)
    refine lv_if_eq (tgt := 48) hM.1 hM.2.1 dX7_set_33 (by decide) (fun c_19 => ?_) (fun c_19 => ?_)
    · replace hq := hq.1 c_19
      refine lv_aload_n hM.1 hM.2.1 dX7_set_48 rfl (lv_at hl 0 rfl) ?_
      refine lv_iconst (v := (2 : Int32)) hM.1 hM.2.1 dX7_set_49 (by decide) ?_
      refine cVi (As := [.int (2 : Int32)]) hM hK hX hA (met_X7_fails l D ad cy S_17 (2 : Int32) hq) (kX7_fails hM.2.2.2.2 ql_RX7_59 (Nat.le_of_ble_eq_true rfl) (Nat.le_of_ble_eq_true rfl)) (v15 hK hX m15) rfl hl.1 rfl (Nat.le_of_ble_eq_true rfl) dX7_set_50 ⟨Nat.zero_le _, Nat.zero_le _⟩ (fun S_20 r_21 hq H locs hX => ?_)
      exact e_i hM hX hlocks hret hq dX7_set_53
    replace hq := hq.2 c_19
    refine lv_goto (tgt := 54) hM.1 hM.2.1 dX7_set_36 (by decide) ?_
    exact J54 S_17 hq _ _ _ hX (lv_sub hl [0, 1, 2] rfl)
  replace hq := hq.2 c_5
  refine lv_aload_n hM.1 hM.2.1 dX7_set_14 rfl (lv_at hl 0 rfl) ?_
  refine lv_iconst (v := (1 : Int32)) hM.1 hM.2.1 dX7_set_15 (by decide) ?_
  refine cVi (As := [.int (1 : Int32)]) hM hK hX hA (met_X7_fails l D ad cy S_3 (1 : Int32) hq) (kX7_fails hM.2.2.2.2 ql_RX7_59 (Nat.le_of_ble_eq_true rfl) (Nat.le_of_ble_eq_true rfl)) (v15 hK hX m15) rfl hl.1 rfl (Nat.le_of_ble_eq_true rfl) dX7_set_16 ⟨Nat.zero_le _, Nat.zero_le _⟩ (fun S_22 r_23 hq H locs hX => ?_)
  exact e_i hM hX hlocks hret hq dX7_set_19
def rmX7_append : Room := { frames := 1, cells := 0, slots := 0, locals := 22 }
theorem kX7_append {R : Room} {s : State} {args : Array Value} {own : String} {index : Nat} (ht : ∀ w ∈ lw_all, w.before args s = true) (hl : Cond.methodLink own index yX7_append ∈ lw_all) (hf : rmX7_append.frames + 1 ≤ R.frames) (hlo : 8 + (2 + 11) + rmX7_append.locals ≤ R.locals) : CallW R s args own RX7 index yX7_append cX7_append 2 (some Jvm.ClassFile.FieldType.int) (wA yX7_append cX7_append 2 (some Jvm.ClassFile.FieldType.int)) rmX7_append 0 0 1 := cwV 1 ht (good_V hl qm_yX7_append qs_yX7_append qi_RX7 qc_yX7_append) rfl rfl rfl (by decide +kernel) ⟨hf, hlo⟩
set_option maxRecDepth 100000 in
set_option maxHeartbeats 4000000 in
theorem met_X7_append (l : Launch) (D : va_G) (ad : Adr) (cy : Nat → ClassId) (S : Mem) (x1 : Int32) {Q : Mem → Int32 → Prop} (hq : vc_X7_append S x1 Q) : Ci l yX7_append (wA yX7_append cX7_append 2 (some Jvm.ClassFile.FieldType.int)) rmX7_append D ad cy [.ref (ad 15 0 0), .int x1] S Q := by
  intro o sz
  refine mkC (own := RX7) (lv := [(0, .ref (ad 15 0 0)), (1, .int x1)]) (by decide) rfl (Nat.le_of_ble_eq_true rfl) rfl ⟨rfl, rfl⟩ ?_
  intro p e s m below meth c ls hsz hM hlocks hret hK hA hX hl
  unfold vc_X7_append at hq
  refine lv_aload_n hM.1 hM.2.1 dX7_append_0 rfl (lv_at hl 0 rfl) ?_
  refine lv_iconst (v := (0 : Int32)) hM.1 hM.2.1 dX7_append_1 (by decide) ?_
  refine p15_6 hM hK hX m15 qf_RX7_48 dX7_append_2 (fun S_1 e_2 H locs hX => ?_)
  replace hq := hq S_1 e_2
  refine lv_iload_n hM.1 hM.2.1 dX7_append_5 rfl (lv_at hl 1 rfl) ?_
  refine lv_bipush (v := (33 : Int32)) hM.1 hM.2.1 dX7_append_6 (by decide) ?_
  refine lv_bipush (v := (126 : Int32)) hM.1 hM.2.1 dX7_append_8 (by decide) ?_
  refine cSi (As := [.int x1, .int (33 : Int32), .int (126 : Int32)]) hM hK hX hA (met_X7_in l D ad cy S_1 x1 (33 : Int32) (126 : Int32) hq) (kX7_in hM.2.2.2.2 ql_RX7_52 (Nat.le_of_ble_eq_true rfl) (Nat.le_of_ble_eq_true rfl)) rfl hl.1 rfl (Nat.le_of_ble_eq_true rfl) dX7_append_10 ⟨Nat.zero_le _, Nat.zero_le _⟩ (fun S_3 r_4 hq H locs hX => ?_)
  refine lv_if_ne (tgt := 22) hM.1 hM.2.1 dX7_append_13 (by decide) (fun c_5 => ?_) (fun c_5 => ?_)
  · replace hq := hq.1 c_5
    refine lv_aload_n hM.1 hM.2.1 dX7_append_22 rfl (lv_at hl 0 rfl) ?_
    refine g15 hM hK hX m15 11 (by decide) qf_RX7_148 rfl dX7_append_23 ?_
    refine lv_bipush (v := (60 : Int32)) hM.1 hM.2.1 dX7_append_26 (by decide) ?_
    refine lv_icmp_ne (tgt := 37) hM.1 hM.2.1 dX7_append_28 (by decide) (fun c_6 => ?_) (fun c_6 => ?_)
    · replace hq := hq.1 c_6
      refine lv_aload_n hM.1 hM.2.1 dX7_append_37 rfl (lv_at hl 0 rfl) ?_
      refine g15 hM hK hX m15 10 (by decide) qf_RX7_32 rfl dX7_append_38 ?_
      refine lv_aload_n hM.1 hM.2.1 dX7_append_41 rfl (lv_at hl 0 rfl) ?_
      refine g15 hM hK hX m15 11 (by decide) qf_RX7_148 rfl dX7_append_42 ?_
      refine lv_iload_n hM.1 hM.2.1 dX7_append_45 rfl (lv_at hl 1 rfl) ?_
      have c_8 := hq.1
      replace hq := hq.2
      refine r_iast hM hK hX m23 (a23 0 0) c_8 dX7_append_46 (fun S_7 e_9 H locs hX => ?_)
      replace hq := hq S_7 e_9
      refine lv_aload_n hM.1 hM.2.1 dX7_append_47 rfl (lv_at hl 0 rfl) ?_
      refine lv_dup hM.1 hM.2.1 dX7_append_48 rfl ?_
      refine g15 hM hK hX m15 11 (by decide) qf_RX7_148 rfl dX7_append_49 ?_
      refine lv_iconst (v := (1 : Int32)) hM.1 hM.2.1 dX7_append_52 (by decide) ?_
      refine lv_iadd hM.1 hM.2.1 dX7_append_53 ?_
      refine p15_11 hM hK hX m15 qf_RX7_148 dX7_append_54 (fun S_10 e_11 H locs hX => ?_)
      replace hq := hq S_10 e_11
      refine lv_aload_n hM.1 hM.2.1 dX7_append_57 rfl (lv_at hl 0 rfl) ?_
      refine g15 hM hK hX m15 11 (by decide) qf_RX7_148 rfl dX7_append_58 ?_
      exact e_i hM hX hlocks hret hq dX7_append_61
    replace hq := hq.2 c_6
    refine lv_aload_n hM.1 hM.2.1 dX7_append_31 rfl (lv_at hl 0 rfl) ?_
    refine lv_iconst (v := (2 : Int32)) hM.1 hM.2.1 dX7_append_32 (by decide) ?_
    refine cVi (As := [.int (2 : Int32)]) hM hK hX hA (met_X7_fails l D ad cy S_3 (2 : Int32) hq) (kX7_fails hM.2.2.2.2 ql_RX7_59 (Nat.le_of_ble_eq_true rfl) (Nat.le_of_ble_eq_true rfl)) (v15 hK hX m15) rfl hl.1 rfl (Nat.le_of_ble_eq_true rfl) dX7_append_33 ⟨Nat.zero_le _, Nat.zero_le _⟩ (fun S_12 r_13 hq H locs hX => ?_)
    exact e_i hM hX hlocks hret hq dX7_append_36
  replace hq := hq.2 c_5
  refine lv_aload_n hM.1 hM.2.1 dX7_append_16 rfl (lv_at hl 0 rfl) ?_
  refine lv_iconst (v := (1 : Int32)) hM.1 hM.2.1 dX7_append_17 (by decide) ?_
  refine cVi (As := [.int (1 : Int32)]) hM hK hX hA (met_X7_fails l D ad cy S_3 (1 : Int32) hq) (kX7_fails hM.2.2.2.2 ql_RX7_59 (Nat.le_of_ble_eq_true rfl) (Nat.le_of_ble_eq_true rfl)) (v15 hK hX m15) rfl hl.1 rfl (Nat.le_of_ble_eq_true rfl) dX7_append_18 ⟨Nat.zero_le _, Nat.zero_le _⟩ (fun S_14 r_15 hq H locs hX => ?_)
  exact e_i hM hX hlocks hret hq dX7_append_21
def rmX7_clearBuffer : Room := { frames := 0, cells := 0, slots := 0, locals := 0 }
theorem kX7_clearBuffer {R : Room} {s : State} {args : Array Value} {own : String} {index : Nat} (ht : ∀ w ∈ lw_all, w.before args s = true) (hl : Cond.methodLink own index yX7_clearBuffer ∈ lw_all) (hf : rmX7_clearBuffer.frames + 1 ≤ R.frames) (hlo : 8 + (2 + 11) + rmX7_clearBuffer.locals ≤ R.locals) : CallW R s args own RX7 index yX7_clearBuffer cX7_clearBuffer 2 (some Jvm.ClassFile.FieldType.int) (wA yX7_clearBuffer cX7_clearBuffer 2 (some Jvm.ClassFile.FieldType.int)) rmX7_clearBuffer 0 0 0 := cwV 0 ht (good_V hl qm_yX7_clearBuffer qs_yX7_clearBuffer qi_RX7 qc_yX7_clearBuffer) rfl rfl rfl (by decide +kernel) ⟨hf, hlo⟩
set_option maxRecDepth 100000 in
set_option maxHeartbeats 4000000 in
theorem met_X7_clearBuffer (l : Launch) (D : va_G) (ad : Adr) (cy : Nat → ClassId) (S : Mem) {Q : Mem → Int32 → Prop} (hq : vc_X7_clearBuffer S Q) : Ci l yX7_clearBuffer (wA yX7_clearBuffer cX7_clearBuffer 2 (some Jvm.ClassFile.FieldType.int)) rmX7_clearBuffer D ad cy [.ref (ad 15 0 0)] S Q := by
  intro o sz
  refine mkC (own := RX7) (lv := [(0, .ref (ad 15 0 0))]) (by decide) rfl (Nat.le_of_ble_eq_true rfl) rfl ⟨rfl, rfl⟩ ?_
  intro p e s m below meth c ls hsz hM hlocks hret hK hA hX hl
  unfold vc_X7_clearBuffer at hq
  refine lv_aload_n hM.1 hM.2.1 dX7_clearBuffer_0 rfl (lv_at hl 0 rfl) ?_
  refine lv_iconst (v := (0 : Int32)) hM.1 hM.2.1 dX7_clearBuffer_1 (by decide) ?_
  refine p15_6 hM hK hX m15 qf_RX7_48 dX7_clearBuffer_2 (fun S_1 e_2 H locs hX => ?_)
  replace hq := hq S_1 e_2
  refine lv_aload_n hM.1 hM.2.1 dX7_clearBuffer_5 rfl (lv_at hl 0 rfl) ?_
  refine g15 hM hK hX m15 11 (by decide) qf_RX7_148 rfl dX7_clearBuffer_6 ?_
  refine lv_istore_n (lv' := [(1, .int (S_1 15 0 0 11)), (0, .ref (ad 15 0 0))]) hM.1 hM.2.1 dX7_clearBuffer_9 rfl hl (by decide) rfl (fun ls hl => ?_)
  refine lv_aload_n hM.1 hM.2.1 dX7_clearBuffer_10 rfl (lv_at hl 1 rfl) ?_
  refine lv_iconst (v := (0 : Int32)) hM.1 hM.2.1 dX7_clearBuffer_11 (by decide) ?_
  refine p15_11 hM hK hX m15 qf_RX7_148 dX7_clearBuffer_12 (fun S_3 e_4 H locs hX => ?_)
  replace hq := hq S_3 e_4
  refine lv_iload_n hM.1 hM.2.1 dX7_clearBuffer_15 rfl (lv_at hl 0 rfl) ?_
  exact e_i hM hX hlocks hret hq dX7_clearBuffer_16
def rmX7_takes : Room := { frames := 1, cells := 0, slots := 0, locals := 22 }
theorem kX7_takes {R : Room} {s : State} {args : Array Value} {own : String} {index : Nat} (ht : ∀ w ∈ lw_all, w.before args s = true) (hl : Cond.methodLink own index yX7_takes ∈ lw_all) (hf : rmX7_takes.frames + 1 ≤ R.frames) (hlo : 8 + (4 + 11) + rmX7_takes.locals ≤ R.locals) : CallW R s args own RX7 index yX7_takes cX7_takes 4 (some Jvm.ClassFile.FieldType.boolean) (wA yX7_takes cX7_takes 4 (some Jvm.ClassFile.FieldType.boolean)) rmX7_takes 0 0 2 := cwV 2 ht (good_V hl qm_yX7_takes qs_yX7_takes qi_RX7 qc_yX7_takes) rfl rfl rfl (by decide +kernel) ⟨hf, hlo⟩
set_option maxRecDepth 100000 in
set_option maxHeartbeats 4000000 in
theorem met_X7_takes (l : Launch) (D : va_G) (ad : Adr) (cy : Nat → ClassId) (S : Mem) (x1 : Int32) (x2 : Int32) {Q : Mem → Int32 → Prop} (hq : vc_X7_takes S x1 x2 Q) : Ci l yX7_takes (wA yX7_takes cX7_takes 4 (some Jvm.ClassFile.FieldType.boolean)) rmX7_takes D ad cy [.ref (ad 15 0 0), .int x1, .int x2] S Q := by
  intro o sz
  refine mkC (own := RX7) (lv := [(0, .ref (ad 15 0 0)), (1, .int x1), (2, .int x2)]) (by decide) rfl (Nat.le_of_ble_eq_true rfl) rfl ⟨rfl, rfl⟩ ?_
  intro p e s m below meth c ls hsz hM hlocks hret hK hA hX hl
  have J33 : ∀ (S : Mem) (w0 : Int32), vc_X7_takes_J33 Q x1 x2 S w0 → ∀ (H : Heap) (locs : List Loc) (ls : Array Slot), PW D ad cy (AW ad sz) s.heap o S H locs → lv_has ls 4 [(0, .ref (ad 15 0 0))] → Wi D ad cy o sz Q p l e rmX7_takes s m [.ref (ad 15 0 0), .int x1, .int x2] below meth c H locs (F0 m 33 ls [.int w0]) := by
    intro S w0 hq H locs ls hX hl
    unfold vc_X7_takes_J33 at hq
    refine lv_istore_n (lv' := [(3, .int w0), (0, .ref (ad 15 0 0))]) hM.1 hM.2.1 dX7_takes_33 rfl hl (by decide) rfl (fun ls hl => ?_)
    refine lv_aload_n hM.1 hM.2.1 dX7_takes_34 rfl (lv_at hl 1 rfl) ?_
    refine lv_dup hM.1 hM.2.1 dX7_takes_35 rfl ?_
    refine g15 hM hK hX m15 12 (by decide) qf_RX7_151 rfl dX7_takes_36 ?_
    refine lv_iload_n hM.1 hM.2.1 dX7_takes_39 rfl (lv_at hl 0 rfl) ?_
    refine lv_if_eq (tgt := 47) hM.1 hM.2.1 dX7_takes_40 (by decide) (fun c_2 => ?_) (fun c_2 => ?_)
    · replace hq := hq.1 c_2
      refine lv_iconst (v := (0 : Int32)) hM.1 hM.2.1 dX7_takes_47 (by decide) ?_
      refine lv_iadd hM.1 hM.2.1 dX7_takes_48 ?_
      refine p15_12 hM hK hX m15 qf_RX7_151 dX7_takes_49 (fun S_3 e_4 H locs hX => ?_)
      replace hq := hq S_3 e_4
      refine lv_iload_n hM.1 hM.2.1 dX7_takes_52 rfl (lv_at hl 0 rfl) ?_
      exact e_z hM hX hlocks hret (nar_z hq.1).1 hq.2 dX7_takes_53
    replace hq := hq.2 c_2
    refine lv_iconst (v := (1 : Int32)) hM.1 hM.2.1 dX7_takes_43 (by decide) ?_
    refine lv_goto (tgt := 48) hM.1 hM.2.1 dX7_takes_44 (by decide) ?_
    refine lv_iadd hM.1 hM.2.1 dX7_takes_48 ?_
    refine p15_12 hM hK hX m15 qf_RX7_151 dX7_takes_49 (fun S_5 e_6 H locs hX => ?_)
    replace hq := hq S_5 e_6
    refine lv_iload_n hM.1 hM.2.1 dX7_takes_52 rfl (lv_at hl 0 rfl) ?_
    exact e_z hM hX hlocks hret (nar_z hq.1).1 hq.2 dX7_takes_53
  have J32 : ∀ (S : Mem), vc_X7_takes_J32 Q x1 x2 S → ∀ (H : Heap) (locs : List Loc) (ls : Array Slot), PW D ad cy (AW ad sz) s.heap o S H locs → lv_has ls 4 [(0, .ref (ad 15 0 0))] → Wi D ad cy o sz Q p l e rmX7_takes s m [.ref (ad 15 0 0), .int x1, .int x2] below meth c H locs (F0 m 32 ls []) := by
    intro S hq H locs ls hX hl
    unfold vc_X7_takes_J32 at hq
    refine lv_iconst (v := (0 : Int32)) hM.1 hM.2.1 dX7_takes_32 (by decide) ?_
    exact J33 S (0 : Int32) hq _ _ _ hX (lv_sub hl [0] rfl)
  unfold vc_X7_takes at hq
  refine lv_aload_n hM.1 hM.2.1 dX7_takes_0 rfl (lv_at hl 0 rfl) ?_
  refine g15 hM hK hX m15 12 (by decide) qf_RX7_151 rfl dX7_takes_1 ?_
  refine lv_aload_n hM.1 hM.2.1 dX7_takes_4 rfl (lv_at hl 0 rfl) ?_
  refine g15 hM hK hX m15 11 (by decide) qf_RX7_148 rfl dX7_takes_5 ?_
  refine lv_icmp_ge (tgt := 32) hM.1 hM.2.1 dX7_takes_8 (by decide) (fun c_1 => ?_) (fun c_1 => ?_)
  · replace hq := hq.1 c_1
    exact J32 S hq _ _ _ hX (lv_sub hl [0] rfl)
  replace hq := hq.2 c_1
  refine lv_aload_n hM.1 hM.2.1 dX7_takes_11 rfl (lv_at hl 0 rfl) ?_
  refine g15 hM hK hX m15 10 (by decide) qf_RX7_32 rfl dX7_takes_12 ?_
  refine lv_aload_n hM.1 hM.2.1 dX7_takes_15 rfl (lv_at hl 0 rfl) ?_
  refine g15 hM hK hX m15 12 (by decide) qf_RX7_151 rfl dX7_takes_16 ?_
  have c_7 := hq.1
  replace hq := hq.2
  refine r_iald hM hK hX m23 (a23 0 0) c_7 dX7_takes_19 ?_
  refine lv_iload_n hM.1 hM.2.1 dX7_takes_20 rfl (lv_at hl 1 rfl) ?_
  refine lv_iload_n hM.1 hM.2.1 dX7_takes_21 rfl (lv_at hl 2 rfl) ?_
  refine cSi (As := [.int (S 23 0 0 (S 15 0 0 12).toNatClampNeg), .int x1, .int x2]) hM hK hX hA (met_X7_in l D ad cy S (S 23 0 0 (S 15 0 0 12).toNatClampNeg) x1 x2 hq) (kX7_in hM.2.2.2.2 ql_RX7_52 (Nat.le_of_ble_eq_true rfl) (Nat.le_of_ble_eq_true rfl)) rfl hl.1 rfl (Nat.le_of_ble_eq_true rfl) dX7_takes_22 ⟨Nat.zero_le _, Nat.zero_le _⟩ (fun S_8 r_9 hq H locs hX => ?_)
  refine lv_if_eq (tgt := 32) hM.1 hM.2.1 dX7_takes_25 (by decide) (fun c_10 => ?_) (fun c_10 => ?_)
  · replace hq := hq.1 c_10
    exact J32 S_8 hq _ _ _ hX (lv_sub hl [0] rfl)
  replace hq := hq.2 c_10
  refine lv_iconst (v := (1 : Int32)) hM.1 hM.2.1 dX7_takes_28 (by decide) ?_
  refine lv_goto (tgt := 33) hM.1 hM.2.1 dX7_takes_29 (by decide) ?_
  exact J33 S_8 (1 : Int32) hq _ _ _ hX (lv_sub hl [0] rfl)
def rmX7_digit : Room := { frames := 0, cells := 0, slots := 0, locals := 0 }
theorem kX7_digit {R : Room} {s : State} {args : Array Value} {own : String} {index : Nat} (ht : ∀ w ∈ lw_all, w.before args s = true) (hl : Cond.methodLink own index yX7_digit ∈ lw_all) (hf : rmX7_digit.frames + 1 ≤ R.frames) (hlo : 8 + (1 + 11) + rmX7_digit.locals ≤ R.locals) : CallW R s args own RX7 index yX7_digit cX7_digit 1 (some Jvm.ClassFile.FieldType.int) (wA yX7_digit cX7_digit 1 (some Jvm.ClassFile.FieldType.int)) rmX7_digit 0 0 0 := cwV 0 ht (good_V hl qm_yX7_digit qs_yX7_digit qi_RX7 qc_yX7_digit) rfl rfl rfl (by decide +kernel) ⟨hf, hlo⟩
set_option maxRecDepth 100000 in
set_option maxHeartbeats 4000000 in
theorem met_X7_digit (l : Launch) (D : va_G) (ad : Adr) (cy : Nat → ClassId) (S : Mem) {Q : Mem → Int32 → Prop} (hq : vc_X7_digit S Q) : Ci l yX7_digit (wA yX7_digit cX7_digit 1 (some Jvm.ClassFile.FieldType.int)) rmX7_digit D ad cy [.ref (ad 15 0 0)] S Q := by
  intro o sz
  refine mkC (own := RX7) (lv := [(0, .ref (ad 15 0 0))]) (by decide) rfl (Nat.le_of_ble_eq_true rfl) rfl ⟨rfl, rfl⟩ ?_
  intro p e s m below meth c ls hsz hM hlocks hret hK hA hX hl
  unfold vc_X7_digit at hq
  refine lv_aload_n hM.1 hM.2.1 dX7_digit_0 rfl (lv_at hl 0 rfl) ?_
  refine g15 hM hK hX m15 10 (by decide) qf_RX7_32 rfl dX7_digit_1 ?_
  refine lv_aload_n hM.1 hM.2.1 dX7_digit_4 rfl (lv_at hl 0 rfl) ?_
  refine g15 hM hK hX m15 12 (by decide) qf_RX7_151 rfl dX7_digit_5 ?_
  refine lv_iconst (v := (1 : Int32)) hM.1 hM.2.1 dX7_digit_8 (by decide) ?_
  refine lv_isub hM.1 hM.2.1 dX7_digit_9 ?_
  have c_1 := hq.1
  replace hq := hq.2
  refine r_iald hM hK hX m23 (a23 0 0) c_1 dX7_digit_10 ?_
  refine lv_bipush (v := (48 : Int32)) hM.1 hM.2.1 dX7_digit_11 (by decide) ?_
  refine lv_isub hM.1 hM.2.1 dX7_digit_13 ?_
  exact e_i hM hX hlocks hret hq dX7_digit_14
def rmX7_readDegrees : Room := { frames := 2, cells := 0, slots := 0, locals := 45 }
theorem kX7_readDegrees {R : Room} {s : State} {args : Array Value} {own : String} {index : Nat} (ht : ∀ w ∈ lw_all, w.before args s = true) (hl : Cond.methodLink own index yX7_readDegrees ∈ lw_all) (hf : rmX7_readDegrees.frames + 1 ≤ R.frames) (hlo : 8 + (3 + 11) + rmX7_readDegrees.locals ≤ R.locals) : CallW R s args own RX7 index yX7_readDegrees cX7_readDegrees 3 (some Jvm.ClassFile.FieldType.boolean) (wA yX7_readDegrees cX7_readDegrees 3 (some Jvm.ClassFile.FieldType.boolean)) rmX7_readDegrees 0 0 0 := cwV 0 ht (good_V hl qm_yX7_readDegrees qs_yX7_readDegrees qi_RX7 qc_yX7_readDegrees) rfl rfl rfl (by decide +kernel) ⟨hf, hlo⟩
set_option maxRecDepth 100000 in
set_option maxHeartbeats 4000000 in
theorem met_X7_readDegrees (l : Launch) (D : va_G) (ad : Adr) (cy : Nat → ClassId) (S : Mem) {Q : Mem → Int32 → Prop} (hq : vc_X7_readDegrees S Q) : Ci l yX7_readDegrees (wA yX7_readDegrees cX7_readDegrees 3 (some Jvm.ClassFile.FieldType.boolean)) rmX7_readDegrees D ad cy [.ref (ad 15 0 0)] S Q := by
  intro o sz
  refine mkC (own := RX7) (lv := [(0, .ref (ad 15 0 0))]) (by decide) rfl (Nat.le_of_ble_eq_true rfl) rfl ⟨rfl, rfl⟩ ?_
  intro p e s m below meth c ls hsz hM hlocks hret hK hA hX hl
  have J76 : ∀ (S : Mem) (y1 : Int32) (y2 : Int32), vc_X7_readDegrees_J76 Q S y1 y2 → ∀ (H : Heap) (locs : List Loc) (ls : Array Slot), PW D ad cy (AW ad sz) s.heap o S H locs → lv_has ls 3 [(0, .ref (ad 15 0 0)), (1, .int y1), (2, .int y2)] → Wi D ad cy o sz Q p l e rmX7_readDegrees s m [.ref (ad 15 0 0)] below meth c H locs (F0 m 76 ls []) := by
    intro S y1 y2 hq H locs ls hX hl
    unfold vc_X7_readDegrees_J76 at hq
    refine lv_aload_n hM.1 hM.2.1 dX7_readDegrees_76 rfl (lv_at hl 0 rfl) ?_
    refine g15 hM hK hX m15 15 (by decide) qf_RX7_38 rfl dX7_readDegrees_77 ?_
    refine lv_aload_n hM.1 hM.2.1 dX7_readDegrees_80 rfl (lv_at hl 0 rfl) ?_
    refine g15 hM hK hX m15 13 (by decide) qf_RX7_161 rfl dX7_readDegrees_81 ?_
    refine lv_iload_n hM.1 hM.2.1 dX7_readDegrees_84 rfl (lv_at hl 1 rfl) ?_
    refine lv_if_eq (tgt := 93) hM.1 hM.2.1 dX7_readDegrees_85 (by decide) (fun c_10 => ?_) (fun c_10 => ?_)
    · replace hq := hq.1 c_10
      refine lv_iload_n hM.1 hM.2.1 dX7_readDegrees_93 rfl (lv_at hl 2 rfl) ?_
      have c_12 := hq.1
      replace hq := hq.2
      refine r_iast hM hK hX m25 (a25 0 0) c_12 dX7_readDegrees_94 (fun S_11 e_13 H locs hX => ?_)
      replace hq := hq S_11 e_13
      refine lv_iconst (v := (1 : Int32)) hM.1 hM.2.1 dX7_readDegrees_95 (by decide) ?_
      exact e_z hM hX hlocks hret rfl hq dX7_readDegrees_96
    replace hq := hq.2 c_10
    refine lv_iload_n hM.1 hM.2.1 dX7_readDegrees_88 rfl (lv_at hl 2 rfl) ?_
    refine lv_ineg hM.1 hM.2.1 dX7_readDegrees_89 ?_
    refine lv_goto (tgt := 94) hM.1 hM.2.1 dX7_readDegrees_90 (by decide) ?_
    have c_15 := hq.1
    replace hq := hq.2
    refine r_iast hM hK hX m25 (a25 0 0) c_15 dX7_readDegrees_94 (fun S_14 e_16 H locs hX => ?_)
    replace hq := hq S_14 e_16
    refine lv_iconst (v := (1 : Int32)) hM.1 hM.2.1 dX7_readDegrees_95 (by decide) ?_
    exact e_z hM hX hlocks hret rfl hq dX7_readDegrees_96
  have J66 : ∀ (S : Mem) (y1 : Int32) (y2 : Int32), vc_X7_readDegrees_J66 Q S y1 y2 → ∀ (H : Heap) (locs : List Loc) (ls : Array Slot), PW D ad cy (AW ad sz) s.heap o S H locs → lv_has ls 3 [(0, .ref (ad 15 0 0)), (1, .int y1), (2, .int y2)] → Wi D ad cy o sz Q p l e rmX7_readDegrees s m [.ref (ad 15 0 0)] below meth c H locs (F0 m 66 ls []) := by
    intro S y1 y2 hq H locs ls hX hl
    unfold vc_X7_readDegrees_J66 at hq
    refine lv_bipush (v := (10 : Int32)) hM.1 hM.2.1 dX7_readDegrees_66 (by decide) ?_
    refine lv_iload_n hM.1 hM.2.1 dX7_readDegrees_68 rfl (lv_at hl 2 rfl) ?_
    refine lv_imul hM.1 hM.2.1 dX7_readDegrees_69 ?_
    refine lv_aload_n hM.1 hM.2.1 dX7_readDegrees_70 rfl (lv_at hl 0 rfl) ?_
    refine cVi (As := []) hM hK hX hA (met_X7_digit l D ad cy S hq) (kX7_digit hM.2.2.2.2 ql_RX7_158 (Nat.le_of_ble_eq_true rfl) (Nat.le_of_ble_eq_true rfl)) (v15 hK hX m15) rfl hl.1 rfl (Nat.le_of_ble_eq_true rfl) dX7_readDegrees_71 ⟨Nat.zero_le _, Nat.zero_le _⟩ (fun S_21 r_22 hq H locs hX => ?_)
    refine lv_iadd hM.1 hM.2.1 dX7_readDegrees_74 ?_
    refine lv_istore_n (lv' := [(2, .int (((10 : Int32) * y2) + r_22)), (0, .ref (ad 15 0 0)), (1, .int y1)]) hM.1 hM.2.1 dX7_readDegrees_75 rfl hl (by decide) rfl (fun ls hl => ?_)
    exact J76 S_21 y1 (((10 : Int32) * y2) + r_22) hq _ _ _ hX (lv_sub hl [1, 2, 0] rfl)
  unfold vc_X7_readDegrees at hq
  refine lv_aload_n hM.1 hM.2.1 dX7_readDegrees_0 rfl (lv_at hl 0 rfl) ?_
  refine lv_bipush (v := (45 : Int32)) hM.1 hM.2.1 dX7_readDegrees_1 (by decide) ?_
  refine lv_bipush (v := (45 : Int32)) hM.1 hM.2.1 dX7_readDegrees_3 (by decide) ?_
  refine cVi (As := [.int (45 : Int32), .int (45 : Int32)]) hM hK hX hA (met_X7_takes l D ad cy S (45 : Int32) (45 : Int32) hq) (kX7_takes hM.2.2.2.2 ql_RX7_154 (Nat.le_of_ble_eq_true rfl) (Nat.le_of_ble_eq_true rfl)) (v15 hK hX m15) rfl hl.1 rfl (Nat.le_of_ble_eq_true rfl) dX7_readDegrees_5 ⟨Nat.zero_le _, Nat.zero_le _⟩ (fun S_1 r_2 hq H locs hX => ?_)
  refine lv_istore_n (lv' := [(1, .int r_2), (0, .ref (ad 15 0 0))]) hM.1 hM.2.1 dX7_readDegrees_8 rfl hl (by decide) rfl (fun ls hl => ?_)
  refine lv_aload_n hM.1 hM.2.1 dX7_readDegrees_9 rfl (lv_at hl 1 rfl) ?_
  refine lv_bipush (v := (48 : Int32)) hM.1 hM.2.1 dX7_readDegrees_10 (by decide) ?_
  refine lv_bipush (v := (57 : Int32)) hM.1 hM.2.1 dX7_readDegrees_12 (by decide) ?_
  refine cVi (As := [.int (48 : Int32), .int (57 : Int32)]) hM hK hX hA (met_X7_takes l D ad cy S_1 (48 : Int32) (57 : Int32) hq) (kX7_takes hM.2.2.2.2 ql_RX7_154 (Nat.le_of_ble_eq_true rfl) (Nat.le_of_ble_eq_true rfl)) (v15 hK hX m15) rfl hl.1 rfl (Nat.le_of_ble_eq_true rfl) dX7_readDegrees_14 ⟨Nat.zero_le _, Nat.zero_le _⟩ (fun S_3 r_4 hq H locs hX => ?_)
  refine lv_if_ne (tgt := 22) hM.1 hM.2.1 dX7_readDegrees_17 (by decide) (fun c_5 => ?_) (fun c_5 => ?_)
  · replace hq := hq.1 c_5
    refine lv_aload_n hM.1 hM.2.1 dX7_readDegrees_22 rfl (lv_at hl 1 rfl) ?_
    refine cVi (As := []) hM hK hX hA (met_X7_digit l D ad cy S_3 hq) (kX7_digit hM.2.2.2.2 ql_RX7_158 (Nat.le_of_ble_eq_true rfl) (Nat.le_of_ble_eq_true rfl)) (v15 hK hX m15) rfl hl.1 rfl (Nat.le_of_ble_eq_true rfl) dX7_readDegrees_23 ⟨Nat.zero_le _, Nat.zero_le _⟩ (fun S_6 r_7 hq H locs hX => ?_)
    refine lv_istore_n (lv' := [(2, .int r_7), (1, .int r_2), (0, .ref (ad 15 0 0))]) hM.1 hM.2.1 dX7_readDegrees_26 rfl hl (by decide) rfl (fun ls hl => ?_)
    refine lv_iload_n hM.1 hM.2.1 dX7_readDegrees_27 rfl (lv_at hl 0 rfl) ?_
    refine lv_iconst (v := (5 : Int32)) hM.1 hM.2.1 dX7_readDegrees_28 (by decide) ?_
    refine lv_icmp_ne (tgt := 46) hM.1 hM.2.1 dX7_readDegrees_29 (by decide) (fun c_8 => ?_) (fun c_8 => ?_)
    · replace hq := hq.1 c_8
      refine lv_iload_n hM.1 hM.2.1 dX7_readDegrees_46 rfl (lv_at hl 0 rfl) ?_
      refine lv_if_le (tgt := 76) hM.1 hM.2.1 dX7_readDegrees_47 (by decide) (fun c_9 => ?_) (fun c_9 => ?_)
      · replace hq := hq.1 c_9
        exact J76 S_6 r_2 r_7 hq _ _ _ hX (lv_sub hl [2, 1, 0] rfl)
      replace hq := hq.2 c_9
      refine lv_iload_n hM.1 hM.2.1 dX7_readDegrees_50 rfl (lv_at hl 0 rfl) ?_
      refine lv_iconst (v := (5 : Int32)) hM.1 hM.2.1 dX7_readDegrees_51 (by decide) ?_
      refine lv_icmp_ge (tgt := 76) hM.1 hM.2.1 dX7_readDegrees_52 (by decide) (fun c_17 => ?_) (fun c_17 => ?_)
      · replace hq := hq.1 c_17
        exact J76 S_6 r_2 r_7 hq _ _ _ hX (lv_sub hl [2, 1, 0] rfl)
      replace hq := hq.2 c_17
      refine lv_aload_n hM.1 hM.2.1 dX7_readDegrees_55 rfl (lv_at hl 2 rfl) ?_
      refine lv_bipush (v := (48 : Int32)) hM.1 hM.2.1 dX7_readDegrees_56 (by decide) ?_
      refine lv_bipush (v := (57 : Int32)) hM.1 hM.2.1 dX7_readDegrees_58 (by decide) ?_
      refine cVi (As := [.int (48 : Int32), .int (57 : Int32)]) hM hK hX hA (met_X7_takes l D ad cy S_6 (48 : Int32) (57 : Int32) hq) (kX7_takes hM.2.2.2.2 ql_RX7_154 (Nat.le_of_ble_eq_true rfl) (Nat.le_of_ble_eq_true rfl)) (v15 hK hX m15) rfl hl.1 rfl (Nat.le_of_ble_eq_true rfl) dX7_readDegrees_60 ⟨Nat.zero_le _, Nat.zero_le _⟩ (fun S_18 r_19 hq H locs hX => ?_)
      refine lv_if_eq (tgt := 76) hM.1 hM.2.1 dX7_readDegrees_63 (by decide) (fun c_20 => ?_) (fun c_20 => ?_)
      · replace hq := hq.1 c_20
        exact J76 S_18 r_2 r_7 hq _ _ _ hX (lv_sub hl [2, 1, 0] rfl)
      replace hq := hq.2 c_20
      exact J66 S_18 r_2 r_7 hq _ _ _ hX (lv_sub hl [2, 1, 0] rfl)
    replace hq := hq.2 c_8
    refine lv_aload_n hM.1 hM.2.1 dX7_readDegrees_32 rfl (lv_at hl 2 rfl) ?_
    refine lv_bipush (v := (48 : Int32)) hM.1 hM.2.1 dX7_readDegrees_33 (by decide) ?_
    refine lv_bipush (v := (48 : Int32)) hM.1 hM.2.1 dX7_readDegrees_35 (by decide) ?_
    refine cVi (As := [.int (48 : Int32), .int (48 : Int32)]) hM hK hX hA (met_X7_takes l D ad cy S_6 (48 : Int32) (48 : Int32) hq) (kX7_takes hM.2.2.2.2 ql_RX7_154 (Nat.le_of_ble_eq_true rfl) (Nat.le_of_ble_eq_true rfl)) (v15 hK hX m15) rfl hl.1 rfl (Nat.le_of_ble_eq_true rfl) dX7_readDegrees_37 ⟨Nat.zero_le _, Nat.zero_le _⟩ (fun S_23 r_24 hq H locs hX => ?_)
    refine lv_if_eq (tgt := 76) hM.1 hM.2.1 dX7_readDegrees_40 (by decide) (fun c_25 => ?_) (fun c_25 => ?_)
    · replace hq := hq.1 c_25
      exact J76 S_23 r_2 r_7 hq _ _ _ hX (lv_sub hl [2, 1, 0] rfl)
    replace hq := hq.2 c_25
    refine lv_goto (tgt := 66) hM.1 hM.2.1 dX7_readDegrees_43 (by decide) ?_
    exact J66 S_23 r_2 r_7 hq _ _ _ hX (lv_sub hl [2, 1, 0] rfl)
  replace hq := hq.2 c_5
  refine lv_iconst (v := (0 : Int32)) hM.1 hM.2.1 dX7_readDegrees_20 (by decide) ?_
  exact e_z hM hX hlocks hret rfl hq dX7_readDegrees_21
def rmX7_readNew : Room := { frames := 2, cells := 0, slots := 0, locals := 45 }
theorem kX7_readNew {R : Room} {s : State} {args : Array Value} {own : String} {index : Nat} (ht : ∀ w ∈ lw_all, w.before args s = true) (hl : Cond.methodLink own index yX7_readNew ∈ lw_all) (hf : rmX7_readNew.frames + 1 ≤ R.frames) (hlo : 8 + (1 + 11) + rmX7_readNew.locals ≤ R.locals) : CallW R s args own RX7 index yX7_readNew cX7_readNew 1 (some Jvm.ClassFile.FieldType.boolean) (wA yX7_readNew cX7_readNew 1 (some Jvm.ClassFile.FieldType.boolean)) rmX7_readNew 0 0 0 := cwV 0 ht (good_V hl qm_yX7_readNew qs_yX7_readNew qi_RX7 qc_yX7_readNew) rfl rfl rfl (by decide +kernel) ⟨hf, hlo⟩
set_option maxRecDepth 100000 in
set_option maxHeartbeats 4000000 in
theorem met_X7_readNew (l : Launch) (D : va_G) (ad : Adr) (cy : Nat → ClassId) (S : Mem) {Q : Mem → Int32 → Prop} (hq : vc_X7_readNew S Q) : Ci l yX7_readNew (wA yX7_readNew cX7_readNew 1 (some Jvm.ClassFile.FieldType.boolean)) rmX7_readNew D ad cy [.ref (ad 15 0 0)] S Q := by
  intro o sz
  refine mkC (own := RX7) (lv := [(0, .ref (ad 15 0 0))]) (by decide) rfl (Nat.le_of_ble_eq_true rfl) rfl ⟨rfl, rfl⟩ ?_
  intro p e s m below meth c ls hsz hM hlocks hret hK hA hX hl
  unfold vc_X7_readNew at hq
  refine lv_aload_n hM.1 hM.2.1 dX7_readNew_0 rfl (lv_at hl 0 rfl) ?_
  refine lv_bipush (v := (48 : Int32)) hM.1 hM.2.1 dX7_readNew_1 (by decide) ?_
  refine lv_bipush (v := (51 : Int32)) hM.1 hM.2.1 dX7_readNew_3 (by decide) ?_
  refine cVi (As := [.int (48 : Int32), .int (51 : Int32)]) hM hK hX hA (met_X7_takes l D ad cy S (48 : Int32) (51 : Int32) hq) (kX7_takes hM.2.2.2.2 ql_RX7_154 (Nat.le_of_ble_eq_true rfl) (Nat.le_of_ble_eq_true rfl)) (v15 hK hX m15) rfl hl.1 rfl (Nat.le_of_ble_eq_true rfl) dX7_readNew_5 ⟨Nat.zero_le _, Nat.zero_le _⟩ (fun S_1 r_2 hq H locs hX => ?_)
  refine lv_if_ne (tgt := 13) hM.1 hM.2.1 dX7_readNew_8 (by decide) (fun c_3 => ?_) (fun c_3 => ?_)
  · replace hq := hq.1 c_3
    refine lv_aload_n hM.1 hM.2.1 dX7_readNew_13 rfl (lv_at hl 0 rfl) ?_
    refine g15 hM hK hX m15 15 (by decide) qf_RX7_38 rfl dX7_readNew_14 ?_
    refine lv_aload_n hM.1 hM.2.1 dX7_readNew_17 rfl (lv_at hl 0 rfl) ?_
    refine g15 hM hK hX m15 13 (by decide) qf_RX7_161 rfl dX7_readNew_18 ?_
    refine lv_aload_n hM.1 hM.2.1 dX7_readNew_21 rfl (lv_at hl 0 rfl) ?_
    refine cVi (As := []) hM hK hX hA (met_X7_digit l D ad cy S_1 hq) (kX7_digit hM.2.2.2.2 ql_RX7_158 (Nat.le_of_ble_eq_true rfl) (Nat.le_of_ble_eq_true rfl)) (v15 hK hX m15) rfl hl.1 rfl (Nat.le_of_ble_eq_true rfl) dX7_readNew_22 ⟨Nat.zero_le _, Nat.zero_le _⟩ (fun S_4 r_5 hq H locs hX => ?_)
    have c_7 := hq.1
    replace hq := hq.2
    refine r_iast hM hK hX m25 (a25 0 0) c_7 dX7_readNew_25 (fun S_6 e_8 H locs hX => ?_)
    replace hq := hq S_6 e_8
    refine lv_aload_n hM.1 hM.2.1 dX7_readNew_26 rfl (lv_at hl 0 rfl) ?_
    refine lv_bipush (v := (44 : Int32)) hM.1 hM.2.1 dX7_readNew_27 (by decide) ?_
    refine lv_bipush (v := (44 : Int32)) hM.1 hM.2.1 dX7_readNew_29 (by decide) ?_
    refine cVi (As := [.int (44 : Int32), .int (44 : Int32)]) hM hK hX hA (met_X7_takes l D ad cy S_6 (44 : Int32) (44 : Int32) hq) (kX7_takes hM.2.2.2.2 ql_RX7_154 (Nat.le_of_ble_eq_true rfl) (Nat.le_of_ble_eq_true rfl)) (v15 hK hX m15) rfl hl.1 rfl (Nat.le_of_ble_eq_true rfl) dX7_readNew_31 ⟨Nat.zero_le _, Nat.zero_le _⟩ (fun S_9 r_10 hq H locs hX => ?_)
    refine lv_if_eq (tgt := 48) hM.1 hM.2.1 dX7_readNew_34 (by decide) (fun c_11 => ?_) (fun c_11 => ?_)
    · replace hq := hq.1 c_11
      refine lv_iconst (v := (0 : Int32)) hM.1 hM.2.1 dX7_readNew_48 (by decide) ?_
      exact e_z hM hX hlocks hret rfl hq dX7_readNew_49
    replace hq := hq.2 c_11
    refine lv_aload_n hM.1 hM.2.1 dX7_readNew_37 rfl (lv_at hl 0 rfl) ?_
    refine lv_bipush (v := (49 : Int32)) hM.1 hM.2.1 dX7_readNew_38 (by decide) ?_
    refine lv_bipush (v := (57 : Int32)) hM.1 hM.2.1 dX7_readNew_40 (by decide) ?_
    refine cVi (As := [.int (49 : Int32), .int (57 : Int32)]) hM hK hX hA (met_X7_takes l D ad cy S_9 (49 : Int32) (57 : Int32) hq) (kX7_takes hM.2.2.2.2 ql_RX7_154 (Nat.le_of_ble_eq_true rfl) (Nat.le_of_ble_eq_true rfl)) (v15 hK hX m15) rfl hl.1 rfl (Nat.le_of_ble_eq_true rfl) dX7_readNew_42 ⟨Nat.zero_le _, Nat.zero_le _⟩ (fun S_12 r_13 hq H locs hX => ?_)
    refine lv_if_ne (tgt := 50) hM.1 hM.2.1 dX7_readNew_45 (by decide) (fun c_14 => ?_) (fun c_14 => ?_)
    · replace hq := hq.1 c_14
      refine lv_aload_n hM.1 hM.2.1 dX7_readNew_50 rfl (lv_at hl 0 rfl) ?_
      refine g15 hM hK hX m15 16 (by decide) qf_RX7_41 rfl dX7_readNew_51 ?_
      refine lv_aload_n hM.1 hM.2.1 dX7_readNew_54 rfl (lv_at hl 0 rfl) ?_
      refine g15 hM hK hX m15 13 (by decide) qf_RX7_161 rfl dX7_readNew_55 ?_
      refine lv_aload_n hM.1 hM.2.1 dX7_readNew_58 rfl (lv_at hl 0 rfl) ?_
      refine cVi (As := []) hM hK hX hA (met_X7_digit l D ad cy S_12 hq) (kX7_digit hM.2.2.2.2 ql_RX7_158 (Nat.le_of_ble_eq_true rfl) (Nat.le_of_ble_eq_true rfl)) (v15 hK hX m15) rfl hl.1 rfl (Nat.le_of_ble_eq_true rfl) dX7_readNew_59 ⟨Nat.zero_le _, Nat.zero_le _⟩ (fun S_15 r_16 hq H locs hX => ?_)
      have c_18 := hq.1
      replace hq := hq.2
      refine r_iast hM hK hX m26 (a26 0 0) c_18 dX7_readNew_62 (fun S_17 e_19 H locs hX => ?_)
      replace hq := hq S_17 e_19
      refine lv_aload_n hM.1 hM.2.1 dX7_readNew_63 rfl (lv_at hl 0 rfl) ?_
      refine g15 hM hK hX m15 17 (by decide) qf_RX7_44 rfl dX7_readNew_64 ?_
      refine lv_aload_n hM.1 hM.2.1 dX7_readNew_67 rfl (lv_at hl 0 rfl) ?_
      refine g15 hM hK hX m15 13 (by decide) qf_RX7_161 rfl dX7_readNew_68 ?_
      refine lv_iconst (v := (1 : Int32)) hM.1 hM.2.1 dX7_readNew_71 (by decide) ?_
      have c_21 := hq.1
      replace hq := hq.2
      refine r_iast hM hK hX m27 (a27 0 0) c_21 dX7_readNew_72 (fun S_20 e_22 H locs hX => ?_)
      replace hq := hq S_20 e_22
      refine lv_aload_n hM.1 hM.2.1 dX7_readNew_73 rfl (lv_at hl 0 rfl) ?_
      refine lv_bipush (v := (42 : Int32)) hM.1 hM.2.1 dX7_readNew_74 (by decide) ?_
      refine lv_bipush (v := (42 : Int32)) hM.1 hM.2.1 dX7_readNew_76 (by decide) ?_
      refine cVi (As := [.int (42 : Int32), .int (42 : Int32)]) hM hK hX hA (met_X7_takes l D ad cy S_20 (42 : Int32) (42 : Int32) hq) (kX7_takes hM.2.2.2.2 ql_RX7_154 (Nat.le_of_ble_eq_true rfl) (Nat.le_of_ble_eq_true rfl)) (v15 hK hX m15) rfl hl.1 rfl (Nat.le_of_ble_eq_true rfl) dX7_readNew_78 ⟨Nat.zero_le _, Nat.zero_le _⟩ (fun S_23 r_24 hq H locs hX => ?_)
      refine lv_if_eq (tgt := 110) hM.1 hM.2.1 dX7_readNew_81 (by decide) (fun c_25 => ?_) (fun c_25 => ?_)
      · replace hq := hq.1 c_25
        refine lv_iconst (v := (1 : Int32)) hM.1 hM.2.1 dX7_readNew_110 (by decide) ?_
        exact e_z hM hX hlocks hret rfl hq dX7_readNew_111
      replace hq := hq.2 c_25
      refine lv_aload_n hM.1 hM.2.1 dX7_readNew_84 rfl (lv_at hl 0 rfl) ?_
      refine lv_bipush (v := (49 : Int32)) hM.1 hM.2.1 dX7_readNew_85 (by decide) ?_
      refine lv_bipush (v := (53 : Int32)) hM.1 hM.2.1 dX7_readNew_87 (by decide) ?_
      refine cVi (As := [.int (49 : Int32), .int (53 : Int32)]) hM hK hX hA (met_X7_takes l D ad cy S_23 (49 : Int32) (53 : Int32) hq) (kX7_takes hM.2.2.2.2 ql_RX7_154 (Nat.le_of_ble_eq_true rfl) (Nat.le_of_ble_eq_true rfl)) (v15 hK hX m15) rfl hl.1 rfl (Nat.le_of_ble_eq_true rfl) dX7_readNew_89 ⟨Nat.zero_le _, Nat.zero_le _⟩ (fun S_26 r_27 hq H locs hX => ?_)
      refine lv_if_ne (tgt := 97) hM.1 hM.2.1 dX7_readNew_92 (by decide) (fun c_28 => ?_) (fun c_28 => ?_)
      · replace hq := hq.1 c_28
        refine lv_aload_n hM.1 hM.2.1 dX7_readNew_97 rfl (lv_at hl 0 rfl) ?_
        refine g15 hM hK hX m15 17 (by decide) qf_RX7_44 rfl dX7_readNew_98 ?_
        refine lv_aload_n hM.1 hM.2.1 dX7_readNew_101 rfl (lv_at hl 0 rfl) ?_
        refine g15 hM hK hX m15 13 (by decide) qf_RX7_161 rfl dX7_readNew_102 ?_
        refine lv_aload_n hM.1 hM.2.1 dX7_readNew_105 rfl (lv_at hl 0 rfl) ?_
        refine cVi (As := []) hM hK hX hA (met_X7_digit l D ad cy S_26 hq) (kX7_digit hM.2.2.2.2 ql_RX7_158 (Nat.le_of_ble_eq_true rfl) (Nat.le_of_ble_eq_true rfl)) (v15 hK hX m15) rfl hl.1 rfl (Nat.le_of_ble_eq_true rfl) dX7_readNew_106 ⟨Nat.zero_le _, Nat.zero_le _⟩ (fun S_29 r_30 hq H locs hX => ?_)
        have c_32 := hq.1
        replace hq := hq.2
        refine r_iast hM hK hX m27 (a27 0 0) c_32 dX7_readNew_109 (fun S_31 e_33 H locs hX => ?_)
        replace hq := hq S_31 e_33
        refine lv_iconst (v := (1 : Int32)) hM.1 hM.2.1 dX7_readNew_110 (by decide) ?_
        exact e_z hM hX hlocks hret rfl hq dX7_readNew_111
      replace hq := hq.2 c_28
      refine lv_iconst (v := (0 : Int32)) hM.1 hM.2.1 dX7_readNew_95 (by decide) ?_
      exact e_z hM hX hlocks hret rfl hq dX7_readNew_96
    replace hq := hq.2 c_14
    refine lv_iconst (v := (0 : Int32)) hM.1 hM.2.1 dX7_readNew_48 (by decide) ?_
    exact e_z hM hX hlocks hret rfl hq dX7_readNew_49
  replace hq := hq.2 c_3
  refine lv_iconst (v := (0 : Int32)) hM.1 hM.2.1 dX7_readNew_11 (by decide) ?_
  exact e_z hM hX hlocks hret rfl hq dX7_readNew_12
def rmX7_readPeriod : Room := { frames := 2, cells := 0, slots := 0, locals := 45 }
theorem kX7_readPeriod {R : Room} {s : State} {args : Array Value} {own : String} {index : Nat} (ht : ∀ w ∈ lw_all, w.before args s = true) (hl : Cond.methodLink own index yX7_readPeriod ∈ lw_all) (hf : rmX7_readPeriod.frames + 1 ≤ R.frames) (hlo : 8 + (1 + 11) + rmX7_readPeriod.locals ≤ R.locals) : CallW R s args own RX7 index yX7_readPeriod cX7_readPeriod 1 (some Jvm.ClassFile.FieldType.boolean) (wA yX7_readPeriod cX7_readPeriod 1 (some Jvm.ClassFile.FieldType.boolean)) rmX7_readPeriod 0 0 0 := cwV 0 ht (good_V hl qm_yX7_readPeriod qs_yX7_readPeriod qi_RX7 qc_yX7_readPeriod) rfl rfl rfl (by decide +kernel) ⟨hf, hlo⟩
set_option maxRecDepth 100000 in
set_option maxHeartbeats 4000000 in
theorem met_X7_readPeriod (l : Launch) (D : va_G) (ad : Adr) (cy : Nat → ClassId) (S : Mem) {Q : Mem → Int32 → Prop} (hq : vc_X7_readPeriod S Q) : Ci l yX7_readPeriod (wA yX7_readPeriod cX7_readPeriod 1 (some Jvm.ClassFile.FieldType.boolean)) rmX7_readPeriod D ad cy [.ref (ad 15 0 0)] S Q := by
  intro o sz
  refine mkC (own := RX7) (lv := [(0, .ref (ad 15 0 0))]) (by decide) rfl (Nat.le_of_ble_eq_true rfl) rfl ⟨rfl, rfl⟩ ?_
  intro p e s m below meth c ls hsz hM hlocks hret hK hA hX hl
  unfold vc_X7_readPeriod at hq
  refine lv_aload_n hM.1 hM.2.1 dX7_readPeriod_0 rfl (lv_at hl 0 rfl) ?_
  refine lv_bipush (v := (48 : Int32)) hM.1 hM.2.1 dX7_readPeriod_1 (by decide) ?_
  refine lv_bipush (v := (51 : Int32)) hM.1 hM.2.1 dX7_readPeriod_3 (by decide) ?_
  refine cVi (As := [.int (48 : Int32), .int (51 : Int32)]) hM hK hX hA (met_X7_takes l D ad cy S (48 : Int32) (51 : Int32) hq) (kX7_takes hM.2.2.2.2 ql_RX7_154 (Nat.le_of_ble_eq_true rfl) (Nat.le_of_ble_eq_true rfl)) (v15 hK hX m15) rfl hl.1 rfl (Nat.le_of_ble_eq_true rfl) dX7_readPeriod_5 ⟨Nat.zero_le _, Nat.zero_le _⟩ (fun S_1 r_2 hq H locs hX => ?_)
  refine lv_if_ne (tgt := 13) hM.1 hM.2.1 dX7_readPeriod_8 (by decide) (fun c_3 => ?_) (fun c_3 => ?_)
  · replace hq := hq.1 c_3
    refine lv_aload_n hM.1 hM.2.1 dX7_readPeriod_13 rfl (lv_at hl 0 rfl) ?_
    refine g15 hM hK hX m15 15 (by decide) qf_RX7_38 rfl dX7_readPeriod_14 ?_
    refine lv_aload_n hM.1 hM.2.1 dX7_readPeriod_17 rfl (lv_at hl 0 rfl) ?_
    refine g15 hM hK hX m15 13 (by decide) qf_RX7_161 rfl dX7_readPeriod_18 ?_
    refine lv_aload_n hM.1 hM.2.1 dX7_readPeriod_21 rfl (lv_at hl 0 rfl) ?_
    refine cVi (As := []) hM hK hX hA (met_X7_digit l D ad cy S_1 hq) (kX7_digit hM.2.2.2.2 ql_RX7_158 (Nat.le_of_ble_eq_true rfl) (Nat.le_of_ble_eq_true rfl)) (v15 hK hX m15) rfl hl.1 rfl (Nat.le_of_ble_eq_true rfl) dX7_readPeriod_22 ⟨Nat.zero_le _, Nat.zero_le _⟩ (fun S_4 r_5 hq H locs hX => ?_)
    have c_7 := hq.1
    replace hq := hq.2
    refine r_iast hM hK hX m25 (a25 0 0) c_7 dX7_readPeriod_25 (fun S_6 e_8 H locs hX => ?_)
    replace hq := hq S_6 e_8
    refine lv_aload_n hM.1 hM.2.1 dX7_readPeriod_26 rfl (lv_at hl 0 rfl) ?_
    refine lv_bipush (v := (47 : Int32)) hM.1 hM.2.1 dX7_readPeriod_27 (by decide) ?_
    refine lv_bipush (v := (47 : Int32)) hM.1 hM.2.1 dX7_readPeriod_29 (by decide) ?_
    refine cVi (As := [.int (47 : Int32), .int (47 : Int32)]) hM hK hX hA (met_X7_takes l D ad cy S_6 (47 : Int32) (47 : Int32) hq) (kX7_takes hM.2.2.2.2 ql_RX7_154 (Nat.le_of_ble_eq_true rfl) (Nat.le_of_ble_eq_true rfl)) (v15 hK hX m15) rfl hl.1 rfl (Nat.le_of_ble_eq_true rfl) dX7_readPeriod_31 ⟨Nat.zero_le _, Nat.zero_le _⟩ (fun S_9 r_10 hq H locs hX => ?_)
    refine lv_if_eq (tgt := 48) hM.1 hM.2.1 dX7_readPeriod_34 (by decide) (fun c_11 => ?_) (fun c_11 => ?_)
    · replace hq := hq.1 c_11
      refine lv_iconst (v := (0 : Int32)) hM.1 hM.2.1 dX7_readPeriod_48 (by decide) ?_
      exact e_z hM hX hlocks hret rfl hq dX7_readPeriod_49
    replace hq := hq.2 c_11
    refine lv_aload_n hM.1 hM.2.1 dX7_readPeriod_37 rfl (lv_at hl 0 rfl) ?_
    refine lv_bipush (v := (49 : Int32)) hM.1 hM.2.1 dX7_readPeriod_38 (by decide) ?_
    refine lv_bipush (v := (54 : Int32)) hM.1 hM.2.1 dX7_readPeriod_40 (by decide) ?_
    refine cVi (As := [.int (49 : Int32), .int (54 : Int32)]) hM hK hX hA (met_X7_takes l D ad cy S_9 (49 : Int32) (54 : Int32) hq) (kX7_takes hM.2.2.2.2 ql_RX7_154 (Nat.le_of_ble_eq_true rfl) (Nat.le_of_ble_eq_true rfl)) (v15 hK hX m15) rfl hl.1 rfl (Nat.le_of_ble_eq_true rfl) dX7_readPeriod_42 ⟨Nat.zero_le _, Nat.zero_le _⟩ (fun S_12 r_13 hq H locs hX => ?_)
    refine lv_if_ne (tgt := 50) hM.1 hM.2.1 dX7_readPeriod_45 (by decide) (fun c_14 => ?_) (fun c_14 => ?_)
    · replace hq := hq.1 c_14
      refine lv_aload_n hM.1 hM.2.1 dX7_readPeriod_50 rfl (lv_at hl 0 rfl) ?_
      refine g15 hM hK hX m15 16 (by decide) qf_RX7_41 rfl dX7_readPeriod_51 ?_
      refine lv_aload_n hM.1 hM.2.1 dX7_readPeriod_54 rfl (lv_at hl 0 rfl) ?_
      refine g15 hM hK hX m15 13 (by decide) qf_RX7_161 rfl dX7_readPeriod_55 ?_
      refine lv_aload_n hM.1 hM.2.1 dX7_readPeriod_58 rfl (lv_at hl 0 rfl) ?_
      refine cVi (As := []) hM hK hX hA (met_X7_digit l D ad cy S_12 hq) (kX7_digit hM.2.2.2.2 ql_RX7_158 (Nat.le_of_ble_eq_true rfl) (Nat.le_of_ble_eq_true rfl)) (v15 hK hX m15) rfl hl.1 rfl (Nat.le_of_ble_eq_true rfl) dX7_readPeriod_59 ⟨Nat.zero_le _, Nat.zero_le _⟩ (fun S_15 r_16 hq H locs hX => ?_)
      have c_18 := hq.1
      replace hq := hq.2
      refine r_iast hM hK hX m26 (a26 0 0) c_18 dX7_readPeriod_62 (fun S_17 e_19 H locs hX => ?_)
      replace hq := hq S_17 e_19
      refine lv_iconst (v := (1 : Int32)) hM.1 hM.2.1 dX7_readPeriod_63 (by decide) ?_
      exact e_z hM hX hlocks hret rfl hq dX7_readPeriod_64
    replace hq := hq.2 c_14
    refine lv_iconst (v := (0 : Int32)) hM.1 hM.2.1 dX7_readPeriod_48 (by decide) ?_
    exact e_z hM hX hlocks hret rfl hq dX7_readPeriod_49
  replace hq := hq.2 c_3
  refine lv_iconst (v := (0 : Int32)) hM.1 hM.2.1 dX7_readPeriod_11 (by decide) ?_
  exact e_z hM hX hlocks hret rfl hq dX7_readPeriod_12
def rmX7_readCalibrated : Room := { frames := 2, cells := 0, slots := 0, locals := 45 }
theorem kX7_readCalibrated {R : Room} {s : State} {args : Array Value} {own : String} {index : Nat} (ht : ∀ w ∈ lw_all, w.before args s = true) (hl : Cond.methodLink own index yX7_readCalibrated ∈ lw_all) (hf : rmX7_readCalibrated.frames + 1 ≤ R.frames) (hlo : 8 + (1 + 11) + rmX7_readCalibrated.locals ≤ R.locals) : CallW R s args own RX7 index yX7_readCalibrated cX7_readCalibrated 1 (some Jvm.ClassFile.FieldType.boolean) (wA yX7_readCalibrated cX7_readCalibrated 1 (some Jvm.ClassFile.FieldType.boolean)) rmX7_readCalibrated 0 0 0 := cwV 0 ht (good_V hl qm_yX7_readCalibrated qs_yX7_readCalibrated qi_RX7 qc_yX7_readCalibrated) rfl rfl rfl (by decide +kernel) ⟨hf, hlo⟩
set_option maxRecDepth 100000 in
set_option maxHeartbeats 4000000 in
theorem met_X7_readCalibrated (l : Launch) (D : va_G) (ad : Adr) (cy : Nat → ClassId) (S : Mem) {Q : Mem → Int32 → Prop} (hq : vc_X7_readCalibrated S Q) : Ci l yX7_readCalibrated (wA yX7_readCalibrated cX7_readCalibrated 1 (some Jvm.ClassFile.FieldType.boolean)) rmX7_readCalibrated D ad cy [.ref (ad 15 0 0)] S Q := by
  intro o sz
  refine mkC (own := RX7) (lv := [(0, .ref (ad 15 0 0))]) (by decide) rfl (Nat.le_of_ble_eq_true rfl) rfl ⟨rfl, rfl⟩ ?_
  intro p e s m below meth c ls hsz hM hlocks hret hK hA hX hl
  unfold vc_X7_readCalibrated at hq
  refine lv_aload_n hM.1 hM.2.1 dX7_readCalibrated_0 rfl (lv_at hl 0 rfl) ?_
  refine lv_bipush (v := (48 : Int32)) hM.1 hM.2.1 dX7_readCalibrated_1 (by decide) ?_
  refine lv_bipush (v := (57 : Int32)) hM.1 hM.2.1 dX7_readCalibrated_3 (by decide) ?_
  refine cVi (As := [.int (48 : Int32), .int (57 : Int32)]) hM hK hX hA (met_X7_takes l D ad cy S (48 : Int32) (57 : Int32) hq) (kX7_takes hM.2.2.2.2 ql_RX7_154 (Nat.le_of_ble_eq_true rfl) (Nat.le_of_ble_eq_true rfl)) (v15 hK hX m15) rfl hl.1 rfl (Nat.le_of_ble_eq_true rfl) dX7_readCalibrated_5 ⟨Nat.zero_le _, Nat.zero_le _⟩ (fun S_1 r_2 hq H locs hX => ?_)
  refine lv_if_ne (tgt := 13) hM.1 hM.2.1 dX7_readCalibrated_8 (by decide) (fun c_3 => ?_) (fun c_3 => ?_)
  · replace hq := hq.1 c_3
    refine lv_aload_n hM.1 hM.2.1 dX7_readCalibrated_13 rfl (lv_at hl 0 rfl) ?_
    refine g15 hM hK hX m15 15 (by decide) qf_RX7_38 rfl dX7_readCalibrated_14 ?_
    refine lv_aload_n hM.1 hM.2.1 dX7_readCalibrated_17 rfl (lv_at hl 0 rfl) ?_
    refine g15 hM hK hX m15 13 (by decide) qf_RX7_161 rfl dX7_readCalibrated_18 ?_
    refine lv_aload_n hM.1 hM.2.1 dX7_readCalibrated_21 rfl (lv_at hl 0 rfl) ?_
    refine cVi (As := []) hM hK hX hA (met_X7_digit l D ad cy S_1 hq) (kX7_digit hM.2.2.2.2 ql_RX7_158 (Nat.le_of_ble_eq_true rfl) (Nat.le_of_ble_eq_true rfl)) (v15 hK hX m15) rfl hl.1 rfl (Nat.le_of_ble_eq_true rfl) dX7_readCalibrated_22 ⟨Nat.zero_le _, Nat.zero_le _⟩ (fun S_4 r_5 hq H locs hX => ?_)
    have c_7 := hq.1
    replace hq := hq.2
    refine r_iast hM hK hX m25 (a25 0 0) c_7 dX7_readCalibrated_25 (fun S_6 e_8 H locs hX => ?_)
    replace hq := hq S_6 e_8
    refine lv_iconst (v := (1 : Int32)) hM.1 hM.2.1 dX7_readCalibrated_26 (by decide) ?_
    exact e_z hM hX hlocks hret rfl hq dX7_readCalibrated_27
  replace hq := hq.2 c_3
  refine lv_iconst (v := (0 : Int32)) hM.1 hM.2.1 dX7_readCalibrated_11 (by decide) ?_
  exact e_z hM hX hlocks hret rfl hq dX7_readCalibrated_12
def rmX7_readOrder : Room := { frames := 3, cells := 0, slots := 0, locals := 67 }
theorem kX7_readOrder {R : Room} {s : State} {args : Array Value} {own : String} {index : Nat} (ht : ∀ w ∈ lw_all, w.before args s = true) (hl : Cond.methodLink own index yX7_readOrder ∈ lw_all) (hf : rmX7_readOrder.frames + 1 ≤ R.frames) (hlo : 8 + (3 + 11) + rmX7_readOrder.locals ≤ R.locals) : CallW R s args own RX7 index yX7_readOrder cX7_readOrder 3 (some Jvm.ClassFile.FieldType.boolean) (wA yX7_readOrder cX7_readOrder 3 (some Jvm.ClassFile.FieldType.boolean)) rmX7_readOrder 0 0 0 := cwV 0 ht (good_V hl qm_yX7_readOrder qs_yX7_readOrder qi_RX7 qc_yX7_readOrder) rfl rfl rfl (by decide +kernel) ⟨hf, hlo⟩
set_option maxRecDepth 100000 in
set_option maxHeartbeats 4000000 in
theorem met_X7_readOrder (l : Launch) (D : va_G) (ad : Adr) (cy : Nat → ClassId) (S : Mem) {Q : Mem → Int32 → Prop} (hq : vc_X7_readOrder S Q) : Ci l yX7_readOrder (wA yX7_readOrder cX7_readOrder 3 (some Jvm.ClassFile.FieldType.boolean)) rmX7_readOrder D ad cy [.ref (ad 15 0 0)] S Q := by
  intro o sz
  refine mkC (own := RX7) (lv := [(0, .ref (ad 15 0 0))]) (by decide) rfl (Nat.le_of_ble_eq_true rfl) rfl ⟨rfl, rfl⟩ ?_
  intro p e s m below meth c ls hsz hM hlocks hret hK hA hX hl
  have J137 : ∀ (S : Mem) (y1 : Int32) (w0 : Int32), vc_X7_readOrder_J137 Q S y1 w0 → ∀ (H : Heap) (locs : List Loc) (ls : Array Slot), PW D ad cy (AW ad sz) s.heap o S H locs → lv_has ls 3 [(0, .ref (ad 15 0 0)), (1, .int y1)] → Wi D ad cy o sz Q p l e rmX7_readOrder s m [.ref (ad 15 0 0)] below meth c H locs (F0 m 137 ls [.int w0]) := by
    intro S y1 w0 hq H locs ls hX hl
    unfold vc_X7_readOrder_J137 at hq
    refine lv_istore_n (lv' := [(2, .int w0), (0, .ref (ad 15 0 0)), (1, .int y1)]) hM.1 hM.2.1 dX7_readOrder_137 rfl hl (by decide) rfl (fun ls hl => ?_)
    refine lv_iload_n hM.1 hM.2.1 dX7_readOrder_138 rfl (lv_at hl 0 rfl) ?_
    refine lv_if_eq (tgt := 162) hM.1 hM.2.1 dX7_readOrder_139 (by decide) (fun c_7 => ?_) (fun c_7 => ?_)
    · replace hq := hq.1 c_7
      refine lv_iload_n hM.1 hM.2.1 dX7_readOrder_162 rfl (lv_at hl 0 rfl) ?_
      exact e_z hM hX hlocks hret (nar_z hq.1).1 hq.2 dX7_readOrder_163
    replace hq := hq.2 c_7
    refine lv_aload_n hM.1 hM.2.1 dX7_readOrder_142 rfl (lv_at hl 1 rfl) ?_
    refine g15 hM hK hX m15 14 (by decide) qf_RX7_35 rfl dX7_readOrder_143 ?_
    refine lv_aload_n hM.1 hM.2.1 dX7_readOrder_146 rfl (lv_at hl 1 rfl) ?_
    refine g15 hM hK hX m15 13 (by decide) qf_RX7_161 rfl dX7_readOrder_147 ?_
    refine lv_iload_n hM.1 hM.2.1 dX7_readOrder_150 rfl (lv_at hl 2 rfl) ?_
    have c_9 := hq.1
    replace hq := hq.2
    refine r_iast hM hK hX m24 (a24 0 0) c_9 dX7_readOrder_151 (fun S_8 e_10 H locs hX => ?_)
    replace hq := hq S_8 e_10
    refine lv_aload_n hM.1 hM.2.1 dX7_readOrder_152 rfl (lv_at hl 1 rfl) ?_
    refine lv_dup hM.1 hM.2.1 dX7_readOrder_153 rfl ?_
    refine g15 hM hK hX m15 13 (by decide) qf_RX7_161 rfl dX7_readOrder_154 ?_
    refine lv_iconst (v := (1 : Int32)) hM.1 hM.2.1 dX7_readOrder_157 (by decide) ?_
    refine lv_iadd hM.1 hM.2.1 dX7_readOrder_158 ?_
    refine p15_13 hM hK hX m15 qf_RX7_161 dX7_readOrder_159 (fun S_11 e_12 H locs hX => ?_)
    replace hq := hq S_11 e_12
    refine lv_iload_n hM.1 hM.2.1 dX7_readOrder_162 rfl (lv_at hl 0 rfl) ?_
    exact e_z hM hX hlocks hret (nar_z hq.1).1 hq.2 dX7_readOrder_163
  have J136 : ∀ (S : Mem) (y1 : Int32), vc_X7_readOrder_J136 Q S y1 → ∀ (H : Heap) (locs : List Loc) (ls : Array Slot), PW D ad cy (AW ad sz) s.heap o S H locs → lv_has ls 3 [(0, .ref (ad 15 0 0)), (1, .int y1)] → Wi D ad cy o sz Q p l e rmX7_readOrder s m [.ref (ad 15 0 0)] below meth c H locs (F0 m 136 ls []) := by
    intro S y1 hq H locs ls hX hl
    unfold vc_X7_readOrder_J136 at hq
    refine lv_iconst (v := (0 : Int32)) hM.1 hM.2.1 dX7_readOrder_136 (by decide) ?_
    exact J137 S y1 (0 : Int32) hq _ _ _ hX (lv_sub hl [0, 1] rfl)
  have J132 : ∀ (S : Mem) (y1 : Int32), vc_X7_readOrder_J132 Q S y1 → ∀ (H : Heap) (locs : List Loc) (ls : Array Slot), PW D ad cy (AW ad sz) s.heap o S H locs → lv_has ls 3 [(0, .ref (ad 15 0 0)), (1, .int y1)] → Wi D ad cy o sz Q p l e rmX7_readOrder s m [.ref (ad 15 0 0)] below meth c H locs (F0 m 132 ls []) := by
    intro S y1 hq H locs ls hX hl
    unfold vc_X7_readOrder_J132 at hq
    refine lv_iconst (v := (1 : Int32)) hM.1 hM.2.1 dX7_readOrder_132 (by decide) ?_
    refine lv_goto (tgt := 137) hM.1 hM.2.1 dX7_readOrder_133 (by decide) ?_
    exact J137 S y1 (1 : Int32) hq _ _ _ hX (lv_sub hl [0, 1] rfl)
  have J69 : ∀ (S : Mem) (y1 : Int32) (y2 : Int32) (w1 : Int32) (w2 : Int32), vc_X7_readOrder_J69 Q S y1 y2 w1 w2 → ∀ (H : Heap) (locs : List Loc) (ls : Array Slot), PW D ad cy (AW ad sz) s.heap o S H locs → lv_has ls 3 [(0, .ref (ad 15 0 0)), (1, .int y1), (2, .int y2)] → Wi D ad cy o sz Q p l e rmX7_readOrder s m [.ref (ad 15 0 0)] below meth c H locs (F0 m 69 ls [.int w2, .int w1, .ref (ad 15 0 0)]) := by
    intro S y1 y2 w1 w2 hq H locs ls hX hl
    unfold vc_X7_readOrder_J69 at hq
    refine lv_iadd hM.1 hM.2.1 dX7_readOrder_69 ?_
    refine p15_12 hM hK hX m15 qf_RX7_151 dX7_readOrder_70 (fun S_4 e_5 H locs hX => ?_)
    replace hq := hq S_4 e_5
    refine lv_iload_n hM.1 hM.2.1 dX7_readOrder_73 rfl (lv_at hl 2 rfl) ?_
    refine lv_if_eq (tgt := 136) hM.1 hM.2.1 dX7_readOrder_74 (by decide) (fun c_6 => ?_) (fun c_6 => ?_)
    · replace hq := hq.1 c_6
      exact J136 S_4 y1 hq _ _ _ hX (lv_sub hl [0, 1] rfl)
    replace hq := hq.2 c_6
    refine lv_iload_n hM.1 hM.2.1 dX7_readOrder_77 rfl (lv_at hl 1 rfl) ?_
    refine lv_bipush (v := (116 : Int32)) hM.1 hM.2.1 dX7_readOrder_78 (by decide) ?_
    refine lv_icmp_ne (tgt := 93) hM.1 hM.2.1 dX7_readOrder_80 (by decide) (fun c_13 => ?_) (fun c_13 => ?_)
    · replace hq := hq.1 c_13
      refine lv_iload_n hM.1 hM.2.1 dX7_readOrder_93 rfl (lv_at hl 1 rfl) ?_
      refine lv_bipush (v := (104 : Int32)) hM.1 hM.2.1 dX7_readOrder_94 (by decide) ?_
      refine lv_icmp_ne (tgt := 109) hM.1 hM.2.1 dX7_readOrder_96 (by decide) (fun c_14 => ?_) (fun c_14 => ?_)
      · replace hq := hq.1 c_14
        refine lv_iload_n hM.1 hM.2.1 dX7_readOrder_109 rfl (lv_at hl 1 rfl) ?_
        refine lv_bipush (v := (112 : Int32)) hM.1 hM.2.1 dX7_readOrder_110 (by decide) ?_
        refine lv_icmp_ne (tgt := 125) hM.1 hM.2.1 dX7_readOrder_112 (by decide) (fun c_15 => ?_) (fun c_15 => ?_)
        · replace hq := hq.1 c_15
          refine lv_aload_n hM.1 hM.2.1 dX7_readOrder_125 rfl (lv_at hl 0 rfl) ?_
          refine cVi (As := []) hM hK hX hA (met_X7_readCalibrated l D ad cy S_4 hq) (kX7_readCalibrated hM.2.2.2.2 ql_RX7_174 (Nat.le_of_ble_eq_true rfl) (Nat.le_of_ble_eq_true rfl)) (v15 hK hX m15) rfl hl.1 rfl (Nat.le_of_ble_eq_true rfl) dX7_readOrder_126 ⟨Nat.zero_le _, Nat.zero_le _⟩ (fun S_16 r_17 hq H locs hX => ?_)
          refine lv_if_eq (tgt := 136) hM.1 hM.2.1 dX7_readOrder_129 (by decide) (fun c_18 => ?_) (fun c_18 => ?_)
          · replace hq := hq.1 c_18
            exact J136 S_16 y1 hq _ _ _ hX (lv_sub hl [0, 1] rfl)
          replace hq := hq.2 c_18
          exact J132 S_16 y1 hq _ _ _ hX (lv_sub hl [0, 1] rfl)
        replace hq := hq.2 c_15
        refine lv_aload_n hM.1 hM.2.1 dX7_readOrder_115 rfl (lv_at hl 0 rfl) ?_
        refine cVi (As := []) hM hK hX hA (met_X7_readPeriod l D ad cy S_4 hq) (kX7_readPeriod hM.2.2.2.2 ql_RX7_171 (Nat.le_of_ble_eq_true rfl) (Nat.le_of_ble_eq_true rfl)) (v15 hK hX m15) rfl hl.1 rfl (Nat.le_of_ble_eq_true rfl) dX7_readOrder_116 ⟨Nat.zero_le _, Nat.zero_le _⟩ (fun S_19 r_20 hq H locs hX => ?_)
        refine lv_if_eq (tgt := 136) hM.1 hM.2.1 dX7_readOrder_119 (by decide) (fun c_21 => ?_) (fun c_21 => ?_)
        · replace hq := hq.1 c_21
          exact J136 S_19 y1 hq _ _ _ hX (lv_sub hl [0, 1] rfl)
        replace hq := hq.2 c_21
        refine lv_goto (tgt := 132) hM.1 hM.2.1 dX7_readOrder_122 (by decide) ?_
        exact J132 S_19 y1 hq _ _ _ hX (lv_sub hl [0, 1] rfl)
      replace hq := hq.2 c_14
      refine lv_aload_n hM.1 hM.2.1 dX7_readOrder_99 rfl (lv_at hl 0 rfl) ?_
      refine cVi (As := []) hM hK hX hA (met_X7_readDegrees l D ad cy S_4 hq) (kX7_readDegrees hM.2.2.2.2 ql_RX7_168 (Nat.le_of_ble_eq_true rfl) (Nat.le_of_ble_eq_true rfl)) (v15 hK hX m15) rfl hl.1 rfl (Nat.le_of_ble_eq_true rfl) dX7_readOrder_100 ⟨Nat.zero_le _, Nat.zero_le _⟩ (fun S_22 r_23 hq H locs hX => ?_)
      refine lv_if_eq (tgt := 136) hM.1 hM.2.1 dX7_readOrder_103 (by decide) (fun c_24 => ?_) (fun c_24 => ?_)
      · replace hq := hq.1 c_24
        exact J136 S_22 y1 hq _ _ _ hX (lv_sub hl [0, 1] rfl)
      replace hq := hq.2 c_24
      refine lv_goto (tgt := 132) hM.1 hM.2.1 dX7_readOrder_106 (by decide) ?_
      exact J132 S_22 y1 hq _ _ _ hX (lv_sub hl [0, 1] rfl)
    replace hq := hq.2 c_13
    refine lv_aload_n hM.1 hM.2.1 dX7_readOrder_83 rfl (lv_at hl 0 rfl) ?_
    refine cVi (As := []) hM hK hX hA (met_X7_readNew l D ad cy S_4 hq) (kX7_readNew hM.2.2.2.2 ql_RX7_164 (Nat.le_of_ble_eq_true rfl) (Nat.le_of_ble_eq_true rfl)) (v15 hK hX m15) rfl hl.1 rfl (Nat.le_of_ble_eq_true rfl) dX7_readOrder_84 ⟨Nat.zero_le _, Nat.zero_le _⟩ (fun S_25 r_26 hq H locs hX => ?_)
    refine lv_if_eq (tgt := 136) hM.1 hM.2.1 dX7_readOrder_87 (by decide) (fun c_27 => ?_) (fun c_27 => ?_)
    · replace hq := hq.1 c_27
      exact J136 S_25 y1 hq _ _ _ hX (lv_sub hl [0, 1] rfl)
    replace hq := hq.2 c_27
    refine lv_goto (tgt := 132) hM.1 hM.2.1 dX7_readOrder_90 (by decide) ?_
    exact J132 S_25 y1 hq _ _ _ hX (lv_sub hl [0, 1] rfl)
  have J54 : ∀ (S : Mem) (y1 : Int32) (w0 : Int32), vc_X7_readOrder_J54 Q S y1 w0 → ∀ (H : Heap) (locs : List Loc) (ls : Array Slot), PW D ad cy (AW ad sz) s.heap o S H locs → lv_has ls 3 [(0, .ref (ad 15 0 0)), (1, .int y1)] → Wi D ad cy o sz Q p l e rmX7_readOrder s m [.ref (ad 15 0 0)] below meth c H locs (F0 m 54 ls [.int w0]) := by
    intro S y1 w0 hq H locs ls hX hl
    unfold vc_X7_readOrder_J54 at hq
    refine lv_istore_n (lv' := [(2, .int w0), (0, .ref (ad 15 0 0)), (1, .int y1)]) hM.1 hM.2.1 dX7_readOrder_54 rfl hl (by decide) rfl (fun ls hl => ?_)
    refine lv_aload_n hM.1 hM.2.1 dX7_readOrder_55 rfl (lv_at hl 1 rfl) ?_
    refine lv_dup hM.1 hM.2.1 dX7_readOrder_56 rfl ?_
    refine g15 hM hK hX m15 12 (by decide) qf_RX7_151 rfl dX7_readOrder_57 ?_
    refine lv_iload_n hM.1 hM.2.1 dX7_readOrder_60 rfl (lv_at hl 0 rfl) ?_
    refine lv_if_eq (tgt := 68) hM.1 hM.2.1 dX7_readOrder_61 (by decide) (fun c_3 => ?_) (fun c_3 => ?_)
    · replace hq := hq.1 c_3
      refine lv_iconst (v := (0 : Int32)) hM.1 hM.2.1 dX7_readOrder_68 (by decide) ?_
      exact J69 S y1 w0 (S 15 0 0 12) (0 : Int32) hq _ _ _ hX (lv_sub hl [1, 2, 0] rfl)
    replace hq := hq.2 c_3
    refine lv_iconst (v := (1 : Int32)) hM.1 hM.2.1 dX7_readOrder_64 (by decide) ?_
    refine lv_goto (tgt := 69) hM.1 hM.2.1 dX7_readOrder_65 (by decide) ?_
    exact J69 S y1 w0 (S 15 0 0 12) (1 : Int32) hq _ _ _ hX (lv_sub hl [1, 2, 0] rfl)
  have J49 : ∀ (S : Mem) (y1 : Int32), vc_X7_readOrder_J49 Q S y1 → ∀ (H : Heap) (locs : List Loc) (ls : Array Slot), PW D ad cy (AW ad sz) s.heap o S H locs → lv_has ls 3 [(0, .ref (ad 15 0 0)), (1, .int y1)] → Wi D ad cy o sz Q p l e rmX7_readOrder s m [.ref (ad 15 0 0)] below meth c H locs (F0 m 49 ls []) := by
    intro S y1 hq H locs ls hX hl
    unfold vc_X7_readOrder_J49 at hq
    refine lv_iconst (v := (1 : Int32)) hM.1 hM.2.1 dX7_readOrder_49 (by decide) ?_
    refine lv_goto (tgt := 54) hM.1 hM.2.1 dX7_readOrder_50 (by decide) ?_
    exact J54 S y1 (1 : Int32) hq _ _ _ hX (lv_sub hl [0, 1] rfl)
  have J24 : ∀ (S : Mem) (w0 : Int32), vc_X7_readOrder_J24 Q S w0 → ∀ (H : Heap) (locs : List Loc) (ls : Array Slot), PW D ad cy (AW ad sz) s.heap o S H locs → lv_has ls 3 [(0, .ref (ad 15 0 0))] → Wi D ad cy o sz Q p l e rmX7_readOrder s m [.ref (ad 15 0 0)] below meth c H locs (F0 m 24 ls [.int w0]) := by
    intro S w0 hq H locs ls hX hl
    unfold vc_X7_readOrder_J24 at hq
    refine lv_istore_n (lv' := [(1, .int w0), (0, .ref (ad 15 0 0))]) hM.1 hM.2.1 dX7_readOrder_24 rfl hl (by decide) rfl (fun ls hl => ?_)
    refine lv_iload_n hM.1 hM.2.1 dX7_readOrder_25 rfl (lv_at hl 0 rfl) ?_
    refine lv_bipush (v := (116 : Int32)) hM.1 hM.2.1 dX7_readOrder_26 (by decide) ?_
    refine lv_icmp_eq (tgt := 49) hM.1 hM.2.1 dX7_readOrder_28 (by decide) (fun c_2 => ?_) (fun c_2 => ?_)
    · replace hq := hq.1 c_2
      exact J49 S w0 hq _ _ _ hX (lv_sub hl [1, 0] rfl)
    replace hq := hq.2 c_2
    refine lv_iload_n hM.1 hM.2.1 dX7_readOrder_31 rfl (lv_at hl 0 rfl) ?_
    refine lv_bipush (v := (104 : Int32)) hM.1 hM.2.1 dX7_readOrder_32 (by decide) ?_
    refine lv_icmp_eq (tgt := 49) hM.1 hM.2.1 dX7_readOrder_34 (by decide) (fun c_28 => ?_) (fun c_28 => ?_)
    · replace hq := hq.1 c_28
      exact J49 S w0 hq _ _ _ hX (lv_sub hl [1, 0] rfl)
    replace hq := hq.2 c_28
    refine lv_iload_n hM.1 hM.2.1 dX7_readOrder_37 rfl (lv_at hl 0 rfl) ?_
    refine lv_bipush (v := (112 : Int32)) hM.1 hM.2.1 dX7_readOrder_38 (by decide) ?_
    refine lv_icmp_eq (tgt := 49) hM.1 hM.2.1 dX7_readOrder_40 (by decide) (fun c_29 => ?_) (fun c_29 => ?_)
    · replace hq := hq.1 c_29
      exact J49 S w0 hq _ _ _ hX (lv_sub hl [1, 0] rfl)
    replace hq := hq.2 c_29
    refine lv_iload_n hM.1 hM.2.1 dX7_readOrder_43 rfl (lv_at hl 0 rfl) ?_
    refine lv_bipush (v := (99 : Int32)) hM.1 hM.2.1 dX7_readOrder_44 (by decide) ?_
    refine lv_icmp_ne (tgt := 53) hM.1 hM.2.1 dX7_readOrder_46 (by decide) (fun c_30 => ?_) (fun c_30 => ?_)
    · replace hq := hq.1 c_30
      refine lv_iconst (v := (0 : Int32)) hM.1 hM.2.1 dX7_readOrder_53 (by decide) ?_
      exact J54 S w0 (0 : Int32) hq _ _ _ hX (lv_sub hl [1, 0] rfl)
    replace hq := hq.2 c_30
    exact J49 S w0 hq _ _ _ hX (lv_sub hl [1, 0] rfl)
  unfold vc_X7_readOrder at hq
  refine lv_aload_n hM.1 hM.2.1 dX7_readOrder_0 rfl (lv_at hl 0 rfl) ?_
  refine g15 hM hK hX m15 12 (by decide) qf_RX7_151 rfl dX7_readOrder_1 ?_
  refine lv_aload_n hM.1 hM.2.1 dX7_readOrder_4 rfl (lv_at hl 0 rfl) ?_
  refine g15 hM hK hX m15 11 (by decide) qf_RX7_148 rfl dX7_readOrder_5 ?_
  refine lv_icmp_ge (tgt := 23) hM.1 hM.2.1 dX7_readOrder_8 (by decide) (fun c_1 => ?_) (fun c_1 => ?_)
  · replace hq := hq.1 c_1
    refine lv_iconst (v := (0 : Int32)) hM.1 hM.2.1 dX7_readOrder_23 (by decide) ?_
    exact J24 S (0 : Int32) hq _ _ _ hX (lv_sub hl [0] rfl)
  replace hq := hq.2 c_1
  refine lv_aload_n hM.1 hM.2.1 dX7_readOrder_11 rfl (lv_at hl 0 rfl) ?_
  refine g15 hM hK hX m15 10 (by decide) qf_RX7_32 rfl dX7_readOrder_12 ?_
  refine lv_aload_n hM.1 hM.2.1 dX7_readOrder_15 rfl (lv_at hl 0 rfl) ?_
  refine g15 hM hK hX m15 12 (by decide) qf_RX7_151 rfl dX7_readOrder_16 ?_
  have c_31 := hq.1
  replace hq := hq.2
  refine r_iald hM hK hX m23 (a23 0 0) c_31 dX7_readOrder_19 ?_
  refine lv_goto (tgt := 24) hM.1 hM.2.1 dX7_readOrder_20 (by decide) ?_
  exact J24 S (S 23 0 0 (S 15 0 0 12).toNatClampNeg) hq _ _ _ hX (lv_sub hl [0] rfl)
def rmX7_isComplete : Room := { frames := 4, cells := 0, slots := 0, locals := 89 }
theorem kX7_isComplete {R : Room} {s : State} {args : Array Value} {own : String} {index : Nat} (ht : ∀ w ∈ lw_all, w.before args s = true) (hl : Cond.methodLink own index yX7_isComplete ∈ lw_all) (hf : rmX7_isComplete.frames + 1 ≤ R.frames) (hlo : 8 + (2 + 11) + rmX7_isComplete.locals ≤ R.locals) : CallW R s args own RX7 index yX7_isComplete cX7_isComplete 2 (some Jvm.ClassFile.FieldType.boolean) (wA yX7_isComplete cX7_isComplete 2 (some Jvm.ClassFile.FieldType.boolean)) rmX7_isComplete 0 0 0 := cwV 0 ht (good_V hl qm_yX7_isComplete qs_yX7_isComplete qi_RX7 qc_yX7_isComplete) rfl rfl rfl (by decide +kernel) ⟨hf, hlo⟩
set_option maxRecDepth 100000 in
set_option maxHeartbeats 4000000 in
theorem met_X7_isComplete (l : Launch) (D : va_G) (ad : Adr) (cy : Nat → ClassId) (S : Mem) {Q : Mem → Int32 → Prop} (hq : vc_X7_isComplete S Q) : Ci l yX7_isComplete (wA yX7_isComplete cX7_isComplete 2 (some Jvm.ClassFile.FieldType.boolean)) rmX7_isComplete D ad cy [.ref (ad 15 0 0)] S Q := by
  intro o sz
  refine mkC (own := RX7) (lv := [(0, .ref (ad 15 0 0))]) (by decide) rfl (Nat.le_of_ble_eq_true rfl) rfl ⟨rfl, rfl⟩ ?_
  intro p e s m below meth c ls hsz hM hlocks hret hK hA hX hl
  have L15 : ∀ {K : Mem → Int32 → Prop} (hk : ∀ (S : Mem) (y1 : Int32), K S y1 → ∀ (H : Heap) (locs : List Loc) (ls : Array Slot), PW D ad cy (AW ad sz) s.heap o S H locs → lv_has ls 2 [(0, .ref (ad 15 0 0)), (1, .int y1)] → Wi D ad cy o sz Q p l e rmX7_isComplete s m [.ref (ad 15 0 0)] below meth c H locs (F0 m 38 ls [])), ∀ (n : Nat) (S : Mem) (y1 : Int32), vc_X7_isComplete_L15 Q K n S y1 → ∀ (H : Heap) (locs : List Loc) (ls : Array Slot), PW D ad cy (AW ad sz) s.heap o S H locs → lv_has ls 2 [(0, .ref (ad 15 0 0)), (1, .int y1)] → Wi D ad cy o sz Q p l e rmX7_isComplete s m [.ref (ad 15 0 0)] below meth c H locs (F0 m 15 ls []) := by
    intro K hk n
    induction n with
    | zero =>
      intro S y1 hq
      rw [vc_X7_isComplete_L15] at hq
      exact hq.elim
    | succ n ih =>
      intro S y1 hq H locs ls hX hl
      rw [vc_X7_isComplete_L15] at hq
      refine lv_iload_n hM.1 hM.2.1 dX7_isComplete_15 rfl (lv_at hl 1 rfl) ?_
      refine lv_if_eq (tgt := 38) hM.1 hM.2.1 dX7_isComplete_16 (by decide) (fun c_7 => ?_) (fun c_7 => ?_)
      · replace hq := hq.1 c_7
        exact hk S y1 hq _ _ _ hX (lv_sub hl [0, 1] rfl)
      replace hq := hq.2 c_7
      refine lv_aload_n hM.1 hM.2.1 dX7_isComplete_19 rfl (lv_at hl 0 rfl) ?_
      refine lv_bipush (v := (59 : Int32)) hM.1 hM.2.1 dX7_isComplete_20 (by decide) ?_
      refine lv_bipush (v := (59 : Int32)) hM.1 hM.2.1 dX7_isComplete_22 (by decide) ?_
      refine cVi (As := [.int (59 : Int32), .int (59 : Int32)]) hM hK hX hA (met_X7_takes l D ad cy S (59 : Int32) (59 : Int32) hq) (kX7_takes hM.2.2.2.2 ql_RX7_154 (Nat.le_of_ble_eq_true rfl) (Nat.le_of_ble_eq_true rfl)) (v15 hK hX m15) rfl hl.1 rfl (Nat.le_of_ble_eq_true rfl) dX7_isComplete_24 ⟨Nat.zero_le _, Nat.zero_le _⟩ (fun S_8 r_9 hq H locs hX => ?_)
      refine lv_if_eq (tgt := 38) hM.1 hM.2.1 dX7_isComplete_27 (by decide) (fun c_10 => ?_) (fun c_10 => ?_)
      · replace hq := hq.1 c_10
        exact hk S_8 y1 hq _ _ _ hX (lv_sub hl [0, 1] rfl)
      replace hq := hq.2 c_10
      refine lv_aload_n hM.1 hM.2.1 dX7_isComplete_30 rfl (lv_at hl 0 rfl) ?_
      refine cVi (As := []) hM hK hX hA (met_X7_readOrder l D ad cy S_8 hq) (kX7_readOrder hM.2.2.2.2 ql_RX7_177 (Nat.le_of_ble_eq_true rfl) (Nat.le_of_ble_eq_true rfl)) (v15 hK hX m15) rfl hl.1 rfl (Nat.le_of_ble_eq_true rfl) dX7_isComplete_31 ⟨Nat.zero_le _, Nat.zero_le _⟩ (fun S_11 r_12 hq H locs hX => ?_)
      refine lv_istore_n (lv' := [(1, .int r_12), (0, .ref (ad 15 0 0))]) hM.1 hM.2.1 dX7_isComplete_34 rfl hl (by decide) rfl (fun ls hl => ?_)
      refine lv_goto (tgt := 15) hM.1 hM.2.1 dX7_isComplete_35 (by decide) ?_
      exact ih S_11 r_12 hq _ _ _ hX (lv_sub hl [1, 0] rfl)
  have J38 : ∀ (S : Mem) (y1 : Int32), vc_X7_isComplete_J38 Q S y1 → ∀ (H : Heap) (locs : List Loc) (ls : Array Slot), PW D ad cy (AW ad sz) s.heap o S H locs → lv_has ls 2 [(0, .ref (ad 15 0 0)), (1, .int y1)] → Wi D ad cy o sz Q p l e rmX7_isComplete s m [.ref (ad 15 0 0)] below meth c H locs (F0 m 38 ls []) := by
    intro S y1 hq H locs ls hX hl
    unfold vc_X7_isComplete_J38 at hq
    refine lv_iload_n hM.1 hM.2.1 dX7_isComplete_38 rfl (lv_at hl 1 rfl) ?_
    refine lv_if_eq (tgt := 57) hM.1 hM.2.1 dX7_isComplete_39 (by decide) (fun c_15 => ?_) (fun c_15 => ?_)
    · replace hq := hq.1 c_15
      refine lv_iconst (v := (0 : Int32)) hM.1 hM.2.1 dX7_isComplete_57 (by decide) ?_
      exact e_z hM hX hlocks hret rfl hq dX7_isComplete_58
    replace hq := hq.2 c_15
    refine lv_aload_n hM.1 hM.2.1 dX7_isComplete_42 rfl (lv_at hl 0 rfl) ?_
    refine g15 hM hK hX m15 12 (by decide) qf_RX7_151 rfl dX7_isComplete_43 ?_
    refine lv_aload_n hM.1 hM.2.1 dX7_isComplete_46 rfl (lv_at hl 0 rfl) ?_
    refine g15 hM hK hX m15 11 (by decide) qf_RX7_148 rfl dX7_isComplete_47 ?_
    refine lv_icmp_ne (tgt := 57) hM.1 hM.2.1 dX7_isComplete_50 (by decide) (fun c_16 => ?_) (fun c_16 => ?_)
    · replace hq := hq.1 c_16
      refine lv_iconst (v := (0 : Int32)) hM.1 hM.2.1 dX7_isComplete_57 (by decide) ?_
      exact e_z hM hX hlocks hret rfl hq dX7_isComplete_58
    replace hq := hq.2 c_16
    refine lv_iconst (v := (1 : Int32)) hM.1 hM.2.1 dX7_isComplete_53 (by decide) ?_
    refine lv_goto (tgt := 58) hM.1 hM.2.1 dX7_isComplete_54 (by decide) ?_
    exact e_z hM hX hlocks hret rfl hq dX7_isComplete_58
  unfold vc_X7_isComplete at hq
  refine lv_aload_n hM.1 hM.2.1 dX7_isComplete_0 rfl (lv_at hl 0 rfl) ?_
  refine lv_iconst (v := (0 : Int32)) hM.1 hM.2.1 dX7_isComplete_1 (by decide) ?_
  refine p15_12 hM hK hX m15 qf_RX7_151 dX7_isComplete_2 (fun S_1 e_2 H locs hX => ?_)
  replace hq := hq S_1 e_2
  refine lv_aload_n hM.1 hM.2.1 dX7_isComplete_5 rfl (lv_at hl 0 rfl) ?_
  refine lv_iconst (v := (0 : Int32)) hM.1 hM.2.1 dX7_isComplete_6 (by decide) ?_
  refine p15_13 hM hK hX m15 qf_RX7_161 dX7_isComplete_7 (fun S_3 e_4 H locs hX => ?_)
  replace hq := hq S_3 e_4
  refine lv_aload_n hM.1 hM.2.1 dX7_isComplete_10 rfl (lv_at hl 0 rfl) ?_
  refine cVi (As := []) hM hK hX hA (met_X7_readOrder l D ad cy S_3 hq) (kX7_readOrder hM.2.2.2.2 ql_RX7_177 (Nat.le_of_ble_eq_true rfl) (Nat.le_of_ble_eq_true rfl)) (v15 hK hX m15) rfl hl.1 rfl (Nat.le_of_ble_eq_true rfl) dX7_isComplete_11 ⟨Nat.zero_le _, Nat.zero_le _⟩ (fun S_5 r_6 hq H locs hX => ?_)
  refine lv_istore_n (lv' := [(1, .int r_6), (0, .ref (ad 15 0 0))]) hM.1 hM.2.1 dX7_isComplete_14 rfl hl (by decide) rfl (fun ls hl => ?_)
  obtain ⟨k0, hq⟩ := hq
  refine L15 (fun S_13 y1_14 hq H locs ls hX hl => ?_) k0 S_5 r_6 hq _ _ _ hX (lv_sub hl [1, 0] rfl)
  exact J38 S_13 y1_14 hq _ _ _ hX (lv_sub hl [0, 1] rfl)
def rmX7_firstError : Room := { frames := 5, cells := 0, slots := 0, locals := 110 }
theorem kX7_firstError {R : Room} {s : State} {args : Array Value} {own : String} {index : Nat} (ht : ∀ w ∈ lw_all, w.before args s = true) (hl : Cond.methodLink own index yX7_firstError ∈ lw_all) (hf : rmX7_firstError.frames + 1 ≤ R.frames) (hlo : 8 + (1 + 11) + rmX7_firstError.locals ≤ R.locals) : CallW R s args own RX7 index yX7_firstError cX7_firstError 1 (some Jvm.ClassFile.FieldType.int) (wA yX7_firstError cX7_firstError 1 (some Jvm.ClassFile.FieldType.int)) rmX7_firstError 0 0 0 := cwV 0 ht (good_V hl qm_yX7_firstError qs_yX7_firstError qi_RX7 qc_yX7_firstError) rfl rfl rfl (by decide +kernel) ⟨hf, hlo⟩
set_option maxRecDepth 100000 in
set_option maxHeartbeats 4000000 in
theorem met_X7_firstError (l : Launch) (D : va_G) (ad : Adr) (cy : Nat → ClassId) (S : Mem) {Q : Mem → Int32 → Prop} (hq : vc_X7_firstError S Q) : Ci l yX7_firstError (wA yX7_firstError cX7_firstError 1 (some Jvm.ClassFile.FieldType.int)) rmX7_firstError D ad cy [.ref (ad 15 0 0)] S Q := by
  intro o sz
  refine mkC (own := RX7) (lv := [(0, .ref (ad 15 0 0))]) (by decide) rfl (Nat.le_of_ble_eq_true rfl) rfl ⟨rfl, rfl⟩ ?_
  intro p e s m below meth c ls hsz hM hlocks hret hK hA hX hl
  unfold vc_X7_firstError at hq
  refine lv_aload_n hM.1 hM.2.1 dX7_firstError_0 rfl (lv_at hl 0 rfl) ?_
  refine lv_iconst (v := (0 : Int32)) hM.1 hM.2.1 dX7_firstError_1 (by decide) ?_
  refine p15_6 hM hK hX m15 qf_RX7_48 dX7_firstError_2 (fun S_1 e_2 H locs hX => ?_)
  replace hq := hq S_1 e_2
  refine lv_aload_n hM.1 hM.2.1 dX7_firstError_5 rfl (lv_at hl 0 rfl) ?_
  refine cVi (As := []) hM hK hX hA (met_X7_isComplete l D ad cy S_1 hq) (kX7_isComplete hM.2.2.2.2 ql_RX7_180 (Nat.le_of_ble_eq_true rfl) (Nat.le_of_ble_eq_true rfl)) (v15 hK hX m15) rfl hl.1 rfl (Nat.le_of_ble_eq_true rfl) dX7_firstError_6 ⟨Nat.zero_le _, Nat.zero_le _⟩ (fun S_3 r_4 hq H locs hX => ?_)
  refine lv_if_eq (tgt := 19) hM.1 hM.2.1 dX7_firstError_9 (by decide) (fun c_5 => ?_) (fun c_5 => ?_)
  · replace hq := hq.1 c_5
    refine lv_aload_n hM.1 hM.2.1 dX7_firstError_19 rfl (lv_at hl 0 rfl) ?_
    refine g15 hM hK hX m15 12 (by decide) qf_RX7_151 rfl dX7_firstError_20 ?_
    exact e_i hM hX hlocks hret hq dX7_firstError_23
  replace hq := hq.2 c_5
  refine lv_aload_n hM.1 hM.2.1 dX7_firstError_12 rfl (lv_at hl 0 rfl) ?_
  refine g15 hM hK hX m15 11 (by decide) qf_RX7_148 rfl dX7_firstError_13 ?_
  refine lv_goto (tgt := 23) hM.1 hM.2.1 dX7_firstError_16 (by decide) ?_
  exact e_i hM hX hlocks hret hq dX7_firstError_23
def rmX7_canDo : Room := { frames := 2, cells := 0, slots := 0, locals := 43 }
theorem kX7_canDo {R : Room} {s : State} {args : Array Value} {own : String} {index : Nat} (ht : ∀ w ∈ lw_all, w.before args s = true) (hl : Cond.methodLink own index yX7_canDo ∈ lw_all) (hf : rmX7_canDo.frames + 1 ≤ R.frames) (hlo : 8 + (2 + 11) + rmX7_canDo.locals ≤ R.locals) : CallW R s args own RX7 index yX7_canDo cX7_canDo 2 (some Jvm.ClassFile.FieldType.boolean) (wA yX7_canDo cX7_canDo 2 (some Jvm.ClassFile.FieldType.boolean)) rmX7_canDo 0 0 1 := cwV 1 ht (good_V hl qm_yX7_canDo qs_yX7_canDo qi_RX7 qc_yX7_canDo) rfl rfl rfl (by decide +kernel) ⟨hf, hlo⟩
set_option maxRecDepth 100000 in
set_option maxHeartbeats 4000000 in
theorem met_X7_canDo (l : Launch) (D : va_G) (ad : Adr) (cy : Nat → ClassId) (S : Mem) (x1 : Int32) {Q : Mem → Int32 → Prop} (hq : vc_X7_canDo S x1 Q) : Ci l yX7_canDo (wA yX7_canDo cX7_canDo 2 (some Jvm.ClassFile.FieldType.boolean)) rmX7_canDo D ad cy [.ref (ad 15 0 0), .int x1] S Q := by
  intro o sz
  refine mkC (own := RX7) (lv := [(0, .ref (ad 15 0 0)), (1, .int x1)]) (by decide) rfl (Nat.le_of_ble_eq_true rfl) rfl ⟨rfl, rfl⟩ ?_
  intro p e s m below meth c ls hsz hM hlocks hret hK hA hX hl
  unfold vc_X7_canDo at hq
  refine lv_aload_n hM.1 hM.2.1 dX7_canDo_0 rfl (lv_at hl 0 rfl) ?_
  refine g15 hM hK hX m15 14 (by decide) qf_RX7_35 rfl dX7_canDo_1 ?_
  refine lv_iload_n hM.1 hM.2.1 dX7_canDo_4 rfl (lv_at hl 1 rfl) ?_
  have c_1 := hq.1
  replace hq := hq.2
  refine r_iald hM hK hX m24 (a24 0 0) c_1 dX7_canDo_5 ?_
  refine lv_bipush (v := (116 : Int32)) hM.1 hM.2.1 dX7_canDo_6 (by decide) ?_
  refine lv_icmp_ne (tgt := 31) hM.1 hM.2.1 dX7_canDo_8 (by decide) (fun c_2 => ?_) (fun c_2 => ?_)
  · replace hq := hq.1 c_2
    refine lv_aload_n hM.1 hM.2.1 dX7_canDo_31 rfl (lv_at hl 0 rfl) ?_
    refine g15 hM hK hX m15 14 (by decide) qf_RX7_35 rfl dX7_canDo_32 ?_
    refine lv_iload_n hM.1 hM.2.1 dX7_canDo_35 rfl (lv_at hl 1 rfl) ?_
    have c_3 := hq.1
    replace hq := hq.2
    refine r_iald hM hK hX m24 (a24 0 0) c_3 dX7_canDo_36 ?_
    refine lv_bipush (v := (104 : Int32)) hM.1 hM.2.1 dX7_canDo_37 (by decide) ?_
    refine lv_icmp_ne (tgt := 62) hM.1 hM.2.1 dX7_canDo_39 (by decide) (fun c_4 => ?_) (fun c_4 => ?_)
    · replace hq := hq.1 c_4
      refine lv_aload_n hM.1 hM.2.1 dX7_canDo_62 rfl (lv_at hl 0 rfl) ?_
      refine g15 hM hK hX m15 14 (by decide) qf_RX7_35 rfl dX7_canDo_63 ?_
      refine lv_iload_n hM.1 hM.2.1 dX7_canDo_66 rfl (lv_at hl 1 rfl) ?_
      have c_5 := hq.1
      replace hq := hq.2
      refine r_iald hM hK hX m24 (a24 0 0) c_5 dX7_canDo_67 ?_
      refine lv_bipush (v := (112 : Int32)) hM.1 hM.2.1 dX7_canDo_68 (by decide) ?_
      refine lv_icmp_eq (tgt := 86) hM.1 hM.2.1 dX7_canDo_70 (by decide) (fun c_6 => ?_) (fun c_6 => ?_)
      · replace hq := hq.1 c_6
        refine lv_iconst (v := (1 : Int32)) hM.1 hM.2.1 dX7_canDo_86 (by decide) ?_
        refine lv_goto (tgt := 91) hM.1 hM.2.1 dX7_canDo_87 (by decide) ?_
        exact e_z hM hX hlocks hret rfl hq dX7_canDo_91
      replace hq := hq.2 c_6
      refine lv_aload_n hM.1 hM.2.1 dX7_canDo_73 rfl (lv_at hl 0 rfl) ?_
      refine lv_aload_n hM.1 hM.2.1 dX7_canDo_74 rfl (lv_at hl 0 rfl) ?_
      refine g15 hM hK hX m15 15 (by decide) qf_RX7_38 rfl dX7_canDo_75 ?_
      refine lv_iload_n hM.1 hM.2.1 dX7_canDo_78 rfl (lv_at hl 1 rfl) ?_
      have c_7 := hq.1
      replace hq := hq.2
      refine r_iald hM hK hX m25 (a25 0 0) c_7 dX7_canDo_79 ?_
      refine cVi (As := [.int (S 25 0 0 x1.toNatClampNeg)]) hM hK hX hA (met_X7_is l D ad cy S (S 25 0 0 x1.toNatClampNeg) hq) (kX7_is hM.2.2.2.2 ql_RX7_141 (Nat.le_of_ble_eq_true rfl) (Nat.le_of_ble_eq_true rfl)) (v15 hK hX m15) rfl hl.1 rfl (Nat.le_of_ble_eq_true rfl) dX7_canDo_80 ⟨Nat.zero_le _, Nat.zero_le _⟩ (fun S_8 r_9 hq H locs hX => ?_)
      refine lv_if_eq (tgt := 90) hM.1 hM.2.1 dX7_canDo_83 (by decide) (fun c_10 => ?_) (fun c_10 => ?_)
      · replace hq := hq.1 c_10
        refine lv_iconst (v := (0 : Int32)) hM.1 hM.2.1 dX7_canDo_90 (by decide) ?_
        exact e_z hM hX hlocks hret rfl hq dX7_canDo_91
      replace hq := hq.2 c_10
      refine lv_iconst (v := (1 : Int32)) hM.1 hM.2.1 dX7_canDo_86 (by decide) ?_
      refine lv_goto (tgt := 91) hM.1 hM.2.1 dX7_canDo_87 (by decide) ?_
      exact e_z hM hX hlocks hret rfl hq dX7_canDo_91
    replace hq := hq.2 c_4
    refine lv_aload_n hM.1 hM.2.1 dX7_canDo_42 rfl (lv_at hl 0 rfl) ?_
    refine g15 hM hK hX m15 0 (by decide) qf_RX7_7 rfl dX7_canDo_43 ?_
    refine lv_iconst (v := (0 : Int32)) hM.1 hM.2.1 dX7_canDo_46 (by decide) ?_
    have c_11 := hq.1
    replace hq := hq.2
    refine r_iald hM hK hX m16 (a16 0 0) c_11 dX7_canDo_47 ?_
    refine lv_sipush (v := (9999 : Int32)) hM.1 hM.2.1 dX7_canDo_48 (by decide) ?_
    refine lv_icmp_ge (tgt := 58) hM.1 hM.2.1 dX7_canDo_51 (by decide) (fun c_12 => ?_) (fun c_12 => ?_)
    · replace hq := hq.1 c_12
      refine lv_iconst (v := (0 : Int32)) hM.1 hM.2.1 dX7_canDo_58 (by decide) ?_
      refine lv_goto (tgt := 91) hM.1 hM.2.1 dX7_canDo_59 (by decide) ?_
      exact e_z hM hX hlocks hret rfl hq dX7_canDo_91
    replace hq := hq.2 c_12
    refine lv_iconst (v := (1 : Int32)) hM.1 hM.2.1 dX7_canDo_54 (by decide) ?_
    refine lv_goto (tgt := 91) hM.1 hM.2.1 dX7_canDo_55 (by decide) ?_
    exact e_z hM hX hlocks hret rfl hq dX7_canDo_91
  replace hq := hq.2 c_2
  refine lv_aload_n hM.1 hM.2.1 dX7_canDo_11 rfl (lv_at hl 0 rfl) ?_
  refine g15 hM hK hX m15 0 (by decide) qf_RX7_7 rfl dX7_canDo_12 ?_
  refine lv_bipush (v := (15 : Int32)) hM.1 hM.2.1 dX7_canDo_15 (by decide) ?_
  have c_13 := hq.1
  replace hq := hq.2
  refine r_iald hM hK hX m16 (a16 0 0) c_13 dX7_canDo_17 ?_
  refine lv_bipush (v := (10 : Int32)) hM.1 hM.2.1 dX7_canDo_18 (by decide) ?_
  refine lv_icmp_ge (tgt := 27) hM.1 hM.2.1 dX7_canDo_20 (by decide) (fun c_14 => ?_) (fun c_14 => ?_)
  · replace hq := hq.1 c_14
    refine lv_iconst (v := (0 : Int32)) hM.1 hM.2.1 dX7_canDo_27 (by decide) ?_
    refine lv_goto (tgt := 91) hM.1 hM.2.1 dX7_canDo_28 (by decide) ?_
    exact e_z hM hX hlocks hret rfl hq dX7_canDo_91
  replace hq := hq.2 c_14
  refine lv_iconst (v := (1 : Int32)) hM.1 hM.2.1 dX7_canDo_23 (by decide) ?_
  refine lv_goto (tgt := 91) hM.1 hM.2.1 dX7_canDo_24 (by decide) ?_
  exact e_z hM hX hlocks hret rfl hq dX7_canDo_91
def rmX7_doOrder : Room := { frames := 7, cells := 0, slots := 0, locals := 154 }
theorem kX7_doOrder {R : Room} {s : State} {args : Array Value} {own : String} {index : Nat} (ht : ∀ w ∈ lw_all, w.before args s = true) (hl : Cond.methodLink own index yX7_doOrder ∈ lw_all) (hf : rmX7_doOrder.frames + 1 ≤ R.frames) (hlo : 8 + (2 + 11) + rmX7_doOrder.locals ≤ R.locals) : CallW R s args own RX7 index yX7_doOrder cX7_doOrder 2 (some Jvm.ClassFile.FieldType.int) (wA yX7_doOrder cX7_doOrder 2 (some Jvm.ClassFile.FieldType.int)) rmX7_doOrder 0 0 1 := cwV 1 ht (good_V hl qm_yX7_doOrder qs_yX7_doOrder qi_RX7 qc_yX7_doOrder) rfl rfl rfl (by decide +kernel) ⟨hf, hlo⟩
set_option maxRecDepth 100000 in
set_option maxHeartbeats 4000000 in
theorem met_X7_doOrder (l : Launch) (D : va_G) (ad : Adr) (cy : Nat → ClassId) (S : Mem) (x1 : Int32) {Q : Mem → Int32 → Prop} (hq : vc_X7_doOrder S x1 Q) : Ci l yX7_doOrder (wA yX7_doOrder cX7_doOrder 2 (some Jvm.ClassFile.FieldType.int)) rmX7_doOrder D ad cy [.ref (ad 15 0 0), .int x1] S Q := by
  intro o sz
  refine mkC (own := RX7) (lv := [(0, .ref (ad 15 0 0)), (1, .int x1)]) (by decide) rfl (Nat.le_of_ble_eq_true rfl) rfl ⟨rfl, rfl⟩ ?_
  intro p e s m below meth c ls hsz hM hlocks hret hK hA hX hl
  unfold vc_X7_doOrder at hq
  refine lv_aload_n hM.1 hM.2.1 dX7_doOrder_0 rfl (lv_at hl 0 rfl) ?_
  refine g15 hM hK hX m15 14 (by decide) qf_RX7_35 rfl dX7_doOrder_1 ?_
  refine lv_iload_n hM.1 hM.2.1 dX7_doOrder_4 rfl (lv_at hl 1 rfl) ?_
  have c_1 := hq.1
  replace hq := hq.2
  refine r_iald hM hK hX m24 (a24 0 0) c_1 dX7_doOrder_5 ?_
  refine r_case (x := (S 24 0 0 x1.toNatClampNeg)) (v := (104 : Int32)) (fun c_2 => ?_) (fun c_2 => ?_)
  · replace hq := hq.1 c_2
    refine r_lsw (v := (104 : Int32)) (tgt := 64) hM c_2 dX7_doOrder_6 (by decide) (by rfl) (by decide) ?_
    refine lv_aload_n hM.1 hM.2.1 dX7_doOrder_64 rfl (lv_at hl 0 rfl) ?_
    refine lv_bipush (v := (100 : Int32)) hM.1 hM.2.1 dX7_doOrder_65 (by decide) ?_
    refine lv_aload_n hM.1 hM.2.1 dX7_doOrder_67 rfl (lv_at hl 0 rfl) ?_
    refine g15 hM hK hX m15 15 (by decide) qf_RX7_38 rfl dX7_doOrder_68 ?_
    refine lv_iload_n hM.1 hM.2.1 dX7_doOrder_71 rfl (lv_at hl 1 rfl) ?_
    have c_3 := hq.1
    replace hq := hq.2
    refine r_iald hM hK hX m25 (a25 0 0) c_3 dX7_doOrder_72 ?_
    refine lv_imul hM.1 hM.2.1 dX7_doOrder_73 ?_
    refine cVi (As := [.int ((100 : Int32) * (S 25 0 0 x1.toNatClampNeg))]) hM hK hX hA (met_X7_pass l D ad cy S ((100 : Int32) * (S 25 0 0 x1.toNatClampNeg)) hq) (kX7_pass hM.2.2.2.2 ql_RX7_135 (Nat.le_of_ble_eq_true rfl) (Nat.le_of_ble_eq_true rfl)) (v15 hK hX m15) rfl hl.1 rfl (Nat.le_of_ble_eq_true rfl) dX7_doOrder_74 ⟨Nat.zero_le _, Nat.zero_le _⟩ (fun S_4 r_5 hq H locs hX => ?_)
    exact e_i hM hX hlocks hret hq dX7_doOrder_77
  replace hq := hq.2 c_2
  refine r_case (x := (S 24 0 0 x1.toNatClampNeg)) (v := (112 : Int32)) (fun c_6 => ?_) (fun c_6 => ?_)
  · replace hq := hq.1 c_6
    refine r_lsw (v := (112 : Int32)) (tgt := 78) hM c_6 dX7_doOrder_6 (by decide) (by rfl) (by decide) ?_
    refine lv_aload_n hM.1 hM.2.1 dX7_doOrder_78 rfl (lv_at hl 0 rfl) ?_
    refine lv_aload_n hM.1 hM.2.1 dX7_doOrder_79 rfl (lv_at hl 0 rfl) ?_
    refine g15 hM hK hX m15 15 (by decide) qf_RX7_38 rfl dX7_doOrder_80 ?_
    refine lv_iload_n hM.1 hM.2.1 dX7_doOrder_83 rfl (lv_at hl 1 rfl) ?_
    have c_7 := hq.1
    replace hq := hq.2
    refine r_iald hM hK hX m25 (a25 0 0) c_7 dX7_doOrder_84 ?_
    refine lv_aload_n hM.1 hM.2.1 dX7_doOrder_85 rfl (lv_at hl 0 rfl) ?_
    refine g15 hM hK hX m15 16 (by decide) qf_RX7_41 rfl dX7_doOrder_86 ?_
    refine lv_iload_n hM.1 hM.2.1 dX7_doOrder_89 rfl (lv_at hl 1 rfl) ?_
    have c_8 := hq.1
    replace hq := hq.2
    refine r_iald hM hK hX m26 (a26 0 0) c_8 dX7_doOrder_90 ?_
    refine cVi (As := [.int (S 25 0 0 x1.toNatClampNeg), .int (S 26 0 0 x1.toNatClampNeg)]) hM hK hX hA (met_X7_periodNow l D ad cy S (S 25 0 0 x1.toNatClampNeg) (S 26 0 0 x1.toNatClampNeg) hq) (kX7_periodNow hM.2.2.2.2 ql_RX7_138 (Nat.le_of_ble_eq_true rfl) (Nat.le_of_ble_eq_true rfl)) (v15 hK hX m15) rfl hl.1 rfl (Nat.le_of_ble_eq_true rfl) dX7_doOrder_91 ⟨Nat.zero_le _, Nat.zero_le _⟩ (fun S_9 r_10 hq H locs hX => ?_)
    exact e_i hM hX hlocks hret hq dX7_doOrder_94
  replace hq := hq.2 c_6
  refine r_case (x := (S 24 0 0 x1.toNatClampNeg)) (v := (116 : Int32)) (fun c_11 => ?_) (fun c_11 => ?_)
  · replace hq := hq.1 c_11
    refine r_lsw (v := (116 : Int32)) (tgt := 40) hM c_11 dX7_doOrder_6 (by decide) (by rfl) (by decide) ?_
    refine lv_aload_n hM.1 hM.2.1 dX7_doOrder_40 rfl (lv_at hl 0 rfl) ?_
    refine lv_aload_n hM.1 hM.2.1 dX7_doOrder_41 rfl (lv_at hl 0 rfl) ?_
    refine g15 hM hK hX m15 15 (by decide) qf_RX7_38 rfl dX7_doOrder_42 ?_
    refine lv_iload_n hM.1 hM.2.1 dX7_doOrder_45 rfl (lv_at hl 1 rfl) ?_
    have c_12 := hq.1
    replace hq := hq.2
    refine r_iald hM hK hX m25 (a25 0 0) c_12 dX7_doOrder_46 ?_
    refine lv_aload_n hM.1 hM.2.1 dX7_doOrder_47 rfl (lv_at hl 0 rfl) ?_
    refine g15 hM hK hX m15 16 (by decide) qf_RX7_41 rfl dX7_doOrder_48 ?_
    refine lv_iload_n hM.1 hM.2.1 dX7_doOrder_51 rfl (lv_at hl 1 rfl) ?_
    have c_13 := hq.1
    replace hq := hq.2
    refine r_iald hM hK hX m26 (a26 0 0) c_13 dX7_doOrder_52 ?_
    refine lv_iconst (v := (0 : Int32)) hM.1 hM.2.1 dX7_doOrder_53 (by decide) ?_
    refine lv_aload_n hM.1 hM.2.1 dX7_doOrder_54 rfl (lv_at hl 0 rfl) ?_
    refine g15 hM hK hX m15 17 (by decide) qf_RX7_44 rfl dX7_doOrder_55 ?_
    refine lv_iload_n hM.1 hM.2.1 dX7_doOrder_58 rfl (lv_at hl 1 rfl) ?_
    have c_14 := hq.1
    replace hq := hq.2
    refine r_iald hM hK hX m27 (a27 0 0) c_14 dX7_doOrder_59 ?_
    refine cVi (As := [.int (S 25 0 0 x1.toNatClampNeg), .int (S 26 0 0 x1.toNatClampNeg), .int (0 : Int32), .int (S 27 0 0 x1.toNatClampNeg)]) hM hK hX hA (met_X7_add l D ad cy S (S 25 0 0 x1.toNatClampNeg) (S 26 0 0 x1.toNatClampNeg) (0 : Int32) (S 27 0 0 x1.toNatClampNeg) hq) (kX7_add hM.2.2.2.2 ql_RX7_128 (Nat.le_of_ble_eq_true rfl) (Nat.le_of_ble_eq_true rfl)) (v15 hK hX m15) rfl hl.1 rfl (Nat.le_of_ble_eq_true rfl) dX7_doOrder_60 ⟨Nat.zero_le _, Nat.zero_le _⟩ (fun S_15 r_16 hq H locs hX => ?_)
    exact e_i hM hX hlocks hret hq dX7_doOrder_63
  replace hq := hq.2 c_11
  refine lv_lookup (off := (89 : Int)) (tgt := 95) hM.1 hM.2.1 dX7_doOrder_6 (by decide) (r_off _ (fun q hq9 => ?_)) (by decide) ?_
  · simp only [List.mem_cons, List.not_mem_nil, or_false] at hq9
    rcases hq9 with rfl | rfl | rfl
    · exact fun h9 => c_2 (Int32.toInt_inj.mp h9)
    · exact fun h9 => c_6 (Int32.toInt_inj.mp h9)
    · exact fun h9 => c_11 (Int32.toInt_inj.mp h9)
  refine lv_aload_n hM.1 hM.2.1 dX7_doOrder_95 rfl (lv_at hl 0 rfl) ?_
  refine lv_aload_n hM.1 hM.2.1 dX7_doOrder_96 rfl (lv_at hl 0 rfl) ?_
  refine g15 hM hK hX m15 15 (by decide) qf_RX7_38 rfl dX7_doOrder_97 ?_
  refine lv_iload_n hM.1 hM.2.1 dX7_doOrder_100 rfl (lv_at hl 1 rfl) ?_
  have c_17 := hq.1
  replace hq := hq.2
  refine r_iald hM hK hX m25 (a25 0 0) c_17 dX7_doOrder_101 ?_
  refine cVi (As := [.int (S 25 0 0 x1.toNatClampNeg)]) hM hK hX hA (met_X7_calibrateNow l D ad cy S (S 25 0 0 x1.toNatClampNeg) hq) (kX7_calibrateNow hM.2.2.2.2 ql_RX7_144 (Nat.le_of_ble_eq_true rfl) (Nat.le_of_ble_eq_true rfl)) (v15 hK hX m15) rfl hl.1 rfl (Nat.le_of_ble_eq_true rfl) dX7_doOrder_102 ⟨Nat.zero_le _, Nat.zero_le _⟩ (fun S_18 r_19 hq H locs hX => ?_)
  exact e_i hM hX hlocks hret hq dX7_doOrder_105
