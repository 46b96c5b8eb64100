def rmX6_meanError : Room := { frames := 3, cells := 0, slots := 0, locals := 64 }
theorem kX6_meanError {R : Room} {s : State} {args : Array Value} {own : String} {index : Nat} (ht : ∀ w ∈ lw_all, w.before args s = true) (hl : Cond.methodLink own index yX6_meanError ∈ lw_all) (hf : rmX6_meanError.frames + 1 ≤ R.frames) (hlo : 8 + (2 + 11) + rmX6_meanError.locals ≤ R.locals) : CallW R s args own RX6 index yX6_meanError cX6_meanError 2 (some Jvm.ClassFile.FieldType.double) (wA yX6_meanError cX6_meanError 2 (some Jvm.ClassFile.FieldType.double)) rmX6_meanError 0 0 0 := cwV 0 ht (good_V hl qm_yX6_meanError qs_yX6_meanError qi_RX6 qc_yX6_meanError) rfl rfl rfl (by decide +kernel) ⟨hf, hlo⟩
set_option maxRecDepth 100000 in
set_option maxHeartbeats 4000000 in
theorem met_X6_meanError (l : Launch) (D : va_G) (ad : Adr) (cy : Nat → ClassId) (S : Mem) {Q : Mem → UInt64 → Prop} (hq : vc_X6_meanError S Q) : Cd l yX6_meanError (wA yX6_meanError cX6_meanError 2 (some Jvm.ClassFile.FieldType.double)) rmX6_meanError D ad cy [.ref (ad 14 0 0)] S Q := by
  intro o sz
  refine mkD (own := RX6) (lv := [(0, .ref (ad 14 0 0))]) (by decide) rfl (Nat.le_of_ble_eq_true rfl) rfl ?_
  intro p e s m below meth c ls hsz hM hlocks hret hK hA hX hl hd0
  unfold vc_X6_meanError at hq
  refine lv_aload_n hM.1 hM.2.1 dX6_meanError_0 rfl (lv_at hl 0 rfl) ?_
  refine g14 hM hK hX m14 0 (by decide) qf_RX6_10 rfl dX6_meanError_1 ?_
  refine cVi (As := []) hM hK hX hA (met_X3_countMended l D ad cy S 0 (by decide) hq) (kX3_countMended hM.2.2.2.2 ql_RX6_248 (Nat.le_of_ble_eq_true rfl) (Nat.le_of_ble_eq_true rfl)) (v3 hK hX (id_P (by decide)).2.1) rfl hl.1 rfl (Nat.le_of_ble_eq_true rfl) dX6_meanError_4 ⟨Nat.zero_le _, Nat.zero_le _⟩ (fun S_1 r_2 hq H locs hX => ?_)
  refine lv_istore_n (lv' := [(1, .int r_2), (0, .ref (ad 14 0 0))]) hM.1 hM.2.1 dX6_meanError_7 rfl hl (by decide) rfl (fun ls hl => ?_)
  refine lv_iload_n hM.1 hM.2.1 dX6_meanError_8 rfl (lv_at hl 0 rfl) ?_
  refine lv_if_ne (tgt := 16) hM.1 hM.2.1 dX6_meanError_9 (by decide) (fun c_3 => ?_) (fun c_3 => ?_)
  · replace hq := hq.1 c_3
    refine lv_aload_n hM.1 hM.2.1 dX6_meanError_16 rfl (lv_at hl 1 rfl) ?_
    refine g14 hM hK hX m14 0 (by decide) qf_RX6_10 rfl dX6_meanError_17 ?_
    refine cVi (As := []) hM hK hX hA (met_X3_sumOfErrors l D ad cy S_1 0 (by decide) hq) (kX3_sumOfErrors hM.2.2.2.2 ql_RX6_251 (Nat.le_of_ble_eq_true rfl) (Nat.le_of_ble_eq_true rfl)) (v3 hK hX (id_P (by decide)).2.1) rfl hl.1 rfl (Nat.le_of_ble_eq_true rfl) dX6_meanError_20 ⟨Nat.zero_le _, Nat.zero_le _⟩ (fun S_4 r_5 hq H locs hX => ?_)
    refine lv_i2d hM.1 hM.2.1 dX6_meanError_23 ?_
    refine lv_iload_n hM.1 hM.2.1 dX6_meanError_24 rfl (lv_at hl 0 rfl) ?_
    refine lv_i2d hM.1 hM.2.1 dX6_meanError_25 ?_
    refine lv_ddiv_any hd0 lw_bits hM.1 hM.2.1 dX6_meanError_26 (fun r_6 d1 h_7 hd0 => ?_)
    replace hq := hq r_6 h_7
    exact e_d hM hd0 hX hlocks hret hq dX6_meanError_27
  replace hq := hq.2 c_3
  refine lv_dconst0 hM.1 hM.2.1 dX6_meanError_12 ?_
  refine lv_goto (tgt := 27) hM.1 hM.2.1 dX6_meanError_13 (by decide) ?_
  exact e_d hM hd0 hX hlocks hret hq dX6_meanError_27
def rmX7_meanError : Room := { frames := 4, cells := 0, slots := 0, locals := 88 }
theorem kX7_meanError {R : Room} {s : State} {args : Array Value} {own : String} {index : Nat} (ht : ∀ w ∈ lw_all, w.before args s = true) (hl : Cond.methodLink own index yX7_meanError ∈ lw_all) (hf : rmX7_meanError.frames + 1 ≤ R.frames) (hlo : 8 + (4 + 11) + rmX7_meanError.locals ≤ R.locals) : CallW R s args own RX7 index yX7_meanError cX7_meanError 4 (some Jvm.ClassFile.FieldType.double) (wA yX7_meanError cX7_meanError 4 (some Jvm.ClassFile.FieldType.double)) rmX7_meanError 0 0 0 := cwV 0 ht (good_V hl qm_yX7_meanError qs_yX7_meanError qi_RX7 qc_yX7_meanError) rfl rfl rfl (by decide +kernel) ⟨hf, hlo⟩
set_option maxRecDepth 100000 in
set_option maxHeartbeats 4000000 in
theorem met_X7_meanError (l : Launch) (D : va_G) (ad : Adr) (cy : Nat → ClassId) (S : Mem) {Q : Mem → UInt64 → Prop} (hq : vc_X7_meanError S Q) : Cd l yX7_meanError (wA yX7_meanError cX7_meanError 4 (some Jvm.ClassFile.FieldType.double)) rmX7_meanError D ad cy [.ref (ad 15 0 0)] S Q := by
  intro o sz
  refine mkD (own := RX7) (lv := [(0, .ref (ad 15 0 0))]) (by decide) rfl (Nat.le_of_ble_eq_true rfl) rfl ?_
  intro p e s m below meth c ls hsz hM hlocks hret hK hA hX hl hd0
  have J60 : ∀ {K0 : Mem → Int32 → Int32 → Int32 → Prop} (hk0 : ∀ (S : Mem) (y1 : Int32) (y2 : Int32) (y3 : Int32), K0 S y1 y2 y3 → ∀ (H : Heap) (locs : List Loc) (ls : Array Slot), PW D ad cy (AW ad sz) s.heap o S H locs → lv_has ls 4 [(0, .ref (ad 15 0 0)), (1, .int y1), (2, .int y2), (3, .int y3)] → W p l e rmX7_meanError (s.setDrawn s.drawn) m [.ref (ad 15 0 0)].toArray below meth c H locs 0 0 (MQD lw_cs below (Qd D ad cy o sz Q) [.ref (ad 15 0 0)].toArray s 0 0 (AW ad sz)) (F0 m 11 ls [])), ∀ {K1 : Mem → Int32 → Int32 → Prop} (hk1 : ∀ (S : Mem) (y1 : Int32) (y2 : Int32), K1 S y1 y2 → ∀ (H : Heap) (locs : List Loc) (ls : Array Slot), PW D ad cy (AW ad sz) s.heap o S H locs → lv_has ls 4 [(1, .int y1), (2, .int y2)] → W p l e rmX7_meanError (s.setDrawn s.drawn) m [.ref (ad 15 0 0)].toArray below meth c H locs 0 0 (MQD lw_cs below (Qd D ad cy o sz Q) [.ref (ad 15 0 0)].toArray s 0 0 (AW ad sz)) (F0 m 68 ls [])), ∀ (S : Mem) (y1 : Int32) (y3 : Int32) (w0 : Int32) (w1 : Int32), vc_X7_meanError_J60 Q K0 K1 S y1 y3 w0 w1 → ∀ (H : Heap) (locs : List Loc) (ls : Array Slot), PW D ad cy (AW ad sz) s.heap o S H locs → lv_has ls 4 [(0, .ref (ad 15 0 0)), (1, .int y1), (3, .int y3)] → W p l e rmX7_meanError (s.setDrawn s.drawn) m [.ref (ad 15 0 0)].toArray below meth c H locs 0 0 (MQD lw_cs below (Qd D ad cy o sz Q) [.ref (ad 15 0 0)].toArray s 0 0 (AW ad sz)) (F0 m 60 ls [.int w1, .int w0]) := by
    intro K0 hk0 K1 hk1 S y1 y3 w0 w1 hq H locs ls hX hl
    unfold vc_X7_meanError_J60 at hq
    refine lv_iadd hM.1 hM.2.1 dX7_meanError_60 ?_
    refine lv_istore_n (lv' := [(2, .int (w0 + w1)), (0, .ref (ad 15 0 0)), (1, .int y1), (3, .int y3)]) hM.1 hM.2.1 dX7_meanError_61 rfl hl (by decide) rfl (fun ls hl => ?_)
    refine lv_iinc (v := (y3 + (1 : Int32))) (lv' := [(3, .int (y3 + (1 : Int32))), (2, .int (w0 + w1)), (0, .ref (ad 15 0 0)), (1, .int y1)]) hM.1 hM.2.1 dX7_meanError_62 hl (k := 3) rfl rfl (by decide) rfl (fun ls hl => ?_)
    refine lv_goto (tgt := 11) hM.1 hM.2.1 dX7_meanError_65 (by decide) ?_
    exact hk0 S y1 (w0 + w1) (y3 + (1 : Int32)) hq _ _ _ hX (lv_sub hl [2, 3, 1, 0] rfl)
  have J42 : ∀ {K0 : Mem → Int32 → Int32 → Int32 → Prop} (hk0 : ∀ (S : Mem) (y1 : Int32) (y2 : Int32) (y3 : Int32), K0 S y1 y2 y3 → ∀ (H : Heap) (locs : List Loc) (ls : Array Slot), PW D ad cy (AW ad sz) s.heap o S H locs → lv_has ls 4 [(0, .ref (ad 15 0 0)), (1, .int y1), (2, .int y2), (3, .int y3)] → W p l e rmX7_meanError (s.setDrawn s.drawn) m [.ref (ad 15 0 0)].toArray below meth c H locs 0 0 (MQD lw_cs below (Qd D ad cy o sz Q) [.ref (ad 15 0 0)].toArray s 0 0 (AW ad sz)) (F0 m 11 ls [])), ∀ {K1 : Mem → Int32 → Int32 → Prop} (hk1 : ∀ (S : Mem) (y1 : Int32) (y2 : Int32), K1 S y1 y2 → ∀ (H : Heap) (locs : List Loc) (ls : Array Slot), PW D ad cy (AW ad sz) s.heap o S H locs → lv_has ls 4 [(1, .int y1), (2, .int y2)] → W p l e rmX7_meanError (s.setDrawn s.drawn) m [.ref (ad 15 0 0)].toArray below meth c H locs 0 0 (MQD lw_cs below (Qd D ad cy o sz Q) [.ref (ad 15 0 0)].toArray s 0 0 (AW ad sz)) (F0 m 68 ls [])), ∀ (S : Mem) (y2 : Int32) (y3 : Int32) (w0 : Int32) (w1 : Int32), vc_X7_meanError_J42 Q K0 K1 S y2 y3 w0 w1 → ∀ (H : Heap) (locs : List Loc) (ls : Array Slot), PW D ad cy (AW ad sz) s.heap o S H locs → lv_has ls 4 [(0, .ref (ad 15 0 0)), (2, .int y2), (3, .int y3)] → W p l e rmX7_meanError (s.setDrawn s.drawn) m [.ref (ad 15 0 0)].toArray below meth c H locs 0 0 (MQD lw_cs below (Qd D ad cy o sz Q) [.ref (ad 15 0 0)].toArray s 0 0 (AW ad sz)) (F0 m 42 ls [.int w1, .int w0]) := by
    intro K0 hk0 K1 hk1 S y2 y3 w0 w1 hq H locs ls hX hl
    unfold vc_X7_meanError_J42 at hq
    refine lv_iadd hM.1 hM.2.1 dX7_meanError_42 ?_
    refine lv_istore_n (lv' := [(1, .int (w0 + w1)), (0, .ref (ad 15 0 0)), (2, .int y2), (3, .int y3)]) hM.1 hM.2.1 dX7_meanError_43 rfl hl (by decide) rfl (fun ls hl => ?_)
    refine lv_iload_n hM.1 hM.2.1 dX7_meanError_44 rfl (lv_at hl 2 rfl) ?_
    refine lv_aload_n hM.1 hM.2.1 dX7_meanError_45 rfl (lv_at hl 1 rfl) ?_
    refine lv_iload_n hM.1 hM.2.1 dX7_meanError_46 rfl (lv_at hl 3 rfl) ?_
    refine lv_bipush (v := (7 : Int32)) hM.1 hM.2.1 dX7_meanError_47 (by decide) ?_
    refine cVi (As := [.int y3, .int (7 : Int32)]) hM hK hX hA (met_X7_of l D ad cy S y3 (7 : Int32) hq) (kX7_of hM.2.2.2.2 ql_RX7_66 (Nat.le_of_ble_eq_true rfl) (Nat.le_of_ble_eq_true rfl)) (v15 hK hX m15) rfl hl.1 rfl (Nat.le_of_ble_eq_true rfl) dX7_meanError_49 ⟨Nat.zero_le _, Nat.zero_le _⟩ (fun S_8 r_9 hq H locs hX => ?_)
    refine lv_if_le (tgt := 59) hM.1 hM.2.1 dX7_meanError_52 (by decide) (fun c_10 => ?_) (fun c_10 => ?_)
    · replace hq := hq.1 c_10
      refine lv_iconst (v := (0 : Int32)) hM.1 hM.2.1 dX7_meanError_59 (by decide) ?_
      exact J60 hk0 hk1 S_8 (w0 + w1) y3 y2 (0 : Int32) hq _ _ _ hX (lv_sub hl [1, 0, 3] rfl)
    replace hq := hq.2 c_10
    refine lv_iconst (v := (1 : Int32)) hM.1 hM.2.1 dX7_meanError_55 (by decide) ?_
    refine lv_goto (tgt := 60) hM.1 hM.2.1 dX7_meanError_56 (by decide) ?_
    exact J60 hk0 hk1 S_8 (w0 + w1) y3 y2 (1 : Int32) hq _ _ _ hX (lv_sub hl [1, 0, 3] rfl)
  have L11 : ∀ {K : Mem → Int32 → Int32 → Prop} (hk : ∀ (S : Mem) (y1 : Int32) (y2 : Int32), K S y1 y2 → ∀ (H : Heap) (locs : List Loc) (ls : Array Slot), PW D ad cy (AW ad sz) s.heap o S H locs → lv_has ls 4 [(1, .int y1), (2, .int y2)] → W p l e rmX7_meanError (s.setDrawn s.drawn) m [.ref (ad 15 0 0)].toArray below meth c H locs 0 0 (MQD lw_cs below (Qd D ad cy o sz Q) [.ref (ad 15 0 0)].toArray s 0 0 (AW ad sz)) (F0 m 68 ls [])), ∀ (n : Nat) (S : Mem) (y1 : Int32) (y2 : Int32) (y3 : Int32), vc_X7_meanError_L11 Q K n S y1 y2 y3 → ∀ (H : Heap) (locs : List Loc) (ls : Array Slot), PW D ad cy (AW ad sz) s.heap o S H locs → lv_has ls 4 [(0, .ref (ad 15 0 0)), (1, .int y1), (2, .int y2), (3, .int y3)] → W p l e rmX7_meanError (s.setDrawn s.drawn) m [.ref (ad 15 0 0)].toArray below meth c H locs 0 0 (MQD lw_cs below (Qd D ad cy o sz Q) [.ref (ad 15 0 0)].toArray s 0 0 (AW ad sz)) (F0 m 11 ls []) := by
    intro K hk n
    induction n with
    | zero =>
      intro S y1 y2 y3 hq
      rw [vc_X7_meanError_L11] at hq
      exact hq.elim
    | succ n ih =>
      intro S y1 y2 y3 hq H locs ls hX hl
      rw [vc_X7_meanError_L11] at hq
      refine lv_iload_n hM.1 hM.2.1 dX7_meanError_11 rfl (lv_at hl 3 rfl) ?_
      refine lv_aload_n hM.1 hM.2.1 dX7_meanError_12 rfl (lv_at hl 0 rfl) ?_
      refine g15 hM hK hX m15 0 (by decide) qf_RX7_7 rfl dX7_meanError_13 ?_
      refine lv_bipush (v := (15 : Int32)) hM.1 hM.2.1 dX7_meanError_16 (by decide) ?_
      have c_3 := hq.1
      replace hq := hq.2
      refine r_iald hM hK hX m16 (a16 0 0) c_3 dX7_meanError_18 ?_
      refine lv_icmp_ge (tgt := 68) hM.1 hM.2.1 dX7_meanError_19 (by decide) (fun c_4 => ?_) (fun c_4 => ?_)
      · replace hq := hq.1 c_4
        exact hk S y1 y2 hq _ _ _ hX (lv_sub hl [1, 2] rfl)
      replace hq := hq.2 c_4
      refine lv_iload_n hM.1 hM.2.1 dX7_meanError_22 rfl (lv_at hl 1 rfl) ?_
      refine lv_aload_n hM.1 hM.2.1 dX7_meanError_23 rfl (lv_at hl 0 rfl) ?_
      refine lv_iload_n hM.1 hM.2.1 dX7_meanError_24 rfl (lv_at hl 3 rfl) ?_
      refine lv_bipush (v := (7 : Int32)) hM.1 hM.2.1 dX7_meanError_25 (by decide) ?_
      refine cVi (As := [.int y3, .int (7 : Int32)]) hM hK hX hA (met_X7_of l D ad cy S y3 (7 : Int32) hq) (kX7_of hM.2.2.2.2 ql_RX7_66 (Nat.le_of_ble_eq_true rfl) (Nat.le_of_ble_eq_true rfl)) (v15 hK hX m15) rfl hl.1 rfl (Nat.le_of_ble_eq_true rfl) dX7_meanError_27 ⟨Nat.zero_le _, Nat.zero_le _⟩ (fun S_5 r_6 hq H locs hX => ?_)
      refine lv_if_le (tgt := 41) hM.1 hM.2.1 dX7_meanError_30 (by decide) (fun c_7 => ?_) (fun c_7 => ?_)
      · replace hq := hq.1 c_7
        refine lv_iconst (v := (0 : Int32)) hM.1 hM.2.1 dX7_meanError_41 (by decide) ?_
        exact J42 ih hk S_5 y2 y3 y1 (0 : Int32) hq _ _ _ hX (lv_sub hl [0, 2, 3] rfl)
      replace hq := hq.2 c_7
      refine lv_aload_n hM.1 hM.2.1 dX7_meanError_33 rfl (lv_at hl 0 rfl) ?_
      refine lv_iload_n hM.1 hM.2.1 dX7_meanError_34 rfl (lv_at hl 3 rfl) ?_
      refine cVi (As := [.int y3]) hM hK hX hA (met_X7_off l D ad cy S_5 y3 hq) (kX7_off hM.2.2.2.2 ql_RX7_207 (Nat.le_of_ble_eq_true rfl) (Nat.le_of_ble_eq_true rfl)) (v15 hK hX m15) rfl hl.1 rfl (Nat.le_of_ble_eq_true rfl) dX7_meanError_35 ⟨Nat.zero_le _, Nat.zero_le _⟩ (fun S_11 r_12 hq H locs hX => ?_)
      refine lv_goto (tgt := 42) hM.1 hM.2.1 dX7_meanError_38 (by decide) ?_
      exact J42 ih hk S_11 y2 y3 y1 r_12 hq _ _ _ hX (lv_sub hl [0, 2, 3] rfl)
  unfold vc_X7_meanError at hq
  refine lv_aload_n hM.1 hM.2.1 dX7_meanError_0 rfl (lv_at hl 0 rfl) ?_
  refine lv_iconst (v := (0 : Int32)) hM.1 hM.2.1 dX7_meanError_1 (by decide) ?_
  refine p15_6 hM hK hX m15 qf_RX7_48 dX7_meanError_2 (fun S_1 e_2 H locs hX => ?_)
  replace hq := hq S_1 e_2
  refine lv_iconst (v := (0 : Int32)) hM.1 hM.2.1 dX7_meanError_5 (by decide) ?_
  refine lv_istore_n (lv' := [(1, .int (0 : Int32)), (0, .ref (ad 15 0 0))]) hM.1 hM.2.1 dX7_meanError_6 rfl hl (by decide) rfl (fun ls hl => ?_)
  refine lv_iconst (v := (0 : Int32)) hM.1 hM.2.1 dX7_meanError_7 (by decide) ?_
  refine lv_istore_n (lv' := [(2, .int (0 : Int32)), (1, .int (0 : Int32)), (0, .ref (ad 15 0 0))]) hM.1 hM.2.1 dX7_meanError_8 rfl hl (by decide) rfl (fun ls hl => ?_)
  refine lv_iconst (v := (0 : Int32)) hM.1 hM.2.1 dX7_meanError_9 (by decide) ?_
  refine lv_istore_n (lv' := [(3, .int (0 : Int32)), (2, .int (0 : Int32)), (1, .int (0 : Int32)), (0, .ref (ad 15 0 0))]) hM.1 hM.2.1 dX7_meanError_10 rfl hl (by decide) rfl (fun ls hl => ?_)
  obtain ⟨k0, hq⟩ := hq
  refine L11 (fun S_13 y1_14 y2_15 hq H locs ls hX hl => ?_) k0 S_1 (0 : Int32) (0 : Int32) (0 : Int32) hq _ _ _ hX (lv_sub hl [3, 2, 1, 0] rfl)
  refine lv_iload_n hM.1 hM.2.1 dX7_meanError_68 rfl (lv_at hl 1 rfl) ?_
  refine lv_if_ne (tgt := 76) hM.1 hM.2.1 dX7_meanError_69 (by decide) (fun c_16 => ?_) (fun c_16 => ?_)
  · replace hq := hq.1 c_16
    refine lv_iload_n hM.1 hM.2.1 dX7_meanError_76 rfl (lv_at hl 0 rfl) ?_
    refine lv_i2d hM.1 hM.2.1 dX7_meanError_77 ?_
    refine lv_iload_n hM.1 hM.2.1 dX7_meanError_78 rfl (lv_at hl 1 rfl) ?_
    refine lv_i2d hM.1 hM.2.1 dX7_meanError_79 ?_
    refine lv_ddiv_any hd0 lw_bits hM.1 hM.2.1 dX7_meanError_80 (fun r_17 d1 h_18 hd0 => ?_)
    replace hq := hq r_17 h_18
    exact e_d hM hd0 hX hlocks hret hq dX7_meanError_81
  replace hq := hq.2 c_16
  refine lv_dconst0 hM.1 hM.2.1 dX7_meanError_72 ?_
  refine lv_goto (tgt := 81) hM.1 hM.2.1 dX7_meanError_73 (by decide) ?_
  exact e_d hM hd0 hX hlocks hret hq dX7_meanError_81
