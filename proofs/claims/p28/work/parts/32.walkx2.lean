def rmX3_sumOfErrors : Room := { frames := 2, cells := 0, slots := 0, locals := 42 }
theorem kX3_sumOfErrors {R : Room} {s : State} {args : Array Value} {own : String} {index : Nat} (ht : ∀ w ∈ lw_all, w.before args s = true) (hl : Cond.methodLink own index yX3_sumOfErrors ∈ lw_all) (hf : rmX3_sumOfErrors.frames + 1 ≤ R.frames) (hlo : 8 + (3 + 11) + rmX3_sumOfErrors.locals ≤ R.locals) : CallW R s args own RX3 index yX3_sumOfErrors cX3_sumOfErrors 3 (some Jvm.ClassFile.FieldType.int) (wA yX3_sumOfErrors cX3_sumOfErrors 3 (some Jvm.ClassFile.FieldType.int)) rmX3_sumOfErrors 0 0 0 := cwV 0 ht (good_V hl qm_yX3_sumOfErrors qs_yX3_sumOfErrors qi_RX3 qc_yX3_sumOfErrors) rfl rfl rfl (by decide +kernel) ⟨hf, hlo⟩
set_option maxRecDepth 100000 in
set_option maxHeartbeats 4000000 in
theorem met_X3_sumOfErrors (l : Launch) (D : va_G) (ad : Adr) (cy : Nat → ClassId) (S : Mem) (P : Nat) {Q : Mem → Int32 → Prop} (hv : P < 11) (hq : vc_X3_sumOfErrors S P Q) : Ci l yX3_sumOfErrors (wA yX3_sumOfErrors cX3_sumOfErrors 3 (some Jvm.ClassFile.FieldType.int)) rmX3_sumOfErrors D ad cy (IN []) [.ref (ad 3 P 0)] S Q := by
  intro o sz hI
  refine mkC (own := RX3) (lv := [(0, .ref (ad 3 P 0))]) (by decide) rfl (Nat.le_of_ble_eq_true rfl) rfl ?_
  intro p e s m below meth c ls hsz hM hlocks hret hK hA hX hl
  have J38 : ∀ {K0 : Mem → Int32 → Int32 → Prop} (hk0 : ∀ (S : Mem) (y1 : Int32) (y2 : Int32), K0 S y1 y2 → ∀ (H : Heap) (locs : List Loc) (ls : Array Slot), PW D ad cy (AW ad o sz) s.heap o S H locs → lv_has ls 3 [(0, .ref (ad 3 P 0)), (1, .int y1), (2, .int y2)] → Wi D ad cy o sz Q p l e rmX3_sumOfErrors s m [.ref (ad 3 P 0)] below meth c H locs (F0 m 4 ls [])), ∀ {K1 : Mem → Int32 → Prop} (hk1 : ∀ (S : Mem) (y1 : Int32), K1 S y1 → ∀ (H : Heap) (locs : List Loc) (ls : Array Slot), PW D ad cy (AW ad o sz) s.heap o S H locs → lv_has ls 3 [(1, .int y1)] → Wi D ad cy o sz Q p l e rmX3_sumOfErrors s m [.ref (ad 3 P 0)] below meth c H locs (F0 m 44 ls [])), ∀ (S : Mem) (y1 : Int32) (y2 : Int32), vc_X3_sumOfErrors_J38 Q K0 K1 P S y1 y2 → ∀ (H : Heap) (locs : List Loc) (ls : Array Slot), PW D ad cy (AW ad o sz) s.heap o S H locs → lv_has ls 3 [(0, .ref (ad 3 P 0)), (1, .int y1), (2, .int y2)] → Wi D ad cy o sz Q p l e rmX3_sumOfErrors s m [.ref (ad 3 P 0)] below meth c H locs (F0 m 38 ls []) := by
    intro K0 hk0 K1 hk1 S y1 y2 hq H locs ls hX hl
    unfold vc_X3_sumOfErrors_J38 at hq
    refine lv_iinc (v := (y2 + (1 : Int32))) (lv' := [(2, .int (y2 + (1 : Int32))), (0, .ref (ad 3 P 0)), (1, .int y1)]) hM.1 hM.2.1 dX3_sumOfErrors_38 hl (k := 2) rfl rfl (by decide) rfl (fun ls hl => ?_)
    refine lv_goto (tgt := 4) hM.1 hM.2.1 dX3_sumOfErrors_41 (by decide) ?_
    exact hk0 S y1 (y2 + (1 : Int32)) hq _ _ _ hX (lv_sub hl [1, 2, 0] rfl)
  have L4 : ∀ {K : Mem → Int32 → Prop} (hk : ∀ (S : Mem) (y1 : Int32), K S y1 → ∀ (H : Heap) (locs : List Loc) (ls : Array Slot), PW D ad cy (AW ad o sz) s.heap o S H locs → lv_has ls 3 [(1, .int y1)] → Wi D ad cy o sz Q p l e rmX3_sumOfErrors s m [.ref (ad 3 P 0)] below meth c H locs (F0 m 44 ls [])), ∀ (n : Nat) (S : Mem) (y1 : Int32) (y2 : Int32), vc_X3_sumOfErrors_L4 Q K P n S y1 y2 → ∀ (H : Heap) (locs : List Loc) (ls : Array Slot), PW D ad cy (AW ad o sz) s.heap o S H locs → lv_has ls 3 [(0, .ref (ad 3 P 0)), (1, .int y1), (2, .int y2)] → Wi D ad cy o sz Q p l e rmX3_sumOfErrors s m [.ref (ad 3 P 0)] below meth c H locs (F0 m 4 ls []) := by
    intro K hk n
    induction n with
    | zero =>
      intro S y1 y2 hq
      rw [vc_X3_sumOfErrors_L4] at hq
      exact hq.elim
    | succ n ih =>
      intro S y1 y2 hq H locs ls hX hl
      rw [vc_X3_sumOfErrors_L4] at hq
      refine lv_iload_n hM.1 hM.2.1 dX3_sumOfErrors_4 rfl (lv_at hl 2 rfl) ?_
      refine lv_aload_n hM.1 hM.2.1 dX3_sumOfErrors_5 rfl (lv_at hl 0 rfl) ?_
      refine g3 hM hK hX (hI.1 _ (id_P hv).2.1) 6 (by decide) qf_RX3_50 rfl dX3_sumOfErrors_6 ?_
      refine lv_icmp_ge (tgt := 44) hM.1 hM.2.1 dX3_sumOfErrors_9 (by decide) (fun c_1 => ?_) (fun c_1 => ?_)
      · replace hq := hq.1 c_1
        exact hk S y1 hq _ _ _ hX (lv_sub hl [1] rfl)
      replace hq := hq.2 c_1
      refine lv_aload_n hM.1 hM.2.1 dX3_sumOfErrors_12 rfl (lv_at hl 0 rfl) ?_
      refine lv_iload_n hM.1 hM.2.1 dX3_sumOfErrors_13 rfl (lv_at hl 2 rfl) ?_
      refine cVr (As := [.int y2]) hM hK hX ⟨hI.1, trivial⟩ hA (met_X3_at l D ad cy S P y2 hv hq) (kX3_at hM.2.2.2.2 ql_RX3_53 (Nat.le_of_ble_eq_true rfl) (Nat.le_of_ble_eq_true rfl)) (v3 hK hX (hI.1 _ (id_P hv).2.1)) rfl hl.1 rfl (Nat.le_of_ble_eq_true rfl) dX3_sumOfErrors_14 ⟨Nat.zero_le _, Nat.zero_le _⟩ (fun S_2 P_3 i_4 hq H locs hX => ?_)
      have hT_5 := hq.1
      replace hq := hq.2
      refine cVi (As := []) hM hK hX ⟨hI.1, trivial⟩ hA (met_X5_hasMended l D ad cy S_2 P_3 i_4 hT_5 hq) (kX5_hasMended hM.2.2.2.2 ql_RX3_176 (Nat.le_of_ble_eq_true rfl) (Nat.le_of_ble_eq_true rfl)) (v5 hK hX (hI.1 _ (id_T hT_5).1)) rfl hl.1 rfl (Nat.le_of_ble_eq_true rfl) dX3_sumOfErrors_17 ⟨Nat.zero_le _, Nat.zero_le _⟩ (fun S_6 r_7 hq H locs hX => ?_)
      refine lv_if_eq (tgt := 38) hM.1 hM.2.1 dX3_sumOfErrors_20 (by decide) (fun c_8 => ?_) (fun c_8 => ?_)
      · replace hq := hq.1 c_8
        exact J38 ih hk S_6 y1 y2 hq _ _ _ hX (lv_sub hl [0, 1, 2] rfl)
      replace hq := hq.2 c_8
      refine lv_iload_n hM.1 hM.2.1 dX3_sumOfErrors_23 rfl (lv_at hl 1 rfl) ?_
      refine lv_aload_n hM.1 hM.2.1 dX3_sumOfErrors_24 rfl (lv_at hl 0 rfl) ?_
      refine lv_iload_n hM.1 hM.2.1 dX3_sumOfErrors_25 rfl (lv_at hl 2 rfl) ?_
      refine cVr (As := [.int y2]) hM hK hX ⟨hI.1, trivial⟩ hA (met_X3_at l D ad cy S_6 P y2 hv hq) (kX3_at hM.2.2.2.2 ql_RX3_53 (Nat.le_of_ble_eq_true rfl) (Nat.le_of_ble_eq_true rfl)) (v3 hK hX (hI.1 _ (id_P hv).2.1)) rfl hl.1 rfl (Nat.le_of_ble_eq_true rfl) dX3_sumOfErrors_26 ⟨Nat.zero_le _, Nat.zero_le _⟩ (fun S_9 P_10 i_11 hq H locs hX => ?_)
      refine lv_aload_n hM.1 hM.2.1 dX3_sumOfErrors_29 rfl (lv_at hl 0 rfl) ?_
      refine g3 hM hK hX (hI.1 _ (id_P hv).2.1) 8 (by decide) qf_RX3_41 rfl dX3_sumOfErrors_30 ?_
      have hT_12 := hq.1
      replace hq := hq.2
      refine cVi (As := [.int (S_9 3 P 0 8)]) hM hK hX ⟨hI.1, trivial⟩ hA (met_X5_error l D ad cy S_9 P_10 i_11 (S_9 3 P 0 8) hT_12 hq) (kX5_error hM.2.2.2.2 ql_RX3_185 (Nat.le_of_ble_eq_true rfl) (Nat.le_of_ble_eq_true rfl)) (v5 hK hX (hI.1 _ (id_T hT_12).1)) rfl hl.1 rfl (Nat.le_of_ble_eq_true rfl) dX3_sumOfErrors_33 ⟨Nat.zero_le _, Nat.zero_le _⟩ (fun S_13 r_14 hq H locs hX => ?_)
      refine lv_iadd hM.1 hM.2.1 dX3_sumOfErrors_36 ?_
      refine lv_istore_n (lv' := [(1, .int (y1 + r_14)), (0, .ref (ad 3 P 0)), (2, .int y2)]) hM.1 hM.2.1 dX3_sumOfErrors_37 rfl hl (by decide) rfl (fun ls hl => ?_)
      exact J38 ih hk S_13 (y1 + r_14) y2 hq _ _ _ hX (lv_sub hl [1, 0, 2] rfl)
  unfold vc_X3_sumOfErrors at hq
  refine lv_iconst (v := (0 : Int32)) hM.1 hM.2.1 dX3_sumOfErrors_0 (by decide) ?_
  refine lv_istore_n (lv' := [(1, .int (0 : Int32)), (0, .ref (ad 3 P 0))]) hM.1 hM.2.1 dX3_sumOfErrors_1 rfl hl (by decide) rfl (fun ls hl => ?_)
  refine lv_iconst (v := (0 : Int32)) hM.1 hM.2.1 dX3_sumOfErrors_2 (by decide) ?_
  refine lv_istore_n (lv' := [(2, .int (0 : Int32)), (1, .int (0 : Int32)), (0, .ref (ad 3 P 0))]) hM.1 hM.2.1 dX3_sumOfErrors_3 rfl hl (by decide) rfl (fun ls hl => ?_)
  obtain ⟨k0, hq⟩ := hq
  refine L4 (fun S_15 y1_16 hq H locs ls hX hl => ?_) k0 S (0 : Int32) (0 : Int32) hq _ _ _ hX (lv_sub hl [2, 1, 0] rfl)
  refine lv_iload_n hM.1 hM.2.1 dX3_sumOfErrors_44 rfl (lv_at hl 0 rfl) ?_
  exact e_i hM hX hlocks hret hq dX3_sumOfErrors_45
def rmX5_distance : Room := { frames := 1, cells := 0, slots := 0, locals := 21 }
theorem kX5_distance {R : Room} {s : State} {args : Array Value} {own : String} {index : Nat} (ht : ∀ w ∈ lw_all, w.before args s = true) (hl : Cond.methodLink own index yX5_distance ∈ lw_all) (hf : rmX5_distance.frames + 1 ≤ R.frames) (hlo : 8 + (2 + 11) + rmX5_distance.locals ≤ R.locals) : CallW R s args own RX5 index yX5_distance cX5_distance 2 (some Jvm.ClassFile.FieldType.int) (wA yX5_distance cX5_distance 2 (some Jvm.ClassFile.FieldType.int)) rmX5_distance 0 0 1 := cwV 1 ht (good_V hl qm_yX5_distance qs_yX5_distance qi_RX5 qc_yX5_distance) rfl rfl rfl (by decide +kernel) ⟨hf, hlo⟩
set_option maxRecDepth 100000 in
set_option maxHeartbeats 4000000 in
theorem met_X5_distance (l : Launch) (D : va_G) (ad : Adr) (cy : Nat → ClassId) (S : Mem) (P : Nat) (i : Nat) (x1 : Int32) {Q : Mem → Int32 → Prop} (hv : P < 11 ∧ i < 11) (hq : vc_X5_distance S P i x1 Q) : Ci l yX5_distance (wA yX5_distance cX5_distance 2 (some Jvm.ClassFile.FieldType.int)) rmX5_distance D ad cy (IN []) [.ref (ad 5 P i), .int x1] S Q := by
  intro o sz hI
  refine mkC (own := RX5) (lv := [(0, .ref (ad 5 P i)), (1, .int x1)]) (by decide) rfl (Nat.le_of_ble_eq_true rfl) rfl ?_
  intro p e s m below meth c ls hsz hM hlocks hret hK hA hX hl
  unfold vc_X5_distance at hq
  refine lv_aload_n hM.1 hM.2.1 dX5_distance_0 rfl (lv_at hl 0 rfl) ?_
  refine g5 hM hK hX (hI.1 _ (id_T hv).1) 7 (by decide) qf_RX5_42 rfl dX5_distance_1 ?_
  refine lv_aload_n hM.1 hM.2.1 dX5_distance_4 rfl (lv_at hl 0 rfl) ?_
  refine g5 hM hK hX (hI.1 _ (id_T hv).1) 4 (by decide) qf_RX5_32 rfl dX5_distance_5 ?_
  refine lv_isub hM.1 hM.2.1 dX5_distance_8 ?_
  refine lv_iload_n hM.1 hM.2.1 dX5_distance_9 rfl (lv_at hl 1 rfl) ?_
  refine lv_isub hM.1 hM.2.1 dX5_distance_10 ?_
  refine r_abs hM hl.1 ql_RX5_94 (Nat.le_of_ble_eq_true rfl) (Nat.le_of_ble_eq_true rfl) (Nat.le_of_ble_eq_true rfl) (Nat.le_of_ble_eq_true rfl) dX5_distance_11 ?_
  exact e_i hM hX hlocks hret hq dX5_distance_14
def rmX3_greatestDistance : Room := { frames := 2, cells := 0, slots := 0, locals := 42 }
theorem kX3_greatestDistance {R : Room} {s : State} {args : Array Value} {own : String} {index : Nat} (ht : ∀ w ∈ lw_all, w.before args s = true) (hl : Cond.methodLink own index yX3_greatestDistance ∈ lw_all) (hf : rmX3_greatestDistance.frames + 1 ≤ R.frames) (hlo : 8 + (3 + 11) + rmX3_greatestDistance.locals ≤ R.locals) : CallW R s args own RX3 index yX3_greatestDistance cX3_greatestDistance 3 (some Jvm.ClassFile.FieldType.int) (wA yX3_greatestDistance cX3_greatestDistance 3 (some Jvm.ClassFile.FieldType.int)) rmX3_greatestDistance 0 0 0 := cwV 0 ht (good_V hl qm_yX3_greatestDistance qs_yX3_greatestDistance qi_RX3 qc_yX3_greatestDistance) rfl rfl rfl (by decide +kernel) ⟨hf, hlo⟩
set_option maxRecDepth 100000 in
set_option maxHeartbeats 4000000 in
theorem met_X3_greatestDistance (l : Launch) (D : va_G) (ad : Adr) (cy : Nat → ClassId) (S : Mem) (P : Nat) {Q : Mem → Int32 → Prop} (hv : P < 11) (hq : vc_X3_greatestDistance S P Q) : Ci l yX3_greatestDistance (wA yX3_greatestDistance cX3_greatestDistance 3 (some Jvm.ClassFile.FieldType.int)) rmX3_greatestDistance D ad cy (IN []) [.ref (ad 3 P 0)] S Q := by
  intro o sz hI
  refine mkC (own := RX3) (lv := [(0, .ref (ad 3 P 0))]) (by decide) rfl (Nat.le_of_ble_eq_true rfl) rfl ?_
  intro p e s m below meth c ls hsz hM hlocks hret hK hA hX hl
  have L4 : ∀ {K : Mem → Int32 → Prop} (hk : ∀ (S : Mem) (y1 : Int32), K S y1 → ∀ (H : Heap) (locs : List Loc) (ls : Array Slot), PW D ad cy (AW ad o sz) s.heap o S H locs → lv_has ls 3 [(1, .int y1)] → Wi D ad cy o sz Q p l e rmX3_greatestDistance s m [.ref (ad 3 P 0)] below meth c H locs (F0 m 35 ls [])), ∀ (n : Nat) (S : Mem) (y1 : Int32) (y2 : Int32), vc_X3_greatestDistance_L4 Q K P n S y1 y2 → ∀ (H : Heap) (locs : List Loc) (ls : Array Slot), PW D ad cy (AW ad o sz) s.heap o S H locs → lv_has ls 3 [(0, .ref (ad 3 P 0)), (1, .int y1), (2, .int y2)] → Wi D ad cy o sz Q p l e rmX3_greatestDistance s m [.ref (ad 3 P 0)] below meth c H locs (F0 m 4 ls []) := by
    intro K hk n
    induction n with
    | zero =>
      intro S y1 y2 hq
      rw [vc_X3_greatestDistance_L4] at hq
      exact hq.elim
    | succ n ih =>
      intro S y1 y2 hq H locs ls hX hl
      rw [vc_X3_greatestDistance_L4] at hq
      refine lv_iload_n hM.1 hM.2.1 dX3_greatestDistance_4 rfl (lv_at hl 2 rfl) ?_
      refine lv_aload_n hM.1 hM.2.1 dX3_greatestDistance_5 rfl (lv_at hl 0 rfl) ?_
      refine g3 hM hK hX (hI.1 _ (id_P hv).2.1) 6 (by decide) qf_RX3_50 rfl dX3_greatestDistance_6 ?_
      refine lv_icmp_ge (tgt := 35) hM.1 hM.2.1 dX3_greatestDistance_9 (by decide) (fun c_1 => ?_) (fun c_1 => ?_)
      · replace hq := hq.1 c_1
        exact hk S y1 hq _ _ _ hX (lv_sub hl [1] rfl)
      replace hq := hq.2 c_1
      refine lv_iload_n hM.1 hM.2.1 dX3_greatestDistance_12 rfl (lv_at hl 1 rfl) ?_
      refine lv_aload_n hM.1 hM.2.1 dX3_greatestDistance_13 rfl (lv_at hl 0 rfl) ?_
      refine lv_iload_n hM.1 hM.2.1 dX3_greatestDistance_14 rfl (lv_at hl 2 rfl) ?_
      refine cVr (As := [.int y2]) hM hK hX ⟨hI.1, trivial⟩ hA (met_X3_at l D ad cy S P y2 hv hq) (kX3_at hM.2.2.2.2 ql_RX3_53 (Nat.le_of_ble_eq_true rfl) (Nat.le_of_ble_eq_true rfl)) (v3 hK hX (hI.1 _ (id_P hv).2.1)) rfl hl.1 rfl (Nat.le_of_ble_eq_true rfl) dX3_greatestDistance_15 ⟨Nat.zero_le _, Nat.zero_le _⟩ (fun S_2 P_3 i_4 hq H locs hX => ?_)
      refine lv_aload_n hM.1 hM.2.1 dX3_greatestDistance_18 rfl (lv_at hl 0 rfl) ?_
      refine g3 hM hK hX (hI.1 _ (id_P hv).2.1) 8 (by decide) qf_RX3_41 rfl dX3_greatestDistance_19 ?_
      have hT_5 := hq.1
      replace hq := hq.2
      refine cVi (As := [.int (S_2 3 P 0 8)]) hM hK hX ⟨hI.1, trivial⟩ hA (met_X5_distance l D ad cy S_2 P_3 i_4 (S_2 3 P 0 8) hT_5 hq) (kX5_distance hM.2.2.2.2 ql_RX3_188 (Nat.le_of_ble_eq_true rfl) (Nat.le_of_ble_eq_true rfl)) (v5 hK hX (hI.1 _ (id_T hT_5).1)) rfl hl.1 rfl (Nat.le_of_ble_eq_true rfl) dX3_greatestDistance_22 ⟨Nat.zero_le _, Nat.zero_le _⟩ (fun S_6 r_7 hq H locs hX => ?_)
      refine r_max hM hl.1 ql_RX3_98 (Nat.le_of_ble_eq_true rfl) (Nat.le_of_ble_eq_true rfl) (Nat.le_of_ble_eq_true rfl) (Nat.le_of_ble_eq_true rfl) dX3_greatestDistance_25 ?_
      refine lv_istore_n (lv' := [(1, .int (imax y1 r_7)), (0, .ref (ad 3 P 0)), (2, .int y2)]) hM.1 hM.2.1 dX3_greatestDistance_28 rfl hl (by decide) rfl (fun ls hl => ?_)
      refine lv_iinc (v := (y2 + (1 : Int32))) (lv' := [(2, .int (y2 + (1 : Int32))), (1, .int (imax y1 r_7)), (0, .ref (ad 3 P 0))]) hM.1 hM.2.1 dX3_greatestDistance_29 hl (k := 2) rfl rfl (by decide) rfl (fun ls hl => ?_)
      refine lv_goto (tgt := 4) hM.1 hM.2.1 dX3_greatestDistance_32 (by decide) ?_
      exact ih S_6 (imax y1 r_7) (y2 + (1 : Int32)) hq _ _ _ hX (lv_sub hl [2, 1, 0] rfl)
  unfold vc_X3_greatestDistance at hq
  refine lv_iconst (v := (0 : Int32)) hM.1 hM.2.1 dX3_greatestDistance_0 (by decide) ?_
  refine lv_istore_n (lv' := [(1, .int (0 : Int32)), (0, .ref (ad 3 P 0))]) hM.1 hM.2.1 dX3_greatestDistance_1 rfl hl (by decide) rfl (fun ls hl => ?_)
  refine lv_iconst (v := (0 : Int32)) hM.1 hM.2.1 dX3_greatestDistance_2 (by decide) ?_
  refine lv_istore_n (lv' := [(2, .int (0 : Int32)), (1, .int (0 : Int32)), (0, .ref (ad 3 P 0))]) hM.1 hM.2.1 dX3_greatestDistance_3 rfl hl (by decide) rfl (fun ls hl => ?_)
  obtain ⟨k0, hq⟩ := hq
  refine L4 (fun S_8 y1_9 hq H locs ls hX hl => ?_) k0 S (0 : Int32) (0 : Int32) hq _ _ _ hX (lv_sub hl [2, 1, 0] rfl)
  refine lv_iload_n hM.1 hM.2.1 dX3_greatestDistance_35 rfl (lv_at hl 0 rfl) ?_
  exact e_i hM hX hlocks hret hq dX3_greatestDistance_36
def rmX5_hoursUntilStill : Room := { frames := 2, cells := 0, slots := 0, locals := 43 }
theorem kX5_hoursUntilStill {R : Room} {s : State} {args : Array Value} {own : String} {index : Nat} (ht : ∀ w ∈ lw_all, w.before args s = true) (hl : Cond.methodLink own index yX5_hoursUntilStill ∈ lw_all) (hf : rmX5_hoursUntilStill.frames + 1 ≤ R.frames) (hlo : 8 + (5 + 11) + rmX5_hoursUntilStill.locals ≤ R.locals) : CallW R s args own RX5 index yX5_hoursUntilStill cX5_hoursUntilStill 5 (some Jvm.ClassFile.FieldType.int) (wA yX5_hoursUntilStill cX5_hoursUntilStill 5 (some Jvm.ClassFile.FieldType.int)) rmX5_hoursUntilStill 0 0 1 := cwV 1 ht (good_V hl qm_yX5_hoursUntilStill qs_yX5_hoursUntilStill qi_RX5 qc_yX5_hoursUntilStill) rfl rfl rfl (by decide +kernel) ⟨hf, hlo⟩
set_option maxRecDepth 100000 in
set_option maxHeartbeats 4000000 in
theorem met_X5_hoursUntilStill (l : Launch) (D : va_G) (ad : Adr) (cy : Nat → ClassId) (S : Mem) (P : Nat) (i : Nat) (x1 : Int32) {Q : Mem → Int32 → Prop} (hv : P < 11 ∧ i < 11) (hq : vc_X5_hoursUntilStill S P i x1 Q) : Ci l yX5_hoursUntilStill (wA yX5_hoursUntilStill cX5_hoursUntilStill 5 (some Jvm.ClassFile.FieldType.int)) rmX5_hoursUntilStill D ad cy (IN []) [.ref (ad 5 P i), .int x1] S Q := by
  intro o sz hI
  refine mkC (own := RX5) (lv := [(0, .ref (ad 5 P i)), (1, .int x1)]) (by decide) rfl (Nat.le_of_ble_eq_true rfl) rfl ?_
  intro p e s m below meth c ls hsz hM hlocks hret hK hA hX hl
  have L7 : ∀ {K : Mem → Prop} (hk : ∀ (S : Mem), K S → ∀ (H : Heap) (locs : List Loc) (ls : Array Slot), PW D ad cy (AW ad o sz) s.heap o S H locs → lv_has ls 5 [] → Wi D ad cy o sz Q p l e rmX5_hoursUntilStill s m [.ref (ad 5 P i), .int x1] below meth c H locs (F0 m 39 ls [])), ∀ (n : Nat) (S : Mem) (y2 : Int32) (y3 : Int32), vc_X5_hoursUntilStill_L7 Q K P i x1 n S y2 y3 → ∀ (H : Heap) (locs : List Loc) (ls : Array Slot), PW D ad cy (AW ad o sz) s.heap o S H locs → lv_has ls 5 [(0, .ref (ad 5 P i)), (1, .int x1), (2, .int y2), (3, .int y3)] → Wi D ad cy o sz Q p l e rmX5_hoursUntilStill s m [.ref (ad 5 P i), .int x1] below meth c H locs (F0 m 7 ls []) := by
    intro K hk n
    induction n with
    | zero =>
      intro S y2 y3 hq
      rw [vc_X5_hoursUntilStill_L7] at hq
      exact hq.elim
    | succ n ih =>
      intro S y2 y3 hq H locs ls hX hl
      rw [vc_X5_hoursUntilStill_L7] at hq
      refine lv_iload_n hM.1 hM.2.1 dX5_hoursUntilStill_7 rfl (lv_at hl 3 rfl) ?_
      refine lv_ldc hM.1 hM.2.1 hM.2.2.2.1 (hM.2.2.2.2 _ qn_RX5_66) dX5_hoursUntilStill_8 ?_
      refine lv_icmp_ge (tgt := 39) hM.1 hM.2.1 dX5_hoursUntilStill_10 (by decide) (fun c_1 => ?_) (fun c_1 => ?_)
      · replace hq := hq.1 c_1
        exact hk S hq _ _ _ hX (lv_sub hl [] rfl)
      replace hq := hq.2 c_1
      refine lv_aload_n hM.1 hM.2.1 dX5_hoursUntilStill_13 rfl (lv_at hl 0 rfl) ?_
      refine lv_iload_n hM.1 hM.2.1 dX5_hoursUntilStill_14 rfl (lv_at hl 2 rfl) ?_
      refine lv_iload_n hM.1 hM.2.1 dX5_hoursUntilStill_15 rfl (lv_at hl 1 rfl) ?_
      refine cVi (As := [.int y2, .int x1]) hM hK hX ⟨hI.1, trivial⟩ hA (met_X5_stepFrom l D ad cy S P i y2 x1 hv hq) (kX5_stepFrom hM.2.2.2.2 ql_RX5_59 (Nat.le_of_ble_eq_true rfl) (Nat.le_of_ble_eq_true rfl)) (v5 hK hX (hI.1 _ (id_T hv).1)) rfl hl.1 rfl (Nat.le_of_ble_eq_true rfl) dX5_hoursUntilStill_16 ⟨Nat.zero_le _, Nat.zero_le _⟩ (fun S_2 r_3 hq H locs hX => ?_)
      refine lv_istore (lv' := [(4, .int r_3), (0, .ref (ad 5 P i)), (1, .int x1), (2, .int y2), (3, .int y3)]) hM.1 hM.2.1 dX5_hoursUntilStill_19 hl (by decide) rfl (fun ls hl => ?_)
      refine lv_iload hM.1 hM.2.1 dX5_hoursUntilStill_21 (lv_at hl 0 rfl) ?_
      refine lv_if_ne (tgt := 28) hM.1 hM.2.1 dX5_hoursUntilStill_23 (by decide) (fun c_4 => ?_) (fun c_4 => ?_)
      · replace hq := hq.1 c_4
        refine lv_iload_n hM.1 hM.2.1 dX5_hoursUntilStill_28 rfl (lv_at hl 3 rfl) ?_
        refine lv_iload hM.1 hM.2.1 dX5_hoursUntilStill_29 (lv_at hl 0 rfl) ?_
        refine lv_iadd hM.1 hM.2.1 dX5_hoursUntilStill_31 ?_
        refine lv_istore_n (lv' := [(2, .int (y2 + r_3)), (4, .int r_3), (0, .ref (ad 5 P i)), (1, .int x1), (3, .int y3)]) hM.1 hM.2.1 dX5_hoursUntilStill_32 rfl hl (by decide) rfl (fun ls hl => ?_)
        refine lv_iinc (v := (y3 + (1 : Int32))) (lv' := [(3, .int (y3 + (1 : Int32))), (2, .int (y2 + r_3)), (4, .int r_3), (0, .ref (ad 5 P i)), (1, .int x1)]) hM.1 hM.2.1 dX5_hoursUntilStill_33 hl (k := 4) rfl rfl (by decide) rfl (fun ls hl => ?_)
        refine lv_goto (tgt := 7) hM.1 hM.2.1 dX5_hoursUntilStill_36 (by decide) ?_
        exact ih S_2 (y2 + r_3) (y3 + (1 : Int32)) hq _ _ _ hX (lv_sub hl [3, 4, 1, 0] rfl)
      replace hq := hq.2 c_4
      refine lv_iload_n hM.1 hM.2.1 dX5_hoursUntilStill_26 rfl (lv_at hl 4 rfl) ?_
      exact e_i hM hX hlocks hret hq dX5_hoursUntilStill_27
  unfold vc_X5_hoursUntilStill at hq
  refine lv_aload_n hM.1 hM.2.1 dX5_hoursUntilStill_0 rfl (lv_at hl 0 rfl) ?_
  refine g5 hM hK hX (hI.1 _ (id_T hv).1) 7 (by decide) qf_RX5_42 rfl dX5_hoursUntilStill_1 ?_
  refine lv_istore_n (lv' := [(2, .int (S 5 P i 7)), (0, .ref (ad 5 P i)), (1, .int x1)]) hM.1 hM.2.1 dX5_hoursUntilStill_4 rfl hl (by decide) rfl (fun ls hl => ?_)
  refine lv_iconst (v := (0 : Int32)) hM.1 hM.2.1 dX5_hoursUntilStill_5 (by decide) ?_
  refine lv_istore_n (lv' := [(3, .int (0 : Int32)), (2, .int (S 5 P i 7)), (0, .ref (ad 5 P i)), (1, .int x1)]) hM.1 hM.2.1 dX5_hoursUntilStill_6 rfl hl (by decide) rfl (fun ls hl => ?_)
  obtain ⟨k0, hq⟩ := hq
  refine L7 (fun S_5 hq H locs ls hX hl => ?_) k0 S (S 5 P i 7) (0 : Int32) hq _ _ _ hX (lv_sub hl [2, 3, 1, 0] rfl)
  refine lv_ldc hM.1 hM.2.1 hM.2.2.2.1 (hM.2.2.2.2 _ qn_RX5_66) dX5_hoursUntilStill_39 ?_
  exact e_i hM hX hlocks hret hq dX5_hoursUntilStill_41
def rmX5_valueAgo : Room := { frames := 1, cells := 0, slots := 0, locals := 21 }
theorem kX5_valueAgo {R : Room} {s : State} {args : Array Value} {own : String} {index : Nat} (ht : ∀ w ∈ lw_all, w.before args s = true) (hl : Cond.methodLink own index yX5_valueAgo ∈ lw_all) (hf : rmX5_valueAgo.frames + 1 ≤ R.frames) (hlo : 8 + (2 + 11) + rmX5_valueAgo.locals ≤ R.locals) : CallW R s args own RX5 index yX5_valueAgo cX5_valueAgo 2 (some Jvm.ClassFile.FieldType.int) (wA yX5_valueAgo cX5_valueAgo 2 (some Jvm.ClassFile.FieldType.int)) rmX5_valueAgo 0 0 1 := cwV 1 ht (good_V hl qm_yX5_valueAgo qs_yX5_valueAgo qi_RX5 qc_yX5_valueAgo) rfl rfl rfl (by decide +kernel) ⟨hf, hlo⟩
set_option maxRecDepth 100000 in
set_option maxHeartbeats 4000000 in
theorem met_X5_valueAgo (l : Launch) (D : va_G) (ad : Adr) (cy : Nat → ClassId) (S : Mem) (P : Nat) (i : Nat) (x1 : Int32) {Q : Mem → Int32 → Prop} (hv : P < 11 ∧ i < 11) (hq : vc_X5_valueAgo S P i x1 Q) : Ci l yX5_valueAgo (wA yX5_valueAgo cX5_valueAgo 2 (some Jvm.ClassFile.FieldType.int)) rmX5_valueAgo D ad cy (IN []) [.ref (ad 5 P i), .int x1] S Q := by
  intro o sz hI
  refine mkC (own := RX5) (lv := [(0, .ref (ad 5 P i)), (1, .int x1)]) (by decide) rfl (Nat.le_of_ble_eq_true rfl) rfl ?_
  intro p e s m below meth c ls hsz hM hlocks hret hK hA hX hl
  unfold vc_X5_valueAgo at hq
  refine lv_iload_n hM.1 hM.2.1 dX5_valueAgo_0 rfl (lv_at hl 1 rfl) ?_
  refine lv_aload_n hM.1 hM.2.1 dX5_valueAgo_1 rfl (lv_at hl 0 rfl) ?_
  refine g5 hM hK hX (hI.1 _ (id_T hv).1) 2 (by decide) qf_RX5_45 rfl dX5_valueAgo_2 ?_
  refine lv_icmp_ge (tgt := 19) hM.1 hM.2.1 dX5_valueAgo_5 (by decide) (fun c_1 => ?_) (fun c_1 => ?_)
  · replace hq := hq.1 c_1
    refine lv_ldc hM.1 hM.2.1 hM.2.2.2.1 (hM.2.2.2.2 _ qn_RX5_25) dX5_valueAgo_19 ?_
    exact e_i hM hX hlocks hret hq dX5_valueAgo_21
  replace hq := hq.2 c_1
  refine lv_aload_n hM.1 hM.2.1 dX5_valueAgo_8 rfl (lv_at hl 0 rfl) ?_
  refine g5 hM hK hX (hI.1 _ (id_T hv).1) 1 (by decide) qf_RX5_15 rfl dX5_valueAgo_9 ?_
  refine lv_iload_n hM.1 hM.2.1 dX5_valueAgo_12 rfl (lv_at hl 1 rfl) ?_
  refine cSNi (As := [.ref (ad 7 P i), .int x1]) hM hK hX ⟨hI.1, (hI.1 _ (id_T hv).2.2), trivial⟩ hA (met_X6_entry l D ad cy S 7 P i 6 x1 (fun _ _ => (a7 P i)) hq) (kNX6_entry hM.2.2.2.2 (hK.2 _ ql_RX5_80) (Nat.le_of_ble_eq_true rfl) (Nat.le_of_ble_eq_true rfl)) rfl hl.1 rfl (Nat.le_of_ble_eq_true rfl) dX5_valueAgo_13 ⟨Nat.zero_le _, Nat.zero_le _⟩ (fun S_2 r_3 hq H locs hX => ?_)
  refine lv_goto (tgt := 21) hM.1 hM.2.1 dX5_valueAgo_16 (by decide) ?_
  exact e_i hM hX hlocks hret hq dX5_valueAgo_21
def rmX5_lagNearestTo : Room := { frames := 2, cells := 0, slots := 0, locals := 45 }
theorem kX5_lagNearestTo {R : Room} {s : State} {args : Array Value} {own : String} {index : Nat} (ht : ∀ w ∈ lw_all, w.before args s = true) (hl : Cond.methodLink own index yX5_lagNearestTo ∈ lw_all) (hf : rmX5_lagNearestTo.frames + 1 ≤ R.frames) (hlo : 8 + (6 + 11) + rmX5_lagNearestTo.locals ≤ R.locals) : CallW R s args own RX5 index yX5_lagNearestTo cX5_lagNearestTo 6 (some Jvm.ClassFile.FieldType.int) (wA yX5_lagNearestTo cX5_lagNearestTo 6 (some Jvm.ClassFile.FieldType.int)) rmX5_lagNearestTo 0 0 1 := cwV 1 ht (good_V hl qm_yX5_lagNearestTo qs_yX5_lagNearestTo qi_RX5 qc_yX5_lagNearestTo) rfl rfl rfl (by decide +kernel) ⟨hf, hlo⟩
set_option maxRecDepth 100000 in
set_option maxHeartbeats 4000000 in
theorem met_X5_lagNearestTo (l : Launch) (D : va_G) (ad : Adr) (cy : Nat → ClassId) (S : Mem) (P : Nat) (i : Nat) (x1 : Int32) {Q : Mem → Int32 → Prop} (hv : P < 11 ∧ i < 11) (hq : vc_X5_lagNearestTo S P i x1 Q) : Ci l yX5_lagNearestTo (wA yX5_lagNearestTo cX5_lagNearestTo 6 (some Jvm.ClassFile.FieldType.int)) rmX5_lagNearestTo D ad cy (IN []) [.ref (ad 5 P i), .int x1] S Q := by
  intro o sz hI
  refine mkC (own := RX5) (lv := [(0, .ref (ad 5 P i)), (1, .int x1)]) (by decide) rfl (Nat.le_of_ble_eq_true rfl) rfl ?_
  intro p e s m below meth c ls hsz hM hlocks hret hK hA hX hl
  have J58 : ∀ {K0 : Mem → Int32 → Int32 → Int32 → Prop} (hk0 : ∀ (S : Mem) (y2 : Int32) (y3 : Int32) (y4 : Int32), K0 S y2 y3 y4 → ∀ (H : Heap) (locs : List Loc) (ls : Array Slot), PW D ad cy (AW ad o sz) s.heap o S H locs → lv_has ls 6 [(0, .ref (ad 5 P i)), (1, .int x1), (2, .int y2), (3, .int y3), (4, .int y4)] → Wi D ad cy o sz Q p l e rmX5_lagNearestTo s m [.ref (ad 5 P i), .int x1] below meth c H locs (F0 m 26 ls [])), ∀ {K1 : Mem → Int32 → Prop} (hk1 : ∀ (S : Mem) (y2 : Int32), K1 S y2 → ∀ (H : Heap) (locs : List Loc) (ls : Array Slot), PW D ad cy (AW ad o sz) s.heap o S H locs → lv_has ls 6 [(2, .int y2)] → Wi D ad cy o sz Q p l e rmX5_lagNearestTo s m [.ref (ad 5 P i), .int x1] below meth c H locs (F0 m 64 ls [])), ∀ (S : Mem) (y2 : Int32) (y3 : Int32) (y4 : Int32), vc_X5_lagNearestTo_J58 Q K0 K1 P i x1 S y2 y3 y4 → ∀ (H : Heap) (locs : List Loc) (ls : Array Slot), PW D ad cy (AW ad o sz) s.heap o S H locs → lv_has ls 6 [(0, .ref (ad 5 P i)), (1, .int x1), (2, .int y2), (3, .int y3), (4, .int y4)] → Wi D ad cy o sz Q p l e rmX5_lagNearestTo s m [.ref (ad 5 P i), .int x1] below meth c H locs (F0 m 58 ls []) := by
    intro K0 hk0 K1 hk1 S y2 y3 y4 hq H locs ls hX hl
    unfold vc_X5_lagNearestTo_J58 at hq
    refine lv_iinc (v := (y4 + (1 : Int32))) (lv' := [(4, .int (y4 + (1 : Int32))), (0, .ref (ad 5 P i)), (1, .int x1), (2, .int y2), (3, .int y3)]) hM.1 hM.2.1 dX5_lagNearestTo_58 hl (k := 4) rfl rfl (by decide) rfl (fun ls hl => ?_)
    refine lv_goto (tgt := 26) hM.1 hM.2.1 dX5_lagNearestTo_61 (by decide) ?_
    exact hk0 S y2 y3 (y4 + (1 : Int32)) hq _ _ _ hX (lv_sub hl [1, 2, 3, 4, 0] rfl)
  have L26 : ∀ {K : Mem → Int32 → Prop} (hk : ∀ (S : Mem) (y2 : Int32), K S y2 → ∀ (H : Heap) (locs : List Loc) (ls : Array Slot), PW D ad cy (AW ad o sz) s.heap o S H locs → lv_has ls 6 [(2, .int y2)] → Wi D ad cy o sz Q p l e rmX5_lagNearestTo s m [.ref (ad 5 P i), .int x1] below meth c H locs (F0 m 64 ls [])), ∀ (n : Nat) (S : Mem) (y2 : Int32) (y3 : Int32) (y4 : Int32), vc_X5_lagNearestTo_L26 Q K P i x1 n S y2 y3 y4 → ∀ (H : Heap) (locs : List Loc) (ls : Array Slot), PW D ad cy (AW ad o sz) s.heap o S H locs → lv_has ls 6 [(0, .ref (ad 5 P i)), (1, .int x1), (2, .int y2), (3, .int y3), (4, .int y4)] → Wi D ad cy o sz Q p l e rmX5_lagNearestTo s m [.ref (ad 5 P i), .int x1] below meth c H locs (F0 m 26 ls []) := by
    intro K hk n
    induction n with
    | zero =>
      intro S y2 y3 y4 hq
      rw [vc_X5_lagNearestTo_L26] at hq
      exact hq.elim
    | succ n ih =>
      intro S y2 y3 y4 hq H locs ls hX hl
      rw [vc_X5_lagNearestTo_L26] at hq
      refine lv_iload hM.1 hM.2.1 dX5_lagNearestTo_26 (lv_at hl 4 rfl) ?_
      refine lv_bipush (v := (9 : Int32)) hM.1 hM.2.1 dX5_lagNearestTo_28 (by decide) ?_
      refine lv_icmp_gt (tgt := 64) hM.1 hM.2.1 dX5_lagNearestTo_30 (by decide) (fun c_6 => ?_) (fun c_6 => ?_)
      · replace hq := hq.1 c_6
        exact hk S y2 hq _ _ _ hX (lv_sub hl [2] rfl)
      replace hq := hq.2 c_6
      refine lv_aload_n hM.1 hM.2.1 dX5_lagNearestTo_33 rfl (lv_at hl 0 rfl) ?_
      refine lv_iload hM.1 hM.2.1 dX5_lagNearestTo_34 (lv_at hl 4 rfl) ?_
      refine cVi (As := [.int y4]) hM hK hX ⟨hI.1, trivial⟩ hA (met_X5_mendedWith l D ad cy S P i y4 hv hq) (kX5_mendedWith hM.2.2.2.2 ql_RX5_76 (Nat.le_of_ble_eq_true rfl) (Nat.le_of_ble_eq_true rfl)) (v5 hK hX (hI.1 _ (id_T hv).1)) rfl hl.1 rfl (Nat.le_of_ble_eq_true rfl) dX5_lagNearestTo_36 ⟨Nat.zero_le _, Nat.zero_le _⟩ (fun S_7 r_8 hq H locs hX => ?_)
      refine lv_iload_n hM.1 hM.2.1 dX5_lagNearestTo_39 rfl (lv_at hl 1 rfl) ?_
      refine lv_isub hM.1 hM.2.1 dX5_lagNearestTo_40 ?_
      refine r_abs hM hl.1 ql_RX5_94 (Nat.le_of_ble_eq_true rfl) (Nat.le_of_ble_eq_true rfl) (Nat.le_of_ble_eq_true rfl) (Nat.le_of_ble_eq_true rfl) dX5_lagNearestTo_41 ?_
      refine lv_istore (lv' := [(5, .int (iabs (r_8 - x1))), (0, .ref (ad 5 P i)), (1, .int x1), (2, .int y2), (3, .int y3), (4, .int y4)]) hM.1 hM.2.1 dX5_lagNearestTo_44 hl (by decide) rfl (fun ls hl => ?_)
      refine lv_iload hM.1 hM.2.1 dX5_lagNearestTo_46 (lv_at hl 0 rfl) ?_
      refine lv_iload_n hM.1 hM.2.1 dX5_lagNearestTo_48 rfl (lv_at hl 4 rfl) ?_
      refine lv_icmp_ge (tgt := 58) hM.1 hM.2.1 dX5_lagNearestTo_49 (by decide) (fun c_9 => ?_) (fun c_9 => ?_)
      · replace hq := hq.1 c_9
        exact J58 ih hk S_7 y2 y3 y4 hq _ _ _ hX (lv_sub hl [1, 2, 3, 4, 5] rfl)
      replace hq := hq.2 c_9
      refine lv_iload hM.1 hM.2.1 dX5_lagNearestTo_52 (lv_at hl 5 rfl) ?_
      refine lv_istore_n (lv' := [(2, .int y4), (5, .int (iabs (r_8 - x1))), (0, .ref (ad 5 P i)), (1, .int x1), (3, .int y3), (4, .int y4)]) hM.1 hM.2.1 dX5_lagNearestTo_54 rfl hl (by decide) rfl (fun ls hl => ?_)
      refine lv_iload hM.1 hM.2.1 dX5_lagNearestTo_55 (lv_at hl 1 rfl) ?_
      refine lv_istore_n (lv' := [(3, .int (iabs (r_8 - x1))), (2, .int y4), (5, .int (iabs (r_8 - x1))), (0, .ref (ad 5 P i)), (1, .int x1), (4, .int y4)]) hM.1 hM.2.1 dX5_lagNearestTo_57 rfl hl (by decide) rfl (fun ls hl => ?_)
      exact J58 ih hk S_7 y4 (iabs (r_8 - x1)) y4 hq _ _ _ hX (lv_sub hl [3, 4, 1, 0, 5] rfl)
  unfold vc_X5_lagNearestTo at hq
  refine lv_aload_n hM.1 hM.2.1 dX5_lagNearestTo_0 rfl (lv_at hl 0 rfl) ?_
  refine cVi (As := []) hM hK hX ⟨hI.1, trivial⟩ hA (met_X5_hasMended l D ad cy S P i hv hq) (kX5_hasMended hM.2.2.2.2 ql_RX5_91 (Nat.le_of_ble_eq_true rfl) (Nat.le_of_ble_eq_true rfl)) (v5 hK hX (hI.1 _ (id_T hv).1)) rfl hl.1 rfl (Nat.le_of_ble_eq_true rfl) dX5_lagNearestTo_1 ⟨Nat.zero_le _, Nat.zero_le _⟩ (fun S_1 r_2 hq H locs hX => ?_)
  refine lv_if_ne (tgt := 10) hM.1 hM.2.1 dX5_lagNearestTo_4 (by decide) (fun c_3 => ?_) (fun c_3 => ?_)
  · replace hq := hq.1 c_3
    refine lv_iconst (v := (1 : Int32)) hM.1 hM.2.1 dX5_lagNearestTo_10 (by decide) ?_
    refine lv_istore_n (lv' := [(2, .int (1 : Int32)), (0, .ref (ad 5 P i)), (1, .int x1)]) hM.1 hM.2.1 dX5_lagNearestTo_11 rfl hl (by decide) rfl (fun ls hl => ?_)
    refine lv_aload_n hM.1 hM.2.1 dX5_lagNearestTo_12 rfl (lv_at hl 1 rfl) ?_
    refine lv_iload_n hM.1 hM.2.1 dX5_lagNearestTo_13 rfl (lv_at hl 0 rfl) ?_
    refine cVi (As := [.int (1 : Int32)]) hM hK hX ⟨hI.1, trivial⟩ hA (met_X5_mendedWith l D ad cy S_1 P i (1 : Int32) hv hq) (kX5_mendedWith hM.2.2.2.2 ql_RX5_76 (Nat.le_of_ble_eq_true rfl) (Nat.le_of_ble_eq_true rfl)) (v5 hK hX (hI.1 _ (id_T hv).1)) rfl hl.1 rfl (Nat.le_of_ble_eq_true rfl) dX5_lagNearestTo_14 ⟨Nat.zero_le _, Nat.zero_le _⟩ (fun S_4 r_5 hq H locs hX => ?_)
    refine lv_iload_n hM.1 hM.2.1 dX5_lagNearestTo_17 rfl (lv_at hl 2 rfl) ?_
    refine lv_isub hM.1 hM.2.1 dX5_lagNearestTo_18 ?_
    refine r_abs hM hl.1 ql_RX5_94 (Nat.le_of_ble_eq_true rfl) (Nat.le_of_ble_eq_true rfl) (Nat.le_of_ble_eq_true rfl) (Nat.le_of_ble_eq_true rfl) dX5_lagNearestTo_19 ?_
    refine lv_istore_n (lv' := [(3, .int (iabs (r_5 - x1))), (2, .int (1 : Int32)), (0, .ref (ad 5 P i)), (1, .int x1)]) hM.1 hM.2.1 dX5_lagNearestTo_22 rfl hl (by decide) rfl (fun ls hl => ?_)
    refine lv_iconst (v := (2 : Int32)) hM.1 hM.2.1 dX5_lagNearestTo_23 (by decide) ?_
    refine lv_istore (lv' := [(4, .int (2 : Int32)), (3, .int (iabs (r_5 - x1))), (2, .int (1 : Int32)), (0, .ref (ad 5 P i)), (1, .int x1)]) hM.1 hM.2.1 dX5_lagNearestTo_24 hl (by decide) rfl (fun ls hl => ?_)
    obtain ⟨k0, hq⟩ := hq
    refine L26 (fun S_10 y2_11 hq H locs ls hX hl => ?_) k0 S_4 (1 : Int32) (iabs (r_5 - x1)) (2 : Int32) hq _ _ _ hX (lv_sub hl [3, 4, 2, 1, 0] rfl)
    refine lv_iload_n hM.1 hM.2.1 dX5_lagNearestTo_64 rfl (lv_at hl 0 rfl) ?_
    exact e_i hM hX hlocks hret hq dX5_lagNearestTo_65
  replace hq := hq.2 c_3
  refine lv_ldc hM.1 hM.2.1 hM.2.2.2.1 (hM.2.2.2.2 _ qn_RX5_25) dX5_lagNearestTo_7 ?_
  exact e_i hM hX hlocks hret hq dX5_lagNearestTo_9
def rmX5_numberOf : Room := { frames := 0, cells := 0, slots := 0, locals := 0 }
theorem kX5_numberOf {R : Room} {s : State} {args : Array Value} {own : String} {index : Nat} (ht : ∀ w ∈ lw_all, w.before args s = true) (hl : Cond.methodLink own index yX5_numberOf ∈ lw_all) (hf : rmX5_numberOf.frames + 1 ≤ R.frames) (hlo : 8 + (2 + 11) + rmX5_numberOf.locals ≤ R.locals) : CallW R s args own RX5 index yX5_numberOf cX5_numberOf 2 (some Jvm.ClassFile.FieldType.int) (wA yX5_numberOf cX5_numberOf 2 (some Jvm.ClassFile.FieldType.int)) rmX5_numberOf 0 0 1 := cwV 1 ht (good_V hl qm_yX5_numberOf qs_yX5_numberOf qi_RX5 qc_yX5_numberOf) rfl rfl rfl (by decide +kernel) ⟨hf, hlo⟩
set_option maxRecDepth 100000 in
set_option maxHeartbeats 4000000 in
theorem met_X5_numberOf (l : Launch) (D : va_G) (ad : Adr) (cy : Nat → ClassId) (S : Mem) (P : Nat) (i : Nat) (x1 : Int32) {Q : Mem → Int32 → Prop} (hv : P < 11 ∧ i < 11) (hq : vc_X5_numberOf S P i x1 Q) : Ci l yX5_numberOf (wA yX5_numberOf cX5_numberOf 2 (some Jvm.ClassFile.FieldType.int)) rmX5_numberOf D ad cy (IN []) [.ref (ad 5 P i), .int x1] S Q := by
  intro o sz hI
  refine mkC (own := RX5) (lv := [(0, .ref (ad 5 P i)), (1, .int x1)]) (by decide) rfl (Nat.le_of_ble_eq_true rfl) rfl ?_
  intro p e s m below meth c ls hsz hM hlocks hret hK hA hX hl
  unfold vc_X5_numberOf at hq
  refine lv_iload_n hM.1 hM.2.1 dX5_numberOf_0 rfl (lv_at hl 1 rfl) ?_
  refine r_case (x := x1) (v := (0 : Int32)) (fun c_1 => ?_) (fun c_1 => ?_)
  · replace hq := hq.1 c_1
    refine r_tsw (v := (0 : Int32)) (tgt := 52) hM c_1 dX5_numberOf_1 (by decide) (by decide) (by rfl) (by decide) ?_
    refine lv_aload_n hM.1 hM.2.1 dX5_numberOf_52 rfl (lv_at hl 0 rfl) ?_
    refine g5 hM hK hX (hI.1 _ (id_T hv).1) 5 (by decide) qf_RX5_29 rfl dX5_numberOf_53 ?_
    exact e_i hM hX hlocks hret hq dX5_numberOf_56
  replace hq := hq.2 c_1
  refine r_case (x := x1) (v := (1 : Int32)) (fun c_2 => ?_) (fun c_2 => ?_)
  · replace hq := hq.1 c_2
    refine r_tsw (v := (1 : Int32)) (tgt := 57) hM c_2 dX5_numberOf_1 (by decide) (by decide) (by rfl) (by decide) ?_
    refine lv_aload_n hM.1 hM.2.1 dX5_numberOf_57 rfl (lv_at hl 0 rfl) ?_
    refine g5 hM hK hX (hI.1 _ (id_T hv).1) 3 (by decide) qf_RX5_18 rfl dX5_numberOf_58 ?_
    exact e_i hM hX hlocks hret hq dX5_numberOf_61
  replace hq := hq.2 c_2
  refine r_case (x := x1) (v := (2 : Int32)) (fun c_3 => ?_) (fun c_3 => ?_)
  · replace hq := hq.1 c_3
    refine r_tsw (v := (2 : Int32)) (tgt := 62) hM c_3 dX5_numberOf_1 (by decide) (by decide) (by rfl) (by decide) ?_
    refine lv_aload_n hM.1 hM.2.1 dX5_numberOf_62 rfl (lv_at hl 0 rfl) ?_
    refine g5 hM hK hX (hI.1 _ (id_T hv).1) 4 (by decide) qf_RX5_32 rfl dX5_numberOf_63 ?_
    exact e_i hM hX hlocks hret hq dX5_numberOf_66
  replace hq := hq.2 c_3
  refine r_case (x := x1) (v := (3 : Int32)) (fun c_4 => ?_) (fun c_4 => ?_)
  · replace hq := hq.1 c_4
    refine r_tsw (v := (3 : Int32)) (tgt := 67) hM c_4 dX5_numberOf_1 (by decide) (by decide) (by rfl) (by decide) ?_
    refine lv_aload_n hM.1 hM.2.1 dX5_numberOf_67 rfl (lv_at hl 0 rfl) ?_
    refine g5 hM hK hX (hI.1 _ (id_T hv).1) 6 (by decide) qf_RX5_22 rfl dX5_numberOf_68 ?_
    exact e_i hM hX hlocks hret hq dX5_numberOf_71
  replace hq := hq.2 c_4
  refine r_case (x := x1) (v := (4 : Int32)) (fun c_5 => ?_) (fun c_5 => ?_)
  · replace hq := hq.1 c_5
    refine r_tsw (v := (4 : Int32)) (tgt := 72) hM c_5 dX5_numberOf_1 (by decide) (by decide) (by rfl) (by decide) ?_
    refine lv_aload_n hM.1 hM.2.1 dX5_numberOf_72 rfl (lv_at hl 0 rfl) ?_
    refine g5 hM hK hX (hI.1 _ (id_T hv).1) 7 (by decide) qf_RX5_42 rfl dX5_numberOf_73 ?_
    exact e_i hM hX hlocks hret hq dX5_numberOf_76
  replace hq := hq.2 c_5
  refine r_case (x := x1) (v := (5 : Int32)) (fun c_6 => ?_) (fun c_6 => ?_)
  · replace hq := hq.1 c_6
    refine r_tsw (v := (5 : Int32)) (tgt := 77) hM c_6 dX5_numberOf_1 (by decide) (by decide) (by rfl) (by decide) ?_
    refine lv_aload_n hM.1 hM.2.1 dX5_numberOf_77 rfl (lv_at hl 0 rfl) ?_
    refine g5 hM hK hX (hI.1 _ (id_T hv).1) 8 (by decide) qf_RX5_48 rfl dX5_numberOf_78 ?_
    exact e_i hM hX hlocks hret hq dX5_numberOf_81
  replace hq := hq.2 c_6
  refine r_case (x := x1) (v := (6 : Int32)) (fun c_7 => ?_) (fun c_7 => ?_)
  · replace hq := hq.1 c_7
    refine r_tsw (v := (6 : Int32)) (tgt := 82) hM c_7 dX5_numberOf_1 (by decide) (by decide) (by rfl) (by decide) ?_
    refine lv_aload_n hM.1 hM.2.1 dX5_numberOf_82 rfl (lv_at hl 0 rfl) ?_
    refine g5 hM hK hX (hI.1 _ (id_T hv).1) 10 (by decide) qf_RX5_51 rfl dX5_numberOf_83 ?_
    refine lv_if_eq (tgt := 93) hM.1 hM.2.1 dX5_numberOf_86 (by decide) (fun c_8 => ?_) (fun c_8 => ?_)
    · replace hq := hq.1 c_8
      refine lv_iconst (v := (0 : Int32)) hM.1 hM.2.1 dX5_numberOf_93 (by decide) ?_
      exact e_i hM hX hlocks hret hq dX5_numberOf_94
    replace hq := hq.2 c_8
    refine lv_iconst (v := (1 : Int32)) hM.1 hM.2.1 dX5_numberOf_89 (by decide) ?_
    refine lv_goto (tgt := 94) hM.1 hM.2.1 dX5_numberOf_90 (by decide) ?_
    exact e_i hM hX hlocks hret hq dX5_numberOf_94
  replace hq := hq.2 c_7
  refine r_case (x := x1) (v := (7 : Int32)) (fun c_9 => ?_) (fun c_9 => ?_)
  · replace hq := hq.1 c_9
    refine r_tsw (v := (7 : Int32)) (tgt := 95) hM c_9 dX5_numberOf_1 (by decide) (by decide) (by rfl) (by decide) ?_
    refine lv_aload_n hM.1 hM.2.1 dX5_numberOf_95 rfl (lv_at hl 0 rfl) ?_
    refine g5 hM hK hX (hI.1 _ (id_T hv).1) 2 (by decide) qf_RX5_45 rfl dX5_numberOf_96 ?_
    exact e_i hM hX hlocks hret hq dX5_numberOf_99
  replace hq := hq.2 c_9
  refine r_case (x := x1) (v := (8 : Int32)) (fun c_10 => ?_) (fun c_10 => ?_)
  · replace hq := hq.1 c_10
    refine r_tsw (v := (8 : Int32)) (tgt := 100) hM c_10 dX5_numberOf_1 (by decide) (by decide) (by rfl) (by decide) ?_
    refine lv_aload_n hM.1 hM.2.1 dX5_numberOf_100 rfl (lv_at hl 0 rfl) ?_
    refine g5 hM hK hX (hI.1 _ (id_T hv).1) 9 (by decide) qf_RX5_35 rfl dX5_numberOf_101 ?_
    exact e_i hM hX hlocks hret hq dX5_numberOf_104
  replace hq := hq.2 c_10
  refine r_tswD (tgt := 105) 9 hM (by decide) (by decide) (fun k hk => ?_) dX5_numberOf_1 (by decide) ?_
  · match k, hk with
    | 0, _ => exact c_1
    | 1, _ => exact c_2
    | 2, _ => exact c_3
    | 3, _ => exact c_4
    | 4, _ => exact c_5
    | 5, _ => exact c_6
    | 6, _ => exact c_7
    | 7, _ => exact c_9
    | 8, _ => exact c_10
    | k + 9, h => exact absurd h (by omega)
  refine lv_aload_n hM.1 hM.2.1 dX5_numberOf_105 rfl (lv_at hl 0 rfl) ?_
  refine g5 hM hK hX (hI.1 _ (id_T hv).1) 11 (by decide) qf_RX5_26 rfl dX5_numberOf_106 ?_
  exact e_i hM hX hlocks hret hq dX5_numberOf_109
def rmX6_checkRow : Room := { frames := 0, cells := 0, slots := 0, locals := 0 }
theorem kX6_checkRow {R : Room} {s : State} {args : Array Value} {own : String} {index : Nat} (ht : ∀ w ∈ lw_all, w.before args s = true) (hl : Cond.methodLink own index yX6_checkRow ∈ lw_all) (hf : rmX6_checkRow.frames + 1 ≤ R.frames) (hlo : 8 + (1 + 11) + rmX6_checkRow.locals ≤ R.locals) : CallB R s args own index yX6_checkRow cX6_checkRow 1 none (wA yX6_checkRow cX6_checkRow 1 none) rmX6_checkRow 0 0 1 ∧ (Cond.static yX6_checkRow).before args s = true := va_cwS 1 ht (good_S hl qt_yX6_checkRow qi_RX6 qc_yX6_checkRow) rfl rfl rfl (by decide +kernel) ⟨hf, hlo⟩
set_option maxRecDepth 100000 in
set_option maxHeartbeats 4000000 in
theorem met_X6_checkRow (l : Launch) (D : va_G) (ad : Adr) (cy : Nat → ClassId) (S : Mem) (x0 : Int32) {Q : Mem → Prop} (hq : vc_X6_checkRow S x0 Q) : Cv l yX6_checkRow (wA yX6_checkRow cX6_checkRow 1 none) rmX6_checkRow D ad cy (IN []) [.int x0] S Q := by
  intro o sz hI
  refine mkC (own := RX6) (lv := [(0, .int x0)]) (by decide) rfl (Nat.le_of_ble_eq_true rfl) rfl ?_
  intro p e s m below meth c ls hsz hM hlocks hret hK hA hX hl
  unfold vc_X6_checkRow at hq
  refine lv_iload_n hM.1 hM.2.1 dX6_checkRow_0 rfl (lv_at hl 0 rfl) ?_
  refine lv_if_lt (tgt := 9) hM.1 hM.2.1 dX6_checkRow_1 (by decide) (fun c_1 => ?_) (fun c_1 => ?_)
  · replace hq := hq.1 c_1
    exact hq.elim
  replace hq := hq.2 c_1
  refine lv_iload_n hM.1 hM.2.1 dX6_checkRow_4 rfl (lv_at hl 0 rfl) ?_
  refine lv_iconst (v := (4 : Int32)) hM.1 hM.2.1 dX6_checkRow_5 (by decide) ?_
  refine lv_icmp_lt (tgt := 19) hM.1 hM.2.1 dX6_checkRow_6 (by decide) (fun c_2 => ?_) (fun c_2 => ?_)
  · replace hq := hq.1 c_2
    exact e_v hM hX hlocks hret hq dX6_checkRow_19
  replace hq := hq.2 c_2
  exact hq.elim
def rmX6_checkRange : Room := { frames := 0, cells := 0, slots := 0, locals := 0 }
theorem kX6_checkRange {R : Room} {s : State} {args : Array Value} {own : String} {index : Nat} (ht : ∀ w ∈ lw_all, w.before args s = true) (hl : Cond.methodLink own index yX6_checkRange ∈ lw_all) (hf : rmX6_checkRange.frames + 1 ≤ R.frames) (hlo : 8 + (3 + 11) + rmX6_checkRange.locals ≤ R.locals) : CallB R s args own index yX6_checkRange cX6_checkRange 3 none (wA yX6_checkRange cX6_checkRange 3 none) rmX6_checkRange 0 0 3 ∧ (Cond.static yX6_checkRange).before args s = true := va_cwS 3 ht (good_S hl qt_yX6_checkRange qi_RX6 qc_yX6_checkRange) rfl rfl rfl (by decide +kernel) ⟨hf, hlo⟩
set_option maxRecDepth 100000 in
set_option maxHeartbeats 4000000 in
theorem met_X6_checkRange (l : Launch) (D : va_G) (ad : Adr) (cy : Nat → ClassId) (S : Mem) (x0 : Int32) (x1 : Int32) (x2 : Int32) {Q : Mem → Prop} (hq : vc_X6_checkRange S x0 x1 x2 Q) : Cv l yX6_checkRange (wA yX6_checkRange cX6_checkRange 3 none) rmX6_checkRange D ad cy (IN []) [.int x0, .int x1, .int x2] S Q := by
  intro o sz hI
  refine mkC (own := RX6) (lv := [(0, .int x0), (1, .int x1), (2, .int x2)]) (by decide) rfl (Nat.le_of_ble_eq_true rfl) rfl ?_
  intro p e s m below meth c ls hsz hM hlocks hret hK hA hX hl
  unfold vc_X6_checkRange at hq
  refine lv_iload_n hM.1 hM.2.1 dX6_checkRange_0 rfl (lv_at hl 0 rfl) ?_
  refine lv_iload_n hM.1 hM.2.1 dX6_checkRange_1 rfl (lv_at hl 1 rfl) ?_
  refine lv_icmp_lt (tgt := 10) hM.1 hM.2.1 dX6_checkRange_2 (by decide) (fun c_1 => ?_) (fun c_1 => ?_)
  · replace hq := hq.1 c_1
    exact hq.elim
  replace hq := hq.2 c_1
  refine lv_iload_n hM.1 hM.2.1 dX6_checkRange_5 rfl (lv_at hl 0 rfl) ?_
  refine lv_iload_n hM.1 hM.2.1 dX6_checkRange_6 rfl (lv_at hl 2 rfl) ?_
  refine lv_icmp_le (tgt := 21) hM.1 hM.2.1 dX6_checkRange_7 (by decide) (fun c_2 => ?_) (fun c_2 => ?_)
  · replace hq := hq.1 c_2
    exact e_v hM hX hlocks hret hq dX6_checkRange_21
  replace hq := hq.2 c_2
  exact hq.elim
def rmX6_thermometer : Room := { frames := 4, cells := 0, slots := 0, locals := 86 }
theorem kX6_thermometer {R : Room} {s : State} {args : Array Value} {own : String} {index : Nat} (ht : ∀ w ∈ lw_all, w.before args s = true) (hl : Cond.methodLink own index yX6_thermometer ∈ lw_all) (hf : rmX6_thermometer.frames + 1 ≤ R.frames) (hlo : 8 + (5 + 11) + rmX6_thermometer.locals ≤ R.locals) : CallW R s args own RX6 index yX6_thermometer cX6_thermometer 5 (some Jvm.ClassFile.FieldType.int) (wA yX6_thermometer cX6_thermometer 5 (some Jvm.ClassFile.FieldType.int)) rmX6_thermometer 0 0 4 := cwV 4 ht (good_V hl qm_yX6_thermometer qs_yX6_thermometer qi_RX6 qc_yX6_thermometer) rfl rfl rfl (by decide +kernel) ⟨hf, hlo⟩
set_option maxRecDepth 100000 in
set_option maxHeartbeats 4000000 in
theorem met_X6_thermometer (l : Launch) (D : va_G) (ad : Adr) (cy : Nat → ClassId) (S : Mem) (x1 : Int32) (x2 : Int32) (x3 : Int32) (x4 : Int32) {Q : Mem → Int32 → Prop} (hq : vc_X6_thermometer S x1 x2 x3 x4 Q) : Ci l yX6_thermometer (wA yX6_thermometer cX6_thermometer 5 (some Jvm.ClassFile.FieldType.int)) rmX6_thermometer D ad cy (IN []) [.ref (ad 14 0 0), .int x1, .int x2, .int x3, .int x4] S Q := by
  intro o sz hI
  refine mkC (own := RX6) (lv := [(0, .ref (ad 14 0 0)), (1, .int x1), (2, .int x2), (3, .int x3), (4, .int x4)]) (by decide) rfl (Nat.le_of_ble_eq_true rfl) rfl ?_
  intro p e s m below meth c ls hsz hM hlocks hret hK hA hX hl
  unfold vc_X6_thermometer at hq
  refine lv_iload_n hM.1 hM.2.1 dX6_thermometer_0 rfl (lv_at hl 1 rfl) ?_
  refine cSv (As := [.int x1]) hM hK hX ⟨hI.1, trivial⟩ hA (met_X6_checkRow l D ad cy S x1 hq) (kX6_checkRow hM.2.2.2.2 ql_RX6_43 (Nat.le_of_ble_eq_true rfl) (Nat.le_of_ble_eq_true rfl)) rfl hl.1 rfl (Nat.le_of_ble_eq_true rfl) dX6_thermometer_1 ⟨Nat.zero_le _, Nat.zero_le _⟩ (fun S_1 hq H locs hX => ?_)
  refine lv_iload_n hM.1 hM.2.1 dX6_thermometer_4 rfl (lv_at hl 2 rfl) ?_
  refine lv_iconst (v := (1 : Int32)) hM.1 hM.2.1 dX6_thermometer_5 (by decide) ?_
  refine lv_bipush (v := (9 : Int32)) hM.1 hM.2.1 dX6_thermometer_6 (by decide) ?_
  refine cSv (As := [.int x2, .int (1 : Int32), .int (9 : Int32)]) hM hK hX ⟨hI.1, trivial⟩ hA (met_X6_checkRange l D ad cy S_1 x2 (1 : Int32) (9 : Int32) hq) (kX6_checkRange hM.2.2.2.2 ql_RX6_47 (Nat.le_of_ble_eq_true rfl) (Nat.le_of_ble_eq_true rfl)) rfl hl.1 rfl (Nat.le_of_ble_eq_true rfl) dX6_thermometer_8 ⟨Nat.zero_le _, Nat.zero_le _⟩ (fun S_2 hq H locs hX => ?_)
  refine lv_iload_n hM.1 hM.2.1 dX6_thermometer_11 rfl (lv_at hl 3 rfl) ?_
  refine lv_sipush (v := (-200 : Int32)) hM.1 hM.2.1 dX6_thermometer_12 (by decide) ?_
  refine lv_sipush (v := (200 : Int32)) hM.1 hM.2.1 dX6_thermometer_15 (by decide) ?_
  refine cSv (As := [.int x3, .int (-200 : Int32), .int (200 : Int32)]) hM hK hX ⟨hI.1, trivial⟩ hA (met_X6_checkRange l D ad cy S_2 x3 (-200 : Int32) (200 : Int32) hq) (kX6_checkRange hM.2.2.2.2 ql_RX6_47 (Nat.le_of_ble_eq_true rfl) (Nat.le_of_ble_eq_true rfl)) rfl hl.1 rfl (Nat.le_of_ble_eq_true rfl) dX6_thermometer_18 ⟨Nat.zero_le _, Nat.zero_le _⟩ (fun S_3 hq H locs hX => ?_)
  refine lv_iload hM.1 hM.2.1 dX6_thermometer_21 (lv_at hl 4 rfl) ?_
  refine lv_iconst (v := (1 : Int32)) hM.1 hM.2.1 dX6_thermometer_23 (by decide) ?_
  refine lv_iconst (v := (5 : Int32)) hM.1 hM.2.1 dX6_thermometer_24 (by decide) ?_
  refine cSv (As := [.int x4, .int (1 : Int32), .int (5 : Int32)]) hM hK hX ⟨hI.1, trivial⟩ hA (met_X6_checkRange l D ad cy S_3 x4 (1 : Int32) (5 : Int32) hq) (kX6_checkRange hM.2.2.2.2 ql_RX6_47 (Nat.le_of_ble_eq_true rfl) (Nat.le_of_ble_eq_true rfl)) rfl hl.1 rfl (Nat.le_of_ble_eq_true rfl) dX6_thermometer_25 ⟨Nat.zero_le _, Nat.zero_le _⟩ (fun S_4 hq H locs hX => ?_)
  refine lv_aload_n hM.1 hM.2.1 dX6_thermometer_28 rfl (lv_at hl 0 rfl) ?_
  refine g14 hM hK hX (hI.1 _ m14) 0 (by decide) qf_RX6_10 rfl dX6_thermometer_29 ?_
  refine cVi (As := []) hM hK hX ⟨hI.1, trivial⟩ hA (met_X3_hasRoom l D ad cy S_4 0 (by decide) hq) (kX3_hasRoom hM.2.2.2.2 ql_RX6_51 (Nat.le_of_ble_eq_true rfl) (Nat.le_of_ble_eq_true rfl)) (v3 hK hX (hI.1 _ (id_P (by decide)).2.1)) rfl hl.1 rfl (Nat.le_of_ble_eq_true rfl) dX6_thermometer_32 ⟨Nat.zero_le _, Nat.zero_le _⟩ (fun S_5 r_6 hq H locs hX => ?_)
  refine lv_if_ne (tgt := 48) hM.1 hM.2.1 dX6_thermometer_35 (by decide) (fun c_7 => ?_) (fun c_7 => ?_)
  · replace hq := hq.1 c_7
    refine lv_aload_n hM.1 hM.2.1 dX6_thermometer_48 rfl (lv_at hl 0 rfl) ?_
    refine g14 hM hK hX (hI.1 _ m14) 2 (by decide) qf_RX6_22 rfl dX6_thermometer_49 ?_
    refine lv_aload_n hM.1 hM.2.1 dX6_thermometer_52 rfl (lv_at hl 0 rfl) ?_
    refine g14 hM hK hX (hI.1 _ m14) 0 (by decide) qf_RX6_10 rfl dX6_thermometer_53 ?_
    refine cVv (As := [.ref (ad 3 0 0)]) hM hK hX ⟨hI.1, trivial⟩ hA (met_X1_save l D ad cy S_5 0 (by decide) hq) (kX1_save hM.2.2.2.2 ql_RX6_62 (Nat.le_of_ble_eq_true rfl) (Nat.le_of_ble_eq_true rfl)) (v1 hK hX (hI.1 _ m1)) rfl hl.1 rfl (Nat.le_of_ble_eq_true rfl) dX6_thermometer_56 ⟨Nat.zero_le _, Nat.zero_le _⟩ (fun S_8 hq H locs hX => ?_)
    refine lv_aload_n hM.1 hM.2.1 dX6_thermometer_59 rfl (lv_at hl 0 rfl) ?_
    refine g14 hM hK hX (hI.1 _ m14) 0 (by decide) qf_RX6_10 rfl dX6_thermometer_60 ?_
    refine lv_iload_n hM.1 hM.2.1 dX6_thermometer_63 rfl (lv_at hl 1 rfl) ?_
    refine lv_iload_n hM.1 hM.2.1 dX6_thermometer_64 rfl (lv_at hl 2 rfl) ?_
    refine lv_iload_n hM.1 hM.2.1 dX6_thermometer_65 rfl (lv_at hl 3 rfl) ?_
    refine lv_iload hM.1 hM.2.1 dX6_thermometer_66 (lv_at hl 4 rfl) ?_
    refine cVi (As := [.int x1, .int x2, .int x3, .int x4]) hM hK hX ⟨hI.1, trivial⟩ hA (met_X3_add l D ad cy S_8 0 x1 x2 x3 x4 (by decide) hq) (kX3_add hM.2.2.2.2 ql_RX6_66 (Nat.le_of_ble_eq_true rfl) (Nat.le_of_ble_eq_true rfl)) (v3 hK hX (hI.1 _ (id_P (by decide)).2.1)) rfl hl.1 rfl (Nat.le_of_ble_eq_true rfl) dX6_thermometer_68 ⟨Nat.zero_le _, Nat.zero_le _⟩ (fun S_9 r_10 hq H locs hX => ?_)
    exact e_i hM hX hlocks hret hq dX6_thermometer_71
  replace hq := hq.2 c_7
  exact hq.elim
def rmX6_checkHoursLeft : Room := { frames := 1, cells := 0, slots := 0, locals := 21 }
theorem kX6_checkHoursLeft {R : Room} {s : State} {args : Array Value} {own : String} {index : Nat} (ht : ∀ w ∈ lw_all, w.before args s = true) (hl : Cond.methodLink own index yX6_checkHoursLeft ∈ lw_all) (hf : rmX6_checkHoursLeft.frames + 1 ≤ R.frames) (hlo : 8 + (2 + 11) + rmX6_checkHoursLeft.locals ≤ R.locals) : CallW R s args own RX6 index yX6_checkHoursLeft cX6_checkHoursLeft 2 none (wA yX6_checkHoursLeft cX6_checkHoursLeft 2 none) rmX6_checkHoursLeft 0 0 1 := cwV 1 ht (good_V hl qm_yX6_checkHoursLeft qs_yX6_checkHoursLeft qi_RX6 qc_yX6_checkHoursLeft) rfl rfl rfl (by decide +kernel) ⟨hf, hlo⟩
set_option maxRecDepth 100000 in
set_option maxHeartbeats 4000000 in
theorem met_X6_checkHoursLeft (l : Launch) (D : va_G) (ad : Adr) (cy : Nat → ClassId) (S : Mem) (x1 : Int32) {Q : Mem → Prop} (hq : vc_X6_checkHoursLeft S x1 Q) : Cv l yX6_checkHoursLeft (wA yX6_checkHoursLeft cX6_checkHoursLeft 2 none) rmX6_checkHoursLeft D ad cy (IN []) [.ref (ad 14 0 0), .int x1] S Q := by
  intro o sz hI
  refine mkC (own := RX6) (lv := [(0, .ref (ad 14 0 0)), (1, .int x1)]) (by decide) rfl (Nat.le_of_ble_eq_true rfl) rfl ?_
  intro p e s m below meth c ls hsz hM hlocks hret hK hA hX hl
  unfold vc_X6_checkHoursLeft at hq
  refine lv_aload_n hM.1 hM.2.1 dX6_checkHoursLeft_0 rfl (lv_at hl 0 rfl) ?_
  refine g14 hM hK hX (hI.1 _ m14) 0 (by decide) qf_RX6_10 rfl dX6_checkHoursLeft_1 ?_
  refine lv_iload_n hM.1 hM.2.1 dX6_checkHoursLeft_4 rfl (lv_at hl 1 rfl) ?_
  refine cVi (As := [.int x1]) hM hK hX ⟨hI.1, trivial⟩ hA (met_X3_hasHoursLeft l D ad cy S 0 x1 (by decide) hq) (kX3_hasHoursLeft hM.2.2.2.2 ql_RX6_266 (Nat.le_of_ble_eq_true rfl) (Nat.le_of_ble_eq_true rfl)) (v3 hK hX (hI.1 _ (id_P (by decide)).2.1)) rfl hl.1 rfl (Nat.le_of_ble_eq_true rfl) dX6_checkHoursLeft_5 ⟨Nat.zero_le _, Nat.zero_le _⟩ (fun S_1 r_2 hq H locs hX => ?_)
  refine lv_if_ne (tgt := 22) hM.1 hM.2.1 dX6_checkHoursLeft_8 (by decide) (fun c_3 => ?_) (fun c_3 => ?_)
  · replace hq := hq.1 c_3
    exact e_v hM hX hlocks hret hq dX6_checkHoursLeft_22
  replace hq := hq.2 c_3
  exact hq.elim
def rmX6_hour : Room := { frames := 5, cells := 0, slots := 0, locals := 109 }
theorem kX6_hour {R : Room} {s : State} {args : Array Value} {own : String} {index : Nat} (ht : ∀ w ∈ lw_all, w.before args s = true) (hl : Cond.methodLink own index yX6_hour ∈ lw_all) (hf : rmX6_hour.frames + 1 ≤ R.frames) (hlo : 8 + (2 + 11) + rmX6_hour.locals ≤ R.locals) : CallW R s args own RX6 index yX6_hour cX6_hour 2 (some Jvm.ClassFile.FieldType.int) (wA yX6_hour cX6_hour 2 (some Jvm.ClassFile.FieldType.int)) rmX6_hour 0 0 1 := cwV 1 ht (good_V hl qm_yX6_hour qs_yX6_hour qi_RX6 qc_yX6_hour) rfl rfl rfl (by decide +kernel) ⟨hf, hlo⟩
set_option maxRecDepth 100000 in
set_option maxHeartbeats 4000000 in
theorem met_X6_hour (l : Launch) (D : va_G) (ad : Adr) (cy : Nat → ClassId) (S : Mem) (x1 : Int32) {Q : Mem → Int32 → Prop} (hq : vc_X6_hour S x1 Q) : Ci l yX6_hour (wA yX6_hour cX6_hour 2 (some Jvm.ClassFile.FieldType.int)) rmX6_hour D ad cy (IN []) [.ref (ad 14 0 0), .int x1] S Q := by
  intro o sz hI
  refine mkC (own := RX6) (lv := [(0, .ref (ad 14 0 0)), (1, .int x1)]) (by decide) rfl (Nat.le_of_ble_eq_true rfl) rfl ?_
  intro p e s m below meth c ls hsz hM hlocks hret hK hA hX hl
  unfold vc_X6_hour at hq
  refine lv_iload_n hM.1 hM.2.1 dX6_hour_0 rfl (lv_at hl 1 rfl) ?_
  refine lv_sipush (v := (-5000 : Int32)) hM.1 hM.2.1 dX6_hour_1 (by decide) ?_
  refine lv_sipush (v := (5000 : Int32)) hM.1 hM.2.1 dX6_hour_4 (by decide) ?_
  refine cSv (As := [.int x1, .int (-5000 : Int32), .int (5000 : Int32)]) hM hK hX ⟨hI.1, trivial⟩ hA (met_X6_checkRange l D ad cy S x1 (-5000 : Int32) (5000 : Int32) hq) (kX6_checkRange hM.2.2.2.2 ql_RX6_47 (Nat.le_of_ble_eq_true rfl) (Nat.le_of_ble_eq_true rfl)) rfl hl.1 rfl (Nat.le_of_ble_eq_true rfl) dX6_hour_7 ⟨Nat.zero_le _, Nat.zero_le _⟩ (fun S_1 hq H locs hX => ?_)
  refine lv_aload_n hM.1 hM.2.1 dX6_hour_10 rfl (lv_at hl 0 rfl) ?_
  refine lv_iconst (v := (1 : Int32)) hM.1 hM.2.1 dX6_hour_11 (by decide) ?_
  refine cVv (As := [.int (1 : Int32)]) hM hK hX ⟨hI.1, trivial⟩ hA (met_X6_checkHoursLeft l D ad cy S_1 (1 : Int32) hq) (kX6_checkHoursLeft hM.2.2.2.2 ql_RX6_70 (Nat.le_of_ble_eq_true rfl) (Nat.le_of_ble_eq_true rfl)) (v14 hK hX (hI.1 _ m14)) rfl hl.1 rfl (Nat.le_of_ble_eq_true rfl) dX6_hour_12 ⟨Nat.zero_le _, Nat.zero_le _⟩ (fun S_2 hq H locs hX => ?_)
  refine lv_aload_n hM.1 hM.2.1 dX6_hour_15 rfl (lv_at hl 0 rfl) ?_
  refine g14 hM hK hX (hI.1 _ m14) 2 (by decide) qf_RX6_22 rfl dX6_hour_16 ?_
  refine lv_aload_n hM.1 hM.2.1 dX6_hour_19 rfl (lv_at hl 0 rfl) ?_
  refine g14 hM hK hX (hI.1 _ m14) 0 (by decide) qf_RX6_10 rfl dX6_hour_20 ?_
  refine cVv (As := [.ref (ad 3 0 0)]) hM hK hX ⟨hI.1, trivial⟩ hA (met_X1_save l D ad cy S_2 0 (by decide) hq) (kX1_save hM.2.2.2.2 ql_RX6_62 (Nat.le_of_ble_eq_true rfl) (Nat.le_of_ble_eq_true rfl)) (v1 hK hX (hI.1 _ m1)) rfl hl.1 rfl (Nat.le_of_ble_eq_true rfl) dX6_hour_23 ⟨Nat.zero_le _, Nat.zero_le _⟩ (fun S_3 hq H locs hX => ?_)
  refine lv_aload_n hM.1 hM.2.1 dX6_hour_26 rfl (lv_at hl 0 rfl) ?_
  refine g14 hM hK hX (hI.1 _ m14) 0 (by decide) qf_RX6_10 rfl dX6_hour_27 ?_
  refine lv_iload_n hM.1 hM.2.1 dX6_hour_30 rfl (lv_at hl 1 rfl) ?_
  refine cVi (As := [.int x1]) hM hK hX ⟨hI.1, trivial⟩ hA (met_X3_passHour l D ad cy S_3 0 x1 (by decide) hq) (kX3_passHour hM.2.2.2.2 ql_RX6_73 (Nat.le_of_ble_eq_true rfl) (Nat.le_of_ble_eq_true rfl)) (v3 hK hX (hI.1 _ (id_P (by decide)).2.1)) rfl hl.1 rfl (Nat.le_of_ble_eq_true rfl) dX6_hour_31 ⟨Nat.zero_le _, Nat.zero_le _⟩ (fun S_4 r_5 hq H locs hX => ?_)
  exact e_i hM hX hlocks hret hq dX6_hour_34
def rmX6_hours : Room := { frames := 6, cells := 0, slots := 0, locals := 133 }
theorem kX6_hours {R : Room} {s : State} {args : Array Value} {own : String} {index : Nat} (ht : ∀ w ∈ lw_all, w.before args s = true) (hl : Cond.methodLink own index yX6_hours ∈ lw_all) (hf : rmX6_hours.frames + 1 ≤ R.frames) (hlo : 8 + (3 + 11) + rmX6_hours.locals ≤ R.locals) : CallW R s args own RX6 index yX6_hours cX6_hours 3 (some Jvm.ClassFile.FieldType.int) (wA yX6_hours cX6_hours 3 (some Jvm.ClassFile.FieldType.int)) rmX6_hours 0 0 2 := cwV 2 ht (good_V hl qm_yX6_hours qs_yX6_hours qi_RX6 qc_yX6_hours) rfl rfl rfl (by decide +kernel) ⟨hf, hlo⟩
set_option maxRecDepth 100000 in
set_option maxHeartbeats 4000000 in
theorem met_X6_hours (l : Launch) (D : va_G) (ad : Adr) (cy : Nat → ClassId) (S : Mem) (x1 : Int32) (x2 : Int32) {Q : Mem → Int32 → Prop} (hq : vc_X6_hours S x1 x2 Q) : Ci l yX6_hours (wA yX6_hours cX6_hours 3 (some Jvm.ClassFile.FieldType.int)) rmX6_hours D ad cy (IN []) [.ref (ad 14 0 0), .int x1, .int x2] S Q := by
  intro o sz hI
  refine mkC (own := RX6) (lv := [(0, .ref (ad 14 0 0)), (1, .int x1), (2, .int x2)]) (by decide) rfl (Nat.le_of_ble_eq_true rfl) rfl ?_
  intro p e s m below meth c ls hsz hM hlocks hret hK hA hX hl
  unfold vc_X6_hours at hq
  refine lv_iload_n hM.1 hM.2.1 dX6_hours_0 rfl (lv_at hl 1 rfl) ?_
  refine lv_iconst (v := (1 : Int32)) hM.1 hM.2.1 dX6_hours_1 (by decide) ?_
  refine lv_bipush (v := (24 : Int32)) hM.1 hM.2.1 dX6_hours_2 (by decide) ?_
  refine cSv (As := [.int x1, .int (1 : Int32), .int (24 : Int32)]) hM hK hX ⟨hI.1, trivial⟩ hA (met_X6_checkRange l D ad cy S x1 (1 : Int32) (24 : Int32) hq) (kX6_checkRange hM.2.2.2.2 ql_RX6_47 (Nat.le_of_ble_eq_true rfl) (Nat.le_of_ble_eq_true rfl)) rfl hl.1 rfl (Nat.le_of_ble_eq_true rfl) dX6_hours_4 ⟨Nat.zero_le _, Nat.zero_le _⟩ (fun S_1 hq H locs hX => ?_)
  refine lv_iload_n hM.1 hM.2.1 dX6_hours_7 rfl (lv_at hl 2 rfl) ?_
  refine lv_sipush (v := (-500 : Int32)) hM.1 hM.2.1 dX6_hours_8 (by decide) ?_
  refine lv_sipush (v := (500 : Int32)) hM.1 hM.2.1 dX6_hours_11 (by decide) ?_
  refine cSv (As := [.int x2, .int (-500 : Int32), .int (500 : Int32)]) hM hK hX ⟨hI.1, trivial⟩ hA (met_X6_checkRange l D ad cy S_1 x2 (-500 : Int32) (500 : Int32) hq) (kX6_checkRange hM.2.2.2.2 ql_RX6_47 (Nat.le_of_ble_eq_true rfl) (Nat.le_of_ble_eq_true rfl)) rfl hl.1 rfl (Nat.le_of_ble_eq_true rfl) dX6_hours_14 ⟨Nat.zero_le _, Nat.zero_le _⟩ (fun S_2 hq H locs hX => ?_)
  refine lv_aload_n hM.1 hM.2.1 dX6_hours_17 rfl (lv_at hl 0 rfl) ?_
  refine lv_iload_n hM.1 hM.2.1 dX6_hours_18 rfl (lv_at hl 1 rfl) ?_
  refine cVv (As := [.int x1]) hM hK hX ⟨hI.1, trivial⟩ hA (met_X6_checkHoursLeft l D ad cy S_2 x1 hq) (kX6_checkHoursLeft hM.2.2.2.2 ql_RX6_70 (Nat.le_of_ble_eq_true rfl) (Nat.le_of_ble_eq_true rfl)) (v14 hK hX (hI.1 _ m14)) rfl hl.1 rfl (Nat.le_of_ble_eq_true rfl) dX6_hours_19 ⟨Nat.zero_le _, Nat.zero_le _⟩ (fun S_3 hq H locs hX => ?_)
  refine lv_aload_n hM.1 hM.2.1 dX6_hours_22 rfl (lv_at hl 0 rfl) ?_
  refine g14 hM hK hX (hI.1 _ m14) 2 (by decide) qf_RX6_22 rfl dX6_hours_23 ?_
  refine lv_aload_n hM.1 hM.2.1 dX6_hours_26 rfl (lv_at hl 0 rfl) ?_
  refine g14 hM hK hX (hI.1 _ m14) 0 (by decide) qf_RX6_10 rfl dX6_hours_27 ?_
  refine cVv (As := [.ref (ad 3 0 0)]) hM hK hX ⟨hI.1, trivial⟩ hA (met_X1_save l D ad cy S_3 0 (by decide) hq) (kX1_save hM.2.2.2.2 ql_RX6_62 (Nat.le_of_ble_eq_true rfl) (Nat.le_of_ble_eq_true rfl)) (v1 hK hX (hI.1 _ m1)) rfl hl.1 rfl (Nat.le_of_ble_eq_true rfl) dX6_hours_30 ⟨Nat.zero_le _, Nat.zero_le _⟩ (fun S_4 hq H locs hX => ?_)
  refine lv_aload_n hM.1 hM.2.1 dX6_hours_33 rfl (lv_at hl 0 rfl) ?_
  refine g14 hM hK hX (hI.1 _ m14) 0 (by decide) qf_RX6_10 rfl dX6_hours_34 ?_
  refine lv_iload_n hM.1 hM.2.1 dX6_hours_37 rfl (lv_at hl 1 rfl) ?_
  refine lv_iload_n hM.1 hM.2.1 dX6_hours_38 rfl (lv_at hl 2 rfl) ?_
  refine cVv (As := [.int x1, .int x2]) hM hK hX ⟨hI.1, trivial⟩ hA (met_X3_passHours l D ad cy S_4 0 x1 x2 (by decide) hq) (kX3_passHours hM.2.2.2.2 ql_RX6_77 (Nat.le_of_ble_eq_true rfl) (Nat.le_of_ble_eq_true rfl)) (v3 hK hX (hI.1 _ (id_P (by decide)).2.1)) rfl hl.1 rfl (Nat.le_of_ble_eq_true rfl) dX6_hours_39 ⟨Nat.zero_le _, Nat.zero_le _⟩ (fun S_5 hq H locs hX => ?_)
  refine lv_aload_n hM.1 hM.2.1 dX6_hours_42 rfl (lv_at hl 0 rfl) ?_
  refine g14 hM hK hX (hI.1 _ m14) 0 (by decide) qf_RX6_10 rfl dX6_hours_43 ?_
  refine g3 hM hK hX (hI.1 _ (id_P (by decide)).2.1) 8 (by decide) qf_RX6_81 rfl dX6_hours_46 ?_
  exact e_i hM hX hlocks hret hq dX6_hours_49
def rmX6_period : Room := { frames := 4, cells := 0, slots := 0, locals := 86 }
theorem kX6_period {R : Room} {s : State} {args : Array Value} {own : String} {index : Nat} (ht : ∀ w ∈ lw_all, w.before args s = true) (hl : Cond.methodLink own index yX6_period ∈ lw_all) (hf : rmX6_period.frames + 1 ≤ R.frames) (hlo : 8 + (4 + 11) + rmX6_period.locals ≤ R.locals) : CallW R s args own RX6 index yX6_period cX6_period 4 (some Jvm.ClassFile.FieldType.int) (wA yX6_period cX6_period 4 (some Jvm.ClassFile.FieldType.int)) rmX6_period 0 0 2 := cwV 2 ht (good_V hl qm_yX6_period qs_yX6_period qi_RX6 qc_yX6_period) rfl rfl rfl (by decide +kernel) ⟨hf, hlo⟩
set_option maxRecDepth 100000 in
set_option maxHeartbeats 4000000 in
theorem met_X6_period (l : Launch) (D : va_G) (ad : Adr) (cy : Nat → ClassId) (S : Mem) (x1 : Int32) (x2 : Int32) {Q : Mem → Int32 → Prop} (hq : vc_X6_period S x1 x2 Q) : Ci l yX6_period (wA yX6_period cX6_period 4 (some Jvm.ClassFile.FieldType.int)) rmX6_period D ad cy (IN []) [.ref (ad 14 0 0), .int x1, .int x2] S Q := by
  intro o sz hI
  refine mkC (own := RX6) (lv := [(0, .ref (ad 14 0 0)), (1, .int x1), (2, .int x2)]) (by decide) rfl (Nat.le_of_ble_eq_true rfl) rfl ?_
  intro p e s m below meth c ls hsz hM hlocks hret hK hA hX hl
  unfold vc_X6_period at hq
  refine lv_iload_n hM.1 hM.2.1 dX6_period_0 rfl (lv_at hl 1 rfl) ?_
  refine cSv (As := [.int x1]) hM hK hX ⟨hI.1, trivial⟩ hA (met_X6_checkRow l D ad cy S x1 hq) (kX6_checkRow hM.2.2.2.2 ql_RX6_43 (Nat.le_of_ble_eq_true rfl) (Nat.le_of_ble_eq_true rfl)) rfl hl.1 rfl (Nat.le_of_ble_eq_true rfl) dX6_period_1 ⟨Nat.zero_le _, Nat.zero_le _⟩ (fun S_1 hq H locs hX => ?_)
  refine lv_iload_n hM.1 hM.2.1 dX6_period_4 rfl (lv_at hl 2 rfl) ?_
  refine lv_iconst (v := (1 : Int32)) hM.1 hM.2.1 dX6_period_5 (by decide) ?_
  refine lv_bipush (v := (6 : Int32)) hM.1 hM.2.1 dX6_period_6 (by decide) ?_
  refine cSv (As := [.int x2, .int (1 : Int32), .int (6 : Int32)]) hM hK hX ⟨hI.1, trivial⟩ hA (met_X6_checkRange l D ad cy S_1 x2 (1 : Int32) (6 : Int32) hq) (kX6_checkRange hM.2.2.2.2 ql_RX6_47 (Nat.le_of_ble_eq_true rfl) (Nat.le_of_ble_eq_true rfl)) rfl hl.1 rfl (Nat.le_of_ble_eq_true rfl) dX6_period_8 ⟨Nat.zero_le _, Nat.zero_le _⟩ (fun S_2 hq H locs hX => ?_)
  refine lv_aload_n hM.1 hM.2.1 dX6_period_11 rfl (lv_at hl 0 rfl) ?_
  refine g14 hM hK hX (hI.1 _ m14) 2 (by decide) qf_RX6_22 rfl dX6_period_12 ?_
  refine lv_aload_n hM.1 hM.2.1 dX6_period_15 rfl (lv_at hl 0 rfl) ?_
  refine g14 hM hK hX (hI.1 _ m14) 0 (by decide) qf_RX6_10 rfl dX6_period_16 ?_
  refine cVv (As := [.ref (ad 3 0 0)]) hM hK hX ⟨hI.1, trivial⟩ hA (met_X1_save l D ad cy S_2 0 (by decide) hq) (kX1_save hM.2.2.2.2 ql_RX6_62 (Nat.le_of_ble_eq_true rfl) (Nat.le_of_ble_eq_true rfl)) (v1 hK hX (hI.1 _ m1)) rfl hl.1 rfl (Nat.le_of_ble_eq_true rfl) dX6_period_19 ⟨Nat.zero_le _, Nat.zero_le _⟩ (fun S_3 hq H locs hX => ?_)
  refine lv_aload_n hM.1 hM.2.1 dX6_period_22 rfl (lv_at hl 0 rfl) ?_
  refine g14 hM hK hX (hI.1 _ m14) 0 (by decide) qf_RX6_10 rfl dX6_period_23 ?_
  refine lv_iload_n hM.1 hM.2.1 dX6_period_26 rfl (lv_at hl 1 rfl) ?_
  refine cVi (As := [.int x1]) hM hK hX ⟨hI.1, trivial⟩ hA (met_X3_periodOf l D ad cy S_3 0 x1 (by decide) hq) (kX3_periodOf hM.2.2.2.2 ql_RX6_85 (Nat.le_of_ble_eq_true rfl) (Nat.le_of_ble_eq_true rfl)) (v3 hK hX (hI.1 _ (id_P (by decide)).2.1)) rfl hl.1 rfl (Nat.le_of_ble_eq_true rfl) dX6_period_27 ⟨Nat.zero_le _, Nat.zero_le _⟩ (fun S_4 r_5 hq H locs hX => ?_)
  refine lv_istore_n (lv' := [(3, .int r_5), (0, .ref (ad 14 0 0)), (1, .int x1), (2, .int x2)]) hM.1 hM.2.1 dX6_period_30 rfl hl (by decide) rfl (fun ls hl => ?_)
  refine lv_aload_n hM.1 hM.2.1 dX6_period_31 rfl (lv_at hl 1 rfl) ?_
  refine g14 hM hK hX (hI.1 _ m14) 0 (by decide) qf_RX6_10 rfl dX6_period_32 ?_
  refine lv_iload_n hM.1 hM.2.1 dX6_period_35 rfl (lv_at hl 2 rfl) ?_
  refine lv_iload_n hM.1 hM.2.1 dX6_period_36 rfl (lv_at hl 3 rfl) ?_
  refine cVv (As := [.int x1, .int x2]) hM hK hX ⟨hI.1, trivial⟩ hA (met_X3_changePeriod l D ad cy S_4 0 x1 x2 (by decide) hq) (kX3_changePeriod hM.2.2.2.2 ql_RX6_88 (Nat.le_of_ble_eq_true rfl) (Nat.le_of_ble_eq_true rfl)) (v3 hK hX (hI.1 _ (id_P (by decide)).2.1)) rfl hl.1 rfl (Nat.le_of_ble_eq_true rfl) dX6_period_37 ⟨Nat.zero_le _, Nat.zero_le _⟩ (fun S_6 hq H locs hX => ?_)
  refine lv_iload_n hM.1 hM.2.1 dX6_period_40 rfl (lv_at hl 0 rfl) ?_
  exact e_i hM hX hlocks hret hq dX6_period_41
def rmX6_checkThermometer : Room := { frames := 1, cells := 0, slots := 0, locals := 21 }
theorem kX6_checkThermometer {R : Room} {s : State} {args : Array Value} {own : String} {index : Nat} (ht : ∀ w ∈ lw_all, w.before args s = true) (hl : Cond.methodLink own index yX6_checkThermometer ∈ lw_all) (hf : rmX6_checkThermometer.frames + 1 ≤ R.frames) (hlo : 8 + (2 + 11) + rmX6_checkThermometer.locals ≤ R.locals) : CallW R s args own RX6 index yX6_checkThermometer cX6_checkThermometer 2 none (wA yX6_checkThermometer cX6_checkThermometer 2 none) rmX6_checkThermometer 0 0 1 := cwV 1 ht (good_V hl qm_yX6_checkThermometer qs_yX6_checkThermometer qi_RX6 qc_yX6_checkThermometer) rfl rfl rfl (by decide +kernel) ⟨hf, hlo⟩
set_option maxRecDepth 100000 in
set_option maxHeartbeats 4000000 in
theorem met_X6_checkThermometer (l : Launch) (D : va_G) (ad : Adr) (cy : Nat → ClassId) (S : Mem) (x1 : Int32) {Q : Mem → Prop} (hq : vc_X6_checkThermometer S x1 Q) : Cv l yX6_checkThermometer (wA yX6_checkThermometer cX6_checkThermometer 2 none) rmX6_checkThermometer D ad cy (IN []) [.ref (ad 14 0 0), .int x1] S Q := by
  intro o sz hI
  refine mkC (own := RX6) (lv := [(0, .ref (ad 14 0 0)), (1, .int x1)]) (by decide) rfl (Nat.le_of_ble_eq_true rfl) rfl ?_
  intro p e s m below meth c ls hsz hM hlocks hret hK hA hX hl
  unfold vc_X6_checkThermometer at hq
  refine lv_aload_n hM.1 hM.2.1 dX6_checkThermometer_0 rfl (lv_at hl 0 rfl) ?_
  refine g14 hM hK hX (hI.1 _ m14) 0 (by decide) qf_RX6_10 rfl dX6_checkThermometer_1 ?_
  refine lv_iload_n hM.1 hM.2.1 dX6_checkThermometer_4 rfl (lv_at hl 1 rfl) ?_
  refine cVi (As := [.int x1]) hM hK hX ⟨hI.1, trivial⟩ hA (met_X3_has l D ad cy S 0 x1 (by decide) hq) (kX3_has hM.2.2.2.2 ql_RX6_260 (Nat.le_of_ble_eq_true rfl) (Nat.le_of_ble_eq_true rfl)) (v3 hK hX (hI.1 _ (id_P (by decide)).2.1)) rfl hl.1 rfl (Nat.le_of_ble_eq_true rfl) dX6_checkThermometer_5 ⟨Nat.zero_le _, Nat.zero_le _⟩ (fun S_1 r_2 hq H locs hX => ?_)
  refine lv_if_ne (tgt := 22) hM.1 hM.2.1 dX6_checkThermometer_8 (by decide) (fun c_3 => ?_) (fun c_3 => ?_)
  · replace hq := hq.1 c_3
    exact e_v hM hX hlocks hret hq dX6_checkThermometer_22
  replace hq := hq.2 c_3
  exact hq.elim
def rmX6_calibrate : Room := { frames := 4, cells := 0, slots := 0, locals := 86 }
theorem kX6_calibrate {R : Room} {s : State} {args : Array Value} {own : String} {index : Nat} (ht : ∀ w ∈ lw_all, w.before args s = true) (hl : Cond.methodLink own index yX6_calibrate ∈ lw_all) (hf : rmX6_calibrate.frames + 1 ≤ R.frames) (hlo : 8 + (3 + 11) + rmX6_calibrate.locals ≤ R.locals) : CallW R s args own RX6 index yX6_calibrate cX6_calibrate 3 (some Jvm.ClassFile.FieldType.int) (wA yX6_calibrate cX6_calibrate 3 (some Jvm.ClassFile.FieldType.int)) rmX6_calibrate 0 0 1 := cwV 1 ht (good_V hl qm_yX6_calibrate qs_yX6_calibrate qi_RX6 qc_yX6_calibrate) rfl rfl rfl (by decide +kernel) ⟨hf, hlo⟩
set_option maxRecDepth 100000 in
set_option maxHeartbeats 4000000 in
theorem met_X6_calibrate (l : Launch) (D : va_G) (ad : Adr) (cy : Nat → ClassId) (S : Mem) (x1 : Int32) {Q : Mem → Int32 → Prop} (hq : vc_X6_calibrate S x1 Q) : Ci l yX6_calibrate (wA yX6_calibrate cX6_calibrate 3 (some Jvm.ClassFile.FieldType.int)) rmX6_calibrate D ad cy (IN []) [.ref (ad 14 0 0), .int x1] S Q := by
  intro o sz hI
  refine mkC (own := RX6) (lv := [(0, .ref (ad 14 0 0)), (1, .int x1)]) (by decide) rfl (Nat.le_of_ble_eq_true rfl) rfl ?_
  intro p e s m below meth c ls hsz hM hlocks hret hK hA hX hl
  unfold vc_X6_calibrate at hq
  refine lv_aload_n hM.1 hM.2.1 dX6_calibrate_0 rfl (lv_at hl 0 rfl) ?_
  refine lv_iload_n hM.1 hM.2.1 dX6_calibrate_1 rfl (lv_at hl 1 rfl) ?_
  refine cVv (As := [.int x1]) hM hK hX ⟨hI.1, trivial⟩ hA (met_X6_checkThermometer l D ad cy S x1 hq) (kX6_checkThermometer hM.2.2.2.2 ql_RX6_91 (Nat.le_of_ble_eq_true rfl) (Nat.le_of_ble_eq_true rfl)) (v14 hK hX (hI.1 _ m14)) rfl hl.1 rfl (Nat.le_of_ble_eq_true rfl) dX6_calibrate_2 ⟨Nat.zero_le _, Nat.zero_le _⟩ (fun S_1 hq H locs hX => ?_)
  refine lv_aload_n hM.1 hM.2.1 dX6_calibrate_5 rfl (lv_at hl 0 rfl) ?_
  refine g14 hM hK hX (hI.1 _ m14) 2 (by decide) qf_RX6_22 rfl dX6_calibrate_6 ?_
  refine lv_aload_n hM.1 hM.2.1 dX6_calibrate_9 rfl (lv_at hl 0 rfl) ?_
  refine g14 hM hK hX (hI.1 _ m14) 0 (by decide) qf_RX6_10 rfl dX6_calibrate_10 ?_
  refine cVv (As := [.ref (ad 3 0 0)]) hM hK hX ⟨hI.1, trivial⟩ hA (met_X1_save l D ad cy S_1 0 (by decide) hq) (kX1_save hM.2.2.2.2 ql_RX6_62 (Nat.le_of_ble_eq_true rfl) (Nat.le_of_ble_eq_true rfl)) (v1 hK hX (hI.1 _ m1)) rfl hl.1 rfl (Nat.le_of_ble_eq_true rfl) dX6_calibrate_13 ⟨Nat.zero_le _, Nat.zero_le _⟩ (fun S_2 hq H locs hX => ?_)
  refine lv_aload_n hM.1 hM.2.1 dX6_calibrate_16 rfl (lv_at hl 0 rfl) ?_
  refine g14 hM hK hX (hI.1 _ m14) 0 (by decide) qf_RX6_10 rfl dX6_calibrate_17 ?_
  refine lv_iload_n hM.1 hM.2.1 dX6_calibrate_20 rfl (lv_at hl 1 rfl) ?_
  refine cVr (As := [.int x1]) hM hK hX ⟨hI.1, trivial⟩ hA (met_X3_at l D ad cy S_2 0 x1 (by decide) hq) (kX3_at hM.2.2.2.2 ql_RX6_94 (Nat.le_of_ble_eq_true rfl) (Nat.le_of_ble_eq_true rfl)) (v3 hK hX (hI.1 _ (id_P (by decide)).2.1)) rfl hl.1 rfl (Nat.le_of_ble_eq_true rfl) dX6_calibrate_21 ⟨Nat.zero_le _, Nat.zero_le _⟩ (fun S_3 P_4 i_5 hq H locs hX => ?_)
  have hT_6 := hq.1
  replace hq := hq.2
  refine g5 hM hK hX (hI.1 _ (id_T hT_6).1) 8 (by decide) qf_RX6_98 rfl dX6_calibrate_24 ?_
  refine lv_istore_n (lv' := [(2, .int (S_3 5 P_4 i_5 8)), (0, .ref (ad 14 0 0)), (1, .int x1)]) hM.1 hM.2.1 dX6_calibrate_27 rfl hl (by decide) rfl (fun ls hl => ?_)
  refine lv_aload_n hM.1 hM.2.1 dX6_calibrate_28 rfl (lv_at hl 1 rfl) ?_
  refine g14 hM hK hX (hI.1 _ m14) 0 (by decide) qf_RX6_10 rfl dX6_calibrate_29 ?_
  refine lv_iload_n hM.1 hM.2.1 dX6_calibrate_32 rfl (lv_at hl 2 rfl) ?_
  refine cVr (As := [.int x1]) hM hK hX ⟨hI.1, trivial⟩ hA (met_X3_at l D ad cy S_3 0 x1 (by decide) hq) (kX3_at hM.2.2.2.2 ql_RX6_94 (Nat.le_of_ble_eq_true rfl) (Nat.le_of_ble_eq_true rfl)) (v3 hK hX (hI.1 _ (id_P (by decide)).2.1)) rfl hl.1 rfl (Nat.le_of_ble_eq_true rfl) dX6_calibrate_33 ⟨Nat.zero_le _, Nat.zero_le _⟩ (fun S_7 P_8 i_9 hq H locs hX => ?_)
  refine lv_aload_n hM.1 hM.2.1 dX6_calibrate_36 rfl (lv_at hl 1 rfl) ?_
  refine g14 hM hK hX (hI.1 _ m14) 0 (by decide) qf_RX6_10 rfl dX6_calibrate_37 ?_
  refine g3 hM hK hX (hI.1 _ (id_P (by decide)).2.1) 8 (by decide) qf_RX6_81 rfl dX6_calibrate_40 ?_
  have hT_10 := hq.1
  replace hq := hq.2
  refine cVv (As := [.int (S_7 3 0 0 8)]) hM hK hX ⟨hI.1, trivial⟩ hA (met_X5_startAfresh l D ad cy S_7 P_8 i_9 (S_7 3 0 0 8) hT_10 hq) (kX5_startAfresh hM.2.2.2.2 ql_RX6_103 (Nat.le_of_ble_eq_true rfl) (Nat.le_of_ble_eq_true rfl)) (v5 hK hX (hI.1 _ (id_T hT_10).1)) rfl hl.1 rfl (Nat.le_of_ble_eq_true rfl) dX6_calibrate_43 ⟨Nat.zero_le _, Nat.zero_le _⟩ (fun S_11 hq H locs hX => ?_)
  refine lv_iload_n hM.1 hM.2.1 dX6_calibrate_46 rfl (lv_at hl 0 rfl) ?_
  exact e_i hM hX hlocks hret hq dX6_calibrate_47
def rmX6_knock : Room := { frames := 4, cells := 0, slots := 0, locals := 86 }
theorem kX6_knock {R : Room} {s : State} {args : Array Value} {own : String} {index : Nat} (ht : ∀ w ∈ lw_all, w.before args s = true) (hl : Cond.methodLink own index yX6_knock ∈ lw_all) (hf : rmX6_knock.frames + 1 ≤ R.frames) (hlo : 8 + (4 + 11) + rmX6_knock.locals ≤ R.locals) : CallW R s args own RX6 index yX6_knock cX6_knock 4 (some Jvm.ClassFile.FieldType.int) (wA yX6_knock cX6_knock 4 (some Jvm.ClassFile.FieldType.int)) rmX6_knock 0 0 2 := cwV 2 ht (good_V hl qm_yX6_knock qs_yX6_knock qi_RX6 qc_yX6_knock) rfl rfl rfl (by decide +kernel) ⟨hf, hlo⟩
set_option maxRecDepth 100000 in
set_option maxHeartbeats 4000000 in
theorem met_X6_knock (l : Launch) (D : va_G) (ad : Adr) (cy : Nat → ClassId) (S : Mem) (x1 : Int32) (x2 : Int32) {Q : Mem → Int32 → Prop} (hq : vc_X6_knock S x1 x2 Q) : Ci l yX6_knock (wA yX6_knock cX6_knock 4 (some Jvm.ClassFile.FieldType.int)) rmX6_knock D ad cy (IN []) [.ref (ad 14 0 0), .int x1, .int x2] S Q := by
  intro o sz hI
  refine mkC (own := RX6) (lv := [(0, .ref (ad 14 0 0)), (1, .int x1), (2, .int x2)]) (by decide) rfl (Nat.le_of_ble_eq_true rfl) rfl ?_
  intro p e s m below meth c ls hsz hM hlocks hret hK hA hX hl
  unfold vc_X6_knock at hq
  refine lv_aload_n hM.1 hM.2.1 dX6_knock_0 rfl (lv_at hl 0 rfl) ?_
  refine lv_iload_n hM.1 hM.2.1 dX6_knock_1 rfl (lv_at hl 1 rfl) ?_
  refine cVv (As := [.int x1]) hM hK hX ⟨hI.1, trivial⟩ hA (met_X6_checkThermometer l D ad cy S x1 hq) (kX6_checkThermometer hM.2.2.2.2 ql_RX6_91 (Nat.le_of_ble_eq_true rfl) (Nat.le_of_ble_eq_true rfl)) (v14 hK hX (hI.1 _ m14)) rfl hl.1 rfl (Nat.le_of_ble_eq_true rfl) dX6_knock_2 ⟨Nat.zero_le _, Nat.zero_le _⟩ (fun S_1 hq H locs hX => ?_)
  refine lv_iload_n hM.1 hM.2.1 dX6_knock_5 rfl (lv_at hl 2 rfl) ?_
  refine lv_sipush (v := (-3000 : Int32)) hM.1 hM.2.1 dX6_knock_6 (by decide) ?_
  refine lv_sipush (v := (3000 : Int32)) hM.1 hM.2.1 dX6_knock_9 (by decide) ?_
  refine cSv (As := [.int x2, .int (-3000 : Int32), .int (3000 : Int32)]) hM hK hX ⟨hI.1, trivial⟩ hA (met_X6_checkRange l D ad cy S_1 x2 (-3000 : Int32) (3000 : Int32) hq) (kX6_checkRange hM.2.2.2.2 ql_RX6_47 (Nat.le_of_ble_eq_true rfl) (Nat.le_of_ble_eq_true rfl)) rfl hl.1 rfl (Nat.le_of_ble_eq_true rfl) dX6_knock_12 ⟨Nat.zero_le _, Nat.zero_le _⟩ (fun S_2 hq H locs hX => ?_)
  refine lv_aload_n hM.1 hM.2.1 dX6_knock_15 rfl (lv_at hl 0 rfl) ?_
  refine g14 hM hK hX (hI.1 _ m14) 0 (by decide) qf_RX6_10 rfl dX6_knock_16 ?_
  refine lv_iload_n hM.1 hM.2.1 dX6_knock_19 rfl (lv_at hl 1 rfl) ?_
  refine cVr (As := [.int x1]) hM hK hX ⟨hI.1, trivial⟩ hA (met_X3_at l D ad cy S_2 0 x1 (by decide) hq) (kX3_at hM.2.2.2.2 ql_RX6_94 (Nat.le_of_ble_eq_true rfl) (Nat.le_of_ble_eq_true rfl)) (v3 hK hX (hI.1 _ (id_P (by decide)).2.1)) rfl hl.1 rfl (Nat.le_of_ble_eq_true rfl) dX6_knock_20 ⟨Nat.zero_le _, Nat.zero_le _⟩ (fun S_3 P_4 i_5 hq H locs hX => ?_)
  have hT_6 := hq.1
  replace hq := hq.2
  refine g5 hM hK hX (hI.1 _ (id_T hT_6).1) 7 (by decide) qf_RX6_106 rfl dX6_knock_23 ?_
  refine lv_iload_n hM.1 hM.2.1 dX6_knock_26 rfl (lv_at hl 2 rfl) ?_
  refine lv_iadd hM.1 hM.2.1 dX6_knock_27 ?_
  refine lv_istore_n (lv' := [(3, .int ((S_3 5 P_4 i_5 7) + x2)), (0, .ref (ad 14 0 0)), (1, .int x1), (2, .int x2)]) hM.1 hM.2.1 dX6_knock_28 rfl hl (by decide) rfl (fun ls hl => ?_)
  refine lv_iload_n hM.1 hM.2.1 dX6_knock_29 rfl (lv_at hl 0 rfl) ?_
  refine lv_sipush (v := (-20000 : Int32)) hM.1 hM.2.1 dX6_knock_30 (by decide) ?_
  refine lv_icmp_lt (tgt := 43) hM.1 hM.2.1 dX6_knock_33 (by decide) (fun c_7 => ?_) (fun c_7 => ?_)
  · replace hq := hq.1 c_7
    exact hq.elim
  replace hq := hq.2 c_7
  refine lv_iload_n hM.1 hM.2.1 dX6_knock_36 rfl (lv_at hl 0 rfl) ?_
  refine lv_sipush (v := (20000 : Int32)) hM.1 hM.2.1 dX6_knock_37 (by decide) ?_
  refine lv_icmp_le (tgt := 53) hM.1 hM.2.1 dX6_knock_40 (by decide) (fun c_8 => ?_) (fun c_8 => ?_)
  · replace hq := hq.1 c_8
    refine lv_aload_n hM.1 hM.2.1 dX6_knock_53 rfl (lv_at hl 1 rfl) ?_
    refine g14 hM hK hX (hI.1 _ m14) 2 (by decide) qf_RX6_22 rfl dX6_knock_54 ?_
    refine lv_aload_n hM.1 hM.2.1 dX6_knock_57 rfl (lv_at hl 1 rfl) ?_
    refine g14 hM hK hX (hI.1 _ m14) 0 (by decide) qf_RX6_10 rfl dX6_knock_58 ?_
    refine cVv (As := [.ref (ad 3 0 0)]) hM hK hX ⟨hI.1, trivial⟩ hA (met_X1_save l D ad cy S_3 0 (by decide) hq) (kX1_save hM.2.2.2.2 ql_RX6_62 (Nat.le_of_ble_eq_true rfl) (Nat.le_of_ble_eq_true rfl)) (v1 hK hX (hI.1 _ m1)) rfl hl.1 rfl (Nat.le_of_ble_eq_true rfl) dX6_knock_61 ⟨Nat.zero_le _, Nat.zero_le _⟩ (fun S_9 hq H locs hX => ?_)
    refine lv_aload_n hM.1 hM.2.1 dX6_knock_64 rfl (lv_at hl 1 rfl) ?_
    refine g14 hM hK hX (hI.1 _ m14) 0 (by decide) qf_RX6_10 rfl dX6_knock_65 ?_
    refine lv_iload_n hM.1 hM.2.1 dX6_knock_68 rfl (lv_at hl 2 rfl) ?_
    refine cVr (As := [.int x1]) hM hK hX ⟨hI.1, trivial⟩ hA (met_X3_at l D ad cy S_9 0 x1 (by decide) hq) (kX3_at hM.2.2.2.2 ql_RX6_94 (Nat.le_of_ble_eq_true rfl) (Nat.le_of_ble_eq_true rfl)) (v3 hK hX (hI.1 _ (id_P (by decide)).2.1)) rfl hl.1 rfl (Nat.le_of_ble_eq_true rfl) dX6_knock_69 ⟨Nat.zero_le _, Nat.zero_le _⟩ (fun S_10 P_11 i_12 hq H locs hX => ?_)
    refine lv_iload_n hM.1 hM.2.1 dX6_knock_72 rfl (lv_at hl 0 rfl) ?_
    have hT_13 := hq.1
    replace hq := hq.2
    refine p5_7 hM hK hX (hI.1 _ (id_T hT_13).1) qf_RX6_106 dX6_knock_73 (fun S_14 e_15 H locs hX => ?_)
    replace hq := hq S_14 e_15
    refine lv_iload_n hM.1 hM.2.1 dX6_knock_76 rfl (lv_at hl 0 rfl) ?_
    refine lv_ldc hM.1 hM.2.1 hM.2.2.2.1 (hM.2.2.2.2 _ qn_RX6_111) dX6_knock_77 ?_
    refine lv_iadd hM.1 hM.2.1 dX6_knock_79 ?_
    exact e_i hM hX hlocks hret hq dX6_knock_80
  replace hq := hq.2 c_8
  exact hq.elim
def rmX6_set : Room := { frames := 4, cells := 0, slots := 0, locals := 86 }
theorem kX6_set {R : Room} {s : State} {args : Array Value} {own : String} {index : Nat} (ht : ∀ w ∈ lw_all, w.before args s = true) (hl : Cond.methodLink own index yX6_set ∈ lw_all) (hf : rmX6_set.frames + 1 ≤ R.frames) (hlo : 8 + (4 + 11) + rmX6_set.locals ≤ R.locals) : CallW R s args own RX6 index yX6_set cX6_set 4 (some Jvm.ClassFile.FieldType.int) (wA yX6_set cX6_set 4 (some Jvm.ClassFile.FieldType.int)) rmX6_set 0 0 2 := cwV 2 ht (good_V hl qm_yX6_set qs_yX6_set qi_RX6 qc_yX6_set) rfl rfl rfl (by decide +kernel) ⟨hf, hlo⟩
set_option maxRecDepth 100000 in
set_option maxHeartbeats 4000000 in
theorem met_X6_set (l : Launch) (D : va_G) (ad : Adr) (cy : Nat → ClassId) (S : Mem) (x1 : Int32) (x2 : Int32) {Q : Mem → Int32 → Prop} (hq : vc_X6_set S x1 x2 Q) : Ci l yX6_set (wA yX6_set cX6_set 4 (some Jvm.ClassFile.FieldType.int)) rmX6_set D ad cy (IN []) [.ref (ad 14 0 0), .int x1, .int x2] S Q := by
  intro o sz hI
  refine mkC (own := RX6) (lv := [(0, .ref (ad 14 0 0)), (1, .int x1), (2, .int x2)]) (by decide) rfl (Nat.le_of_ble_eq_true rfl) rfl ?_
  intro p e s m below meth c ls hsz hM hlocks hret hK hA hX hl
  have J76 : ∀ (S : Mem) (w0 : Int32), vc_X6_set_J76 Q x1 x2 S w0 → ∀ (H : Heap) (locs : List Loc) (ls : Array Slot), PW D ad cy (AW ad o sz) s.heap o S H locs → lv_has ls 4 [(0, .ref (ad 14 0 0)), (1, .int x1), (2, .int x2)] → Wi D ad cy o sz Q p l e rmX6_set s m [.ref (ad 14 0 0), .int x1, .int x2] below meth c H locs (F0 m 76 ls [.int w0]) := by
    intro S w0 hq H locs ls hX hl
    unfold vc_X6_set_J76 at hq
    refine lv_istore_n (lv' := [(3, .int w0), (0, .ref (ad 14 0 0)), (1, .int x1), (2, .int x2)]) hM.1 hM.2.1 dX6_set_76 rfl hl (by decide) rfl (fun ls hl => ?_)
    refine lv_iload_n hM.1 hM.2.1 dX6_set_77 rfl (lv_at hl 2 rfl) ?_
    refine lv_if_ne (tgt := 92) hM.1 hM.2.1 dX6_set_78 (by decide) (fun c_7 => ?_) (fun c_7 => ?_)
    · replace hq := hq.1 c_7
      refine lv_aload_n hM.1 hM.2.1 dX6_set_92 rfl (lv_at hl 1 rfl) ?_
      refine g14 hM hK hX (hI.1 _ m14) 0 (by decide) qf_RX6_10 rfl dX6_set_93 ?_
      refine lv_iload_n hM.1 hM.2.1 dX6_set_96 rfl (lv_at hl 3 rfl) ?_
      refine p3_12 hM hK hX (hI.1 _ (id_P (by decide)).2.1) qf_RX6_120 dX6_set_97 (fun S_8 e_9 H locs hX => ?_)
      replace hq := hq S_8 e_9
      refine lv_iload_n hM.1 hM.2.1 dX6_set_100 rfl (lv_at hl 0 rfl) ?_
      exact e_i hM hX hlocks hret hq dX6_set_101
    replace hq := hq.2 c_7
    refine lv_aload_n hM.1 hM.2.1 dX6_set_81 rfl (lv_at hl 1 rfl) ?_
    refine g14 hM hK hX (hI.1 _ m14) 0 (by decide) qf_RX6_10 rfl dX6_set_82 ?_
    refine lv_iload_n hM.1 hM.2.1 dX6_set_85 rfl (lv_at hl 3 rfl) ?_
    refine p3_11 hM hK hX (hI.1 _ (id_P (by decide)).2.1) qf_RX6_117 dX6_set_86 (fun S_10 e_11 H locs hX => ?_)
    replace hq := hq S_10 e_11
    refine lv_goto (tgt := 100) hM.1 hM.2.1 dX6_set_89 (by decide) ?_
    refine lv_iload_n hM.1 hM.2.1 dX6_set_100 rfl (lv_at hl 0 rfl) ?_
    exact e_i hM hX hlocks hret hq dX6_set_101
  have J41 : ∀ (S : Mem) (w0 : Int32) (w1 : Int32) (w2 : Int32), vc_X6_set_J41 Q x1 x2 S w0 w1 w2 → ∀ (H : Heap) (locs : List Loc) (ls : Array Slot), PW D ad cy (AW ad o sz) s.heap o S H locs → lv_has ls 4 [(0, .ref (ad 14 0 0)), (1, .int x1), (2, .int x2)] → Wi D ad cy o sz Q p l e rmX6_set s m [.ref (ad 14 0 0), .int x1, .int x2] below meth c H locs (F0 m 41 ls [.int w2, .int w1, .int w0]) := by
    intro S w0 w1 w2 hq H locs ls hX hl
    unfold vc_X6_set_J41 at hq
    refine cSv (As := [.int w0, .int w1, .int w2]) hM hK hX ⟨hI.1, trivial⟩ hA (met_X6_checkRange l D ad cy S w0 w1 w2 hq) (kX6_checkRange hM.2.2.2.2 ql_RX6_47 (Nat.le_of_ble_eq_true rfl) (Nat.le_of_ble_eq_true rfl)) rfl hl.1 rfl (Nat.le_of_ble_eq_true rfl) dX6_set_41 ⟨Nat.zero_le _, Nat.zero_le _⟩ (fun S_4 hq H locs hX => ?_)
    refine lv_aload_n hM.1 hM.2.1 dX6_set_44 rfl (lv_at hl 0 rfl) ?_
    refine g14 hM hK hX (hI.1 _ m14) 2 (by decide) qf_RX6_22 rfl dX6_set_45 ?_
    refine lv_aload_n hM.1 hM.2.1 dX6_set_48 rfl (lv_at hl 0 rfl) ?_
    refine g14 hM hK hX (hI.1 _ m14) 0 (by decide) qf_RX6_10 rfl dX6_set_49 ?_
    refine cVv (As := [.ref (ad 3 0 0)]) hM hK hX ⟨hI.1, trivial⟩ hA (met_X1_save l D ad cy S_4 0 (by decide) hq) (kX1_save hM.2.2.2.2 ql_RX6_62 (Nat.le_of_ble_eq_true rfl) (Nat.le_of_ble_eq_true rfl)) (v1 hK hX (hI.1 _ m1)) rfl hl.1 rfl (Nat.le_of_ble_eq_true rfl) dX6_set_52 ⟨Nat.zero_le _, Nat.zero_le _⟩ (fun S_5 hq H locs hX => ?_)
    refine lv_iload_n hM.1 hM.2.1 dX6_set_55 rfl (lv_at hl 1 rfl) ?_
    refine lv_if_ne (tgt := 69) hM.1 hM.2.1 dX6_set_56 (by decide) (fun c_6 => ?_) (fun c_6 => ?_)
    · replace hq := hq.1 c_6
      refine lv_aload_n hM.1 hM.2.1 dX6_set_69 rfl (lv_at hl 0 rfl) ?_
      refine g14 hM hK hX (hI.1 _ m14) 0 (by decide) qf_RX6_10 rfl dX6_set_70 ?_
      refine g3 hM hK hX (hI.1 _ (id_P (by decide)).2.1) 12 (by decide) qf_RX6_120 rfl dX6_set_73 ?_
      exact J76 S_5 (S_5 3 0 0 12) hq _ _ _ hX (lv_sub hl [0, 1, 2] rfl)
    replace hq := hq.2 c_6
    refine lv_aload_n hM.1 hM.2.1 dX6_set_59 rfl (lv_at hl 0 rfl) ?_
    refine g14 hM hK hX (hI.1 _ m14) 0 (by decide) qf_RX6_10 rfl dX6_set_60 ?_
    refine g3 hM hK hX (hI.1 _ (id_P (by decide)).2.1) 11 (by decide) qf_RX6_117 rfl dX6_set_63 ?_
    refine lv_goto (tgt := 76) hM.1 hM.2.1 dX6_set_66 (by decide) ?_
    exact J76 S_5 (S_5 3 0 0 11) hq _ _ _ hX (lv_sub hl [0, 1, 2] rfl)
  have J30 : ∀ (S : Mem) (w0 : Int32) (w1 : Int32), vc_X6_set_J30 Q x1 x2 S w0 w1 → ∀ (H : Heap) (locs : List Loc) (ls : Array Slot), PW D ad cy (AW ad o sz) s.heap o S H locs → lv_has ls 4 [(0, .ref (ad 14 0 0)), (1, .int x1), (2, .int x2)] → Wi D ad cy o sz Q p l e rmX6_set s m [.ref (ad 14 0 0), .int x1, .int x2] below meth c H locs (F0 m 30 ls [.int w1, .int w0]) := by
    intro S w0 w1 hq H locs ls hX hl
    unfold vc_X6_set_J30 at hq
    refine lv_iload_n hM.1 hM.2.1 dX6_set_30 rfl (lv_at hl 1 rfl) ?_
    refine lv_if_ne (tgt := 40) hM.1 hM.2.1 dX6_set_31 (by decide) (fun c_3 => ?_) (fun c_3 => ?_)
    · replace hq := hq.1 c_3
      refine lv_iconst (v := (5 : Int32)) hM.1 hM.2.1 dX6_set_40 (by decide) ?_
      exact J41 S w0 w1 (5 : Int32) hq _ _ _ hX (lv_sub hl [0, 1, 2] rfl)
    replace hq := hq.2 c_3
    refine lv_sipush (v := (2000 : Int32)) hM.1 hM.2.1 dX6_set_34 (by decide) ?_
    refine lv_goto (tgt := 41) hM.1 hM.2.1 dX6_set_37 (by decide) ?_
    exact J41 S w0 w1 (2000 : Int32) hq _ _ _ hX (lv_sub hl [0, 1, 2] rfl)
  have J19 : ∀ (S : Mem), vc_X6_set_J19 Q x1 x2 S → ∀ (H : Heap) (locs : List Loc) (ls : Array Slot), PW D ad cy (AW ad o sz) s.heap o S H locs → lv_has ls 4 [(0, .ref (ad 14 0 0)), (1, .int x1), (2, .int x2)] → Wi D ad cy o sz Q p l e rmX6_set s m [.ref (ad 14 0 0), .int x1, .int x2] below meth c H locs (F0 m 19 ls []) := by
    intro S hq H locs ls hX hl
    unfold vc_X6_set_J19 at hq
    refine lv_iload_n hM.1 hM.2.1 dX6_set_19 rfl (lv_at hl 2 rfl) ?_
    refine lv_iload_n hM.1 hM.2.1 dX6_set_20 rfl (lv_at hl 1 rfl) ?_
    refine lv_if_ne (tgt := 29) hM.1 hM.2.1 dX6_set_21 (by decide) (fun c_2 => ?_) (fun c_2 => ?_)
    · replace hq := hq.1 c_2
      refine lv_iconst (v := (1 : Int32)) hM.1 hM.2.1 dX6_set_29 (by decide) ?_
      exact J30 S x2 (1 : Int32) hq _ _ _ hX (lv_sub hl [0, 1, 2] rfl)
    replace hq := hq.2 c_2
    refine lv_bipush (v := (10 : Int32)) hM.1 hM.2.1 dX6_set_24 (by decide) ?_
    refine lv_goto (tgt := 30) hM.1 hM.2.1 dX6_set_26 (by decide) ?_
    exact J30 S x2 (10 : Int32) hq _ _ _ hX (lv_sub hl [0, 1, 2] rfl)
  unfold vc_X6_set at hq
  refine lv_iload_n hM.1 hM.2.1 dX6_set_0 rfl (lv_at hl 1 rfl) ?_
  refine lv_if_eq (tgt := 19) hM.1 hM.2.1 dX6_set_1 (by decide) (fun c_1 => ?_) (fun c_1 => ?_)
  · replace hq := hq.1 c_1
    exact J19 S hq _ _ _ hX (lv_sub hl [0, 1, 2] rfl)
  replace hq := hq.2 c_1
  refine lv_iload_n hM.1 hM.2.1 dX6_set_4 rfl (lv_at hl 1 rfl) ?_
  refine lv_iconst (v := (1 : Int32)) hM.1 hM.2.1 dX6_set_5 (by decide) ?_
  refine lv_icmp_eq (tgt := 19) hM.1 hM.2.1 dX6_set_6 (by decide) (fun c_12 => ?_) (fun c_12 => ?_)
  · replace hq := hq.1 c_12
    exact J19 S hq _ _ _ hX (lv_sub hl [0, 1, 2] rfl)
  replace hq := hq.2 c_12
  exact hq.elim
def rmX6_ofThermometer : Room := { frames := 2, cells := 0, slots := 0, locals := 42 }
theorem kX6_ofThermometer {R : Room} {s : State} {args : Array Value} {own : String} {index : Nat} (ht : ∀ w ∈ lw_all, w.before args s = true) (hl : Cond.methodLink own index yX6_ofThermometer ∈ lw_all) (hf : rmX6_ofThermometer.frames + 1 ≤ R.frames) (hlo : 8 + (3 + 11) + rmX6_ofThermometer.locals ≤ R.locals) : CallW R s args own RX6 index yX6_ofThermometer cX6_ofThermometer 3 (some Jvm.ClassFile.FieldType.int) (wA yX6_ofThermometer cX6_ofThermometer 3 (some Jvm.ClassFile.FieldType.int)) rmX6_ofThermometer 0 0 2 := cwV 2 ht (good_V hl qm_yX6_ofThermometer qs_yX6_ofThermometer qi_RX6 qc_yX6_ofThermometer) rfl rfl rfl (by decide +kernel) ⟨hf, hlo⟩
set_option maxRecDepth 100000 in
set_option maxHeartbeats 4000000 in
theorem met_X6_ofThermometer (l : Launch) (D : va_G) (ad : Adr) (cy : Nat → ClassId) (S : Mem) (x1 : Int32) (x2 : Int32) {Q : Mem → Int32 → Prop} (hq : vc_X6_ofThermometer S x1 x2 Q) : Ci l yX6_ofThermometer (wA yX6_ofThermometer cX6_ofThermometer 3 (some Jvm.ClassFile.FieldType.int)) rmX6_ofThermometer D ad cy (IN []) [.ref (ad 14 0 0), .int x1, .int x2] S Q := by
  intro o sz hI
  refine mkC (own := RX6) (lv := [(0, .ref (ad 14 0 0)), (1, .int x1), (2, .int x2)]) (by decide) rfl (Nat.le_of_ble_eq_true rfl) rfl ?_
  intro p e s m below meth c ls hsz hM hlocks hret hK hA hX hl
  unfold vc_X6_ofThermometer at hq
  refine lv_aload_n hM.1 hM.2.1 dX6_ofThermometer_0 rfl (lv_at hl 0 rfl) ?_
  refine lv_iload_n hM.1 hM.2.1 dX6_ofThermometer_1 rfl (lv_at hl 1 rfl) ?_
  refine cVv (As := [.int x1]) hM hK hX ⟨hI.1, trivial⟩ hA (met_X6_checkThermometer l D ad cy S x1 hq) (kX6_checkThermometer hM.2.2.2.2 ql_RX6_91 (Nat.le_of_ble_eq_true rfl) (Nat.le_of_ble_eq_true rfl)) (v14 hK hX (hI.1 _ m14)) rfl hl.1 rfl (Nat.le_of_ble_eq_true rfl) dX6_ofThermometer_2 ⟨Nat.zero_le _, Nat.zero_le _⟩ (fun S_1 hq H locs hX => ?_)
  refine lv_iload_n hM.1 hM.2.1 dX6_ofThermometer_5 rfl (lv_at hl 2 rfl) ?_
  refine lv_iconst (v := (0 : Int32)) hM.1 hM.2.1 dX6_ofThermometer_6 (by decide) ?_
  refine lv_bipush (v := (9 : Int32)) hM.1 hM.2.1 dX6_ofThermometer_7 (by decide) ?_
  refine cSv (As := [.int x2, .int (0 : Int32), .int (9 : Int32)]) hM hK hX ⟨hI.1, trivial⟩ hA (met_X6_checkRange l D ad cy S_1 x2 (0 : Int32) (9 : Int32) hq) (kX6_checkRange hM.2.2.2.2 ql_RX6_47 (Nat.le_of_ble_eq_true rfl) (Nat.le_of_ble_eq_true rfl)) rfl hl.1 rfl (Nat.le_of_ble_eq_true rfl) dX6_ofThermometer_9 ⟨Nat.zero_le _, Nat.zero_le _⟩ (fun S_2 hq H locs hX => ?_)
  refine lv_aload_n hM.1 hM.2.1 dX6_ofThermometer_12 rfl (lv_at hl 0 rfl) ?_
  refine g14 hM hK hX (hI.1 _ m14) 0 (by decide) qf_RX6_10 rfl dX6_ofThermometer_13 ?_
  refine lv_iload_n hM.1 hM.2.1 dX6_ofThermometer_16 rfl (lv_at hl 1 rfl) ?_
  refine cVr (As := [.int x1]) hM hK hX ⟨hI.1, trivial⟩ hA (met_X3_at l D ad cy S_2 0 x1 (by decide) hq) (kX3_at hM.2.2.2.2 ql_RX6_94 (Nat.le_of_ble_eq_true rfl) (Nat.le_of_ble_eq_true rfl)) (v3 hK hX (hI.1 _ (id_P (by decide)).2.1)) rfl hl.1 rfl (Nat.le_of_ble_eq_true rfl) dX6_ofThermometer_17 ⟨Nat.zero_le _, Nat.zero_le _⟩ (fun S_3 P_4 i_5 hq H locs hX => ?_)
  refine lv_iload_n hM.1 hM.2.1 dX6_ofThermometer_20 rfl (lv_at hl 2 rfl) ?_
  have hT_6 := hq.1
  replace hq := hq.2
  refine cVi (As := [.int x2]) hM hK hX ⟨hI.1, trivial⟩ hA (met_X5_numberOf l D ad cy S_3 P_4 i_5 x2 hT_6 hq) (kX5_numberOf hM.2.2.2.2 ql_RX6_186 (Nat.le_of_ble_eq_true rfl) (Nat.le_of_ble_eq_true rfl)) (v5 hK hX (hI.1 _ (id_T hT_6).1)) rfl hl.1 rfl (Nat.le_of_ble_eq_true rfl) dX6_ofThermometer_21 ⟨Nat.zero_le _, Nat.zero_le _⟩ (fun S_7 r_8 hq H locs hX => ?_)
  exact e_i hM hX hlocks hret hq dX6_ofThermometer_24
def rmX6_checkNotNegative : Room := { frames := 0, cells := 0, slots := 0, locals := 0 }
theorem kX6_checkNotNegative {R : Room} {s : State} {args : Array Value} {own : String} {index : Nat} (ht : ∀ w ∈ lw_all, w.before args s = true) (hl : Cond.methodLink own index yX6_checkNotNegative ∈ lw_all) (hf : rmX6_checkNotNegative.frames + 1 ≤ R.frames) (hlo : 8 + (1 + 11) + rmX6_checkNotNegative.locals ≤ R.locals) : CallB R s args own index yX6_checkNotNegative cX6_checkNotNegative 1 none (wA yX6_checkNotNegative cX6_checkNotNegative 1 none) rmX6_checkNotNegative 0 0 1 ∧ (Cond.static yX6_checkNotNegative).before args s = true := va_cwS 1 ht (good_S hl qt_yX6_checkNotNegative qi_RX6 qc_yX6_checkNotNegative) rfl rfl rfl (by decide +kernel) ⟨hf, hlo⟩
set_option maxRecDepth 100000 in
set_option maxHeartbeats 4000000 in
theorem met_X6_checkNotNegative (l : Launch) (D : va_G) (ad : Adr) (cy : Nat → ClassId) (S : Mem) (x0 : Int32) {Q : Mem → Prop} (hq : vc_X6_checkNotNegative S x0 Q) : Cv l yX6_checkNotNegative (wA yX6_checkNotNegative cX6_checkNotNegative 1 none) rmX6_checkNotNegative D ad cy (IN []) [.int x0] S Q := by
  intro o sz hI
  refine mkC (own := RX6) (lv := [(0, .int x0)]) (by decide) rfl (Nat.le_of_ble_eq_true rfl) rfl ?_
  intro p e s m below meth c ls hsz hM hlocks hret hK hA hX hl
  unfold vc_X6_checkNotNegative at hq
  refine lv_iload_n hM.1 hM.2.1 dX6_checkNotNegative_0 rfl (lv_at hl 0 rfl) ?_
  refine lv_if_ge (tgt := 15) hM.1 hM.2.1 dX6_checkNotNegative_1 (by decide) (fun c_1 => ?_) (fun c_1 => ?_)
  · replace hq := hq.1 c_1
    exact e_v hM hX hlocks hret hq dX6_checkNotNegative_15
  replace hq := hq.2 c_1
  exact hq.elim
def rmX6_reading : Room := { frames := 2, cells := 0, slots := 0, locals := 42 }
theorem kX6_reading {R : Room} {s : State} {args : Array Value} {own : String} {index : Nat} (ht : ∀ w ∈ lw_all, w.before args s = true) (hl : Cond.methodLink own index yX6_reading ∈ lw_all) (hf : rmX6_reading.frames + 1 ≤ R.frames) (hlo : 8 + (5 + 11) + rmX6_reading.locals ≤ R.locals) : CallW R s args own RX6 index yX6_reading cX6_reading 5 (some Jvm.ClassFile.FieldType.int) (wA yX6_reading cX6_reading 5 (some Jvm.ClassFile.FieldType.int)) rmX6_reading 0 0 3 := cwV 3 ht (good_V hl qm_yX6_reading qs_yX6_reading qi_RX6 qc_yX6_reading) rfl rfl rfl (by decide +kernel) ⟨hf, hlo⟩
set_option maxRecDepth 100000 in
set_option maxHeartbeats 4000000 in
theorem met_X6_reading (l : Launch) (D : va_G) (ad : Adr) (cy : Nat → ClassId) (S : Mem) (x1 : Int32) (x2 : Int32) (x3 : Int32) {Q : Mem → Int32 → Prop} (hq : vc_X6_reading S x1 x2 x3 Q) : Ci l yX6_reading (wA yX6_reading cX6_reading 5 (some Jvm.ClassFile.FieldType.int)) rmX6_reading D ad cy (IN []) [.ref (ad 14 0 0), .int x1, .int x2, .int x3] S Q := by
  intro o sz hI
  refine mkC (own := RX6) (lv := [(0, .ref (ad 14 0 0)), (1, .int x1), (2, .int x2), (3, .int x3)]) (by decide) rfl (Nat.le_of_ble_eq_true rfl) rfl ?_
  intro p e s m below meth c ls hsz hM hlocks hret hK hA hX hl
  unfold vc_X6_reading at hq
  refine lv_aload_n hM.1 hM.2.1 dX6_reading_0 rfl (lv_at hl 0 rfl) ?_
  refine lv_iload_n hM.1 hM.2.1 dX6_reading_1 rfl (lv_at hl 1 rfl) ?_
  refine cVv (As := [.int x1]) hM hK hX ⟨hI.1, trivial⟩ hA (met_X6_checkThermometer l D ad cy S x1 hq) (kX6_checkThermometer hM.2.2.2.2 ql_RX6_91 (Nat.le_of_ble_eq_true rfl) (Nat.le_of_ble_eq_true rfl)) (v14 hK hX (hI.1 _ m14)) rfl hl.1 rfl (Nat.le_of_ble_eq_true rfl) dX6_reading_2 ⟨Nat.zero_le _, Nat.zero_le _⟩ (fun S_1 hq H locs hX => ?_)
  refine lv_iload_n hM.1 hM.2.1 dX6_reading_5 rfl (lv_at hl 2 rfl) ?_
  refine cSv (As := [.int x2]) hM hK hX ⟨hI.1, trivial⟩ hA (met_X6_checkNotNegative l D ad cy S_1 x2 hq) (kX6_checkNotNegative hM.2.2.2.2 ql_RX6_189 (Nat.le_of_ble_eq_true rfl) (Nat.le_of_ble_eq_true rfl)) rfl hl.1 rfl (Nat.le_of_ble_eq_true rfl) dX6_reading_6 ⟨Nat.zero_le _, Nat.zero_le _⟩ (fun S_2 hq H locs hX => ?_)
  refine lv_iload_n hM.1 hM.2.1 dX6_reading_9 rfl (lv_at hl 3 rfl) ?_
  refine lv_iconst (v := (0 : Int32)) hM.1 hM.2.1 dX6_reading_10 (by decide) ?_
  refine lv_iconst (v := (1 : Int32)) hM.1 hM.2.1 dX6_reading_11 (by decide) ?_
  refine cSv (As := [.int x3, .int (0 : Int32), .int (1 : Int32)]) hM hK hX ⟨hI.1, trivial⟩ hA (met_X6_checkRange l D ad cy S_2 x3 (0 : Int32) (1 : Int32) hq) (kX6_checkRange hM.2.2.2.2 ql_RX6_47 (Nat.le_of_ble_eq_true rfl) (Nat.le_of_ble_eq_true rfl)) rfl hl.1 rfl (Nat.le_of_ble_eq_true rfl) dX6_reading_12 ⟨Nat.zero_le _, Nat.zero_le _⟩ (fun S_3 hq H locs hX => ?_)
  refine lv_aload_n hM.1 hM.2.1 dX6_reading_15 rfl (lv_at hl 0 rfl) ?_
  refine g14 hM hK hX (hI.1 _ m14) 0 (by decide) qf_RX6_10 rfl dX6_reading_16 ?_
  refine lv_iload_n hM.1 hM.2.1 dX6_reading_19 rfl (lv_at hl 1 rfl) ?_
  refine cVr (As := [.int x1]) hM hK hX ⟨hI.1, trivial⟩ hA (met_X3_at l D ad cy S_3 0 x1 (by decide) hq) (kX3_at hM.2.2.2.2 ql_RX6_94 (Nat.le_of_ble_eq_true rfl) (Nat.le_of_ble_eq_true rfl)) (v3 hK hX (hI.1 _ (id_P (by decide)).2.1)) rfl hl.1 rfl (Nat.le_of_ble_eq_true rfl) dX6_reading_20 ⟨Nat.zero_le _, Nat.zero_le _⟩ (fun S_4 P_5 i_6 hq H locs hX => ?_)
  refine lv_astore (lv' := [(4, .ref (ad 5 P_5 i_6)), (0, .ref (ad 14 0 0)), (1, .int x1), (2, .int x2), (3, .int x3)]) hM.1 hM.2.1 dX6_reading_23 hl (by decide) rfl (fun ls hl => ?_)
  refine lv_iload_n hM.1 hM.2.1 dX6_reading_25 rfl (lv_at hl 4 rfl) ?_
  refine lv_if_ne (tgt := 38) hM.1 hM.2.1 dX6_reading_26 (by decide) (fun c_7 => ?_) (fun c_7 => ?_)
  · replace hq := hq.1 c_7
    refine lv_aload hM.1 hM.2.1 dX6_reading_38 (lv_at hl 0 rfl) ?_
    refine lv_iload_n hM.1 hM.2.1 dX6_reading_40 rfl (lv_at hl 3 rfl) ?_
    have hT_8 := hq.1
    replace hq := hq.2
    refine cVi (As := [.int x2]) hM hK hX ⟨hI.1, trivial⟩ hA (met_X5_valueAgo l D ad cy S_4 P_5 i_6 x2 hT_8 hq) (kX5_valueAgo hM.2.2.2.2 ql_RX6_195 (Nat.le_of_ble_eq_true rfl) (Nat.le_of_ble_eq_true rfl)) (v5 hK hX (hI.1 _ (id_T hT_8).1)) rfl hl.1 rfl (Nat.le_of_ble_eq_true rfl) dX6_reading_41 ⟨Nat.zero_le _, Nat.zero_le _⟩ (fun S_9 r_10 hq H locs hX => ?_)
    exact e_i hM hX hlocks hret hq dX6_reading_44
  replace hq := hq.2 c_7
  refine lv_aload hM.1 hM.2.1 dX6_reading_29 (lv_at hl 0 rfl) ?_
  refine lv_iload_n hM.1 hM.2.1 dX6_reading_31 rfl (lv_at hl 3 rfl) ?_
  have hT_11 := hq.1
  replace hq := hq.2
  refine cVi (As := [.int x2]) hM hK hX ⟨hI.1, trivial⟩ hA (met_X5_hourAgo l D ad cy S_4 P_5 i_6 x2 hT_11 hq) (kX5_hourAgo hM.2.2.2.2 ql_RX6_192 (Nat.le_of_ble_eq_true rfl) (Nat.le_of_ble_eq_true rfl)) (v5 hK hX (hI.1 _ (id_T hT_11).1)) rfl hl.1 rfl (Nat.le_of_ble_eq_true rfl) dX6_reading_32 ⟨Nat.zero_le _, Nat.zero_le _⟩ (fun S_12 r_13 hq H locs hX => ?_)
  refine lv_goto (tgt := 44) hM.1 hM.2.1 dX6_reading_35 (by decide) ?_
  exact e_i hM hX hlocks hret hq dX6_reading_44
def rmX6_row : Room := { frames := 3, cells := 0, slots := 0, locals := 63 }
theorem kX6_row {R : Room} {s : State} {args : Array Value} {own : String} {index : Nat} (ht : ∀ w ∈ lw_all, w.before args s = true) (hl : Cond.methodLink own index yX6_row ∈ lw_all) (hf : rmX6_row.frames + 1 ≤ R.frames) (hlo : 8 + (3 + 11) + rmX6_row.locals ≤ R.locals) : CallW R s args own RX6 index yX6_row cX6_row 3 (some Jvm.ClassFile.FieldType.int) (wA yX6_row cX6_row 3 (some Jvm.ClassFile.FieldType.int)) rmX6_row 0 0 2 := cwV 2 ht (good_V hl qm_yX6_row qs_yX6_row qi_RX6 qc_yX6_row) rfl rfl rfl (by decide +kernel) ⟨hf, hlo⟩
set_option maxRecDepth 100000 in
set_option maxHeartbeats 4000000 in
theorem met_X6_row (l : Launch) (D : va_G) (ad : Adr) (cy : Nat → ClassId) (S : Mem) (x1 : Int32) (x2 : Int32) {Q : Mem → Int32 → Prop} (hq : vc_X6_row S x1 x2 Q) : Ci l yX6_row (wA yX6_row cX6_row 3 (some Jvm.ClassFile.FieldType.int)) rmX6_row D ad cy (IN []) [.ref (ad 14 0 0), .int x1, .int x2] S Q := by
  intro o sz hI
  refine mkC (own := RX6) (lv := [(0, .ref (ad 14 0 0)), (1, .int x1), (2, .int x2)]) (by decide) rfl (Nat.le_of_ble_eq_true rfl) rfl ?_
  intro p e s m below meth c ls hsz hM hlocks hret hK hA hX hl
  unfold vc_X6_row at hq
  refine lv_iload_n hM.1 hM.2.1 dX6_row_0 rfl (lv_at hl 1 rfl) ?_
  refine cSv (As := [.int x1]) hM hK hX ⟨hI.1, trivial⟩ hA (met_X6_checkRow l D ad cy S x1 hq) (kX6_checkRow hM.2.2.2.2 ql_RX6_43 (Nat.le_of_ble_eq_true rfl) (Nat.le_of_ble_eq_true rfl)) rfl hl.1 rfl (Nat.le_of_ble_eq_true rfl) dX6_row_1 ⟨Nat.zero_le _, Nat.zero_le _⟩ (fun S_1 hq H locs hX => ?_)
  refine lv_iload_n hM.1 hM.2.1 dX6_row_4 rfl (lv_at hl 2 rfl) ?_
  refine lv_iconst (v := (0 : Int32)) hM.1 hM.2.1 dX6_row_5 (by decide) ?_
  refine lv_iconst (v := (3 : Int32)) hM.1 hM.2.1 dX6_row_6 (by decide) ?_
  refine cSv (As := [.int x2, .int (0 : Int32), .int (3 : Int32)]) hM hK hX ⟨hI.1, trivial⟩ hA (met_X6_checkRange l D ad cy S_1 x2 (0 : Int32) (3 : Int32) hq) (kX6_checkRange hM.2.2.2.2 ql_RX6_47 (Nat.le_of_ble_eq_true rfl) (Nat.le_of_ble_eq_true rfl)) rfl hl.1 rfl (Nat.le_of_ble_eq_true rfl) dX6_row_7 ⟨Nat.zero_le _, Nat.zero_le _⟩ (fun S_2 hq H locs hX => ?_)
  refine lv_iload_n hM.1 hM.2.1 dX6_row_10 rfl (lv_at hl 2 rfl) ?_
  refine r_case (x := x2) (v := (0 : Int32)) (fun c_3 => ?_) (fun c_3 => ?_)
  · replace hq := hq.1 c_3
    refine r_tsw (v := (0 : Int32)) (tgt := 36) hM c_3 dX6_row_11 (by decide) (by decide) (by rfl) (by decide) ?_
    refine lv_aload_n hM.1 hM.2.1 dX6_row_36 rfl (lv_at hl 0 rfl) ?_
    refine g14 hM hK hX (hI.1 _ m14) 0 (by decide) qf_RX6_10 rfl dX6_row_37 ?_
    refine lv_iload_n hM.1 hM.2.1 dX6_row_40 rfl (lv_at hl 1 rfl) ?_
    refine cVi (As := [.int x1]) hM hK hX ⟨hI.1, trivial⟩ hA (met_X3_periodOf l D ad cy S_2 0 x1 (by decide) hq) (kX3_periodOf hM.2.2.2.2 ql_RX6_85 (Nat.le_of_ble_eq_true rfl) (Nat.le_of_ble_eq_true rfl)) (v3 hK hX (hI.1 _ (id_P (by decide)).2.1)) rfl hl.1 rfl (Nat.le_of_ble_eq_true rfl) dX6_row_41 ⟨Nat.zero_le _, Nat.zero_le _⟩ (fun S_4 r_5 hq H locs hX => ?_)
    exact e_i hM hX hlocks hret hq dX6_row_44
  replace hq := hq.2 c_3
  refine r_case (x := x2) (v := (1 : Int32)) (fun c_6 => ?_) (fun c_6 => ?_)
  · replace hq := hq.1 c_6
    refine r_tsw (v := (1 : Int32)) (tgt := 45) hM c_6 dX6_row_11 (by decide) (by decide) (by rfl) (by decide) ?_
    refine lv_aload_n hM.1 hM.2.1 dX6_row_45 rfl (lv_at hl 0 rfl) ?_
    refine g14 hM hK hX (hI.1 _ m14) 0 (by decide) qf_RX6_10 rfl dX6_row_46 ?_
    refine lv_iload_n hM.1 hM.2.1 dX6_row_49 rfl (lv_at hl 1 rfl) ?_
    refine cVi (As := [.int x1]) hM hK hX ⟨hI.1, trivial⟩ hA (met_X3_countInRow l D ad cy S_2 0 x1 (by decide) hq) (kX3_countInRow hM.2.2.2.2 ql_RX6_198 (Nat.le_of_ble_eq_true rfl) (Nat.le_of_ble_eq_true rfl)) (v3 hK hX (hI.1 _ (id_P (by decide)).2.1)) rfl hl.1 rfl (Nat.le_of_ble_eq_true rfl) dX6_row_50 ⟨Nat.zero_le _, Nat.zero_le _⟩ (fun S_7 r_8 hq H locs hX => ?_)
    exact e_i hM hX hlocks hret hq dX6_row_53
  replace hq := hq.2 c_6
  refine r_case (x := x2) (v := (2 : Int32)) (fun c_9 => ?_) (fun c_9 => ?_)
  · replace hq := hq.1 c_9
    refine r_tsw (v := (2 : Int32)) (tgt := 54) hM c_9 dX6_row_11 (by decide) (by decide) (by rfl) (by decide) ?_
    refine lv_aload_n hM.1 hM.2.1 dX6_row_54 rfl (lv_at hl 0 rfl) ?_
    refine g14 hM hK hX (hI.1 _ m14) 0 (by decide) qf_RX6_10 rfl dX6_row_55 ?_
    refine lv_iload_n hM.1 hM.2.1 dX6_row_58 rfl (lv_at hl 1 rfl) ?_
    refine cVi (As := [.int x1]) hM hK hX ⟨hI.1, trivial⟩ hA (met_X3_hoursUntilRead l D ad cy S_2 0 x1 (by decide) hq) (kX3_hoursUntilRead hM.2.2.2.2 ql_RX6_201 (Nat.le_of_ble_eq_true rfl) (Nat.le_of_ble_eq_true rfl)) (v3 hK hX (hI.1 _ (id_P (by decide)).2.1)) rfl hl.1 rfl (Nat.le_of_ble_eq_true rfl) dX6_row_59 ⟨Nat.zero_le _, Nat.zero_le _⟩ (fun S_10 r_11 hq H locs hX => ?_)
    exact e_i hM hX hlocks hret hq dX6_row_62
  replace hq := hq.2 c_9
  refine r_tswD (tgt := 63) 3 hM (by decide) (by decide) (fun k hk => ?_) dX6_row_11 (by decide) ?_
  · match k, hk with
    | 0, _ => exact c_3
    | 1, _ => exact c_6
    | 2, _ => exact c_9
    | k + 3, h => exact absurd h (by omega)
  refine lv_aload_n hM.1 hM.2.1 dX6_row_63 rfl (lv_at hl 0 rfl) ?_
  refine g14 hM hK hX (hI.1 _ m14) 0 (by decide) qf_RX6_10 rfl dX6_row_64 ?_
  refine lv_iload_n hM.1 hM.2.1 dX6_row_67 rfl (lv_at hl 1 rfl) ?_
  refine cVi (As := [.int x1]) hM hK hX ⟨hI.1, trivial⟩ hA (met_X3_timesReadOf l D ad cy S_2 0 x1 (by decide) hq) (kX3_timesReadOf hM.2.2.2.2 ql_RX6_204 (Nat.le_of_ble_eq_true rfl) (Nat.le_of_ble_eq_true rfl)) (v3 hK hX (hI.1 _ (id_P (by decide)).2.1)) rfl hl.1 rfl (Nat.le_of_ble_eq_true rfl) dX6_row_68 ⟨Nat.zero_le _, Nat.zero_le _⟩ (fun S_12 r_13 hq H locs hX => ?_)
  exact e_i hM hX hlocks hret hq dX6_row_71
def rmX6_count : Room := { frames := 3, cells := 0, slots := 0, locals := 66 }
theorem kX6_count {R : Room} {s : State} {args : Array Value} {own : String} {index : Nat} (ht : ∀ w ∈ lw_all, w.before args s = true) (hl : Cond.methodLink own index yX6_count ∈ lw_all) (hf : rmX6_count.frames + 1 ≤ R.frames) (hlo : 8 + (2 + 11) + rmX6_count.locals ≤ R.locals) : CallW R s args own RX6 index yX6_count cX6_count 2 (some Jvm.ClassFile.FieldType.int) (wA yX6_count cX6_count 2 (some Jvm.ClassFile.FieldType.int)) rmX6_count 0 0 1 := cwV 1 ht (good_V hl qm_yX6_count qs_yX6_count qi_RX6 qc_yX6_count) rfl rfl rfl (by decide +kernel) ⟨hf, hlo⟩
set_option maxRecDepth 100000 in
set_option maxHeartbeats 4000000 in
theorem met_X6_count (l : Launch) (D : va_G) (ad : Adr) (cy : Nat → ClassId) (S : Mem) (x1 : Int32) {Q : Mem → Int32 → Prop} (hq : vc_X6_count S x1 Q) : Ci l yX6_count (wA yX6_count cX6_count 2 (some Jvm.ClassFile.FieldType.int)) rmX6_count D ad cy (IN []) [.ref (ad 14 0 0), .int x1] S Q := by
  intro o sz hI
  refine mkC (own := RX6) (lv := [(0, .ref (ad 14 0 0)), (1, .int x1)]) (by decide) rfl (Nat.le_of_ble_eq_true rfl) rfl ?_
  intro p e s m below meth c ls hsz hM hlocks hret hK hA hX hl
  unfold vc_X6_count at hq
  refine lv_iload_n hM.1 hM.2.1 dX6_count_0 rfl (lv_at hl 1 rfl) ?_
  refine lv_iconst (v := (0 : Int32)) hM.1 hM.2.1 dX6_count_1 (by decide) ?_
  refine lv_bipush (v := (13 : Int32)) hM.1 hM.2.1 dX6_count_2 (by decide) ?_
  refine cSv (As := [.int x1, .int (0 : Int32), .int (13 : Int32)]) hM hK hX ⟨hI.1, trivial⟩ hA (met_X6_checkRange l D ad cy S x1 (0 : Int32) (13 : Int32) hq) (kX6_checkRange hM.2.2.2.2 ql_RX6_47 (Nat.le_of_ble_eq_true rfl) (Nat.le_of_ble_eq_true rfl)) rfl hl.1 rfl (Nat.le_of_ble_eq_true rfl) dX6_count_4 ⟨Nat.zero_le _, Nat.zero_le _⟩ (fun S_1 hq H locs hX => ?_)
  refine lv_iload_n hM.1 hM.2.1 dX6_count_7 rfl (lv_at hl 1 rfl) ?_
  refine r_case (x := x1) (v := (0 : Int32)) (fun c_2 => ?_) (fun c_2 => ?_)
  · replace hq := hq.1 c_2
    refine r_tsw (v := (0 : Int32)) (tgt := 76) hM c_2 dX6_count_8 (by decide) (by decide) (by rfl) (by decide) ?_
    refine lv_aload_n hM.1 hM.2.1 dX6_count_76 rfl (lv_at hl 0 rfl) ?_
    refine g14 hM hK hX (hI.1 _ m14) 0 (by decide) qf_RX6_10 rfl dX6_count_77 ?_
    refine g3 hM hK hX (hI.1 _ (id_P (by decide)).2.1) 7 (by decide) qf_RX6_171 rfl dX6_count_80 ?_
    exact e_i hM hX hlocks hret hq dX6_count_83
  replace hq := hq.2 c_2
  refine r_case (x := x1) (v := (1 : Int32)) (fun c_3 => ?_) (fun c_3 => ?_)
  · replace hq := hq.1 c_3
    refine r_tsw (v := (1 : Int32)) (tgt := 84) hM c_3 dX6_count_8 (by decide) (by decide) (by rfl) (by decide) ?_
    refine lv_aload_n hM.1 hM.2.1 dX6_count_84 rfl (lv_at hl 0 rfl) ?_
    refine g14 hM hK hX (hI.1 _ m14) 0 (by decide) qf_RX6_10 rfl dX6_count_85 ?_
    refine g3 hM hK hX (hI.1 _ (id_P (by decide)).2.1) 6 (by decide) qf_RX6_207 rfl dX6_count_88 ?_
    exact e_i hM hX hlocks hret hq dX6_count_91
  replace hq := hq.2 c_3
  refine r_case (x := x1) (v := (2 : Int32)) (fun c_4 => ?_) (fun c_4 => ?_)
  · replace hq := hq.1 c_4
    refine r_tsw (v := (2 : Int32)) (tgt := 92) hM c_4 dX6_count_8 (by decide) (by decide) (by rfl) (by decide) ?_
    refine lv_aload_n hM.1 hM.2.1 dX6_count_92 rfl (lv_at hl 0 rfl) ?_
    refine g14 hM hK hX (hI.1 _ m14) 0 (by decide) qf_RX6_10 rfl dX6_count_93 ?_
    refine g3 hM hK hX (hI.1 _ (id_P (by decide)).2.1) 8 (by decide) qf_RX6_81 rfl dX6_count_96 ?_
    exact e_i hM hX hlocks hret hq dX6_count_99
  replace hq := hq.2 c_4
  refine r_case (x := x1) (v := (3 : Int32)) (fun c_5 => ?_) (fun c_5 => ?_)
  · replace hq := hq.1 c_5
    refine r_tsw (v := (3 : Int32)) (tgt := 100) hM c_5 dX6_count_8 (by decide) (by decide) (by rfl) (by decide) ?_
    refine lv_aload_n hM.1 hM.2.1 dX6_count_100 rfl (lv_at hl 0 rfl) ?_
    refine g14 hM hK hX (hI.1 _ m14) 0 (by decide) qf_RX6_10 rfl dX6_count_101 ?_
    refine cVi (As := []) hM hK hX ⟨hI.1, trivial⟩ hA (met_X3_maskOfAsked l D ad cy S_1 0 (by decide) hq) (kX3_maskOfAsked hM.2.2.2.2 ql_RX6_208 (Nat.le_of_ble_eq_true rfl) (Nat.le_of_ble_eq_true rfl)) (v3 hK hX (hI.1 _ (id_P (by decide)).2.1)) rfl hl.1 rfl (Nat.le_of_ble_eq_true rfl) dX6_count_104 ⟨Nat.zero_le _, Nat.zero_le _⟩ (fun S_6 r_7 hq H locs hX => ?_)
    exact e_i hM hX hlocks hret hq dX6_count_107
  replace hq := hq.2 c_5
  refine r_case (x := x1) (v := (4 : Int32)) (fun c_8 => ?_) (fun c_8 => ?_)
  · replace hq := hq.1 c_8
    refine r_tsw (v := (4 : Int32)) (tgt := 108) hM c_8 dX6_count_8 (by decide) (by decide) (by rfl) (by decide) ?_
    refine lv_aload_n hM.1 hM.2.1 dX6_count_108 rfl (lv_at hl 0 rfl) ?_
    refine g14 hM hK hX (hI.1 _ m14) 0 (by decide) qf_RX6_10 rfl dX6_count_109 ?_
    refine cVi (As := []) hM hK hX ⟨hI.1, trivial⟩ hA (met_X3_maskOfShutOut l D ad cy S_1 0 (by decide) hq) (kX3_maskOfShutOut hM.2.2.2.2 ql_RX6_211 (Nat.le_of_ble_eq_true rfl) (Nat.le_of_ble_eq_true rfl)) (v3 hK hX (hI.1 _ (id_P (by decide)).2.1)) rfl hl.1 rfl (Nat.le_of_ble_eq_true rfl) dX6_count_112 ⟨Nat.zero_le _, Nat.zero_le _⟩ (fun S_9 r_10 hq H locs hX => ?_)
    exact e_i hM hX hlocks hret hq dX6_count_115
  replace hq := hq.2 c_8
  refine r_case (x := x1) (v := (5 : Int32)) (fun c_11 => ?_) (fun c_11 => ?_)
  · replace hq := hq.1 c_11
    refine r_tsw (v := (5 : Int32)) (tgt := 116) hM c_11 dX6_count_8 (by decide) (by decide) (by rfl) (by decide) ?_
    refine lv_aload_n hM.1 hM.2.1 dX6_count_116 rfl (lv_at hl 0 rfl) ?_
    refine g14 hM hK hX (hI.1 _ m14) 0 (by decide) qf_RX6_10 rfl dX6_count_117 ?_
    refine cVi (As := []) hM hK hX ⟨hI.1, trivial⟩ hA (met_X3_mean l D ad cy S_1 0 (by decide) hq) (kX3_mean hM.2.2.2.2 ql_RX6_214 (Nat.le_of_ble_eq_true rfl) (Nat.le_of_ble_eq_true rfl)) (v3 hK hX (hI.1 _ (id_P (by decide)).2.1)) rfl hl.1 rfl (Nat.le_of_ble_eq_true rfl) dX6_count_120 ⟨Nat.zero_le _, Nat.zero_le _⟩ (fun S_12 r_13 hq H locs hX => ?_)
    exact e_i hM hX hlocks hret hq dX6_count_123
  replace hq := hq.2 c_11
  refine r_case (x := x1) (v := (6 : Int32)) (fun c_14 => ?_) (fun c_14 => ?_)
  · replace hq := hq.1 c_14
    refine r_tsw (v := (6 : Int32)) (tgt := 124) hM c_14 dX6_count_8 (by decide) (by decide) (by rfl) (by decide) ?_
    refine lv_aload_n hM.1 hM.2.1 dX6_count_124 rfl (lv_at hl 0 rfl) ?_
    refine g14 hM hK hX (hI.1 _ m14) 0 (by decide) qf_RX6_10 rfl dX6_count_125 ?_
    refine cVi (As := []) hM hK hX ⟨hI.1, trivial⟩ hA (met_X3_slope l D ad cy S_1 0 (by decide) hq) (kX3_slope hM.2.2.2.2 ql_RX6_217 (Nat.le_of_ble_eq_true rfl) (Nat.le_of_ble_eq_true rfl)) (v3 hK hX (hI.1 _ (id_P (by decide)).2.1)) rfl hl.1 rfl (Nat.le_of_ble_eq_true rfl) dX6_count_128 ⟨Nat.zero_le _, Nat.zero_le _⟩ (fun S_15 r_16 hq H locs hX => ?_)
    exact e_i hM hX hlocks hret hq dX6_count_131
  replace hq := hq.2 c_14
  refine r_case (x := x1) (v := (7 : Int32)) (fun c_17 => ?_) (fun c_17 => ?_)
  · replace hq := hq.1 c_17
    refine r_tsw (v := (7 : Int32)) (tgt := 132) hM c_17 dX6_count_8 (by decide) (by decide) (by rfl) (by decide) ?_
    refine lv_aload_n hM.1 hM.2.1 dX6_count_132 rfl (lv_at hl 0 rfl) ?_
    refine g14 hM hK hX (hI.1 _ m14) 0 (by decide) qf_RX6_10 rfl dX6_count_133 ?_
    refine lv_iconst (v := (-1 : Int32)) hM.1 hM.2.1 dX6_count_136 (by decide) ?_
    refine cVi (As := [.int (-1 : Int32)]) hM hK hX ⟨hI.1, trivial⟩ hA (met_X3_middleWithout l D ad cy S_1 0 (-1 : Int32) (by decide) hq) (kX3_middleWithout hM.2.2.2.2 ql_RX6_220 (Nat.le_of_ble_eq_true rfl) (Nat.le_of_ble_eq_true rfl)) (v3 hK hX (hI.1 _ (id_P (by decide)).2.1)) rfl hl.1 rfl (Nat.le_of_ble_eq_true rfl) dX6_count_137 ⟨Nat.zero_le _, Nat.zero_le _⟩ (fun S_18 r_19 hq H locs hX => ?_)
    exact e_i hM hX hlocks hret hq dX6_count_140
  replace hq := hq.2 c_17
  refine r_case (x := x1) (v := (8 : Int32)) (fun c_20 => ?_) (fun c_20 => ?_)
  · replace hq := hq.1 c_20
    refine r_tsw (v := (8 : Int32)) (tgt := 141) hM c_20 dX6_count_8 (by decide) (by decide) (by rfl) (by decide) ?_
    refine lv_aload_n hM.1 hM.2.1 dX6_count_141 rfl (lv_at hl 0 rfl) ?_
    refine g14 hM hK hX (hI.1 _ m14) 0 (by decide) qf_RX6_10 rfl dX6_count_142 ?_
    refine g3 hM hK hX (hI.1 _ (id_P (by decide)).2.1) 9 (by decide) qf_RX6_223 rfl dX6_count_145 ?_
    exact e_i hM hX hlocks hret hq dX6_count_148
  replace hq := hq.2 c_20
  refine r_case (x := x1) (v := (9 : Int32)) (fun c_21 => ?_) (fun c_21 => ?_)
  · replace hq := hq.1 c_21
    refine r_tsw (v := (9 : Int32)) (tgt := 149) hM c_21 dX6_count_8 (by decide) (by decide) (by rfl) (by decide) ?_
    refine lv_aload_n hM.1 hM.2.1 dX6_count_149 rfl (lv_at hl 0 rfl) ?_
    refine g14 hM hK hX (hI.1 _ m14) 0 (by decide) qf_RX6_10 rfl dX6_count_150 ?_
    refine g3 hM hK hX (hI.1 _ (id_P (by decide)).2.1) 10 (by decide) qf_RX6_226 rfl dX6_count_153 ?_
    exact e_i hM hX hlocks hret hq dX6_count_156
  replace hq := hq.2 c_21
  refine r_case (x := x1) (v := (10 : Int32)) (fun c_22 => ?_) (fun c_22 => ?_)
  · replace hq := hq.1 c_22
    refine r_tsw (v := (10 : Int32)) (tgt := 157) hM c_22 dX6_count_8 (by decide) (by decide) (by rfl) (by decide) ?_
    refine lv_aload_n hM.1 hM.2.1 dX6_count_157 rfl (lv_at hl 0 rfl) ?_
    refine g14 hM hK hX (hI.1 _ m14) 2 (by decide) qf_RX6_22 rfl dX6_count_158 ?_
    refine g1 hM hK hX (hI.1 _ m1) 3 (by decide) qf_RX6_156 rfl dX6_count_161 ?_
    exact e_i hM hX hlocks hret hq dX6_count_164
  replace hq := hq.2 c_22
  refine r_case (x := x1) (v := (11 : Int32)) (fun c_23 => ?_) (fun c_23 => ?_)
  · replace hq := hq.1 c_23
    refine r_tsw (v := (11 : Int32)) (tgt := 165) hM c_23 dX6_count_8 (by decide) (by decide) (by rfl) (by decide) ?_
    refine lv_aload_n hM.1 hM.2.1 dX6_count_165 rfl (lv_at hl 0 rfl) ?_
    refine g14 hM hK hX (hI.1 _ m14) 5 (by decide) qf_RX6_39 rfl dX6_count_166 ?_
    refine g2 hM hK hX (hI.1 _ m2) 3 (by decide) qf_RX6_132 rfl dX6_count_169 ?_
    exact e_i hM hX hlocks hret hq dX6_count_172
  replace hq := hq.2 c_23
  refine r_case (x := x1) (v := (12 : Int32)) (fun c_24 => ?_) (fun c_24 => ?_)
  · replace hq := hq.1 c_24
    refine r_tsw (v := (12 : Int32)) (tgt := 173) hM c_24 dX6_count_8 (by decide) (by decide) (by rfl) (by decide) ?_
    refine lv_aload_n hM.1 hM.2.1 dX6_count_173 rfl (lv_at hl 0 rfl) ?_
    refine g14 hM hK hX (hI.1 _ m14) 0 (by decide) qf_RX6_10 rfl dX6_count_174 ?_
    refine g3 hM hK hX (hI.1 _ (id_P (by decide)).2.1) 11 (by decide) qf_RX6_117 rfl dX6_count_177 ?_
    exact e_i hM hX hlocks hret hq dX6_count_180
  replace hq := hq.2 c_24
  refine r_tswD (tgt := 181) 13 hM (by decide) (by decide) (fun k hk => ?_) dX6_count_8 (by decide) ?_
  · match k, hk with
    | 0, _ => exact c_2
    | 1, _ => exact c_3
    | 2, _ => exact c_4
    | 3, _ => exact c_5
    | 4, _ => exact c_8
    | 5, _ => exact c_11
    | 6, _ => exact c_14
    | 7, _ => exact c_17
    | 8, _ => exact c_20
    | 9, _ => exact c_21
    | 10, _ => exact c_22
    | 11, _ => exact c_23
    | 12, _ => exact c_24
    | k + 13, h => exact absurd h (by omega)
  refine lv_aload_n hM.1 hM.2.1 dX6_count_181 rfl (lv_at hl 0 rfl) ?_
  refine g14 hM hK hX (hI.1 _ m14) 0 (by decide) qf_RX6_10 rfl dX6_count_182 ?_
  refine g3 hM hK hX (hI.1 _ (id_P (by decide)).2.1) 12 (by decide) qf_RX6_120 rfl dX6_count_185 ?_
  exact e_i hM hX hlocks hret hq dX6_count_188
def rmX6_ranked : Room := { frames := 5, cells := 0, slots := 0, locals := 113 }
theorem kX6_ranked {R : Room} {s : State} {args : Array Value} {own : String} {index : Nat} (ht : ∀ w ∈ lw_all, w.before args s = true) (hl : Cond.methodLink own index yX6_ranked ∈ lw_all) (hf : rmX6_ranked.frames + 1 ≤ R.frames) (hlo : 8 + (3 + 11) + rmX6_ranked.locals ≤ R.locals) : CallW R s args own RX6 index yX6_ranked cX6_ranked 3 (some Jvm.ClassFile.FieldType.int) (wA yX6_ranked cX6_ranked 3 (some Jvm.ClassFile.FieldType.int)) rmX6_ranked 0 0 2 := cwV 2 ht (good_V hl qm_yX6_ranked qs_yX6_ranked qi_RX6 qc_yX6_ranked) rfl rfl rfl (by decide +kernel) ⟨hf, hlo⟩
set_option maxRecDepth 100000 in
set_option maxHeartbeats 4000000 in
theorem met_X6_ranked (l : Launch) (D : va_G) (ad : Adr) (cy : Nat → ClassId) (S : Mem) (x1 : Int32) (x2 : Int32) {Q : Mem → Int32 → Prop} (hq : vc_X6_ranked S x1 x2 Q) : Ci l yX6_ranked (wA yX6_ranked cX6_ranked 3 (some Jvm.ClassFile.FieldType.int)) rmX6_ranked D ad cy (IN []) [.ref (ad 14 0 0), .int x1, .int x2] S Q := by
  intro o sz hI
  refine mkC (own := RX6) (lv := [(0, .ref (ad 14 0 0)), (1, .int x1), (2, .int x2)]) (by decide) rfl (Nat.le_of_ble_eq_true rfl) rfl ?_
  intro p e s m below meth c ls hsz hM hlocks hret hK hA hX hl
  unfold vc_X6_ranked at hq
  refine lv_iload_n hM.1 hM.2.1 dX6_ranked_0 rfl (lv_at hl 1 rfl) ?_
  refine lv_iconst (v := (0 : Int32)) hM.1 hM.2.1 dX6_ranked_1 (by decide) ?_
  refine lv_iconst (v := (1 : Int32)) hM.1 hM.2.1 dX6_ranked_2 (by decide) ?_
  refine cSv (As := [.int x1, .int (0 : Int32), .int (1 : Int32)]) hM hK hX ⟨hI.1, trivial⟩ hA (met_X6_checkRange l D ad cy S x1 (0 : Int32) (1 : Int32) hq) (kX6_checkRange hM.2.2.2.2 ql_RX6_47 (Nat.le_of_ble_eq_true rfl) (Nat.le_of_ble_eq_true rfl)) rfl hl.1 rfl (Nat.le_of_ble_eq_true rfl) dX6_ranked_3 ⟨Nat.zero_le _, Nat.zero_le _⟩ (fun S_1 hq H locs hX => ?_)
  refine lv_iload_n hM.1 hM.2.1 dX6_ranked_6 rfl (lv_at hl 2 rfl) ?_
  refine cSv (As := [.int x2]) hM hK hX ⟨hI.1, trivial⟩ hA (met_X6_checkNotNegative l D ad cy S_1 x2 hq) (kX6_checkNotNegative hM.2.2.2.2 ql_RX6_189 (Nat.le_of_ble_eq_true rfl) (Nat.le_of_ble_eq_true rfl)) rfl hl.1 rfl (Nat.le_of_ble_eq_true rfl) dX6_ranked_7 ⟨Nat.zero_le _, Nat.zero_le _⟩ (fun S_2 hq H locs hX => ?_)
  refine lv_aload_n hM.1 hM.2.1 dX6_ranked_10 rfl (lv_at hl 0 rfl) ?_
  refine g14 hM hK hX (hI.1 _ m14) 0 (by decide) qf_RX6_10 rfl dX6_ranked_11 ?_
  refine lv_iload_n hM.1 hM.2.1 dX6_ranked_14 rfl (lv_at hl 1 rfl) ?_
  refine lv_iload_n hM.1 hM.2.1 dX6_ranked_15 rfl (lv_at hl 2 rfl) ?_
  refine cVi (As := [.int x1, .int x2]) hM hK hX ⟨hI.1, trivial⟩ hA (met_X3_atRank l D ad cy S_2 0 x1 x2 (by decide) hq) (kX3_atRank hM.2.2.2.2 ql_RX6_229 (Nat.le_of_ble_eq_true rfl) (Nat.le_of_ble_eq_true rfl)) (v3 hK hX (hI.1 _ (id_P (by decide)).2.1)) rfl hl.1 rfl (Nat.le_of_ble_eq_true rfl) dX6_ranked_16 ⟨Nat.zero_le _, Nat.zero_le _⟩ (fun S_3 r_4 hq H locs hX => ?_)
  exact e_i hM hX hlocks hret hq dX6_ranked_19
def rmX6_between : Room := { frames := 2, cells := 0, slots := 0, locals := 46 }
theorem kX6_between {R : Room} {s : State} {args : Array Value} {own : String} {index : Nat} (ht : ∀ w ∈ lw_all, w.before args s = true) (hl : Cond.methodLink own index yX6_between ∈ lw_all) (hf : rmX6_between.frames + 1 ≤ R.frames) (hlo : 8 + (3 + 11) + rmX6_between.locals ≤ R.locals) : CallW R s args own RX6 index yX6_between cX6_between 3 (some Jvm.ClassFile.FieldType.int) (wA yX6_between cX6_between 3 (some Jvm.ClassFile.FieldType.int)) rmX6_between 0 0 2 := cwV 2 ht (good_V hl qm_yX6_between qs_yX6_between qi_RX6 qc_yX6_between) rfl rfl rfl (by decide +kernel) ⟨hf, hlo⟩
set_option maxRecDepth 100000 in
set_option maxHeartbeats 4000000 in
theorem met_X6_between (l : Launch) (D : va_G) (ad : Adr) (cy : Nat → ClassId) (S : Mem) (x1 : Int32) (x2 : Int32) {Q : Mem → Int32 → Prop} (hq : vc_X6_between S x1 x2 Q) : Ci l yX6_between (wA yX6_between cX6_between 3 (some Jvm.ClassFile.FieldType.int)) rmX6_between D ad cy (IN []) [.ref (ad 14 0 0), .int x1, .int x2] S Q := by
  intro o sz hI
  refine mkC (own := RX6) (lv := [(0, .ref (ad 14 0 0)), (1, .int x1), (2, .int x2)]) (by decide) rfl (Nat.le_of_ble_eq_true rfl) rfl ?_
  intro p e s m below meth c ls hsz hM hlocks hret hK hA hX hl
  unfold vc_X6_between at hq
  refine lv_aload_n hM.1 hM.2.1 dX6_between_0 rfl (lv_at hl 0 rfl) ?_
  refine g14 hM hK hX (hI.1 _ m14) 0 (by decide) qf_RX6_10 rfl dX6_between_1 ?_
  refine lv_iload_n hM.1 hM.2.1 dX6_between_4 rfl (lv_at hl 1 rfl) ?_
  refine lv_iload_n hM.1 hM.2.1 dX6_between_5 rfl (lv_at hl 2 rfl) ?_
  refine cVi (As := [.int x1, .int x2]) hM hK hX ⟨hI.1, trivial⟩ hA (met_X3_countMendedIn l D ad cy S 0 x1 x2 (by decide) hq) (kX3_countMendedIn hM.2.2.2.2 ql_RX6_233 (Nat.le_of_ble_eq_true rfl) (Nat.le_of_ble_eq_true rfl)) (v3 hK hX (hI.1 _ (id_P (by decide)).2.1)) rfl hl.1 rfl (Nat.le_of_ble_eq_true rfl) dX6_between_6 ⟨Nat.zero_le _, Nat.zero_le _⟩ (fun S_1 r_2 hq H locs hX => ?_)
  exact e_i hM hX hlocks hret hq dX6_between_9
def rmX6_ifLag : Room := { frames := 2, cells := 0, slots := 0, locals := 45 }
theorem kX6_ifLag {R : Room} {s : State} {args : Array Value} {own : String} {index : Nat} (ht : ∀ w ∈ lw_all, w.before args s = true) (hl : Cond.methodLink own index yX6_ifLag ∈ lw_all) (hf : rmX6_ifLag.frames + 1 ≤ R.frames) (hlo : 8 + (3 + 11) + rmX6_ifLag.locals ≤ R.locals) : CallW R s args own RX6 index yX6_ifLag cX6_ifLag 3 (some Jvm.ClassFile.FieldType.int) (wA yX6_ifLag cX6_ifLag 3 (some Jvm.ClassFile.FieldType.int)) rmX6_ifLag 0 0 2 := cwV 2 ht (good_V hl qm_yX6_ifLag qs_yX6_ifLag qi_RX6 qc_yX6_ifLag) rfl rfl rfl (by decide +kernel) ⟨hf, hlo⟩
set_option maxRecDepth 100000 in
set_option maxHeartbeats 4000000 in
theorem met_X6_ifLag (l : Launch) (D : va_G) (ad : Adr) (cy : Nat → ClassId) (S : Mem) (x1 : Int32) (x2 : Int32) {Q : Mem → Int32 → Prop} (hq : vc_X6_ifLag S x1 x2 Q) : Ci l yX6_ifLag (wA yX6_ifLag cX6_ifLag 3 (some Jvm.ClassFile.FieldType.int)) rmX6_ifLag D ad cy (IN []) [.ref (ad 14 0 0), .int x1, .int x2] S Q := by
  intro o sz hI
  refine mkC (own := RX6) (lv := [(0, .ref (ad 14 0 0)), (1, .int x1), (2, .int x2)]) (by decide) rfl (Nat.le_of_ble_eq_true rfl) rfl ?_
  intro p e s m below meth c ls hsz hM hlocks hret hK hA hX hl
  unfold vc_X6_ifLag at hq
  refine lv_aload_n hM.1 hM.2.1 dX6_ifLag_0 rfl (lv_at hl 0 rfl) ?_
  refine lv_iload_n hM.1 hM.2.1 dX6_ifLag_1 rfl (lv_at hl 1 rfl) ?_
  refine cVv (As := [.int x1]) hM hK hX ⟨hI.1, trivial⟩ hA (met_X6_checkThermometer l D ad cy S x1 hq) (kX6_checkThermometer hM.2.2.2.2 ql_RX6_91 (Nat.le_of_ble_eq_true rfl) (Nat.le_of_ble_eq_true rfl)) (v14 hK hX (hI.1 _ m14)) rfl hl.1 rfl (Nat.le_of_ble_eq_true rfl) dX6_ifLag_2 ⟨Nat.zero_le _, Nat.zero_le _⟩ (fun S_1 hq H locs hX => ?_)
  refine lv_iload_n hM.1 hM.2.1 dX6_ifLag_5 rfl (lv_at hl 2 rfl) ?_
  refine lv_iconst (v := (1 : Int32)) hM.1 hM.2.1 dX6_ifLag_6 (by decide) ?_
  refine lv_bipush (v := (9 : Int32)) hM.1 hM.2.1 dX6_ifLag_7 (by decide) ?_
  refine cSv (As := [.int x2, .int (1 : Int32), .int (9 : Int32)]) hM hK hX ⟨hI.1, trivial⟩ hA (met_X6_checkRange l D ad cy S_1 x2 (1 : Int32) (9 : Int32) hq) (kX6_checkRange hM.2.2.2.2 ql_RX6_47 (Nat.le_of_ble_eq_true rfl) (Nat.le_of_ble_eq_true rfl)) rfl hl.1 rfl (Nat.le_of_ble_eq_true rfl) dX6_ifLag_9 ⟨Nat.zero_le _, Nat.zero_le _⟩ (fun S_2 hq H locs hX => ?_)
  refine lv_aload_n hM.1 hM.2.1 dX6_ifLag_12 rfl (lv_at hl 0 rfl) ?_
  refine g14 hM hK hX (hI.1 _ m14) 0 (by decide) qf_RX6_10 rfl dX6_ifLag_13 ?_
  refine lv_iload_n hM.1 hM.2.1 dX6_ifLag_16 rfl (lv_at hl 1 rfl) ?_
  refine cVr (As := [.int x1]) hM hK hX ⟨hI.1, trivial⟩ hA (met_X3_at l D ad cy S_2 0 x1 (by decide) hq) (kX3_at hM.2.2.2.2 ql_RX6_94 (Nat.le_of_ble_eq_true rfl) (Nat.le_of_ble_eq_true rfl)) (v3 hK hX (hI.1 _ (id_P (by decide)).2.1)) rfl hl.1 rfl (Nat.le_of_ble_eq_true rfl) dX6_ifLag_17 ⟨Nat.zero_le _, Nat.zero_le _⟩ (fun S_3 P_4 i_5 hq H locs hX => ?_)
  refine lv_iload_n hM.1 hM.2.1 dX6_ifLag_20 rfl (lv_at hl 2 rfl) ?_
  have hT_6 := hq.1
  replace hq := hq.2
  refine cVi (As := [.int x2]) hM hK hX ⟨hI.1, trivial⟩ hA (met_X5_mendedWith l D ad cy S_3 P_4 i_5 x2 hT_6 hq) (kX5_mendedWith hM.2.2.2.2 ql_RX6_236 (Nat.le_of_ble_eq_true rfl) (Nat.le_of_ble_eq_true rfl)) (v5 hK hX (hI.1 _ (id_T hT_6).1)) rfl hl.1 rfl (Nat.le_of_ble_eq_true rfl) dX6_ifLag_21 ⟨Nat.zero_le _, Nat.zero_le _⟩ (fun S_7 r_8 hq H locs hX => ?_)
  exact e_i hM hX hlocks hret hq dX6_ifLag_24
