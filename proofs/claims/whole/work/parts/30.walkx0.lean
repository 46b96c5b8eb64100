def rmX0_clear : Room := { frames := 0, cells := 0, slots := 0, locals := 0 }
theorem kX0_clear {R : Room} {s : State} {args : Array Value} {own : String} {index : Nat} (ht : ∀ w ∈ lw_all, w.before args s = true) (hl : Cond.methodLink own index yX0_clear ∈ lw_all) (hf : rmX0_clear.frames + 1 ≤ R.frames) (hlo : 8 + (1 + 11) + rmX0_clear.locals ≤ R.locals) : CallW R s args own RX0 index yX0_clear cX0_clear 1 none (wA yX0_clear cX0_clear 1 none) rmX0_clear 0 0 0 := cwV 0 ht (good_V hl qm_yX0_clear qs_yX0_clear qi_RX0 qc_yX0_clear) rfl rfl rfl (by decide +kernel) ⟨hf, hlo⟩
set_option maxRecDepth 100000 in
set_option maxHeartbeats 4000000 in
theorem met_X0_clear (l : Launch) (D : va_G) (ad : Adr) (cy : Nat → ClassId) (S : Mem) (P : Nat) {Q : Mem → Prop} (hv : P < 11) (hq : vc_X0_clear S P Q) : Cv l yX0_clear (wA yX0_clear cX0_clear 1 none) rmX0_clear D ad cy [.ref (ad 0 P 0)] S Q := by
  intro o sz
  refine mkC (own := RX0) (lv := [(0, .ref (ad 0 P 0))]) (by decide) rfl (Nat.le_of_ble_eq_true rfl) rfl ⟨rfl, rfl⟩ ?_
  intro p e s m below meth c ls hsz hM hlocks hret hK hA hX hl
  unfold vc_X0_clear at hq
  refine lv_aload_n hM.1 hM.2.1 dX0_clear_0 rfl (lv_at hl 0 rfl) ?_
  refine lv_iconst (v := (0 : Int32)) hM.1 hM.2.1 dX0_clear_1 (by decide) ?_
  refine p0_1 hM hK hX (id_P hv).1 qf_RX0_15 dX0_clear_2 (fun S_1 e_2 H locs hX => ?_)
  replace hq := hq S_1 e_2
  exact e_v hM hX hlocks hret hq dX0_clear_5
def rmX0_insert : Room := { frames := 0, cells := 0, slots := 0, locals := 0 }
theorem kX0_insert {R : Room} {s : State} {args : Array Value} {own : String} {index : Nat} (ht : ∀ w ∈ lw_all, w.before args s = true) (hl : Cond.methodLink own index yX0_insert ∈ lw_all) (hf : rmX0_insert.frames + 1 ≤ R.frames) (hlo : 8 + (3 + 11) + rmX0_insert.locals ≤ R.locals) : CallW R s args own RX0 index yX0_insert cX0_insert 3 none (wA yX0_insert cX0_insert 3 none) rmX0_insert 0 0 1 := cwV 1 ht (good_V hl qm_yX0_insert qs_yX0_insert qi_RX0 qc_yX0_insert) rfl rfl rfl (by decide +kernel) ⟨hf, hlo⟩
set_option maxRecDepth 100000 in
set_option maxHeartbeats 4000000 in
theorem met_X0_insert (l : Launch) (D : va_G) (ad : Adr) (cy : Nat → ClassId) (S : Mem) (P : Nat) (x1 : Int32) {Q : Mem → Prop} (hv : P < 11) (hq : vc_X0_insert S P x1 Q) : Cv l yX0_insert (wA yX0_insert cX0_insert 3 none) rmX0_insert D ad cy [.ref (ad 0 P 0), .int x1] S Q := by
  intro o sz
  refine mkC (own := RX0) (lv := [(0, .ref (ad 0 P 0)), (1, .int x1)]) (by decide) rfl (Nat.le_of_ble_eq_true rfl) rfl ⟨rfl, rfl⟩ ?_
  intro p e s m below meth c ls hsz hM hlocks hret hK hA hX hl
  have L18 : ∀ {K : Mem → Int32 → Prop} (hk : ∀ (S : Mem) (y2 : Int32), K S y2 → ∀ (H : Heap) (locs : List Loc) (ls : Array Slot), PW D ad cy (AW ad sz) s.heap o S H locs → lv_has ls 3 [(0, .ref (ad 0 P 0)), (1, .int x1), (2, .int y2)] → Wv D ad cy o sz Q p l e rmX0_insert s m [.ref (ad 0 P 0), .int x1] below meth c H locs (F0 m 54 ls [])), ∀ (n : Nat) (S : Mem) (y2 : Int32), vc_X0_insert_L18 Q K P x1 n S y2 → ∀ (H : Heap) (locs : List Loc) (ls : Array Slot), PW D ad cy (AW ad sz) s.heap o S H locs → lv_has ls 3 [(0, .ref (ad 0 P 0)), (1, .int x1), (2, .int y2)] → Wv D ad cy o sz Q p l e rmX0_insert s m [.ref (ad 0 P 0), .int x1] below meth c H locs (F0 m 18 ls []) := by
    intro K hk n
    induction n with
    | zero =>
      intro S y2 hq
      rw [vc_X0_insert_L18] at hq
      exact hq.elim
    | succ n ih =>
      intro S y2 hq H locs ls hX hl
      rw [vc_X0_insert_L18] at hq
      refine lv_iload_n hM.1 hM.2.1 dX0_insert_18 rfl (lv_at hl 2 rfl) ?_
      refine lv_if_le (tgt := 54) hM.1 hM.2.1 dX0_insert_19 (by decide) (fun c_2 => ?_) (fun c_2 => ?_)
      · replace hq := hq.1 c_2
        exact hk S y2 hq _ _ _ hX (lv_sub hl [0, 1, 2] rfl)
      replace hq := hq.2 c_2
      refine lv_aload_n hM.1 hM.2.1 dX0_insert_22 rfl (lv_at hl 0 rfl) ?_
      refine g0 hM hK hX (id_P hv).1 0 (by decide) qf_RX0_9 rfl dX0_insert_23 ?_
      refine lv_iload_n hM.1 hM.2.1 dX0_insert_26 rfl (lv_at hl 2 rfl) ?_
      refine lv_iconst (v := (1 : Int32)) hM.1 hM.2.1 dX0_insert_27 (by decide) ?_
      refine lv_isub hM.1 hM.2.1 dX0_insert_28 ?_
      have c_3 := hq.1
      replace hq := hq.2
      refine r_iald hM hK hX (id_P hv).2.2.1 (a8 P 0) c_3 dX0_insert_29 ?_
      refine lv_iload_n hM.1 hM.2.1 dX0_insert_30 rfl (lv_at hl 1 rfl) ?_
      refine lv_icmp_le (tgt := 54) hM.1 hM.2.1 dX0_insert_31 (by decide) (fun c_4 => ?_) (fun c_4 => ?_)
      · replace hq := hq.1 c_4
        exact hk S y2 hq _ _ _ hX (lv_sub hl [0, 1, 2] rfl)
      replace hq := hq.2 c_4
      refine lv_aload_n hM.1 hM.2.1 dX0_insert_34 rfl (lv_at hl 0 rfl) ?_
      refine g0 hM hK hX (id_P hv).1 0 (by decide) qf_RX0_9 rfl dX0_insert_35 ?_
      refine lv_iload_n hM.1 hM.2.1 dX0_insert_38 rfl (lv_at hl 2 rfl) ?_
      refine lv_aload_n hM.1 hM.2.1 dX0_insert_39 rfl (lv_at hl 0 rfl) ?_
      refine g0 hM hK hX (id_P hv).1 0 (by decide) qf_RX0_9 rfl dX0_insert_40 ?_
      refine lv_iload_n hM.1 hM.2.1 dX0_insert_43 rfl (lv_at hl 2 rfl) ?_
      refine lv_iconst (v := (1 : Int32)) hM.1 hM.2.1 dX0_insert_44 (by decide) ?_
      refine lv_isub hM.1 hM.2.1 dX0_insert_45 ?_
      have c_5 := hq.1
      replace hq := hq.2
      refine r_iald hM hK hX (id_P hv).2.2.1 (a8 P 0) c_5 dX0_insert_46 ?_
      have c_7 := hq.1
      replace hq := hq.2
      refine r_iast hM hK hX (id_P hv).2.2.1 (a8 P 0) c_7 dX0_insert_47 (fun S_6 e_8 H locs hX => ?_)
      replace hq := hq S_6 e_8
      refine lv_iinc (v := (y2 + (-1 : Int32))) (lv' := [(2, .int (y2 + (-1 : Int32))), (0, .ref (ad 0 P 0)), (1, .int x1)]) hM.1 hM.2.1 dX0_insert_48 hl (k := 2) rfl rfl (by decide) rfl (fun ls hl => ?_)
      refine lv_goto (tgt := 18) hM.1 hM.2.1 dX0_insert_51 (by decide) ?_
      exact ih S_6 (y2 + (-1 : Int32)) hq _ _ _ hX (lv_sub hl [1, 2, 0] rfl)
  have J54 : ∀ (S : Mem) (y2 : Int32), vc_X0_insert_J54 Q P x1 S y2 → ∀ (H : Heap) (locs : List Loc) (ls : Array Slot), PW D ad cy (AW ad sz) s.heap o S H locs → lv_has ls 3 [(0, .ref (ad 0 P 0)), (1, .int x1), (2, .int y2)] → Wv D ad cy o sz Q p l e rmX0_insert s m [.ref (ad 0 P 0), .int x1] below meth c H locs (F0 m 54 ls []) := by
    intro S y2 hq H locs ls hX hl
    unfold vc_X0_insert_J54 at hq
    refine lv_aload_n hM.1 hM.2.1 dX0_insert_54 rfl (lv_at hl 0 rfl) ?_
    refine g0 hM hK hX (id_P hv).1 0 (by decide) qf_RX0_9 rfl dX0_insert_55 ?_
    refine lv_iload_n hM.1 hM.2.1 dX0_insert_58 rfl (lv_at hl 2 rfl) ?_
    refine lv_iload_n hM.1 hM.2.1 dX0_insert_59 rfl (lv_at hl 1 rfl) ?_
    have c_12 := hq.1
    replace hq := hq.2
    refine r_iast hM hK hX (id_P hv).2.2.1 (a8 P 0) c_12 dX0_insert_60 (fun S_11 e_13 H locs hX => ?_)
    replace hq := hq S_11 e_13
    refine lv_aload_n hM.1 hM.2.1 dX0_insert_61 rfl (lv_at hl 0 rfl) ?_
    refine lv_dup hM.1 hM.2.1 dX0_insert_62 rfl ?_
    refine g0 hM hK hX (id_P hv).1 1 (by decide) qf_RX0_15 rfl dX0_insert_63 ?_
    refine lv_iconst (v := (1 : Int32)) hM.1 hM.2.1 dX0_insert_66 (by decide) ?_
    refine lv_iadd hM.1 hM.2.1 dX0_insert_67 ?_
    refine p0_1 hM hK hX (id_P hv).1 qf_RX0_15 dX0_insert_68 (fun S_14 e_15 H locs hX => ?_)
    replace hq := hq S_14 e_15
    exact e_v hM hX hlocks hret hq dX0_insert_71
  unfold vc_X0_insert at hq
  refine lv_aload_n hM.1 hM.2.1 dX0_insert_0 rfl (lv_at hl 0 rfl) ?_
  refine g0 hM hK hX (id_P hv).1 1 (by decide) qf_RX0_15 rfl dX0_insert_1 ?_
  refine lv_aload_n hM.1 hM.2.1 dX0_insert_4 rfl (lv_at hl 0 rfl) ?_
  refine g0 hM hK hX (id_P hv).1 0 (by decide) qf_RX0_9 rfl dX0_insert_5 ?_
  refine r_alen (v := (10 : Int32)) (t0 := 0) hM hK hX (id_P hv).2.2.1 rfl rfl rfl dX0_insert_8 ?_
  refine lv_icmp_lt (tgt := 13) hM.1 hM.2.1 dX0_insert_9 (by decide) (fun c_1 => ?_) (fun c_1 => ?_)
  · replace hq := hq.1 c_1
    refine lv_aload_n hM.1 hM.2.1 dX0_insert_13 rfl (lv_at hl 0 rfl) ?_
    refine g0 hM hK hX (id_P hv).1 1 (by decide) qf_RX0_15 rfl dX0_insert_14 ?_
    refine lv_istore_n (lv' := [(2, .int (S 0 P 0 1)), (0, .ref (ad 0 P 0)), (1, .int x1)]) hM.1 hM.2.1 dX0_insert_17 rfl hl (by decide) rfl (fun ls hl => ?_)
    obtain ⟨k0, hq⟩ := hq
    refine L18 (fun S_9 y2_10 hq H locs ls hX hl => ?_) k0 S (S 0 P 0 1) hq _ _ _ hX (lv_sub hl [1, 2, 0] rfl)
    exact J54 S_9 y2_10 hq _ _ _ hX (lv_sub hl [0, 1, 2] rfl)
  replace hq := hq.2 c_1
  exact e_v hM hX hlocks hret hq dX0_insert_12
def rmX0_middle : Room := { frames := 0, cells := 0, slots := 0, locals := 0 }
theorem kX0_middle {R : Room} {s : State} {args : Array Value} {own : String} {index : Nat} (ht : ∀ w ∈ lw_all, w.before args s = true) (hl : Cond.methodLink own index yX0_middle ∈ lw_all) (hf : rmX0_middle.frames + 1 ≤ R.frames) (hlo : 8 + (2 + 11) + rmX0_middle.locals ≤ R.locals) : CallW R s args own RX0 index yX0_middle cX0_middle 2 (some Jvm.ClassFile.FieldType.int) (wA yX0_middle cX0_middle 2 (some Jvm.ClassFile.FieldType.int)) rmX0_middle 0 0 0 := cwV 0 ht (good_V hl qm_yX0_middle qs_yX0_middle qi_RX0 qc_yX0_middle) rfl rfl rfl (by decide +kernel) ⟨hf, hlo⟩
set_option maxRecDepth 100000 in
set_option maxHeartbeats 4000000 in
theorem met_X0_middle (l : Launch) (D : va_G) (ad : Adr) (cy : Nat → ClassId) (S : Mem) (P : Nat) {Q : Mem → Int32 → Prop} (hv : P < 11) (hq : vc_X0_middle S P Q) : Ci l yX0_middle (wA yX0_middle cX0_middle 2 (some Jvm.ClassFile.FieldType.int)) rmX0_middle D ad cy [.ref (ad 0 P 0)] S Q := by
  intro o sz
  refine mkC (own := RX0) (lv := [(0, .ref (ad 0 P 0))]) (by decide) rfl (Nat.le_of_ble_eq_true rfl) rfl ⟨rfl, rfl⟩ ?_
  intro p e s m below meth c ls hsz hM hlocks hret hK hA hX hl
  unfold vc_X0_middle at hq
  refine lv_aload_n hM.1 hM.2.1 dX0_middle_0 rfl (lv_at hl 0 rfl) ?_
  refine g0 hM hK hX (id_P hv).1 1 (by decide) qf_RX0_15 rfl dX0_middle_1 ?_
  refine lv_iconst (v := (1 : Int32)) hM.1 hM.2.1 dX0_middle_4 (by decide) ?_
  refine lv_isub hM.1 hM.2.1 dX0_middle_5 ?_
  refine lv_iconst (v := (2 : Int32)) hM.1 hM.2.1 dX0_middle_6 (by decide) ?_
  have c_1 := hq.1
  replace hq := hq.2
  refine lv_idiv hM.1 hM.2.1 dX0_middle_7 c_1 ?_
  refine lv_istore_n (lv' := [(1, .int (((S 0 P 0 1) - (1 : Int32)) / (2 : Int32))), (0, .ref (ad 0 P 0))]) hM.1 hM.2.1 dX0_middle_8 rfl hl (by decide) rfl (fun ls hl => ?_)
  refine lv_aload_n hM.1 hM.2.1 dX0_middle_9 rfl (lv_at hl 1 rfl) ?_
  refine g0 hM hK hX (id_P hv).1 1 (by decide) qf_RX0_15 rfl dX0_middle_10 ?_
  refine lv_if_le (tgt := 34) hM.1 hM.2.1 dX0_middle_13 (by decide) (fun c_2 => ?_) (fun c_2 => ?_)
  · replace hq := hq.1 c_2
    refine lv_ldc hM.1 hM.2.1 hM.2.2.2.1 (hM.2.2.2.2 _ qn_RX0_19) dX0_middle_34 ?_
    exact e_i hM hX hlocks hret hq dX0_middle_36
  replace hq := hq.2 c_2
  refine lv_iload_n hM.1 hM.2.1 dX0_middle_16 rfl (lv_at hl 0 rfl) ?_
  refine lv_aload_n hM.1 hM.2.1 dX0_middle_17 rfl (lv_at hl 1 rfl) ?_
  refine g0 hM hK hX (id_P hv).1 0 (by decide) qf_RX0_9 rfl dX0_middle_18 ?_
  refine r_alen (v := (10 : Int32)) (t0 := 0) hM hK hX (id_P hv).2.2.1 rfl rfl rfl dX0_middle_21 ?_
  refine lv_icmp_ge (tgt := 34) hM.1 hM.2.1 dX0_middle_22 (by decide) (fun c_3 => ?_) (fun c_3 => ?_)
  · replace hq := hq.1 c_3
    refine lv_ldc hM.1 hM.2.1 hM.2.2.2.1 (hM.2.2.2.2 _ qn_RX0_19) dX0_middle_34 ?_
    exact e_i hM hX hlocks hret hq dX0_middle_36
  replace hq := hq.2 c_3
  refine lv_aload_n hM.1 hM.2.1 dX0_middle_25 rfl (lv_at hl 1 rfl) ?_
  refine g0 hM hK hX (id_P hv).1 0 (by decide) qf_RX0_9 rfl dX0_middle_26 ?_
  refine lv_iload_n hM.1 hM.2.1 dX0_middle_29 rfl (lv_at hl 0 rfl) ?_
  have c_4 := hq.1
  replace hq := hq.2
  refine r_iald hM hK hX (id_P hv).2.2.1 (a8 P 0) c_4 dX0_middle_30 ?_
  refine lv_goto (tgt := 36) hM.1 hM.2.1 dX0_middle_31 (by decide) ?_
  exact e_i hM hX hlocks hret hq dX0_middle_36
def rmX1_stateAt : Room := { frames := 0, cells := 0, slots := 0, locals := 0 }
theorem kX1_stateAt {R : Room} {s : State} {args : Array Value} {own : String} {index : Nat} (ht : ∀ w ∈ lw_all, w.before args s = true) (hl : Cond.methodLink own index yX1_stateAt ∈ lw_all) (hf : rmX1_stateAt.frames + 1 ≤ R.frames) (hlo : 8 + (3 + 11) + rmX1_stateAt.locals ≤ R.locals) : CallW R s args own RX1 index yX1_stateAt cX1_stateAt 3 (some (Jvm.ClassFile.FieldType.object "LateThermometers$Place")) (wA yX1_stateAt cX1_stateAt 3 (some (Jvm.ClassFile.FieldType.object "LateThermometers$Place"))) rmX1_stateAt 0 0 1 := cwV 1 ht (good_V hl qm_yX1_stateAt qs_yX1_stateAt qi_RX1 qc_yX1_stateAt) rfl rfl rfl (by decide +kernel) ⟨hf, hlo⟩
set_option maxRecDepth 100000 in
set_option maxHeartbeats 4000000 in
theorem met_X1_stateAt (l : Launch) (D : va_G) (ad : Adr) (cy : Nat → ClassId) (S : Mem) (x1 : Int32) {Q : Mem → Nat → Nat → Prop} (hq : vc_X1_stateAt S x1 Q) : Cr 3 l yX1_stateAt (wA yX1_stateAt cX1_stateAt 3 (some (Jvm.ClassFile.FieldType.object "LateThermometers$Place"))) rmX1_stateAt D ad cy [.ref (ad 1 0 0), .int x1] S Q := by
  intro o sz
  refine mkC (own := RX1) (lv := [(0, .ref (ad 1 0 0)), (1, .int x1)]) (by decide) rfl (Nat.le_of_ble_eq_true rfl) rfl ⟨rfl, rfl⟩ ?_
  intro p e s m below meth c ls hsz hM hlocks hret hK hA hX hl
  unfold vc_X1_stateAt at hq
  refine lv_iload_n hM.1 hM.2.1 dX1_stateAt_0 rfl (lv_at hl 1 rfl) ?_
  refine lv_if_lt (tgt := 13) hM.1 hM.2.1 dX1_stateAt_1 (by decide) (fun c_1 => ?_) (fun c_1 => ?_)
  · replace hq := hq.1 c_1
    refine lv_aload_n hM.1 hM.2.1 dX1_stateAt_13 rfl (lv_at hl 0 rfl) ?_
    refine g1 hM hK hX m1 1 (by decide) qf_RX1_18 rfl dX1_stateAt_14 ?_
    exact e_r hM hX hlocks hret (Or.inl ⟨_, rfl⟩) hq dX1_stateAt_17
  replace hq := hq.2 c_1
  refine lv_iload_n hM.1 hM.2.1 dX1_stateAt_4 rfl (lv_at hl 1 rfl) ?_
  refine lv_aload_n hM.1 hM.2.1 dX1_stateAt_5 rfl (lv_at hl 0 rfl) ?_
  refine g1 hM hK hX m1 0 (by decide) qf_RX1_11 rfl dX1_stateAt_6 ?_
  refine r_alen (v := (6 : Int32)) (t0 := 4) hM hK hX m9 rfl rfl rfl dX1_stateAt_9 ?_
  refine lv_icmp_lt (tgt := 18) hM.1 hM.2.1 dX1_stateAt_10 (by decide) (fun c_2 => ?_) (fun c_2 => ?_)
  · replace hq := hq.1 c_2
    refine lv_aload_n hM.1 hM.2.1 dX1_stateAt_18 rfl (lv_at hl 0 rfl) ?_
    refine g1 hM hK hX m1 0 (by decide) qf_RX1_11 rfl dX1_stateAt_19 ?_
    refine lv_iload_n hM.1 hM.2.1 dX1_stateAt_22 rfl (lv_at hl 1 rfl) ?_
    have c_3 := hq.1
    replace hq := hq.2
    refine r_aald (t0 := 4) hM hK hX m9 rfl rfl c_3 rfl dX1_stateAt_23 ?_
    refine lv_astore_n (lv' := [(2, .ref (ad 3 (2 + x1.toNatClampNeg) 0)), (0, .ref (ad 1 0 0)), (1, .int x1)]) hM.1 hM.2.1 dX1_stateAt_24 rfl hl (by decide) rfl (fun ls hl => ?_)
    refine lv_aload_n hM.1 hM.2.1 dX1_stateAt_25 rfl (lv_at hl 0 rfl) ?_
    refine lv_ifnonnull (tgt := 36) hM.1 hM.2.1 dX1_stateAt_26 (by decide) ?_
    refine lv_aload_n hM.1 hM.2.1 dX1_stateAt_36 rfl (lv_at hl 0 rfl) ?_
    exact e_r hM hX hlocks hret (Or.inl ⟨_, rfl⟩) hq dX1_stateAt_37
  replace hq := hq.2 c_2
  refine lv_aload_n hM.1 hM.2.1 dX1_stateAt_13 rfl (lv_at hl 0 rfl) ?_
  refine g1 hM hK hX m1 1 (by decide) qf_RX1_18 rfl dX1_stateAt_14 ?_
  exact e_r hM hX hlocks hret (Or.inl ⟨_, rfl⟩) hq dX1_stateAt_17
def rmX3_at : Room := { frames := 0, cells := 0, slots := 0, locals := 0 }
theorem kX3_at {R : Room} {s : State} {args : Array Value} {own : String} {index : Nat} (ht : ∀ w ∈ lw_all, w.before args s = true) (hl : Cond.methodLink own index yX3_at ∈ lw_all) (hf : rmX3_at.frames + 1 ≤ R.frames) (hlo : 8 + (3 + 11) + rmX3_at.locals ≤ R.locals) : CallW R s args own RX3 index yX3_at cX3_at 3 (some (Jvm.ClassFile.FieldType.object "LateThermometers$Thermometer")) (wA yX3_at cX3_at 3 (some (Jvm.ClassFile.FieldType.object "LateThermometers$Thermometer"))) rmX3_at 0 0 1 := cwV 1 ht (good_V hl qm_yX3_at qs_yX3_at qi_RX3 qc_yX3_at) rfl rfl rfl (by decide +kernel) ⟨hf, hlo⟩
set_option maxRecDepth 100000 in
set_option maxHeartbeats 4000000 in
theorem met_X3_at (l : Launch) (D : va_G) (ad : Adr) (cy : Nat → ClassId) (S : Mem) (P : Nat) (x1 : Int32) {Q : Mem → Nat → Nat → Prop} (hv : P < 11) (hq : vc_X3_at S P x1 Q) : Cr 5 l yX3_at (wA yX3_at cX3_at 3 (some (Jvm.ClassFile.FieldType.object "LateThermometers$Thermometer"))) rmX3_at D ad cy [.ref (ad 3 P 0), .int x1] S Q := by
  intro o sz
  refine mkC (own := RX3) (lv := [(0, .ref (ad 3 P 0)), (1, .int x1)]) (by decide) rfl (Nat.le_of_ble_eq_true rfl) rfl ⟨rfl, rfl⟩ ?_
  intro p e s m below meth c ls hsz hM hlocks hret hK hA hX hl
  unfold vc_X3_at at hq
  refine lv_iload_n hM.1 hM.2.1 dX3_at_0 rfl (lv_at hl 1 rfl) ?_
  refine lv_if_lt (tgt := 13) hM.1 hM.2.1 dX3_at_1 (by decide) (fun c_1 => ?_) (fun c_1 => ?_)
  · replace hq := hq.1 c_1
    refine lv_aload_n hM.1 hM.2.1 dX3_at_13 rfl (lv_at hl 0 rfl) ?_
    refine g3 hM hK hX (id_P hv).2.1 1 (by decide) qf_RX3_18 rfl dX3_at_14 ?_
    exact e_r hM hX hlocks hret (Or.inl ⟨_, rfl⟩) hq dX3_at_17
  replace hq := hq.2 c_1
  refine lv_iload_n hM.1 hM.2.1 dX3_at_4 rfl (lv_at hl 1 rfl) ?_
  refine lv_aload_n hM.1 hM.2.1 dX3_at_5 rfl (lv_at hl 0 rfl) ?_
  refine g3 hM hK hX (id_P hv).2.1 0 (by decide) qf_RX3_11 rfl dX3_at_6 ?_
  refine r_alen (v := (10 : Int32)) (t0 := 3) hM hK hX (id_P hv).2.2.2.1 rfl rfl rfl dX3_at_9 ?_
  refine lv_icmp_lt (tgt := 18) hM.1 hM.2.1 dX3_at_10 (by decide) (fun c_2 => ?_) (fun c_2 => ?_)
  · replace hq := hq.1 c_2
    refine lv_aload_n hM.1 hM.2.1 dX3_at_18 rfl (lv_at hl 0 rfl) ?_
    refine g3 hM hK hX (id_P hv).2.1 0 (by decide) qf_RX3_11 rfl dX3_at_19 ?_
    refine lv_iload_n hM.1 hM.2.1 dX3_at_22 rfl (lv_at hl 1 rfl) ?_
    have c_3 := hq.1
    replace hq := hq.2
    refine r_aald (t0 := 3) hM hK hX (id_P hv).2.2.2.1 rfl rfl c_3 rfl dX3_at_23 ?_
    refine lv_astore_n (lv' := [(2, .ref (ad 5 P x1.toNatClampNeg)), (0, .ref (ad 3 P 0)), (1, .int x1)]) hM.1 hM.2.1 dX3_at_24 rfl hl (by decide) rfl (fun ls hl => ?_)
    refine lv_aload_n hM.1 hM.2.1 dX3_at_25 rfl (lv_at hl 0 rfl) ?_
    refine lv_ifnonnull (tgt := 36) hM.1 hM.2.1 dX3_at_26 (by decide) ?_
    refine lv_aload_n hM.1 hM.2.1 dX3_at_36 rfl (lv_at hl 0 rfl) ?_
    exact e_r hM hX hlocks hret (Or.inl ⟨_, rfl⟩) hq dX3_at_37
  replace hq := hq.2 c_2
  refine lv_aload_n hM.1 hM.2.1 dX3_at_13 rfl (lv_at hl 0 rfl) ?_
  refine g3 hM hK hX (id_P hv).2.1 1 (by decide) qf_RX3_18 rfl dX3_at_14 ?_
  exact e_r hM hX hlocks hret (Or.inl ⟨_, rfl⟩) hq dX3_at_17
def rmX6_copyInto : Room := { frames := 0, cells := 0, slots := 0, locals := 0 }
theorem kX6_copyInto {R : Room} {s : State} {args : Array Value} {own : String} {index : Nat} (ht : ∀ w ∈ lw_all, w.before args s = true) (hl : Cond.methodLink own index yX6_copyInto ∈ lw_all) (hf : rmX6_copyInto.frames + 1 ≤ R.frames) (hlo : 8 + (3 + 11) + rmX6_copyInto.locals ≤ R.locals) : CallB R s args own index yX6_copyInto cX6_copyInto 3 none (wA yX6_copyInto cX6_copyInto 3 none) rmX6_copyInto 0 0 2 ∧ (Cond.static yX6_copyInto).before args s = true := va_cwS 2 ht (good_S hl qt_yX6_copyInto qi_RX6 qc_yX6_copyInto) rfl rfl rfl (by decide +kernel) ⟨hf, hlo⟩
theorem kNX6_copyInto {R : Room} {s : State} {args : Array Value} {own : String} {index : Nat} (ht : ∀ w ∈ lw_all, w.before args s = true) (hl : va_Nw (nestW (own, index, yX6_copyInto, RX6)) s) (hf : rmX6_copyInto.frames + 1 ≤ R.frames) (hlo : 8 + (3 + 11) + rmX6_copyInto.locals ≤ R.locals) : va_CN R s args own index yX6_copyInto RX6 cX6_copyInto 3 none (wA yX6_copyInto cX6_copyInto 3 none) rmX6_copyInto 0 0 2 ∧ (Cond.static yX6_copyInto).before args s = true ∧ True := ⟨va_cnB 2 ht (good_wA qc_yX6_copyInto) rfl rfl rfl hl (ht _ qi_RX6) (by decide +kernel) ⟨hf, hlo⟩, ht _ qt_yX6_copyInto, trivial⟩
set_option maxRecDepth 100000 in
set_option maxHeartbeats 4000000 in
theorem met_X6_copyInto (l : Launch) (D : va_G) (ad : Adr) (cy : Nat → ClassId) (S : Mem) (t0 : Nat) (P0 : Nat) (i0 : Nat) (n0 : Nat) (t1 : Nat) (P1 : Nat) (i1 : Nat) (n1 : Nat) {Q : Mem → Prop} (ha0 : iarr t0 P0 i0 n0) (ha1 : iarr t1 P1 i1 n1) (hq : vc_X6_copyInto S t0 P0 i0 n0 t1 P1 i1 n1 Q) : Cv l yX6_copyInto (wA yX6_copyInto cX6_copyInto 3 none) rmX6_copyInto D ad cy [.ref (ad t0 P0 i0), .ref (ad t1 P1 i1)] S Q := by
  intro o sz
  refine mkC (own := RX6) (lv := [(0, .ref (ad t0 P0 i0)), (1, .ref (ad t1 P1 i1))]) (by decide) rfl (Nat.le_of_ble_eq_true rfl) rfl ⟨rfl, rfl⟩ ?_
  intro p e s m below meth c ls hsz hM hlocks hret hK hA hX hl
  have L2 : ∀ {K : Mem → Prop} (hk : ∀ (S : Mem), K S → ∀ (H : Heap) (locs : List Loc) (ls : Array Slot), PW D ad cy (AW ad sz) s.heap o S H locs → lv_has ls 3 [] → Wv D ad cy o sz Q p l e rmX6_copyInto s m [.ref (ad t0 P0 i0), .ref (ad t1 P1 i1)] below meth c H locs (F0 m 26 ls [])), ∀ (n : Nat) (S : Mem) (y2 : Int32), vc_X6_copyInto_L2 Q K t0 P0 i0 n0 t1 P1 i1 n1 n S y2 → ∀ (H : Heap) (locs : List Loc) (ls : Array Slot), PW D ad cy (AW ad sz) s.heap o S H locs → lv_has ls 3 [(0, .ref (ad t0 P0 i0)), (1, .ref (ad t1 P1 i1)), (2, .int y2)] → Wv D ad cy o sz Q p l e rmX6_copyInto s m [.ref (ad t0 P0 i0), .ref (ad t1 P1 i1)] below meth c H locs (F0 m 2 ls []) := by
    intro K hk n
    induction n with
    | zero =>
      intro S y2 hq
      rw [vc_X6_copyInto_L2] at hq
      exact hq.elim
    | succ n ih =>
      intro S y2 hq H locs ls hX hl
      rw [vc_X6_copyInto_L2] at hq
      refine lv_iload_n hM.1 hM.2.1 dX6_copyInto_2 rfl (lv_at hl 2 rfl) ?_
      refine lv_aload_n hM.1 hM.2.1 dX6_copyInto_3 rfl (lv_at hl 0 rfl) ?_
      refine r_alen (v := nI n0) (t0 := 0) hM hK hX ha0.1 ((ha0.2 ad cy) _) rfl rfl dX6_copyInto_4 ?_
      refine lv_icmp_ge (tgt := 26) hM.1 hM.2.1 dX6_copyInto_5 (by decide) (fun c_1 => ?_) (fun c_1 => ?_)
      · replace hq := hq.1 c_1
        exact hk S hq _ _ _ hX (lv_sub hl [] rfl)
      replace hq := hq.2 c_1
      refine lv_iload_n hM.1 hM.2.1 dX6_copyInto_8 rfl (lv_at hl 2 rfl) ?_
      refine lv_aload_n hM.1 hM.2.1 dX6_copyInto_9 rfl (lv_at hl 1 rfl) ?_
      refine r_alen (v := nI n1) (t0 := 0) hM hK hX ha1.1 ((ha1.2 ad cy) _) rfl rfl dX6_copyInto_10 ?_
      refine lv_icmp_ge (tgt := 26) hM.1 hM.2.1 dX6_copyInto_11 (by decide) (fun c_2 => ?_) (fun c_2 => ?_)
      · replace hq := hq.1 c_2
        exact hk S hq _ _ _ hX (lv_sub hl [] rfl)
      replace hq := hq.2 c_2
      refine lv_aload_n hM.1 hM.2.1 dX6_copyInto_14 rfl (lv_at hl 0 rfl) ?_
      refine lv_iload_n hM.1 hM.2.1 dX6_copyInto_15 rfl (lv_at hl 2 rfl) ?_
      refine lv_aload_n hM.1 hM.2.1 dX6_copyInto_16 rfl (lv_at hl 1 rfl) ?_
      refine lv_iload_n hM.1 hM.2.1 dX6_copyInto_17 rfl (lv_at hl 2 rfl) ?_
      have c_3 := hq.1
      replace hq := hq.2
      refine r_iald hM hK hX ha1.1 (ha1.2 ad cy) c_3 dX6_copyInto_18 ?_
      have c_5 := hq.1
      replace hq := hq.2
      refine r_iast hM hK hX ha0.1 (ha0.2 ad cy) c_5 dX6_copyInto_19 (fun S_4 e_6 H locs hX => ?_)
      replace hq := hq S_4 e_6
      refine lv_iinc (v := (y2 + (1 : Int32))) (lv' := [(2, .int (y2 + (1 : Int32))), (0, .ref (ad t0 P0 i0)), (1, .ref (ad t1 P1 i1))]) hM.1 hM.2.1 dX6_copyInto_20 hl (k := 2) rfl rfl (by decide) rfl (fun ls hl => ?_)
      refine lv_goto (tgt := 2) hM.1 hM.2.1 dX6_copyInto_23 (by decide) ?_
      exact ih S_4 (y2 + (1 : Int32)) hq _ _ _ hX (lv_sub hl [1, 2, 0] rfl)
  unfold vc_X6_copyInto at hq
  refine lv_iconst (v := (0 : Int32)) hM.1 hM.2.1 dX6_copyInto_0 (by decide) ?_
  refine lv_istore_n (lv' := [(2, .int (0 : Int32)), (0, .ref (ad t0 P0 i0)), (1, .ref (ad t1 P1 i1))]) hM.1 hM.2.1 dX6_copyInto_1 rfl hl (by decide) rfl (fun ls hl => ?_)
  obtain ⟨k0, hq⟩ := hq
  refine L2 (fun S_7 hq H locs ls hX hl => ?_) k0 S (0 : Int32) hq _ _ _ hX (lv_sub hl [1, 2, 0] rfl)
  exact e_v hM hX hlocks hret hq dX6_copyInto_26
def rmX5_copyFrom : Room := { frames := 1, cells := 0, slots := 0, locals := 22 }
theorem kX5_copyFrom {R : Room} {s : State} {args : Array Value} {own : String} {index : Nat} (ht : ∀ w ∈ lw_all, w.before args s = true) (hl : Cond.methodLink own index yX5_copyFrom ∈ lw_all) (hf : rmX5_copyFrom.frames + 1 ≤ R.frames) (hlo : 8 + (2 + 11) + rmX5_copyFrom.locals ≤ R.locals) : CallW R s args own RX5 index yX5_copyFrom cX5_copyFrom 2 none (wA yX5_copyFrom cX5_copyFrom 2 none) rmX5_copyFrom 0 0 1 := cwV 1 ht (good_V hl qm_yX5_copyFrom qs_yX5_copyFrom qi_RX5 qc_yX5_copyFrom) rfl rfl rfl (by decide +kernel) ⟨hf, hlo⟩
set_option maxRecDepth 100000 in
set_option maxHeartbeats 4000000 in
theorem met_X5_copyFrom (l : Launch) (D : va_G) (ad : Adr) (cy : Nat → ClassId) (S : Mem) (P : Nat) (i : Nat) (P1 : Nat) (i1 : Nat) {Q : Mem → Prop} (hv : P < 11 ∧ i < 11) (hv1 : P1 < 11 ∧ i1 < 11) (hq : vc_X5_copyFrom S P i P1 i1 Q) : Cv l yX5_copyFrom (wA yX5_copyFrom cX5_copyFrom 2 none) rmX5_copyFrom D ad cy [.ref (ad 5 P i), .ref (ad 5 P1 i1)] S Q := by
  intro o sz
  refine mkC (own := RX5) (lv := [(0, .ref (ad 5 P i)), (1, .ref (ad 5 P1 i1))]) (by decide) rfl (Nat.le_of_ble_eq_true rfl) rfl ⟨rfl, rfl⟩ ?_
  intro p e s m below meth c ls hsz hM hlocks hret hK hA hX hl
  unfold vc_X5_copyFrom at hq
  refine lv_aload_n hM.1 hM.2.1 dX5_copyFrom_0 rfl (lv_at hl 0 rfl) ?_
  refine g5 hM hK hX (id_T hv).1 0 (by decide) qf_RX5_9 rfl dX5_copyFrom_1 ?_
  refine lv_aload_n hM.1 hM.2.1 dX5_copyFrom_4 rfl (lv_at hl 1 rfl) ?_
  refine g5 hM hK hX (id_T hv1).1 0 (by decide) qf_RX5_9 rfl dX5_copyFrom_5 ?_
  refine cSNv (As := [.ref (ad 6 P i), .ref (ad 6 P1 i1)]) hM hK hX hA (met_X6_copyInto l D ad cy S 6 P i 6 6 P1 i1 6 ⟨(id_T hv).2.1, fun _ _ => (a6 P i)⟩ ⟨(id_T hv1).2.1, fun _ _ => (a6 P1 i1)⟩ hq) (kNX6_copyInto hM.2.2.2.2 (hK.2 _ ql_RX5_55) (Nat.le_of_ble_eq_true rfl) (Nat.le_of_ble_eq_true rfl)) rfl hl.1 rfl (Nat.le_of_ble_eq_true rfl) dX5_copyFrom_8 ⟨Nat.zero_le _, Nat.zero_le _⟩ (fun S_1 hq H locs hX => ?_)
  refine lv_aload_n hM.1 hM.2.1 dX5_copyFrom_11 rfl (lv_at hl 0 rfl) ?_
  refine g5 hM hK hX (id_T hv).1 1 (by decide) qf_RX5_15 rfl dX5_copyFrom_12 ?_
  refine lv_aload_n hM.1 hM.2.1 dX5_copyFrom_15 rfl (lv_at hl 1 rfl) ?_
  refine g5 hM hK hX (id_T hv1).1 1 (by decide) qf_RX5_15 rfl dX5_copyFrom_16 ?_
  refine cSNv (As := [.ref (ad 7 P i), .ref (ad 7 P1 i1)]) hM hK hX hA (met_X6_copyInto l D ad cy S_1 7 P i 6 7 P1 i1 6 ⟨(id_T hv).2.2, fun _ _ => (a7 P i)⟩ ⟨(id_T hv1).2.2, fun _ _ => (a7 P1 i1)⟩ hq) (kNX6_copyInto hM.2.2.2.2 (hK.2 _ ql_RX5_55) (Nat.le_of_ble_eq_true rfl) (Nat.le_of_ble_eq_true rfl)) rfl hl.1 rfl (Nat.le_of_ble_eq_true rfl) dX5_copyFrom_19 ⟨Nat.zero_le _, Nat.zero_le _⟩ (fun S_2 hq H locs hX => ?_)
  refine lv_aload_n hM.1 hM.2.1 dX5_copyFrom_22 rfl (lv_at hl 0 rfl) ?_
  refine lv_aload_n hM.1 hM.2.1 dX5_copyFrom_23 rfl (lv_at hl 1 rfl) ?_
  refine g5 hM hK hX (id_T hv1).1 2 (by decide) qf_RX5_45 rfl dX5_copyFrom_24 ?_
  refine p5_2 hM hK hX (id_T hv).1 qf_RX5_45 dX5_copyFrom_27 (fun S_3 e_4 H locs hX => ?_)
  replace hq := hq S_3 e_4
  refine lv_aload_n hM.1 hM.2.1 dX5_copyFrom_30 rfl (lv_at hl 0 rfl) ?_
  refine lv_aload_n hM.1 hM.2.1 dX5_copyFrom_31 rfl (lv_at hl 1 rfl) ?_
  refine g5 hM hK hX (id_T hv1).1 3 (by decide) qf_RX5_18 rfl dX5_copyFrom_32 ?_
  refine p5_3 hM hK hX (id_T hv).1 qf_RX5_18 dX5_copyFrom_35 (fun S_5 e_6 H locs hX => ?_)
  replace hq := hq S_5 e_6
  refine lv_aload_n hM.1 hM.2.1 dX5_copyFrom_38 rfl (lv_at hl 0 rfl) ?_
  refine lv_aload_n hM.1 hM.2.1 dX5_copyFrom_39 rfl (lv_at hl 1 rfl) ?_
  refine g5 hM hK hX (id_T hv1).1 4 (by decide) qf_RX5_32 rfl dX5_copyFrom_40 ?_
  refine p5_4 hM hK hX (id_T hv).1 qf_RX5_32 dX5_copyFrom_43 (fun S_7 e_8 H locs hX => ?_)
  replace hq := hq S_7 e_8
  refine lv_aload_n hM.1 hM.2.1 dX5_copyFrom_46 rfl (lv_at hl 0 rfl) ?_
  refine lv_aload_n hM.1 hM.2.1 dX5_copyFrom_47 rfl (lv_at hl 1 rfl) ?_
  refine g5 hM hK hX (id_T hv1).1 10 (by decide) qf_RX5_51 rfl dX5_copyFrom_48 ?_
  have c_10 := hq.1
  replace hq := hq.2
  refine p5_10 hM hK hX (id_T hv).1 (nar_z c_10) qf_RX5_51 dX5_copyFrom_51 (fun S_9 e_11 H locs hX => ?_)
  replace hq := hq S_9 e_11
  refine lv_aload_n hM.1 hM.2.1 dX5_copyFrom_54 rfl (lv_at hl 0 rfl) ?_
  refine lv_aload_n hM.1 hM.2.1 dX5_copyFrom_55 rfl (lv_at hl 1 rfl) ?_
  refine g5 hM hK hX (id_T hv1).1 5 (by decide) qf_RX5_29 rfl dX5_copyFrom_56 ?_
  refine p5_5 hM hK hX (id_T hv).1 qf_RX5_29 dX5_copyFrom_59 (fun S_12 e_13 H locs hX => ?_)
  replace hq := hq S_12 e_13
  refine lv_aload_n hM.1 hM.2.1 dX5_copyFrom_62 rfl (lv_at hl 0 rfl) ?_
  refine lv_aload_n hM.1 hM.2.1 dX5_copyFrom_63 rfl (lv_at hl 1 rfl) ?_
  refine g5 hM hK hX (id_T hv1).1 6 (by decide) qf_RX5_22 rfl dX5_copyFrom_64 ?_
  refine p5_6 hM hK hX (id_T hv).1 qf_RX5_22 dX5_copyFrom_67 (fun S_14 e_15 H locs hX => ?_)
  replace hq := hq S_14 e_15
  refine lv_aload_n hM.1 hM.2.1 dX5_copyFrom_70 rfl (lv_at hl 0 rfl) ?_
  refine lv_aload_n hM.1 hM.2.1 dX5_copyFrom_71 rfl (lv_at hl 1 rfl) ?_
  refine g5 hM hK hX (id_T hv1).1 7 (by decide) qf_RX5_42 rfl dX5_copyFrom_72 ?_
  refine p5_7 hM hK hX (id_T hv).1 qf_RX5_42 dX5_copyFrom_75 (fun S_16 e_17 H locs hX => ?_)
  replace hq := hq S_16 e_17
  refine lv_aload_n hM.1 hM.2.1 dX5_copyFrom_78 rfl (lv_at hl 0 rfl) ?_
  refine lv_aload_n hM.1 hM.2.1 dX5_copyFrom_79 rfl (lv_at hl 1 rfl) ?_
  refine g5 hM hK hX (id_T hv1).1 8 (by decide) qf_RX5_48 rfl dX5_copyFrom_80 ?_
  refine p5_8 hM hK hX (id_T hv).1 qf_RX5_48 dX5_copyFrom_83 (fun S_18 e_19 H locs hX => ?_)
  replace hq := hq S_18 e_19
  refine lv_aload_n hM.1 hM.2.1 dX5_copyFrom_86 rfl (lv_at hl 0 rfl) ?_
  refine lv_aload_n hM.1 hM.2.1 dX5_copyFrom_87 rfl (lv_at hl 1 rfl) ?_
  refine g5 hM hK hX (id_T hv1).1 9 (by decide) qf_RX5_35 rfl dX5_copyFrom_88 ?_
  refine p5_9 hM hK hX (id_T hv).1 qf_RX5_35 dX5_copyFrom_91 (fun S_20 e_21 H locs hX => ?_)
  replace hq := hq S_20 e_21
  refine lv_aload_n hM.1 hM.2.1 dX5_copyFrom_94 rfl (lv_at hl 0 rfl) ?_
  refine lv_aload_n hM.1 hM.2.1 dX5_copyFrom_95 rfl (lv_at hl 1 rfl) ?_
  refine g5 hM hK hX (id_T hv1).1 11 (by decide) qf_RX5_26 rfl dX5_copyFrom_96 ?_
  refine p5_11 hM hK hX (id_T hv).1 qf_RX5_26 dX5_copyFrom_99 (fun S_22 e_23 H locs hX => ?_)
  replace hq := hq S_22 e_23
  exact e_v hM hX hlocks hret hq dX5_copyFrom_102
def rmX3_copyFrom : Room := { frames := 2, cells := 0, slots := 0, locals := 43 }
theorem kX3_copyFrom {R : Room} {s : State} {args : Array Value} {own : String} {index : Nat} (ht : ∀ w ∈ lw_all, w.before args s = true) (hl : Cond.methodLink own index yX3_copyFrom ∈ lw_all) (hf : rmX3_copyFrom.frames + 1 ≤ R.frames) (hlo : 8 + (3 + 11) + rmX3_copyFrom.locals ≤ R.locals) : CallW R s args own RX3 index yX3_copyFrom cX3_copyFrom 3 none (wA yX3_copyFrom cX3_copyFrom 3 none) rmX3_copyFrom 0 0 1 := cwV 1 ht (good_V hl qm_yX3_copyFrom qs_yX3_copyFrom qi_RX3 qc_yX3_copyFrom) rfl rfl rfl (by decide +kernel) ⟨hf, hlo⟩
set_option maxRecDepth 100000 in
set_option maxHeartbeats 4000000 in
theorem met_X3_copyFrom (l : Launch) (D : va_G) (ad : Adr) (cy : Nat → ClassId) (S : Mem) (P : Nat) (P1 : Nat) {Q : Mem → Prop} (hv : P < 11) (hv1 : P1 < 11) (hq : vc_X3_copyFrom S P P1 Q) : Cv l yX3_copyFrom (wA yX3_copyFrom cX3_copyFrom 3 none) rmX3_copyFrom D ad cy [.ref (ad 3 P 0), .ref (ad 3 P1 0)] S Q := by
  intro o sz
  refine mkC (own := RX3) (lv := [(0, .ref (ad 3 P 0)), (1, .ref (ad 3 P1 0))]) (by decide) rfl (Nat.le_of_ble_eq_true rfl) rfl ⟨rfl, rfl⟩ ?_
  intro p e s m below meth c ls hsz hM hlocks hret hK hA hX hl
  have L2 : ∀ {K : Mem → Prop} (hk : ∀ (S : Mem), K S → ∀ (H : Heap) (locs : List Loc) (ls : Array Slot), PW D ad cy (AW ad sz) s.heap o S H locs → lv_has ls 3 [(0, .ref (ad 3 P 0)), (1, .ref (ad 3 P1 0))] → Wv D ad cy o sz Q p l e rmX3_copyFrom s m [.ref (ad 3 P 0), .ref (ad 3 P1 0)] below meth c H locs (F0 m 29 ls [])), ∀ (n : Nat) (S : Mem) (y2 : Int32), vc_X3_copyFrom_L2 Q K P P1 n S y2 → ∀ (H : Heap) (locs : List Loc) (ls : Array Slot), PW D ad cy (AW ad sz) s.heap o S H locs → lv_has ls 3 [(0, .ref (ad 3 P 0)), (1, .ref (ad 3 P1 0)), (2, .int y2)] → Wv D ad cy o sz Q p l e rmX3_copyFrom s m [.ref (ad 3 P 0), .ref (ad 3 P1 0)] below meth c H locs (F0 m 2 ls []) := by
    intro K hk n
    induction n with
    | zero =>
      intro S y2 hq
      rw [vc_X3_copyFrom_L2] at hq
      exact hq.elim
    | succ n ih =>
      intro S y2 hq H locs ls hX hl
      rw [vc_X3_copyFrom_L2] at hq
      refine lv_iload_n hM.1 hM.2.1 dX3_copyFrom_2 rfl (lv_at hl 2 rfl) ?_
      refine lv_aload_n hM.1 hM.2.1 dX3_copyFrom_3 rfl (lv_at hl 1 rfl) ?_
      refine g3 hM hK hX (id_P hv1).2.1 6 (by decide) qf_RX3_50 rfl dX3_copyFrom_4 ?_
      refine lv_icmp_ge (tgt := 29) hM.1 hM.2.1 dX3_copyFrom_7 (by decide) (fun c_1 => ?_) (fun c_1 => ?_)
      · replace hq := hq.1 c_1
        exact hk S hq _ _ _ hX (lv_sub hl [0, 1] rfl)
      replace hq := hq.2 c_1
      refine lv_aload_n hM.1 hM.2.1 dX3_copyFrom_10 rfl (lv_at hl 0 rfl) ?_
      refine lv_iload_n hM.1 hM.2.1 dX3_copyFrom_11 rfl (lv_at hl 2 rfl) ?_
      refine cVr (As := [.int y2]) hM hK hX hA (met_X3_at l D ad cy S P y2 hv hq) (kX3_at hM.2.2.2.2 ql_RX3_53 (Nat.le_of_ble_eq_true rfl) (Nat.le_of_ble_eq_true rfl)) (v3 hK hX (id_P hv).2.1) rfl hl.1 rfl (Nat.le_of_ble_eq_true rfl) dX3_copyFrom_12 ⟨Nat.zero_le _, Nat.zero_le _⟩ (fun S_2 P_3 i_4 hq H locs hX => ?_)
      refine lv_aload_n hM.1 hM.2.1 dX3_copyFrom_15 rfl (lv_at hl 1 rfl) ?_
      refine lv_iload_n hM.1 hM.2.1 dX3_copyFrom_16 rfl (lv_at hl 2 rfl) ?_
      refine cVr (As := [.int y2]) hM hK hX hA (met_X3_at l D ad cy S_2 P1 y2 hv1 hq) (kX3_at hM.2.2.2.2 ql_RX3_53 (Nat.le_of_ble_eq_true rfl) (Nat.le_of_ble_eq_true rfl)) (v3 hK hX (id_P hv1).2.1) rfl hl.1 rfl (Nat.le_of_ble_eq_true rfl) dX3_copyFrom_17 ⟨Nat.zero_le _, Nat.zero_le _⟩ (fun S_5 P_6 i_7 hq H locs hX => ?_)
      have hT_8 := hq.1
      replace hq := hq.2
      have hT_9 := hq.1
      replace hq := hq.2
      refine cVv (As := [.ref (ad 5 P_6 i_7)]) hM hK hX hA (met_X5_copyFrom l D ad cy S_5 P_3 i_4 P_6 i_7 hT_8 hT_9 hq) (kX5_copyFrom hM.2.2.2.2 ql_RX3_57 (Nat.le_of_ble_eq_true rfl) (Nat.le_of_ble_eq_true rfl)) (v5 hK hX (id_T hT_8).1) rfl hl.1 rfl (Nat.le_of_ble_eq_true rfl) dX3_copyFrom_20 ⟨Nat.zero_le _, Nat.zero_le _⟩ (fun S_10 hq H locs hX => ?_)
      refine lv_iinc (v := (y2 + (1 : Int32))) (lv' := [(2, .int (y2 + (1 : Int32))), (0, .ref (ad 3 P 0)), (1, .ref (ad 3 P1 0))]) hM.1 hM.2.1 dX3_copyFrom_23 hl (k := 2) rfl rfl (by decide) rfl (fun ls hl => ?_)
      refine lv_goto (tgt := 2) hM.1 hM.2.1 dX3_copyFrom_26 (by decide) ?_
      exact ih S_10 (y2 + (1 : Int32)) hq _ _ _ hX (lv_sub hl [1, 2, 0] rfl)
  unfold vc_X3_copyFrom at hq
  refine lv_iconst (v := (0 : Int32)) hM.1 hM.2.1 dX3_copyFrom_0 (by decide) ?_
  refine lv_istore_n (lv' := [(2, .int (0 : Int32)), (0, .ref (ad 3 P 0)), (1, .ref (ad 3 P1 0))]) hM.1 hM.2.1 dX3_copyFrom_1 rfl hl (by decide) rfl (fun ls hl => ?_)
  obtain ⟨k0, hq⟩ := hq
  refine L2 (fun S_11 hq H locs ls hX hl => ?_) k0 S (0 : Int32) hq _ _ _ hX (lv_sub hl [1, 2, 0] rfl)
  refine lv_aload_n hM.1 hM.2.1 dX3_copyFrom_29 rfl (lv_at hl 0 rfl) ?_
  refine g3 hM hK hX (id_P hv).2.1 2 (by decide) qf_RX3_22 rfl dX3_copyFrom_30 ?_
  refine lv_aload_n hM.1 hM.2.1 dX3_copyFrom_33 rfl (lv_at hl 1 rfl) ?_
  refine g3 hM hK hX (id_P hv1).2.1 2 (by decide) qf_RX3_22 rfl dX3_copyFrom_34 ?_
  refine cSNv (As := [.ref (ad 12 P 0), .ref (ad 12 P1 0)]) hM hK hX hA (met_X6_copyInto l D ad cy S_11 12 P 0 4 12 P1 0 4 ⟨(id_P hv).2.2.2.2.1, fun _ _ => (a12 P 0)⟩ ⟨(id_P hv1).2.2.2.2.1, fun _ _ => (a12 P1 0)⟩ hq) (kNX6_copyInto hM.2.2.2.2 (hK.2 _ ql_RX3_61) (Nat.le_of_ble_eq_true rfl) (Nat.le_of_ble_eq_true rfl)) rfl hl.1 rfl (Nat.le_of_ble_eq_true rfl) dX3_copyFrom_37 ⟨Nat.zero_le _, Nat.zero_le _⟩ (fun S_12 hq H locs hX => ?_)
  refine lv_aload_n hM.1 hM.2.1 dX3_copyFrom_40 rfl (lv_at hl 0 rfl) ?_
  refine g3 hM hK hX (id_P hv).2.1 3 (by decide) qf_RX3_26 rfl dX3_copyFrom_41 ?_
  refine lv_aload_n hM.1 hM.2.1 dX3_copyFrom_44 rfl (lv_at hl 1 rfl) ?_
  refine g3 hM hK hX (id_P hv1).2.1 3 (by decide) qf_RX3_26 rfl dX3_copyFrom_45 ?_
  refine cSNv (As := [.ref (ad 13 P 0), .ref (ad 13 P1 0)]) hM hK hX hA (met_X6_copyInto l D ad cy S_12 13 P 0 4 13 P1 0 4 ⟨(id_P hv).2.2.2.2.2, fun _ _ => (a13 P 0)⟩ ⟨(id_P hv1).2.2.2.2.2, fun _ _ => (a13 P1 0)⟩ hq) (kNX6_copyInto hM.2.2.2.2 (hK.2 _ ql_RX3_61) (Nat.le_of_ble_eq_true rfl) (Nat.le_of_ble_eq_true rfl)) rfl hl.1 rfl (Nat.le_of_ble_eq_true rfl) dX3_copyFrom_48 ⟨Nat.zero_le _, Nat.zero_le _⟩ (fun S_13 hq H locs hX => ?_)
  refine lv_aload_n hM.1 hM.2.1 dX3_copyFrom_51 rfl (lv_at hl 0 rfl) ?_
  refine lv_aload_n hM.1 hM.2.1 dX3_copyFrom_52 rfl (lv_at hl 1 rfl) ?_
  refine g3 hM hK hX (id_P hv1).2.1 5 (by decide) qf_RX3_37 rfl dX3_copyFrom_53 ?_
  refine p3_5 hM hK hX (id_P hv).2.1 qf_RX3_37 dX3_copyFrom_56 (fun S_14 e_15 H locs hX => ?_)
  replace hq := hq S_14 e_15
  refine lv_aload_n hM.1 hM.2.1 dX3_copyFrom_59 rfl (lv_at hl 0 rfl) ?_
  refine lv_aload_n hM.1 hM.2.1 dX3_copyFrom_60 rfl (lv_at hl 1 rfl) ?_
  refine g3 hM hK hX (id_P hv1).2.1 6 (by decide) qf_RX3_50 rfl dX3_copyFrom_61 ?_
  refine p3_6 hM hK hX (id_P hv).2.1 qf_RX3_50 dX3_copyFrom_64 (fun S_16 e_17 H locs hX => ?_)
  replace hq := hq S_16 e_17
  refine lv_aload_n hM.1 hM.2.1 dX3_copyFrom_67 rfl (lv_at hl 0 rfl) ?_
  refine lv_aload_n hM.1 hM.2.1 dX3_copyFrom_68 rfl (lv_at hl 1 rfl) ?_
  refine g3 hM hK hX (id_P hv1).2.1 7 (by decide) qf_RX3_65 rfl dX3_copyFrom_69 ?_
  refine p3_7 hM hK hX (id_P hv).2.1 qf_RX3_65 dX3_copyFrom_72 (fun S_18 e_19 H locs hX => ?_)
  replace hq := hq S_18 e_19
  refine lv_aload_n hM.1 hM.2.1 dX3_copyFrom_75 rfl (lv_at hl 0 rfl) ?_
  refine lv_aload_n hM.1 hM.2.1 dX3_copyFrom_76 rfl (lv_at hl 1 rfl) ?_
  refine g3 hM hK hX (id_P hv1).2.1 8 (by decide) qf_RX3_41 rfl dX3_copyFrom_77 ?_
  refine p3_8 hM hK hX (id_P hv).2.1 qf_RX3_41 dX3_copyFrom_80 (fun S_20 e_21 H locs hX => ?_)
  replace hq := hq S_20 e_21
  refine lv_aload_n hM.1 hM.2.1 dX3_copyFrom_83 rfl (lv_at hl 0 rfl) ?_
  refine lv_aload_n hM.1 hM.2.1 dX3_copyFrom_84 rfl (lv_at hl 1 rfl) ?_
  refine g3 hM hK hX (id_P hv1).2.1 9 (by decide) qf_RX3_68 rfl dX3_copyFrom_85 ?_
  refine p3_9 hM hK hX (id_P hv).2.1 qf_RX3_68 dX3_copyFrom_88 (fun S_22 e_23 H locs hX => ?_)
  replace hq := hq S_22 e_23
  refine lv_aload_n hM.1 hM.2.1 dX3_copyFrom_91 rfl (lv_at hl 0 rfl) ?_
  refine lv_aload_n hM.1 hM.2.1 dX3_copyFrom_92 rfl (lv_at hl 1 rfl) ?_
  refine g3 hM hK hX (id_P hv1).2.1 10 (by decide) qf_RX3_71 rfl dX3_copyFrom_93 ?_
  refine p3_10 hM hK hX (id_P hv).2.1 qf_RX3_71 dX3_copyFrom_96 (fun S_24 e_25 H locs hX => ?_)
  replace hq := hq S_24 e_25
  refine lv_aload_n hM.1 hM.2.1 dX3_copyFrom_99 rfl (lv_at hl 0 rfl) ?_
  refine lv_aload_n hM.1 hM.2.1 dX3_copyFrom_100 rfl (lv_at hl 1 rfl) ?_
  refine g3 hM hK hX (id_P hv1).2.1 11 (by decide) qf_RX3_44 rfl dX3_copyFrom_101 ?_
  refine p3_11 hM hK hX (id_P hv).2.1 qf_RX3_44 dX3_copyFrom_104 (fun S_26 e_27 H locs hX => ?_)
  replace hq := hq S_26 e_27
  refine lv_aload_n hM.1 hM.2.1 dX3_copyFrom_107 rfl (lv_at hl 0 rfl) ?_
  refine lv_aload_n hM.1 hM.2.1 dX3_copyFrom_108 rfl (lv_at hl 1 rfl) ?_
  refine g3 hM hK hX (id_P hv1).2.1 12 (by decide) qf_RX3_47 rfl dX3_copyFrom_109 ?_
  refine p3_12 hM hK hX (id_P hv).2.1 qf_RX3_47 dX3_copyFrom_112 (fun S_28 e_29 H locs hX => ?_)
  replace hq := hq S_28 e_29
  exact e_v hM hX hlocks hret hq dX3_copyFrom_115
def rmX1_save : Room := { frames := 3, cells := 0, slots := 0, locals := 65 }
theorem kX1_save {R : Room} {s : State} {args : Array Value} {own : String} {index : Nat} (ht : ∀ w ∈ lw_all, w.before args s = true) (hl : Cond.methodLink own index yX1_save ∈ lw_all) (hf : rmX1_save.frames + 1 ≤ R.frames) (hlo : 8 + (2 + 11) + rmX1_save.locals ≤ R.locals) : CallW R s args own RX1 index yX1_save cX1_save 2 none (wA yX1_save cX1_save 2 none) rmX1_save 0 0 1 := cwV 1 ht (good_V hl qm_yX1_save qs_yX1_save qi_RX1 qc_yX1_save) rfl rfl rfl (by decide +kernel) ⟨hf, hlo⟩
set_option maxRecDepth 100000 in
set_option maxHeartbeats 4000000 in
theorem met_X1_save (l : Launch) (D : va_G) (ad : Adr) (cy : Nat → ClassId) (S : Mem) (P1 : Nat) {Q : Mem → Prop} (hv1 : P1 < 11) (hq : vc_X1_save S P1 Q) : Cv l yX1_save (wA yX1_save cX1_save 2 none) rmX1_save D ad cy [.ref (ad 1 0 0), .ref (ad 3 P1 0)] S Q := by
  intro o sz
  refine mkC (own := RX1) (lv := [(0, .ref (ad 1 0 0)), (1, .ref (ad 3 P1 0))]) (by decide) rfl (Nat.le_of_ble_eq_true rfl) rfl ⟨rfl, rfl⟩ ?_
  intro p e s m below meth c ls hsz hM hlocks hret hK hA hX hl
  unfold vc_X1_save at hq
  refine lv_aload_n hM.1 hM.2.1 dX1_save_0 rfl (lv_at hl 0 rfl) ?_
  refine lv_aload_n hM.1 hM.2.1 dX1_save_1 rfl (lv_at hl 0 rfl) ?_
  refine g1 hM hK hX m1 2 (by decide) qf_RX1_22 rfl dX1_save_2 ?_
  refine cVr (As := [.int (S 1 0 0 2)]) hM hK hX hA (met_X1_stateAt l D ad cy S (S 1 0 0 2) hq) (kX1_stateAt hM.2.2.2.2 ql_RX1_26 (Nat.le_of_ble_eq_true rfl) (Nat.le_of_ble_eq_true rfl)) (v1 hK hX m1) rfl hl.1 rfl (Nat.le_of_ble_eq_true rfl) dX1_save_5 ⟨Nat.zero_le _, Nat.zero_le _⟩ (fun S_1 P_2 i_3 hq H locs hX => ?_)
  have c_4 := hq.1
  replace hq := hq.2
  subst c_4
  refine lv_aload_n hM.1 hM.2.1 dX1_save_8 rfl (lv_at hl 1 rfl) ?_
  have hP_5 := hq.1
  replace hq := hq.2
  refine cVv (As := [.ref (ad 3 P1 0)]) hM hK hX hA (met_X3_copyFrom l D ad cy S_1 P_2 P1 hP_5 hv1 hq) (kX3_copyFrom hM.2.2.2.2 ql_RX1_30 (Nat.le_of_ble_eq_true rfl) (Nat.le_of_ble_eq_true rfl)) (v3 hK hX (id_P hP_5).2.1) rfl hl.1 rfl (Nat.le_of_ble_eq_true rfl) dX1_save_9 ⟨Nat.zero_le _, Nat.zero_le _⟩ (fun S_6 hq H locs hX => ?_)
  refine lv_aload_n hM.1 hM.2.1 dX1_save_12 rfl (lv_at hl 0 rfl) ?_
  refine lv_aload_n hM.1 hM.2.1 dX1_save_13 rfl (lv_at hl 0 rfl) ?_
  refine g1 hM hK hX m1 2 (by decide) qf_RX1_22 rfl dX1_save_14 ?_
  refine lv_iconst (v := (1 : Int32)) hM.1 hM.2.1 dX1_save_17 (by decide) ?_
  refine lv_iadd hM.1 hM.2.1 dX1_save_18 ?_
  refine lv_bipush (v := (6 : Int32)) hM.1 hM.2.1 dX1_save_19 (by decide) ?_
  have c_7 := hq.1
  replace hq := hq.2
  refine lv_irem hM.1 hM.2.1 dX1_save_21 c_7 ?_
  refine p1_2 hM hK hX m1 qf_RX1_22 dX1_save_22 (fun S_8 e_9 H locs hX => ?_)
  replace hq := hq S_8 e_9
  refine lv_aload_n hM.1 hM.2.1 dX1_save_25 rfl (lv_at hl 0 rfl) ?_
  refine lv_aload_n hM.1 hM.2.1 dX1_save_26 rfl (lv_at hl 0 rfl) ?_
  refine g1 hM hK hX m1 3 (by decide) qf_RX1_34 rfl dX1_save_27 ?_
  refine lv_iconst (v := (1 : Int32)) hM.1 hM.2.1 dX1_save_30 (by decide) ?_
  refine lv_iadd hM.1 hM.2.1 dX1_save_31 ?_
  refine lv_bipush (v := (6 : Int32)) hM.1 hM.2.1 dX1_save_32 (by decide) ?_
  refine r_min hM hl.1 ql_RX1_37 (Nat.le_of_ble_eq_true rfl) (Nat.le_of_ble_eq_true rfl) (Nat.le_of_ble_eq_true rfl) (Nat.le_of_ble_eq_true rfl) dX1_save_34 ?_
  refine p1_3 hM hK hX m1 qf_RX1_34 dX1_save_37 (fun S_10 e_11 H locs hX => ?_)
  replace hq := hq S_10 e_11
  exact e_v hM hX hlocks hret hq dX1_save_40
def rmX1_restoreLatest : Room := { frames := 3, cells := 0, slots := 0, locals := 65 }
theorem kX1_restoreLatest {R : Room} {s : State} {args : Array Value} {own : String} {index : Nat} (ht : ∀ w ∈ lw_all, w.before args s = true) (hl : Cond.methodLink own index yX1_restoreLatest ∈ lw_all) (hf : rmX1_restoreLatest.frames + 1 ≤ R.frames) (hlo : 8 + (2 + 11) + rmX1_restoreLatest.locals ≤ R.locals) : CallW R s args own RX1 index yX1_restoreLatest cX1_restoreLatest 2 none (wA yX1_restoreLatest cX1_restoreLatest 2 none) rmX1_restoreLatest 0 0 1 := cwV 1 ht (good_V hl qm_yX1_restoreLatest qs_yX1_restoreLatest qi_RX1 qc_yX1_restoreLatest) rfl rfl rfl (by decide +kernel) ⟨hf, hlo⟩
set_option maxRecDepth 100000 in
set_option maxHeartbeats 4000000 in
theorem met_X1_restoreLatest (l : Launch) (D : va_G) (ad : Adr) (cy : Nat → ClassId) (S : Mem) (P1 : Nat) {Q : Mem → Prop} (hv1 : P1 < 11) (hq : vc_X1_restoreLatest S P1 Q) : Cv l yX1_restoreLatest (wA yX1_restoreLatest cX1_restoreLatest 2 none) rmX1_restoreLatest D ad cy [.ref (ad 1 0 0), .ref (ad 3 P1 0)] S Q := by
  intro o sz
  refine mkC (own := RX1) (lv := [(0, .ref (ad 1 0 0)), (1, .ref (ad 3 P1 0))]) (by decide) rfl (Nat.le_of_ble_eq_true rfl) rfl ⟨rfl, rfl⟩ ?_
  intro p e s m below meth c ls hsz hM hlocks hret hK hA hX hl
  unfold vc_X1_restoreLatest at hq
  refine lv_aload_n hM.1 hM.2.1 dX1_restoreLatest_0 rfl (lv_at hl 0 rfl) ?_
  refine lv_aload_n hM.1 hM.2.1 dX1_restoreLatest_1 rfl (lv_at hl 0 rfl) ?_
  refine g1 hM hK hX m1 2 (by decide) qf_RX1_22 rfl dX1_restoreLatest_2 ?_
  refine lv_bipush (v := (6 : Int32)) hM.1 hM.2.1 dX1_restoreLatest_5 (by decide) ?_
  refine lv_iadd hM.1 hM.2.1 dX1_restoreLatest_7 ?_
  refine lv_iconst (v := (1 : Int32)) hM.1 hM.2.1 dX1_restoreLatest_8 (by decide) ?_
  refine lv_isub hM.1 hM.2.1 dX1_restoreLatest_9 ?_
  refine lv_bipush (v := (6 : Int32)) hM.1 hM.2.1 dX1_restoreLatest_10 (by decide) ?_
  have c_1 := hq.1
  replace hq := hq.2
  refine lv_irem hM.1 hM.2.1 dX1_restoreLatest_12 c_1 ?_
  refine p1_2 hM hK hX m1 qf_RX1_22 dX1_restoreLatest_13 (fun S_2 e_3 H locs hX => ?_)
  replace hq := hq S_2 e_3
  refine lv_aload_n hM.1 hM.2.1 dX1_restoreLatest_16 rfl (lv_at hl 1 rfl) ?_
  refine lv_aload_n hM.1 hM.2.1 dX1_restoreLatest_17 rfl (lv_at hl 0 rfl) ?_
  refine lv_aload_n hM.1 hM.2.1 dX1_restoreLatest_18 rfl (lv_at hl 0 rfl) ?_
  refine g1 hM hK hX m1 2 (by decide) qf_RX1_22 rfl dX1_restoreLatest_19 ?_
  refine cVr (As := [.int (S_2 1 0 0 2)]) hM hK hX hA (met_X1_stateAt l D ad cy S_2 (S_2 1 0 0 2) hq) (kX1_stateAt hM.2.2.2.2 ql_RX1_26 (Nat.le_of_ble_eq_true rfl) (Nat.le_of_ble_eq_true rfl)) (v1 hK hX m1) rfl hl.1 rfl (Nat.le_of_ble_eq_true rfl) dX1_restoreLatest_22 ⟨Nat.zero_le _, Nat.zero_le _⟩ (fun S_4 P_5 i_6 hq H locs hX => ?_)
  have c_7 := hq.1
  replace hq := hq.2
  subst c_7
  have hP_8 := hq.1
  replace hq := hq.2
  refine cVv (As := [.ref (ad 3 P_5 0)]) hM hK hX hA (met_X3_copyFrom l D ad cy S_4 P1 P_5 hv1 hP_8 hq) (kX3_copyFrom hM.2.2.2.2 ql_RX1_30 (Nat.le_of_ble_eq_true rfl) (Nat.le_of_ble_eq_true rfl)) (v3 hK hX (id_P hv1).2.1) rfl hl.1 rfl (Nat.le_of_ble_eq_true rfl) dX1_restoreLatest_25 ⟨Nat.zero_le _, Nat.zero_le _⟩ (fun S_9 hq H locs hX => ?_)
  refine lv_aload_n hM.1 hM.2.1 dX1_restoreLatest_28 rfl (lv_at hl 0 rfl) ?_
  refine lv_dup hM.1 hM.2.1 dX1_restoreLatest_29 rfl ?_
  refine g1 hM hK hX m1 3 (by decide) qf_RX1_34 rfl dX1_restoreLatest_30 ?_
  refine lv_iconst (v := (1 : Int32)) hM.1 hM.2.1 dX1_restoreLatest_33 (by decide) ?_
  refine lv_isub hM.1 hM.2.1 dX1_restoreLatest_34 ?_
  refine p1_3 hM hK hX m1 qf_RX1_34 dX1_restoreLatest_35 (fun S_10 e_11 H locs hX => ?_)
  replace hq := hq S_10 e_11
  exact e_v hM hX hlocks hret hq dX1_restoreLatest_38
def rmX2_isFull : Room := { frames := 0, cells := 0, slots := 0, locals := 0 }
theorem kX2_isFull {R : Room} {s : State} {args : Array Value} {own : String} {index : Nat} (ht : ∀ w ∈ lw_all, w.before args s = true) (hl : Cond.methodLink own index yX2_isFull ∈ lw_all) (hf : rmX2_isFull.frames + 1 ≤ R.frames) (hlo : 8 + (1 + 11) + rmX2_isFull.locals ≤ R.locals) : CallW R s args own RX2 index yX2_isFull cX2_isFull 1 (some Jvm.ClassFile.FieldType.boolean) (wA yX2_isFull cX2_isFull 1 (some Jvm.ClassFile.FieldType.boolean)) rmX2_isFull 0 0 0 := cwV 0 ht (good_V hl qm_yX2_isFull qs_yX2_isFull qi_RX2 qc_yX2_isFull) rfl rfl rfl (by decide +kernel) ⟨hf, hlo⟩
set_option maxRecDepth 100000 in
set_option maxHeartbeats 4000000 in
theorem met_X2_isFull (l : Launch) (D : va_G) (ad : Adr) (cy : Nat → ClassId) (S : Mem) {Q : Mem → Int32 → Prop} (hq : vc_X2_isFull S Q) : Ci l yX2_isFull (wA yX2_isFull cX2_isFull 1 (some Jvm.ClassFile.FieldType.boolean)) rmX2_isFull D ad cy [.ref (ad 2 0 0)] S Q := by
  intro o sz
  refine mkC (own := RX2) (lv := [(0, .ref (ad 2 0 0))]) (by decide) rfl (Nat.le_of_ble_eq_true rfl) rfl ⟨rfl, rfl⟩ ?_
  intro p e s m below meth c ls hsz hM hlocks hret hK hA hX hl
  unfold vc_X2_isFull at hq
  refine lv_aload_n hM.1 hM.2.1 dX2_isFull_0 rfl (lv_at hl 0 rfl) ?_
  refine g2 hM hK hX m2 3 (by decide) qf_RX2_15 rfl dX2_isFull_1 ?_
  refine lv_aload_n hM.1 hM.2.1 dX2_isFull_4 rfl (lv_at hl 0 rfl) ?_
  refine g2 hM hK hX m2 0 (by decide) qf_RX2_9 rfl dX2_isFull_5 ?_
  refine r_alen (v := (60 : Int32)) (t0 := 1) hM hK hX m10 rfl rfl rfl dX2_isFull_8 ?_
  refine lv_icmp_lt (tgt := 16) hM.1 hM.2.1 dX2_isFull_9 (by decide) (fun c_1 => ?_) (fun c_1 => ?_)
  · replace hq := hq.1 c_1
    refine lv_iconst (v := (0 : Int32)) hM.1 hM.2.1 dX2_isFull_16 (by decide) ?_
    exact e_z hM hX hlocks hret rfl hq dX2_isFull_17
  replace hq := hq.2 c_1
  refine lv_iconst (v := (1 : Int32)) hM.1 hM.2.1 dX2_isFull_12 (by decide) ?_
  refine lv_goto (tgt := 17) hM.1 hM.2.1 dX2_isFull_13 (by decide) ?_
  exact e_z hM hX hlocks hret rfl hq dX2_isFull_17
def rmX2_addCharacter : Room := { frames := 0, cells := 0, slots := 0, locals := 0 }
theorem kX2_addCharacter {R : Room} {s : State} {args : Array Value} {own : String} {index : Nat} (ht : ∀ w ∈ lw_all, w.before args s = true) (hl : Cond.methodLink own index yX2_addCharacter ∈ lw_all) (hf : rmX2_addCharacter.frames + 1 ≤ R.frames) (hlo : 8 + (2 + 11) + rmX2_addCharacter.locals ≤ R.locals) : CallW R s args own RX2 index yX2_addCharacter cX2_addCharacter 2 none (wA yX2_addCharacter cX2_addCharacter 2 none) rmX2_addCharacter 0 0 1 := cwV 1 ht (good_V hl qm_yX2_addCharacter qs_yX2_addCharacter qi_RX2 qc_yX2_addCharacter) rfl rfl rfl (by decide +kernel) ⟨hf, hlo⟩
set_option maxRecDepth 100000 in
set_option maxHeartbeats 4000000 in
theorem met_X2_addCharacter (l : Launch) (D : va_G) (ad : Adr) (cy : Nat → ClassId) (S : Mem) (x1 : Int32) {Q : Mem → Prop} (hq : vc_X2_addCharacter S x1 Q) : Cv l yX2_addCharacter (wA yX2_addCharacter cX2_addCharacter 2 none) rmX2_addCharacter D ad cy [.ref (ad 2 0 0), .int x1] S Q := by
  intro o sz
  refine mkC (own := RX2) (lv := [(0, .ref (ad 2 0 0)), (1, .int x1)]) (by decide) rfl (Nat.le_of_ble_eq_true rfl) rfl ⟨rfl, rfl⟩ ?_
  intro p e s m below meth c ls hsz hM hlocks hret hK hA hX hl
  unfold vc_X2_addCharacter at hq
  refine lv_aload_n hM.1 hM.2.1 dX2_addCharacter_0 rfl (lv_at hl 0 rfl) ?_
  refine g2 hM hK hX m2 3 (by decide) qf_RX2_15 rfl dX2_addCharacter_1 ?_
  refine lv_if_lt (tgt := 39) hM.1 hM.2.1 dX2_addCharacter_4 (by decide) (fun c_1 => ?_) (fun c_1 => ?_)
  · replace hq := hq.1 c_1
    exact e_v hM hX hlocks hret hq dX2_addCharacter_39
  replace hq := hq.2 c_1
  refine lv_aload_n hM.1 hM.2.1 dX2_addCharacter_7 rfl (lv_at hl 0 rfl) ?_
  refine g2 hM hK hX m2 3 (by decide) qf_RX2_15 rfl dX2_addCharacter_8 ?_
  refine lv_aload_n hM.1 hM.2.1 dX2_addCharacter_11 rfl (lv_at hl 0 rfl) ?_
  refine g2 hM hK hX m2 0 (by decide) qf_RX2_9 rfl dX2_addCharacter_12 ?_
  refine r_alen (v := (60 : Int32)) (t0 := 1) hM hK hX m10 rfl rfl rfl dX2_addCharacter_15 ?_
  refine lv_icmp_ge (tgt := 39) hM.1 hM.2.1 dX2_addCharacter_16 (by decide) (fun c_2 => ?_) (fun c_2 => ?_)
  · replace hq := hq.1 c_2
    exact e_v hM hX hlocks hret hq dX2_addCharacter_39
  replace hq := hq.2 c_2
  refine lv_aload_n hM.1 hM.2.1 dX2_addCharacter_19 rfl (lv_at hl 0 rfl) ?_
  refine g2 hM hK hX m2 0 (by decide) qf_RX2_9 rfl dX2_addCharacter_20 ?_
  refine lv_aload_n hM.1 hM.2.1 dX2_addCharacter_23 rfl (lv_at hl 0 rfl) ?_
  refine g2 hM hK hX m2 3 (by decide) qf_RX2_15 rfl dX2_addCharacter_24 ?_
  refine lv_iload_n hM.1 hM.2.1 dX2_addCharacter_27 rfl (lv_at hl 1 rfl) ?_
  have c_4 := hq.1
  replace hq := hq.2
  refine r_cast hM hK hX m10 (a10 0 0) c_4 dX2_addCharacter_28 (fun S_3 e_5 H locs hX => ?_)
  replace hq := hq S_3 e_5
  refine lv_aload_n hM.1 hM.2.1 dX2_addCharacter_29 rfl (lv_at hl 0 rfl) ?_
  refine lv_dup hM.1 hM.2.1 dX2_addCharacter_30 rfl ?_
  refine g2 hM hK hX m2 3 (by decide) qf_RX2_15 rfl dX2_addCharacter_31 ?_
  refine lv_iconst (v := (1 : Int32)) hM.1 hM.2.1 dX2_addCharacter_34 (by decide) ?_
  refine lv_iadd hM.1 hM.2.1 dX2_addCharacter_35 ?_
  refine p2_3 hM hK hX m2 qf_RX2_15 dX2_addCharacter_36 (fun S_6 e_7 H locs hX => ?_)
  replace hq := hq S_6 e_7
  exact e_v hM hX hlocks hret hq dX2_addCharacter_39
def rmX2_goToStart : Room := { frames := 0, cells := 0, slots := 0, locals := 0 }
theorem kX2_goToStart {R : Room} {s : State} {args : Array Value} {own : String} {index : Nat} (ht : ∀ w ∈ lw_all, w.before args s = true) (hl : Cond.methodLink own index yX2_goToStart ∈ lw_all) (hf : rmX2_goToStart.frames + 1 ≤ R.frames) (hlo : 8 + (1 + 11) + rmX2_goToStart.locals ≤ R.locals) : CallW R s args own RX2 index yX2_goToStart cX2_goToStart 1 none (wA yX2_goToStart cX2_goToStart 1 none) rmX2_goToStart 0 0 0 := cwV 0 ht (good_V hl qm_yX2_goToStart qs_yX2_goToStart qi_RX2 qc_yX2_goToStart) rfl rfl rfl (by decide +kernel) ⟨hf, hlo⟩
set_option maxRecDepth 100000 in
set_option maxHeartbeats 4000000 in
theorem met_X2_goToStart (l : Launch) (D : va_G) (ad : Adr) (cy : Nat → ClassId) (S : Mem) {Q : Mem → Prop} (hq : vc_X2_goToStart S Q) : Cv l yX2_goToStart (wA yX2_goToStart cX2_goToStart 1 none) rmX2_goToStart D ad cy [.ref (ad 2 0 0)] S Q := by
  intro o sz
  refine mkC (own := RX2) (lv := [(0, .ref (ad 2 0 0))]) (by decide) rfl (Nat.le_of_ble_eq_true rfl) rfl ⟨rfl, rfl⟩ ?_
  intro p e s m below meth c ls hsz hM hlocks hret hK hA hX hl
  unfold vc_X2_goToStart at hq
  refine lv_aload_n hM.1 hM.2.1 dX2_goToStart_0 rfl (lv_at hl 0 rfl) ?_
  refine lv_iconst (v := (0 : Int32)) hM.1 hM.2.1 dX2_goToStart_1 (by decide) ?_
  refine p2_1 hM hK hX m2 qf_RX2_19 dX2_goToStart_2 (fun S_1 e_2 H locs hX => ?_)
  replace hq := hq S_1 e_2
  exact e_v hM hX hlocks hret hq dX2_goToStart_5
def rmX2_takes : Room := { frames := 0, cells := 0, slots := 0, locals := 0 }
theorem kX2_takes {R : Room} {s : State} {args : Array Value} {own : String} {index : Nat} (ht : ∀ w ∈ lw_all, w.before args s = true) (hl : Cond.methodLink own index yX2_takes ∈ lw_all) (hf : rmX2_takes.frames + 1 ≤ R.frames) (hlo : 8 + (4 + 11) + rmX2_takes.locals ≤ R.locals) : CallW R s args own RX2 index yX2_takes cX2_takes 4 (some Jvm.ClassFile.FieldType.boolean) (wA yX2_takes cX2_takes 4 (some Jvm.ClassFile.FieldType.boolean)) rmX2_takes 0 0 2 := cwV 2 ht (good_V hl qm_yX2_takes qs_yX2_takes qi_RX2 qc_yX2_takes) rfl rfl rfl (by decide +kernel) ⟨hf, hlo⟩
set_option maxRecDepth 100000 in
set_option maxHeartbeats 4000000 in
theorem met_X2_takes (l : Launch) (D : va_G) (ad : Adr) (cy : Nat → ClassId) (S : Mem) (x1 : Int32) (x2 : Int32) {Q : Mem → Int32 → Prop} (hq : vc_X2_takes S x1 x2 Q) : Ci l yX2_takes (wA yX2_takes cX2_takes 4 (some Jvm.ClassFile.FieldType.boolean)) rmX2_takes D ad cy [.ref (ad 2 0 0), .int x1, .int x2] S Q := by
  intro o sz
  refine mkC (own := RX2) (lv := [(0, .ref (ad 2 0 0)), (1, .int x1), (2, .int x2)]) (by decide) rfl (Nat.le_of_ble_eq_true rfl) rfl ⟨rfl, rfl⟩ ?_
  intro p e s m below meth c ls hsz hM hlocks hret hK hA hX hl
  unfold vc_X2_takes at hq
  refine lv_aload_n hM.1 hM.2.1 dX2_takes_0 rfl (lv_at hl 0 rfl) ?_
  refine g2 hM hK hX m2 1 (by decide) qf_RX2_19 rfl dX2_takes_1 ?_
  refine lv_if_lt (tgt := 30) hM.1 hM.2.1 dX2_takes_4 (by decide) (fun c_1 => ?_) (fun c_1 => ?_)
  · replace hq := hq.1 c_1
    refine lv_iconst (v := (0 : Int32)) hM.1 hM.2.1 dX2_takes_30 (by decide) ?_
    exact e_z hM hX hlocks hret rfl hq dX2_takes_31
  replace hq := hq.2 c_1
  refine lv_aload_n hM.1 hM.2.1 dX2_takes_7 rfl (lv_at hl 0 rfl) ?_
  refine g2 hM hK hX m2 1 (by decide) qf_RX2_19 rfl dX2_takes_8 ?_
  refine lv_aload_n hM.1 hM.2.1 dX2_takes_11 rfl (lv_at hl 0 rfl) ?_
  refine g2 hM hK hX m2 3 (by decide) qf_RX2_15 rfl dX2_takes_12 ?_
  refine lv_icmp_ge (tgt := 30) hM.1 hM.2.1 dX2_takes_15 (by decide) (fun c_2 => ?_) (fun c_2 => ?_)
  · replace hq := hq.1 c_2
    refine lv_iconst (v := (0 : Int32)) hM.1 hM.2.1 dX2_takes_30 (by decide) ?_
    exact e_z hM hX hlocks hret rfl hq dX2_takes_31
  replace hq := hq.2 c_2
  refine lv_aload_n hM.1 hM.2.1 dX2_takes_18 rfl (lv_at hl 0 rfl) ?_
  refine g2 hM hK hX m2 1 (by decide) qf_RX2_19 rfl dX2_takes_19 ?_
  refine lv_aload_n hM.1 hM.2.1 dX2_takes_22 rfl (lv_at hl 0 rfl) ?_
  refine g2 hM hK hX m2 0 (by decide) qf_RX2_9 rfl dX2_takes_23 ?_
  refine r_alen (v := (60 : Int32)) (t0 := 1) hM hK hX m10 rfl rfl rfl dX2_takes_26 ?_
  refine lv_icmp_lt (tgt := 32) hM.1 hM.2.1 dX2_takes_27 (by decide) (fun c_3 => ?_) (fun c_3 => ?_)
  · replace hq := hq.1 c_3
    refine lv_aload_n hM.1 hM.2.1 dX2_takes_32 rfl (lv_at hl 0 rfl) ?_
    refine g2 hM hK hX m2 0 (by decide) qf_RX2_9 rfl dX2_takes_33 ?_
    refine lv_aload_n hM.1 hM.2.1 dX2_takes_36 rfl (lv_at hl 0 rfl) ?_
    refine g2 hM hK hX m2 1 (by decide) qf_RX2_19 rfl dX2_takes_37 ?_
    have c_4 := hq.1
    replace hq := hq.2
    refine r_cald hM hK hX m10 (a10 0 0) c_4 dX2_takes_40 ?_
    refine lv_istore_n (lv' := [(3, .int (S 10 0 0 (S 2 0 0 1).toNatClampNeg)), (0, .ref (ad 2 0 0)), (1, .int x1), (2, .int x2)]) hM.1 hM.2.1 dX2_takes_41 rfl hl (by decide) rfl (fun ls hl => ?_)
    refine lv_iload_n hM.1 hM.2.1 dX2_takes_42 rfl (lv_at hl 0 rfl) ?_
    refine lv_iload_n hM.1 hM.2.1 dX2_takes_43 rfl (lv_at hl 2 rfl) ?_
    refine lv_icmp_lt (tgt := 52) hM.1 hM.2.1 dX2_takes_44 (by decide) (fun c_5 => ?_) (fun c_5 => ?_)
    · replace hq := hq.1 c_5
      refine lv_iconst (v := (0 : Int32)) hM.1 hM.2.1 dX2_takes_52 (by decide) ?_
      exact e_z hM hX hlocks hret rfl hq dX2_takes_53
    replace hq := hq.2 c_5
    refine lv_iload_n hM.1 hM.2.1 dX2_takes_47 rfl (lv_at hl 0 rfl) ?_
    refine lv_iload_n hM.1 hM.2.1 dX2_takes_48 rfl (lv_at hl 3 rfl) ?_
    refine lv_icmp_le (tgt := 54) hM.1 hM.2.1 dX2_takes_49 (by decide) (fun c_6 => ?_) (fun c_6 => ?_)
    · replace hq := hq.1 c_6
      refine lv_aload_n hM.1 hM.2.1 dX2_takes_54 rfl (lv_at hl 1 rfl) ?_
      refine lv_iload_n hM.1 hM.2.1 dX2_takes_55 rfl (lv_at hl 0 rfl) ?_
      refine lv_bipush (v := (48 : Int32)) hM.1 hM.2.1 dX2_takes_56 (by decide) ?_
      refine lv_isub hM.1 hM.2.1 dX2_takes_58 ?_
      refine p2_2 hM hK hX m2 qf_RX2_55 dX2_takes_59 (fun S_7 e_8 H locs hX => ?_)
      replace hq := hq S_7 e_8
      refine lv_aload_n hM.1 hM.2.1 dX2_takes_62 rfl (lv_at hl 1 rfl) ?_
      refine lv_dup hM.1 hM.2.1 dX2_takes_63 rfl ?_
      refine g2 hM hK hX m2 1 (by decide) qf_RX2_19 rfl dX2_takes_64 ?_
      refine lv_iconst (v := (1 : Int32)) hM.1 hM.2.1 dX2_takes_67 (by decide) ?_
      refine lv_iadd hM.1 hM.2.1 dX2_takes_68 ?_
      refine p2_1 hM hK hX m2 qf_RX2_19 dX2_takes_69 (fun S_9 e_10 H locs hX => ?_)
      replace hq := hq S_9 e_10
      refine lv_iconst (v := (1 : Int32)) hM.1 hM.2.1 dX2_takes_72 (by decide) ?_
      exact e_z hM hX hlocks hret rfl hq dX2_takes_73
    replace hq := hq.2 c_6
    refine lv_iconst (v := (0 : Int32)) hM.1 hM.2.1 dX2_takes_52 (by decide) ?_
    exact e_z hM hX hlocks hret rfl hq dX2_takes_53
  replace hq := hq.2 c_3
  refine lv_iconst (v := (0 : Int32)) hM.1 hM.2.1 dX2_takes_30 (by decide) ?_
  exact e_z hM hX hlocks hret rfl hq dX2_takes_31
def rmX2_takesSign : Room := { frames := 1, cells := 0, slots := 0, locals := 23 }
theorem kX2_takesSign {R : Room} {s : State} {args : Array Value} {own : String} {index : Nat} (ht : ∀ w ∈ lw_all, w.before args s = true) (hl : Cond.methodLink own index yX2_takesSign ∈ lw_all) (hf : rmX2_takesSign.frames + 1 ≤ R.frames) (hlo : 8 + (2 + 11) + rmX2_takesSign.locals ≤ R.locals) : CallW R s args own RX2 index yX2_takesSign cX2_takesSign 2 (some Jvm.ClassFile.FieldType.boolean) (wA yX2_takesSign cX2_takesSign 2 (some Jvm.ClassFile.FieldType.boolean)) rmX2_takesSign 0 0 1 := cwV 1 ht (good_V hl qm_yX2_takesSign qs_yX2_takesSign qi_RX2 qc_yX2_takesSign) rfl rfl rfl (by decide +kernel) ⟨hf, hlo⟩
set_option maxRecDepth 100000 in
set_option maxHeartbeats 4000000 in
theorem met_X2_takesSign (l : Launch) (D : va_G) (ad : Adr) (cy : Nat → ClassId) (S : Mem) (x1 : Int32) {Q : Mem → Int32 → Prop} (hq : vc_X2_takesSign S x1 Q) : Ci l yX2_takesSign (wA yX2_takesSign cX2_takesSign 2 (some Jvm.ClassFile.FieldType.boolean)) rmX2_takesSign D ad cy [.ref (ad 2 0 0), .int x1] S Q := by
  intro o sz
  refine mkC (own := RX2) (lv := [(0, .ref (ad 2 0 0)), (1, .int x1)]) (by decide) rfl (Nat.le_of_ble_eq_true rfl) rfl ⟨rfl, rfl⟩ ?_
  intro p e s m below meth c ls hsz hM hlocks hret hK hA hX hl
  unfold vc_X2_takesSign at hq
  refine lv_aload_n hM.1 hM.2.1 dX2_takesSign_0 rfl (lv_at hl 0 rfl) ?_
  refine lv_iload_n hM.1 hM.2.1 dX2_takesSign_1 rfl (lv_at hl 1 rfl) ?_
  refine lv_iload_n hM.1 hM.2.1 dX2_takesSign_2 rfl (lv_at hl 1 rfl) ?_
  refine cVi (As := [.int x1, .int x1]) hM hK hX hA (met_X2_takes l D ad cy S x1 x1 hq) (kX2_takes hM.2.2.2.2 ql_RX2_52 (Nat.le_of_ble_eq_true rfl) (Nat.le_of_ble_eq_true rfl)) (v2 hK hX m2) rfl hl.1 rfl (Nat.le_of_ble_eq_true rfl) dX2_takesSign_3 ⟨Nat.zero_le _, Nat.zero_le _⟩ (fun S_1 r_2 hq H locs hX => ?_)
  exact e_z hM hX hlocks hret (nar_z hq.1).1 hq.2 dX2_takesSign_6
def rmX2_readsRow : Room := { frames := 1, cells := 0, slots := 0, locals := 23 }
theorem kX2_readsRow {R : Room} {s : State} {args : Array Value} {own : String} {index : Nat} (ht : ∀ w ∈ lw_all, w.before args s = true) (hl : Cond.methodLink own index yX2_readsRow ∈ lw_all) (hf : rmX2_readsRow.frames + 1 ≤ R.frames) (hlo : 8 + (2 + 11) + rmX2_readsRow.locals ≤ R.locals) : CallW R s args own RX2 index yX2_readsRow cX2_readsRow 2 (some Jvm.ClassFile.FieldType.boolean) (wA yX2_readsRow cX2_readsRow 2 (some Jvm.ClassFile.FieldType.boolean)) rmX2_readsRow 0 0 0 := cwV 0 ht (good_V hl qm_yX2_readsRow qs_yX2_readsRow qi_RX2 qc_yX2_readsRow) rfl rfl rfl (by decide +kernel) ⟨hf, hlo⟩
set_option maxRecDepth 100000 in
set_option maxHeartbeats 4000000 in
theorem met_X2_readsRow (l : Launch) (D : va_G) (ad : Adr) (cy : Nat → ClassId) (S : Mem) {Q : Mem → Int32 → Prop} (hq : vc_X2_readsRow S Q) : Ci l yX2_readsRow (wA yX2_readsRow cX2_readsRow 2 (some Jvm.ClassFile.FieldType.boolean)) rmX2_readsRow D ad cy [.ref (ad 2 0 0)] S Q := by
  intro o sz
  refine mkC (own := RX2) (lv := [(0, .ref (ad 2 0 0))]) (by decide) rfl (Nat.le_of_ble_eq_true rfl) rfl ⟨rfl, rfl⟩ ?_
  intro p e s m below meth c ls hsz hM hlocks hret hK hA hX hl
  unfold vc_X2_readsRow at hq
  refine lv_aload_n hM.1 hM.2.1 dX2_readsRow_0 rfl (lv_at hl 0 rfl) ?_
  refine lv_bipush (v := (48 : Int32)) hM.1 hM.2.1 dX2_readsRow_1 (by decide) ?_
  refine lv_bipush (v := (51 : Int32)) hM.1 hM.2.1 dX2_readsRow_3 (by decide) ?_
  refine cVi (As := [.int (48 : Int32), .int (51 : Int32)]) hM hK hX hA (met_X2_takes l D ad cy S (48 : Int32) (51 : Int32) hq) (kX2_takes hM.2.2.2.2 ql_RX2_52 (Nat.le_of_ble_eq_true rfl) (Nat.le_of_ble_eq_true rfl)) (v2 hK hX m2) rfl hl.1 rfl (Nat.le_of_ble_eq_true rfl) dX2_readsRow_5 ⟨Nat.zero_le _, Nat.zero_le _⟩ (fun S_1 r_2 hq H locs hX => ?_)
  refine lv_istore_n (lv' := [(1, .int r_2), (0, .ref (ad 2 0 0))]) hM.1 hM.2.1 dX2_readsRow_8 rfl hl (by decide) rfl (fun ls hl => ?_)
  refine lv_aload_n hM.1 hM.2.1 dX2_readsRow_9 rfl (lv_at hl 1 rfl) ?_
  refine lv_aload_n hM.1 hM.2.1 dX2_readsRow_10 rfl (lv_at hl 1 rfl) ?_
  refine g2 hM hK hX m2 2 (by decide) qf_RX2_55 rfl dX2_readsRow_11 ?_
  refine p2_5 hM hK hX m2 qf_RX2_58 dX2_readsRow_14 (fun S_3 e_4 H locs hX => ?_)
  replace hq := hq S_3 e_4
  refine lv_iload_n hM.1 hM.2.1 dX2_readsRow_17 rfl (lv_at hl 0 rfl) ?_
  exact e_z hM hX hlocks hret (nar_z hq.1).1 hq.2 dX2_readsRow_18
def rmX2_readsNumber : Room := { frames := 1, cells := 0, slots := 0, locals := 23 }
theorem kX2_readsNumber {R : Room} {s : State} {args : Array Value} {own : String} {index : Nat} (ht : ∀ w ∈ lw_all, w.before args s = true) (hl : Cond.methodLink own index yX2_readsNumber ∈ lw_all) (hf : rmX2_readsNumber.frames + 1 ≤ R.frames) (hlo : 8 + (4 + 11) + rmX2_readsNumber.locals ≤ R.locals) : CallW R s args own RX2 index yX2_readsNumber cX2_readsNumber 4 (some Jvm.ClassFile.FieldType.boolean) (wA yX2_readsNumber cX2_readsNumber 4 (some Jvm.ClassFile.FieldType.boolean)) rmX2_readsNumber 0 0 2 := cwV 2 ht (good_V hl qm_yX2_readsNumber qs_yX2_readsNumber qi_RX2 qc_yX2_readsNumber) rfl rfl rfl (by decide +kernel) ⟨hf, hlo⟩
set_option maxRecDepth 100000 in
set_option maxHeartbeats 4000000 in
theorem met_X2_readsNumber (l : Launch) (D : va_G) (ad : Adr) (cy : Nat → ClassId) (S : Mem) (x1 : Int32) (x2 : Int32) {Q : Mem → Int32 → Prop} (hq : vc_X2_readsNumber S x1 x2 Q) : Ci l yX2_readsNumber (wA yX2_readsNumber cX2_readsNumber 4 (some Jvm.ClassFile.FieldType.boolean)) rmX2_readsNumber D ad cy [.ref (ad 2 0 0), .int x1, .int x2] S Q := by
  intro o sz
  refine mkC (own := RX2) (lv := [(0, .ref (ad 2 0 0)), (1, .int x1), (2, .int x2)]) (by decide) rfl (Nat.le_of_ble_eq_true rfl) rfl ⟨rfl, rfl⟩ ?_
  intro p e s m below meth c ls hsz hM hlocks hret hK hA hX hl
  unfold vc_X2_readsNumber at hq
  refine lv_aload_n hM.1 hM.2.1 dX2_readsNumber_0 rfl (lv_at hl 0 rfl) ?_
  refine lv_iload_n hM.1 hM.2.1 dX2_readsNumber_1 rfl (lv_at hl 1 rfl) ?_
  refine lv_iload_n hM.1 hM.2.1 dX2_readsNumber_2 rfl (lv_at hl 2 rfl) ?_
  refine cVi (As := [.int x1, .int x2]) hM hK hX hA (met_X2_takes l D ad cy S x1 x2 hq) (kX2_takes hM.2.2.2.2 ql_RX2_52 (Nat.le_of_ble_eq_true rfl) (Nat.le_of_ble_eq_true rfl)) (v2 hK hX m2) rfl hl.1 rfl (Nat.le_of_ble_eq_true rfl) dX2_readsNumber_3 ⟨Nat.zero_le _, Nat.zero_le _⟩ (fun S_1 r_2 hq H locs hX => ?_)
  refine lv_istore_n (lv' := [(3, .int r_2), (0, .ref (ad 2 0 0)), (1, .int x1), (2, .int x2)]) hM.1 hM.2.1 dX2_readsNumber_6 rfl hl (by decide) rfl (fun ls hl => ?_)
  refine lv_aload_n hM.1 hM.2.1 dX2_readsNumber_7 rfl (lv_at hl 1 rfl) ?_
  refine lv_aload_n hM.1 hM.2.1 dX2_readsNumber_8 rfl (lv_at hl 1 rfl) ?_
  refine g2 hM hK hX m2 2 (by decide) qf_RX2_55 rfl dX2_readsNumber_9 ?_
  refine p2_6 hM hK hX m2 qf_RX2_61 dX2_readsNumber_12 (fun S_3 e_4 H locs hX => ?_)
  replace hq := hq S_3 e_4
  refine lv_iload_n hM.1 hM.2.1 dX2_readsNumber_15 rfl (lv_at hl 0 rfl) ?_
  exact e_z hM hX hlocks hret (nar_z hq.1).1 hq.2 dX2_readsNumber_16
def rmX2_readsWeight : Room := { frames := 2, cells := 0, slots := 0, locals := 44 }
theorem kX2_readsWeight {R : Room} {s : State} {args : Array Value} {own : String} {index : Nat} (ht : ∀ w ∈ lw_all, w.before args s = true) (hl : Cond.methodLink own index yX2_readsWeight ∈ lw_all) (hf : rmX2_readsWeight.frames + 1 ≤ R.frames) (hlo : 8 + (2 + 11) + rmX2_readsWeight.locals ≤ R.locals) : CallW R s args own RX2 index yX2_readsWeight cX2_readsWeight 2 (some Jvm.ClassFile.FieldType.boolean) (wA yX2_readsWeight cX2_readsWeight 2 (some Jvm.ClassFile.FieldType.boolean)) rmX2_readsWeight 0 0 0 := cwV 0 ht (good_V hl qm_yX2_readsWeight qs_yX2_readsWeight qi_RX2 qc_yX2_readsWeight) rfl rfl rfl (by decide +kernel) ⟨hf, hlo⟩
set_option maxRecDepth 100000 in
set_option maxHeartbeats 4000000 in
theorem met_X2_readsWeight (l : Launch) (D : va_G) (ad : Adr) (cy : Nat → ClassId) (S : Mem) {Q : Mem → Int32 → Prop} (hq : vc_X2_readsWeight S Q) : Ci l yX2_readsWeight (wA yX2_readsWeight cX2_readsWeight 2 (some Jvm.ClassFile.FieldType.boolean)) rmX2_readsWeight D ad cy [.ref (ad 2 0 0)] S Q := by
  intro o sz
  refine mkC (own := RX2) (lv := [(0, .ref (ad 2 0 0))]) (by decide) rfl (Nat.le_of_ble_eq_true rfl) rfl ⟨rfl, rfl⟩ ?_
  intro p e s m below meth c ls hsz hM hlocks hret hK hA hX hl
  unfold vc_X2_readsWeight at hq
  refine lv_aload_n hM.1 hM.2.1 dX2_readsWeight_0 rfl (lv_at hl 0 rfl) ?_
  refine lv_iconst (v := (1 : Int32)) hM.1 hM.2.1 dX2_readsWeight_1 (by decide) ?_
  refine p2_7 hM hK hX m2 qf_RX2_64 dX2_readsWeight_2 (fun S_1 e_2 H locs hX => ?_)
  replace hq := hq S_1 e_2
  refine lv_aload_n hM.1 hM.2.1 dX2_readsWeight_5 rfl (lv_at hl 0 rfl) ?_
  refine lv_bipush (v := (42 : Int32)) hM.1 hM.2.1 dX2_readsWeight_6 (by decide) ?_
  refine cVi (As := [.int (42 : Int32)]) hM hK hX hA (met_X2_takesSign l D ad cy S_1 (42 : Int32) hq) (kX2_takesSign hM.2.2.2.2 ql_RX2_32 (Nat.le_of_ble_eq_true rfl) (Nat.le_of_ble_eq_true rfl)) (v2 hK hX m2) rfl hl.1 rfl (Nat.le_of_ble_eq_true rfl) dX2_readsWeight_8 ⟨Nat.zero_le _, Nat.zero_le _⟩ (fun S_3 r_4 hq H locs hX => ?_)
  refine lv_if_ne (tgt := 16) hM.1 hM.2.1 dX2_readsWeight_11 (by decide) (fun c_5 => ?_) (fun c_5 => ?_)
  · replace hq := hq.1 c_5
    refine lv_aload_n hM.1 hM.2.1 dX2_readsWeight_16 rfl (lv_at hl 0 rfl) ?_
    refine lv_bipush (v := (49 : Int32)) hM.1 hM.2.1 dX2_readsWeight_17 (by decide) ?_
    refine lv_bipush (v := (53 : Int32)) hM.1 hM.2.1 dX2_readsWeight_19 (by decide) ?_
    refine cVi (As := [.int (49 : Int32), .int (53 : Int32)]) hM hK hX hA (met_X2_takes l D ad cy S_3 (49 : Int32) (53 : Int32) hq) (kX2_takes hM.2.2.2.2 ql_RX2_52 (Nat.le_of_ble_eq_true rfl) (Nat.le_of_ble_eq_true rfl)) (v2 hK hX m2) rfl hl.1 rfl (Nat.le_of_ble_eq_true rfl) dX2_readsWeight_21 ⟨Nat.zero_le _, Nat.zero_le _⟩ (fun S_6 r_7 hq H locs hX => ?_)
    refine lv_istore_n (lv' := [(1, .int r_7), (0, .ref (ad 2 0 0))]) hM.1 hM.2.1 dX2_readsWeight_24 rfl hl (by decide) rfl (fun ls hl => ?_)
    refine lv_aload_n hM.1 hM.2.1 dX2_readsWeight_25 rfl (lv_at hl 1 rfl) ?_
    refine lv_aload_n hM.1 hM.2.1 dX2_readsWeight_26 rfl (lv_at hl 1 rfl) ?_
    refine g2 hM hK hX m2 2 (by decide) qf_RX2_55 rfl dX2_readsWeight_27 ?_
    refine p2_7 hM hK hX m2 qf_RX2_64 dX2_readsWeight_30 (fun S_8 e_9 H locs hX => ?_)
    replace hq := hq S_8 e_9
    refine lv_iload_n hM.1 hM.2.1 dX2_readsWeight_33 rfl (lv_at hl 0 rfl) ?_
    exact e_z hM hX hlocks hret (nar_z hq.1).1 hq.2 dX2_readsWeight_34
  replace hq := hq.2 c_5
  refine lv_iconst (v := (1 : Int32)) hM.1 hM.2.1 dX2_readsWeight_14 (by decide) ?_
  exact e_z hM hX hlocks hret rfl hq dX2_readsWeight_15
def rmX2_readsDegrees : Room := { frames := 2, cells := 0, slots := 0, locals := 44 }
theorem kX2_readsDegrees {R : Room} {s : State} {args : Array Value} {own : String} {index : Nat} (ht : ∀ w ∈ lw_all, w.before args s = true) (hl : Cond.methodLink own index yX2_readsDegrees ∈ lw_all) (hf : rmX2_readsDegrees.frames + 1 ≤ R.frames) (hlo : 8 + (4 + 11) + rmX2_readsDegrees.locals ≤ R.locals) : CallW R s args own RX2 index yX2_readsDegrees cX2_readsDegrees 4 (some Jvm.ClassFile.FieldType.boolean) (wA yX2_readsDegrees cX2_readsDegrees 4 (some Jvm.ClassFile.FieldType.boolean)) rmX2_readsDegrees 0 0 0 := cwV 0 ht (good_V hl qm_yX2_readsDegrees qs_yX2_readsDegrees qi_RX2 qc_yX2_readsDegrees) rfl rfl rfl (by decide +kernel) ⟨hf, hlo⟩
set_option maxRecDepth 100000 in
set_option maxHeartbeats 4000000 in
theorem met_X2_readsDegrees (l : Launch) (D : va_G) (ad : Adr) (cy : Nat → ClassId) (S : Mem) {Q : Mem → Int32 → Prop} (hq : vc_X2_readsDegrees S Q) : Ci l yX2_readsDegrees (wA yX2_readsDegrees cX2_readsDegrees 4 (some Jvm.ClassFile.FieldType.boolean)) rmX2_readsDegrees D ad cy [.ref (ad 2 0 0)] S Q := by
  intro o sz
  refine mkC (own := RX2) (lv := [(0, .ref (ad 2 0 0))]) (by decide) rfl (Nat.le_of_ble_eq_true rfl) rfl ⟨rfl, rfl⟩ ?_
  intro p e s m below meth c ls hsz hM hlocks hret hK hA hX hl
  have J68 : ∀ (S : Mem) (y1 : Int32) (y2 : Int32) (w1 : Int32) (w2 : Int32), vc_X2_readsDegrees_J68 Q S y1 y2 w1 w2 → ∀ (H : Heap) (locs : List Loc) (ls : Array Slot), PW D ad cy (AW ad sz) s.heap o S H locs → lv_has ls 4 [(0, .ref (ad 2 0 0)), (1, .int y1), (2, .int y2)] → Wi D ad cy o sz Q p l e rmX2_readsDegrees s m [.ref (ad 2 0 0)] below meth c H locs (F0 m 68 ls [.int w2, .int w1, .ref (ad 2 0 0)]) := by
    intro S y1 y2 w1 w2 hq H locs ls hX hl
    unfold vc_X2_readsDegrees_J68 at hq
    refine cVi (As := [.int w1, .int w2]) hM hK hX hA (met_X2_takes l D ad cy S w1 w2 hq) (kX2_takes hM.2.2.2.2 ql_RX2_52 (Nat.le_of_ble_eq_true rfl) (Nat.le_of_ble_eq_true rfl)) (v2 hK hX m2) rfl hl.1 rfl (Nat.le_of_ble_eq_true rfl) dX2_readsDegrees_68 ⟨Nat.zero_le _, Nat.zero_le _⟩ (fun S_12 r_13 hq H locs hX => ?_)
    refine lv_if_eq (tgt := 84) hM.1 hM.2.1 dX2_readsDegrees_71 (by decide) (fun c_14 => ?_) (fun c_14 => ?_)
    · replace hq := hq.1 c_14
      refine lv_aload_n hM.1 hM.2.1 dX2_readsDegrees_84 rfl (lv_at hl 0 rfl) ?_
      refine lv_iload_n hM.1 hM.2.1 dX2_readsDegrees_85 rfl (lv_at hl 1 rfl) ?_
      refine lv_iload_n hM.1 hM.2.1 dX2_readsDegrees_86 rfl (lv_at hl 2 rfl) ?_
      refine lv_imul hM.1 hM.2.1 dX2_readsDegrees_87 ?_
      refine p2_6 hM hK hX m2 qf_RX2_61 dX2_readsDegrees_88 (fun S_15 e_16 H locs hX => ?_)
      replace hq := hq S_15 e_16
      refine lv_iconst (v := (1 : Int32)) hM.1 hM.2.1 dX2_readsDegrees_91 (by decide) ?_
      exact e_z hM hX hlocks hret rfl hq dX2_readsDegrees_92
    replace hq := hq.2 c_14
    refine lv_iload_n hM.1 hM.2.1 dX2_readsDegrees_74 rfl (lv_at hl 2 rfl) ?_
    refine lv_bipush (v := (10 : Int32)) hM.1 hM.2.1 dX2_readsDegrees_75 (by decide) ?_
    refine lv_imul hM.1 hM.2.1 dX2_readsDegrees_77 ?_
    refine lv_aload_n hM.1 hM.2.1 dX2_readsDegrees_78 rfl (lv_at hl 0 rfl) ?_
    refine g2 hM hK hX m2 2 (by decide) qf_RX2_55 rfl dX2_readsDegrees_79 ?_
    refine lv_iadd hM.1 hM.2.1 dX2_readsDegrees_82 ?_
    refine lv_istore_n (lv' := [(2, .int ((y2 * (10 : Int32)) + (S_12 2 0 0 2))), (0, .ref (ad 2 0 0)), (1, .int y1)]) hM.1 hM.2.1 dX2_readsDegrees_83 rfl hl (by decide) rfl (fun ls hl => ?_)
    refine lv_aload_n hM.1 hM.2.1 dX2_readsDegrees_84 rfl (lv_at hl 1 rfl) ?_
    refine lv_iload_n hM.1 hM.2.1 dX2_readsDegrees_85 rfl (lv_at hl 2 rfl) ?_
    refine lv_iload_n hM.1 hM.2.1 dX2_readsDegrees_86 rfl (lv_at hl 0 rfl) ?_
    refine lv_imul hM.1 hM.2.1 dX2_readsDegrees_87 ?_
    refine p2_6 hM hK hX m2 qf_RX2_61 dX2_readsDegrees_88 (fun S_17 e_18 H locs hX => ?_)
    replace hq := hq S_17 e_18
    refine lv_iconst (v := (1 : Int32)) hM.1 hM.2.1 dX2_readsDegrees_91 (by decide) ?_
    exact e_z hM hX hlocks hret rfl hq dX2_readsDegrees_92
  have J48 : ∀ (S : Mem) (y1 : Int32) (y2 : Int32) (w0 : Int32), vc_X2_readsDegrees_J48 Q S y1 y2 w0 → ∀ (H : Heap) (locs : List Loc) (ls : Array Slot), PW D ad cy (AW ad sz) s.heap o S H locs → lv_has ls 4 [(0, .ref (ad 2 0 0)), (1, .int y1), (2, .int y2)] → Wi D ad cy o sz Q p l e rmX2_readsDegrees s m [.ref (ad 2 0 0)] below meth c H locs (F0 m 48 ls [.int w0]) := by
    intro S y1 y2 w0 hq H locs ls hX hl
    unfold vc_X2_readsDegrees_J48 at hq
    refine lv_istore_n (lv' := [(3, .int w0), (0, .ref (ad 2 0 0)), (1, .int y1), (2, .int y2)]) hM.1 hM.2.1 dX2_readsDegrees_48 rfl hl (by decide) rfl (fun ls hl => ?_)
    refine lv_iload_n hM.1 hM.2.1 dX2_readsDegrees_49 rfl (lv_at hl 0 rfl) ?_
    refine lv_if_eq (tgt := 84) hM.1 hM.2.1 dX2_readsDegrees_50 (by decide) (fun c_8 => ?_) (fun c_8 => ?_)
    · replace hq := hq.1 c_8
      refine lv_aload_n hM.1 hM.2.1 dX2_readsDegrees_84 rfl (lv_at hl 1 rfl) ?_
      refine lv_iload_n hM.1 hM.2.1 dX2_readsDegrees_85 rfl (lv_at hl 2 rfl) ?_
      refine lv_iload_n hM.1 hM.2.1 dX2_readsDegrees_86 rfl (lv_at hl 3 rfl) ?_
      refine lv_imul hM.1 hM.2.1 dX2_readsDegrees_87 ?_
      refine p2_6 hM hK hX m2 qf_RX2_61 dX2_readsDegrees_88 (fun S_9 e_10 H locs hX => ?_)
      replace hq := hq S_9 e_10
      refine lv_iconst (v := (1 : Int32)) hM.1 hM.2.1 dX2_readsDegrees_91 (by decide) ?_
      exact e_z hM hX hlocks hret rfl hq dX2_readsDegrees_92
    replace hq := hq.2 c_8
    refine lv_aload_n hM.1 hM.2.1 dX2_readsDegrees_53 rfl (lv_at hl 1 rfl) ?_
    refine lv_bipush (v := (48 : Int32)) hM.1 hM.2.1 dX2_readsDegrees_54 (by decide) ?_
    refine lv_iload_n hM.1 hM.2.1 dX2_readsDegrees_56 rfl (lv_at hl 3 rfl) ?_
    refine lv_iconst (v := (5 : Int32)) hM.1 hM.2.1 dX2_readsDegrees_57 (by decide) ?_
    refine lv_icmp_ne (tgt := 66) hM.1 hM.2.1 dX2_readsDegrees_58 (by decide) (fun c_11 => ?_) (fun c_11 => ?_)
    · replace hq := hq.1 c_11
      refine lv_bipush (v := (57 : Int32)) hM.1 hM.2.1 dX2_readsDegrees_66 (by decide) ?_
      exact J68 S y1 y2 (48 : Int32) (57 : Int32) hq _ _ _ hX (lv_sub hl [1, 2, 3] rfl)
    replace hq := hq.2 c_11
    refine lv_bipush (v := (48 : Int32)) hM.1 hM.2.1 dX2_readsDegrees_61 (by decide) ?_
    refine lv_goto (tgt := 68) hM.1 hM.2.1 dX2_readsDegrees_63 (by decide) ?_
    exact J68 S y1 y2 (48 : Int32) (48 : Int32) hq _ _ _ hX (lv_sub hl [1, 2, 3] rfl)
  have J47 : ∀ (S : Mem) (y1 : Int32) (y2 : Int32), vc_X2_readsDegrees_J47 Q S y1 y2 → ∀ (H : Heap) (locs : List Loc) (ls : Array Slot), PW D ad cy (AW ad sz) s.heap o S H locs → lv_has ls 4 [(0, .ref (ad 2 0 0)), (1, .int y1), (2, .int y2)] → Wi D ad cy o sz Q p l e rmX2_readsDegrees s m [.ref (ad 2 0 0)] below meth c H locs (F0 m 47 ls []) := by
    intro S y1 y2 hq H locs ls hX hl
    unfold vc_X2_readsDegrees_J47 at hq
    refine lv_iconst (v := (0 : Int32)) hM.1 hM.2.1 dX2_readsDegrees_47 (by decide) ?_
    exact J48 S y1 y2 (0 : Int32) hq _ _ _ hX (lv_sub hl [0, 1, 2] rfl)
  have J14 : ∀ (S : Mem) (w0 : Int32), vc_X2_readsDegrees_J14 Q S w0 → ∀ (H : Heap) (locs : List Loc) (ls : Array Slot), PW D ad cy (AW ad sz) s.heap o S H locs → lv_has ls 4 [(0, .ref (ad 2 0 0))] → Wi D ad cy o sz Q p l e rmX2_readsDegrees s m [.ref (ad 2 0 0)] below meth c H locs (F0 m 14 ls [.int w0]) := by
    intro S w0 hq H locs ls hX hl
    unfold vc_X2_readsDegrees_J14 at hq
    refine lv_istore_n (lv' := [(1, .int w0), (0, .ref (ad 2 0 0))]) hM.1 hM.2.1 dX2_readsDegrees_14 rfl hl (by decide) rfl (fun ls hl => ?_)
    refine lv_aload_n hM.1 hM.2.1 dX2_readsDegrees_15 rfl (lv_at hl 1 rfl) ?_
    refine lv_bipush (v := (48 : Int32)) hM.1 hM.2.1 dX2_readsDegrees_16 (by decide) ?_
    refine lv_bipush (v := (57 : Int32)) hM.1 hM.2.1 dX2_readsDegrees_18 (by decide) ?_
    refine cVi (As := [.int (48 : Int32), .int (57 : Int32)]) hM hK hX hA (met_X2_takes l D ad cy S (48 : Int32) (57 : Int32) hq) (kX2_takes hM.2.2.2.2 ql_RX2_52 (Nat.le_of_ble_eq_true rfl) (Nat.le_of_ble_eq_true rfl)) (v2 hK hX m2) rfl hl.1 rfl (Nat.le_of_ble_eq_true rfl) dX2_readsDegrees_20 ⟨Nat.zero_le _, Nat.zero_le _⟩ (fun S_4 r_5 hq H locs hX => ?_)
    refine lv_if_ne (tgt := 28) hM.1 hM.2.1 dX2_readsDegrees_23 (by decide) (fun c_6 => ?_) (fun c_6 => ?_)
    · replace hq := hq.1 c_6
      refine lv_aload_n hM.1 hM.2.1 dX2_readsDegrees_28 rfl (lv_at hl 1 rfl) ?_
      refine g2 hM hK hX m2 2 (by decide) qf_RX2_55 rfl dX2_readsDegrees_29 ?_
      refine lv_istore_n (lv' := [(2, .int (S_4 2 0 0 2)), (1, .int w0), (0, .ref (ad 2 0 0))]) hM.1 hM.2.1 dX2_readsDegrees_32 rfl hl (by decide) rfl (fun ls hl => ?_)
      refine lv_iload_n hM.1 hM.2.1 dX2_readsDegrees_33 rfl (lv_at hl 0 rfl) ?_
      refine lv_iconst (v := (1 : Int32)) hM.1 hM.2.1 dX2_readsDegrees_34 (by decide) ?_
      refine lv_icmp_lt (tgt := 47) hM.1 hM.2.1 dX2_readsDegrees_35 (by decide) (fun c_7 => ?_) (fun c_7 => ?_)
      · replace hq := hq.1 c_7
        exact J47 S_4 w0 (S_4 2 0 0 2) hq _ _ _ hX (lv_sub hl [2, 1, 0] rfl)
      replace hq := hq.2 c_7
      refine lv_iload_n hM.1 hM.2.1 dX2_readsDegrees_38 rfl (lv_at hl 0 rfl) ?_
      refine lv_iconst (v := (5 : Int32)) hM.1 hM.2.1 dX2_readsDegrees_39 (by decide) ?_
      refine lv_icmp_gt (tgt := 47) hM.1 hM.2.1 dX2_readsDegrees_40 (by decide) (fun c_19 => ?_) (fun c_19 => ?_)
      · replace hq := hq.1 c_19
        exact J47 S_4 w0 (S_4 2 0 0 2) hq _ _ _ hX (lv_sub hl [2, 1, 0] rfl)
      replace hq := hq.2 c_19
      refine lv_iconst (v := (1 : Int32)) hM.1 hM.2.1 dX2_readsDegrees_43 (by decide) ?_
      refine lv_goto (tgt := 48) hM.1 hM.2.1 dX2_readsDegrees_44 (by decide) ?_
      exact J48 S_4 w0 (S_4 2 0 0 2) (1 : Int32) hq _ _ _ hX (lv_sub hl [2, 1, 0] rfl)
    replace hq := hq.2 c_6
    refine lv_iconst (v := (0 : Int32)) hM.1 hM.2.1 dX2_readsDegrees_26 (by decide) ?_
    exact e_z hM hX hlocks hret rfl hq dX2_readsDegrees_27
  unfold vc_X2_readsDegrees at hq
  refine lv_aload_n hM.1 hM.2.1 dX2_readsDegrees_0 rfl (lv_at hl 0 rfl) ?_
  refine lv_bipush (v := (45 : Int32)) hM.1 hM.2.1 dX2_readsDegrees_1 (by decide) ?_
  refine cVi (As := [.int (45 : Int32)]) hM hK hX hA (met_X2_takesSign l D ad cy S (45 : Int32) hq) (kX2_takesSign hM.2.2.2.2 ql_RX2_32 (Nat.le_of_ble_eq_true rfl) (Nat.le_of_ble_eq_true rfl)) (v2 hK hX m2) rfl hl.1 rfl (Nat.le_of_ble_eq_true rfl) dX2_readsDegrees_3 ⟨Nat.zero_le _, Nat.zero_le _⟩ (fun S_1 r_2 hq H locs hX => ?_)
  refine lv_if_eq (tgt := 13) hM.1 hM.2.1 dX2_readsDegrees_6 (by decide) (fun c_3 => ?_) (fun c_3 => ?_)
  · replace hq := hq.1 c_3
    refine lv_iconst (v := (1 : Int32)) hM.1 hM.2.1 dX2_readsDegrees_13 (by decide) ?_
    exact J14 S_1 (1 : Int32) hq _ _ _ hX (lv_sub hl [0] rfl)
  replace hq := hq.2 c_3
  refine lv_iconst (v := (-1 : Int32)) hM.1 hM.2.1 dX2_readsDegrees_9 (by decide) ?_
  refine lv_goto (tgt := 14) hM.1 hM.2.1 dX2_readsDegrees_10 (by decide) ?_
  exact J14 S_1 (-1 : Int32) hq _ _ _ hX (lv_sub hl [0] rfl)
def rmX2_readsOrder : Room := { frames := 3, cells := 0, slots := 0, locals := 67 }
theorem kX2_readsOrder {R : Room} {s : State} {args : Array Value} {own : String} {index : Nat} (ht : ∀ w ∈ lw_all, w.before args s = true) (hl : Cond.methodLink own index yX2_readsOrder ∈ lw_all) (hf : rmX2_readsOrder.frames + 1 ≤ R.frames) (hlo : 8 + (1 + 11) + rmX2_readsOrder.locals ≤ R.locals) : CallW R s args own RX2 index yX2_readsOrder cX2_readsOrder 1 (some Jvm.ClassFile.FieldType.boolean) (wA yX2_readsOrder cX2_readsOrder 1 (some Jvm.ClassFile.FieldType.boolean)) rmX2_readsOrder 0 0 0 := cwV 0 ht (good_V hl qm_yX2_readsOrder qs_yX2_readsOrder qi_RX2 qc_yX2_readsOrder) rfl rfl rfl (by decide +kernel) ⟨hf, hlo⟩
set_option maxRecDepth 100000 in
set_option maxHeartbeats 4000000 in
theorem met_X2_readsOrder (l : Launch) (D : va_G) (ad : Adr) (cy : Nat → ClassId) (S : Mem) {Q : Mem → Int32 → Prop} (hq : vc_X2_readsOrder S Q) : Ci l yX2_readsOrder (wA yX2_readsOrder cX2_readsOrder 1 (some Jvm.ClassFile.FieldType.boolean)) rmX2_readsOrder D ad cy [.ref (ad 2 0 0)] S Q := by
  intro o sz
  refine mkC (own := RX2) (lv := [(0, .ref (ad 2 0 0))]) (by decide) rfl (Nat.le_of_ble_eq_true rfl) rfl ⟨rfl, rfl⟩ ?_
  intro p e s m below meth c ls hsz hM hlocks hret hK hA hX hl
  unfold vc_X2_readsOrder at hq
  refine lv_aload_n hM.1 hM.2.1 dX2_readsOrder_0 rfl (lv_at hl 0 rfl) ?_
  refine lv_bipush (v := (116 : Int32)) hM.1 hM.2.1 dX2_readsOrder_1 (by decide) ?_
  refine cVi (As := [.int (116 : Int32)]) hM hK hX hA (met_X2_takesSign l D ad cy S (116 : Int32) hq) (kX2_takesSign hM.2.2.2.2 ql_RX2_32 (Nat.le_of_ble_eq_true rfl) (Nat.le_of_ble_eq_true rfl)) (v2 hK hX m2) rfl hl.1 rfl (Nat.le_of_ble_eq_true rfl) dX2_readsOrder_3 ⟨Nat.zero_le _, Nat.zero_le _⟩ (fun S_1 r_2 hq H locs hX => ?_)
  refine lv_if_eq (tgt := 54) hM.1 hM.2.1 dX2_readsOrder_6 (by decide) (fun c_3 => ?_) (fun c_3 => ?_)
  · replace hq := hq.1 c_3
    refine lv_aload_n hM.1 hM.2.1 dX2_readsOrder_54 rfl (lv_at hl 0 rfl) ?_
    refine lv_bipush (v := (104 : Int32)) hM.1 hM.2.1 dX2_readsOrder_55 (by decide) ?_
    refine cVi (As := [.int (104 : Int32)]) hM hK hX hA (met_X2_takesSign l D ad cy S_1 (104 : Int32) hq) (kX2_takesSign hM.2.2.2.2 ql_RX2_32 (Nat.le_of_ble_eq_true rfl) (Nat.le_of_ble_eq_true rfl)) (v2 hK hX m2) rfl hl.1 rfl (Nat.le_of_ble_eq_true rfl) dX2_readsOrder_57 ⟨Nat.zero_le _, Nat.zero_le _⟩ (fun S_4 r_5 hq H locs hX => ?_)
    refine lv_if_eq (tgt := 73) hM.1 hM.2.1 dX2_readsOrder_60 (by decide) (fun c_6 => ?_) (fun c_6 => ?_)
    · replace hq := hq.1 c_6
      refine lv_aload_n hM.1 hM.2.1 dX2_readsOrder_73 rfl (lv_at hl 0 rfl) ?_
      refine lv_bipush (v := (112 : Int32)) hM.1 hM.2.1 dX2_readsOrder_74 (by decide) ?_
      refine cVi (As := [.int (112 : Int32)]) hM hK hX hA (met_X2_takesSign l D ad cy S_4 (112 : Int32) hq) (kX2_takesSign hM.2.2.2.2 ql_RX2_32 (Nat.le_of_ble_eq_true rfl) (Nat.le_of_ble_eq_true rfl)) (v2 hK hX m2) rfl hl.1 rfl (Nat.le_of_ble_eq_true rfl) dX2_readsOrder_76 ⟨Nat.zero_le _, Nat.zero_le _⟩ (fun S_7 r_8 hq H locs hX => ?_)
      refine lv_if_eq (tgt := 120) hM.1 hM.2.1 dX2_readsOrder_79 (by decide) (fun c_9 => ?_) (fun c_9 => ?_)
      · replace hq := hq.1 c_9
        refine lv_aload_n hM.1 hM.2.1 dX2_readsOrder_120 rfl (lv_at hl 0 rfl) ?_
        refine lv_iconst (v := (3 : Int32)) hM.1 hM.2.1 dX2_readsOrder_121 (by decide) ?_
        refine p2_4 hM hK hX m2 qf_RX2_36 dX2_readsOrder_122 (fun S_10 e_11 H locs hX => ?_)
        replace hq := hq S_10 e_11
        refine lv_aload_n hM.1 hM.2.1 dX2_readsOrder_125 rfl (lv_at hl 0 rfl) ?_
        refine lv_bipush (v := (99 : Int32)) hM.1 hM.2.1 dX2_readsOrder_126 (by decide) ?_
        refine cVi (As := [.int (99 : Int32)]) hM hK hX hA (met_X2_takesSign l D ad cy S_10 (99 : Int32) hq) (kX2_takesSign hM.2.2.2.2 ql_RX2_32 (Nat.le_of_ble_eq_true rfl) (Nat.le_of_ble_eq_true rfl)) (v2 hK hX m2) rfl hl.1 rfl (Nat.le_of_ble_eq_true rfl) dX2_readsOrder_128 ⟨Nat.zero_le _, Nat.zero_le _⟩ (fun S_12 r_13 hq H locs hX => ?_)
        refine lv_if_eq (tgt := 149) hM.1 hM.2.1 dX2_readsOrder_131 (by decide) (fun c_14 => ?_) (fun c_14 => ?_)
        · replace hq := hq.1 c_14
          refine lv_iconst (v := (0 : Int32)) hM.1 hM.2.1 dX2_readsOrder_149 (by decide) ?_
          exact e_z hM hX hlocks hret rfl hq dX2_readsOrder_150
        replace hq := hq.2 c_14
        refine lv_aload_n hM.1 hM.2.1 dX2_readsOrder_134 rfl (lv_at hl 0 rfl) ?_
        refine lv_bipush (v := (48 : Int32)) hM.1 hM.2.1 dX2_readsOrder_135 (by decide) ?_
        refine lv_bipush (v := (57 : Int32)) hM.1 hM.2.1 dX2_readsOrder_137 (by decide) ?_
        refine cVi (As := [.int (48 : Int32), .int (57 : Int32)]) hM hK hX hA (met_X2_readsNumber l D ad cy S_12 (48 : Int32) (57 : Int32) hq) (kX2_readsNumber hM.2.2.2.2 ql_RX2_42 (Nat.le_of_ble_eq_true rfl) (Nat.le_of_ble_eq_true rfl)) (v2 hK hX m2) rfl hl.1 rfl (Nat.le_of_ble_eq_true rfl) dX2_readsOrder_139 ⟨Nat.zero_le _, Nat.zero_le _⟩ (fun S_15 r_16 hq H locs hX => ?_)
        refine lv_if_eq (tgt := 149) hM.1 hM.2.1 dX2_readsOrder_142 (by decide) (fun c_17 => ?_) (fun c_17 => ?_)
        · replace hq := hq.1 c_17
          refine lv_iconst (v := (0 : Int32)) hM.1 hM.2.1 dX2_readsOrder_149 (by decide) ?_
          exact e_z hM hX hlocks hret rfl hq dX2_readsOrder_150
        replace hq := hq.2 c_17
        refine lv_iconst (v := (1 : Int32)) hM.1 hM.2.1 dX2_readsOrder_145 (by decide) ?_
        refine lv_goto (tgt := 150) hM.1 hM.2.1 dX2_readsOrder_146 (by decide) ?_
        exact e_z hM hX hlocks hret rfl hq dX2_readsOrder_150
      replace hq := hq.2 c_9
      refine lv_aload_n hM.1 hM.2.1 dX2_readsOrder_82 rfl (lv_at hl 0 rfl) ?_
      refine lv_iconst (v := (2 : Int32)) hM.1 hM.2.1 dX2_readsOrder_83 (by decide) ?_
      refine p2_4 hM hK hX m2 qf_RX2_36 dX2_readsOrder_84 (fun S_18 e_19 H locs hX => ?_)
      replace hq := hq S_18 e_19
      refine lv_aload_n hM.1 hM.2.1 dX2_readsOrder_87 rfl (lv_at hl 0 rfl) ?_
      refine cVi (As := []) hM hK hX hA (met_X2_readsRow l D ad cy S_18 hq) (kX2_readsRow hM.2.2.2.2 ql_RX2_39 (Nat.le_of_ble_eq_true rfl) (Nat.le_of_ble_eq_true rfl)) (v2 hK hX m2) rfl hl.1 rfl (Nat.le_of_ble_eq_true rfl) dX2_readsOrder_88 ⟨Nat.zero_le _, Nat.zero_le _⟩ (fun S_20 r_21 hq H locs hX => ?_)
      refine lv_if_eq (tgt := 118) hM.1 hM.2.1 dX2_readsOrder_91 (by decide) (fun c_22 => ?_) (fun c_22 => ?_)
      · replace hq := hq.1 c_22
        refine lv_iconst (v := (0 : Int32)) hM.1 hM.2.1 dX2_readsOrder_118 (by decide) ?_
        exact e_z hM hX hlocks hret rfl hq dX2_readsOrder_119
      replace hq := hq.2 c_22
      refine lv_aload_n hM.1 hM.2.1 dX2_readsOrder_94 rfl (lv_at hl 0 rfl) ?_
      refine lv_bipush (v := (47 : Int32)) hM.1 hM.2.1 dX2_readsOrder_95 (by decide) ?_
      refine cVi (As := [.int (47 : Int32)]) hM hK hX hA (met_X2_takesSign l D ad cy S_20 (47 : Int32) hq) (kX2_takesSign hM.2.2.2.2 ql_RX2_32 (Nat.le_of_ble_eq_true rfl) (Nat.le_of_ble_eq_true rfl)) (v2 hK hX m2) rfl hl.1 rfl (Nat.le_of_ble_eq_true rfl) dX2_readsOrder_97 ⟨Nat.zero_le _, Nat.zero_le _⟩ (fun S_23 r_24 hq H locs hX => ?_)
      refine lv_if_eq (tgt := 118) hM.1 hM.2.1 dX2_readsOrder_100 (by decide) (fun c_25 => ?_) (fun c_25 => ?_)
      · replace hq := hq.1 c_25
        refine lv_iconst (v := (0 : Int32)) hM.1 hM.2.1 dX2_readsOrder_118 (by decide) ?_
        exact e_z hM hX hlocks hret rfl hq dX2_readsOrder_119
      replace hq := hq.2 c_25
      refine lv_aload_n hM.1 hM.2.1 dX2_readsOrder_103 rfl (lv_at hl 0 rfl) ?_
      refine lv_bipush (v := (49 : Int32)) hM.1 hM.2.1 dX2_readsOrder_104 (by decide) ?_
      refine lv_bipush (v := (54 : Int32)) hM.1 hM.2.1 dX2_readsOrder_106 (by decide) ?_
      refine cVi (As := [.int (49 : Int32), .int (54 : Int32)]) hM hK hX hA (met_X2_readsNumber l D ad cy S_23 (49 : Int32) (54 : Int32) hq) (kX2_readsNumber hM.2.2.2.2 ql_RX2_42 (Nat.le_of_ble_eq_true rfl) (Nat.le_of_ble_eq_true rfl)) (v2 hK hX m2) rfl hl.1 rfl (Nat.le_of_ble_eq_true rfl) dX2_readsOrder_108 ⟨Nat.zero_le _, Nat.zero_le _⟩ (fun S_26 r_27 hq H locs hX => ?_)
      refine lv_if_eq (tgt := 118) hM.1 hM.2.1 dX2_readsOrder_111 (by decide) (fun c_28 => ?_) (fun c_28 => ?_)
      · replace hq := hq.1 c_28
        refine lv_iconst (v := (0 : Int32)) hM.1 hM.2.1 dX2_readsOrder_118 (by decide) ?_
        exact e_z hM hX hlocks hret rfl hq dX2_readsOrder_119
      replace hq := hq.2 c_28
      refine lv_iconst (v := (1 : Int32)) hM.1 hM.2.1 dX2_readsOrder_114 (by decide) ?_
      refine lv_goto (tgt := 119) hM.1 hM.2.1 dX2_readsOrder_115 (by decide) ?_
      exact e_z hM hX hlocks hret rfl hq dX2_readsOrder_119
    replace hq := hq.2 c_6
    refine lv_aload_n hM.1 hM.2.1 dX2_readsOrder_63 rfl (lv_at hl 0 rfl) ?_
    refine lv_iconst (v := (1 : Int32)) hM.1 hM.2.1 dX2_readsOrder_64 (by decide) ?_
    refine p2_4 hM hK hX m2 qf_RX2_36 dX2_readsOrder_65 (fun S_29 e_30 H locs hX => ?_)
    replace hq := hq S_29 e_30
    refine lv_aload_n hM.1 hM.2.1 dX2_readsOrder_68 rfl (lv_at hl 0 rfl) ?_
    refine cVi (As := []) hM hK hX hA (met_X2_readsDegrees l D ad cy S_29 hq) (kX2_readsDegrees hM.2.2.2.2 ql_RX2_49 (Nat.le_of_ble_eq_true rfl) (Nat.le_of_ble_eq_true rfl)) (v2 hK hX m2) rfl hl.1 rfl (Nat.le_of_ble_eq_true rfl) dX2_readsOrder_69 ⟨Nat.zero_le _, Nat.zero_le _⟩ (fun S_31 r_32 hq H locs hX => ?_)
    exact e_z hM hX hlocks hret (nar_z hq.1).1 hq.2 dX2_readsOrder_72
  replace hq := hq.2 c_3
  refine lv_aload_n hM.1 hM.2.1 dX2_readsOrder_9 rfl (lv_at hl 0 rfl) ?_
  refine lv_iconst (v := (0 : Int32)) hM.1 hM.2.1 dX2_readsOrder_10 (by decide) ?_
  refine p2_4 hM hK hX m2 qf_RX2_36 dX2_readsOrder_11 (fun S_33 e_34 H locs hX => ?_)
  replace hq := hq S_33 e_34
  refine lv_aload_n hM.1 hM.2.1 dX2_readsOrder_14 rfl (lv_at hl 0 rfl) ?_
  refine cVi (As := []) hM hK hX hA (met_X2_readsRow l D ad cy S_33 hq) (kX2_readsRow hM.2.2.2.2 ql_RX2_39 (Nat.le_of_ble_eq_true rfl) (Nat.le_of_ble_eq_true rfl)) (v2 hK hX m2) rfl hl.1 rfl (Nat.le_of_ble_eq_true rfl) dX2_readsOrder_15 ⟨Nat.zero_le _, Nat.zero_le _⟩ (fun S_35 r_36 hq H locs hX => ?_)
  refine lv_if_eq (tgt := 52) hM.1 hM.2.1 dX2_readsOrder_18 (by decide) (fun c_37 => ?_) (fun c_37 => ?_)
  · replace hq := hq.1 c_37
    refine lv_iconst (v := (0 : Int32)) hM.1 hM.2.1 dX2_readsOrder_52 (by decide) ?_
    exact e_z hM hX hlocks hret rfl hq dX2_readsOrder_53
  replace hq := hq.2 c_37
  refine lv_aload_n hM.1 hM.2.1 dX2_readsOrder_21 rfl (lv_at hl 0 rfl) ?_
  refine lv_bipush (v := (44 : Int32)) hM.1 hM.2.1 dX2_readsOrder_22 (by decide) ?_
  refine cVi (As := [.int (44 : Int32)]) hM hK hX hA (met_X2_takesSign l D ad cy S_35 (44 : Int32) hq) (kX2_takesSign hM.2.2.2.2 ql_RX2_32 (Nat.le_of_ble_eq_true rfl) (Nat.le_of_ble_eq_true rfl)) (v2 hK hX m2) rfl hl.1 rfl (Nat.le_of_ble_eq_true rfl) dX2_readsOrder_24 ⟨Nat.zero_le _, Nat.zero_le _⟩ (fun S_38 r_39 hq H locs hX => ?_)
  refine lv_if_eq (tgt := 52) hM.1 hM.2.1 dX2_readsOrder_27 (by decide) (fun c_40 => ?_) (fun c_40 => ?_)
  · replace hq := hq.1 c_40
    refine lv_iconst (v := (0 : Int32)) hM.1 hM.2.1 dX2_readsOrder_52 (by decide) ?_
    exact e_z hM hX hlocks hret rfl hq dX2_readsOrder_53
  replace hq := hq.2 c_40
  refine lv_aload_n hM.1 hM.2.1 dX2_readsOrder_30 rfl (lv_at hl 0 rfl) ?_
  refine lv_bipush (v := (49 : Int32)) hM.1 hM.2.1 dX2_readsOrder_31 (by decide) ?_
  refine lv_bipush (v := (57 : Int32)) hM.1 hM.2.1 dX2_readsOrder_33 (by decide) ?_
  refine cVi (As := [.int (49 : Int32), .int (57 : Int32)]) hM hK hX hA (met_X2_readsNumber l D ad cy S_38 (49 : Int32) (57 : Int32) hq) (kX2_readsNumber hM.2.2.2.2 ql_RX2_42 (Nat.le_of_ble_eq_true rfl) (Nat.le_of_ble_eq_true rfl)) (v2 hK hX m2) rfl hl.1 rfl (Nat.le_of_ble_eq_true rfl) dX2_readsOrder_35 ⟨Nat.zero_le _, Nat.zero_le _⟩ (fun S_41 r_42 hq H locs hX => ?_)
  refine lv_if_eq (tgt := 52) hM.1 hM.2.1 dX2_readsOrder_38 (by decide) (fun c_43 => ?_) (fun c_43 => ?_)
  · replace hq := hq.1 c_43
    refine lv_iconst (v := (0 : Int32)) hM.1 hM.2.1 dX2_readsOrder_52 (by decide) ?_
    exact e_z hM hX hlocks hret rfl hq dX2_readsOrder_53
  replace hq := hq.2 c_43
  refine lv_aload_n hM.1 hM.2.1 dX2_readsOrder_41 rfl (lv_at hl 0 rfl) ?_
  refine cVi (As := []) hM hK hX hA (met_X2_readsWeight l D ad cy S_41 hq) (kX2_readsWeight hM.2.2.2.2 ql_RX2_46 (Nat.le_of_ble_eq_true rfl) (Nat.le_of_ble_eq_true rfl)) (v2 hK hX m2) rfl hl.1 rfl (Nat.le_of_ble_eq_true rfl) dX2_readsOrder_42 ⟨Nat.zero_le _, Nat.zero_le _⟩ (fun S_44 r_45 hq H locs hX => ?_)
  refine lv_if_eq (tgt := 52) hM.1 hM.2.1 dX2_readsOrder_45 (by decide) (fun c_46 => ?_) (fun c_46 => ?_)
  · replace hq := hq.1 c_46
    refine lv_iconst (v := (0 : Int32)) hM.1 hM.2.1 dX2_readsOrder_52 (by decide) ?_
    exact e_z hM hX hlocks hret rfl hq dX2_readsOrder_53
  replace hq := hq.2 c_46
  refine lv_iconst (v := (1 : Int32)) hM.1 hM.2.1 dX2_readsOrder_48 (by decide) ?_
  refine lv_goto (tgt := 53) hM.1 hM.2.1 dX2_readsOrder_49 (by decide) ?_
  exact e_z hM hX hlocks hret rfl hq dX2_readsOrder_53
def rmX2_readsAll : Room := { frames := 4, cells := 0, slots := 0, locals := 87 }
theorem kX2_readsAll {R : Room} {s : State} {args : Array Value} {own : String} {index : Nat} (ht : ∀ w ∈ lw_all, w.before args s = true) (hl : Cond.methodLink own index yX2_readsAll ∈ lw_all) (hf : rmX2_readsAll.frames + 1 ≤ R.frames) (hlo : 8 + (2 + 11) + rmX2_readsAll.locals ≤ R.locals) : CallW R s args own RX2 index yX2_readsAll cX2_readsAll 2 (some Jvm.ClassFile.FieldType.boolean) (wA yX2_readsAll cX2_readsAll 2 (some Jvm.ClassFile.FieldType.boolean)) rmX2_readsAll 0 0 0 := cwV 0 ht (good_V hl qm_yX2_readsAll qs_yX2_readsAll qi_RX2 qc_yX2_readsAll) rfl rfl rfl (by decide +kernel) ⟨hf, hlo⟩
set_option maxRecDepth 100000 in
set_option maxHeartbeats 4000000 in
theorem met_X2_readsAll (l : Launch) (D : va_G) (ad : Adr) (cy : Nat → ClassId) (S : Mem) {Q : Mem → Int32 → Prop} (hq : vc_X2_readsAll S Q) : Ci l yX2_readsAll (wA yX2_readsAll cX2_readsAll 2 (some Jvm.ClassFile.FieldType.boolean)) rmX2_readsAll D ad cy [.ref (ad 2 0 0)] S Q := by
  intro o sz
  refine mkC (own := RX2) (lv := [(0, .ref (ad 2 0 0))]) (by decide) rfl (Nat.le_of_ble_eq_true rfl) rfl ⟨rfl, rfl⟩ ?_
  intro p e s m below meth c ls hsz hM hlocks hret hK hA hX hl
  have L6 : ∀ {K : Mem → Prop} (hk : ∀ (S : Mem), K S → ∀ (H : Heap) (locs : List Loc) (ls : Array Slot), PW D ad cy (AW ad sz) s.heap o S H locs → lv_has ls 2 [] → Wi D ad cy o sz Q p l e rmX2_readsAll s m [.ref (ad 2 0 0)] below meth c H locs (F0 m 51 ls [])), ∀ (n : Nat) (S : Mem) (y1 : Int32), vc_X2_readsAll_L6 Q K n S y1 → ∀ (H : Heap) (locs : List Loc) (ls : Array Slot), PW D ad cy (AW ad sz) s.heap o S H locs → lv_has ls 2 [(0, .ref (ad 2 0 0)), (1, .int y1)] → Wi D ad cy o sz Q p l e rmX2_readsAll s m [.ref (ad 2 0 0)] below meth c H locs (F0 m 6 ls []) := by
    intro K hk n
    induction n with
    | zero =>
      intro S y1 hq
      rw [vc_X2_readsAll_L6] at hq
      exact hq.elim
    | succ n ih =>
      intro S y1 hq H locs ls hX hl
      rw [vc_X2_readsAll_L6] at hq
      refine lv_iload_n hM.1 hM.2.1 dX2_readsAll_6 rfl (lv_at hl 1 rfl) ?_
      refine lv_bipush (v := (60 : Int32)) hM.1 hM.2.1 dX2_readsAll_7 (by decide) ?_
      refine lv_icmp_ge (tgt := 51) hM.1 hM.2.1 dX2_readsAll_9 (by decide) (fun c_2 => ?_) (fun c_2 => ?_)
      · replace hq := hq.1 c_2
        exact hk S hq _ _ _ hX (lv_sub hl [] rfl)
      replace hq := hq.2 c_2
      refine lv_aload_n hM.1 hM.2.1 dX2_readsAll_12 rfl (lv_at hl 0 rfl) ?_
      refine cVi (As := []) hM hK hX hA (met_X2_readsOrder l D ad cy S hq) (kX2_readsOrder hM.2.2.2.2 ql_RX2_29 (Nat.le_of_ble_eq_true rfl) (Nat.le_of_ble_eq_true rfl)) (v2 hK hX m2) rfl hl.1 rfl (Nat.le_of_ble_eq_true rfl) dX2_readsAll_13 ⟨Nat.zero_le _, Nat.zero_le _⟩ (fun S_3 r_4 hq H locs hX => ?_)
      refine lv_if_ne (tgt := 21) hM.1 hM.2.1 dX2_readsAll_16 (by decide) (fun c_5 => ?_) (fun c_5 => ?_)
      · replace hq := hq.1 c_5
        refine lv_aload_n hM.1 hM.2.1 dX2_readsAll_21 rfl (lv_at hl 0 rfl) ?_
        refine g2 hM hK hX m2 1 (by decide) qf_RX2_19 rfl dX2_readsAll_22 ?_
        refine lv_aload_n hM.1 hM.2.1 dX2_readsAll_25 rfl (lv_at hl 0 rfl) ?_
        refine g2 hM hK hX m2 3 (by decide) qf_RX2_15 rfl dX2_readsAll_26 ?_
        refine lv_icmp_ne (tgt := 34) hM.1 hM.2.1 dX2_readsAll_29 (by decide) (fun c_6 => ?_) (fun c_6 => ?_)
        · replace hq := hq.1 c_6
          refine lv_aload_n hM.1 hM.2.1 dX2_readsAll_34 rfl (lv_at hl 0 rfl) ?_
          refine lv_bipush (v := (59 : Int32)) hM.1 hM.2.1 dX2_readsAll_35 (by decide) ?_
          refine cVi (As := [.int (59 : Int32)]) hM hK hX hA (met_X2_takesSign l D ad cy S_3 (59 : Int32) hq) (kX2_takesSign hM.2.2.2.2 ql_RX2_32 (Nat.le_of_ble_eq_true rfl) (Nat.le_of_ble_eq_true rfl)) (v2 hK hX m2) rfl hl.1 rfl (Nat.le_of_ble_eq_true rfl) dX2_readsAll_37 ⟨Nat.zero_le _, Nat.zero_le _⟩ (fun S_7 r_8 hq H locs hX => ?_)
          refine lv_if_ne (tgt := 45) hM.1 hM.2.1 dX2_readsAll_40 (by decide) (fun c_9 => ?_) (fun c_9 => ?_)
          · replace hq := hq.1 c_9
            refine lv_iinc (v := (y1 + (1 : Int32))) (lv' := [(1, .int (y1 + (1 : Int32))), (0, .ref (ad 2 0 0))]) hM.1 hM.2.1 dX2_readsAll_45 hl (k := 1) rfl rfl (by decide) rfl (fun ls hl => ?_)
            refine lv_goto (tgt := 6) hM.1 hM.2.1 dX2_readsAll_48 (by decide) ?_
            exact ih S_7 (y1 + (1 : Int32)) hq _ _ _ hX (lv_sub hl [1, 0] rfl)
          replace hq := hq.2 c_9
          refine lv_iconst (v := (0 : Int32)) hM.1 hM.2.1 dX2_readsAll_43 (by decide) ?_
          exact e_z hM hX hlocks hret rfl hq dX2_readsAll_44
        replace hq := hq.2 c_6
        refine lv_iconst (v := (1 : Int32)) hM.1 hM.2.1 dX2_readsAll_32 (by decide) ?_
        exact e_z hM hX hlocks hret rfl hq dX2_readsAll_33
      replace hq := hq.2 c_5
      refine lv_iconst (v := (0 : Int32)) hM.1 hM.2.1 dX2_readsAll_19 (by decide) ?_
      exact e_z hM hX hlocks hret rfl hq dX2_readsAll_20
  unfold vc_X2_readsAll at hq
  refine lv_aload_n hM.1 hM.2.1 dX2_readsAll_0 rfl (lv_at hl 0 rfl) ?_
  refine cVv (As := []) hM hK hX hA (met_X2_goToStart l D ad cy S hq) (kX2_goToStart hM.2.2.2.2 ql_RX2_26 (Nat.le_of_ble_eq_true rfl) (Nat.le_of_ble_eq_true rfl)) (v2 hK hX m2) rfl hl.1 rfl (Nat.le_of_ble_eq_true rfl) dX2_readsAll_1 ⟨Nat.zero_le _, Nat.zero_le _⟩ (fun S_1 hq H locs hX => ?_)
  refine lv_iconst (v := (0 : Int32)) hM.1 hM.2.1 dX2_readsAll_4 (by decide) ?_
  refine lv_istore_n (lv' := [(1, .int (0 : Int32)), (0, .ref (ad 2 0 0))]) hM.1 hM.2.1 dX2_readsAll_5 rfl hl (by decide) rfl (fun ls hl => ?_)
  obtain ⟨k0, hq⟩ := hq
  refine L6 (fun S_10 hq H locs ls hX hl => ?_) k0 S_1 (0 : Int32) hq _ _ _ hX (lv_sub hl [1, 0] rfl)
  refine lv_iconst (v := (0 : Int32)) hM.1 hM.2.1 dX2_readsAll_51 (by decide) ?_
  exact e_z hM hX hlocks hret rfl hq dX2_readsAll_52
def rmX2_isComplete : Room := { frames := 5, cells := 0, slots := 0, locals := 108 }
theorem kX2_isComplete {R : Room} {s : State} {args : Array Value} {own : String} {index : Nat} (ht : ∀ w ∈ lw_all, w.before args s = true) (hl : Cond.methodLink own index yX2_isComplete ∈ lw_all) (hf : rmX2_isComplete.frames + 1 ≤ R.frames) (hlo : 8 + (1 + 11) + rmX2_isComplete.locals ≤ R.locals) : CallW R s args own RX2 index yX2_isComplete cX2_isComplete 1 (some Jvm.ClassFile.FieldType.boolean) (wA yX2_isComplete cX2_isComplete 1 (some Jvm.ClassFile.FieldType.boolean)) rmX2_isComplete 0 0 0 := cwV 0 ht (good_V hl qm_yX2_isComplete qs_yX2_isComplete qi_RX2 qc_yX2_isComplete) rfl rfl rfl (by decide +kernel) ⟨hf, hlo⟩
set_option maxRecDepth 100000 in
set_option maxHeartbeats 4000000 in
theorem met_X2_isComplete (l : Launch) (D : va_G) (ad : Adr) (cy : Nat → ClassId) (S : Mem) {Q : Mem → Int32 → Prop} (hq : vc_X2_isComplete S Q) : Ci l yX2_isComplete (wA yX2_isComplete cX2_isComplete 1 (some Jvm.ClassFile.FieldType.boolean)) rmX2_isComplete D ad cy [.ref (ad 2 0 0)] S Q := by
  intro o sz
  refine mkC (own := RX2) (lv := [(0, .ref (ad 2 0 0))]) (by decide) rfl (Nat.le_of_ble_eq_true rfl) rfl ⟨rfl, rfl⟩ ?_
  intro p e s m below meth c ls hsz hM hlocks hret hK hA hX hl
  unfold vc_X2_isComplete at hq
  refine lv_aload_n hM.1 hM.2.1 dX2_isComplete_0 rfl (lv_at hl 0 rfl) ?_
  refine cVi (As := []) hM hK hX hA (met_X2_readsAll l D ad cy S hq) (kX2_readsAll hM.2.2.2.2 ql_RX2_22 (Nat.le_of_ble_eq_true rfl) (Nat.le_of_ble_eq_true rfl)) (v2 hK hX m2) rfl hl.1 rfl (Nat.le_of_ble_eq_true rfl) dX2_isComplete_1 ⟨Nat.zero_le _, Nat.zero_le _⟩ (fun S_1 r_2 hq H locs hX => ?_)
  exact e_z hM hX hlocks hret (nar_z hq.1).1 hq.2 dX2_isComplete_4
def rmX2_indexOfError : Room := { frames := 5, cells := 0, slots := 0, locals := 108 }
theorem kX2_indexOfError {R : Room} {s : State} {args : Array Value} {own : String} {index : Nat} (ht : ∀ w ∈ lw_all, w.before args s = true) (hl : Cond.methodLink own index yX2_indexOfError ∈ lw_all) (hf : rmX2_indexOfError.frames + 1 ≤ R.frames) (hlo : 8 + (1 + 11) + rmX2_indexOfError.locals ≤ R.locals) : CallW R s args own RX2 index yX2_indexOfError cX2_indexOfError 1 (some Jvm.ClassFile.FieldType.int) (wA yX2_indexOfError cX2_indexOfError 1 (some Jvm.ClassFile.FieldType.int)) rmX2_indexOfError 0 0 0 := cwV 0 ht (good_V hl qm_yX2_indexOfError qs_yX2_indexOfError qi_RX2 qc_yX2_indexOfError) rfl rfl rfl (by decide +kernel) ⟨hf, hlo⟩
set_option maxRecDepth 100000 in
set_option maxHeartbeats 4000000 in
theorem met_X2_indexOfError (l : Launch) (D : va_G) (ad : Adr) (cy : Nat → ClassId) (S : Mem) {Q : Mem → Int32 → Prop} (hq : vc_X2_indexOfError S Q) : Ci l yX2_indexOfError (wA yX2_indexOfError cX2_indexOfError 1 (some Jvm.ClassFile.FieldType.int)) rmX2_indexOfError D ad cy [.ref (ad 2 0 0)] S Q := by
  intro o sz
  refine mkC (own := RX2) (lv := [(0, .ref (ad 2 0 0))]) (by decide) rfl (Nat.le_of_ble_eq_true rfl) rfl ⟨rfl, rfl⟩ ?_
  intro p e s m below meth c ls hsz hM hlocks hret hK hA hX hl
  unfold vc_X2_indexOfError at hq
  refine lv_aload_n hM.1 hM.2.1 dX2_indexOfError_0 rfl (lv_at hl 0 rfl) ?_
  refine cVi (As := []) hM hK hX hA (met_X2_readsAll l D ad cy S hq) (kX2_readsAll hM.2.2.2.2 ql_RX2_22 (Nat.le_of_ble_eq_true rfl) (Nat.le_of_ble_eq_true rfl)) (v2 hK hX m2) rfl hl.1 rfl (Nat.le_of_ble_eq_true rfl) dX2_indexOfError_1 ⟨Nat.zero_le _, Nat.zero_le _⟩ (fun S_1 r_2 hq H locs hX => ?_)
  refine lv_pop hM.1 hM.2.1 dX2_indexOfError_4 rfl ?_
  refine lv_aload_n hM.1 hM.2.1 dX2_indexOfError_5 rfl (lv_at hl 0 rfl) ?_
  refine g2 hM hK hX m2 1 (by decide) qf_RX2_19 rfl dX2_indexOfError_6 ?_
  exact e_i hM hX hlocks hret hq dX2_indexOfError_9
def rmX2_readNextOrder : Room := { frames := 4, cells := 0, slots := 0, locals := 87 }
theorem kX2_readNextOrder {R : Room} {s : State} {args : Array Value} {own : String} {index : Nat} (ht : ∀ w ∈ lw_all, w.before args s = true) (hl : Cond.methodLink own index yX2_readNextOrder ∈ lw_all) (hf : rmX2_readNextOrder.frames + 1 ≤ R.frames) (hlo : 8 + (2 + 11) + rmX2_readNextOrder.locals ≤ R.locals) : CallW R s args own RX2 index yX2_readNextOrder cX2_readNextOrder 2 (some Jvm.ClassFile.FieldType.boolean) (wA yX2_readNextOrder cX2_readNextOrder 2 (some Jvm.ClassFile.FieldType.boolean)) rmX2_readNextOrder 0 0 0 := cwV 0 ht (good_V hl qm_yX2_readNextOrder qs_yX2_readNextOrder qi_RX2 qc_yX2_readNextOrder) rfl rfl rfl (by decide +kernel) ⟨hf, hlo⟩
set_option maxRecDepth 100000 in
set_option maxHeartbeats 4000000 in
theorem met_X2_readNextOrder (l : Launch) (D : va_G) (ad : Adr) (cy : Nat → ClassId) (S : Mem) {Q : Mem → Int32 → Prop} (hq : vc_X2_readNextOrder S Q) : Ci l yX2_readNextOrder (wA yX2_readNextOrder cX2_readNextOrder 2 (some Jvm.ClassFile.FieldType.boolean)) rmX2_readNextOrder D ad cy [.ref (ad 2 0 0)] S Q := by
  intro o sz
  refine mkC (own := RX2) (lv := [(0, .ref (ad 2 0 0))]) (by decide) rfl (Nat.le_of_ble_eq_true rfl) rfl ⟨rfl, rfl⟩ ?_
  intro p e s m below meth c ls hsz hM hlocks hret hK hA hX hl
  unfold vc_X2_readNextOrder at hq
  refine lv_aload_n hM.1 hM.2.1 dX2_readNextOrder_0 rfl (lv_at hl 0 rfl) ?_
  refine cVi (As := []) hM hK hX hA (met_X2_readsOrder l D ad cy S hq) (kX2_readsOrder hM.2.2.2.2 ql_RX2_29 (Nat.le_of_ble_eq_true rfl) (Nat.le_of_ble_eq_true rfl)) (v2 hK hX m2) rfl hl.1 rfl (Nat.le_of_ble_eq_true rfl) dX2_readNextOrder_1 ⟨Nat.zero_le _, Nat.zero_le _⟩ (fun S_1 r_2 hq H locs hX => ?_)
  refine lv_istore_n (lv' := [(1, .int r_2), (0, .ref (ad 2 0 0))]) hM.1 hM.2.1 dX2_readNextOrder_4 rfl hl (by decide) rfl (fun ls hl => ?_)
  refine lv_aload_n hM.1 hM.2.1 dX2_readNextOrder_5 rfl (lv_at hl 1 rfl) ?_
  refine lv_bipush (v := (59 : Int32)) hM.1 hM.2.1 dX2_readNextOrder_6 (by decide) ?_
  refine cVi (As := [.int (59 : Int32)]) hM hK hX hA (met_X2_takesSign l D ad cy S_1 (59 : Int32) hq) (kX2_takesSign hM.2.2.2.2 ql_RX2_32 (Nat.le_of_ble_eq_true rfl) (Nat.le_of_ble_eq_true rfl)) (v2 hK hX m2) rfl hl.1 rfl (Nat.le_of_ble_eq_true rfl) dX2_readNextOrder_8 ⟨Nat.zero_le _, Nat.zero_le _⟩ (fun S_3 r_4 hq H locs hX => ?_)
  refine lv_pop hM.1 hM.2.1 dX2_readNextOrder_11 rfl ?_
  refine lv_iload_n hM.1 hM.2.1 dX2_readNextOrder_12 rfl (lv_at hl 0 rfl) ?_
  exact e_z hM hX hlocks hret (nar_z hq.1).1 hq.2 dX2_readNextOrder_13
def rmX3_has : Room := { frames := 0, cells := 0, slots := 0, locals := 0 }
theorem kX3_has {R : Room} {s : State} {args : Array Value} {own : String} {index : Nat} (ht : ∀ w ∈ lw_all, w.before args s = true) (hl : Cond.methodLink own index yX3_has ∈ lw_all) (hf : rmX3_has.frames + 1 ≤ R.frames) (hlo : 8 + (2 + 11) + rmX3_has.locals ≤ R.locals) : CallW R s args own RX3 index yX3_has cX3_has 2 (some Jvm.ClassFile.FieldType.boolean) (wA yX3_has cX3_has 2 (some Jvm.ClassFile.FieldType.boolean)) rmX3_has 0 0 1 := cwV 1 ht (good_V hl qm_yX3_has qs_yX3_has qi_RX3 qc_yX3_has) rfl rfl rfl (by decide +kernel) ⟨hf, hlo⟩
set_option maxRecDepth 100000 in
set_option maxHeartbeats 4000000 in
theorem met_X3_has (l : Launch) (D : va_G) (ad : Adr) (cy : Nat → ClassId) (S : Mem) (P : Nat) (x1 : Int32) {Q : Mem → Int32 → Prop} (hv : P < 11) (hq : vc_X3_has S P x1 Q) : Ci l yX3_has (wA yX3_has cX3_has 2 (some Jvm.ClassFile.FieldType.boolean)) rmX3_has D ad cy [.ref (ad 3 P 0), .int x1] S Q := by
  intro o sz
  refine mkC (own := RX3) (lv := [(0, .ref (ad 3 P 0)), (1, .int x1)]) (by decide) rfl (Nat.le_of_ble_eq_true rfl) rfl ⟨rfl, rfl⟩ ?_
  intro p e s m below meth c ls hsz hM hlocks hret hK hA hX hl
  unfold vc_X3_has at hq
  refine lv_iload_n hM.1 hM.2.1 dX3_has_0 rfl (lv_at hl 1 rfl) ?_
  refine lv_if_lt (tgt := 16) hM.1 hM.2.1 dX3_has_1 (by decide) (fun c_1 => ?_) (fun c_1 => ?_)
  · replace hq := hq.1 c_1
    refine lv_iconst (v := (0 : Int32)) hM.1 hM.2.1 dX3_has_16 (by decide) ?_
    exact e_z hM hX hlocks hret rfl hq dX3_has_17
  replace hq := hq.2 c_1
  refine lv_iload_n hM.1 hM.2.1 dX3_has_4 rfl (lv_at hl 1 rfl) ?_
  refine lv_aload_n hM.1 hM.2.1 dX3_has_5 rfl (lv_at hl 0 rfl) ?_
  refine g3 hM hK hX (id_P hv).2.1 6 (by decide) qf_RX3_50 rfl dX3_has_6 ?_
  refine lv_icmp_ge (tgt := 16) hM.1 hM.2.1 dX3_has_9 (by decide) (fun c_2 => ?_) (fun c_2 => ?_)
  · replace hq := hq.1 c_2
    refine lv_iconst (v := (0 : Int32)) hM.1 hM.2.1 dX3_has_16 (by decide) ?_
    exact e_z hM hX hlocks hret rfl hq dX3_has_17
  replace hq := hq.2 c_2
  refine lv_iconst (v := (1 : Int32)) hM.1 hM.2.1 dX3_has_12 (by decide) ?_
  refine lv_goto (tgt := 17) hM.1 hM.2.1 dX3_has_13 (by decide) ?_
  exact e_z hM hX hlocks hret rfl hq dX3_has_17
def rmX3_hasRoom : Room := { frames := 0, cells := 0, slots := 0, locals := 0 }
theorem kX3_hasRoom {R : Room} {s : State} {args : Array Value} {own : String} {index : Nat} (ht : ∀ w ∈ lw_all, w.before args s = true) (hl : Cond.methodLink own index yX3_hasRoom ∈ lw_all) (hf : rmX3_hasRoom.frames + 1 ≤ R.frames) (hlo : 8 + (1 + 11) + rmX3_hasRoom.locals ≤ R.locals) : CallW R s args own RX3 index yX3_hasRoom cX3_hasRoom 1 (some Jvm.ClassFile.FieldType.boolean) (wA yX3_hasRoom cX3_hasRoom 1 (some Jvm.ClassFile.FieldType.boolean)) rmX3_hasRoom 0 0 0 := cwV 0 ht (good_V hl qm_yX3_hasRoom qs_yX3_hasRoom qi_RX3 qc_yX3_hasRoom) rfl rfl rfl (by decide +kernel) ⟨hf, hlo⟩
set_option maxRecDepth 100000 in
set_option maxHeartbeats 4000000 in
theorem met_X3_hasRoom (l : Launch) (D : va_G) (ad : Adr) (cy : Nat → ClassId) (S : Mem) (P : Nat) {Q : Mem → Int32 → Prop} (hv : P < 11) (hq : vc_X3_hasRoom S P Q) : Ci l yX3_hasRoom (wA yX3_hasRoom cX3_hasRoom 1 (some Jvm.ClassFile.FieldType.boolean)) rmX3_hasRoom D ad cy [.ref (ad 3 P 0)] S Q := by
  intro o sz
  refine mkC (own := RX3) (lv := [(0, .ref (ad 3 P 0))]) (by decide) rfl (Nat.le_of_ble_eq_true rfl) rfl ⟨rfl, rfl⟩ ?_
  intro p e s m below meth c ls hsz hM hlocks hret hK hA hX hl
  unfold vc_X3_hasRoom at hq
  refine lv_aload_n hM.1 hM.2.1 dX3_hasRoom_0 rfl (lv_at hl 0 rfl) ?_
  refine g3 hM hK hX (id_P hv).2.1 6 (by decide) qf_RX3_50 rfl dX3_hasRoom_1 ?_
  refine lv_bipush (v := (10 : Int32)) hM.1 hM.2.1 dX3_hasRoom_4 (by decide) ?_
  refine lv_icmp_ge (tgt := 13) hM.1 hM.2.1 dX3_hasRoom_6 (by decide) (fun c_1 => ?_) (fun c_1 => ?_)
  · replace hq := hq.1 c_1
    refine lv_iconst (v := (0 : Int32)) hM.1 hM.2.1 dX3_hasRoom_13 (by decide) ?_
    exact e_z hM hX hlocks hret rfl hq dX3_hasRoom_14
  replace hq := hq.2 c_1
  refine lv_iconst (v := (1 : Int32)) hM.1 hM.2.1 dX3_hasRoom_9 (by decide) ?_
  refine lv_goto (tgt := 14) hM.1 hM.2.1 dX3_hasRoom_10 (by decide) ?_
  exact e_z hM hX hlocks hret rfl hq dX3_hasRoom_14
