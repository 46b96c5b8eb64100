def rmX0_clear : Room := { frames := 0, cells := 0, slots := 0, locals := 0 }
theorem kX0_clear {R : Room} {s : State} {args : Array Value} {own : String} {index : Nat} (ht : ∀ w ∈ lw_all, w.before args s = true) (hl : Cond.methodLink own index yX0_clear ∈ lw_all) (hf : rmX0_clear.frames + 1 ≤ R.frames) (hlo : 8 + (1 + 11) + rmX0_clear.locals ≤ R.locals) : CallW R s args own RX0 index yX0_clear cX0_clear 1 none (wA yX0_clear cX0_clear 1 none) rmX0_clear 0 0 0 := cwV 0 ht (good_V hl qm_yX0_clear qs_yX0_clear qi_RX0 qc_yX0_clear) rfl rfl rfl (by decide +kernel) ⟨hf, hlo⟩
set_option maxRecDepth 100000 in
set_option maxHeartbeats 4000000 in
theorem met_X0_clear (l : Launch) (D : va_G) (ad : Adr) (cy : Nat → ClassId) (S : Mem) (P : Nat) {Q : Mem → Prop} (hv : P < 11) (hq : vc_X0_clear S P Q) : Cv l yX0_clear (wA yX0_clear cX0_clear 1 none) rmX0_clear D ad cy (IN []) [.ref (ad 0 P 0)] S Q := by
  intro o sz hI
  refine mkC (own := RX0) (lv := [(0, .ref (ad 0 P 0))]) (by decide) rfl (Nat.le_of_ble_eq_true rfl) rfl ?_
  intro p e s m below meth c ls hsz hM hlocks hret hK hA hX hl
  unfold vc_X0_clear at hq
  refine lv_aload_n hM.1 hM.2.1 dX0_clear_0 rfl (lv_at hl 0 rfl) ?_
  refine lv_iconst (v := (0 : Int32)) hM.1 hM.2.1 dX0_clear_1 (by decide) ?_
  refine p0_1 hM hK hX (hI.1 _ (id_P hv).1) qf_RX0_15 dX0_clear_2 (fun S_1 e_2 H locs hX => ?_)
  replace hq := hq S_1 e_2
  exact e_v hM hX hlocks hret hq dX0_clear_5
def rmX0_insert : Room := { frames := 0, cells := 0, slots := 0, locals := 0 }
theorem kX0_insert {R : Room} {s : State} {args : Array Value} {own : String} {index : Nat} (ht : ∀ w ∈ lw_all, w.before args s = true) (hl : Cond.methodLink own index yX0_insert ∈ lw_all) (hf : rmX0_insert.frames + 1 ≤ R.frames) (hlo : 8 + (3 + 11) + rmX0_insert.locals ≤ R.locals) : CallW R s args own RX0 index yX0_insert cX0_insert 3 none (wA yX0_insert cX0_insert 3 none) rmX0_insert 0 0 1 := cwV 1 ht (good_V hl qm_yX0_insert qs_yX0_insert qi_RX0 qc_yX0_insert) rfl rfl rfl (by decide +kernel) ⟨hf, hlo⟩
set_option maxRecDepth 100000 in
set_option maxHeartbeats 4000000 in
theorem met_X0_insert (l : Launch) (D : va_G) (ad : Adr) (cy : Nat → ClassId) (S : Mem) (P : Nat) (x1 : Int32) {Q : Mem → Prop} (hv : P < 11) (hq : vc_X0_insert S P x1 Q) : Cv l yX0_insert (wA yX0_insert cX0_insert 3 none) rmX0_insert D ad cy (IN []) [.ref (ad 0 P 0), .int x1] S Q := by
  intro o sz hI
  refine mkC (own := RX0) (lv := [(0, .ref (ad 0 P 0)), (1, .int x1)]) (by decide) rfl (Nat.le_of_ble_eq_true rfl) rfl ?_
  intro p e s m below meth c ls hsz hM hlocks hret hK hA hX hl
  have L18 : ∀ {K : Mem → Int32 → Prop} (hk : ∀ (S : Mem) (y2 : Int32), K S y2 → ∀ (H : Heap) (locs : List Loc) (ls : Array Slot), PW D ad cy (AW ad o sz) s.heap o S H locs → lv_has ls 3 [(0, .ref (ad 0 P 0)), (1, .int x1), (2, .int y2)] → Wv D ad cy o sz Q p l e rmX0_insert s m [.ref (ad 0 P 0), .int x1] below meth c H locs (F0 m 54 ls [])), ∀ (n : Nat) (S : Mem) (y2 : Int32), vc_X0_insert_L18 Q K P x1 n S y2 → ∀ (H : Heap) (locs : List Loc) (ls : Array Slot), PW D ad cy (AW ad o sz) s.heap o S H locs → lv_has ls 3 [(0, .ref (ad 0 P 0)), (1, .int x1), (2, .int y2)] → Wv D ad cy o sz Q p l e rmX0_insert s m [.ref (ad 0 P 0), .int x1] below meth c H locs (F0 m 18 ls []) := by
    intro K hk n
    induction n with
    | zero =>
      intro S y2 hq
      rw [vc_X0_insert_L18] at hq
      exact hq.elim
    | succ n ih =>
      intro S y2 hq H locs ls hX hl
      rw [vc_X0_insert_L18] at hq
      refine lv_iload_n hM.1 hM.2.1 dX0_insert_18 rfl (lv_at hl 2 rfl) ?_
      refine lv_if_le (tgt := 54) hM.1 hM.2.1 dX0_insert_19 (by decide) (fun c_2 => ?_) (fun c_2 => ?_)
      · replace hq := hq.1 c_2
        exact hk S y2 hq _ _ _ hX (lv_sub hl [0, 1, 2] rfl)
      replace hq := hq.2 c_2
      refine lv_aload_n hM.1 hM.2.1 dX0_insert_22 rfl (lv_at hl 0 rfl) ?_
      refine g0 hM hK hX (hI.1 _ (id_P hv).1) 0 (by decide) qf_RX0_9 rfl dX0_insert_23 ?_
      refine lv_iload_n hM.1 hM.2.1 dX0_insert_26 rfl (lv_at hl 2 rfl) ?_
      refine lv_iconst (v := (1 : Int32)) hM.1 hM.2.1 dX0_insert_27 (by decide) ?_
      refine lv_isub hM.1 hM.2.1 dX0_insert_28 ?_
      have c_3 := hq.1
      replace hq := hq.2
      refine r_iald hM hK hX (hI.1 _ (id_P hv).2.2.1) (a8 P 0) c_3 dX0_insert_29 ?_
      refine lv_iload_n hM.1 hM.2.1 dX0_insert_30 rfl (lv_at hl 1 rfl) ?_
      refine lv_icmp_le (tgt := 54) hM.1 hM.2.1 dX0_insert_31 (by decide) (fun c_4 => ?_) (fun c_4 => ?_)
      · replace hq := hq.1 c_4
        exact hk S y2 hq _ _ _ hX (lv_sub hl [0, 1, 2] rfl)
      replace hq := hq.2 c_4
      refine lv_aload_n hM.1 hM.2.1 dX0_insert_34 rfl (lv_at hl 0 rfl) ?_
      refine g0 hM hK hX (hI.1 _ (id_P hv).1) 0 (by decide) qf_RX0_9 rfl dX0_insert_35 ?_
      refine lv_iload_n hM.1 hM.2.1 dX0_insert_38 rfl (lv_at hl 2 rfl) ?_
      refine lv_aload_n hM.1 hM.2.1 dX0_insert_39 rfl (lv_at hl 0 rfl) ?_
      refine g0 hM hK hX (hI.1 _ (id_P hv).1) 0 (by decide) qf_RX0_9 rfl dX0_insert_40 ?_
      refine lv_iload_n hM.1 hM.2.1 dX0_insert_43 rfl (lv_at hl 2 rfl) ?_
      refine lv_iconst (v := (1 : Int32)) hM.1 hM.2.1 dX0_insert_44 (by decide) ?_
      refine lv_isub hM.1 hM.2.1 dX0_insert_45 ?_
      have c_5 := hq.1
      replace hq := hq.2
      refine r_iald hM hK hX (hI.1 _ (id_P hv).2.2.1) (a8 P 0) c_5 dX0_insert_46 ?_
      have c_7 := hq.1
      replace hq := hq.2
      refine r_iast hM hK hX (hI.1 _ (id_P hv).2.2.1) (a8 P 0) c_7 dX0_insert_47 (fun S_6 e_8 H locs hX => ?_)
      replace hq := hq S_6 e_8
      refine lv_iinc (v := (y2 + (-1 : Int32))) (lv' := [(2, .int (y2 + (-1 : Int32))), (0, .ref (ad 0 P 0)), (1, .int x1)]) hM.1 hM.2.1 dX0_insert_48 hl (k := 2) rfl rfl (by decide) rfl (fun ls hl => ?_)
      refine lv_goto (tgt := 18) hM.1 hM.2.1 dX0_insert_51 (by decide) ?_
      exact ih S_6 (y2 + (-1 : Int32)) hq _ _ _ hX (lv_sub hl [1, 2, 0] rfl)
  have J54 : ∀ (S : Mem) (y2 : Int32), vc_X0_insert_J54 Q P x1 S y2 → ∀ (H : Heap) (locs : List Loc) (ls : Array Slot), PW D ad cy (AW ad o sz) s.heap o S H locs → lv_has ls 3 [(0, .ref (ad 0 P 0)), (1, .int x1), (2, .int y2)] → Wv D ad cy o sz Q p l e rmX0_insert s m [.ref (ad 0 P 0), .int x1] below meth c H locs (F0 m 54 ls []) := by
    intro S y2 hq H locs ls hX hl
    unfold vc_X0_insert_J54 at hq
    refine lv_aload_n hM.1 hM.2.1 dX0_insert_54 rfl (lv_at hl 0 rfl) ?_
    refine g0 hM hK hX (hI.1 _ (id_P hv).1) 0 (by decide) qf_RX0_9 rfl dX0_insert_55 ?_
    refine lv_iload_n hM.1 hM.2.1 dX0_insert_58 rfl (lv_at hl 2 rfl) ?_
    refine lv_iload_n hM.1 hM.2.1 dX0_insert_59 rfl (lv_at hl 1 rfl) ?_
    have c_12 := hq.1
    replace hq := hq.2
    refine r_iast hM hK hX (hI.1 _ (id_P hv).2.2.1) (a8 P 0) c_12 dX0_insert_60 (fun S_11 e_13 H locs hX => ?_)
    replace hq := hq S_11 e_13
    refine lv_aload_n hM.1 hM.2.1 dX0_insert_61 rfl (lv_at hl 0 rfl) ?_
    refine lv_dup hM.1 hM.2.1 dX0_insert_62 rfl ?_
    refine g0 hM hK hX (hI.1 _ (id_P hv).1) 1 (by decide) qf_RX0_15 rfl dX0_insert_63 ?_
    refine lv_iconst (v := (1 : Int32)) hM.1 hM.2.1 dX0_insert_66 (by decide) ?_
    refine lv_iadd hM.1 hM.2.1 dX0_insert_67 ?_
    refine p0_1 hM hK hX (hI.1 _ (id_P hv).1) qf_RX0_15 dX0_insert_68 (fun S_14 e_15 H locs hX => ?_)
    replace hq := hq S_14 e_15
    exact e_v hM hX hlocks hret hq dX0_insert_71
  unfold vc_X0_insert at hq
  refine lv_aload_n hM.1 hM.2.1 dX0_insert_0 rfl (lv_at hl 0 rfl) ?_
  refine g0 hM hK hX (hI.1 _ (id_P hv).1) 1 (by decide) qf_RX0_15 rfl dX0_insert_1 ?_
  refine lv_aload_n hM.1 hM.2.1 dX0_insert_4 rfl (lv_at hl 0 rfl) ?_
  refine g0 hM hK hX (hI.1 _ (id_P hv).1) 0 (by decide) qf_RX0_9 rfl dX0_insert_5 ?_
  refine r_alen (v := (10 : Int32)) (t0 := 0) hM hK hX (hI.1 _ (id_P hv).2.2.1) rfl rfl rfl dX0_insert_8 ?_
  refine lv_icmp_lt (tgt := 13) hM.1 hM.2.1 dX0_insert_9 (by decide) (fun c_1 => ?_) (fun c_1 => ?_)
  · replace hq := hq.1 c_1
    refine lv_aload_n hM.1 hM.2.1 dX0_insert_13 rfl (lv_at hl 0 rfl) ?_
    refine g0 hM hK hX (hI.1 _ (id_P hv).1) 1 (by decide) qf_RX0_15 rfl dX0_insert_14 ?_
    refine lv_istore_n (lv' := [(2, .int (S 0 P 0 1)), (0, .ref (ad 0 P 0)), (1, .int x1)]) hM.1 hM.2.1 dX0_insert_17 rfl hl (by decide) rfl (fun ls hl => ?_)
    obtain ⟨k0, hq⟩ := hq
    refine L18 (fun S_9 y2_10 hq H locs ls hX hl => ?_) k0 S (S 0 P 0 1) hq _ _ _ hX (lv_sub hl [1, 2, 0] rfl)
    exact J54 S_9 y2_10 hq _ _ _ hX (lv_sub hl [0, 1, 2] rfl)
  replace hq := hq.2 c_1
  exact e_v hM hX hlocks hret hq dX0_insert_12
def rmX0_middle : Room := { frames := 0, cells := 0, slots := 0, locals := 0 }
theorem kX0_middle {R : Room} {s : State} {args : Array Value} {own : String} {index : Nat} (ht : ∀ w ∈ lw_all, w.before args s = true) (hl : Cond.methodLink own index yX0_middle ∈ lw_all) (hf : rmX0_middle.frames + 1 ≤ R.frames) (hlo : 8 + (2 + 11) + rmX0_middle.locals ≤ R.locals) : CallW R s args own RX0 index yX0_middle cX0_middle 2 (some Jvm.ClassFile.FieldType.int) (wA yX0_middle cX0_middle 2 (some Jvm.ClassFile.FieldType.int)) rmX0_middle 0 0 0 := cwV 0 ht (good_V hl qm_yX0_middle qs_yX0_middle qi_RX0 qc_yX0_middle) rfl rfl rfl (by decide +kernel) ⟨hf, hlo⟩
set_option maxRecDepth 100000 in
set_option maxHeartbeats 4000000 in
theorem met_X0_middle (l : Launch) (D : va_G) (ad : Adr) (cy : Nat → ClassId) (S : Mem) (P : Nat) {Q : Mem → Int32 → Prop} (hv : P < 11) (hq : vc_X0_middle S P Q) : Ci l yX0_middle (wA yX0_middle cX0_middle 2 (some Jvm.ClassFile.FieldType.int)) rmX0_middle D ad cy (IN []) [.ref (ad 0 P 0)] S Q := by
  intro o sz hI
  refine mkC (own := RX0) (lv := [(0, .ref (ad 0 P 0))]) (by decide) rfl (Nat.le_of_ble_eq_true rfl) rfl ?_
  intro p e s m below meth c ls hsz hM hlocks hret hK hA hX hl
  unfold vc_X0_middle at hq
  refine lv_aload_n hM.1 hM.2.1 dX0_middle_0 rfl (lv_at hl 0 rfl) ?_
  refine g0 hM hK hX (hI.1 _ (id_P hv).1) 1 (by decide) qf_RX0_15 rfl dX0_middle_1 ?_
  refine lv_iconst (v := (1 : Int32)) hM.1 hM.2.1 dX0_middle_4 (by decide) ?_
  refine lv_isub hM.1 hM.2.1 dX0_middle_5 ?_
  refine lv_iconst (v := (2 : Int32)) hM.1 hM.2.1 dX0_middle_6 (by decide) ?_
  have c_1 := hq.1
  replace hq := hq.2
  refine lv_idiv hM.1 hM.2.1 dX0_middle_7 c_1 ?_
  refine lv_istore_n (lv' := [(1, .int (((S 0 P 0 1) - (1 : Int32)) / (2 : Int32))), (0, .ref (ad 0 P 0))]) hM.1 hM.2.1 dX0_middle_8 rfl hl (by decide) rfl (fun ls hl => ?_)
  refine lv_aload_n hM.1 hM.2.1 dX0_middle_9 rfl (lv_at hl 1 rfl) ?_
  refine g0 hM hK hX (hI.1 _ (id_P hv).1) 1 (by decide) qf_RX0_15 rfl dX0_middle_10 ?_
  refine lv_if_le (tgt := 34) hM.1 hM.2.1 dX0_middle_13 (by decide) (fun c_2 => ?_) (fun c_2 => ?_)
  · replace hq := hq.1 c_2
    refine lv_ldc hM.1 hM.2.1 hM.2.2.2.1 (hM.2.2.2.2 _ qn_RX0_19) dX0_middle_34 ?_
    exact e_i hM hX hlocks hret hq dX0_middle_36
  replace hq := hq.2 c_2
  refine lv_iload_n hM.1 hM.2.1 dX0_middle_16 rfl (lv_at hl 0 rfl) ?_
  refine lv_aload_n hM.1 hM.2.1 dX0_middle_17 rfl (lv_at hl 1 rfl) ?_
  refine g0 hM hK hX (hI.1 _ (id_P hv).1) 0 (by decide) qf_RX0_9 rfl dX0_middle_18 ?_
  refine r_alen (v := (10 : Int32)) (t0 := 0) hM hK hX (hI.1 _ (id_P hv).2.2.1) rfl rfl rfl dX0_middle_21 ?_
  refine lv_icmp_ge (tgt := 34) hM.1 hM.2.1 dX0_middle_22 (by decide) (fun c_3 => ?_) (fun c_3 => ?_)
  · replace hq := hq.1 c_3
    refine lv_ldc hM.1 hM.2.1 hM.2.2.2.1 (hM.2.2.2.2 _ qn_RX0_19) dX0_middle_34 ?_
    exact e_i hM hX hlocks hret hq dX0_middle_36
  replace hq := hq.2 c_3
  refine lv_aload_n hM.1 hM.2.1 dX0_middle_25 rfl (lv_at hl 1 rfl) ?_
  refine g0 hM hK hX (hI.1 _ (id_P hv).1) 0 (by decide) qf_RX0_9 rfl dX0_middle_26 ?_
  refine lv_iload_n hM.1 hM.2.1 dX0_middle_29 rfl (lv_at hl 0 rfl) ?_
  have c_4 := hq.1
  replace hq := hq.2
  refine r_iald hM hK hX (hI.1 _ (id_P hv).2.2.1) (a8 P 0) c_4 dX0_middle_30 ?_
  refine lv_goto (tgt := 36) hM.1 hM.2.1 dX0_middle_31 (by decide) ?_
  exact e_i hM hX hlocks hret hq dX0_middle_36
def rmX1_stateAt : Room := { frames := 0, cells := 0, slots := 0, locals := 0 }
theorem kX1_stateAt {R : Room} {s : State} {args : Array Value} {own : String} {index : Nat} (ht : ∀ w ∈ lw_all, w.before args s = true) (hl : Cond.methodLink own index yX1_stateAt ∈ lw_all) (hf : rmX1_stateAt.frames + 1 ≤ R.frames) (hlo : 8 + (3 + 11) + rmX1_stateAt.locals ≤ R.locals) : CallW R s args own RX1 index yX1_stateAt cX1_stateAt 3 (some (Jvm.ClassFile.FieldType.object "LateThermometers$Place")) (wA yX1_stateAt cX1_stateAt 3 (some (Jvm.ClassFile.FieldType.object "LateThermometers$Place"))) rmX1_stateAt 0 0 1 := cwV 1 ht (good_V hl qm_yX1_stateAt qs_yX1_stateAt qi_RX1 qc_yX1_stateAt) rfl rfl rfl (by decide +kernel) ⟨hf, hlo⟩
set_option maxRecDepth 100000 in
set_option maxHeartbeats 4000000 in
theorem met_X1_stateAt (l : Launch) (D : va_G) (ad : Adr) (cy : Nat → ClassId) (S : Mem) (x1 : Int32) {Q : Mem → Nat → Nat → Prop} (hq : vc_X1_stateAt S x1 Q) : Cr 3 l yX1_stateAt (wA yX1_stateAt cX1_stateAt 3 (some (Jvm.ClassFile.FieldType.object "LateThermometers$Place"))) rmX1_stateAt D ad cy (IN []) [.ref (ad 1 0 0), .int x1] S Q := by
  intro o sz hI
  refine mkC (own := RX1) (lv := [(0, .ref (ad 1 0 0)), (1, .int x1)]) (by decide) rfl (Nat.le_of_ble_eq_true rfl) rfl ?_
  intro p e s m below meth c ls hsz hM hlocks hret hK hA hX hl
  unfold vc_X1_stateAt at hq
  refine lv_iload_n hM.1 hM.2.1 dX1_stateAt_0 rfl (lv_at hl 1 rfl) ?_
  refine lv_if_lt (tgt := 13) hM.1 hM.2.1 dX1_stateAt_1 (by decide) (fun c_1 => ?_) (fun c_1 => ?_)
  · replace hq := hq.1 c_1
    refine lv_aload_n hM.1 hM.2.1 dX1_stateAt_13 rfl (lv_at hl 0 rfl) ?_
    refine g1 hM hK hX (hI.1 _ m1) 1 (by decide) qf_RX1_18 rfl dX1_stateAt_14 ?_
    exact e_r hM hX hlocks hret (Or.inl ⟨_, rfl⟩) hq dX1_stateAt_17
  replace hq := hq.2 c_1
  refine lv_iload_n hM.1 hM.2.1 dX1_stateAt_4 rfl (lv_at hl 1 rfl) ?_
  refine lv_aload_n hM.1 hM.2.1 dX1_stateAt_5 rfl (lv_at hl 0 rfl) ?_
  refine g1 hM hK hX (hI.1 _ m1) 0 (by decide) qf_RX1_11 rfl dX1_stateAt_6 ?_
  refine r_alen (v := (6 : Int32)) (t0 := 3) hM hK hX (hI.1 _ m9) rfl rfl rfl dX1_stateAt_9 ?_
  refine lv_icmp_lt (tgt := 18) hM.1 hM.2.1 dX1_stateAt_10 (by decide) (fun c_2 => ?_) (fun c_2 => ?_)
  · replace hq := hq.1 c_2
    refine lv_aload_n hM.1 hM.2.1 dX1_stateAt_18 rfl (lv_at hl 0 rfl) ?_
    refine g1 hM hK hX (hI.1 _ m1) 0 (by decide) qf_RX1_11 rfl dX1_stateAt_19 ?_
    refine lv_iload_n hM.1 hM.2.1 dX1_stateAt_22 rfl (lv_at hl 1 rfl) ?_
    have c_3 := hq.1
    replace hq := hq.2
    refine r_aald (t0 := 3) hM hK hX (hI.1 _ m9) rfl rfl c_3 rfl dX1_stateAt_23 ?_
    refine lv_astore_n (lv' := [(2, .ref (ad 3 (2 + x1.toNatClampNeg) 0)), (0, .ref (ad 1 0 0)), (1, .int x1)]) hM.1 hM.2.1 dX1_stateAt_24 rfl hl (by decide) rfl (fun ls hl => ?_)
    refine lv_aload_n hM.1 hM.2.1 dX1_stateAt_25 rfl (lv_at hl 0 rfl) ?_
    refine lv_ifnonnull (tgt := 36) hM.1 hM.2.1 dX1_stateAt_26 (by decide) ?_
    refine lv_aload_n hM.1 hM.2.1 dX1_stateAt_36 rfl (lv_at hl 0 rfl) ?_
    exact e_r hM hX hlocks hret (Or.inl ⟨_, rfl⟩) hq dX1_stateAt_37
  replace hq := hq.2 c_2
  refine lv_aload_n hM.1 hM.2.1 dX1_stateAt_13 rfl (lv_at hl 0 rfl) ?_
  refine g1 hM hK hX (hI.1 _ m1) 1 (by decide) qf_RX1_18 rfl dX1_stateAt_14 ?_
  exact e_r hM hX hlocks hret (Or.inl ⟨_, rfl⟩) hq dX1_stateAt_17
def rmX3_at : Room := { frames := 0, cells := 0, slots := 0, locals := 0 }
theorem kX3_at {R : Room} {s : State} {args : Array Value} {own : String} {index : Nat} (ht : ∀ w ∈ lw_all, w.before args s = true) (hl : Cond.methodLink own index yX3_at ∈ lw_all) (hf : rmX3_at.frames + 1 ≤ R.frames) (hlo : 8 + (3 + 11) + rmX3_at.locals ≤ R.locals) : CallW R s args own RX3 index yX3_at cX3_at 3 (some (Jvm.ClassFile.FieldType.object "LateThermometers$Thermometer")) (wA yX3_at cX3_at 3 (some (Jvm.ClassFile.FieldType.object "LateThermometers$Thermometer"))) rmX3_at 0 0 1 := cwV 1 ht (good_V hl qm_yX3_at qs_yX3_at qi_RX3 qc_yX3_at) rfl rfl rfl (by decide +kernel) ⟨hf, hlo⟩
set_option maxRecDepth 100000 in
set_option maxHeartbeats 4000000 in
theorem met_X3_at (l : Launch) (D : va_G) (ad : Adr) (cy : Nat → ClassId) (S : Mem) (P : Nat) (x1 : Int32) {Q : Mem → Nat → Nat → Prop} (hv : P < 11) (hq : vc_X3_at S P x1 Q) : Cr 5 l yX3_at (wA yX3_at cX3_at 3 (some (Jvm.ClassFile.FieldType.object "LateThermometers$Thermometer"))) rmX3_at D ad cy (IN []) [.ref (ad 3 P 0), .int x1] S Q := by
  intro o sz hI
  refine mkC (own := RX3) (lv := [(0, .ref (ad 3 P 0)), (1, .int x1)]) (by decide) rfl (Nat.le_of_ble_eq_true rfl) rfl ?_
  intro p e s m below meth c ls hsz hM hlocks hret hK hA hX hl
  unfold vc_X3_at at hq
  refine lv_iload_n hM.1 hM.2.1 dX3_at_0 rfl (lv_at hl 1 rfl) ?_
  refine lv_if_lt (tgt := 13) hM.1 hM.2.1 dX3_at_1 (by decide) (fun c_1 => ?_) (fun c_1 => ?_)
  · replace hq := hq.1 c_1
    refine lv_aload_n hM.1 hM.2.1 dX3_at_13 rfl (lv_at hl 0 rfl) ?_
    refine g3 hM hK hX (hI.1 _ (id_P hv).2.1) 1 (by decide) qf_RX3_18 rfl dX3_at_14 ?_
    exact e_r hM hX hlocks hret (Or.inl ⟨_, rfl⟩) hq dX3_at_17
  replace hq := hq.2 c_1
  refine lv_iload_n hM.1 hM.2.1 dX3_at_4 rfl (lv_at hl 1 rfl) ?_
  refine lv_aload_n hM.1 hM.2.1 dX3_at_5 rfl (lv_at hl 0 rfl) ?_
  refine g3 hM hK hX (hI.1 _ (id_P hv).2.1) 0 (by decide) qf_RX3_11 rfl dX3_at_6 ?_
  refine r_alen (v := (10 : Int32)) (t0 := 2) hM hK hX (hI.1 _ (id_P hv).2.2.2.1) rfl rfl rfl dX3_at_9 ?_
  refine lv_icmp_lt (tgt := 18) hM.1 hM.2.1 dX3_at_10 (by decide) (fun c_2 => ?_) (fun c_2 => ?_)
  · replace hq := hq.1 c_2
    refine lv_aload_n hM.1 hM.2.1 dX3_at_18 rfl (lv_at hl 0 rfl) ?_
    refine g3 hM hK hX (hI.1 _ (id_P hv).2.1) 0 (by decide) qf_RX3_11 rfl dX3_at_19 ?_
    refine lv_iload_n hM.1 hM.2.1 dX3_at_22 rfl (lv_at hl 1 rfl) ?_
    have c_3 := hq.1
    replace hq := hq.2
    refine r_aald (t0 := 2) hM hK hX (hI.1 _ (id_P hv).2.2.2.1) rfl rfl c_3 rfl dX3_at_23 ?_
    refine lv_astore_n (lv' := [(2, .ref (ad 5 P x1.toNatClampNeg)), (0, .ref (ad 3 P 0)), (1, .int x1)]) hM.1 hM.2.1 dX3_at_24 rfl hl (by decide) rfl (fun ls hl => ?_)
    refine lv_aload_n hM.1 hM.2.1 dX3_at_25 rfl (lv_at hl 0 rfl) ?_
    refine lv_ifnonnull (tgt := 36) hM.1 hM.2.1 dX3_at_26 (by decide) ?_
    refine lv_aload_n hM.1 hM.2.1 dX3_at_36 rfl (lv_at hl 0 rfl) ?_
    exact e_r hM hX hlocks hret (Or.inl ⟨_, rfl⟩) hq dX3_at_37
  replace hq := hq.2 c_2
  refine lv_aload_n hM.1 hM.2.1 dX3_at_13 rfl (lv_at hl 0 rfl) ?_
  refine g3 hM hK hX (hI.1 _ (id_P hv).2.1) 1 (by decide) qf_RX3_18 rfl dX3_at_14 ?_
  exact e_r hM hX hlocks hret (Or.inl ⟨_, rfl⟩) hq dX3_at_17
def rmX6_copyInto : Room := { frames := 0, cells := 0, slots := 0, locals := 0 }
theorem kX6_copyInto {R : Room} {s : State} {args : Array Value} {own : String} {index : Nat} (ht : ∀ w ∈ lw_all, w.before args s = true) (hl : Cond.methodLink own index yX6_copyInto ∈ lw_all) (hf : rmX6_copyInto.frames + 1 ≤ R.frames) (hlo : 8 + (3 + 11) + rmX6_copyInto.locals ≤ R.locals) : CallB R s args own index yX6_copyInto cX6_copyInto 3 none (wA yX6_copyInto cX6_copyInto 3 none) rmX6_copyInto 0 0 2 ∧ (Cond.static yX6_copyInto).before args s = true := va_cwS 2 ht (good_S hl qt_yX6_copyInto qi_RX6 qc_yX6_copyInto) rfl rfl rfl (by decide +kernel) ⟨hf, hlo⟩
theorem kNX6_copyInto {R : Room} {s : State} {args : Array Value} {own : String} {index : Nat} (ht : ∀ w ∈ lw_all, w.before args s = true) (hl : va_Nw (nestW (own, index, yX6_copyInto, RX6)) s) (hf : rmX6_copyInto.frames + 1 ≤ R.frames) (hlo : 8 + (3 + 11) + rmX6_copyInto.locals ≤ R.locals) : va_CN R s args own index yX6_copyInto RX6 cX6_copyInto 3 none (wA yX6_copyInto cX6_copyInto 3 none) rmX6_copyInto 0 0 2 ∧ (Cond.static yX6_copyInto).before args s = true ∧ True := ⟨va_cnB 2 ht (good_wA qc_yX6_copyInto) rfl rfl rfl hl (ht _ qi_RX6) (by decide +kernel) ⟨hf, hlo⟩, ht _ qt_yX6_copyInto, trivial⟩
set_option maxRecDepth 100000 in
set_option maxHeartbeats 4000000 in
theorem met_X6_copyInto (l : Launch) (D : va_G) (ad : Adr) (cy : Nat → ClassId) (S : Mem) (t0 : Nat) (P0 : Nat) (i0 : Nat) (n0 : Nat) (t1 : Nat) (P1 : Nat) (i1 : Nat) (n1 : Nat) {Q : Mem → Prop} (ha0 : iarr t0 P0 i0 n0) (ha1 : iarr t1 P1 i1 n1) (hq : vc_X6_copyInto S t0 P0 i0 n0 t1 P1 i1 n1 Q) : Cv l yX6_copyInto (wA yX6_copyInto cX6_copyInto 3 none) rmX6_copyInto D ad cy (IN [(t0, P0, i0), (t1, P1, i1)]) [.ref (ad t0 P0 i0), .ref (ad t1 P1 i1)] S Q := by
  intro o sz hI
  refine mkC (own := RX6) (lv := [(0, .ref (ad t0 P0 i0)), (1, .ref (ad t1 P1 i1))]) (by decide) rfl (Nat.le_of_ble_eq_true rfl) rfl ?_
  intro p e s m below meth c ls hsz hM hlocks hret hK hA hX hl
  have L2 : ∀ {K : Mem → Prop} (hk : ∀ (S : Mem), K S → ∀ (H : Heap) (locs : List Loc) (ls : Array Slot), PW D ad cy (AW ad o sz) s.heap o S H locs → lv_has ls 3 [] → Wv D ad cy o sz Q p l e rmX6_copyInto s m [.ref (ad t0 P0 i0), .ref (ad t1 P1 i1)] below meth c H locs (F0 m 26 ls [])), ∀ (n : Nat) (S : Mem) (y2 : Int32), vc_X6_copyInto_L2 Q K t0 P0 i0 n0 t1 P1 i1 n1 n S y2 → ∀ (H : Heap) (locs : List Loc) (ls : Array Slot), PW D ad cy (AW ad o sz) s.heap o S H locs → lv_has ls 3 [(0, .ref (ad t0 P0 i0)), (1, .ref (ad t1 P1 i1)), (2, .int y2)] → Wv D ad cy o sz Q p l e rmX6_copyInto s m [.ref (ad t0 P0 i0), .ref (ad t1 P1 i1)] below meth c H locs (F0 m 2 ls []) := by
    intro K hk n
    induction n with
    | zero =>
      intro S y2 hq
      rw [vc_X6_copyInto_L2] at hq
      exact hq.elim
    | succ n ih =>
      intro S y2 hq H locs ls hX hl
      rw [vc_X6_copyInto_L2] at hq
      refine lv_iload_n hM.1 hM.2.1 dX6_copyInto_2 rfl (lv_at hl 2 rfl) ?_
      refine lv_aload_n hM.1 hM.2.1 dX6_copyInto_3 rfl (lv_at hl 0 rfl) ?_
      refine r_alen (v := nI n0) (t0 := 0) hM hK hX hI.2.1 ((ha0 ad cy) _) rfl rfl dX6_copyInto_4 ?_
      refine lv_icmp_ge (tgt := 26) hM.1 hM.2.1 dX6_copyInto_5 (by decide) (fun c_1 => ?_) (fun c_1 => ?_)
      · replace hq := hq.1 c_1
        exact hk S hq _ _ _ hX (lv_sub hl [] rfl)
      replace hq := hq.2 c_1
      refine lv_iload_n hM.1 hM.2.1 dX6_copyInto_8 rfl (lv_at hl 2 rfl) ?_
      refine lv_aload_n hM.1 hM.2.1 dX6_copyInto_9 rfl (lv_at hl 1 rfl) ?_
      refine r_alen (v := nI n1) (t0 := 0) hM hK hX hI.2.2.1 ((ha1 ad cy) _) rfl rfl dX6_copyInto_10 ?_
      refine lv_icmp_ge (tgt := 26) hM.1 hM.2.1 dX6_copyInto_11 (by decide) (fun c_2 => ?_) (fun c_2 => ?_)
      · replace hq := hq.1 c_2
        exact hk S hq _ _ _ hX (lv_sub hl [] rfl)
      replace hq := hq.2 c_2
      refine lv_aload_n hM.1 hM.2.1 dX6_copyInto_14 rfl (lv_at hl 0 rfl) ?_
      refine lv_iload_n hM.1 hM.2.1 dX6_copyInto_15 rfl (lv_at hl 2 rfl) ?_
      refine lv_aload_n hM.1 hM.2.1 dX6_copyInto_16 rfl (lv_at hl 1 rfl) ?_
      refine lv_iload_n hM.1 hM.2.1 dX6_copyInto_17 rfl (lv_at hl 2 rfl) ?_
      have c_3 := hq.1
      replace hq := hq.2
      refine r_iald hM hK hX hI.2.2.1 (ha1 ad cy) c_3 dX6_copyInto_18 ?_
      have c_5 := hq.1
      replace hq := hq.2
      refine r_iast hM hK hX hI.2.1 (ha0 ad cy) c_5 dX6_copyInto_19 (fun S_4 e_6 H locs hX => ?_)
      replace hq := hq S_4 e_6
      refine lv_iinc (v := (y2 + (1 : Int32))) (lv' := [(2, .int (y2 + (1 : Int32))), (0, .ref (ad t0 P0 i0)), (1, .ref (ad t1 P1 i1))]) hM.1 hM.2.1 dX6_copyInto_20 hl (k := 2) rfl rfl (by decide) rfl (fun ls hl => ?_)
      refine lv_goto (tgt := 2) hM.1 hM.2.1 dX6_copyInto_23 (by decide) ?_
      exact ih S_4 (y2 + (1 : Int32)) hq _ _ _ hX (lv_sub hl [1, 2, 0] rfl)
  unfold vc_X6_copyInto at hq
  refine lv_iconst (v := (0 : Int32)) hM.1 hM.2.1 dX6_copyInto_0 (by decide) ?_
  refine lv_istore_n (lv' := [(2, .int (0 : Int32)), (0, .ref (ad t0 P0 i0)), (1, .ref (ad t1 P1 i1))]) hM.1 hM.2.1 dX6_copyInto_1 rfl hl (by decide) rfl (fun ls hl => ?_)
  obtain ⟨k0, hq⟩ := hq
  refine L2 (fun S_7 hq H locs ls hX hl => ?_) k0 S (0 : Int32) hq _ _ _ hX (lv_sub hl [1, 2, 0] rfl)
  exact e_v hM hX hlocks hret hq dX6_copyInto_26
def rmX5_copyFrom : Room := { frames := 1, cells := 0, slots := 0, locals := 22 }
theorem kX5_copyFrom {R : Room} {s : State} {args : Array Value} {own : String} {index : Nat} (ht : ∀ w ∈ lw_all, w.before args s = true) (hl : Cond.methodLink own index yX5_copyFrom ∈ lw_all) (hf : rmX5_copyFrom.frames + 1 ≤ R.frames) (hlo : 8 + (2 + 11) + rmX5_copyFrom.locals ≤ R.locals) : CallW R s args own RX5 index yX5_copyFrom cX5_copyFrom 2 none (wA yX5_copyFrom cX5_copyFrom 2 none) rmX5_copyFrom 0 0 1 := cwV 1 ht (good_V hl qm_yX5_copyFrom qs_yX5_copyFrom qi_RX5 qc_yX5_copyFrom) rfl rfl rfl (by decide +kernel) ⟨hf, hlo⟩
set_option maxRecDepth 100000 in
set_option maxHeartbeats 4000000 in
theorem met_X5_copyFrom (l : Launch) (D : va_G) (ad : Adr) (cy : Nat → ClassId) (S : Mem) (P : Nat) (i : Nat) (P1 : Nat) (i1 : Nat) {Q : Mem → Prop} (hv : P < 11 ∧ i < 11) (hv1 : P1 < 11 ∧ i1 < 11) (hq : vc_X5_copyFrom S P i P1 i1 Q) : Cv l yX5_copyFrom (wA yX5_copyFrom cX5_copyFrom 2 none) rmX5_copyFrom D ad cy (IN []) [.ref (ad 5 P i), .ref (ad 5 P1 i1)] S Q := by
  intro o sz hI
  refine mkC (own := RX5) (lv := [(0, .ref (ad 5 P i)), (1, .ref (ad 5 P1 i1))]) (by decide) rfl (Nat.le_of_ble_eq_true rfl) rfl ?_
  intro p e s m below meth c ls hsz hM hlocks hret hK hA hX hl
  unfold vc_X5_copyFrom at hq
  refine lv_aload_n hM.1 hM.2.1 dX5_copyFrom_0 rfl (lv_at hl 0 rfl) ?_
  refine g5 hM hK hX (hI.1 _ (id_T hv).1) 0 (by decide) qf_RX5_9 rfl dX5_copyFrom_1 ?_
  refine lv_aload_n hM.1 hM.2.1 dX5_copyFrom_4 rfl (lv_at hl 1 rfl) ?_
  refine g5 hM hK hX (hI.1 _ (id_T hv1).1) 0 (by decide) qf_RX5_9 rfl dX5_copyFrom_5 ?_
  refine cSNv (As := [.ref (ad 6 P i), .ref (ad 6 P1 i1)]) hM hK hX ⟨hI.1, (hI.1 _ (id_T hv).2.1), (hI.1 _ (id_T hv1).2.1), trivial⟩ hA (met_X6_copyInto l D ad cy S 6 P i 6 6 P1 i1 6 (fun _ _ => (a6 P i)) (fun _ _ => (a6 P1 i1)) hq) (kNX6_copyInto hM.2.2.2.2 (hK.2 _ ql_RX5_55) (Nat.le_of_ble_eq_true rfl) (Nat.le_of_ble_eq_true rfl)) rfl hl.1 rfl (Nat.le_of_ble_eq_true rfl) dX5_copyFrom_8 ⟨Nat.zero_le _, Nat.zero_le _⟩ (fun S_1 hq H locs hX => ?_)
  refine lv_aload_n hM.1 hM.2.1 dX5_copyFrom_11 rfl (lv_at hl 0 rfl) ?_
  refine g5 hM hK hX (hI.1 _ (id_T hv).1) 1 (by decide) qf_RX5_15 rfl dX5_copyFrom_12 ?_
  refine lv_aload_n hM.1 hM.2.1 dX5_copyFrom_15 rfl (lv_at hl 1 rfl) ?_
  refine g5 hM hK hX (hI.1 _ (id_T hv1).1) 1 (by decide) qf_RX5_15 rfl dX5_copyFrom_16 ?_
  refine cSNv (As := [.ref (ad 7 P i), .ref (ad 7 P1 i1)]) hM hK hX ⟨hI.1, (hI.1 _ (id_T hv).2.2), (hI.1 _ (id_T hv1).2.2), trivial⟩ hA (met_X6_copyInto l D ad cy S_1 7 P i 6 7 P1 i1 6 (fun _ _ => (a7 P i)) (fun _ _ => (a7 P1 i1)) hq) (kNX6_copyInto hM.2.2.2.2 (hK.2 _ ql_RX5_55) (Nat.le_of_ble_eq_true rfl) (Nat.le_of_ble_eq_true rfl)) rfl hl.1 rfl (Nat.le_of_ble_eq_true rfl) dX5_copyFrom_19 ⟨Nat.zero_le _, Nat.zero_le _⟩ (fun S_2 hq H locs hX => ?_)
  refine lv_aload_n hM.1 hM.2.1 dX5_copyFrom_22 rfl (lv_at hl 0 rfl) ?_
  refine lv_aload_n hM.1 hM.2.1 dX5_copyFrom_23 rfl (lv_at hl 1 rfl) ?_
  refine g5 hM hK hX (hI.1 _ (id_T hv1).1) 2 (by decide) qf_RX5_45 rfl dX5_copyFrom_24 ?_
  refine p5_2 hM hK hX (hI.1 _ (id_T hv).1) qf_RX5_45 dX5_copyFrom_27 (fun S_3 e_4 H locs hX => ?_)
  replace hq := hq S_3 e_4
  refine lv_aload_n hM.1 hM.2.1 dX5_copyFrom_30 rfl (lv_at hl 0 rfl) ?_
  refine lv_aload_n hM.1 hM.2.1 dX5_copyFrom_31 rfl (lv_at hl 1 rfl) ?_
  refine g5 hM hK hX (hI.1 _ (id_T hv1).1) 3 (by decide) qf_RX5_18 rfl dX5_copyFrom_32 ?_
  refine p5_3 hM hK hX (hI.1 _ (id_T hv).1) qf_RX5_18 dX5_copyFrom_35 (fun S_5 e_6 H locs hX => ?_)
  replace hq := hq S_5 e_6
  refine lv_aload_n hM.1 hM.2.1 dX5_copyFrom_38 rfl (lv_at hl 0 rfl) ?_
  refine lv_aload_n hM.1 hM.2.1 dX5_copyFrom_39 rfl (lv_at hl 1 rfl) ?_
  refine g5 hM hK hX (hI.1 _ (id_T hv1).1) 4 (by decide) qf_RX5_32 rfl dX5_copyFrom_40 ?_
  refine p5_4 hM hK hX (hI.1 _ (id_T hv).1) qf_RX5_32 dX5_copyFrom_43 (fun S_7 e_8 H locs hX => ?_)
  replace hq := hq S_7 e_8
  refine lv_aload_n hM.1 hM.2.1 dX5_copyFrom_46 rfl (lv_at hl 0 rfl) ?_
  refine lv_aload_n hM.1 hM.2.1 dX5_copyFrom_47 rfl (lv_at hl 1 rfl) ?_
  refine g5 hM hK hX (hI.1 _ (id_T hv1).1) 10 (by decide) qf_RX5_51 rfl dX5_copyFrom_48 ?_
  have c_10 := hq.1
  replace hq := hq.2
  refine p5_10 hM hK hX (hI.1 _ (id_T hv).1) (nar_z c_10) qf_RX5_51 dX5_copyFrom_51 (fun S_9 e_11 H locs hX => ?_)
  replace hq := hq S_9 e_11
  refine lv_aload_n hM.1 hM.2.1 dX5_copyFrom_54 rfl (lv_at hl 0 rfl) ?_
  refine lv_aload_n hM.1 hM.2.1 dX5_copyFrom_55 rfl (lv_at hl 1 rfl) ?_
  refine g5 hM hK hX (hI.1 _ (id_T hv1).1) 5 (by decide) qf_RX5_29 rfl dX5_copyFrom_56 ?_
  refine p5_5 hM hK hX (hI.1 _ (id_T hv).1) qf_RX5_29 dX5_copyFrom_59 (fun S_12 e_13 H locs hX => ?_)
  replace hq := hq S_12 e_13
  refine lv_aload_n hM.1 hM.2.1 dX5_copyFrom_62 rfl (lv_at hl 0 rfl) ?_
  refine lv_aload_n hM.1 hM.2.1 dX5_copyFrom_63 rfl (lv_at hl 1 rfl) ?_
  refine g5 hM hK hX (hI.1 _ (id_T hv1).1) 6 (by decide) qf_RX5_22 rfl dX5_copyFrom_64 ?_
  refine p5_6 hM hK hX (hI.1 _ (id_T hv).1) qf_RX5_22 dX5_copyFrom_67 (fun S_14 e_15 H locs hX => ?_)
  replace hq := hq S_14 e_15
  refine lv_aload_n hM.1 hM.2.1 dX5_copyFrom_70 rfl (lv_at hl 0 rfl) ?_
  refine lv_aload_n hM.1 hM.2.1 dX5_copyFrom_71 rfl (lv_at hl 1 rfl) ?_
  refine g5 hM hK hX (hI.1 _ (id_T hv1).1) 7 (by decide) qf_RX5_42 rfl dX5_copyFrom_72 ?_
  refine p5_7 hM hK hX (hI.1 _ (id_T hv).1) qf_RX5_42 dX5_copyFrom_75 (fun S_16 e_17 H locs hX => ?_)
  replace hq := hq S_16 e_17
  refine lv_aload_n hM.1 hM.2.1 dX5_copyFrom_78 rfl (lv_at hl 0 rfl) ?_
  refine lv_aload_n hM.1 hM.2.1 dX5_copyFrom_79 rfl (lv_at hl 1 rfl) ?_
  refine g5 hM hK hX (hI.1 _ (id_T hv1).1) 8 (by decide) qf_RX5_48 rfl dX5_copyFrom_80 ?_
  refine p5_8 hM hK hX (hI.1 _ (id_T hv).1) qf_RX5_48 dX5_copyFrom_83 (fun S_18 e_19 H locs hX => ?_)
  replace hq := hq S_18 e_19
  refine lv_aload_n hM.1 hM.2.1 dX5_copyFrom_86 rfl (lv_at hl 0 rfl) ?_
  refine lv_aload_n hM.1 hM.2.1 dX5_copyFrom_87 rfl (lv_at hl 1 rfl) ?_
  refine g5 hM hK hX (hI.1 _ (id_T hv1).1) 9 (by decide) qf_RX5_35 rfl dX5_copyFrom_88 ?_
  refine p5_9 hM hK hX (hI.1 _ (id_T hv).1) qf_RX5_35 dX5_copyFrom_91 (fun S_20 e_21 H locs hX => ?_)
  replace hq := hq S_20 e_21
  refine lv_aload_n hM.1 hM.2.1 dX5_copyFrom_94 rfl (lv_at hl 0 rfl) ?_
  refine lv_aload_n hM.1 hM.2.1 dX5_copyFrom_95 rfl (lv_at hl 1 rfl) ?_
  refine g5 hM hK hX (hI.1 _ (id_T hv1).1) 11 (by decide) qf_RX5_26 rfl dX5_copyFrom_96 ?_
  refine p5_11 hM hK hX (hI.1 _ (id_T hv).1) qf_RX5_26 dX5_copyFrom_99 (fun S_22 e_23 H locs hX => ?_)
  replace hq := hq S_22 e_23
  exact e_v hM hX hlocks hret hq dX5_copyFrom_102
def rmX3_copyFrom : Room := { frames := 2, cells := 0, slots := 0, locals := 43 }
theorem kX3_copyFrom {R : Room} {s : State} {args : Array Value} {own : String} {index : Nat} (ht : ∀ w ∈ lw_all, w.before args s = true) (hl : Cond.methodLink own index yX3_copyFrom ∈ lw_all) (hf : rmX3_copyFrom.frames + 1 ≤ R.frames) (hlo : 8 + (3 + 11) + rmX3_copyFrom.locals ≤ R.locals) : CallW R s args own RX3 index yX3_copyFrom cX3_copyFrom 3 none (wA yX3_copyFrom cX3_copyFrom 3 none) rmX3_copyFrom 0 0 1 := cwV 1 ht (good_V hl qm_yX3_copyFrom qs_yX3_copyFrom qi_RX3 qc_yX3_copyFrom) rfl rfl rfl (by decide +kernel) ⟨hf, hlo⟩
set_option maxRecDepth 100000 in
set_option maxHeartbeats 4000000 in
theorem met_X3_copyFrom (l : Launch) (D : va_G) (ad : Adr) (cy : Nat → ClassId) (S : Mem) (P : Nat) (P1 : Nat) {Q : Mem → Prop} (hv : P < 11) (hv1 : P1 < 11) (hq : vc_X3_copyFrom S P P1 Q) : Cv l yX3_copyFrom (wA yX3_copyFrom cX3_copyFrom 3 none) rmX3_copyFrom D ad cy (IN []) [.ref (ad 3 P 0), .ref (ad 3 P1 0)] S Q := by
  intro o sz hI
  refine mkC (own := RX3) (lv := [(0, .ref (ad 3 P 0)), (1, .ref (ad 3 P1 0))]) (by decide) rfl (Nat.le_of_ble_eq_true rfl) rfl ?_
  intro p e s m below meth c ls hsz hM hlocks hret hK hA hX hl
  have L2 : ∀ {K : Mem → Prop} (hk : ∀ (S : Mem), K S → ∀ (H : Heap) (locs : List Loc) (ls : Array Slot), PW D ad cy (AW ad o sz) s.heap o S H locs → lv_has ls 3 [(0, .ref (ad 3 P 0)), (1, .ref (ad 3 P1 0))] → Wv D ad cy o sz Q p l e rmX3_copyFrom s m [.ref (ad 3 P 0), .ref (ad 3 P1 0)] below meth c H locs (F0 m 29 ls [])), ∀ (n : Nat) (S : Mem) (y2 : Int32), vc_X3_copyFrom_L2 Q K P P1 n S y2 → ∀ (H : Heap) (locs : List Loc) (ls : Array Slot), PW D ad cy (AW ad o sz) s.heap o S H locs → lv_has ls 3 [(0, .ref (ad 3 P 0)), (1, .ref (ad 3 P1 0)), (2, .int y2)] → Wv D ad cy o sz Q p l e rmX3_copyFrom s m [.ref (ad 3 P 0), .ref (ad 3 P1 0)] below meth c H locs (F0 m 2 ls []) := by
    intro K hk n
    induction n with
    | zero =>
      intro S y2 hq
      rw [vc_X3_copyFrom_L2] at hq
      exact hq.elim
    | succ n ih =>
      intro S y2 hq H locs ls hX hl
      rw [vc_X3_copyFrom_L2] at hq
      refine lv_iload_n hM.1 hM.2.1 dX3_copyFrom_2 rfl (lv_at hl 2 rfl) ?_
      refine lv_aload_n hM.1 hM.2.1 dX3_copyFrom_3 rfl (lv_at hl 1 rfl) ?_
      refine g3 hM hK hX (hI.1 _ (id_P hv1).2.1) 6 (by decide) qf_RX3_50 rfl dX3_copyFrom_4 ?_
      refine lv_icmp_ge (tgt := 29) hM.1 hM.2.1 dX3_copyFrom_7 (by decide) (fun c_1 => ?_) (fun c_1 => ?_)
      · replace hq := hq.1 c_1
        exact hk S hq _ _ _ hX (lv_sub hl [0, 1] rfl)
      replace hq := hq.2 c_1
      refine lv_aload_n hM.1 hM.2.1 dX3_copyFrom_10 rfl (lv_at hl 0 rfl) ?_
      refine lv_iload_n hM.1 hM.2.1 dX3_copyFrom_11 rfl (lv_at hl 2 rfl) ?_
      refine cVr (As := [.int y2]) hM hK hX ⟨hI.1, trivial⟩ hA (met_X3_at l D ad cy S P y2 hv hq) (kX3_at hM.2.2.2.2 ql_RX3_53 (Nat.le_of_ble_eq_true rfl) (Nat.le_of_ble_eq_true rfl)) (v3 hK hX (hI.1 _ (id_P hv).2.1)) rfl hl.1 rfl (Nat.le_of_ble_eq_true rfl) dX3_copyFrom_12 ⟨Nat.zero_le _, Nat.zero_le _⟩ (fun S_2 P_3 i_4 hq H locs hX => ?_)
      refine lv_aload_n hM.1 hM.2.1 dX3_copyFrom_15 rfl (lv_at hl 1 rfl) ?_
      refine lv_iload_n hM.1 hM.2.1 dX3_copyFrom_16 rfl (lv_at hl 2 rfl) ?_
      refine cVr (As := [.int y2]) hM hK hX ⟨hI.1, trivial⟩ hA (met_X3_at l D ad cy S_2 P1 y2 hv1 hq) (kX3_at hM.2.2.2.2 ql_RX3_53 (Nat.le_of_ble_eq_true rfl) (Nat.le_of_ble_eq_true rfl)) (v3 hK hX (hI.1 _ (id_P hv1).2.1)) rfl hl.1 rfl (Nat.le_of_ble_eq_true rfl) dX3_copyFrom_17 ⟨Nat.zero_le _, Nat.zero_le _⟩ (fun S_5 P_6 i_7 hq H locs hX => ?_)
      have hT_8 := hq.1
      replace hq := hq.2
      have hT_9 := hq.1
      replace hq := hq.2
      refine cVv (As := [.ref (ad 5 P_6 i_7)]) hM hK hX ⟨hI.1, trivial⟩ hA (met_X5_copyFrom l D ad cy S_5 P_3 i_4 P_6 i_7 hT_8 hT_9 hq) (kX5_copyFrom hM.2.2.2.2 ql_RX3_57 (Nat.le_of_ble_eq_true rfl) (Nat.le_of_ble_eq_true rfl)) (v5 hK hX (hI.1 _ (id_T hT_8).1)) rfl hl.1 rfl (Nat.le_of_ble_eq_true rfl) dX3_copyFrom_20 ⟨Nat.zero_le _, Nat.zero_le _⟩ (fun S_10 hq H locs hX => ?_)
      refine lv_iinc (v := (y2 + (1 : Int32))) (lv' := [(2, .int (y2 + (1 : Int32))), (0, .ref (ad 3 P 0)), (1, .ref (ad 3 P1 0))]) hM.1 hM.2.1 dX3_copyFrom_23 hl (k := 2) rfl rfl (by decide) rfl (fun ls hl => ?_)
      refine lv_goto (tgt := 2) hM.1 hM.2.1 dX3_copyFrom_26 (by decide) ?_
      exact ih S_10 (y2 + (1 : Int32)) hq _ _ _ hX (lv_sub hl [1, 2, 0] rfl)
  unfold vc_X3_copyFrom at hq
  refine lv_iconst (v := (0 : Int32)) hM.1 hM.2.1 dX3_copyFrom_0 (by decide) ?_
  refine lv_istore_n (lv' := [(2, .int (0 : Int32)), (0, .ref (ad 3 P 0)), (1, .ref (ad 3 P1 0))]) hM.1 hM.2.1 dX3_copyFrom_1 rfl hl (by decide) rfl (fun ls hl => ?_)
  obtain ⟨k0, hq⟩ := hq
  refine L2 (fun S_11 hq H locs ls hX hl => ?_) k0 S (0 : Int32) hq _ _ _ hX (lv_sub hl [1, 2, 0] rfl)
  refine lv_aload_n hM.1 hM.2.1 dX3_copyFrom_29 rfl (lv_at hl 0 rfl) ?_
  refine g3 hM hK hX (hI.1 _ (id_P hv).2.1) 2 (by decide) qf_RX3_22 rfl dX3_copyFrom_30 ?_
  refine lv_aload_n hM.1 hM.2.1 dX3_copyFrom_33 rfl (lv_at hl 1 rfl) ?_
  refine g3 hM hK hX (hI.1 _ (id_P hv1).2.1) 2 (by decide) qf_RX3_22 rfl dX3_copyFrom_34 ?_
  refine cSNv (As := [.ref (ad 12 P 0), .ref (ad 12 P1 0)]) hM hK hX ⟨hI.1, (hI.1 _ (id_P hv).2.2.2.2.1), (hI.1 _ (id_P hv1).2.2.2.2.1), trivial⟩ hA (met_X6_copyInto l D ad cy S_11 12 P 0 4 12 P1 0 4 (fun _ _ => (a12 P 0)) (fun _ _ => (a12 P1 0)) hq) (kNX6_copyInto hM.2.2.2.2 (hK.2 _ ql_RX3_61) (Nat.le_of_ble_eq_true rfl) (Nat.le_of_ble_eq_true rfl)) rfl hl.1 rfl (Nat.le_of_ble_eq_true rfl) dX3_copyFrom_37 ⟨Nat.zero_le _, Nat.zero_le _⟩ (fun S_12 hq H locs hX => ?_)
  refine lv_aload_n hM.1 hM.2.1 dX3_copyFrom_40 rfl (lv_at hl 0 rfl) ?_
  refine g3 hM hK hX (hI.1 _ (id_P hv).2.1) 3 (by decide) qf_RX3_26 rfl dX3_copyFrom_41 ?_
  refine lv_aload_n hM.1 hM.2.1 dX3_copyFrom_44 rfl (lv_at hl 1 rfl) ?_
  refine g3 hM hK hX (hI.1 _ (id_P hv1).2.1) 3 (by decide) qf_RX3_26 rfl dX3_copyFrom_45 ?_
  refine cSNv (As := [.ref (ad 13 P 0), .ref (ad 13 P1 0)]) hM hK hX ⟨hI.1, (hI.1 _ (id_P hv).2.2.2.2.2), (hI.1 _ (id_P hv1).2.2.2.2.2), trivial⟩ hA (met_X6_copyInto l D ad cy S_12 13 P 0 4 13 P1 0 4 (fun _ _ => (a13 P 0)) (fun _ _ => (a13 P1 0)) hq) (kNX6_copyInto hM.2.2.2.2 (hK.2 _ ql_RX3_61) (Nat.le_of_ble_eq_true rfl) (Nat.le_of_ble_eq_true rfl)) rfl hl.1 rfl (Nat.le_of_ble_eq_true rfl) dX3_copyFrom_48 ⟨Nat.zero_le _, Nat.zero_le _⟩ (fun S_13 hq H locs hX => ?_)
  refine lv_aload_n hM.1 hM.2.1 dX3_copyFrom_51 rfl (lv_at hl 0 rfl) ?_
  refine lv_aload_n hM.1 hM.2.1 dX3_copyFrom_52 rfl (lv_at hl 1 rfl) ?_
  refine g3 hM hK hX (hI.1 _ (id_P hv1).2.1) 5 (by decide) qf_RX3_37 rfl dX3_copyFrom_53 ?_
  refine p3_5 hM hK hX (hI.1 _ (id_P hv).2.1) qf_RX3_37 dX3_copyFrom_56 (fun S_14 e_15 H locs hX => ?_)
  replace hq := hq S_14 e_15
  refine lv_aload_n hM.1 hM.2.1 dX3_copyFrom_59 rfl (lv_at hl 0 rfl) ?_
  refine lv_aload_n hM.1 hM.2.1 dX3_copyFrom_60 rfl (lv_at hl 1 rfl) ?_
  refine g3 hM hK hX (hI.1 _ (id_P hv1).2.1) 6 (by decide) qf_RX3_50 rfl dX3_copyFrom_61 ?_
  refine p3_6 hM hK hX (hI.1 _ (id_P hv).2.1) qf_RX3_50 dX3_copyFrom_64 (fun S_16 e_17 H locs hX => ?_)
  replace hq := hq S_16 e_17
  refine lv_aload_n hM.1 hM.2.1 dX3_copyFrom_67 rfl (lv_at hl 0 rfl) ?_
  refine lv_aload_n hM.1 hM.2.1 dX3_copyFrom_68 rfl (lv_at hl 1 rfl) ?_
  refine g3 hM hK hX (hI.1 _ (id_P hv1).2.1) 7 (by decide) qf_RX3_65 rfl dX3_copyFrom_69 ?_
  refine p3_7 hM hK hX (hI.1 _ (id_P hv).2.1) qf_RX3_65 dX3_copyFrom_72 (fun S_18 e_19 H locs hX => ?_)
  replace hq := hq S_18 e_19
  refine lv_aload_n hM.1 hM.2.1 dX3_copyFrom_75 rfl (lv_at hl 0 rfl) ?_
  refine lv_aload_n hM.1 hM.2.1 dX3_copyFrom_76 rfl (lv_at hl 1 rfl) ?_
  refine g3 hM hK hX (hI.1 _ (id_P hv1).2.1) 8 (by decide) qf_RX3_41 rfl dX3_copyFrom_77 ?_
  refine p3_8 hM hK hX (hI.1 _ (id_P hv).2.1) qf_RX3_41 dX3_copyFrom_80 (fun S_20 e_21 H locs hX => ?_)
  replace hq := hq S_20 e_21
  refine lv_aload_n hM.1 hM.2.1 dX3_copyFrom_83 rfl (lv_at hl 0 rfl) ?_
  refine lv_aload_n hM.1 hM.2.1 dX3_copyFrom_84 rfl (lv_at hl 1 rfl) ?_
  refine g3 hM hK hX (hI.1 _ (id_P hv1).2.1) 9 (by decide) qf_RX3_68 rfl dX3_copyFrom_85 ?_
  refine p3_9 hM hK hX (hI.1 _ (id_P hv).2.1) qf_RX3_68 dX3_copyFrom_88 (fun S_22 e_23 H locs hX => ?_)
  replace hq := hq S_22 e_23
  refine lv_aload_n hM.1 hM.2.1 dX3_copyFrom_91 rfl (lv_at hl 0 rfl) ?_
  refine lv_aload_n hM.1 hM.2.1 dX3_copyFrom_92 rfl (lv_at hl 1 rfl) ?_
  refine g3 hM hK hX (hI.1 _ (id_P hv1).2.1) 10 (by decide) qf_RX3_71 rfl dX3_copyFrom_93 ?_
  refine p3_10 hM hK hX (hI.1 _ (id_P hv).2.1) qf_RX3_71 dX3_copyFrom_96 (fun S_24 e_25 H locs hX => ?_)
  replace hq := hq S_24 e_25
  refine lv_aload_n hM.1 hM.2.1 dX3_copyFrom_99 rfl (lv_at hl 0 rfl) ?_
  refine lv_aload_n hM.1 hM.2.1 dX3_copyFrom_100 rfl (lv_at hl 1 rfl) ?_
  refine g3 hM hK hX (hI.1 _ (id_P hv1).2.1) 11 (by decide) qf_RX3_44 rfl dX3_copyFrom_101 ?_
  refine p3_11 hM hK hX (hI.1 _ (id_P hv).2.1) qf_RX3_44 dX3_copyFrom_104 (fun S_26 e_27 H locs hX => ?_)
  replace hq := hq S_26 e_27
  refine lv_aload_n hM.1 hM.2.1 dX3_copyFrom_107 rfl (lv_at hl 0 rfl) ?_
  refine lv_aload_n hM.1 hM.2.1 dX3_copyFrom_108 rfl (lv_at hl 1 rfl) ?_
  refine g3 hM hK hX (hI.1 _ (id_P hv1).2.1) 12 (by decide) qf_RX3_47 rfl dX3_copyFrom_109 ?_
  refine p3_12 hM hK hX (hI.1 _ (id_P hv).2.1) qf_RX3_47 dX3_copyFrom_112 (fun S_28 e_29 H locs hX => ?_)
  replace hq := hq S_28 e_29
  exact e_v hM hX hlocks hret hq dX3_copyFrom_115
def rmX1_save : Room := { frames := 3, cells := 0, slots := 0, locals := 65 }
theorem kX1_save {R : Room} {s : State} {args : Array Value} {own : String} {index : Nat} (ht : ∀ w ∈ lw_all, w.before args s = true) (hl : Cond.methodLink own index yX1_save ∈ lw_all) (hf : rmX1_save.frames + 1 ≤ R.frames) (hlo : 8 + (2 + 11) + rmX1_save.locals ≤ R.locals) : CallW R s args own RX1 index yX1_save cX1_save 2 none (wA yX1_save cX1_save 2 none) rmX1_save 0 0 1 := cwV 1 ht (good_V hl qm_yX1_save qs_yX1_save qi_RX1 qc_yX1_save) rfl rfl rfl (by decide +kernel) ⟨hf, hlo⟩
set_option maxRecDepth 100000 in
set_option maxHeartbeats 4000000 in
theorem met_X1_save (l : Launch) (D : va_G) (ad : Adr) (cy : Nat → ClassId) (S : Mem) (P1 : Nat) {Q : Mem → Prop} (hv1 : P1 < 11) (hq : vc_X1_save S P1 Q) : Cv l yX1_save (wA yX1_save cX1_save 2 none) rmX1_save D ad cy (IN []) [.ref (ad 1 0 0), .ref (ad 3 P1 0)] S Q := by
  intro o sz hI
  refine mkC (own := RX1) (lv := [(0, .ref (ad 1 0 0)), (1, .ref (ad 3 P1 0))]) (by decide) rfl (Nat.le_of_ble_eq_true rfl) rfl ?_
  intro p e s m below meth c ls hsz hM hlocks hret hK hA hX hl
  unfold vc_X1_save at hq
  refine lv_aload_n hM.1 hM.2.1 dX1_save_0 rfl (lv_at hl 0 rfl) ?_
  refine lv_aload_n hM.1 hM.2.1 dX1_save_1 rfl (lv_at hl 0 rfl) ?_
  refine g1 hM hK hX (hI.1 _ m1) 2 (by decide) qf_RX1_22 rfl dX1_save_2 ?_
  refine cVr (As := [.int (S 1 0 0 2)]) hM hK hX ⟨hI.1, trivial⟩ hA (met_X1_stateAt l D ad cy S (S 1 0 0 2) hq) (kX1_stateAt hM.2.2.2.2 ql_RX1_26 (Nat.le_of_ble_eq_true rfl) (Nat.le_of_ble_eq_true rfl)) (v1 hK hX (hI.1 _ m1)) rfl hl.1 rfl (Nat.le_of_ble_eq_true rfl) dX1_save_5 ⟨Nat.zero_le _, Nat.zero_le _⟩ (fun S_1 P_2 i_3 hq H locs hX => ?_)
  have c_4 := hq.1
  replace hq := hq.2
  subst c_4
  refine lv_aload_n hM.1 hM.2.1 dX1_save_8 rfl (lv_at hl 1 rfl) ?_
  have hP_5 := hq.1
  replace hq := hq.2
  refine cVv (As := [.ref (ad 3 P1 0)]) hM hK hX ⟨hI.1, trivial⟩ hA (met_X3_copyFrom l D ad cy S_1 P_2 P1 hP_5 hv1 hq) (kX3_copyFrom hM.2.2.2.2 ql_RX1_30 (Nat.le_of_ble_eq_true rfl) (Nat.le_of_ble_eq_true rfl)) (v3 hK hX (hI.1 _ (id_P hP_5).2.1)) rfl hl.1 rfl (Nat.le_of_ble_eq_true rfl) dX1_save_9 ⟨Nat.zero_le _, Nat.zero_le _⟩ (fun S_6 hq H locs hX => ?_)
  refine lv_aload_n hM.1 hM.2.1 dX1_save_12 rfl (lv_at hl 0 rfl) ?_
  refine lv_aload_n hM.1 hM.2.1 dX1_save_13 rfl (lv_at hl 0 rfl) ?_
  refine g1 hM hK hX (hI.1 _ m1) 2 (by decide) qf_RX1_22 rfl dX1_save_14 ?_
  refine lv_iconst (v := (1 : Int32)) hM.1 hM.2.1 dX1_save_17 (by decide) ?_
  refine lv_iadd hM.1 hM.2.1 dX1_save_18 ?_
  refine lv_bipush (v := (6 : Int32)) hM.1 hM.2.1 dX1_save_19 (by decide) ?_
  have c_7 := hq.1
  replace hq := hq.2
  refine lv_irem hM.1 hM.2.1 dX1_save_21 c_7 ?_
  refine p1_2 hM hK hX (hI.1 _ m1) qf_RX1_22 dX1_save_22 (fun S_8 e_9 H locs hX => ?_)
  replace hq := hq S_8 e_9
  refine lv_aload_n hM.1 hM.2.1 dX1_save_25 rfl (lv_at hl 0 rfl) ?_
  refine lv_aload_n hM.1 hM.2.1 dX1_save_26 rfl (lv_at hl 0 rfl) ?_
  refine g1 hM hK hX (hI.1 _ m1) 3 (by decide) qf_RX1_34 rfl dX1_save_27 ?_
  refine lv_iconst (v := (1 : Int32)) hM.1 hM.2.1 dX1_save_30 (by decide) ?_
  refine lv_iadd hM.1 hM.2.1 dX1_save_31 ?_
  refine lv_bipush (v := (6 : Int32)) hM.1 hM.2.1 dX1_save_32 (by decide) ?_
  refine r_min hM hl.1 ql_RX1_37 (Nat.le_of_ble_eq_true rfl) (Nat.le_of_ble_eq_true rfl) (Nat.le_of_ble_eq_true rfl) (Nat.le_of_ble_eq_true rfl) dX1_save_34 ?_
  refine p1_3 hM hK hX (hI.1 _ m1) qf_RX1_34 dX1_save_37 (fun S_10 e_11 H locs hX => ?_)
  replace hq := hq S_10 e_11
  exact e_v hM hX hlocks hret hq dX1_save_40
def rmX3_has : Room := { frames := 0, cells := 0, slots := 0, locals := 0 }
theorem kX3_has {R : Room} {s : State} {args : Array Value} {own : String} {index : Nat} (ht : ∀ w ∈ lw_all, w.before args s = true) (hl : Cond.methodLink own index yX3_has ∈ lw_all) (hf : rmX3_has.frames + 1 ≤ R.frames) (hlo : 8 + (2 + 11) + rmX3_has.locals ≤ R.locals) : CallW R s args own RX3 index yX3_has cX3_has 2 (some Jvm.ClassFile.FieldType.boolean) (wA yX3_has cX3_has 2 (some Jvm.ClassFile.FieldType.boolean)) rmX3_has 0 0 1 := cwV 1 ht (good_V hl qm_yX3_has qs_yX3_has qi_RX3 qc_yX3_has) rfl rfl rfl (by decide +kernel) ⟨hf, hlo⟩
set_option maxRecDepth 100000 in
set_option maxHeartbeats 4000000 in
theorem met_X3_has (l : Launch) (D : va_G) (ad : Adr) (cy : Nat → ClassId) (S : Mem) (P : Nat) (x1 : Int32) {Q : Mem → Int32 → Prop} (hv : P < 11) (hq : vc_X3_has S P x1 Q) : Ci l yX3_has (wA yX3_has cX3_has 2 (some Jvm.ClassFile.FieldType.boolean)) rmX3_has D ad cy (IN []) [.ref (ad 3 P 0), .int x1] S Q := by
  intro o sz hI
  refine mkC (own := RX3) (lv := [(0, .ref (ad 3 P 0)), (1, .int x1)]) (by decide) rfl (Nat.le_of_ble_eq_true rfl) rfl ?_
  intro p e s m below meth c ls hsz hM hlocks hret hK hA hX hl
  unfold vc_X3_has at hq
  refine lv_iload_n hM.1 hM.2.1 dX3_has_0 rfl (lv_at hl 1 rfl) ?_
  refine lv_if_lt (tgt := 16) hM.1 hM.2.1 dX3_has_1 (by decide) (fun c_1 => ?_) (fun c_1 => ?_)
  · replace hq := hq.1 c_1
    refine lv_iconst (v := (0 : Int32)) hM.1 hM.2.1 dX3_has_16 (by decide) ?_
    exact e_z hM hX hlocks hret rfl hq dX3_has_17
  replace hq := hq.2 c_1
  refine lv_iload_n hM.1 hM.2.1 dX3_has_4 rfl (lv_at hl 1 rfl) ?_
  refine lv_aload_n hM.1 hM.2.1 dX3_has_5 rfl (lv_at hl 0 rfl) ?_
  refine g3 hM hK hX (hI.1 _ (id_P hv).2.1) 6 (by decide) qf_RX3_50 rfl dX3_has_6 ?_
  refine lv_icmp_ge (tgt := 16) hM.1 hM.2.1 dX3_has_9 (by decide) (fun c_2 => ?_) (fun c_2 => ?_)
  · replace hq := hq.1 c_2
    refine lv_iconst (v := (0 : Int32)) hM.1 hM.2.1 dX3_has_16 (by decide) ?_
    exact e_z hM hX hlocks hret rfl hq dX3_has_17
  replace hq := hq.2 c_2
  refine lv_iconst (v := (1 : Int32)) hM.1 hM.2.1 dX3_has_12 (by decide) ?_
  refine lv_goto (tgt := 17) hM.1 hM.2.1 dX3_has_13 (by decide) ?_
  exact e_z hM hX hlocks hret rfl hq dX3_has_17
def rmX3_hasRoom : Room := { frames := 0, cells := 0, slots := 0, locals := 0 }
theorem kX3_hasRoom {R : Room} {s : State} {args : Array Value} {own : String} {index : Nat} (ht : ∀ w ∈ lw_all, w.before args s = true) (hl : Cond.methodLink own index yX3_hasRoom ∈ lw_all) (hf : rmX3_hasRoom.frames + 1 ≤ R.frames) (hlo : 8 + (1 + 11) + rmX3_hasRoom.locals ≤ R.locals) : CallW R s args own RX3 index yX3_hasRoom cX3_hasRoom 1 (some Jvm.ClassFile.FieldType.boolean) (wA yX3_hasRoom cX3_hasRoom 1 (some Jvm.ClassFile.FieldType.boolean)) rmX3_hasRoom 0 0 0 := cwV 0 ht (good_V hl qm_yX3_hasRoom qs_yX3_hasRoom qi_RX3 qc_yX3_hasRoom) rfl rfl rfl (by decide +kernel) ⟨hf, hlo⟩
set_option maxRecDepth 100000 in
set_option maxHeartbeats 4000000 in
theorem met_X3_hasRoom (l : Launch) (D : va_G) (ad : Adr) (cy : Nat → ClassId) (S : Mem) (P : Nat) {Q : Mem → Int32 → Prop} (hv : P < 11) (hq : vc_X3_hasRoom S P Q) : Ci l yX3_hasRoom (wA yX3_hasRoom cX3_hasRoom 1 (some Jvm.ClassFile.FieldType.boolean)) rmX3_hasRoom D ad cy (IN []) [.ref (ad 3 P 0)] S Q := by
  intro o sz hI
  refine mkC (own := RX3) (lv := [(0, .ref (ad 3 P 0))]) (by decide) rfl (Nat.le_of_ble_eq_true rfl) rfl ?_
  intro p e s m below meth c ls hsz hM hlocks hret hK hA hX hl
  unfold vc_X3_hasRoom at hq
  refine lv_aload_n hM.1 hM.2.1 dX3_hasRoom_0 rfl (lv_at hl 0 rfl) ?_
  refine g3 hM hK hX (hI.1 _ (id_P hv).2.1) 6 (by decide) qf_RX3_50 rfl dX3_hasRoom_1 ?_
  refine lv_bipush (v := (10 : Int32)) hM.1 hM.2.1 dX3_hasRoom_4 (by decide) ?_
  refine lv_icmp_ge (tgt := 13) hM.1 hM.2.1 dX3_hasRoom_6 (by decide) (fun c_1 => ?_) (fun c_1 => ?_)
  · replace hq := hq.1 c_1
    refine lv_iconst (v := (0 : Int32)) hM.1 hM.2.1 dX3_hasRoom_13 (by decide) ?_
    exact e_z hM hX hlocks hret rfl hq dX3_hasRoom_14
  replace hq := hq.2 c_1
  refine lv_iconst (v := (1 : Int32)) hM.1 hM.2.1 dX3_hasRoom_9 (by decide) ?_
  refine lv_goto (tgt := 14) hM.1 hM.2.1 dX3_hasRoom_10 (by decide) ?_
  exact e_z hM hX hlocks hret rfl hq dX3_hasRoom_14
def rmX3_hasHoursLeft : Room := { frames := 0, cells := 0, slots := 0, locals := 0 }
theorem kX3_hasHoursLeft {R : Room} {s : State} {args : Array Value} {own : String} {index : Nat} (ht : ∀ w ∈ lw_all, w.before args s = true) (hl : Cond.methodLink own index yX3_hasHoursLeft ∈ lw_all) (hf : rmX3_hasHoursLeft.frames + 1 ≤ R.frames) (hlo : 8 + (2 + 11) + rmX3_hasHoursLeft.locals ≤ R.locals) : CallW R s args own RX3 index yX3_hasHoursLeft cX3_hasHoursLeft 2 (some Jvm.ClassFile.FieldType.boolean) (wA yX3_hasHoursLeft cX3_hasHoursLeft 2 (some Jvm.ClassFile.FieldType.boolean)) rmX3_hasHoursLeft 0 0 1 := cwV 1 ht (good_V hl qm_yX3_hasHoursLeft qs_yX3_hasHoursLeft qi_RX3 qc_yX3_hasHoursLeft) rfl rfl rfl (by decide +kernel) ⟨hf, hlo⟩
set_option maxRecDepth 100000 in
set_option maxHeartbeats 4000000 in
theorem met_X3_hasHoursLeft (l : Launch) (D : va_G) (ad : Adr) (cy : Nat → ClassId) (S : Mem) (P : Nat) (x1 : Int32) {Q : Mem → Int32 → Prop} (hv : P < 11) (hq : vc_X3_hasHoursLeft S P x1 Q) : Ci l yX3_hasHoursLeft (wA yX3_hasHoursLeft cX3_hasHoursLeft 2 (some Jvm.ClassFile.FieldType.boolean)) rmX3_hasHoursLeft D ad cy (IN []) [.ref (ad 3 P 0), .int x1] S Q := by
  intro o sz hI
  refine mkC (own := RX3) (lv := [(0, .ref (ad 3 P 0)), (1, .int x1)]) (by decide) rfl (Nat.le_of_ble_eq_true rfl) rfl ?_
  intro p e s m below meth c ls hsz hM hlocks hret hK hA hX hl
  unfold vc_X3_hasHoursLeft at hq
  refine lv_aload_n hM.1 hM.2.1 dX3_hasHoursLeft_0 rfl (lv_at hl 0 rfl) ?_
  refine g3 hM hK hX (hI.1 _ (id_P hv).2.1) 7 (by decide) qf_RX3_65 rfl dX3_hasHoursLeft_1 ?_
  refine lv_sipush (v := (9999 : Int32)) hM.1 hM.2.1 dX3_hasHoursLeft_4 (by decide) ?_
  refine lv_iload_n hM.1 hM.2.1 dX3_hasHoursLeft_7 rfl (lv_at hl 1 rfl) ?_
  refine lv_isub hM.1 hM.2.1 dX3_hasHoursLeft_8 ?_
  refine lv_icmp_gt (tgt := 16) hM.1 hM.2.1 dX3_hasHoursLeft_9 (by decide) (fun c_1 => ?_) (fun c_1 => ?_)
  · replace hq := hq.1 c_1
    refine lv_iconst (v := (0 : Int32)) hM.1 hM.2.1 dX3_hasHoursLeft_16 (by decide) ?_
    exact e_z hM hX hlocks hret rfl hq dX3_hasHoursLeft_17
  replace hq := hq.2 c_1
  refine lv_iconst (v := (1 : Int32)) hM.1 hM.2.1 dX3_hasHoursLeft_12 (by decide) ?_
  refine lv_goto (tgt := 17) hM.1 hM.2.1 dX3_hasHoursLeft_13 (by decide) ?_
  exact e_z hM hX hlocks hret rfl hq dX3_hasHoursLeft_17
def rmX5_startAfresh : Room := { frames := 0, cells := 0, slots := 0, locals := 0 }
theorem kX5_startAfresh {R : Room} {s : State} {args : Array Value} {own : String} {index : Nat} (ht : ∀ w ∈ lw_all, w.before args s = true) (hl : Cond.methodLink own index yX5_startAfresh ∈ lw_all) (hf : rmX5_startAfresh.frames + 1 ≤ R.frames) (hlo : 8 + (2 + 11) + rmX5_startAfresh.locals ≤ R.locals) : CallW R s args own RX5 index yX5_startAfresh cX5_startAfresh 2 none (wA yX5_startAfresh cX5_startAfresh 2 none) rmX5_startAfresh 0 0 1 := cwV 1 ht (good_V hl qm_yX5_startAfresh qs_yX5_startAfresh qi_RX5 qc_yX5_startAfresh) rfl rfl rfl (by decide +kernel) ⟨hf, hlo⟩
set_option maxRecDepth 100000 in
set_option maxHeartbeats 4000000 in
theorem met_X5_startAfresh (l : Launch) (D : va_G) (ad : Adr) (cy : Nat → ClassId) (S : Mem) (P : Nat) (i : Nat) (x1 : Int32) {Q : Mem → Prop} (hv : P < 11 ∧ i < 11) (hq : vc_X5_startAfresh S P i x1 Q) : Cv l yX5_startAfresh (wA yX5_startAfresh cX5_startAfresh 2 none) rmX5_startAfresh D ad cy (IN []) [.ref (ad 5 P i), .int x1] S Q := by
  intro o sz hI
  refine mkC (own := RX5) (lv := [(0, .ref (ad 5 P i)), (1, .int x1)]) (by decide) rfl (Nat.le_of_ble_eq_true rfl) rfl ?_
  intro p e s m below meth c ls hsz hM hlocks hret hK hA hX hl
  unfold vc_X5_startAfresh at hq
  refine lv_aload_n hM.1 hM.2.1 dX5_startAfresh_0 rfl (lv_at hl 0 rfl) ?_
  refine lv_iload_n hM.1 hM.2.1 dX5_startAfresh_1 rfl (lv_at hl 1 rfl) ?_
  refine lv_aload_n hM.1 hM.2.1 dX5_startAfresh_2 rfl (lv_at hl 0 rfl) ?_
  refine g5 hM hK hX (hI.1 _ (id_T hv).1) 4 (by decide) qf_RX5_32 rfl dX5_startAfresh_3 ?_
  refine lv_iadd hM.1 hM.2.1 dX5_startAfresh_6 ?_
  refine p5_7 hM hK hX (hI.1 _ (id_T hv).1) qf_RX5_42 dX5_startAfresh_7 (fun S_1 e_2 H locs hX => ?_)
  replace hq := hq S_1 e_2
  refine lv_aload_n hM.1 hM.2.1 dX5_startAfresh_10 rfl (lv_at hl 0 rfl) ?_
  refine lv_iconst (v := (0 : Int32)) hM.1 hM.2.1 dX5_startAfresh_11 (by decide) ?_
  refine p5_2 hM hK hX (hI.1 _ (id_T hv).1) qf_RX5_45 dX5_startAfresh_12 (fun S_3 e_4 H locs hX => ?_)
  replace hq := hq S_3 e_4
  refine lv_aload_n hM.1 hM.2.1 dX5_startAfresh_15 rfl (lv_at hl 0 rfl) ?_
  refine lv_ldc hM.1 hM.2.1 hM.2.2.2.1 (hM.2.2.2.2 _ qn_RX5_25) dX5_startAfresh_16 ?_
  refine p5_11 hM hK hX (hI.1 _ (id_T hv).1) qf_RX5_26 dX5_startAfresh_18 (fun S_5 e_6 H locs hX => ?_)
  replace hq := hq S_5 e_6
  refine lv_aload_n hM.1 hM.2.1 dX5_startAfresh_21 rfl (lv_at hl 0 rfl) ?_
  refine lv_iconst (v := (0 : Int32)) hM.1 hM.2.1 dX5_startAfresh_22 (by decide) ?_
  refine p5_8 hM hK hX (hI.1 _ (id_T hv).1) qf_RX5_48 dX5_startAfresh_23 (fun S_7 e_8 H locs hX => ?_)
  replace hq := hq S_7 e_8
  refine lv_aload_n hM.1 hM.2.1 dX5_startAfresh_26 rfl (lv_at hl 0 rfl) ?_
  refine lv_iconst (v := (0 : Int32)) hM.1 hM.2.1 dX5_startAfresh_27 (by decide) ?_
  refine p5_10 hM hK hX (hI.1 _ (id_T hv).1) ⟨rfl, rfl⟩ qf_RX5_51 dX5_startAfresh_28 (fun S_9 e_10 H locs hX => ?_)
  replace hq := hq S_9 e_10
  exact e_v hM hX hlocks hret hq dX5_startAfresh_31
def rmX5_begin : Room := { frames := 1, cells := 0, slots := 0, locals := 21 }
theorem kX5_begin {R : Room} {s : State} {args : Array Value} {own : String} {index : Nat} (ht : ∀ w ∈ lw_all, w.before args s = true) (hl : Cond.methodLink own index yX5_begin ∈ lw_all) (hf : rmX5_begin.frames + 1 ≤ R.frames) (hlo : 8 + (6 + 11) + rmX5_begin.locals ≤ R.locals) : CallW R s args own RX5 index yX5_begin cX5_begin 6 none (wA yX5_begin cX5_begin 6 none) rmX5_begin 0 0 5 := cwV 5 ht (good_V hl qm_yX5_begin qs_yX5_begin qi_RX5 qc_yX5_begin) rfl rfl rfl (by decide +kernel) ⟨hf, hlo⟩
set_option maxRecDepth 100000 in
set_option maxHeartbeats 4000000 in
theorem met_X5_begin (l : Launch) (D : va_G) (ad : Adr) (cy : Nat → ClassId) (S : Mem) (P : Nat) (i : Nat) (x1 : Int32) (x2 : Int32) (x3 : Int32) (x4 : Int32) (x5 : Int32) {Q : Mem → Prop} (hv : P < 11 ∧ i < 11) (hq : vc_X5_begin S P i x1 x2 x3 x4 x5 Q) : Cv l yX5_begin (wA yX5_begin cX5_begin 6 none) rmX5_begin D ad cy (IN []) [.ref (ad 5 P i), .int x1, .int x2, .int x3, .int x4, .int x5] S Q := by
  intro o sz hI
  refine mkC (own := RX5) (lv := [(0, .ref (ad 5 P i)), (1, .int x1), (2, .int x2), (3, .int x3), (4, .int x4), (5, .int x5)]) (by decide) rfl (Nat.le_of_ble_eq_true rfl) rfl ?_
  intro p e s m below meth c ls hsz hM hlocks hret hK hA hX hl
  unfold vc_X5_begin at hq
  refine lv_aload_n hM.1 hM.2.1 dX5_begin_0 rfl (lv_at hl 0 rfl) ?_
  refine lv_iload_n hM.1 hM.2.1 dX5_begin_1 rfl (lv_at hl 1 rfl) ?_
  refine p5_5 hM hK hX (hI.1 _ (id_T hv).1) qf_RX5_29 dX5_begin_2 (fun S_1 e_2 H locs hX => ?_)
  replace hq := hq S_1 e_2
  refine lv_aload_n hM.1 hM.2.1 dX5_begin_5 rfl (lv_at hl 0 rfl) ?_
  refine lv_iload_n hM.1 hM.2.1 dX5_begin_6 rfl (lv_at hl 2 rfl) ?_
  refine p5_3 hM hK hX (hI.1 _ (id_T hv).1) qf_RX5_18 dX5_begin_7 (fun S_3 e_4 H locs hX => ?_)
  replace hq := hq S_3 e_4
  refine lv_aload_n hM.1 hM.2.1 dX5_begin_10 rfl (lv_at hl 0 rfl) ?_
  refine lv_iload_n hM.1 hM.2.1 dX5_begin_11 rfl (lv_at hl 3 rfl) ?_
  refine p5_4 hM hK hX (hI.1 _ (id_T hv).1) qf_RX5_32 dX5_begin_12 (fun S_5 e_6 H locs hX => ?_)
  replace hq := hq S_5 e_6
  refine lv_aload_n hM.1 hM.2.1 dX5_begin_15 rfl (lv_at hl 0 rfl) ?_
  refine lv_iload hM.1 hM.2.1 dX5_begin_16 (lv_at hl 4 rfl) ?_
  refine p5_6 hM hK hX (hI.1 _ (id_T hv).1) qf_RX5_22 dX5_begin_18 (fun S_7 e_8 H locs hX => ?_)
  replace hq := hq S_7 e_8
  refine lv_aload_n hM.1 hM.2.1 dX5_begin_21 rfl (lv_at hl 0 rfl) ?_
  refine lv_iconst (v := (0 : Int32)) hM.1 hM.2.1 dX5_begin_22 (by decide) ?_
  refine p5_9 hM hK hX (hI.1 _ (id_T hv).1) qf_RX5_35 dX5_begin_23 (fun S_9 e_10 H locs hX => ?_)
  replace hq := hq S_9 e_10
  refine lv_aload_n hM.1 hM.2.1 dX5_begin_26 rfl (lv_at hl 0 rfl) ?_
  refine lv_iload hM.1 hM.2.1 dX5_begin_27 (lv_at hl 5 rfl) ?_
  refine cVv (As := [.int x5]) hM hK hX ⟨hI.1, trivial⟩ hA (met_X5_startAfresh l D ad cy S_9 P i x5 hv hq) (kX5_startAfresh hM.2.2.2.2 ql_RX5_38 (Nat.le_of_ble_eq_true rfl) (Nat.le_of_ble_eq_true rfl)) (v5 hK hX (hI.1 _ (id_T hv).1)) rfl hl.1 rfl (Nat.le_of_ble_eq_true rfl) dX5_begin_29 ⟨Nat.zero_le _, Nat.zero_le _⟩ (fun S_11 hq H locs hX => ?_)
  exact e_v hM hX hlocks hret hq dX5_begin_32
def rmX3_add : Room := { frames := 2, cells := 0, slots := 0, locals := 46 }
theorem kX3_add {R : Room} {s : State} {args : Array Value} {own : String} {index : Nat} (ht : ∀ w ∈ lw_all, w.before args s = true) (hl : Cond.methodLink own index yX3_add ∈ lw_all) (hf : rmX3_add.frames + 1 ≤ R.frames) (hlo : 8 + (6 + 11) + rmX3_add.locals ≤ R.locals) : CallW R s args own RX3 index yX3_add cX3_add 6 (some Jvm.ClassFile.FieldType.int) (wA yX3_add cX3_add 6 (some Jvm.ClassFile.FieldType.int)) rmX3_add 0 0 4 := cwV 4 ht (good_V hl qm_yX3_add qs_yX3_add qi_RX3 qc_yX3_add) rfl rfl rfl (by decide +kernel) ⟨hf, hlo⟩
set_option maxRecDepth 100000 in
set_option maxHeartbeats 4000000 in
theorem met_X3_add (l : Launch) (D : va_G) (ad : Adr) (cy : Nat → ClassId) (S : Mem) (P : Nat) (x1 : Int32) (x2 : Int32) (x3 : Int32) (x4 : Int32) {Q : Mem → Int32 → Prop} (hv : P < 11) (hq : vc_X3_add S P x1 x2 x3 x4 Q) : Ci l yX3_add (wA yX3_add cX3_add 6 (some Jvm.ClassFile.FieldType.int)) rmX3_add D ad cy (IN []) [.ref (ad 3 P 0), .int x1, .int x2, .int x3, .int x4] S Q := by
  intro o sz hI
  refine mkC (own := RX3) (lv := [(0, .ref (ad 3 P 0)), (1, .int x1), (2, .int x2), (3, .int x3), (4, .int x4)]) (by decide) rfl (Nat.le_of_ble_eq_true rfl) rfl ?_
  intro p e s m below meth c ls hsz hM hlocks hret hK hA hX hl
  unfold vc_X3_add at hq
  refine lv_aload_n hM.1 hM.2.1 dX3_add_0 rfl (lv_at hl 0 rfl) ?_
  refine g3 hM hK hX (hI.1 _ (id_P hv).2.1) 6 (by decide) qf_RX3_50 rfl dX3_add_1 ?_
  refine lv_istore (lv' := [(5, .int (S 3 P 0 6)), (0, .ref (ad 3 P 0)), (1, .int x1), (2, .int x2), (3, .int x3), (4, .int x4)]) hM.1 hM.2.1 dX3_add_4 hl (by decide) rfl (fun ls hl => ?_)
  refine lv_aload_n hM.1 hM.2.1 dX3_add_6 rfl (lv_at hl 1 rfl) ?_
  refine lv_iload hM.1 hM.2.1 dX3_add_7 (lv_at hl 0 rfl) ?_
  refine cVr (As := [.int (S 3 P 0 6)]) hM hK hX ⟨hI.1, trivial⟩ hA (met_X3_at l D ad cy S P (S 3 P 0 6) hv hq) (kX3_at hM.2.2.2.2 ql_RX3_53 (Nat.le_of_ble_eq_true rfl) (Nat.le_of_ble_eq_true rfl)) (v3 hK hX (hI.1 _ (id_P hv).2.1)) rfl hl.1 rfl (Nat.le_of_ble_eq_true rfl) dX3_add_9 ⟨Nat.zero_le _, Nat.zero_le _⟩ (fun S_1 P_2 i_3 hq H locs hX => ?_)
  refine lv_iload_n hM.1 hM.2.1 dX3_add_12 rfl (lv_at hl 2 rfl) ?_
  refine lv_iload_n hM.1 hM.2.1 dX3_add_13 rfl (lv_at hl 3 rfl) ?_
  refine lv_iload_n hM.1 hM.2.1 dX3_add_14 rfl (lv_at hl 4 rfl) ?_
  refine lv_iload hM.1 hM.2.1 dX3_add_15 (lv_at hl 5 rfl) ?_
  refine lv_aload_n hM.1 hM.2.1 dX3_add_17 rfl (lv_at hl 1 rfl) ?_
  refine g3 hM hK hX (hI.1 _ (id_P hv).2.1) 8 (by decide) qf_RX3_41 rfl dX3_add_18 ?_
  have hT_4 := hq.1
  replace hq := hq.2
  refine cVv (As := [.int x1, .int x2, .int x3, .int x4, .int (S_1 3 P 0 8)]) hM hK hX ⟨hI.1, trivial⟩ hA (met_X5_begin l D ad cy S_1 P_2 i_3 x1 x2 x3 x4 (S_1 3 P 0 8) hT_4 hq) (kX5_begin hM.2.2.2.2 ql_RX3_74 (Nat.le_of_ble_eq_true rfl) (Nat.le_of_ble_eq_true rfl)) (v5 hK hX (hI.1 _ (id_T hT_4).1)) rfl hl.1 rfl (Nat.le_of_ble_eq_true rfl) dX3_add_21 ⟨Nat.zero_le _, Nat.zero_le _⟩ (fun S_5 hq H locs hX => ?_)
  refine lv_aload_n hM.1 hM.2.1 dX3_add_24 rfl (lv_at hl 1 rfl) ?_
  refine lv_dup hM.1 hM.2.1 dX3_add_25 rfl ?_
  refine g3 hM hK hX (hI.1 _ (id_P hv).2.1) 6 (by decide) qf_RX3_50 rfl dX3_add_26 ?_
  refine lv_iconst (v := (1 : Int32)) hM.1 hM.2.1 dX3_add_29 (by decide) ?_
  refine lv_iadd hM.1 hM.2.1 dX3_add_30 ?_
  refine p3_6 hM hK hX (hI.1 _ (id_P hv).2.1) qf_RX3_50 dX3_add_31 (fun S_6 e_7 H locs hX => ?_)
  replace hq := hq S_6 e_7
  refine lv_iload hM.1 hM.2.1 dX3_add_34 (lv_at hl 0 rfl) ?_
  exact e_i hM hX hlocks hret hq dX3_add_36
def rmX3_changePeriod : Room := { frames := 0, cells := 0, slots := 0, locals := 0 }
theorem kX3_changePeriod {R : Room} {s : State} {args : Array Value} {own : String} {index : Nat} (ht : ∀ w ∈ lw_all, w.before args s = true) (hl : Cond.methodLink own index yX3_changePeriod ∈ lw_all) (hf : rmX3_changePeriod.frames + 1 ≤ R.frames) (hlo : 8 + (3 + 11) + rmX3_changePeriod.locals ≤ R.locals) : CallW R s args own RX3 index yX3_changePeriod cX3_changePeriod 3 none (wA yX3_changePeriod cX3_changePeriod 3 none) rmX3_changePeriod 0 0 2 := cwV 2 ht (good_V hl qm_yX3_changePeriod qs_yX3_changePeriod qi_RX3 qc_yX3_changePeriod) rfl rfl rfl (by decide +kernel) ⟨hf, hlo⟩
set_option maxRecDepth 100000 in
set_option maxHeartbeats 4000000 in
theorem met_X3_changePeriod (l : Launch) (D : va_G) (ad : Adr) (cy : Nat → ClassId) (S : Mem) (P : Nat) (x1 : Int32) (x2 : Int32) {Q : Mem → Prop} (hv : P < 11) (hq : vc_X3_changePeriod S P x1 x2 Q) : Cv l yX3_changePeriod (wA yX3_changePeriod cX3_changePeriod 3 none) rmX3_changePeriod D ad cy (IN []) [.ref (ad 3 P 0), .int x1, .int x2] S Q := by
  intro o sz hI
  refine mkC (own := RX3) (lv := [(0, .ref (ad 3 P 0)), (1, .int x1), (2, .int x2)]) (by decide) rfl (Nat.le_of_ble_eq_true rfl) rfl ?_
  intro p e s m below meth c ls hsz hM hlocks hret hK hA hX hl
  unfold vc_X3_changePeriod at hq
  refine lv_iload_n hM.1 hM.2.1 dX3_changePeriod_0 rfl (lv_at hl 1 rfl) ?_
  refine lv_if_lt (tgt := 20) hM.1 hM.2.1 dX3_changePeriod_1 (by decide) (fun c_1 => ?_) (fun c_1 => ?_)
  · replace hq := hq.1 c_1
    exact e_v hM hX hlocks hret hq dX3_changePeriod_20
  replace hq := hq.2 c_1
  refine lv_iload_n hM.1 hM.2.1 dX3_changePeriod_4 rfl (lv_at hl 1 rfl) ?_
  refine lv_aload_n hM.1 hM.2.1 dX3_changePeriod_5 rfl (lv_at hl 0 rfl) ?_
  refine g3 hM hK hX (hI.1 _ (id_P hv).2.1) 2 (by decide) qf_RX3_22 rfl dX3_changePeriod_6 ?_
  refine r_alen (v := (4 : Int32)) (t0 := 0) hM hK hX (hI.1 _ (id_P hv).2.2.2.2.1) rfl rfl rfl dX3_changePeriod_9 ?_
  refine lv_icmp_ge (tgt := 20) hM.1 hM.2.1 dX3_changePeriod_10 (by decide) (fun c_2 => ?_) (fun c_2 => ?_)
  · replace hq := hq.1 c_2
    exact e_v hM hX hlocks hret hq dX3_changePeriod_20
  replace hq := hq.2 c_2
  refine lv_aload_n hM.1 hM.2.1 dX3_changePeriod_13 rfl (lv_at hl 0 rfl) ?_
  refine g3 hM hK hX (hI.1 _ (id_P hv).2.1) 2 (by decide) qf_RX3_22 rfl dX3_changePeriod_14 ?_
  refine lv_iload_n hM.1 hM.2.1 dX3_changePeriod_17 rfl (lv_at hl 1 rfl) ?_
  refine lv_iload_n hM.1 hM.2.1 dX3_changePeriod_18 rfl (lv_at hl 2 rfl) ?_
  have c_4 := hq.1
  replace hq := hq.2
  refine r_iast hM hK hX (hI.1 _ (id_P hv).2.2.2.2.1) (a12 P 0) c_4 dX3_changePeriod_19 (fun S_3 e_5 H locs hX => ?_)
  replace hq := hq S_3 e_5
  exact e_v hM hX hlocks hret hq dX3_changePeriod_20
def rmX6_entry : Room := { frames := 0, cells := 0, slots := 0, locals := 0 }
theorem kX6_entry {R : Room} {s : State} {args : Array Value} {own : String} {index : Nat} (ht : ∀ w ∈ lw_all, w.before args s = true) (hl : Cond.methodLink own index yX6_entry ∈ lw_all) (hf : rmX6_entry.frames + 1 ≤ R.frames) (hlo : 8 + (2 + 11) + rmX6_entry.locals ≤ R.locals) : CallB R s args own index yX6_entry cX6_entry 2 (some Jvm.ClassFile.FieldType.int) (wA yX6_entry cX6_entry 2 (some Jvm.ClassFile.FieldType.int)) rmX6_entry 0 0 2 ∧ (Cond.static yX6_entry).before args s = true := va_cwS 2 ht (good_S hl qt_yX6_entry qi_RX6 qc_yX6_entry) rfl rfl rfl (by decide +kernel) ⟨hf, hlo⟩
theorem kNX6_entry {R : Room} {s : State} {args : Array Value} {own : String} {index : Nat} (ht : ∀ w ∈ lw_all, w.before args s = true) (hl : va_Nw (nestW (own, index, yX6_entry, RX6)) s) (hf : rmX6_entry.frames + 1 ≤ R.frames) (hlo : 8 + (2 + 11) + rmX6_entry.locals ≤ R.locals) : va_CN R s args own index yX6_entry RX6 cX6_entry 2 (some Jvm.ClassFile.FieldType.int) (wA yX6_entry cX6_entry 2 (some Jvm.ClassFile.FieldType.int)) rmX6_entry 0 0 2 ∧ (Cond.static yX6_entry).before args s = true ∧ True := ⟨va_cnB 2 ht (good_wA qc_yX6_entry) rfl rfl rfl hl (ht _ qi_RX6) (by decide +kernel) ⟨hf, hlo⟩, ht _ qt_yX6_entry, trivial⟩
set_option maxRecDepth 100000 in
set_option maxHeartbeats 4000000 in
theorem met_X6_entry (l : Launch) (D : va_G) (ad : Adr) (cy : Nat → ClassId) (S : Mem) (t0 : Nat) (P0 : Nat) (i0 : Nat) (n0 : Nat) (x1 : Int32) {Q : Mem → Int32 → Prop} (ha0 : iarr t0 P0 i0 n0) (hq : vc_X6_entry S t0 P0 i0 n0 x1 Q) : Ci l yX6_entry (wA yX6_entry cX6_entry 2 (some Jvm.ClassFile.FieldType.int)) rmX6_entry D ad cy (IN [(t0, P0, i0)]) [.ref (ad t0 P0 i0), .int x1] S Q := by
  intro o sz hI
  refine mkC (own := RX6) (lv := [(0, .ref (ad t0 P0 i0)), (1, .int x1)]) (by decide) rfl (Nat.le_of_ble_eq_true rfl) rfl ?_
  intro p e s m below meth c ls hsz hM hlocks hret hK hA hX hl
  unfold vc_X6_entry at hq
  refine lv_iload_n hM.1 hM.2.1 dX6_entry_0 rfl (lv_at hl 1 rfl) ?_
  refine lv_if_lt (tgt := 16) hM.1 hM.2.1 dX6_entry_1 (by decide) (fun c_1 => ?_) (fun c_1 => ?_)
  · replace hq := hq.1 c_1
    refine lv_ldcw hM.1 hM.2.1 hM.2.2.2.1 (hM.2.2.2.2 _ qn_RX6_283) dX6_entry_16 ?_
    exact e_i hM hX hlocks hret hq dX6_entry_19
  replace hq := hq.2 c_1
  refine lv_iload_n hM.1 hM.2.1 dX6_entry_4 rfl (lv_at hl 1 rfl) ?_
  refine lv_aload_n hM.1 hM.2.1 dX6_entry_5 rfl (lv_at hl 0 rfl) ?_
  refine r_alen (v := nI n0) (t0 := 0) hM hK hX hI.2.1 ((ha0 ad cy) _) rfl rfl dX6_entry_6 ?_
  refine lv_icmp_ge (tgt := 16) hM.1 hM.2.1 dX6_entry_7 (by decide) (fun c_2 => ?_) (fun c_2 => ?_)
  · replace hq := hq.1 c_2
    refine lv_ldcw hM.1 hM.2.1 hM.2.2.2.1 (hM.2.2.2.2 _ qn_RX6_283) dX6_entry_16 ?_
    exact e_i hM hX hlocks hret hq dX6_entry_19
  replace hq := hq.2 c_2
  refine lv_aload_n hM.1 hM.2.1 dX6_entry_10 rfl (lv_at hl 0 rfl) ?_
  refine lv_iload_n hM.1 hM.2.1 dX6_entry_11 rfl (lv_at hl 1 rfl) ?_
  have c_3 := hq.1
  replace hq := hq.2
  refine r_iald hM hK hX hI.2.1 (ha0 ad cy) c_3 dX6_entry_12 ?_
  refine lv_goto (tgt := 19) hM.1 hM.2.1 dX6_entry_13 (by decide) ?_
  exact e_i hM hX hlocks hret hq dX6_entry_19
def rmX3_periodOf : Room := { frames := 1, cells := 0, slots := 0, locals := 21 }
theorem kX3_periodOf {R : Room} {s : State} {args : Array Value} {own : String} {index : Nat} (ht : ∀ w ∈ lw_all, w.before args s = true) (hl : Cond.methodLink own index yX3_periodOf ∈ lw_all) (hf : rmX3_periodOf.frames + 1 ≤ R.frames) (hlo : 8 + (2 + 11) + rmX3_periodOf.locals ≤ R.locals) : CallW R s args own RX3 index yX3_periodOf cX3_periodOf 2 (some Jvm.ClassFile.FieldType.int) (wA yX3_periodOf cX3_periodOf 2 (some Jvm.ClassFile.FieldType.int)) rmX3_periodOf 0 0 1 := cwV 1 ht (good_V hl qm_yX3_periodOf qs_yX3_periodOf qi_RX3 qc_yX3_periodOf) rfl rfl rfl (by decide +kernel) ⟨hf, hlo⟩
set_option maxRecDepth 100000 in
set_option maxHeartbeats 4000000 in
theorem met_X3_periodOf (l : Launch) (D : va_G) (ad : Adr) (cy : Nat → ClassId) (S : Mem) (P : Nat) (x1 : Int32) {Q : Mem → Int32 → Prop} (hv : P < 11) (hq : vc_X3_periodOf S P x1 Q) : Ci l yX3_periodOf (wA yX3_periodOf cX3_periodOf 2 (some Jvm.ClassFile.FieldType.int)) rmX3_periodOf D ad cy (IN []) [.ref (ad 3 P 0), .int x1] S Q := by
  intro o sz hI
  refine mkC (own := RX3) (lv := [(0, .ref (ad 3 P 0)), (1, .int x1)]) (by decide) rfl (Nat.le_of_ble_eq_true rfl) rfl ?_
  intro p e s m below meth c ls hsz hM hlocks hret hK hA hX hl
  unfold vc_X3_periodOf at hq
  refine lv_aload_n hM.1 hM.2.1 dX3_periodOf_0 rfl (lv_at hl 0 rfl) ?_
  refine g3 hM hK hX (hI.1 _ (id_P hv).2.1) 2 (by decide) qf_RX3_22 rfl dX3_periodOf_1 ?_
  refine lv_iload_n hM.1 hM.2.1 dX3_periodOf_4 rfl (lv_at hl 1 rfl) ?_
  refine cSNi (As := [.ref (ad 12 P 0), .int x1]) hM hK hX ⟨hI.1, (hI.1 _ (id_P hv).2.2.2.2.1), trivial⟩ hA (met_X6_entry l D ad cy S 12 P 0 4 x1 (fun _ _ => (a12 P 0)) hq) (kNX6_entry hM.2.2.2.2 (hK.2 _ ql_RX3_78) (Nat.le_of_ble_eq_true rfl) (Nat.le_of_ble_eq_true rfl)) rfl hl.1 rfl (Nat.le_of_ble_eq_true rfl) dX3_periodOf_5 ⟨Nat.zero_le _, Nat.zero_le _⟩ (fun S_1 r_2 hq H locs hX => ?_)
  exact e_i hM hX hlocks hret hq dX3_periodOf_8
def rmX3_timesReadOf : Room := { frames := 1, cells := 0, slots := 0, locals := 21 }
theorem kX3_timesReadOf {R : Room} {s : State} {args : Array Value} {own : String} {index : Nat} (ht : ∀ w ∈ lw_all, w.before args s = true) (hl : Cond.methodLink own index yX3_timesReadOf ∈ lw_all) (hf : rmX3_timesReadOf.frames + 1 ≤ R.frames) (hlo : 8 + (2 + 11) + rmX3_timesReadOf.locals ≤ R.locals) : CallW R s args own RX3 index yX3_timesReadOf cX3_timesReadOf 2 (some Jvm.ClassFile.FieldType.int) (wA yX3_timesReadOf cX3_timesReadOf 2 (some Jvm.ClassFile.FieldType.int)) rmX3_timesReadOf 0 0 1 := cwV 1 ht (good_V hl qm_yX3_timesReadOf qs_yX3_timesReadOf qi_RX3 qc_yX3_timesReadOf) rfl rfl rfl (by decide +kernel) ⟨hf, hlo⟩
set_option maxRecDepth 100000 in
set_option maxHeartbeats 4000000 in
theorem met_X3_timesReadOf (l : Launch) (D : va_G) (ad : Adr) (cy : Nat → ClassId) (S : Mem) (P : Nat) (x1 : Int32) {Q : Mem → Int32 → Prop} (hv : P < 11) (hq : vc_X3_timesReadOf S P x1 Q) : Ci l yX3_timesReadOf (wA yX3_timesReadOf cX3_timesReadOf 2 (some Jvm.ClassFile.FieldType.int)) rmX3_timesReadOf D ad cy (IN []) [.ref (ad 3 P 0), .int x1] S Q := by
  intro o sz hI
  refine mkC (own := RX3) (lv := [(0, .ref (ad 3 P 0)), (1, .int x1)]) (by decide) rfl (Nat.le_of_ble_eq_true rfl) rfl ?_
  intro p e s m below meth c ls hsz hM hlocks hret hK hA hX hl
  unfold vc_X3_timesReadOf at hq
  refine lv_aload_n hM.1 hM.2.1 dX3_timesReadOf_0 rfl (lv_at hl 0 rfl) ?_
  refine g3 hM hK hX (hI.1 _ (id_P hv).2.1) 3 (by decide) qf_RX3_26 rfl dX3_timesReadOf_1 ?_
  refine lv_iload_n hM.1 hM.2.1 dX3_timesReadOf_4 rfl (lv_at hl 1 rfl) ?_
  refine cSNi (As := [.ref (ad 13 P 0), .int x1]) hM hK hX ⟨hI.1, (hI.1 _ (id_P hv).2.2.2.2.2), trivial⟩ hA (met_X6_entry l D ad cy S 13 P 0 4 x1 (fun _ _ => (a13 P 0)) hq) (kNX6_entry hM.2.2.2.2 (hK.2 _ ql_RX3_78) (Nat.le_of_ble_eq_true rfl) (Nat.le_of_ble_eq_true rfl)) rfl hl.1 rfl (Nat.le_of_ble_eq_true rfl) dX3_timesReadOf_5 ⟨Nat.zero_le _, Nat.zero_le _⟩ (fun S_1 r_2 hq H locs hX => ?_)
  exact e_i hM hX hlocks hret hq dX3_timesReadOf_8
def rmX6_remainder : Room := { frames := 0, cells := 0, slots := 0, locals := 0 }
theorem kX6_remainder {R : Room} {s : State} {args : Array Value} {own : String} {index : Nat} (ht : ∀ w ∈ lw_all, w.before args s = true) (hl : Cond.methodLink own index yX6_remainder ∈ lw_all) (hf : rmX6_remainder.frames + 1 ≤ R.frames) (hlo : 8 + (2 + 11) + rmX6_remainder.locals ≤ R.locals) : CallB R s args own index yX6_remainder cX6_remainder 2 (some Jvm.ClassFile.FieldType.int) (wA yX6_remainder cX6_remainder 2 (some Jvm.ClassFile.FieldType.int)) rmX6_remainder 0 0 2 ∧ (Cond.static yX6_remainder).before args s = true := va_cwS 2 ht (good_S hl qt_yX6_remainder qi_RX6 qc_yX6_remainder) rfl rfl rfl (by decide +kernel) ⟨hf, hlo⟩
theorem kNX6_remainder {R : Room} {s : State} {args : Array Value} {own : String} {index : Nat} (ht : ∀ w ∈ lw_all, w.before args s = true) (hl : va_Nw (nestW (own, index, yX6_remainder, RX6)) s) (hf : rmX6_remainder.frames + 1 ≤ R.frames) (hlo : 8 + (2 + 11) + rmX6_remainder.locals ≤ R.locals) : va_CN R s args own index yX6_remainder RX6 cX6_remainder 2 (some Jvm.ClassFile.FieldType.int) (wA yX6_remainder cX6_remainder 2 (some Jvm.ClassFile.FieldType.int)) rmX6_remainder 0 0 2 ∧ (Cond.static yX6_remainder).before args s = true ∧ True := ⟨va_cnB 2 ht (good_wA qc_yX6_remainder) rfl rfl rfl hl (ht _ qi_RX6) (by decide +kernel) ⟨hf, hlo⟩, ht _ qt_yX6_remainder, trivial⟩
set_option maxRecDepth 100000 in
set_option maxHeartbeats 4000000 in
theorem met_X6_remainder (l : Launch) (D : va_G) (ad : Adr) (cy : Nat → ClassId) (S : Mem) (x0 : Int32) (x1 : Int32) {Q : Mem → Int32 → Prop} (hq : vc_X6_remainder S x0 x1 Q) : Ci l yX6_remainder (wA yX6_remainder cX6_remainder 2 (some Jvm.ClassFile.FieldType.int)) rmX6_remainder D ad cy (IN []) [.int x0, .int x1] S Q := by
  intro o sz hI
  refine mkC (own := RX6) (lv := [(0, .int x0), (1, .int x1)]) (by decide) rfl (Nat.le_of_ble_eq_true rfl) rfl ?_
  intro p e s m below meth c ls hsz hM hlocks hret hK hA hX hl
  unfold vc_X6_remainder at hq
  refine lv_iload_n hM.1 hM.2.1 dX6_remainder_0 rfl (lv_at hl 1 rfl) ?_
  refine lv_if_ne (tgt := 8) hM.1 hM.2.1 dX6_remainder_1 (by decide) (fun c_1 => ?_) (fun c_1 => ?_)
  · replace hq := hq.1 c_1
    refine lv_iload_n hM.1 hM.2.1 dX6_remainder_8 rfl (lv_at hl 0 rfl) ?_
    refine lv_iload_n hM.1 hM.2.1 dX6_remainder_9 rfl (lv_at hl 1 rfl) ?_
    have c_2 := hq.1
    replace hq := hq.2
    refine lv_irem hM.1 hM.2.1 dX6_remainder_10 c_2 ?_
    exact e_i hM hX hlocks hret hq dX6_remainder_11
  replace hq := hq.2 c_1
  refine lv_iconst (v := (0 : Int32)) hM.1 hM.2.1 dX6_remainder_4 (by decide) ?_
  refine lv_goto (tgt := 11) hM.1 hM.2.1 dX6_remainder_5 (by decide) ?_
  exact e_i hM hX hlocks hret hq dX6_remainder_11
def rmX3_hoursUntilRead : Room := { frames := 2, cells := 0, slots := 0, locals := 42 }
theorem kX3_hoursUntilRead {R : Room} {s : State} {args : Array Value} {own : String} {index : Nat} (ht : ∀ w ∈ lw_all, w.before args s = true) (hl : Cond.methodLink own index yX3_hoursUntilRead ∈ lw_all) (hf : rmX3_hoursUntilRead.frames + 1 ≤ R.frames) (hlo : 8 + (2 + 11) + rmX3_hoursUntilRead.locals ≤ R.locals) : CallW R s args own RX3 index yX3_hoursUntilRead cX3_hoursUntilRead 2 (some Jvm.ClassFile.FieldType.int) (wA yX3_hoursUntilRead cX3_hoursUntilRead 2 (some Jvm.ClassFile.FieldType.int)) rmX3_hoursUntilRead 0 0 1 := cwV 1 ht (good_V hl qm_yX3_hoursUntilRead qs_yX3_hoursUntilRead qi_RX3 qc_yX3_hoursUntilRead) rfl rfl rfl (by decide +kernel) ⟨hf, hlo⟩
set_option maxRecDepth 100000 in
set_option maxHeartbeats 4000000 in
theorem met_X3_hoursUntilRead (l : Launch) (D : va_G) (ad : Adr) (cy : Nat → ClassId) (S : Mem) (P : Nat) (x1 : Int32) {Q : Mem → Int32 → Prop} (hv : P < 11) (hq : vc_X3_hoursUntilRead S P x1 Q) : Ci l yX3_hoursUntilRead (wA yX3_hoursUntilRead cX3_hoursUntilRead 2 (some Jvm.ClassFile.FieldType.int)) rmX3_hoursUntilRead D ad cy (IN []) [.ref (ad 3 P 0), .int x1] S Q := by
  intro o sz hI
  refine mkC (own := RX3) (lv := [(0, .ref (ad 3 P 0)), (1, .int x1)]) (by decide) rfl (Nat.le_of_ble_eq_true rfl) rfl ?_
  intro p e s m below meth c ls hsz hM hlocks hret hK hA hX hl
  unfold vc_X3_hoursUntilRead at hq
  refine lv_aload_n hM.1 hM.2.1 dX3_hoursUntilRead_0 rfl (lv_at hl 0 rfl) ?_
  refine lv_iload_n hM.1 hM.2.1 dX3_hoursUntilRead_1 rfl (lv_at hl 1 rfl) ?_
  refine cVi (As := [.int x1]) hM hK hX ⟨hI.1, trivial⟩ hA (met_X3_periodOf l D ad cy S P x1 hv hq) (kX3_periodOf hM.2.2.2.2 ql_RX3_82 (Nat.le_of_ble_eq_true rfl) (Nat.le_of_ble_eq_true rfl)) (v3 hK hX (hI.1 _ (id_P hv).2.1)) rfl hl.1 rfl (Nat.le_of_ble_eq_true rfl) dX3_hoursUntilRead_2 ⟨Nat.zero_le _, Nat.zero_le _⟩ (fun S_1 r_2 hq H locs hX => ?_)
  refine lv_aload_n hM.1 hM.2.1 dX3_hoursUntilRead_5 rfl (lv_at hl 0 rfl) ?_
  refine g3 hM hK hX (hI.1 _ (id_P hv).2.1) 7 (by decide) qf_RX3_65 rfl dX3_hoursUntilRead_6 ?_
  refine lv_aload_n hM.1 hM.2.1 dX3_hoursUntilRead_9 rfl (lv_at hl 0 rfl) ?_
  refine lv_iload_n hM.1 hM.2.1 dX3_hoursUntilRead_10 rfl (lv_at hl 1 rfl) ?_
  refine cVi (As := [.int x1]) hM hK hX ⟨hI.1, trivial⟩ hA (met_X3_periodOf l D ad cy S_1 P x1 hv hq) (kX3_periodOf hM.2.2.2.2 ql_RX3_82 (Nat.le_of_ble_eq_true rfl) (Nat.le_of_ble_eq_true rfl)) (v3 hK hX (hI.1 _ (id_P hv).2.1)) rfl hl.1 rfl (Nat.le_of_ble_eq_true rfl) dX3_hoursUntilRead_11 ⟨Nat.zero_le _, Nat.zero_le _⟩ (fun S_3 r_4 hq H locs hX => ?_)
  refine cSNi (As := [.int (S_1 3 P 0 7), .int r_4]) hM hK hX ⟨hI.1, trivial⟩ hA (met_X6_remainder l D ad cy S_3 (S_1 3 P 0 7) r_4 hq) (kNX6_remainder hM.2.2.2.2 (hK.2 _ ql_RX3_86) (Nat.le_of_ble_eq_true rfl) (Nat.le_of_ble_eq_true rfl)) rfl hl.1 rfl (Nat.le_of_ble_eq_true rfl) dX3_hoursUntilRead_14 ⟨Nat.zero_le _, Nat.zero_le _⟩ (fun S_5 r_6 hq H locs hX => ?_)
  refine lv_isub hM.1 hM.2.1 dX3_hoursUntilRead_17 ?_
  exact e_i hM hX hlocks hret hq dX3_hoursUntilRead_18
def rmX3_countInRow : Room := { frames := 1, cells := 0, slots := 0, locals := 22 }
theorem kX3_countInRow {R : Room} {s : State} {args : Array Value} {own : String} {index : Nat} (ht : ∀ w ∈ lw_all, w.before args s = true) (hl : Cond.methodLink own index yX3_countInRow ∈ lw_all) (hf : rmX3_countInRow.frames + 1 ≤ R.frames) (hlo : 8 + (4 + 11) + rmX3_countInRow.locals ≤ R.locals) : CallW R s args own RX3 index yX3_countInRow cX3_countInRow 4 (some Jvm.ClassFile.FieldType.int) (wA yX3_countInRow cX3_countInRow 4 (some Jvm.ClassFile.FieldType.int)) rmX3_countInRow 0 0 1 := cwV 1 ht (good_V hl qm_yX3_countInRow qs_yX3_countInRow qi_RX3 qc_yX3_countInRow) rfl rfl rfl (by decide +kernel) ⟨hf, hlo⟩
set_option maxRecDepth 100000 in
set_option maxHeartbeats 4000000 in
theorem met_X3_countInRow (l : Launch) (D : va_G) (ad : Adr) (cy : Nat → ClassId) (S : Mem) (P : Nat) (x1 : Int32) {Q : Mem → Int32 → Prop} (hv : P < 11) (hq : vc_X3_countInRow S P x1 Q) : Ci l yX3_countInRow (wA yX3_countInRow cX3_countInRow 4 (some Jvm.ClassFile.FieldType.int)) rmX3_countInRow D ad cy (IN []) [.ref (ad 3 P 0), .int x1] S Q := by
  intro o sz hI
  refine mkC (own := RX3) (lv := [(0, .ref (ad 3 P 0)), (1, .int x1)]) (by decide) rfl (Nat.le_of_ble_eq_true rfl) rfl ?_
  intro p e s m below meth c ls hsz hM hlocks hret hK hA hX hl
  have J27 : ∀ {K0 : Mem → Int32 → Int32 → Prop} (hk0 : ∀ (S : Mem) (y2 : Int32) (y3 : Int32), K0 S y2 y3 → ∀ (H : Heap) (locs : List Loc) (ls : Array Slot), PW D ad cy (AW ad o sz) s.heap o S H locs → lv_has ls 4 [(0, .ref (ad 3 P 0)), (1, .int x1), (2, .int y2), (3, .int y3)] → Wi D ad cy o sz Q p l e rmX3_countInRow s m [.ref (ad 3 P 0), .int x1] below meth c H locs (F0 m 4 ls [])), ∀ {K1 : Mem → Int32 → Prop} (hk1 : ∀ (S : Mem) (y2 : Int32), K1 S y2 → ∀ (H : Heap) (locs : List Loc) (ls : Array Slot), PW D ad cy (AW ad o sz) s.heap o S H locs → lv_has ls 4 [(2, .int y2)] → Wi D ad cy o sz Q p l e rmX3_countInRow s m [.ref (ad 3 P 0), .int x1] below meth c H locs (F0 m 33 ls [])), ∀ (S : Mem) (y2 : Int32) (y3 : Int32), vc_X3_countInRow_J27 Q K0 K1 P x1 S y2 y3 → ∀ (H : Heap) (locs : List Loc) (ls : Array Slot), PW D ad cy (AW ad o sz) s.heap o S H locs → lv_has ls 4 [(0, .ref (ad 3 P 0)), (1, .int x1), (2, .int y2), (3, .int y3)] → Wi D ad cy o sz Q p l e rmX3_countInRow s m [.ref (ad 3 P 0), .int x1] below meth c H locs (F0 m 27 ls []) := by
    intro K0 hk0 K1 hk1 S y2 y3 hq H locs ls hX hl
    unfold vc_X3_countInRow_J27 at hq
    refine lv_iinc (v := (y3 + (1 : Int32))) (lv' := [(3, .int (y3 + (1 : Int32))), (0, .ref (ad 3 P 0)), (1, .int x1), (2, .int y2)]) hM.1 hM.2.1 dX3_countInRow_27 hl (k := 3) rfl rfl (by decide) rfl (fun ls hl => ?_)
    refine lv_goto (tgt := 4) hM.1 hM.2.1 dX3_countInRow_30 (by decide) ?_
    exact hk0 S y2 (y3 + (1 : Int32)) hq _ _ _ hX (lv_sub hl [1, 2, 3, 0] rfl)
  have L4 : ∀ {K : Mem → Int32 → Prop} (hk : ∀ (S : Mem) (y2 : Int32), K S y2 → ∀ (H : Heap) (locs : List Loc) (ls : Array Slot), PW D ad cy (AW ad o sz) s.heap o S H locs → lv_has ls 4 [(2, .int y2)] → Wi D ad cy o sz Q p l e rmX3_countInRow s m [.ref (ad 3 P 0), .int x1] below meth c H locs (F0 m 33 ls [])), ∀ (n : Nat) (S : Mem) (y2 : Int32) (y3 : Int32), vc_X3_countInRow_L4 Q K P x1 n S y2 y3 → ∀ (H : Heap) (locs : List Loc) (ls : Array Slot), PW D ad cy (AW ad o sz) s.heap o S H locs → lv_has ls 4 [(0, .ref (ad 3 P 0)), (1, .int x1), (2, .int y2), (3, .int y3)] → Wi D ad cy o sz Q p l e rmX3_countInRow s m [.ref (ad 3 P 0), .int x1] below meth c H locs (F0 m 4 ls []) := by
    intro K hk n
    induction n with
    | zero =>
      intro S y2 y3 hq
      rw [vc_X3_countInRow_L4] at hq
      exact hq.elim
    | succ n ih =>
      intro S y2 y3 hq H locs ls hX hl
      rw [vc_X3_countInRow_L4] at hq
      refine lv_iload_n hM.1 hM.2.1 dX3_countInRow_4 rfl (lv_at hl 3 rfl) ?_
      refine lv_aload_n hM.1 hM.2.1 dX3_countInRow_5 rfl (lv_at hl 0 rfl) ?_
      refine g3 hM hK hX (hI.1 _ (id_P hv).2.1) 6 (by decide) qf_RX3_50 rfl dX3_countInRow_6 ?_
      refine lv_icmp_ge (tgt := 33) hM.1 hM.2.1 dX3_countInRow_9 (by decide) (fun c_1 => ?_) (fun c_1 => ?_)
      · replace hq := hq.1 c_1
        exact hk S y2 hq _ _ _ hX (lv_sub hl [2] rfl)
      replace hq := hq.2 c_1
      refine lv_aload_n hM.1 hM.2.1 dX3_countInRow_12 rfl (lv_at hl 0 rfl) ?_
      refine lv_iload_n hM.1 hM.2.1 dX3_countInRow_13 rfl (lv_at hl 3 rfl) ?_
      refine cVr (As := [.int y3]) hM hK hX ⟨hI.1, trivial⟩ hA (met_X3_at l D ad cy S P y3 hv hq) (kX3_at hM.2.2.2.2 ql_RX3_53 (Nat.le_of_ble_eq_true rfl) (Nat.le_of_ble_eq_true rfl)) (v3 hK hX (hI.1 _ (id_P hv).2.1)) rfl hl.1 rfl (Nat.le_of_ble_eq_true rfl) dX3_countInRow_14 ⟨Nat.zero_le _, Nat.zero_le _⟩ (fun S_2 P_3 i_4 hq H locs hX => ?_)
      have hT_5 := hq.1
      replace hq := hq.2
      refine g5 hM hK hX (hI.1 _ (id_T hT_5).1) 5 (by decide) qf_RX3_90 rfl dX3_countInRow_17 ?_
      refine lv_iload_n hM.1 hM.2.1 dX3_countInRow_20 rfl (lv_at hl 1 rfl) ?_
      refine lv_icmp_ne (tgt := 27) hM.1 hM.2.1 dX3_countInRow_21 (by decide) (fun c_6 => ?_) (fun c_6 => ?_)
      · replace hq := hq.1 c_6
        exact J27 ih hk S_2 y2 y3 hq _ _ _ hX (lv_sub hl [0, 1, 2, 3] rfl)
      replace hq := hq.2 c_6
      refine lv_iinc (v := (y2 + (1 : Int32))) (lv' := [(2, .int (y2 + (1 : Int32))), (0, .ref (ad 3 P 0)), (1, .int x1), (3, .int y3)]) hM.1 hM.2.1 dX3_countInRow_24 hl (k := 2) rfl rfl (by decide) rfl (fun ls hl => ?_)
      exact J27 ih hk S_2 (y2 + (1 : Int32)) y3 hq _ _ _ hX (lv_sub hl [1, 2, 0, 3] rfl)
  unfold vc_X3_countInRow at hq
  refine lv_iconst (v := (0 : Int32)) hM.1 hM.2.1 dX3_countInRow_0 (by decide) ?_
  refine lv_istore_n (lv' := [(2, .int (0 : Int32)), (0, .ref (ad 3 P 0)), (1, .int x1)]) hM.1 hM.2.1 dX3_countInRow_1 rfl hl (by decide) rfl (fun ls hl => ?_)
  refine lv_iconst (v := (0 : Int32)) hM.1 hM.2.1 dX3_countInRow_2 (by decide) ?_
  refine lv_istore_n (lv' := [(3, .int (0 : Int32)), (2, .int (0 : Int32)), (0, .ref (ad 3 P 0)), (1, .int x1)]) hM.1 hM.2.1 dX3_countInRow_3 rfl hl (by decide) rfl (fun ls hl => ?_)
  obtain ⟨k0, hq⟩ := hq
  refine L4 (fun S_7 y2_8 hq H locs ls hX hl => ?_) k0 S (0 : Int32) (0 : Int32) hq _ _ _ hX (lv_sub hl [2, 3, 1, 0] rfl)
  refine lv_iload_n hM.1 hM.2.1 dX3_countInRow_33 rfl (lv_at hl 0 rfl) ?_
  exact e_i hM hX hlocks hret hq dX3_countInRow_34
def rmX5_isAsked : Room := { frames := 0, cells := 0, slots := 0, locals := 0 }
theorem kX5_isAsked {R : Room} {s : State} {args : Array Value} {own : String} {index : Nat} (ht : ∀ w ∈ lw_all, w.before args s = true) (hl : Cond.methodLink own index yX5_isAsked ∈ lw_all) (hf : rmX5_isAsked.frames + 1 ≤ R.frames) (hlo : 8 + (1 + 11) + rmX5_isAsked.locals ≤ R.locals) : CallW R s args own RX5 index yX5_isAsked cX5_isAsked 1 (some Jvm.ClassFile.FieldType.boolean) (wA yX5_isAsked cX5_isAsked 1 (some Jvm.ClassFile.FieldType.boolean)) rmX5_isAsked 0 0 0 := cwV 0 ht (good_V hl qm_yX5_isAsked qs_yX5_isAsked qi_RX5 qc_yX5_isAsked) rfl rfl rfl (by decide +kernel) ⟨hf, hlo⟩
set_option maxRecDepth 100000 in
set_option maxHeartbeats 4000000 in
theorem met_X5_isAsked (l : Launch) (D : va_G) (ad : Adr) (cy : Nat → ClassId) (S : Mem) (P : Nat) (i : Nat) {Q : Mem → Int32 → Prop} (hv : P < 11 ∧ i < 11) (hq : vc_X5_isAsked S P i Q) : Ci l yX5_isAsked (wA yX5_isAsked cX5_isAsked 1 (some Jvm.ClassFile.FieldType.boolean)) rmX5_isAsked D ad cy (IN []) [.ref (ad 5 P i)] S Q := by
  intro o sz hI
  refine mkC (own := RX5) (lv := [(0, .ref (ad 5 P i))]) (by decide) rfl (Nat.le_of_ble_eq_true rfl) rfl ?_
  intro p e s m below meth c ls hsz hM hlocks hret hK hA hX hl
  unfold vc_X5_isAsked at hq
  refine lv_aload_n hM.1 hM.2.1 dX5_isAsked_0 rfl (lv_at hl 0 rfl) ?_
  refine g5 hM hK hX (hI.1 _ (id_T hv).1) 2 (by decide) qf_RX5_45 rfl dX5_isAsked_1 ?_
  refine lv_if_le (tgt := 18) hM.1 hM.2.1 dX5_isAsked_4 (by decide) (fun c_1 => ?_) (fun c_1 => ?_)
  · replace hq := hq.1 c_1
    refine lv_iconst (v := (0 : Int32)) hM.1 hM.2.1 dX5_isAsked_18 (by decide) ?_
    exact e_z hM hX hlocks hret rfl hq dX5_isAsked_19
  replace hq := hq.2 c_1
  refine lv_aload_n hM.1 hM.2.1 dX5_isAsked_7 rfl (lv_at hl 0 rfl) ?_
  refine g5 hM hK hX (hI.1 _ (id_T hv).1) 10 (by decide) qf_RX5_51 rfl dX5_isAsked_8 ?_
  refine lv_if_ne (tgt := 18) hM.1 hM.2.1 dX5_isAsked_11 (by decide) (fun c_2 => ?_) (fun c_2 => ?_)
  · replace hq := hq.1 c_2
    refine lv_iconst (v := (0 : Int32)) hM.1 hM.2.1 dX5_isAsked_18 (by decide) ?_
    exact e_z hM hX hlocks hret rfl hq dX5_isAsked_19
  replace hq := hq.2 c_2
  refine lv_iconst (v := (1 : Int32)) hM.1 hM.2.1 dX5_isAsked_14 (by decide) ?_
  refine lv_goto (tgt := 19) hM.1 hM.2.1 dX5_isAsked_15 (by decide) ?_
  exact e_z hM hX hlocks hret rfl hq dX5_isAsked_19
def rmX6_quotient : Room := { frames := 0, cells := 0, slots := 0, locals := 0 }
theorem kX6_quotient {R : Room} {s : State} {args : Array Value} {own : String} {index : Nat} (ht : ∀ w ∈ lw_all, w.before args s = true) (hl : Cond.methodLink own index yX6_quotient ∈ lw_all) (hf : rmX6_quotient.frames + 1 ≤ R.frames) (hlo : 8 + (2 + 11) + rmX6_quotient.locals ≤ R.locals) : CallB R s args own index yX6_quotient cX6_quotient 2 (some Jvm.ClassFile.FieldType.int) (wA yX6_quotient cX6_quotient 2 (some Jvm.ClassFile.FieldType.int)) rmX6_quotient 0 0 2 ∧ (Cond.static yX6_quotient).before args s = true := va_cwS 2 ht (good_S hl qt_yX6_quotient qi_RX6 qc_yX6_quotient) rfl rfl rfl (by decide +kernel) ⟨hf, hlo⟩
theorem kNX6_quotient {R : Room} {s : State} {args : Array Value} {own : String} {index : Nat} (ht : ∀ w ∈ lw_all, w.before args s = true) (hl : va_Nw (nestW (own, index, yX6_quotient, RX6)) s) (hf : rmX6_quotient.frames + 1 ≤ R.frames) (hlo : 8 + (2 + 11) + rmX6_quotient.locals ≤ R.locals) : va_CN R s args own index yX6_quotient RX6 cX6_quotient 2 (some Jvm.ClassFile.FieldType.int) (wA yX6_quotient cX6_quotient 2 (some Jvm.ClassFile.FieldType.int)) rmX6_quotient 0 0 2 ∧ (Cond.static yX6_quotient).before args s = true ∧ True := ⟨va_cnB 2 ht (good_wA qc_yX6_quotient) rfl rfl rfl hl (ht _ qi_RX6) (by decide +kernel) ⟨hf, hlo⟩, ht _ qt_yX6_quotient, trivial⟩
set_option maxRecDepth 100000 in
set_option maxHeartbeats 4000000 in
theorem met_X6_quotient (l : Launch) (D : va_G) (ad : Adr) (cy : Nat → ClassId) (S : Mem) (x0 : Int32) (x1 : Int32) {Q : Mem → Int32 → Prop} (hq : vc_X6_quotient S x0 x1 Q) : Ci l yX6_quotient (wA yX6_quotient cX6_quotient 2 (some Jvm.ClassFile.FieldType.int)) rmX6_quotient D ad cy (IN []) [.int x0, .int x1] S Q := by
  intro o sz hI
  refine mkC (own := RX6) (lv := [(0, .int x0), (1, .int x1)]) (by decide) rfl (Nat.le_of_ble_eq_true rfl) rfl ?_
  intro p e s m below meth c ls hsz hM hlocks hret hK hA hX hl
  unfold vc_X6_quotient at hq
  refine lv_iload_n hM.1 hM.2.1 dX6_quotient_0 rfl (lv_at hl 1 rfl) ?_
  refine lv_if_ne (tgt := 8) hM.1 hM.2.1 dX6_quotient_1 (by decide) (fun c_1 => ?_) (fun c_1 => ?_)
  · replace hq := hq.1 c_1
    refine lv_iload_n hM.1 hM.2.1 dX6_quotient_8 rfl (lv_at hl 0 rfl) ?_
    refine lv_iload_n hM.1 hM.2.1 dX6_quotient_9 rfl (lv_at hl 1 rfl) ?_
    have c_2 := hq.1
    replace hq := hq.2
    refine lv_idiv hM.1 hM.2.1 dX6_quotient_10 c_2 ?_
    exact e_i hM hX hlocks hret hq dX6_quotient_11
  replace hq := hq.2 c_1
  refine lv_iconst (v := (0 : Int32)) hM.1 hM.2.1 dX6_quotient_4 (by decide) ?_
  refine lv_goto (tgt := 11) hM.1 hM.2.1 dX6_quotient_5 (by decide) ?_
  exact e_i hM hX hlocks hret hq dX6_quotient_11
def rmX3_mean : Room := { frames := 1, cells := 0, slots := 0, locals := 22 }
theorem kX3_mean {R : Room} {s : State} {args : Array Value} {own : String} {index : Nat} (ht : ∀ w ∈ lw_all, w.before args s = true) (hl : Cond.methodLink own index yX3_mean ∈ lw_all) (hf : rmX3_mean.frames + 1 ≤ R.frames) (hlo : 8 + (4 + 11) + rmX3_mean.locals ≤ R.locals) : CallW R s args own RX3 index yX3_mean cX3_mean 4 (some Jvm.ClassFile.FieldType.int) (wA yX3_mean cX3_mean 4 (some Jvm.ClassFile.FieldType.int)) rmX3_mean 0 0 0 := cwV 0 ht (good_V hl qm_yX3_mean qs_yX3_mean qi_RX3 qc_yX3_mean) rfl rfl rfl (by decide +kernel) ⟨hf, hlo⟩
set_option maxRecDepth 100000 in
set_option maxHeartbeats 4000000 in
theorem met_X3_mean (l : Launch) (D : va_G) (ad : Adr) (cy : Nat → ClassId) (S : Mem) (P : Nat) {Q : Mem → Int32 → Prop} (hv : P < 11) (hq : vc_X3_mean S P Q) : Ci l yX3_mean (wA yX3_mean cX3_mean 4 (some Jvm.ClassFile.FieldType.int)) rmX3_mean D ad cy (IN []) [.ref (ad 3 P 0)] S Q := by
  intro o sz hI
  refine mkC (own := RX3) (lv := [(0, .ref (ad 3 P 0))]) (by decide) rfl (Nat.le_of_ble_eq_true rfl) rfl ?_
  intro p e s m below meth c ls hsz hM hlocks hret hK hA hX hl
  have J56 : ∀ {K0 : Mem → Int32 → Int32 → Int32 → Prop} (hk0 : ∀ (S : Mem) (y1 : Int32) (y2 : Int32) (y3 : Int32), K0 S y1 y2 y3 → ∀ (H : Heap) (locs : List Loc) (ls : Array Slot), PW D ad cy (AW ad o sz) s.heap o S H locs → lv_has ls 4 [(0, .ref (ad 3 P 0)), (1, .int y1), (2, .int y2), (3, .int y3)] → Wi D ad cy o sz Q p l e rmX3_mean s m [.ref (ad 3 P 0)] below meth c H locs (F0 m 6 ls [])), ∀ {K1 : Mem → Int32 → Int32 → Prop} (hk1 : ∀ (S : Mem) (y1 : Int32) (y2 : Int32), K1 S y1 y2 → ∀ (H : Heap) (locs : List Loc) (ls : Array Slot), PW D ad cy (AW ad o sz) s.heap o S H locs → lv_has ls 4 [(1, .int y1), (2, .int y2)] → Wi D ad cy o sz Q p l e rmX3_mean s m [.ref (ad 3 P 0)] below meth c H locs (F0 m 62 ls [])), ∀ (S : Mem) (y1 : Int32) (y2 : Int32) (y3 : Int32), vc_X3_mean_J56 Q K0 K1 P S y1 y2 y3 → ∀ (H : Heap) (locs : List Loc) (ls : Array Slot), PW D ad cy (AW ad o sz) s.heap o S H locs → lv_has ls 4 [(0, .ref (ad 3 P 0)), (1, .int y1), (2, .int y2), (3, .int y3)] → Wi D ad cy o sz Q p l e rmX3_mean s m [.ref (ad 3 P 0)] below meth c H locs (F0 m 56 ls []) := by
    intro K0 hk0 K1 hk1 S y1 y2 y3 hq H locs ls hX hl
    unfold vc_X3_mean_J56 at hq
    refine lv_iinc (v := (y3 + (1 : Int32))) (lv' := [(3, .int (y3 + (1 : Int32))), (0, .ref (ad 3 P 0)), (1, .int y1), (2, .int y2)]) hM.1 hM.2.1 dX3_mean_56 hl (k := 3) rfl rfl (by decide) rfl (fun ls hl => ?_)
    refine lv_goto (tgt := 6) hM.1 hM.2.1 dX3_mean_59 (by decide) ?_
    exact hk0 S y1 y2 (y3 + (1 : Int32)) hq _ _ _ hX (lv_sub hl [1, 2, 3, 0] rfl)
  have L6 : ∀ {K : Mem → Int32 → Int32 → Prop} (hk : ∀ (S : Mem) (y1 : Int32) (y2 : Int32), K S y1 y2 → ∀ (H : Heap) (locs : List Loc) (ls : Array Slot), PW D ad cy (AW ad o sz) s.heap o S H locs → lv_has ls 4 [(1, .int y1), (2, .int y2)] → Wi D ad cy o sz Q p l e rmX3_mean s m [.ref (ad 3 P 0)] below meth c H locs (F0 m 62 ls [])), ∀ (n : Nat) (S : Mem) (y1 : Int32) (y2 : Int32) (y3 : Int32), vc_X3_mean_L6 Q K P n S y1 y2 y3 → ∀ (H : Heap) (locs : List Loc) (ls : Array Slot), PW D ad cy (AW ad o sz) s.heap o S H locs → lv_has ls 4 [(0, .ref (ad 3 P 0)), (1, .int y1), (2, .int y2), (3, .int y3)] → Wi D ad cy o sz Q p l e rmX3_mean s m [.ref (ad 3 P 0)] below meth c H locs (F0 m 6 ls []) := by
    intro K hk n
    induction n with
    | zero =>
      intro S y1 y2 y3 hq
      rw [vc_X3_mean_L6] at hq
      exact hq.elim
    | succ n ih =>
      intro S y1 y2 y3 hq H locs ls hX hl
      rw [vc_X3_mean_L6] at hq
      refine lv_iload_n hM.1 hM.2.1 dX3_mean_6 rfl (lv_at hl 3 rfl) ?_
      refine lv_aload_n hM.1 hM.2.1 dX3_mean_7 rfl (lv_at hl 0 rfl) ?_
      refine g3 hM hK hX (hI.1 _ (id_P hv).2.1) 6 (by decide) qf_RX3_50 rfl dX3_mean_8 ?_
      refine lv_icmp_ge (tgt := 62) hM.1 hM.2.1 dX3_mean_11 (by decide) (fun c_1 => ?_) (fun c_1 => ?_)
      · replace hq := hq.1 c_1
        exact hk S y1 y2 hq _ _ _ hX (lv_sub hl [1, 2] rfl)
      replace hq := hq.2 c_1
      refine lv_aload_n hM.1 hM.2.1 dX3_mean_14 rfl (lv_at hl 0 rfl) ?_
      refine lv_iload_n hM.1 hM.2.1 dX3_mean_15 rfl (lv_at hl 3 rfl) ?_
      refine cVr (As := [.int y3]) hM hK hX ⟨hI.1, trivial⟩ hA (met_X3_at l D ad cy S P y3 hv hq) (kX3_at hM.2.2.2.2 ql_RX3_53 (Nat.le_of_ble_eq_true rfl) (Nat.le_of_ble_eq_true rfl)) (v3 hK hX (hI.1 _ (id_P hv).2.1)) rfl hl.1 rfl (Nat.le_of_ble_eq_true rfl) dX3_mean_16 ⟨Nat.zero_le _, Nat.zero_le _⟩ (fun S_2 P_3 i_4 hq H locs hX => ?_)
      have hT_5 := hq.1
      replace hq := hq.2
      refine cVi (As := []) hM hK hX ⟨hI.1, trivial⟩ hA (met_X5_isAsked l D ad cy S_2 P_3 i_4 hT_5 hq) (kX5_isAsked hM.2.2.2.2 ql_RX3_153 (Nat.le_of_ble_eq_true rfl) (Nat.le_of_ble_eq_true rfl)) (v5 hK hX (hI.1 _ (id_T hT_5).1)) rfl hl.1 rfl (Nat.le_of_ble_eq_true rfl) dX3_mean_19 ⟨Nat.zero_le _, Nat.zero_le _⟩ (fun S_6 r_7 hq H locs hX => ?_)
      refine lv_if_eq (tgt := 56) hM.1 hM.2.1 dX3_mean_22 (by decide) (fun c_8 => ?_) (fun c_8 => ?_)
      · replace hq := hq.1 c_8
        exact J56 ih hk S_6 y1 y2 y3 hq _ _ _ hX (lv_sub hl [0, 1, 2, 3] rfl)
      replace hq := hq.2 c_8
      refine lv_iload_n hM.1 hM.2.1 dX3_mean_25 rfl (lv_at hl 1 rfl) ?_
      refine lv_aload_n hM.1 hM.2.1 dX3_mean_26 rfl (lv_at hl 0 rfl) ?_
      refine lv_iload_n hM.1 hM.2.1 dX3_mean_27 rfl (lv_at hl 3 rfl) ?_
      refine cVr (As := [.int y3]) hM hK hX ⟨hI.1, trivial⟩ hA (met_X3_at l D ad cy S_6 P y3 hv hq) (kX3_at hM.2.2.2.2 ql_RX3_53 (Nat.le_of_ble_eq_true rfl) (Nat.le_of_ble_eq_true rfl)) (v3 hK hX (hI.1 _ (id_P hv).2.1)) rfl hl.1 rfl (Nat.le_of_ble_eq_true rfl) dX3_mean_28 ⟨Nat.zero_le _, Nat.zero_le _⟩ (fun S_9 P_10 i_11 hq H locs hX => ?_)
      have hT_12 := hq.1
      replace hq := hq.2
      refine g5 hM hK hX (hI.1 _ (id_T hT_12).1) 11 (by decide) qf_RX3_157 rfl dX3_mean_31 ?_
      refine lv_aload_n hM.1 hM.2.1 dX3_mean_34 rfl (lv_at hl 0 rfl) ?_
      refine lv_iload_n hM.1 hM.2.1 dX3_mean_35 rfl (lv_at hl 3 rfl) ?_
      refine cVr (As := [.int y3]) hM hK hX ⟨hI.1, trivial⟩ hA (met_X3_at l D ad cy S_9 P y3 hv hq) (kX3_at hM.2.2.2.2 ql_RX3_53 (Nat.le_of_ble_eq_true rfl) (Nat.le_of_ble_eq_true rfl)) (v3 hK hX (hI.1 _ (id_P hv).2.1)) rfl hl.1 rfl (Nat.le_of_ble_eq_true rfl) dX3_mean_36 ⟨Nat.zero_le _, Nat.zero_le _⟩ (fun S_13 P_14 i_15 hq H locs hX => ?_)
      have hT_16 := hq.1
      replace hq := hq.2
      refine g5 hM hK hX (hI.1 _ (id_T hT_16).1) 6 (by decide) qf_RX3_170 rfl dX3_mean_39 ?_
      refine lv_imul hM.1 hM.2.1 dX3_mean_42 ?_
      refine lv_iadd hM.1 hM.2.1 dX3_mean_43 ?_
      refine lv_istore_n (lv' := [(1, .int (y1 + ((S_9 5 P_10 i_11 11) * (S_13 5 P_14 i_15 6)))), (0, .ref (ad 3 P 0)), (2, .int y2), (3, .int y3)]) hM.1 hM.2.1 dX3_mean_44 rfl hl (by decide) rfl (fun ls hl => ?_)
      refine lv_iload_n hM.1 hM.2.1 dX3_mean_45 rfl (lv_at hl 2 rfl) ?_
      refine lv_aload_n hM.1 hM.2.1 dX3_mean_46 rfl (lv_at hl 1 rfl) ?_
      refine lv_iload_n hM.1 hM.2.1 dX3_mean_47 rfl (lv_at hl 3 rfl) ?_
      refine cVr (As := [.int y3]) hM hK hX ⟨hI.1, trivial⟩ hA (met_X3_at l D ad cy S_13 P y3 hv hq) (kX3_at hM.2.2.2.2 ql_RX3_53 (Nat.le_of_ble_eq_true rfl) (Nat.le_of_ble_eq_true rfl)) (v3 hK hX (hI.1 _ (id_P hv).2.1)) rfl hl.1 rfl (Nat.le_of_ble_eq_true rfl) dX3_mean_48 ⟨Nat.zero_le _, Nat.zero_le _⟩ (fun S_17 P_18 i_19 hq H locs hX => ?_)
      have hT_20 := hq.1
      replace hq := hq.2
      refine g5 hM hK hX (hI.1 _ (id_T hT_20).1) 6 (by decide) qf_RX3_170 rfl dX3_mean_51 ?_
      refine lv_iadd hM.1 hM.2.1 dX3_mean_54 ?_
      refine lv_istore_n (lv' := [(2, .int (y2 + (S_17 5 P_18 i_19 6))), (1, .int (y1 + ((S_9 5 P_10 i_11 11) * (S_13 5 P_14 i_15 6)))), (0, .ref (ad 3 P 0)), (3, .int y3)]) hM.1 hM.2.1 dX3_mean_55 rfl hl (by decide) rfl (fun ls hl => ?_)
      exact J56 ih hk S_17 (y1 + ((S_9 5 P_10 i_11 11) * (S_13 5 P_14 i_15 6))) (y2 + (S_17 5 P_18 i_19 6)) y3 hq _ _ _ hX (lv_sub hl [2, 1, 0, 3] rfl)
  unfold vc_X3_mean at hq
  refine lv_iconst (v := (0 : Int32)) hM.1 hM.2.1 dX3_mean_0 (by decide) ?_
  refine lv_istore_n (lv' := [(1, .int (0 : Int32)), (0, .ref (ad 3 P 0))]) hM.1 hM.2.1 dX3_mean_1 rfl hl (by decide) rfl (fun ls hl => ?_)
  refine lv_iconst (v := (0 : Int32)) hM.1 hM.2.1 dX3_mean_2 (by decide) ?_
  refine lv_istore_n (lv' := [(2, .int (0 : Int32)), (1, .int (0 : Int32)), (0, .ref (ad 3 P 0))]) hM.1 hM.2.1 dX3_mean_3 rfl hl (by decide) rfl (fun ls hl => ?_)
  refine lv_iconst (v := (0 : Int32)) hM.1 hM.2.1 dX3_mean_4 (by decide) ?_
  refine lv_istore_n (lv' := [(3, .int (0 : Int32)), (2, .int (0 : Int32)), (1, .int (0 : Int32)), (0, .ref (ad 3 P 0))]) hM.1 hM.2.1 dX3_mean_5 rfl hl (by decide) rfl (fun ls hl => ?_)
  obtain ⟨k0, hq⟩ := hq
  refine L6 (fun S_21 y1_22 y2_23 hq H locs ls hX hl => ?_) k0 S (0 : Int32) (0 : Int32) (0 : Int32) hq _ _ _ hX (lv_sub hl [3, 2, 1, 0] rfl)
  refine lv_iload_n hM.1 hM.2.1 dX3_mean_62 rfl (lv_at hl 1 rfl) ?_
  refine lv_if_ne (tgt := 71) hM.1 hM.2.1 dX3_mean_63 (by decide) (fun c_24 => ?_) (fun c_24 => ?_)
  · replace hq := hq.1 c_24
    refine lv_iload_n hM.1 hM.2.1 dX3_mean_71 rfl (lv_at hl 0 rfl) ?_
    refine lv_iload_n hM.1 hM.2.1 dX3_mean_72 rfl (lv_at hl 1 rfl) ?_
    refine cSNi (As := [.int y1_22, .int y2_23]) hM hK hX ⟨hI.1, trivial⟩ hA (met_X6_quotient l D ad cy S_21 y1_22 y2_23 hq) (kNX6_quotient hM.2.2.2.2 (hK.2 _ ql_RX3_173) (Nat.le_of_ble_eq_true rfl) (Nat.le_of_ble_eq_true rfl)) rfl hl.1 rfl (Nat.le_of_ble_eq_true rfl) dX3_mean_73 ⟨Nat.zero_le _, Nat.zero_le _⟩ (fun S_25 r_26 hq H locs hX => ?_)
    exact e_i hM hX hlocks hret hq dX3_mean_76
  replace hq := hq.2 c_24
  refine lv_ldc hM.1 hM.2.1 hM.2.2.2.1 (hM.2.2.2.2 _ qn_RX3_36) dX3_mean_66 ?_
  refine lv_goto (tgt := 76) hM.1 hM.2.1 dX3_mean_68 (by decide) ?_
  exact e_i hM hX hlocks hret hq dX3_mean_76
def rmX5_stepFrom : Room := { frames := 1, cells := 0, slots := 0, locals := 21 }
theorem kX5_stepFrom {R : Room} {s : State} {args : Array Value} {own : String} {index : Nat} (ht : ∀ w ∈ lw_all, w.before args s = true) (hl : Cond.methodLink own index yX5_stepFrom ∈ lw_all) (hf : rmX5_stepFrom.frames + 1 ≤ R.frames) (hlo : 8 + (3 + 11) + rmX5_stepFrom.locals ≤ R.locals) : CallW R s args own RX5 index yX5_stepFrom cX5_stepFrom 3 (some Jvm.ClassFile.FieldType.int) (wA yX5_stepFrom cX5_stepFrom 3 (some Jvm.ClassFile.FieldType.int)) rmX5_stepFrom 0 0 2 := cwV 2 ht (good_V hl qm_yX5_stepFrom qs_yX5_stepFrom qi_RX5 qc_yX5_stepFrom) rfl rfl rfl (by decide +kernel) ⟨hf, hlo⟩
set_option maxRecDepth 100000 in
set_option maxHeartbeats 4000000 in
theorem met_X5_stepFrom (l : Launch) (D : va_G) (ad : Adr) (cy : Nat → ClassId) (S : Mem) (P : Nat) (i : Nat) (x1 : Int32) (x2 : Int32) {Q : Mem → Int32 → Prop} (hv : P < 11 ∧ i < 11) (hq : vc_X5_stepFrom S P i x1 x2 Q) : Ci l yX5_stepFrom (wA yX5_stepFrom cX5_stepFrom 3 (some Jvm.ClassFile.FieldType.int)) rmX5_stepFrom D ad cy (IN []) [.ref (ad 5 P i), .int x1, .int x2] S Q := by
  intro o sz hI
  refine mkC (own := RX5) (lv := [(0, .ref (ad 5 P i)), (1, .int x1), (2, .int x2)]) (by decide) rfl (Nat.le_of_ble_eq_true rfl) rfl ?_
  intro p e s m below meth c ls hsz hM hlocks hret hK hA hX hl
  unfold vc_X5_stepFrom at hq
  refine lv_iload_n hM.1 hM.2.1 dX5_stepFrom_0 rfl (lv_at hl 2 rfl) ?_
  refine lv_aload_n hM.1 hM.2.1 dX5_stepFrom_1 rfl (lv_at hl 0 rfl) ?_
  refine g5 hM hK hX (hI.1 _ (id_T hv).1) 4 (by decide) qf_RX5_32 rfl dX5_stepFrom_2 ?_
  refine lv_iadd hM.1 hM.2.1 dX5_stepFrom_5 ?_
  refine lv_iload_n hM.1 hM.2.1 dX5_stepFrom_6 rfl (lv_at hl 1 rfl) ?_
  refine lv_isub hM.1 hM.2.1 dX5_stepFrom_7 ?_
  refine lv_aload_n hM.1 hM.2.1 dX5_stepFrom_8 rfl (lv_at hl 0 rfl) ?_
  refine g5 hM hK hX (hI.1 _ (id_T hv).1) 3 (by decide) qf_RX5_18 rfl dX5_stepFrom_9 ?_
  refine cSNi (As := [.int ((x2 + (S 5 P i 4)) - x1), .int (S 5 P i 3)]) hM hK hX ⟨hI.1, trivial⟩ hA (met_X6_quotient l D ad cy S ((x2 + (S 5 P i 4)) - x1) (S 5 P i 3) hq) (kNX6_quotient hM.2.2.2.2 (hK.2 _ ql_RX5_63) (Nat.le_of_ble_eq_true rfl) (Nat.le_of_ble_eq_true rfl)) rfl hl.1 rfl (Nat.le_of_ble_eq_true rfl) dX5_stepFrom_12 ⟨Nat.zero_le _, Nat.zero_le _⟩ (fun S_1 r_2 hq H locs hX => ?_)
  exact e_i hM hX hlocks hret hq dX5_stepFrom_15
