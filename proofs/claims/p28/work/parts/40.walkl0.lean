def rmL_low : Room := { frames := 0, cells := 0, slots := 0, locals := 0 }
theorem kL_low {R : Room} {s : State} {args : Array Value} {own : String} {index : Nat} (ht : ∀ w ∈ lw_all, w.before args s = true) (hl : Cond.methodLink own index yL_low ∈ lw_all) (hf : rmL_low.frames + 1 ≤ R.frames) (hlo : 8 + (2 + 11) + rmL_low.locals ≤ R.locals) : CallB R s args own index yL_low cL_low 2 (some Jvm.ClassFile.FieldType.int) (wA yL_low cL_low 2 (some Jvm.ClassFile.FieldType.int)) rmL_low 0 0 2 ∧ (Cond.static yL_low).before args s = true := va_cwS 2 ht (good_S hl qt_yL_low qi_RL qc_yL_low) rfl rfl rfl (by decide +kernel) ⟨hf, hlo⟩
set_option maxRecDepth 100000 in
set_option maxHeartbeats 4000000 in
theorem met_L_low (l : Launch) (D : va_G) (ad : Adr) (cy : Nat → ClassId) (S : Mem) (x0 : Int32) (x1 : Int32) {Q : Mem → Int32 → Prop} (hq : vc_L_low S x0 x1 Q) : Ci l yL_low (wA yL_low cL_low 2 (some Jvm.ClassFile.FieldType.int)) rmL_low D ad cy (IN []) [.int x0, .int x1] S Q := by
  intro o sz hI
  refine mkC (own := RL) (lv := [(0, .int x0), (1, .int x1)]) (by decide) rfl (Nat.le_of_ble_eq_true rfl) rfl ?_
  intro p e s m below meth c ls hsz hM hlocks hret hK hA hX hl
  unfold vc_L_low at hq
  refine lv_iload_n hM.1 hM.2.1 dL_low_0 rfl (lv_at hl 0 rfl) ?_
  refine lv_ldc hM.1 hM.2.1 hM.2.2.2.1 (hM.2.2.2.2 _ qn_RL_8) dL_low_1 ?_
  refine lv_iand hM.1 hM.2.1 dL_low_3 ?_
  refine lv_iload_n hM.1 hM.2.1 dL_low_4 rfl (lv_at hl 1 rfl) ?_
  have c_1 := hq.1
  replace hq := hq.2
  refine lv_irem hM.1 hM.2.1 dL_low_5 c_1 ?_
  exact e_i hM hX hlocks hret hq dL_low_6
def rmL_mended : Room := { frames := 0, cells := 0, slots := 0, locals := 0 }
theorem kL_mended {R : Room} {s : State} {args : Array Value} {own : String} {index : Nat} (ht : ∀ w ∈ lw_all, w.before args s = true) (hl : Cond.methodLink own index yL_mended ∈ lw_all) (hf : rmL_mended.frames + 1 ≤ R.frames) (hlo : 8 + (7 + 11) + rmL_mended.locals ≤ R.locals) : CallB R s args own index yL_mended cL_mended 7 (some Jvm.ClassFile.FieldType.int) (wA yL_mended cL_mended 7 (some Jvm.ClassFile.FieldType.int)) rmL_mended 0 0 5 ∧ (Cond.static yL_mended).before args s = true := va_cwS 5 ht (good_S hl qt_yL_mended qi_RL qc_yL_mended) rfl rfl rfl (by decide +kernel) ⟨hf, hlo⟩
set_option maxRecDepth 100000 in
set_option maxHeartbeats 4000000 in
theorem met_L_mended (l : Launch) (D : va_G) (ad : Adr) (cy : Nat → ClassId) (S : Mem) (PP : Nat) (x3 : Int32) (x4 : Int32) {Q : Mem → Int32 → Prop} (hq : vc_L_mended S PP x3 x4 Q) : Ci l yL_mended (wA yL_mended cL_mended 7 (some Jvm.ClassFile.FieldType.int)) rmL_mended D ad cy (IN [(15, PP, 0), (16, PP, 0), (17, PP, 0)]) [.ref (ad 15 PP 0), .ref (ad 16 PP 0), .ref (ad 17 PP 0), .int x3, .int x4] S Q := by
  intro o sz hI
  refine mkC (own := RL) (lv := [(0, .ref (ad 15 PP 0)), (1, .ref (ad 16 PP 0)), (2, .ref (ad 17 PP 0)), (3, .int x3), (4, .int x4)]) (by decide) rfl (Nat.le_of_ble_eq_true rfl) rfl ?_
  intro p e s m below meth c ls hsz hM hlocks hret hK hA hX hl
  have J66 : ∀ (S : Mem) (w0 : Int32), vc_L_mended_J66 Q PP x3 x4 S w0 → ∀ (H : Heap) (locs : List Loc) (ls : Array Slot), PW D ad cy (AW ad o sz) s.heap o S H locs → lv_has ls 7 [(0, .ref (ad 15 PP 0)), (2, .ref (ad 17 PP 0)), (3, .int x3)] → Wi D ad cy o sz Q p l e rmL_mended s m [.ref (ad 15 PP 0), .ref (ad 16 PP 0), .ref (ad 17 PP 0), .int x3, .int x4] below meth c H locs (F0 m 66 ls [.int w0]) := by
    intro S w0 hq H locs ls hX hl
    unfold vc_L_mended_J66 at hq
    refine lv_istore (lv' := [(6, .int w0), (0, .ref (ad 15 PP 0)), (2, .ref (ad 17 PP 0)), (3, .int x3)]) hM.1 hM.2.1 dL_mended_66 hl (by decide) rfl (fun ls hl => ?_)
    refine lv_aload_n hM.1 hM.2.1 dL_mended_68 rfl (lv_at hl 2 rfl) ?_
    refine lv_bipush (v := (6 : Int32)) hM.1 hM.2.1 dL_mended_69 (by decide) ?_
    refine lv_iload_n hM.1 hM.2.1 dL_mended_71 rfl (lv_at hl 3 rfl) ?_
    refine lv_imul hM.1 hM.2.1 dL_mended_72 ?_
    have c_9 := hq.1
    replace hq := hq.2
    refine r_iald hM hK hX hI.2.2.2.1 (a17 PP 0) c_9 dL_mended_73 ?_
    refine lv_iload hM.1 hM.2.1 dL_mended_74 (lv_at hl 0 rfl) ?_
    refine lv_iadd hM.1 hM.2.1 dL_mended_76 ?_
    refine lv_aload_n hM.1 hM.2.1 dL_mended_77 rfl (lv_at hl 1 rfl) ?_
    refine lv_bipush (v := (10 : Int32)) hM.1 hM.2.1 dL_mended_78 (by decide) ?_
    refine lv_iload_n hM.1 hM.2.1 dL_mended_80 rfl (lv_at hl 3 rfl) ?_
    refine lv_imul hM.1 hM.2.1 dL_mended_81 ?_
    refine lv_iconst (v := (2 : Int32)) hM.1 hM.2.1 dL_mended_82 (by decide) ?_
    refine lv_iadd hM.1 hM.2.1 dL_mended_83 ?_
    have c_10 := hq.1
    replace hq := hq.2
    refine r_iald hM hK hX hI.2.1 (a15 PP 0) c_10 dL_mended_84 ?_
    refine lv_isub hM.1 hM.2.1 dL_mended_85 ?_
    exact e_i hM hX hlocks hret hq dL_mended_86
  unfold vc_L_mended at hq
  refine lv_aload_n hM.1 hM.2.1 dL_mended_0 rfl (lv_at hl 0 rfl) ?_
  refine lv_bipush (v := (10 : Int32)) hM.1 hM.2.1 dL_mended_1 (by decide) ?_
  refine lv_iload_n hM.1 hM.2.1 dL_mended_3 rfl (lv_at hl 3 rfl) ?_
  refine lv_imul hM.1 hM.2.1 dL_mended_4 ?_
  refine lv_bipush (v := (7 : Int32)) hM.1 hM.2.1 dL_mended_5 (by decide) ?_
  refine lv_iadd hM.1 hM.2.1 dL_mended_7 ?_
  have c_1 := hq.1
  replace hq := hq.2
  refine r_iald hM hK hX hI.2.1 (a15 PP 0) c_1 dL_mended_8 ?_
  refine lv_istore (lv' := [(5, .int (S 15 PP 0 (((10 : Int32) * x3) + (7 : Int32)).toNatClampNeg)), (0, .ref (ad 15 PP 0)), (1, .ref (ad 16 PP 0)), (2, .ref (ad 17 PP 0)), (3, .int x3), (4, .int x4)]) hM.1 hM.2.1 dL_mended_9 hl (by decide) rfl (fun ls hl => ?_)
  refine lv_iload hM.1 hM.2.1 dL_mended_11 (lv_at hl 0 rfl) ?_
  refine lv_iconst (v := (1 : Int32)) hM.1 hM.2.1 dL_mended_13 (by decide) ?_
  refine lv_icmp_ge (tgt := 20) hM.1 hM.2.1 dL_mended_14 (by decide) (fun c_2 => ?_) (fun c_2 => ?_)
  · replace hq := hq.1 c_2
    refine lv_iload hM.1 hM.2.1 dL_mended_20 (lv_at hl 0 rfl) ?_
    refine lv_iconst (v := (2 : Int32)) hM.1 hM.2.1 dL_mended_22 (by decide) ?_
    refine lv_icmp_ge (tgt := 30) hM.1 hM.2.1 dL_mended_23 (by decide) (fun c_3 => ?_) (fun c_3 => ?_)
    · replace hq := hq.1 c_3
      refine lv_aload_n hM.1 hM.2.1 dL_mended_30 rfl (lv_at hl 3 rfl) ?_
      refine lv_bipush (v := (6 : Int32)) hM.1 hM.2.1 dL_mended_31 (by decide) ?_
      refine lv_iload_n hM.1 hM.2.1 dL_mended_33 rfl (lv_at hl 4 rfl) ?_
      refine lv_imul hM.1 hM.2.1 dL_mended_34 ?_
      have c_4 := hq.1
      replace hq := hq.2
      refine r_iald hM hK hX hI.2.2.2.1 (a17 PP 0) c_4 dL_mended_35 ?_
      refine lv_aload_n hM.1 hM.2.1 dL_mended_36 rfl (lv_at hl 3 rfl) ?_
      refine lv_bipush (v := (6 : Int32)) hM.1 hM.2.1 dL_mended_37 (by decide) ?_
      refine lv_iload_n hM.1 hM.2.1 dL_mended_39 rfl (lv_at hl 4 rfl) ?_
      refine lv_imul hM.1 hM.2.1 dL_mended_40 ?_
      refine lv_iconst (v := (1 : Int32)) hM.1 hM.2.1 dL_mended_41 (by decide) ?_
      refine lv_iadd hM.1 hM.2.1 dL_mended_42 ?_
      have c_5 := hq.1
      replace hq := hq.2
      refine r_iald hM hK hX hI.2.2.2.1 (a17 PP 0) c_5 dL_mended_43 ?_
      refine lv_isub hM.1 hM.2.1 dL_mended_44 ?_
      refine lv_iload hM.1 hM.2.1 dL_mended_45 (lv_at hl 5 rfl) ?_
      refine lv_iconst (v := (1 : Int32)) hM.1 hM.2.1 dL_mended_47 (by decide) ?_
      refine lv_isub hM.1 hM.2.1 dL_mended_48 ?_
      refine lv_imul hM.1 hM.2.1 dL_mended_49 ?_
      refine lv_aload_n hM.1 hM.2.1 dL_mended_50 rfl (lv_at hl 2 rfl) ?_
      refine lv_bipush (v := (6 : Int32)) hM.1 hM.2.1 dL_mended_51 (by decide) ?_
      refine lv_iload_n hM.1 hM.2.1 dL_mended_53 rfl (lv_at hl 4 rfl) ?_
      refine lv_imul hM.1 hM.2.1 dL_mended_54 ?_
      have c_6 := hq.1
      replace hq := hq.2
      refine r_iald hM hK hX hI.2.2.1 (a16 PP 0) c_6 dL_mended_55 ?_
      refine lv_aload_n hM.1 hM.2.1 dL_mended_56 rfl (lv_at hl 2 rfl) ?_
      refine lv_bipush (v := (6 : Int32)) hM.1 hM.2.1 dL_mended_57 (by decide) ?_
      refine lv_iload_n hM.1 hM.2.1 dL_mended_59 rfl (lv_at hl 4 rfl) ?_
      refine lv_imul hM.1 hM.2.1 dL_mended_60 ?_
      refine lv_iconst (v := (1 : Int32)) hM.1 hM.2.1 dL_mended_61 (by decide) ?_
      refine lv_iadd hM.1 hM.2.1 dL_mended_62 ?_
      have c_7 := hq.1
      replace hq := hq.2
      refine r_iald hM hK hX hI.2.2.1 (a16 PP 0) c_7 dL_mended_63 ?_
      refine lv_isub hM.1 hM.2.1 dL_mended_64 ?_
      have c_8 := hq.1
      replace hq := hq.2
      refine lv_idiv hM.1 hM.2.1 dL_mended_65 c_8 ?_
      exact J66 S ((((S 17 PP 0 ((6 : Int32) * x3).toNatClampNeg) - (S 17 PP 0 (((6 : Int32) * x3) + (1 : Int32)).toNatClampNeg)) * (x4 - (1 : Int32))) / ((S 16 PP 0 ((6 : Int32) * x3).toNatClampNeg) - (S 16 PP 0 (((6 : Int32) * x3) + (1 : Int32)).toNatClampNeg))) hq _ _ _ hX (lv_sub hl [1, 3, 4] rfl)
    replace hq := hq.2 c_3
    refine lv_iconst (v := (0 : Int32)) hM.1 hM.2.1 dL_mended_26 (by decide) ?_
    refine lv_goto (tgt := 66) hM.1 hM.2.1 dL_mended_27 (by decide) ?_
    exact J66 S (0 : Int32) hq _ _ _ hX (lv_sub hl [1, 3, 4] rfl)
  replace hq := hq.2 c_2
  refine lv_ldc hM.1 hM.2.1 hM.2.2.2.1 (hM.2.2.2.2 _ qn_RL_11) dL_mended_17 ?_
  exact e_i hM hX hlocks hret hq dL_mended_19
def rmL_own : Room := { frames := 1, cells := 0, slots := 0, locals := 26 }
theorem kL_own {R : Room} {s : State} {args : Array Value} {own : String} {index : Nat} (ht : ∀ w ∈ lw_all, w.before args s = true) (hl : Cond.methodLink own index yL_own ∈ lw_all) (hf : rmL_own.frames + 1 ≤ R.frames) (hlo : 8 + (4 + 11) + rmL_own.locals ≤ R.locals) : CallB R s args own index yL_own cL_own 4 (some Jvm.ClassFile.FieldType.int) (wA yL_own cL_own 4 (some Jvm.ClassFile.FieldType.int)) rmL_own 0 0 4 ∧ (Cond.static yL_own).before args s = true := va_cwS 4 ht (good_S hl qt_yL_own qi_RL qc_yL_own) rfl rfl rfl (by decide +kernel) ⟨hf, hlo⟩
set_option maxRecDepth 100000 in
set_option maxHeartbeats 4000000 in
theorem met_L_own (l : Launch) (D : va_G) (ad : Adr) (cy : Nat → ClassId) (S : Mem) (PP : Nat) (x3 : Int32) {Q : Mem → Int32 → Prop} (hq : vc_L_own S PP x3 Q) : Ci l yL_own (wA yL_own cL_own 4 (some Jvm.ClassFile.FieldType.int)) rmL_own D ad cy (IN [(15, PP, 0), (16, PP, 0), (17, PP, 0)]) [.ref (ad 15 PP 0), .ref (ad 16 PP 0), .ref (ad 17 PP 0), .int x3] S Q := by
  intro o sz hI
  refine mkC (own := RL) (lv := [(0, .ref (ad 15 PP 0)), (1, .ref (ad 16 PP 0)), (2, .ref (ad 17 PP 0)), (3, .int x3)]) (by decide) rfl (Nat.le_of_ble_eq_true rfl) rfl ?_
  intro p e s m below meth c ls hsz hM hlocks hret hK hA hX hl
  unfold vc_L_own at hq
  refine lv_aload_n hM.1 hM.2.1 dL_own_0 rfl (lv_at hl 0 rfl) ?_
  refine lv_aload_n hM.1 hM.2.1 dL_own_1 rfl (lv_at hl 1 rfl) ?_
  refine lv_aload_n hM.1 hM.2.1 dL_own_2 rfl (lv_at hl 2 rfl) ?_
  refine lv_iload_n hM.1 hM.2.1 dL_own_3 rfl (lv_at hl 3 rfl) ?_
  refine lv_aload_n hM.1 hM.2.1 dL_own_4 rfl (lv_at hl 0 rfl) ?_
  refine lv_bipush (v := (10 : Int32)) hM.1 hM.2.1 dL_own_5 (by decide) ?_
  refine lv_iload_n hM.1 hM.2.1 dL_own_7 rfl (lv_at hl 3 rfl) ?_
  refine lv_imul hM.1 hM.2.1 dL_own_8 ?_
  refine lv_iconst (v := (1 : Int32)) hM.1 hM.2.1 dL_own_9 (by decide) ?_
  refine lv_iadd hM.1 hM.2.1 dL_own_10 ?_
  have c_1 := hq.1
  replace hq := hq.2
  refine r_iald hM hK hX hI.2.1 (a15 PP 0) c_1 dL_own_11 ?_
  refine cSi (As := [.ref (ad 15 PP 0), .ref (ad 16 PP 0), .ref (ad 17 PP 0), .int x3, .int (S 15 PP 0 (((10 : Int32) * x3) + (1 : Int32)).toNatClampNeg)]) hM hK hX ⟨hI.1, hI.2.1, hI.2.2.1, hI.2.2.2.1, trivial⟩ hA (met_L_mended l D ad cy S PP x3 (S 15 PP 0 (((10 : Int32) * x3) + (1 : Int32)).toNatClampNeg) hq) (kL_mended hM.2.2.2.2 ql_RL_12 (Nat.le_of_ble_eq_true rfl) (Nat.le_of_ble_eq_true rfl)) rfl hl.1 rfl (Nat.le_of_ble_eq_true rfl) dL_own_12 ⟨Nat.zero_le _, Nat.zero_le _⟩ (fun S_2 r_3 hq H locs hX => ?_)
  exact e_i hM hX hlocks hret hq dL_own_15
def rmL_asked : Room := { frames := 0, cells := 0, slots := 0, locals := 0 }
theorem kL_asked {R : Room} {s : State} {args : Array Value} {own : String} {index : Nat} (ht : ∀ w ∈ lw_all, w.before args s = true) (hl : Cond.methodLink own index yL_asked ∈ lw_all) (hf : rmL_asked.frames + 1 ≤ R.frames) (hlo : 8 + (2 + 11) + rmL_asked.locals ≤ R.locals) : CallB R s args own index yL_asked cL_asked 2 (some Jvm.ClassFile.FieldType.boolean) (wA yL_asked cL_asked 2 (some Jvm.ClassFile.FieldType.boolean)) rmL_asked 0 0 2 ∧ (Cond.static yL_asked).before args s = true := va_cwS 2 ht (good_S hl qt_yL_asked qi_RL qc_yL_asked) rfl rfl rfl (by decide +kernel) ⟨hf, hlo⟩
set_option maxRecDepth 100000 in
set_option maxHeartbeats 4000000 in
theorem met_L_asked (l : Launch) (D : va_G) (ad : Adr) (cy : Nat → ClassId) (S : Mem) (PP : Nat) (x1 : Int32) {Q : Mem → Int32 → Prop} (hq : vc_L_asked S PP x1 Q) : Ci l yL_asked (wA yL_asked cL_asked 2 (some Jvm.ClassFile.FieldType.boolean)) rmL_asked D ad cy (IN [(15, PP, 0)]) [.ref (ad 15 PP 0), .int x1] S Q := by
  intro o sz hI
  refine mkC (own := RL) (lv := [(0, .ref (ad 15 PP 0)), (1, .int x1)]) (by decide) rfl (Nat.le_of_ble_eq_true rfl) rfl ?_
  intro p e s m below meth c ls hsz hM hlocks hret hK hA hX hl
  unfold vc_L_asked at hq
  refine lv_aload_n hM.1 hM.2.1 dL_asked_0 rfl (lv_at hl 0 rfl) ?_
  refine lv_bipush (v := (10 : Int32)) hM.1 hM.2.1 dL_asked_1 (by decide) ?_
  refine lv_iload_n hM.1 hM.2.1 dL_asked_3 rfl (lv_at hl 1 rfl) ?_
  refine lv_imul hM.1 hM.2.1 dL_asked_4 ?_
  refine lv_bipush (v := (7 : Int32)) hM.1 hM.2.1 dL_asked_5 (by decide) ?_
  refine lv_iadd hM.1 hM.2.1 dL_asked_7 ?_
  have c_1 := hq.1
  replace hq := hq.2
  refine r_iald hM hK hX hI.2.1 (a15 PP 0) c_1 dL_asked_8 ?_
  refine lv_if_le (tgt := 28) hM.1 hM.2.1 dL_asked_9 (by decide) (fun c_2 => ?_) (fun c_2 => ?_)
  · replace hq := hq.1 c_2
    refine lv_iconst (v := (0 : Int32)) hM.1 hM.2.1 dL_asked_28 (by decide) ?_
    exact e_z hM hX hlocks hret rfl hq dL_asked_29
  replace hq := hq.2 c_2
  refine lv_aload_n hM.1 hM.2.1 dL_asked_12 rfl (lv_at hl 0 rfl) ?_
  refine lv_bipush (v := (10 : Int32)) hM.1 hM.2.1 dL_asked_13 (by decide) ?_
  refine lv_iload_n hM.1 hM.2.1 dL_asked_15 rfl (lv_at hl 1 rfl) ?_
  refine lv_imul hM.1 hM.2.1 dL_asked_16 ?_
  refine lv_bipush (v := (6 : Int32)) hM.1 hM.2.1 dL_asked_17 (by decide) ?_
  refine lv_iadd hM.1 hM.2.1 dL_asked_19 ?_
  have c_3 := hq.1
  replace hq := hq.2
  refine r_iald hM hK hX hI.2.1 (a15 PP 0) c_3 dL_asked_20 ?_
  refine lv_if_ne (tgt := 28) hM.1 hM.2.1 dL_asked_21 (by decide) (fun c_4 => ?_) (fun c_4 => ?_)
  · replace hq := hq.1 c_4
    refine lv_iconst (v := (0 : Int32)) hM.1 hM.2.1 dL_asked_28 (by decide) ?_
    exact e_z hM hX hlocks hret rfl hq dL_asked_29
  replace hq := hq.2 c_4
  refine lv_iconst (v := (1 : Int32)) hM.1 hM.2.1 dL_asked_24 (by decide) ?_
  refine lv_goto (tgt := 29) hM.1 hM.2.1 dL_asked_25 (by decide) ?_
  exact e_z hM hX hlocks hret rfl hq dL_asked_29
def rmL_middle : Room := { frames := 2, cells := 0, slots := 0, locals := 49 }
theorem kL_middle {R : Room} {s : State} {args : Array Value} {own : String} {index : Nat} (ht : ∀ w ∈ lw_all, w.before args s = true) (hl : Cond.methodLink own index yL_middle ∈ lw_all) (hf : rmL_middle.frames + 1 ≤ R.frames) (hlo : 8 + (10 + 11) + rmL_middle.locals ≤ R.locals) : CallB R s args own index yL_middle cL_middle 10 (some Jvm.ClassFile.FieldType.int) (wA yL_middle cL_middle 10 (some Jvm.ClassFile.FieldType.int)) rmL_middle 0 0 5 ∧ (Cond.static yL_middle).before args s = true := va_cwS 5 ht (good_S hl qt_yL_middle qi_RL qc_yL_middle) rfl rfl rfl (by decide +kernel) ⟨hf, hlo⟩
set_option maxRecDepth 100000 in
set_option maxHeartbeats 4000000 in
theorem met_L_middle (l : Launch) (D : va_G) (ad : Adr) (cy : Nat → ClassId) (S : Mem) (PP : Nat) (x4 : Int32) {Q : Mem → Int32 → Prop} (hq : vc_L_middle S PP x4 Q) : Ci l yL_middle (wA yL_middle cL_middle 10 (some Jvm.ClassFile.FieldType.int)) rmL_middle D ad cy (IN [(15, PP, 0), (16, PP, 0), (17, PP, 0), (18, PP, 0)]) [.ref (ad 15 PP 0), .ref (ad 16 PP 0), .ref (ad 17 PP 0), .ref (ad 18 PP 0), .int x4] S Q := by
  intro o sz hI
  refine mkC (own := RL) (lv := [(0, .ref (ad 15 PP 0)), (1, .ref (ad 16 PP 0)), (2, .ref (ad 17 PP 0)), (3, .ref (ad 18 PP 0)), (4, .int x4)]) (by decide) rfl (Nat.le_of_ble_eq_true rfl) rfl ?_
  intro p e s m below meth c ls hsz hM hlocks hret hK hA hX hl
  have J38 : ∀ {K0 : Mem → Int32 → Int32 → Prop} (hk0 : ∀ (S : Mem) (y5 : Int32) (y6 : Int32), K0 S y5 y6 → ∀ (H : Heap) (locs : List Loc) (ls : Array Slot), PW D ad cy (AW ad o sz) s.heap o S H locs → lv_has ls 10 [(0, .ref (ad 15 PP 0)), (1, .ref (ad 16 PP 0)), (2, .ref (ad 17 PP 0)), (3, .ref (ad 18 PP 0)), (4, .int x4), (5, .int y5), (6, .int y6)] → Wi D ad cy o sz Q p l e rmL_middle s m [.ref (ad 15 PP 0), .ref (ad 16 PP 0), .ref (ad 17 PP 0), .ref (ad 18 PP 0), .int x4] below meth c H locs (F0 m 6 ls [])), ∀ {K1 : Mem → Int32 → Prop} (hk1 : ∀ (S : Mem) (y5 : Int32), K1 S y5 → ∀ (H : Heap) (locs : List Loc) (ls : Array Slot), PW D ad cy (AW ad o sz) s.heap o S H locs → lv_has ls 10 [(0, .ref (ad 15 PP 0)), (1, .ref (ad 16 PP 0)), (2, .ref (ad 17 PP 0)), (3, .ref (ad 18 PP 0)), (4, .int x4), (5, .int y5)] → Wi D ad cy o sz Q p l e rmL_middle s m [.ref (ad 15 PP 0), .ref (ad 16 PP 0), .ref (ad 17 PP 0), .ref (ad 18 PP 0), .int x4] below meth c H locs (F0 m 47 ls [])), ∀ (S : Mem) (y6 : Int32) (w0 : Int32) (w1 : Int32), vc_L_middle_J38 Q K0 K1 PP x4 S y6 w0 w1 → ∀ (H : Heap) (locs : List Loc) (ls : Array Slot), PW D ad cy (AW ad o sz) s.heap o S H locs → lv_has ls 10 [(0, .ref (ad 15 PP 0)), (1, .ref (ad 16 PP 0)), (2, .ref (ad 17 PP 0)), (3, .ref (ad 18 PP 0)), (4, .int x4), (6, .int y6)] → Wi D ad cy o sz Q p l e rmL_middle s m [.ref (ad 15 PP 0), .ref (ad 16 PP 0), .ref (ad 17 PP 0), .ref (ad 18 PP 0), .int x4] below meth c H locs (F0 m 38 ls [.int w1, .int w0]) := by
    intro K0 hk0 K1 hk1 S y6 w0 w1 hq H locs ls hX hl
    unfold vc_L_middle_J38 at hq
    refine lv_iadd hM.1 hM.2.1 dL_middle_38 ?_
    refine lv_istore (lv' := [(5, .int (w0 + w1)), (0, .ref (ad 15 PP 0)), (1, .ref (ad 16 PP 0)), (2, .ref (ad 17 PP 0)), (3, .ref (ad 18 PP 0)), (4, .int x4), (6, .int y6)]) hM.1 hM.2.1 dL_middle_39 hl (by decide) rfl (fun ls hl => ?_)
    refine lv_iinc (v := (y6 + (1 : Int32))) (lv' := [(6, .int (y6 + (1 : Int32))), (5, .int (w0 + w1)), (0, .ref (ad 15 PP 0)), (1, .ref (ad 16 PP 0)), (2, .ref (ad 17 PP 0)), (3, .ref (ad 18 PP 0)), (4, .int x4)]) hM.1 hM.2.1 dL_middle_41 hl (k := 6) rfl rfl (by decide) rfl (fun ls hl => ?_)
    refine lv_goto (tgt := 6) hM.1 hM.2.1 dL_middle_44 (by decide) ?_
    exact hk0 S (w0 + w1) (y6 + (1 : Int32)) hq _ _ _ hX (lv_sub hl [2, 3, 4, 5, 6, 1, 0] rfl)
  have J37 : ∀ {K0 : Mem → Int32 → Int32 → Prop} (hk0 : ∀ (S : Mem) (y5 : Int32) (y6 : Int32), K0 S y5 y6 → ∀ (H : Heap) (locs : List Loc) (ls : Array Slot), PW D ad cy (AW ad o sz) s.heap o S H locs → lv_has ls 10 [(0, .ref (ad 15 PP 0)), (1, .ref (ad 16 PP 0)), (2, .ref (ad 17 PP 0)), (3, .ref (ad 18 PP 0)), (4, .int x4), (5, .int y5), (6, .int y6)] → Wi D ad cy o sz Q p l e rmL_middle s m [.ref (ad 15 PP 0), .ref (ad 16 PP 0), .ref (ad 17 PP 0), .ref (ad 18 PP 0), .int x4] below meth c H locs (F0 m 6 ls [])), ∀ {K1 : Mem → Int32 → Prop} (hk1 : ∀ (S : Mem) (y5 : Int32), K1 S y5 → ∀ (H : Heap) (locs : List Loc) (ls : Array Slot), PW D ad cy (AW ad o sz) s.heap o S H locs → lv_has ls 10 [(0, .ref (ad 15 PP 0)), (1, .ref (ad 16 PP 0)), (2, .ref (ad 17 PP 0)), (3, .ref (ad 18 PP 0)), (4, .int x4), (5, .int y5)] → Wi D ad cy o sz Q p l e rmL_middle s m [.ref (ad 15 PP 0), .ref (ad 16 PP 0), .ref (ad 17 PP 0), .ref (ad 18 PP 0), .int x4] below meth c H locs (F0 m 47 ls [])), ∀ (S : Mem) (y6 : Int32) (w0 : Int32), vc_L_middle_J37 Q K0 K1 PP x4 S y6 w0 → ∀ (H : Heap) (locs : List Loc) (ls : Array Slot), PW D ad cy (AW ad o sz) s.heap o S H locs → lv_has ls 10 [(0, .ref (ad 15 PP 0)), (1, .ref (ad 16 PP 0)), (2, .ref (ad 17 PP 0)), (3, .ref (ad 18 PP 0)), (4, .int x4), (6, .int y6)] → Wi D ad cy o sz Q p l e rmL_middle s m [.ref (ad 15 PP 0), .ref (ad 16 PP 0), .ref (ad 17 PP 0), .ref (ad 18 PP 0), .int x4] below meth c H locs (F0 m 37 ls [.int w0]) := by
    intro K0 hk0 K1 hk1 S y6 w0 hq H locs ls hX hl
    unfold vc_L_middle_J37 at hq
    refine lv_iconst (v := (0 : Int32)) hM.1 hM.2.1 dL_middle_37 (by decide) ?_
    exact J38 hk0 hk1 S y6 w0 (0 : Int32) hq _ _ _ hX (lv_sub hl [0, 1, 2, 3, 4, 5] rfl)
  have L6 : ∀ {K : Mem → Int32 → Prop} (hk : ∀ (S : Mem) (y5 : Int32), K S y5 → ∀ (H : Heap) (locs : List Loc) (ls : Array Slot), PW D ad cy (AW ad o sz) s.heap o S H locs → lv_has ls 10 [(0, .ref (ad 15 PP 0)), (1, .ref (ad 16 PP 0)), (2, .ref (ad 17 PP 0)), (3, .ref (ad 18 PP 0)), (4, .int x4), (5, .int y5)] → Wi D ad cy o sz Q p l e rmL_middle s m [.ref (ad 15 PP 0), .ref (ad 16 PP 0), .ref (ad 17 PP 0), .ref (ad 18 PP 0), .int x4] below meth c H locs (F0 m 47 ls [])), ∀ (n : Nat) (S : Mem) (y5 : Int32) (y6 : Int32), vc_L_middle_L6 Q K PP x4 n S y5 y6 → ∀ (H : Heap) (locs : List Loc) (ls : Array Slot), PW D ad cy (AW ad o sz) s.heap o S H locs → lv_has ls 10 [(0, .ref (ad 15 PP 0)), (1, .ref (ad 16 PP 0)), (2, .ref (ad 17 PP 0)), (3, .ref (ad 18 PP 0)), (4, .int x4), (5, .int y5), (6, .int y6)] → Wi D ad cy o sz Q p l e rmL_middle s m [.ref (ad 15 PP 0), .ref (ad 16 PP 0), .ref (ad 17 PP 0), .ref (ad 18 PP 0), .int x4] below meth c H locs (F0 m 6 ls []) := by
    intro K hk n
    induction n with
    | zero =>
      intro S y5 y6 hq
      rw [vc_L_middle_L6] at hq
      exact hq.elim
    | succ n ih =>
      intro S y5 y6 hq H locs ls hX hl
      rw [vc_L_middle_L6] at hq
      refine lv_iload hM.1 hM.2.1 dL_middle_6 (lv_at hl 6 rfl) ?_
      refine lv_aload_n hM.1 hM.2.1 dL_middle_8 rfl (lv_at hl 3 rfl) ?_
      refine lv_bipush (v := (15 : Int32)) hM.1 hM.2.1 dL_middle_9 (by decide) ?_
      have c_1 := hq.1
      replace hq := hq.2
      refine r_iald hM hK hX hI.2.2.2.2.1 (a18 PP 0) c_1 dL_middle_11 ?_
      refine lv_icmp_ge (tgt := 47) hM.1 hM.2.1 dL_middle_12 (by decide) (fun c_2 => ?_) (fun c_2 => ?_)
      · replace hq := hq.1 c_2
        exact hk S y5 hq _ _ _ hX (lv_sub hl [0, 1, 2, 3, 4, 5] rfl)
      replace hq := hq.2 c_2
      refine lv_iload hM.1 hM.2.1 dL_middle_15 (lv_at hl 5 rfl) ?_
      refine lv_iload hM.1 hM.2.1 dL_middle_17 (lv_at hl 6 rfl) ?_
      refine lv_iload hM.1 hM.2.1 dL_middle_19 (lv_at hl 4 rfl) ?_
      refine lv_icmp_eq (tgt := 37) hM.1 hM.2.1 dL_middle_21 (by decide) (fun c_3 => ?_) (fun c_3 => ?_)
      · replace hq := hq.1 c_3
        exact J37 ih hk S y6 y5 hq _ _ _ hX (lv_sub hl [0, 1, 2, 3, 4, 6] rfl)
      replace hq := hq.2 c_3
      refine lv_aload_n hM.1 hM.2.1 dL_middle_24 rfl (lv_at hl 0 rfl) ?_
      refine lv_iload hM.1 hM.2.1 dL_middle_25 (lv_at hl 6 rfl) ?_
      refine cSi (As := [.ref (ad 15 PP 0), .int y6]) hM hK hX ⟨hI.1, hI.2.1, trivial⟩ hA (met_L_asked l D ad cy S PP y6 hq) (kL_asked hM.2.2.2.2 ql_RL_16 (Nat.le_of_ble_eq_true rfl) (Nat.le_of_ble_eq_true rfl)) rfl hl.1 rfl (Nat.le_of_ble_eq_true rfl) dL_middle_27 ⟨Nat.zero_le _, Nat.zero_le _⟩ (fun S_4 r_5 hq H locs hX => ?_)
      refine lv_if_eq (tgt := 37) hM.1 hM.2.1 dL_middle_30 (by decide) (fun c_6 => ?_) (fun c_6 => ?_)
      · replace hq := hq.1 c_6
        exact J37 ih hk S_4 y6 y5 hq _ _ _ hX (lv_sub hl [0, 1, 2, 3, 4, 6] rfl)
      replace hq := hq.2 c_6
      refine lv_iconst (v := (1 : Int32)) hM.1 hM.2.1 dL_middle_33 (by decide) ?_
      refine lv_goto (tgt := 38) hM.1 hM.2.1 dL_middle_34 (by decide) ?_
      exact J38 ih hk S_4 y6 y5 (1 : Int32) hq _ _ _ hX (lv_sub hl [0, 1, 2, 3, 4, 6] rfl)
  have J199 : ∀ {K0 : Mem → Int32 → Int32 → Prop} (hk0 : ∀ (S : Mem) (y5 : Int32) (y6 : Int32), K0 S y5 y6 → ∀ (H : Heap) (locs : List Loc) (ls : Array Slot), PW D ad cy (AW ad o sz) s.heap o S H locs → lv_has ls 10 [(0, .ref (ad 15 PP 0)), (1, .ref (ad 16 PP 0)), (2, .ref (ad 17 PP 0)), (3, .ref (ad 18 PP 0)), (4, .int x4), (5, .int y5), (6, .int y6)] → Wi D ad cy o sz Q p l e rmL_middle s m [.ref (ad 15 PP 0), .ref (ad 16 PP 0), .ref (ad 17 PP 0), .ref (ad 18 PP 0), .int x4] below meth c H locs (F0 m 50 ls [])), ∀ {K1 : Mem → Prop} (hk1 : ∀ (S : Mem), K1 S → ∀ (H : Heap) (locs : List Loc) (ls : Array Slot), PW D ad cy (AW ad o sz) s.heap o S H locs → lv_has ls 10 [] → Wi D ad cy o sz Q p l e rmL_middle s m [.ref (ad 15 PP 0), .ref (ad 16 PP 0), .ref (ad 17 PP 0), .ref (ad 18 PP 0), .int x4] below meth c H locs (F0 m 205 ls [])), ∀ (S : Mem) (y5 : Int32) (y6 : Int32), vc_L_middle_J199 Q K0 K1 PP x4 S y5 y6 → ∀ (H : Heap) (locs : List Loc) (ls : Array Slot), PW D ad cy (AW ad o sz) s.heap o S H locs → lv_has ls 10 [(0, .ref (ad 15 PP 0)), (1, .ref (ad 16 PP 0)), (2, .ref (ad 17 PP 0)), (3, .ref (ad 18 PP 0)), (4, .int x4), (5, .int y5), (6, .int y6)] → Wi D ad cy o sz Q p l e rmL_middle s m [.ref (ad 15 PP 0), .ref (ad 16 PP 0), .ref (ad 17 PP 0), .ref (ad 18 PP 0), .int x4] below meth c H locs (F0 m 199 ls []) := by
    intro K0 hk0 K1 hk1 S y5 y6 hq H locs ls hX hl
    unfold vc_L_middle_J199 at hq
    refine lv_iinc (v := (y6 + (1 : Int32))) (lv' := [(6, .int (y6 + (1 : Int32))), (0, .ref (ad 15 PP 0)), (1, .ref (ad 16 PP 0)), (2, .ref (ad 17 PP 0)), (3, .ref (ad 18 PP 0)), (4, .int x4), (5, .int y5)]) hM.1 hM.2.1 dL_middle_199 hl (k := 6) rfl rfl (by decide) rfl (fun ls hl => ?_)
    refine lv_goto (tgt := 50) hM.1 hM.2.1 dL_middle_202 (by decide) ?_
    exact hk0 S y5 (y6 + (1 : Int32)) hq _ _ _ hX (lv_sub hl [1, 2, 3, 4, 5, 6, 0] rfl)
  have J170 : ∀ {K0 : Mem → Int32 → Int32 → Int32 → Int32 → Prop} (hk0 : ∀ (S : Mem) (y5 : Int32) (y6 : Int32) (y7 : Int32) (y8 : Int32), K0 S y5 y6 y7 y8 → ∀ (H : Heap) (locs : List Loc) (ls : Array Slot), PW D ad cy (AW ad o sz) s.heap o S H locs → lv_has ls 10 [(0, .ref (ad 15 PP 0)), (1, .ref (ad 16 PP 0)), (2, .ref (ad 17 PP 0)), (3, .ref (ad 18 PP 0)), (4, .int x4), (5, .int y5), (6, .int y6), (7, .int y7), (8, .int y8)] → Wi D ad cy o sz Q p l e rmL_middle s m [.ref (ad 15 PP 0), .ref (ad 16 PP 0), .ref (ad 17 PP 0), .ref (ad 18 PP 0), .int x4] below meth c H locs (F0 m 81 ls [])), ∀ {K1 : Mem → Int32 → Int32 → Int32 → Prop} (hk1 : ∀ (S : Mem) (y5 : Int32) (y6 : Int32) (y7 : Int32), K1 S y5 y6 y7 → ∀ (H : Heap) (locs : List Loc) (ls : Array Slot), PW D ad cy (AW ad o sz) s.heap o S H locs → lv_has ls 10 [(0, .ref (ad 15 PP 0)), (1, .ref (ad 16 PP 0)), (2, .ref (ad 17 PP 0)), (3, .ref (ad 18 PP 0)), (4, .int x4), (5, .int y5), (6, .int y6), (7, .int y7)] → Wi D ad cy o sz Q p l e rmL_middle s m [.ref (ad 15 PP 0), .ref (ad 16 PP 0), .ref (ad 17 PP 0), .ref (ad 18 PP 0), .int x4] below meth c H locs (F0 m 179 ls [])), ∀ (S : Mem) (y5 : Int32) (y6 : Int32) (y8 : Int32) (w0 : Int32) (w1 : Int32), vc_L_middle_J170 Q K0 K1 PP x4 S y5 y6 y8 w0 w1 → ∀ (H : Heap) (locs : List Loc) (ls : Array Slot), PW D ad cy (AW ad o sz) s.heap o S H locs → lv_has ls 10 [(0, .ref (ad 15 PP 0)), (1, .ref (ad 16 PP 0)), (2, .ref (ad 17 PP 0)), (3, .ref (ad 18 PP 0)), (4, .int x4), (5, .int y5), (6, .int y6), (8, .int y8)] → Wi D ad cy o sz Q p l e rmL_middle s m [.ref (ad 15 PP 0), .ref (ad 16 PP 0), .ref (ad 17 PP 0), .ref (ad 18 PP 0), .int x4] below meth c H locs (F0 m 170 ls [.int w1, .int w0]) := by
    intro K0 hk0 K1 hk1 S y5 y6 y8 w0 w1 hq H locs ls hX hl
    unfold vc_L_middle_J170 at hq
    refine lv_iadd hM.1 hM.2.1 dL_middle_170 ?_
    refine lv_istore (lv' := [(7, .int (w0 + w1)), (0, .ref (ad 15 PP 0)), (1, .ref (ad 16 PP 0)), (2, .ref (ad 17 PP 0)), (3, .ref (ad 18 PP 0)), (4, .int x4), (5, .int y5), (6, .int y6), (8, .int y8)]) hM.1 hM.2.1 dL_middle_171 hl (by decide) rfl (fun ls hl => ?_)
    refine lv_iinc (v := (y8 + (1 : Int32))) (lv' := [(8, .int (y8 + (1 : Int32))), (7, .int (w0 + w1)), (0, .ref (ad 15 PP 0)), (1, .ref (ad 16 PP 0)), (2, .ref (ad 17 PP 0)), (3, .ref (ad 18 PP 0)), (4, .int x4), (5, .int y5), (6, .int y6)]) hM.1 hM.2.1 dL_middle_173 hl (k := 8) rfl rfl (by decide) rfl (fun ls hl => ?_)
    refine lv_goto (tgt := 81) hM.1 hM.2.1 dL_middle_176 (by decide) ?_
    exact hk0 S y5 y6 (w0 + w1) (y8 + (1 : Int32)) hq _ _ _ hX (lv_sub hl [2, 3, 4, 5, 6, 7, 8, 1, 0] rfl)
  have J169 : ∀ {K0 : Mem → Int32 → Int32 → Int32 → Int32 → Prop} (hk0 : ∀ (S : Mem) (y5 : Int32) (y6 : Int32) (y7 : Int32) (y8 : Int32), K0 S y5 y6 y7 y8 → ∀ (H : Heap) (locs : List Loc) (ls : Array Slot), PW D ad cy (AW ad o sz) s.heap o S H locs → lv_has ls 10 [(0, .ref (ad 15 PP 0)), (1, .ref (ad 16 PP 0)), (2, .ref (ad 17 PP 0)), (3, .ref (ad 18 PP 0)), (4, .int x4), (5, .int y5), (6, .int y6), (7, .int y7), (8, .int y8)] → Wi D ad cy o sz Q p l e rmL_middle s m [.ref (ad 15 PP 0), .ref (ad 16 PP 0), .ref (ad 17 PP 0), .ref (ad 18 PP 0), .int x4] below meth c H locs (F0 m 81 ls [])), ∀ {K1 : Mem → Int32 → Int32 → Int32 → Prop} (hk1 : ∀ (S : Mem) (y5 : Int32) (y6 : Int32) (y7 : Int32), K1 S y5 y6 y7 → ∀ (H : Heap) (locs : List Loc) (ls : Array Slot), PW D ad cy (AW ad o sz) s.heap o S H locs → lv_has ls 10 [(0, .ref (ad 15 PP 0)), (1, .ref (ad 16 PP 0)), (2, .ref (ad 17 PP 0)), (3, .ref (ad 18 PP 0)), (4, .int x4), (5, .int y5), (6, .int y6), (7, .int y7)] → Wi D ad cy o sz Q p l e rmL_middle s m [.ref (ad 15 PP 0), .ref (ad 16 PP 0), .ref (ad 17 PP 0), .ref (ad 18 PP 0), .int x4] below meth c H locs (F0 m 179 ls [])), ∀ (S : Mem) (y5 : Int32) (y6 : Int32) (y8 : Int32) (w0 : Int32), vc_L_middle_J169 Q K0 K1 PP x4 S y5 y6 y8 w0 → ∀ (H : Heap) (locs : List Loc) (ls : Array Slot), PW D ad cy (AW ad o sz) s.heap o S H locs → lv_has ls 10 [(0, .ref (ad 15 PP 0)), (1, .ref (ad 16 PP 0)), (2, .ref (ad 17 PP 0)), (3, .ref (ad 18 PP 0)), (4, .int x4), (5, .int y5), (6, .int y6), (8, .int y8)] → Wi D ad cy o sz Q p l e rmL_middle s m [.ref (ad 15 PP 0), .ref (ad 16 PP 0), .ref (ad 17 PP 0), .ref (ad 18 PP 0), .int x4] below meth c H locs (F0 m 169 ls [.int w0]) := by
    intro K0 hk0 K1 hk1 S y5 y6 y8 w0 hq H locs ls hX hl
    unfold vc_L_middle_J169 at hq
    refine lv_iconst (v := (0 : Int32)) hM.1 hM.2.1 dL_middle_169 (by decide) ?_
    exact J170 hk0 hk1 S y5 y6 y8 w0 (0 : Int32) hq _ _ _ hX (lv_sub hl [0, 1, 2, 3, 4, 5, 6, 7] rfl)
  have J140 : ∀ {K0 : Mem → Int32 → Int32 → Int32 → Int32 → Prop} (hk0 : ∀ (S : Mem) (y5 : Int32) (y6 : Int32) (y7 : Int32) (y8 : Int32), K0 S y5 y6 y7 y8 → ∀ (H : Heap) (locs : List Loc) (ls : Array Slot), PW D ad cy (AW ad o sz) s.heap o S H locs → lv_has ls 10 [(0, .ref (ad 15 PP 0)), (1, .ref (ad 16 PP 0)), (2, .ref (ad 17 PP 0)), (3, .ref (ad 18 PP 0)), (4, .int x4), (5, .int y5), (6, .int y6), (7, .int y7), (8, .int y8)] → Wi D ad cy o sz Q p l e rmL_middle s m [.ref (ad 15 PP 0), .ref (ad 16 PP 0), .ref (ad 17 PP 0), .ref (ad 18 PP 0), .int x4] below meth c H locs (F0 m 81 ls [])), ∀ {K1 : Mem → Int32 → Int32 → Int32 → Prop} (hk1 : ∀ (S : Mem) (y5 : Int32) (y6 : Int32) (y7 : Int32), K1 S y5 y6 y7 → ∀ (H : Heap) (locs : List Loc) (ls : Array Slot), PW D ad cy (AW ad o sz) s.heap o S H locs → lv_has ls 10 [(0, .ref (ad 15 PP 0)), (1, .ref (ad 16 PP 0)), (2, .ref (ad 17 PP 0)), (3, .ref (ad 18 PP 0)), (4, .int x4), (5, .int y5), (6, .int y6), (7, .int y7)] → Wi D ad cy o sz Q p l e rmL_middle s m [.ref (ad 15 PP 0), .ref (ad 16 PP 0), .ref (ad 17 PP 0), .ref (ad 18 PP 0), .int x4] below meth c H locs (F0 m 179 ls [])), ∀ (S : Mem) (y5 : Int32) (y6 : Int32) (y7 : Int32) (y8 : Int32) (w0 : Int32), vc_L_middle_J140 Q K0 K1 PP x4 S y5 y6 y7 y8 w0 → ∀ (H : Heap) (locs : List Loc) (ls : Array Slot), PW D ad cy (AW ad o sz) s.heap o S H locs → lv_has ls 10 [(0, .ref (ad 15 PP 0)), (1, .ref (ad 16 PP 0)), (2, .ref (ad 17 PP 0)), (3, .ref (ad 18 PP 0)), (4, .int x4), (5, .int y5), (6, .int y6), (7, .int y7), (8, .int y8)] → Wi D ad cy o sz Q p l e rmL_middle s m [.ref (ad 15 PP 0), .ref (ad 16 PP 0), .ref (ad 17 PP 0), .ref (ad 18 PP 0), .int x4] below meth c H locs (F0 m 140 ls [.int w0]) := by
    intro K0 hk0 K1 hk1 S y5 y6 y7 y8 w0 hq H locs ls hX hl
    unfold vc_L_middle_J140 at hq
    refine lv_istore (lv' := [(9, .int w0), (0, .ref (ad 15 PP 0)), (1, .ref (ad 16 PP 0)), (2, .ref (ad 17 PP 0)), (3, .ref (ad 18 PP 0)), (4, .int x4), (5, .int y5), (6, .int y6), (7, .int y7), (8, .int y8)]) hM.1 hM.2.1 dL_middle_140 hl (by decide) rfl (fun ls hl => ?_)
    refine lv_iload hM.1 hM.2.1 dL_middle_142 (lv_at hl 8 rfl) ?_
    refine lv_iload hM.1 hM.2.1 dL_middle_144 (lv_at hl 9 rfl) ?_
    refine lv_iload hM.1 hM.2.1 dL_middle_146 (lv_at hl 5 rfl) ?_
    refine lv_icmp_eq (tgt := 169) hM.1 hM.2.1 dL_middle_148 (by decide) (fun c_22 => ?_) (fun c_22 => ?_)
    · replace hq := hq.1 c_22
      exact J169 hk0 hk1 S y5 y6 y8 y7 hq _ _ _ hX (lv_sub hl [1, 2, 3, 4, 5, 6, 7, 9] rfl)
    replace hq := hq.2 c_22
    refine lv_aload_n hM.1 hM.2.1 dL_middle_151 rfl (lv_at hl 1 rfl) ?_
    refine lv_iload hM.1 hM.2.1 dL_middle_152 (lv_at hl 9 rfl) ?_
    refine cSi (As := [.ref (ad 15 PP 0), .int y8]) hM hK hX ⟨hI.1, hI.2.1, trivial⟩ hA (met_L_asked l D ad cy S PP y8 hq) (kL_asked hM.2.2.2.2 ql_RL_16 (Nat.le_of_ble_eq_true rfl) (Nat.le_of_ble_eq_true rfl)) rfl hl.1 rfl (Nat.le_of_ble_eq_true rfl) dL_middle_154 ⟨Nat.zero_le _, Nat.zero_le _⟩ (fun S_23 r_24 hq H locs hX => ?_)
    refine lv_if_eq (tgt := 169) hM.1 hM.2.1 dL_middle_157 (by decide) (fun c_25 => ?_) (fun c_25 => ?_)
    · replace hq := hq.1 c_25
      exact J169 hk0 hk1 S_23 y5 y6 y8 y7 hq _ _ _ hX (lv_sub hl [1, 2, 3, 4, 5, 6, 7, 9] rfl)
    replace hq := hq.2 c_25
    refine lv_iload hM.1 hM.2.1 dL_middle_160 (lv_at hl 0 rfl) ?_
    refine lv_if_eq (tgt := 169) hM.1 hM.2.1 dL_middle_162 (by decide) (fun c_26 => ?_) (fun c_26 => ?_)
    · replace hq := hq.1 c_26
      exact J169 hk0 hk1 S_23 y5 y6 y8 y7 hq _ _ _ hX (lv_sub hl [1, 2, 3, 4, 5, 6, 7, 9] rfl)
    replace hq := hq.2 c_26
    refine lv_iconst (v := (1 : Int32)) hM.1 hM.2.1 dL_middle_165 (by decide) ?_
    refine lv_goto (tgt := 170) hM.1 hM.2.1 dL_middle_166 (by decide) ?_
    exact J170 hk0 hk1 S_23 y5 y6 y8 y7 (1 : Int32) hq _ _ _ hX (lv_sub hl [1, 2, 3, 4, 5, 6, 7, 9] rfl)
  have J135 : ∀ {K0 : Mem → Int32 → Int32 → Int32 → Int32 → Prop} (hk0 : ∀ (S : Mem) (y5 : Int32) (y6 : Int32) (y7 : Int32) (y8 : Int32), K0 S y5 y6 y7 y8 → ∀ (H : Heap) (locs : List Loc) (ls : Array Slot), PW D ad cy (AW ad o sz) s.heap o S H locs → lv_has ls 10 [(0, .ref (ad 15 PP 0)), (1, .ref (ad 16 PP 0)), (2, .ref (ad 17 PP 0)), (3, .ref (ad 18 PP 0)), (4, .int x4), (5, .int y5), (6, .int y6), (7, .int y7), (8, .int y8)] → Wi D ad cy o sz Q p l e rmL_middle s m [.ref (ad 15 PP 0), .ref (ad 16 PP 0), .ref (ad 17 PP 0), .ref (ad 18 PP 0), .int x4] below meth c H locs (F0 m 81 ls [])), ∀ {K1 : Mem → Int32 → Int32 → Int32 → Prop} (hk1 : ∀ (S : Mem) (y5 : Int32) (y6 : Int32) (y7 : Int32), K1 S y5 y6 y7 → ∀ (H : Heap) (locs : List Loc) (ls : Array Slot), PW D ad cy (AW ad o sz) s.heap o S H locs → lv_has ls 10 [(0, .ref (ad 15 PP 0)), (1, .ref (ad 16 PP 0)), (2, .ref (ad 17 PP 0)), (3, .ref (ad 18 PP 0)), (4, .int x4), (5, .int y5), (6, .int y6), (7, .int y7)] → Wi D ad cy o sz Q p l e rmL_middle s m [.ref (ad 15 PP 0), .ref (ad 16 PP 0), .ref (ad 17 PP 0), .ref (ad 18 PP 0), .int x4] below meth c H locs (F0 m 179 ls [])), ∀ (S : Mem) (y5 : Int32) (y6 : Int32) (y7 : Int32) (y8 : Int32), vc_L_middle_J135 Q K0 K1 PP x4 S y5 y6 y7 y8 → ∀ (H : Heap) (locs : List Loc) (ls : Array Slot), PW D ad cy (AW ad o sz) s.heap o S H locs → lv_has ls 10 [(0, .ref (ad 15 PP 0)), (1, .ref (ad 16 PP 0)), (2, .ref (ad 17 PP 0)), (3, .ref (ad 18 PP 0)), (4, .int x4), (5, .int y5), (6, .int y6), (7, .int y7), (8, .int y8)] → Wi D ad cy o sz Q p l e rmL_middle s m [.ref (ad 15 PP 0), .ref (ad 16 PP 0), .ref (ad 17 PP 0), .ref (ad 18 PP 0), .int x4] below meth c H locs (F0 m 135 ls []) := by
    intro K0 hk0 K1 hk1 S y5 y6 y7 y8 hq H locs ls hX hl
    unfold vc_L_middle_J135 at hq
    refine lv_iconst (v := (1 : Int32)) hM.1 hM.2.1 dL_middle_135 (by decide) ?_
    refine lv_goto (tgt := 140) hM.1 hM.2.1 dL_middle_136 (by decide) ?_
    exact J140 hk0 hk1 S y5 y6 y7 y8 (1 : Int32) hq _ _ _ hX (lv_sub hl [0, 1, 2, 3, 4, 5, 6, 7, 8] rfl)
  have J139 : ∀ {K0 : Mem → Int32 → Int32 → Int32 → Int32 → Prop} (hk0 : ∀ (S : Mem) (y5 : Int32) (y6 : Int32) (y7 : Int32) (y8 : Int32), K0 S y5 y6 y7 y8 → ∀ (H : Heap) (locs : List Loc) (ls : Array Slot), PW D ad cy (AW ad o sz) s.heap o S H locs → lv_has ls 10 [(0, .ref (ad 15 PP 0)), (1, .ref (ad 16 PP 0)), (2, .ref (ad 17 PP 0)), (3, .ref (ad 18 PP 0)), (4, .int x4), (5, .int y5), (6, .int y6), (7, .int y7), (8, .int y8)] → Wi D ad cy o sz Q p l e rmL_middle s m [.ref (ad 15 PP 0), .ref (ad 16 PP 0), .ref (ad 17 PP 0), .ref (ad 18 PP 0), .int x4] below meth c H locs (F0 m 81 ls [])), ∀ {K1 : Mem → Int32 → Int32 → Int32 → Prop} (hk1 : ∀ (S : Mem) (y5 : Int32) (y6 : Int32) (y7 : Int32), K1 S y5 y6 y7 → ∀ (H : Heap) (locs : List Loc) (ls : Array Slot), PW D ad cy (AW ad o sz) s.heap o S H locs → lv_has ls 10 [(0, .ref (ad 15 PP 0)), (1, .ref (ad 16 PP 0)), (2, .ref (ad 17 PP 0)), (3, .ref (ad 18 PP 0)), (4, .int x4), (5, .int y5), (6, .int y6), (7, .int y7)] → Wi D ad cy o sz Q p l e rmL_middle s m [.ref (ad 15 PP 0), .ref (ad 16 PP 0), .ref (ad 17 PP 0), .ref (ad 18 PP 0), .int x4] below meth c H locs (F0 m 179 ls [])), ∀ (S : Mem) (y5 : Int32) (y6 : Int32) (y7 : Int32) (y8 : Int32), vc_L_middle_J139 Q K0 K1 PP x4 S y5 y6 y7 y8 → ∀ (H : Heap) (locs : List Loc) (ls : Array Slot), PW D ad cy (AW ad o sz) s.heap o S H locs → lv_has ls 10 [(0, .ref (ad 15 PP 0)), (1, .ref (ad 16 PP 0)), (2, .ref (ad 17 PP 0)), (3, .ref (ad 18 PP 0)), (4, .int x4), (5, .int y5), (6, .int y6), (7, .int y7), (8, .int y8)] → Wi D ad cy o sz Q p l e rmL_middle s m [.ref (ad 15 PP 0), .ref (ad 16 PP 0), .ref (ad 17 PP 0), .ref (ad 18 PP 0), .int x4] below meth c H locs (F0 m 139 ls []) := by
    intro K0 hk0 K1 hk1 S y5 y6 y7 y8 hq H locs ls hX hl
    unfold vc_L_middle_J139 at hq
    refine lv_iconst (v := (0 : Int32)) hM.1 hM.2.1 dL_middle_139 (by decide) ?_
    exact J140 hk0 hk1 S y5 y6 y7 y8 (0 : Int32) hq _ _ _ hX (lv_sub hl [0, 1, 2, 3, 4, 5, 6, 7, 8] rfl)
  have L81 : ∀ {K : Mem → Int32 → Int32 → Int32 → Prop} (hk : ∀ (S : Mem) (y5 : Int32) (y6 : Int32) (y7 : Int32), K S y5 y6 y7 → ∀ (H : Heap) (locs : List Loc) (ls : Array Slot), PW D ad cy (AW ad o sz) s.heap o S H locs → lv_has ls 10 [(0, .ref (ad 15 PP 0)), (1, .ref (ad 16 PP 0)), (2, .ref (ad 17 PP 0)), (3, .ref (ad 18 PP 0)), (4, .int x4), (5, .int y5), (6, .int y6), (7, .int y7)] → Wi D ad cy o sz Q p l e rmL_middle s m [.ref (ad 15 PP 0), .ref (ad 16 PP 0), .ref (ad 17 PP 0), .ref (ad 18 PP 0), .int x4] below meth c H locs (F0 m 179 ls [])), ∀ (n : Nat) (S : Mem) (y5 : Int32) (y6 : Int32) (y7 : Int32) (y8 : Int32), vc_L_middle_L81 Q K PP x4 n S y5 y6 y7 y8 → ∀ (H : Heap) (locs : List Loc) (ls : Array Slot), PW D ad cy (AW ad o sz) s.heap o S H locs → lv_has ls 10 [(0, .ref (ad 15 PP 0)), (1, .ref (ad 16 PP 0)), (2, .ref (ad 17 PP 0)), (3, .ref (ad 18 PP 0)), (4, .int x4), (5, .int y5), (6, .int y6), (7, .int y7), (8, .int y8)] → Wi D ad cy o sz Q p l e rmL_middle s m [.ref (ad 15 PP 0), .ref (ad 16 PP 0), .ref (ad 17 PP 0), .ref (ad 18 PP 0), .int x4] below meth c H locs (F0 m 81 ls []) := by
    intro K hk n
    induction n with
    | zero =>
      intro S y5 y6 y7 y8 hq
      rw [vc_L_middle_L81] at hq
      exact hq.elim
    | succ n ih =>
      intro S y5 y6 y7 y8 hq H locs ls hX hl
      rw [vc_L_middle_L81] at hq
      refine lv_iload hM.1 hM.2.1 dL_middle_81 (lv_at hl 8 rfl) ?_
      refine lv_aload_n hM.1 hM.2.1 dL_middle_83 rfl (lv_at hl 3 rfl) ?_
      refine lv_bipush (v := (15 : Int32)) hM.1 hM.2.1 dL_middle_84 (by decide) ?_
      have c_15 := hq.1
      replace hq := hq.2
      refine r_iald hM hK hX hI.2.2.2.2.1 (a18 PP 0) c_15 dL_middle_86 ?_
      refine lv_icmp_ge (tgt := 179) hM.1 hM.2.1 dL_middle_87 (by decide) (fun c_16 => ?_) (fun c_16 => ?_)
      · replace hq := hq.1 c_16
        exact hk S y5 y6 y7 hq _ _ _ hX (lv_sub hl [0, 1, 2, 3, 4, 5, 6, 7] rfl)
      replace hq := hq.2 c_16
      refine lv_aload_n hM.1 hM.2.1 dL_middle_90 rfl (lv_at hl 0 rfl) ?_
      refine lv_aload_n hM.1 hM.2.1 dL_middle_91 rfl (lv_at hl 1 rfl) ?_
      refine lv_aload_n hM.1 hM.2.1 dL_middle_92 rfl (lv_at hl 2 rfl) ?_
      refine lv_iload hM.1 hM.2.1 dL_middle_93 (lv_at hl 8 rfl) ?_
      refine cSi (As := [.ref (ad 15 PP 0), .ref (ad 16 PP 0), .ref (ad 17 PP 0), .int y8]) hM hK hX ⟨hI.1, hI.2.1, hI.2.2.1, hI.2.2.2.1, trivial⟩ hA (met_L_own l D ad cy S PP y8 hq) (kL_own hM.2.2.2.2 ql_RL_20 (Nat.le_of_ble_eq_true rfl) (Nat.le_of_ble_eq_true rfl)) rfl hl.1 rfl (Nat.le_of_ble_eq_true rfl) dL_middle_95 ⟨Nat.zero_le _, Nat.zero_le _⟩ (fun S_17 r_18 hq H locs hX => ?_)
      refine lv_aload_n hM.1 hM.2.1 dL_middle_98 rfl (lv_at hl 0 rfl) ?_
      refine lv_aload_n hM.1 hM.2.1 dL_middle_99 rfl (lv_at hl 1 rfl) ?_
      refine lv_aload_n hM.1 hM.2.1 dL_middle_100 rfl (lv_at hl 2 rfl) ?_
      refine lv_iload hM.1 hM.2.1 dL_middle_101 (lv_at hl 6 rfl) ?_
      refine cSi (As := [.ref (ad 15 PP 0), .ref (ad 16 PP 0), .ref (ad 17 PP 0), .int y6]) hM hK hX ⟨hI.1, hI.2.1, hI.2.2.1, hI.2.2.2.1, trivial⟩ hA (met_L_own l D ad cy S_17 PP y6 hq) (kL_own hM.2.2.2.2 ql_RL_20 (Nat.le_of_ble_eq_true rfl) (Nat.le_of_ble_eq_true rfl)) rfl hl.1 rfl (Nat.le_of_ble_eq_true rfl) dL_middle_103 ⟨Nat.zero_le _, Nat.zero_le _⟩ (fun S_19 r_20 hq H locs hX => ?_)
      refine lv_icmp_lt (tgt := 135) hM.1 hM.2.1 dL_middle_106 (by decide) (fun c_21 => ?_) (fun c_21 => ?_)
      · replace hq := hq.1 c_21
        exact J135 ih hk S_19 y5 y6 y7 y8 hq _ _ _ hX (lv_sub hl [0, 1, 2, 3, 4, 5, 6, 7, 8] rfl)
      replace hq := hq.2 c_21
      refine lv_aload_n hM.1 hM.2.1 dL_middle_109 rfl (lv_at hl 0 rfl) ?_
      refine lv_aload_n hM.1 hM.2.1 dL_middle_110 rfl (lv_at hl 1 rfl) ?_
      refine lv_aload_n hM.1 hM.2.1 dL_middle_111 rfl (lv_at hl 2 rfl) ?_
      refine lv_iload hM.1 hM.2.1 dL_middle_112 (lv_at hl 8 rfl) ?_
      refine cSi (As := [.ref (ad 15 PP 0), .ref (ad 16 PP 0), .ref (ad 17 PP 0), .int y8]) hM hK hX ⟨hI.1, hI.2.1, hI.2.2.1, hI.2.2.2.1, trivial⟩ hA (met_L_own l D ad cy S_19 PP y8 hq) (kL_own hM.2.2.2.2 ql_RL_20 (Nat.le_of_ble_eq_true rfl) (Nat.le_of_ble_eq_true rfl)) rfl hl.1 rfl (Nat.le_of_ble_eq_true rfl) dL_middle_114 ⟨Nat.zero_le _, Nat.zero_le _⟩ (fun S_27 r_28 hq H locs hX => ?_)
      refine lv_aload_n hM.1 hM.2.1 dL_middle_117 rfl (lv_at hl 0 rfl) ?_
      refine lv_aload_n hM.1 hM.2.1 dL_middle_118 rfl (lv_at hl 1 rfl) ?_
      refine lv_aload_n hM.1 hM.2.1 dL_middle_119 rfl (lv_at hl 2 rfl) ?_
      refine lv_iload hM.1 hM.2.1 dL_middle_120 (lv_at hl 6 rfl) ?_
      refine cSi (As := [.ref (ad 15 PP 0), .ref (ad 16 PP 0), .ref (ad 17 PP 0), .int y6]) hM hK hX ⟨hI.1, hI.2.1, hI.2.2.1, hI.2.2.2.1, trivial⟩ hA (met_L_own l D ad cy S_27 PP y6 hq) (kL_own hM.2.2.2.2 ql_RL_20 (Nat.le_of_ble_eq_true rfl) (Nat.le_of_ble_eq_true rfl)) rfl hl.1 rfl (Nat.le_of_ble_eq_true rfl) dL_middle_122 ⟨Nat.zero_le _, Nat.zero_le _⟩ (fun S_29 r_30 hq H locs hX => ?_)
      refine lv_icmp_ne (tgt := 139) hM.1 hM.2.1 dL_middle_125 (by decide) (fun c_31 => ?_) (fun c_31 => ?_)
      · replace hq := hq.1 c_31
        exact J139 ih hk S_29 y5 y6 y7 y8 hq _ _ _ hX (lv_sub hl [0, 1, 2, 3, 4, 5, 6, 7, 8] rfl)
      replace hq := hq.2 c_31
      refine lv_iload hM.1 hM.2.1 dL_middle_128 (lv_at hl 8 rfl) ?_
      refine lv_iload hM.1 hM.2.1 dL_middle_130 (lv_at hl 6 rfl) ?_
      refine lv_icmp_ge (tgt := 139) hM.1 hM.2.1 dL_middle_132 (by decide) (fun c_32 => ?_) (fun c_32 => ?_)
      · replace hq := hq.1 c_32
        exact J139 ih hk S_29 y5 y6 y7 y8 hq _ _ _ hX (lv_sub hl [0, 1, 2, 3, 4, 5, 6, 7, 8] rfl)
      replace hq := hq.2 c_32
      exact J135 ih hk S_29 y5 y6 y7 y8 hq _ _ _ hX (lv_sub hl [0, 1, 2, 3, 4, 5, 6, 7, 8] rfl)
  have L50 : ∀ {K : Mem → Prop} (hk : ∀ (S : Mem), K S → ∀ (H : Heap) (locs : List Loc) (ls : Array Slot), PW D ad cy (AW ad o sz) s.heap o S H locs → lv_has ls 10 [] → Wi D ad cy o sz Q p l e rmL_middle s m [.ref (ad 15 PP 0), .ref (ad 16 PP 0), .ref (ad 17 PP 0), .ref (ad 18 PP 0), .int x4] below meth c H locs (F0 m 205 ls [])), ∀ (n : Nat) (S : Mem) (y5 : Int32) (y6 : Int32), vc_L_middle_L50 Q K PP x4 n S y5 y6 → ∀ (H : Heap) (locs : List Loc) (ls : Array Slot), PW D ad cy (AW ad o sz) s.heap o S H locs → lv_has ls 10 [(0, .ref (ad 15 PP 0)), (1, .ref (ad 16 PP 0)), (2, .ref (ad 17 PP 0)), (3, .ref (ad 18 PP 0)), (4, .int x4), (5, .int y5), (6, .int y6)] → Wi D ad cy o sz Q p l e rmL_middle s m [.ref (ad 15 PP 0), .ref (ad 16 PP 0), .ref (ad 17 PP 0), .ref (ad 18 PP 0), .int x4] below meth c H locs (F0 m 50 ls []) := by
    intro K hk n
    induction n with
    | zero =>
      intro S y5 y6 hq
      rw [vc_L_middle_L50] at hq
      exact hq.elim
    | succ n ih =>
      intro S y5 y6 hq H locs ls hX hl
      rw [vc_L_middle_L50] at hq
      refine lv_iload hM.1 hM.2.1 dL_middle_50 (lv_at hl 6 rfl) ?_
      refine lv_aload_n hM.1 hM.2.1 dL_middle_52 rfl (lv_at hl 3 rfl) ?_
      refine lv_bipush (v := (15 : Int32)) hM.1 hM.2.1 dL_middle_53 (by decide) ?_
      have c_9 := hq.1
      replace hq := hq.2
      refine r_iald hM hK hX hI.2.2.2.2.1 (a18 PP 0) c_9 dL_middle_55 ?_
      refine lv_icmp_ge (tgt := 205) hM.1 hM.2.1 dL_middle_56 (by decide) (fun c_10 => ?_) (fun c_10 => ?_)
      · replace hq := hq.1 c_10
        exact hk S hq _ _ _ hX (lv_sub hl [] rfl)
      replace hq := hq.2 c_10
      refine lv_iload hM.1 hM.2.1 dL_middle_59 (lv_at hl 6 rfl) ?_
      refine lv_iload hM.1 hM.2.1 dL_middle_61 (lv_at hl 4 rfl) ?_
      refine lv_icmp_eq (tgt := 199) hM.1 hM.2.1 dL_middle_63 (by decide) (fun c_11 => ?_) (fun c_11 => ?_)
      · replace hq := hq.1 c_11
        exact J199 ih hk S y5 y6 hq _ _ _ hX (lv_sub hl [0, 1, 2, 3, 4, 5, 6] rfl)
      replace hq := hq.2 c_11
      refine lv_aload_n hM.1 hM.2.1 dL_middle_66 rfl (lv_at hl 0 rfl) ?_
      refine lv_iload hM.1 hM.2.1 dL_middle_67 (lv_at hl 6 rfl) ?_
      refine cSi (As := [.ref (ad 15 PP 0), .int y6]) hM hK hX ⟨hI.1, hI.2.1, trivial⟩ hA (met_L_asked l D ad cy S PP y6 hq) (kL_asked hM.2.2.2.2 ql_RL_16 (Nat.le_of_ble_eq_true rfl) (Nat.le_of_ble_eq_true rfl)) rfl hl.1 rfl (Nat.le_of_ble_eq_true rfl) dL_middle_69 ⟨Nat.zero_le _, Nat.zero_le _⟩ (fun S_12 r_13 hq H locs hX => ?_)
      refine lv_if_eq (tgt := 199) hM.1 hM.2.1 dL_middle_72 (by decide) (fun c_14 => ?_) (fun c_14 => ?_)
      · replace hq := hq.1 c_14
        exact J199 ih hk S_12 y5 y6 hq _ _ _ hX (lv_sub hl [0, 1, 2, 3, 4, 5, 6] rfl)
      replace hq := hq.2 c_14
      refine lv_iconst (v := (0 : Int32)) hM.1 hM.2.1 dL_middle_75 (by decide) ?_
      refine lv_istore (lv' := [(7, .int (0 : Int32)), (0, .ref (ad 15 PP 0)), (1, .ref (ad 16 PP 0)), (2, .ref (ad 17 PP 0)), (3, .ref (ad 18 PP 0)), (4, .int x4), (5, .int y5), (6, .int y6)]) hM.1 hM.2.1 dL_middle_76 hl (by decide) rfl (fun ls hl => ?_)
      refine lv_iconst (v := (0 : Int32)) hM.1 hM.2.1 dL_middle_78 (by decide) ?_
      refine lv_istore (lv' := [(8, .int (0 : Int32)), (7, .int (0 : Int32)), (0, .ref (ad 15 PP 0)), (1, .ref (ad 16 PP 0)), (2, .ref (ad 17 PP 0)), (3, .ref (ad 18 PP 0)), (4, .int x4), (5, .int y5), (6, .int y6)]) hM.1 hM.2.1 dL_middle_79 hl (by decide) rfl (fun ls hl => ?_)
      obtain ⟨k0, hq⟩ := hq
      refine L81 (fun S_33 y5_34 y6_35 y7_36 hq H locs ls hX hl => ?_) k0 S_12 y5 y6 (0 : Int32) (0 : Int32) hq _ _ _ hX (lv_sub hl [2, 3, 4, 5, 6, 7, 8, 1, 0] rfl)
      refine lv_iload hM.1 hM.2.1 dL_middle_179 (lv_at hl 7 rfl) ?_
      refine lv_iload hM.1 hM.2.1 dL_middle_181 (lv_at hl 5 rfl) ?_
      refine lv_iconst (v := (1 : Int32)) hM.1 hM.2.1 dL_middle_183 (by decide) ?_
      refine lv_isub hM.1 hM.2.1 dL_middle_184 ?_
      refine lv_iconst (v := (2 : Int32)) hM.1 hM.2.1 dL_middle_185 (by decide) ?_
      have c_37 := hq.1
      replace hq := hq.2
      refine lv_idiv hM.1 hM.2.1 dL_middle_186 c_37 ?_
      refine lv_icmp_ne (tgt := 199) hM.1 hM.2.1 dL_middle_187 (by decide) (fun c_38 => ?_) (fun c_38 => ?_)
      · replace hq := hq.1 c_38
        exact J199 ih hk S_33 y5_34 y6_35 hq _ _ _ hX (lv_sub hl [0, 1, 2, 3, 4, 5, 6] rfl)
      replace hq := hq.2 c_38
      refine lv_aload_n hM.1 hM.2.1 dL_middle_190 rfl (lv_at hl 0 rfl) ?_
      refine lv_aload_n hM.1 hM.2.1 dL_middle_191 rfl (lv_at hl 1 rfl) ?_
      refine lv_aload_n hM.1 hM.2.1 dL_middle_192 rfl (lv_at hl 2 rfl) ?_
      refine lv_iload hM.1 hM.2.1 dL_middle_193 (lv_at hl 6 rfl) ?_
      refine cSi (As := [.ref (ad 15 PP 0), .ref (ad 16 PP 0), .ref (ad 17 PP 0), .int y6_35]) hM hK hX ⟨hI.1, hI.2.1, hI.2.2.1, hI.2.2.2.1, trivial⟩ hA (met_L_own l D ad cy S_33 PP y6_35 hq) (kL_own hM.2.2.2.2 ql_RL_20 (Nat.le_of_ble_eq_true rfl) (Nat.le_of_ble_eq_true rfl)) rfl hl.1 rfl (Nat.le_of_ble_eq_true rfl) dL_middle_195 ⟨Nat.zero_le _, Nat.zero_le _⟩ (fun S_39 r_40 hq H locs hX => ?_)
      exact e_i hM hX hlocks hret hq dL_middle_198
  unfold vc_L_middle at hq
  refine lv_iconst (v := (0 : Int32)) hM.1 hM.2.1 dL_middle_0 (by decide) ?_
  refine lv_istore (lv' := [(5, .int (0 : Int32)), (0, .ref (ad 15 PP 0)), (1, .ref (ad 16 PP 0)), (2, .ref (ad 17 PP 0)), (3, .ref (ad 18 PP 0)), (4, .int x4)]) hM.1 hM.2.1 dL_middle_1 hl (by decide) rfl (fun ls hl => ?_)
  refine lv_iconst (v := (0 : Int32)) hM.1 hM.2.1 dL_middle_3 (by decide) ?_
  refine lv_istore (lv' := [(6, .int (0 : Int32)), (5, .int (0 : Int32)), (0, .ref (ad 15 PP 0)), (1, .ref (ad 16 PP 0)), (2, .ref (ad 17 PP 0)), (3, .ref (ad 18 PP 0)), (4, .int x4)]) hM.1 hM.2.1 dL_middle_4 hl (by decide) rfl (fun ls hl => ?_)
  obtain ⟨k0, hq⟩ := hq
  refine L6 (fun S_7 y5_8 hq H locs ls hX hl => ?_) k0 S (0 : Int32) (0 : Int32) hq _ _ _ hX (lv_sub hl [2, 3, 4, 5, 6, 1, 0] rfl)
  refine lv_iconst (v := (0 : Int32)) hM.1 hM.2.1 dL_middle_47 (by decide) ?_
  refine lv_istore (lv' := [(6, .int (0 : Int32)), (0, .ref (ad 15 PP 0)), (1, .ref (ad 16 PP 0)), (2, .ref (ad 17 PP 0)), (3, .ref (ad 18 PP 0)), (4, .int x4), (5, .int y5_8)]) hM.1 hM.2.1 dL_middle_48 hl (by decide) rfl (fun ls hl => ?_)
  obtain ⟨k0, hq⟩ := hq
  refine L50 (fun S_41 hq H locs ls hX hl => ?_) k0 S_7 y5_8 (0 : Int32) hq _ _ _ hX (lv_sub hl [1, 2, 3, 4, 5, 6, 0] rfl)
  refine lv_ldc hM.1 hM.2.1 hM.2.2.2.1 (hM.2.2.2.2 _ qn_RL_11) dL_middle_205 ?_
  exact e_i hM hX hlocks hret hq dL_middle_207
def rmL_mean : Room := { frames := 2, cells := 0, slots := 0, locals := 49 }
theorem kL_mean {R : Room} {s : State} {args : Array Value} {own : String} {index : Nat} (ht : ∀ w ∈ lw_all, w.before args s = true) (hl : Cond.methodLink own index yL_mean ∈ lw_all) (hf : rmL_mean.frames + 1 ≤ R.frames) (hlo : 8 + (7 + 11) + rmL_mean.locals ≤ R.locals) : CallB R s args own index yL_mean cL_mean 7 (some Jvm.ClassFile.FieldType.int) (wA yL_mean cL_mean 7 (some Jvm.ClassFile.FieldType.int)) rmL_mean 0 0 4 ∧ (Cond.static yL_mean).before args s = true := va_cwS 4 ht (good_S hl qt_yL_mean qi_RL qc_yL_mean) rfl rfl rfl (by decide +kernel) ⟨hf, hlo⟩
set_option maxRecDepth 100000 in
set_option maxHeartbeats 4000000 in
theorem met_L_mean (l : Launch) (D : va_G) (ad : Adr) (cy : Nat → ClassId) (S : Mem) (PP : Nat) {Q : Mem → Int32 → Prop} (hq : vc_L_mean S PP Q) : Ci l yL_mean (wA yL_mean cL_mean 7 (some Jvm.ClassFile.FieldType.int)) rmL_mean D ad cy (IN [(15, PP, 0), (16, PP, 0), (17, PP, 0), (18, PP, 0)]) [.ref (ad 15 PP 0), .ref (ad 16 PP 0), .ref (ad 17 PP 0), .ref (ad 18 PP 0)] S Q := by
  intro o sz hI
  refine mkC (own := RL) (lv := [(0, .ref (ad 15 PP 0)), (1, .ref (ad 16 PP 0)), (2, .ref (ad 17 PP 0)), (3, .ref (ad 18 PP 0))]) (by decide) rfl (Nat.le_of_ble_eq_true rfl) rfl ?_
  intro p e s m below meth c ls hsz hM hlocks hret hK hA hX hl
  have J78 : ∀ {K0 : Mem → Int32 → Int32 → Int32 → Prop} (hk0 : ∀ (S : Mem) (y4 : Int32) (y5 : Int32) (y6 : Int32), K0 S y4 y5 y6 → ∀ (H : Heap) (locs : List Loc) (ls : Array Slot), PW D ad cy (AW ad o sz) s.heap o S H locs → lv_has ls 7 [(0, .ref (ad 15 PP 0)), (1, .ref (ad 16 PP 0)), (2, .ref (ad 17 PP 0)), (3, .ref (ad 18 PP 0)), (4, .int y4), (5, .int y5), (6, .int y6)] → Wi D ad cy o sz Q p l e rmL_mean s m [.ref (ad 15 PP 0), .ref (ad 16 PP 0), .ref (ad 17 PP 0), .ref (ad 18 PP 0)] below meth c H locs (F0 m 9 ls [])), ∀ {K1 : Mem → Int32 → Int32 → Prop} (hk1 : ∀ (S : Mem) (y4 : Int32) (y5 : Int32), K1 S y4 y5 → ∀ (H : Heap) (locs : List Loc) (ls : Array Slot), PW D ad cy (AW ad o sz) s.heap o S H locs → lv_has ls 7 [(4, .int y4), (5, .int y5)] → Wi D ad cy o sz Q p l e rmL_mean s m [.ref (ad 15 PP 0), .ref (ad 16 PP 0), .ref (ad 17 PP 0), .ref (ad 18 PP 0)] below meth c H locs (F0 m 87 ls [])), ∀ (S : Mem) (y4 : Int32) (y6 : Int32) (w0 : Int32) (w1 : Int32), vc_L_mean_J78 Q K0 K1 PP S y4 y6 w0 w1 → ∀ (H : Heap) (locs : List Loc) (ls : Array Slot), PW D ad cy (AW ad o sz) s.heap o S H locs → lv_has ls 7 [(0, .ref (ad 15 PP 0)), (1, .ref (ad 16 PP 0)), (2, .ref (ad 17 PP 0)), (3, .ref (ad 18 PP 0)), (4, .int y4), (6, .int y6)] → Wi D ad cy o sz Q p l e rmL_mean s m [.ref (ad 15 PP 0), .ref (ad 16 PP 0), .ref (ad 17 PP 0), .ref (ad 18 PP 0)] below meth c H locs (F0 m 78 ls [.int w1, .int w0]) := by
    intro K0 hk0 K1 hk1 S y4 y6 w0 w1 hq H locs ls hX hl
    unfold vc_L_mean_J78 at hq
    refine lv_iadd hM.1 hM.2.1 dL_mean_78 ?_
    refine lv_istore (lv' := [(5, .int (w0 + w1)), (0, .ref (ad 15 PP 0)), (1, .ref (ad 16 PP 0)), (2, .ref (ad 17 PP 0)), (3, .ref (ad 18 PP 0)), (4, .int y4), (6, .int y6)]) hM.1 hM.2.1 dL_mean_79 hl (by decide) rfl (fun ls hl => ?_)
    refine lv_iinc (v := (y6 + (1 : Int32))) (lv' := [(6, .int (y6 + (1 : Int32))), (5, .int (w0 + w1)), (0, .ref (ad 15 PP 0)), (1, .ref (ad 16 PP 0)), (2, .ref (ad 17 PP 0)), (3, .ref (ad 18 PP 0)), (4, .int y4)]) hM.1 hM.2.1 dL_mean_81 hl (k := 6) rfl rfl (by decide) rfl (fun ls hl => ?_)
    refine lv_goto (tgt := 9) hM.1 hM.2.1 dL_mean_84 (by decide) ?_
    exact hk0 S y4 (w0 + w1) (y6 + (1 : Int32)) hq _ _ _ hX (lv_sub hl [2, 3, 4, 5, 6, 1, 0] rfl)
  have J51 : ∀ {K0 : Mem → Int32 → Int32 → Int32 → Prop} (hk0 : ∀ (S : Mem) (y4 : Int32) (y5 : Int32) (y6 : Int32), K0 S y4 y5 y6 → ∀ (H : Heap) (locs : List Loc) (ls : Array Slot), PW D ad cy (AW ad o sz) s.heap o S H locs → lv_has ls 7 [(0, .ref (ad 15 PP 0)), (1, .ref (ad 16 PP 0)), (2, .ref (ad 17 PP 0)), (3, .ref (ad 18 PP 0)), (4, .int y4), (5, .int y5), (6, .int y6)] → Wi D ad cy o sz Q p l e rmL_mean s m [.ref (ad 15 PP 0), .ref (ad 16 PP 0), .ref (ad 17 PP 0), .ref (ad 18 PP 0)] below meth c H locs (F0 m 9 ls [])), ∀ {K1 : Mem → Int32 → Int32 → Prop} (hk1 : ∀ (S : Mem) (y4 : Int32) (y5 : Int32), K1 S y4 y5 → ∀ (H : Heap) (locs : List Loc) (ls : Array Slot), PW D ad cy (AW ad o sz) s.heap o S H locs → lv_has ls 7 [(4, .int y4), (5, .int y5)] → Wi D ad cy o sz Q p l e rmL_mean s m [.ref (ad 15 PP 0), .ref (ad 16 PP 0), .ref (ad 17 PP 0), .ref (ad 18 PP 0)] below meth c H locs (F0 m 87 ls [])), ∀ (S : Mem) (y5 : Int32) (y6 : Int32) (w0 : Int32) (w1 : Int32), vc_L_mean_J51 Q K0 K1 PP S y5 y6 w0 w1 → ∀ (H : Heap) (locs : List Loc) (ls : Array Slot), PW D ad cy (AW ad o sz) s.heap o S H locs → lv_has ls 7 [(0, .ref (ad 15 PP 0)), (1, .ref (ad 16 PP 0)), (2, .ref (ad 17 PP 0)), (3, .ref (ad 18 PP 0)), (5, .int y5), (6, .int y6)] → Wi D ad cy o sz Q p l e rmL_mean s m [.ref (ad 15 PP 0), .ref (ad 16 PP 0), .ref (ad 17 PP 0), .ref (ad 18 PP 0)] below meth c H locs (F0 m 51 ls [.int w1, .int w0]) := by
    intro K0 hk0 K1 hk1 S y5 y6 w0 w1 hq H locs ls hX hl
    unfold vc_L_mean_J51 at hq
    refine lv_iadd hM.1 hM.2.1 dL_mean_51 ?_
    refine lv_istore (lv' := [(4, .int (w0 + w1)), (0, .ref (ad 15 PP 0)), (1, .ref (ad 16 PP 0)), (2, .ref (ad 17 PP 0)), (3, .ref (ad 18 PP 0)), (5, .int y5), (6, .int y6)]) hM.1 hM.2.1 dL_mean_52 hl (by decide) rfl (fun ls hl => ?_)
    refine lv_iload hM.1 hM.2.1 dL_mean_54 (lv_at hl 5 rfl) ?_
    refine lv_aload_n hM.1 hM.2.1 dL_mean_56 rfl (lv_at hl 1 rfl) ?_
    refine lv_iload hM.1 hM.2.1 dL_mean_57 (lv_at hl 6 rfl) ?_
    refine cSi (As := [.ref (ad 15 PP 0), .int y6]) hM hK hX ⟨hI.1, hI.2.1, trivial⟩ hA (met_L_asked l D ad cy S PP y6 hq) (kL_asked hM.2.2.2.2 ql_RL_16 (Nat.le_of_ble_eq_true rfl) (Nat.le_of_ble_eq_true rfl)) rfl hl.1 rfl (Nat.le_of_ble_eq_true rfl) dL_mean_59 ⟨Nat.zero_le _, Nat.zero_le _⟩ (fun S_6 r_7 hq H locs hX => ?_)
    refine lv_if_eq (tgt := 77) hM.1 hM.2.1 dL_mean_62 (by decide) (fun c_8 => ?_) (fun c_8 => ?_)
    · replace hq := hq.1 c_8
      refine lv_iconst (v := (0 : Int32)) hM.1 hM.2.1 dL_mean_77 (by decide) ?_
      exact J78 hk0 hk1 S_6 (w0 + w1) y6 y5 (0 : Int32) hq _ _ _ hX (lv_sub hl [1, 2, 3, 4, 0, 6] rfl)
    replace hq := hq.2 c_8
    refine lv_aload_n hM.1 hM.2.1 dL_mean_65 rfl (lv_at hl 1 rfl) ?_
    refine lv_bipush (v := (10 : Int32)) hM.1 hM.2.1 dL_mean_66 (by decide) ?_
    refine lv_iload hM.1 hM.2.1 dL_mean_68 (lv_at hl 6 rfl) ?_
    refine lv_imul hM.1 hM.2.1 dL_mean_70 ?_
    refine lv_iconst (v := (3 : Int32)) hM.1 hM.2.1 dL_mean_71 (by decide) ?_
    refine lv_iadd hM.1 hM.2.1 dL_mean_72 ?_
    have c_9 := hq.1
    replace hq := hq.2
    refine r_iald hM hK hX hI.2.1 (a15 PP 0) c_9 dL_mean_73 ?_
    refine lv_goto (tgt := 78) hM.1 hM.2.1 dL_mean_74 (by decide) ?_
    exact J78 hk0 hk1 S_6 (w0 + w1) y6 y5 (S_6 15 PP 0 (((10 : Int32) * y6) + (3 : Int32)).toNatClampNeg) hq _ _ _ hX (lv_sub hl [1, 2, 3, 4, 0, 6] rfl)
  have L9 : ∀ {K : Mem → Int32 → Int32 → Prop} (hk : ∀ (S : Mem) (y4 : Int32) (y5 : Int32), K S y4 y5 → ∀ (H : Heap) (locs : List Loc) (ls : Array Slot), PW D ad cy (AW ad o sz) s.heap o S H locs → lv_has ls 7 [(4, .int y4), (5, .int y5)] → Wi D ad cy o sz Q p l e rmL_mean s m [.ref (ad 15 PP 0), .ref (ad 16 PP 0), .ref (ad 17 PP 0), .ref (ad 18 PP 0)] below meth c H locs (F0 m 87 ls [])), ∀ (n : Nat) (S : Mem) (y4 : Int32) (y5 : Int32) (y6 : Int32), vc_L_mean_L9 Q K PP n S y4 y5 y6 → ∀ (H : Heap) (locs : List Loc) (ls : Array Slot), PW D ad cy (AW ad o sz) s.heap o S H locs → lv_has ls 7 [(0, .ref (ad 15 PP 0)), (1, .ref (ad 16 PP 0)), (2, .ref (ad 17 PP 0)), (3, .ref (ad 18 PP 0)), (4, .int y4), (5, .int y5), (6, .int y6)] → Wi D ad cy o sz Q p l e rmL_mean s m [.ref (ad 15 PP 0), .ref (ad 16 PP 0), .ref (ad 17 PP 0), .ref (ad 18 PP 0)] below meth c H locs (F0 m 9 ls []) := by
    intro K hk n
    induction n with
    | zero =>
      intro S y4 y5 y6 hq
      rw [vc_L_mean_L9] at hq
      exact hq.elim
    | succ n ih =>
      intro S y4 y5 y6 hq H locs ls hX hl
      rw [vc_L_mean_L9] at hq
      refine lv_iload hM.1 hM.2.1 dL_mean_9 (lv_at hl 6 rfl) ?_
      refine lv_aload_n hM.1 hM.2.1 dL_mean_11 rfl (lv_at hl 3 rfl) ?_
      refine lv_bipush (v := (15 : Int32)) hM.1 hM.2.1 dL_mean_12 (by decide) ?_
      have c_1 := hq.1
      replace hq := hq.2
      refine r_iald hM hK hX hI.2.2.2.2.1 (a18 PP 0) c_1 dL_mean_14 ?_
      refine lv_icmp_ge (tgt := 87) hM.1 hM.2.1 dL_mean_15 (by decide) (fun c_2 => ?_) (fun c_2 => ?_)
      · replace hq := hq.1 c_2
        exact hk S y4 y5 hq _ _ _ hX (lv_sub hl [4, 5] rfl)
      replace hq := hq.2 c_2
      refine lv_iload hM.1 hM.2.1 dL_mean_18 (lv_at hl 4 rfl) ?_
      refine lv_aload_n hM.1 hM.2.1 dL_mean_20 rfl (lv_at hl 0 rfl) ?_
      refine lv_iload hM.1 hM.2.1 dL_mean_21 (lv_at hl 6 rfl) ?_
      refine cSi (As := [.ref (ad 15 PP 0), .int y6]) hM hK hX ⟨hI.1, hI.2.1, trivial⟩ hA (met_L_asked l D ad cy S PP y6 hq) (kL_asked hM.2.2.2.2 ql_RL_16 (Nat.le_of_ble_eq_true rfl) (Nat.le_of_ble_eq_true rfl)) rfl hl.1 rfl (Nat.le_of_ble_eq_true rfl) dL_mean_23 ⟨Nat.zero_le _, Nat.zero_le _⟩ (fun S_3 r_4 hq H locs hX => ?_)
      refine lv_if_eq (tgt := 50) hM.1 hM.2.1 dL_mean_26 (by decide) (fun c_5 => ?_) (fun c_5 => ?_)
      · replace hq := hq.1 c_5
        refine lv_iconst (v := (0 : Int32)) hM.1 hM.2.1 dL_mean_50 (by decide) ?_
        exact J51 ih hk S_3 y5 y6 y4 (0 : Int32) hq _ _ _ hX (lv_sub hl [0, 1, 2, 3, 5, 6] rfl)
      replace hq := hq.2 c_5
      refine lv_aload_n hM.1 hM.2.1 dL_mean_29 rfl (lv_at hl 0 rfl) ?_
      refine lv_bipush (v := (10 : Int32)) hM.1 hM.2.1 dL_mean_30 (by decide) ?_
      refine lv_iload hM.1 hM.2.1 dL_mean_32 (lv_at hl 6 rfl) ?_
      refine lv_imul hM.1 hM.2.1 dL_mean_34 ?_
      refine lv_iconst (v := (3 : Int32)) hM.1 hM.2.1 dL_mean_35 (by decide) ?_
      refine lv_iadd hM.1 hM.2.1 dL_mean_36 ?_
      have c_10 := hq.1
      replace hq := hq.2
      refine r_iald hM hK hX hI.2.1 (a15 PP 0) c_10 dL_mean_37 ?_
      refine lv_aload_n hM.1 hM.2.1 dL_mean_38 rfl (lv_at hl 0 rfl) ?_
      refine lv_aload_n hM.1 hM.2.1 dL_mean_39 rfl (lv_at hl 1 rfl) ?_
      refine lv_aload_n hM.1 hM.2.1 dL_mean_40 rfl (lv_at hl 2 rfl) ?_
      refine lv_iload hM.1 hM.2.1 dL_mean_41 (lv_at hl 6 rfl) ?_
      refine cSi (As := [.ref (ad 15 PP 0), .ref (ad 16 PP 0), .ref (ad 17 PP 0), .int y6]) hM hK hX ⟨hI.1, hI.2.1, hI.2.2.1, hI.2.2.2.1, trivial⟩ hA (met_L_own l D ad cy S_3 PP y6 hq) (kL_own hM.2.2.2.2 ql_RL_20 (Nat.le_of_ble_eq_true rfl) (Nat.le_of_ble_eq_true rfl)) rfl hl.1 rfl (Nat.le_of_ble_eq_true rfl) dL_mean_43 ⟨Nat.zero_le _, Nat.zero_le _⟩ (fun S_11 r_12 hq H locs hX => ?_)
      refine lv_imul hM.1 hM.2.1 dL_mean_46 ?_
      refine lv_goto (tgt := 51) hM.1 hM.2.1 dL_mean_47 (by decide) ?_
      exact J51 ih hk S_11 y5 y6 y4 ((S_3 15 PP 0 (((10 : Int32) * y6) + (3 : Int32)).toNatClampNeg) * r_12) hq _ _ _ hX (lv_sub hl [0, 1, 2, 3, 5, 6] rfl)
  unfold vc_L_mean at hq
  refine lv_iconst (v := (0 : Int32)) hM.1 hM.2.1 dL_mean_0 (by decide) ?_
  refine lv_istore (lv' := [(4, .int (0 : Int32)), (0, .ref (ad 15 PP 0)), (1, .ref (ad 16 PP 0)), (2, .ref (ad 17 PP 0)), (3, .ref (ad 18 PP 0))]) hM.1 hM.2.1 dL_mean_1 hl (by decide) rfl (fun ls hl => ?_)
  refine lv_iconst (v := (0 : Int32)) hM.1 hM.2.1 dL_mean_3 (by decide) ?_
  refine lv_istore (lv' := [(5, .int (0 : Int32)), (4, .int (0 : Int32)), (0, .ref (ad 15 PP 0)), (1, .ref (ad 16 PP 0)), (2, .ref (ad 17 PP 0)), (3, .ref (ad 18 PP 0))]) hM.1 hM.2.1 dL_mean_4 hl (by decide) rfl (fun ls hl => ?_)
  refine lv_iconst (v := (0 : Int32)) hM.1 hM.2.1 dL_mean_6 (by decide) ?_
  refine lv_istore (lv' := [(6, .int (0 : Int32)), (5, .int (0 : Int32)), (4, .int (0 : Int32)), (0, .ref (ad 15 PP 0)), (1, .ref (ad 16 PP 0)), (2, .ref (ad 17 PP 0)), (3, .ref (ad 18 PP 0))]) hM.1 hM.2.1 dL_mean_7 hl (by decide) rfl (fun ls hl => ?_)
  obtain ⟨k0, hq⟩ := hq
  refine L9 (fun S_13 y4_14 y5_15 hq H locs ls hX hl => ?_) k0 S (0 : Int32) (0 : Int32) (0 : Int32) hq _ _ _ hX (lv_sub hl [3, 4, 5, 6, 2, 1, 0] rfl)
  refine lv_iload hM.1 hM.2.1 dL_mean_87 (lv_at hl 1 rfl) ?_
  refine lv_if_le (tgt := 100) hM.1 hM.2.1 dL_mean_89 (by decide) (fun c_16 => ?_) (fun c_16 => ?_)
  · replace hq := hq.1 c_16
    refine lv_ldc hM.1 hM.2.1 hM.2.2.2.1 (hM.2.2.2.2 _ qn_RL_11) dL_mean_100 ?_
    exact e_i hM hX hlocks hret hq dL_mean_102
  replace hq := hq.2 c_16
  refine lv_iload hM.1 hM.2.1 dL_mean_92 (lv_at hl 0 rfl) ?_
  refine lv_iload hM.1 hM.2.1 dL_mean_94 (lv_at hl 1 rfl) ?_
  have c_17 := hq.1
  replace hq := hq.2
  refine lv_idiv hM.1 hM.2.1 dL_mean_96 c_17 ?_
  refine lv_goto (tgt := 102) hM.1 hM.2.1 dL_mean_97 (by decide) ?_
  exact e_i hM hX hlocks hret hq dL_mean_102
def rmL_size : Room := { frames := 0, cells := 0, slots := 0, locals := 0 }
theorem kL_size {R : Room} {s : State} {args : Array Value} {own : String} {index : Nat} (ht : ∀ w ∈ lw_all, w.before args s = true) (hl : Cond.methodLink own index yL_size ∈ lw_all) (hf : rmL_size.frames + 1 ≤ R.frames) (hlo : 8 + (1 + 11) + rmL_size.locals ≤ R.locals) : CallB R s args own index yL_size cL_size 1 (some Jvm.ClassFile.FieldType.int) (wA yL_size cL_size 1 (some Jvm.ClassFile.FieldType.int)) rmL_size 0 0 1 ∧ (Cond.static yL_size).before args s = true := va_cwS 1 ht (good_S hl qt_yL_size qi_RL qc_yL_size) rfl rfl rfl (by decide +kernel) ⟨hf, hlo⟩
set_option maxRecDepth 100000 in
set_option maxHeartbeats 4000000 in
theorem met_L_size (l : Launch) (D : va_G) (ad : Adr) (cy : Nat → ClassId) (S : Mem) (x0 : Int32) {Q : Mem → Int32 → Prop} (hq : vc_L_size S x0 Q) : Ci l yL_size (wA yL_size cL_size 1 (some Jvm.ClassFile.FieldType.int)) rmL_size D ad cy (IN []) [.int x0] S Q := by
  intro o sz hI
  refine mkC (own := RL) (lv := [(0, .int x0)]) (by decide) rfl (Nat.le_of_ble_eq_true rfl) rfl ?_
  intro p e s m below meth c ls hsz hM hlocks hret hK hA hX hl
  unfold vc_L_size at hq
  refine lv_iload_n hM.1 hM.2.1 dL_size_0 rfl (lv_at hl 0 rfl) ?_
  refine lv_if_ge (tgt := 9) hM.1 hM.2.1 dL_size_1 (by decide) (fun c_1 => ?_) (fun c_1 => ?_)
  · replace hq := hq.1 c_1
    refine lv_iload_n hM.1 hM.2.1 dL_size_9 rfl (lv_at hl 0 rfl) ?_
    exact e_i hM hX hlocks hret hq dL_size_10
  replace hq := hq.2 c_1
  refine lv_iload_n hM.1 hM.2.1 dL_size_4 rfl (lv_at hl 0 rfl) ?_
  refine lv_ineg hM.1 hM.2.1 dL_size_5 ?_
  refine lv_goto (tgt := 10) hM.1 hM.2.1 dL_size_6 (by decide) ?_
  exact e_i hM hX hlocks hret hq dL_size_10
def rmL_change : Room := { frames := 0, cells := 0, slots := 0, locals := 0 }
theorem kL_change {R : Room} {s : State} {args : Array Value} {own : String} {index : Nat} (ht : ∀ w ∈ lw_all, w.before args s = true) (hl : Cond.methodLink own index yL_change ∈ lw_all) (hf : rmL_change.frames + 1 ≤ R.frames) (hlo : 8 + (3 + 11) + rmL_change.locals ≤ R.locals) : CallB R s args own index yL_change cL_change 3 (some Jvm.ClassFile.FieldType.int) (wA yL_change cL_change 3 (some Jvm.ClassFile.FieldType.int)) rmL_change 0 0 3 ∧ (Cond.static yL_change).before args s = true := va_cwS 3 ht (good_S hl qt_yL_change qi_RL qc_yL_change) rfl rfl rfl (by decide +kernel) ⟨hf, hlo⟩
set_option maxRecDepth 100000 in
set_option maxHeartbeats 4000000 in
theorem met_L_change (l : Launch) (D : va_G) (ad : Adr) (cy : Nat → ClassId) (S : Mem) (PP : Nat) (x2 : Int32) {Q : Mem → Int32 → Prop} (hq : vc_L_change S PP x2 Q) : Ci l yL_change (wA yL_change cL_change 3 (some Jvm.ClassFile.FieldType.int)) rmL_change D ad cy (IN [(15, PP, 0), (18, PP, 0)]) [.ref (ad 15 PP 0), .ref (ad 18 PP 0), .int x2] S Q := by
  intro o sz hI
  refine mkC (own := RL) (lv := [(0, .ref (ad 15 PP 0)), (1, .ref (ad 18 PP 0)), (2, .int x2)]) (by decide) rfl (Nat.le_of_ble_eq_true rfl) rfl ?_
  intro p e s m below meth c ls hsz hM hlocks hret hK hA hX hl
  unfold vc_L_change at hq
  refine lv_aload_n hM.1 hM.2.1 dL_change_0 rfl (lv_at hl 1 rfl) ?_
  refine lv_iconst (v := (1 : Int32)) hM.1 hM.2.1 dL_change_1 (by decide) ?_
  have c_1 := hq.1
  replace hq := hq.2
  refine r_iald hM hK hX hI.2.2.1 (a18 PP 0) c_1 dL_change_2 ?_
  refine lv_aload_n hM.1 hM.2.1 dL_change_3 rfl (lv_at hl 0 rfl) ?_
  refine lv_bipush (v := (10 : Int32)) hM.1 hM.2.1 dL_change_4 (by decide) ?_
  refine lv_iload_n hM.1 hM.2.1 dL_change_6 rfl (lv_at hl 2 rfl) ?_
  refine lv_imul hM.1 hM.2.1 dL_change_7 ?_
  refine lv_iconst (v := (2 : Int32)) hM.1 hM.2.1 dL_change_8 (by decide) ?_
  refine lv_iadd hM.1 hM.2.1 dL_change_9 ?_
  have c_2 := hq.1
  replace hq := hq.2
  refine r_iald hM hK hX hI.2.1 (a15 PP 0) c_2 dL_change_10 ?_
  refine lv_iadd hM.1 hM.2.1 dL_change_11 ?_
  refine lv_aload_n hM.1 hM.2.1 dL_change_12 rfl (lv_at hl 0 rfl) ?_
  refine lv_bipush (v := (10 : Int32)) hM.1 hM.2.1 dL_change_13 (by decide) ?_
  refine lv_iload_n hM.1 hM.2.1 dL_change_15 rfl (lv_at hl 2 rfl) ?_
  refine lv_imul hM.1 hM.2.1 dL_change_16 ?_
  refine lv_iconst (v := (4 : Int32)) hM.1 hM.2.1 dL_change_17 (by decide) ?_
  refine lv_iadd hM.1 hM.2.1 dL_change_18 ?_
  have c_3 := hq.1
  replace hq := hq.2
  refine r_iald hM hK hX hI.2.1 (a15 PP 0) c_3 dL_change_19 ?_
  refine lv_isub hM.1 hM.2.1 dL_change_20 ?_
  refine lv_aload_n hM.1 hM.2.1 dL_change_21 rfl (lv_at hl 0 rfl) ?_
  refine lv_bipush (v := (10 : Int32)) hM.1 hM.2.1 dL_change_22 (by decide) ?_
  refine lv_iload_n hM.1 hM.2.1 dL_change_24 rfl (lv_at hl 2 rfl) ?_
  refine lv_imul hM.1 hM.2.1 dL_change_25 ?_
  refine lv_iconst (v := (1 : Int32)) hM.1 hM.2.1 dL_change_26 (by decide) ?_
  refine lv_iadd hM.1 hM.2.1 dL_change_27 ?_
  have c_4 := hq.1
  replace hq := hq.2
  refine r_iald hM hK hX hI.2.1 (a15 PP 0) c_4 dL_change_28 ?_
  have c_5 := hq.1
  replace hq := hq.2
  refine lv_idiv hM.1 hM.2.1 dL_change_29 c_5 ?_
  exact e_i hM hX hlocks hret hq dL_change_30
def rmL_copy : Room := { frames := 0, cells := 0, slots := 0, locals := 0 }
theorem kL_copy {R : Room} {s : State} {args : Array Value} {own : String} {index : Nat} (ht : ∀ w ∈ lw_all, w.before args s = true) (hl : Cond.methodLink own index yL_copy ∈ lw_all) (hf : rmL_copy.frames + 1 ≤ R.frames) (hlo : 8 + (3 + 11) + rmL_copy.locals ≤ R.locals) : CallB R s args own index yL_copy cL_copy 3 none (wA yL_copy cL_copy 3 none) rmL_copy 0 0 2 ∧ (Cond.static yL_copy).before args s = true := va_cwS 2 ht (good_S hl qt_yL_copy qi_RL qc_yL_copy) rfl rfl rfl (by decide +kernel) ⟨hf, hlo⟩
set_option maxRecDepth 100000 in
set_option maxHeartbeats 4000000 in
theorem met_L_copy (l : Launch) (D : va_G) (ad : Adr) (cy : Nat → ClassId) (S : Mem) (t0 : Nat) (P0 : Nat) (i0 : Nat) (n0 : Nat) (t1 : Nat) (P1 : Nat) (i1 : Nat) (n1 : Nat) {Q : Mem → Prop} (ha0 : iarr t0 P0 i0 n0) (ha1 : iarr t1 P1 i1 n1) (hq : vc_L_copy S t0 P0 i0 n0 t1 P1 i1 n1 Q) : Cv l yL_copy (wA yL_copy cL_copy 3 none) rmL_copy D ad cy (IN [(t0, P0, i0), (t1, P1, i1)]) [.ref (ad t0 P0 i0), .ref (ad t1 P1 i1)] S Q := by
  intro o sz hI
  refine mkC (own := RL) (lv := [(0, .ref (ad t0 P0 i0)), (1, .ref (ad t1 P1 i1))]) (by decide) rfl (Nat.le_of_ble_eq_true rfl) rfl ?_
  intro p e s m below meth c ls hsz hM hlocks hret hK hA hX hl
  have L2 : ∀ {K : Mem → Prop} (hk : ∀ (S : Mem), K S → ∀ (H : Heap) (locs : List Loc) (ls : Array Slot), PW D ad cy (AW ad o sz) s.heap o S H locs → lv_has ls 3 [] → Wv D ad cy o sz Q p l e rmL_copy s m [.ref (ad t0 P0 i0), .ref (ad t1 P1 i1)] below meth c H locs (F0 m 20 ls [])), ∀ (n : Nat) (S : Mem) (y2 : Int32), vc_L_copy_L2 Q K t0 P0 i0 n0 t1 P1 i1 n1 n S y2 → ∀ (H : Heap) (locs : List Loc) (ls : Array Slot), PW D ad cy (AW ad o sz) s.heap o S H locs → lv_has ls 3 [(0, .ref (ad t0 P0 i0)), (1, .ref (ad t1 P1 i1)), (2, .int y2)] → Wv D ad cy o sz Q p l e rmL_copy s m [.ref (ad t0 P0 i0), .ref (ad t1 P1 i1)] below meth c H locs (F0 m 2 ls []) := by
    intro K hk n
    induction n with
    | zero =>
      intro S y2 hq
      rw [vc_L_copy_L2] at hq
      exact hq.elim
    | succ n ih =>
      intro S y2 hq H locs ls hX hl
      rw [vc_L_copy_L2] at hq
      refine lv_iload_n hM.1 hM.2.1 dL_copy_2 rfl (lv_at hl 2 rfl) ?_
      refine lv_aload_n hM.1 hM.2.1 dL_copy_3 rfl (lv_at hl 0 rfl) ?_
      refine r_alen (v := nI n0) (t0 := 0) hM hK hX hI.2.1 ((ha0 ad cy) _) rfl rfl dL_copy_4 ?_
      refine lv_icmp_ge (tgt := 20) hM.1 hM.2.1 dL_copy_5 (by decide) (fun c_1 => ?_) (fun c_1 => ?_)
      · replace hq := hq.1 c_1
        exact hk S hq _ _ _ hX (lv_sub hl [] rfl)
      replace hq := hq.2 c_1
      refine lv_aload_n hM.1 hM.2.1 dL_copy_8 rfl (lv_at hl 1 rfl) ?_
      refine lv_iload_n hM.1 hM.2.1 dL_copy_9 rfl (lv_at hl 2 rfl) ?_
      refine lv_aload_n hM.1 hM.2.1 dL_copy_10 rfl (lv_at hl 0 rfl) ?_
      refine lv_iload_n hM.1 hM.2.1 dL_copy_11 rfl (lv_at hl 2 rfl) ?_
      have c_2 := hq.1
      replace hq := hq.2
      refine r_iald hM hK hX hI.2.1 (ha0 ad cy) c_2 dL_copy_12 ?_
      have c_4 := hq.1
      replace hq := hq.2
      refine r_iast hM hK hX hI.2.2.1 (ha1 ad cy) c_4 dL_copy_13 (fun S_3 e_5 H locs hX => ?_)
      replace hq := hq S_3 e_5
      refine lv_iinc (v := (y2 + (1 : Int32))) (lv' := [(2, .int (y2 + (1 : Int32))), (0, .ref (ad t0 P0 i0)), (1, .ref (ad t1 P1 i1))]) hM.1 hM.2.1 dL_copy_14 hl (k := 2) rfl rfl (by decide) rfl (fun ls hl => ?_)
      refine lv_goto (tgt := 2) hM.1 hM.2.1 dL_copy_17 (by decide) ?_
      exact ih S_3 (y2 + (1 : Int32)) hq _ _ _ hX (lv_sub hl [1, 2, 0] rfl)
  unfold vc_L_copy at hq
  refine lv_iconst (v := (0 : Int32)) hM.1 hM.2.1 dL_copy_0 (by decide) ?_
  refine lv_istore_n (lv' := [(2, .int (0 : Int32)), (0, .ref (ad t0 P0 i0)), (1, .ref (ad t1 P1 i1))]) hM.1 hM.2.1 dL_copy_1 rfl hl (by decide) rfl (fun ls hl => ?_)
  obtain ⟨k0, hq⟩ := hq
  refine L2 (fun S_6 hq H locs ls hX hl => ?_) k0 S (0 : Int32) hq _ _ _ hX (lv_sub hl [1, 2, 0] rfl)
  exact e_v hM hX hlocks hret hq dL_copy_20
