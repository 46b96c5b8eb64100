def rmX6_bestLag : Room := { frames := 3, cells := 0, slots := 0, locals := 70 }
theorem kX6_bestLag {R : Room} {s : State} {args : Array Value} {own : String} {index : Nat} (ht : ∀ w ∈ lw_all, w.before args s = true) (hl : Cond.methodLink own index yX6_bestLag ∈ lw_all) (hf : rmX6_bestLag.frames + 1 ≤ R.frames) (hlo : 8 + (2 + 11) + rmX6_bestLag.locals ≤ R.locals) : CallW R s args own RX6 index yX6_bestLag cX6_bestLag 2 (some Jvm.ClassFile.FieldType.int) (wA yX6_bestLag cX6_bestLag 2 (some Jvm.ClassFile.FieldType.int)) rmX6_bestLag 0 0 1 := cwV 1 ht (good_V hl qm_yX6_bestLag qs_yX6_bestLag qi_RX6 qc_yX6_bestLag) rfl rfl rfl (by decide +kernel) ⟨hf, hlo⟩
set_option maxRecDepth 100000 in
set_option maxHeartbeats 4000000 in
theorem met_X6_bestLag (l : Launch) (D : va_G) (ad : Adr) (cy : Nat → ClassId) (S : Mem) (x1 : Int32) {Q : Mem → Int32 → Prop} (hq : vc_X6_bestLag S x1 Q) : Ci l yX6_bestLag (wA yX6_bestLag cX6_bestLag 2 (some Jvm.ClassFile.FieldType.int)) rmX6_bestLag D ad cy (IN []) [.ref (ad 14 0 0), .int x1] S Q := by
  intro o sz hI
  refine mkC (own := RX6) (lv := [(0, .ref (ad 14 0 0)), (1, .int x1)]) (by decide) rfl (Nat.le_of_ble_eq_true rfl) rfl ?_
  intro p e s m below meth c ls hsz hM hlocks hret hK hA hX hl
  unfold vc_X6_bestLag at hq
  refine lv_aload_n hM.1 hM.2.1 dX6_bestLag_0 rfl (lv_at hl 0 rfl) ?_
  refine lv_iload_n hM.1 hM.2.1 dX6_bestLag_1 rfl (lv_at hl 1 rfl) ?_
  refine cVv (As := [.int x1]) hM hK hX ⟨hI.1, trivial⟩ hA (met_X6_checkThermometer l D ad cy S x1 hq) (kX6_checkThermometer hM.2.2.2.2 ql_RX6_91 (Nat.le_of_ble_eq_true rfl) (Nat.le_of_ble_eq_true rfl)) (v14 hK hX (hI.1 _ m14)) rfl hl.1 rfl (Nat.le_of_ble_eq_true rfl) dX6_bestLag_2 ⟨Nat.zero_le _, Nat.zero_le _⟩ (fun S_1 hq H locs hX => ?_)
  refine lv_aload_n hM.1 hM.2.1 dX6_bestLag_5 rfl (lv_at hl 0 rfl) ?_
  refine g14 hM hK hX (hI.1 _ m14) 0 (by decide) qf_RX6_10 rfl dX6_bestLag_6 ?_
  refine lv_iload_n hM.1 hM.2.1 dX6_bestLag_9 rfl (lv_at hl 1 rfl) ?_
  refine cVr (As := [.int x1]) hM hK hX ⟨hI.1, trivial⟩ hA (met_X3_at l D ad cy S_1 0 x1 (by decide) hq) (kX3_at hM.2.2.2.2 ql_RX6_94 (Nat.le_of_ble_eq_true rfl) (Nat.le_of_ble_eq_true rfl)) (v3 hK hX (hI.1 _ (id_P (by decide)).2.1)) rfl hl.1 rfl (Nat.le_of_ble_eq_true rfl) dX6_bestLag_10 ⟨Nat.zero_le _, Nat.zero_le _⟩ (fun S_2 P_3 i_4 hq H locs hX => ?_)
  refine lv_aload_n hM.1 hM.2.1 dX6_bestLag_13 rfl (lv_at hl 0 rfl) ?_
  refine g14 hM hK hX (hI.1 _ m14) 0 (by decide) qf_RX6_10 rfl dX6_bestLag_14 ?_
  refine g3 hM hK hX (hI.1 _ (id_P (by decide)).2.1) 8 (by decide) qf_RX6_81 rfl dX6_bestLag_17 ?_
  have hT_5 := hq.1
  replace hq := hq.2
  refine cVi (As := [.int (S_2 3 0 0 8)]) hM hK hX ⟨hI.1, trivial⟩ hA (met_X5_lagNearestTo l D ad cy S_2 P_3 i_4 (S_2 3 0 0 8) hT_5 hq) (kX5_lagNearestTo hM.2.2.2.2 ql_RX6_239 (Nat.le_of_ble_eq_true rfl) (Nat.le_of_ble_eq_true rfl)) (v5 hK hX (hI.1 _ (id_T hT_5).1)) rfl hl.1 rfl (Nat.le_of_ble_eq_true rfl) dX6_bestLag_20 ⟨Nat.zero_le _, Nat.zero_le _⟩ (fun S_6 r_7 hq H locs hX => ?_)
  exact e_i hM hX hlocks hret hq dX6_bestLag_23
def rmX6_ifStill : Room := { frames := 6, cells := 0, slots := 0, locals := 133 }
theorem kX6_ifStill {R : Room} {s : State} {args : Array Value} {own : String} {index : Nat} (ht : ∀ w ∈ lw_all, w.before args s = true) (hl : Cond.methodLink own index yX6_ifStill ∈ lw_all) (hf : rmX6_ifStill.frames + 1 ≤ R.frames) (hlo : 8 + (3 + 11) + rmX6_ifStill.locals ≤ R.locals) : CallW R s args own RX6 index yX6_ifStill cX6_ifStill 3 (some Jvm.ClassFile.FieldType.int) (wA yX6_ifStill cX6_ifStill 3 (some Jvm.ClassFile.FieldType.int)) rmX6_ifStill 0 0 2 := cwV 2 ht (good_V hl qm_yX6_ifStill qs_yX6_ifStill qi_RX6 qc_yX6_ifStill) rfl rfl rfl (by decide +kernel) ⟨hf, hlo⟩
set_option maxRecDepth 100000 in
set_option maxHeartbeats 4000000 in
theorem met_X6_ifStill (l : Launch) (D : va_G) (ad : Adr) (cy : Nat → ClassId) (S : Mem) (x1 : Int32) (x2 : Int32) {Q : Mem → Int32 → Prop} (hq : vc_X6_ifStill S x1 x2 Q) : Ci l yX6_ifStill (wA yX6_ifStill cX6_ifStill 3 (some Jvm.ClassFile.FieldType.int)) rmX6_ifStill D ad cy (IN []) [.ref (ad 14 0 0), .int x1, .int x2] S Q := by
  intro o sz hI
  refine mkC (own := RX6) (lv := [(0, .ref (ad 14 0 0)), (1, .int x1), (2, .int x2)]) (by decide) rfl (Nat.le_of_ble_eq_true rfl) rfl ?_
  intro p e s m below meth c ls hsz hM hlocks hret hK hA hX hl
  unfold vc_X6_ifStill at hq
  refine lv_iload_n hM.1 hM.2.1 dX6_ifStill_0 rfl (lv_at hl 1 rfl) ?_
  refine lv_iconst (v := (1 : Int32)) hM.1 hM.2.1 dX6_ifStill_1 (by decide) ?_
  refine lv_bipush (v := (48 : Int32)) hM.1 hM.2.1 dX6_ifStill_2 (by decide) ?_
  refine cSv (As := [.int x1, .int (1 : Int32), .int (48 : Int32)]) hM hK hX ⟨hI.1, trivial⟩ hA (met_X6_checkRange l D ad cy S x1 (1 : Int32) (48 : Int32) hq) (kX6_checkRange hM.2.2.2.2 ql_RX6_47 (Nat.le_of_ble_eq_true rfl) (Nat.le_of_ble_eq_true rfl)) rfl hl.1 rfl (Nat.le_of_ble_eq_true rfl) dX6_ifStill_4 ⟨Nat.zero_le _, Nat.zero_le _⟩ (fun S_1 hq H locs hX => ?_)
  refine lv_iload_n hM.1 hM.2.1 dX6_ifStill_7 rfl (lv_at hl 2 rfl) ?_
  refine lv_iconst (v := (0 : Int32)) hM.1 hM.2.1 dX6_ifStill_8 (by decide) ?_
  refine lv_iconst (v := (3 : Int32)) hM.1 hM.2.1 dX6_ifStill_9 (by decide) ?_
  refine cSv (As := [.int x2, .int (0 : Int32), .int (3 : Int32)]) hM hK hX ⟨hI.1, trivial⟩ hA (met_X6_checkRange l D ad cy S_1 x2 (0 : Int32) (3 : Int32) hq) (kX6_checkRange hM.2.2.2.2 ql_RX6_47 (Nat.le_of_ble_eq_true rfl) (Nat.le_of_ble_eq_true rfl)) rfl hl.1 rfl (Nat.le_of_ble_eq_true rfl) dX6_ifStill_10 ⟨Nat.zero_le _, Nat.zero_le _⟩ (fun S_2 hq H locs hX => ?_)
  refine lv_aload_n hM.1 hM.2.1 dX6_ifStill_13 rfl (lv_at hl 0 rfl) ?_
  refine g14 hM hK hX (hI.1 _ m14) 1 (by decide) qf_RX6_16 rfl dX6_ifStill_14 ?_
  refine lv_aload_n hM.1 hM.2.1 dX6_ifStill_17 rfl (lv_at hl 0 rfl) ?_
  refine g14 hM hK hX (hI.1 _ m14) 0 (by decide) qf_RX6_10 rfl dX6_ifStill_18 ?_
  refine cVv (As := [.ref (ad 3 0 0)]) hM hK hX ⟨hI.1, trivial⟩ hA (met_X3_copyFrom l D ad cy S_2 1 0 (by decide) (by decide) hq) (kX3_copyFrom hM.2.2.2.2 ql_RX6_183 (Nat.le_of_ble_eq_true rfl) (Nat.le_of_ble_eq_true rfl)) (v3 hK hX (hI.1 _ (id_P (by decide)).2.1)) rfl hl.1 rfl (Nat.le_of_ble_eq_true rfl) dX6_ifStill_21 ⟨Nat.zero_le _, Nat.zero_le _⟩ (fun S_3 hq H locs hX => ?_)
  refine lv_aload_n hM.1 hM.2.1 dX6_ifStill_24 rfl (lv_at hl 0 rfl) ?_
  refine g14 hM hK hX (hI.1 _ m14) 1 (by decide) qf_RX6_16 rfl dX6_ifStill_25 ?_
  refine lv_iload_n hM.1 hM.2.1 dX6_ifStill_28 rfl (lv_at hl 1 rfl) ?_
  refine lv_iconst (v := (0 : Int32)) hM.1 hM.2.1 dX6_ifStill_29 (by decide) ?_
  refine cVv (As := [.int x1, .int (0 : Int32)]) hM hK hX ⟨hI.1, trivial⟩ hA (met_X3_passHours l D ad cy S_3 1 x1 (0 : Int32) (by decide) hq) (kX3_passHours hM.2.2.2.2 ql_RX6_77 (Nat.le_of_ble_eq_true rfl) (Nat.le_of_ble_eq_true rfl)) (v3 hK hX (hI.1 _ (id_P (by decide)).2.1)) rfl hl.1 rfl (Nat.le_of_ble_eq_true rfl) dX6_ifStill_30 ⟨Nat.zero_le _, Nat.zero_le _⟩ (fun S_4 hq H locs hX => ?_)
  refine lv_iload_n hM.1 hM.2.1 dX6_ifStill_33 rfl (lv_at hl 2 rfl) ?_
  refine r_case (x := x2) (v := (0 : Int32)) (fun c_5 => ?_) (fun c_5 => ?_)
  · replace hq := hq.1 c_5
    refine r_tsw (v := (0 : Int32)) (tgt := 60) hM c_5 dX6_ifStill_34 (by decide) (by decide) (by rfl) (by decide) ?_
    refine lv_aload_n hM.1 hM.2.1 dX6_ifStill_60 rfl (lv_at hl 0 rfl) ?_
    refine g14 hM hK hX (hI.1 _ m14) 1 (by decide) qf_RX6_16 rfl dX6_ifStill_61 ?_
    refine cVi (As := []) hM hK hX ⟨hI.1, trivial⟩ hA (met_X3_mean l D ad cy S_4 1 (by decide) hq) (kX3_mean hM.2.2.2.2 ql_RX6_214 (Nat.le_of_ble_eq_true rfl) (Nat.le_of_ble_eq_true rfl)) (v3 hK hX (hI.1 _ (id_P (by decide)).2.1)) rfl hl.1 rfl (Nat.le_of_ble_eq_true rfl) dX6_ifStill_64 ⟨Nat.zero_le _, Nat.zero_le _⟩ (fun S_6 r_7 hq H locs hX => ?_)
    exact e_i hM hX hlocks hret hq dX6_ifStill_67
  replace hq := hq.2 c_5
  refine r_case (x := x2) (v := (1 : Int32)) (fun c_8 => ?_) (fun c_8 => ?_)
  · replace hq := hq.1 c_8
    refine r_tsw (v := (1 : Int32)) (tgt := 68) hM c_8 dX6_ifStill_34 (by decide) (by decide) (by rfl) (by decide) ?_
    refine lv_aload_n hM.1 hM.2.1 dX6_ifStill_68 rfl (lv_at hl 0 rfl) ?_
    refine g14 hM hK hX (hI.1 _ m14) 1 (by decide) qf_RX6_16 rfl dX6_ifStill_69 ?_
    refine cVi (As := []) hM hK hX ⟨hI.1, trivial⟩ hA (met_X3_maskOfShutOut l D ad cy S_4 1 (by decide) hq) (kX3_maskOfShutOut hM.2.2.2.2 ql_RX6_211 (Nat.le_of_ble_eq_true rfl) (Nat.le_of_ble_eq_true rfl)) (v3 hK hX (hI.1 _ (id_P (by decide)).2.1)) rfl hl.1 rfl (Nat.le_of_ble_eq_true rfl) dX6_ifStill_72 ⟨Nat.zero_le _, Nat.zero_le _⟩ (fun S_9 r_10 hq H locs hX => ?_)
    exact e_i hM hX hlocks hret hq dX6_ifStill_75
  replace hq := hq.2 c_8
  refine r_case (x := x2) (v := (2 : Int32)) (fun c_11 => ?_) (fun c_11 => ?_)
  · replace hq := hq.1 c_11
    refine r_tsw (v := (2 : Int32)) (tgt := 76) hM c_11 dX6_ifStill_34 (by decide) (by decide) (by rfl) (by decide) ?_
    refine lv_aload_n hM.1 hM.2.1 dX6_ifStill_76 rfl (lv_at hl 0 rfl) ?_
    refine g14 hM hK hX (hI.1 _ m14) 1 (by decide) qf_RX6_16 rfl dX6_ifStill_77 ?_
    refine g3 hM hK hX (hI.1 _ (id_P (by decide)).2.1) 10 (by decide) qf_RX6_226 rfl dX6_ifStill_80 ?_
    refine lv_aload_n hM.1 hM.2.1 dX6_ifStill_83 rfl (lv_at hl 0 rfl) ?_
    refine g14 hM hK hX (hI.1 _ m14) 0 (by decide) qf_RX6_10 rfl dX6_ifStill_84 ?_
    refine g3 hM hK hX (hI.1 _ (id_P (by decide)).2.1) 10 (by decide) qf_RX6_226 rfl dX6_ifStill_87 ?_
    refine lv_isub hM.1 hM.2.1 dX6_ifStill_90 ?_
    exact e_i hM hX hlocks hret hq dX6_ifStill_91
  replace hq := hq.2 c_11
  refine r_tswD (tgt := 92) 3 hM (by decide) (by decide) (fun k hk => ?_) dX6_ifStill_34 (by decide) ?_
  · match k, hk with
    | 0, _ => exact c_5
    | 1, _ => exact c_8
    | 2, _ => exact c_11
    | k + 3, h => exact absurd h (by omega)
  refine lv_aload_n hM.1 hM.2.1 dX6_ifStill_92 rfl (lv_at hl 0 rfl) ?_
  refine g14 hM hK hX (hI.1 _ m14) 1 (by decide) qf_RX6_16 rfl dX6_ifStill_93 ?_
  refine cVi (As := []) hM hK hX ⟨hI.1, trivial⟩ hA (met_X3_greatestDistance l D ad cy S_4 1 (by decide) hq) (kX3_greatestDistance hM.2.2.2.2 ql_RX6_242 (Nat.le_of_ble_eq_true rfl) (Nat.le_of_ble_eq_true rfl)) (v3 hK hX (hI.1 _ (id_P (by decide)).2.1)) rfl hl.1 rfl (Nat.le_of_ble_eq_true rfl) dX6_ifStill_96 ⟨Nat.zero_le _, Nat.zero_le _⟩ (fun S_12 r_13 hq H locs hX => ?_)
  exact e_i hM hX hlocks hret hq dX6_ifStill_99
def rmX6_stillIn : Room := { frames := 3, cells := 0, slots := 0, locals := 67 }
theorem kX6_stillIn {R : Room} {s : State} {args : Array Value} {own : String} {index : Nat} (ht : ∀ w ∈ lw_all, w.before args s = true) (hl : Cond.methodLink own index yX6_stillIn ∈ lw_all) (hf : rmX6_stillIn.frames + 1 ≤ R.frames) (hlo : 8 + (2 + 11) + rmX6_stillIn.locals ≤ R.locals) : CallW R s args own RX6 index yX6_stillIn cX6_stillIn 2 (some Jvm.ClassFile.FieldType.int) (wA yX6_stillIn cX6_stillIn 2 (some Jvm.ClassFile.FieldType.int)) rmX6_stillIn 0 0 1 := cwV 1 ht (good_V hl qm_yX6_stillIn qs_yX6_stillIn qi_RX6 qc_yX6_stillIn) rfl rfl rfl (by decide +kernel) ⟨hf, hlo⟩
set_option maxRecDepth 100000 in
set_option maxHeartbeats 4000000 in
theorem met_X6_stillIn (l : Launch) (D : va_G) (ad : Adr) (cy : Nat → ClassId) (S : Mem) (x1 : Int32) {Q : Mem → Int32 → Prop} (hq : vc_X6_stillIn S x1 Q) : Ci l yX6_stillIn (wA yX6_stillIn cX6_stillIn 2 (some Jvm.ClassFile.FieldType.int)) rmX6_stillIn D ad cy (IN []) [.ref (ad 14 0 0), .int x1] S Q := by
  intro o sz hI
  refine mkC (own := RX6) (lv := [(0, .ref (ad 14 0 0)), (1, .int x1)]) (by decide) rfl (Nat.le_of_ble_eq_true rfl) rfl ?_
  intro p e s m below meth c ls hsz hM hlocks hret hK hA hX hl
  unfold vc_X6_stillIn at hq
  refine lv_aload_n hM.1 hM.2.1 dX6_stillIn_0 rfl (lv_at hl 0 rfl) ?_
  refine lv_iload_n hM.1 hM.2.1 dX6_stillIn_1 rfl (lv_at hl 1 rfl) ?_
  refine cVv (As := [.int x1]) hM hK hX ⟨hI.1, trivial⟩ hA (met_X6_checkThermometer l D ad cy S x1 hq) (kX6_checkThermometer hM.2.2.2.2 ql_RX6_91 (Nat.le_of_ble_eq_true rfl) (Nat.le_of_ble_eq_true rfl)) (v14 hK hX (hI.1 _ m14)) rfl hl.1 rfl (Nat.le_of_ble_eq_true rfl) dX6_stillIn_2 ⟨Nat.zero_le _, Nat.zero_le _⟩ (fun S_1 hq H locs hX => ?_)
  refine lv_aload_n hM.1 hM.2.1 dX6_stillIn_5 rfl (lv_at hl 0 rfl) ?_
  refine g14 hM hK hX (hI.1 _ m14) 0 (by decide) qf_RX6_10 rfl dX6_stillIn_6 ?_
  refine lv_iload_n hM.1 hM.2.1 dX6_stillIn_9 rfl (lv_at hl 1 rfl) ?_
  refine cVr (As := [.int x1]) hM hK hX ⟨hI.1, trivial⟩ hA (met_X3_at l D ad cy S_1 0 x1 (by decide) hq) (kX3_at hM.2.2.2.2 ql_RX6_94 (Nat.le_of_ble_eq_true rfl) (Nat.le_of_ble_eq_true rfl)) (v3 hK hX (hI.1 _ (id_P (by decide)).2.1)) rfl hl.1 rfl (Nat.le_of_ble_eq_true rfl) dX6_stillIn_10 ⟨Nat.zero_le _, Nat.zero_le _⟩ (fun S_2 P_3 i_4 hq H locs hX => ?_)
  refine lv_aload_n hM.1 hM.2.1 dX6_stillIn_13 rfl (lv_at hl 0 rfl) ?_
  refine g14 hM hK hX (hI.1 _ m14) 0 (by decide) qf_RX6_10 rfl dX6_stillIn_14 ?_
  refine g3 hM hK hX (hI.1 _ (id_P (by decide)).2.1) 8 (by decide) qf_RX6_81 rfl dX6_stillIn_17 ?_
  have hT_5 := hq.1
  replace hq := hq.2
  refine cVi (As := [.int (S_2 3 0 0 8)]) hM hK hX ⟨hI.1, trivial⟩ hA (met_X5_hoursUntilStill l D ad cy S_2 P_3 i_4 (S_2 3 0 0 8) hT_5 hq) (kX5_hoursUntilStill hM.2.2.2.2 ql_RX6_245 (Nat.le_of_ble_eq_true rfl) (Nat.le_of_ble_eq_true rfl)) (v5 hK hX (hI.1 _ (id_T hT_5).1)) rfl hl.1 rfl (Nat.le_of_ble_eq_true rfl) dX6_stillIn_20 ⟨Nat.zero_le _, Nat.zero_le _⟩ (fun S_6 r_7 hq H locs hX => ?_)
  exact e_i hM hX hlocks hret hq dX6_stillIn_23
def rmX6_meanError : Room := { frames := 3, cells := 0, slots := 0, locals := 64 }
theorem kX6_meanError {R : Room} {s : State} {args : Array Value} {own : String} {index : Nat} (ht : ∀ w ∈ lw_all, w.before args s = true) (hl : Cond.methodLink own index yX6_meanError ∈ lw_all) (hf : rmX6_meanError.frames + 1 ≤ R.frames) (hlo : 8 + (2 + 11) + rmX6_meanError.locals ≤ R.locals) : CallW R s args own RX6 index yX6_meanError cX6_meanError 2 (some Jvm.ClassFile.FieldType.double) (wA yX6_meanError cX6_meanError 2 (some Jvm.ClassFile.FieldType.double)) rmX6_meanError 0 0 0 := cwV 0 ht (good_V hl qm_yX6_meanError qs_yX6_meanError qi_RX6 qc_yX6_meanError) rfl rfl rfl (by decide +kernel) ⟨hf, hlo⟩
set_option maxRecDepth 100000 in
set_option maxHeartbeats 4000000 in
theorem met_X6_meanError (l : Launch) (D : va_G) (ad : Adr) (cy : Nat → ClassId) (S : Mem) {Q : Mem → UInt64 → Prop} (hq : vc_X6_meanError S Q) : Cd l yX6_meanError (wA yX6_meanError cX6_meanError 2 (some Jvm.ClassFile.FieldType.double)) rmX6_meanError D ad cy (IN []) [.ref (ad 14 0 0)] S Q := by
  intro o sz hI
  refine mkC (own := RX6) (lv := [(0, .ref (ad 14 0 0))]) (by decide) rfl (Nat.le_of_ble_eq_true rfl) rfl ?_
  intro p e s m below meth c ls hsz hM hlocks hret hK hA hX hl
  unfold vc_X6_meanError at hq
  refine lv_aload_n hM.1 hM.2.1 dX6_meanError_0 rfl (lv_at hl 0 rfl) ?_
  refine g14 hM hK hX (hI.1 _ m14) 0 (by decide) qf_RX6_10 rfl dX6_meanError_1 ?_
  refine cVi (As := []) hM hK hX ⟨hI.1, trivial⟩ hA (met_X3_countMended l D ad cy S 0 (by decide) hq) (kX3_countMended hM.2.2.2.2 ql_RX6_248 (Nat.le_of_ble_eq_true rfl) (Nat.le_of_ble_eq_true rfl)) (v3 hK hX (hI.1 _ (id_P (by decide)).2.1)) rfl hl.1 rfl (Nat.le_of_ble_eq_true rfl) dX6_meanError_4 ⟨Nat.zero_le _, Nat.zero_le _⟩ (fun S_1 r_2 hq H locs hX => ?_)
  refine lv_istore_n (lv' := [(1, .int r_2), (0, .ref (ad 14 0 0))]) hM.1 hM.2.1 dX6_meanError_7 rfl hl (by decide) rfl (fun ls hl => ?_)
  refine lv_iload_n hM.1 hM.2.1 dX6_meanError_8 rfl (lv_at hl 0 rfl) ?_
  refine lv_if_ne (tgt := 16) hM.1 hM.2.1 dX6_meanError_9 (by decide) (fun c_3 => ?_) (fun c_3 => ?_)
  · replace hq := hq.1 c_3
    refine lv_aload_n hM.1 hM.2.1 dX6_meanError_16 rfl (lv_at hl 1 rfl) ?_
    refine g14 hM hK hX (hI.1 _ m14) 0 (by decide) qf_RX6_10 rfl dX6_meanError_17 ?_
    refine cVi (As := []) hM hK hX ⟨hI.1, trivial⟩ hA (met_X3_sumOfErrors l D ad cy S_1 0 (by decide) hq) (kX3_sumOfErrors hM.2.2.2.2 ql_RX6_251 (Nat.le_of_ble_eq_true rfl) (Nat.le_of_ble_eq_true rfl)) (v3 hK hX (hI.1 _ (id_P (by decide)).2.1)) rfl hl.1 rfl (Nat.le_of_ble_eq_true rfl) dX6_meanError_20 ⟨Nat.zero_le _, Nat.zero_le _⟩ (fun S_4 r_5 hq H locs hX => ?_)
    refine lv_i2d hM.1 hM.2.1 dX6_meanError_23 ?_
    refine lv_iload_n hM.1 hM.2.1 dX6_meanError_24 rfl (lv_at hl 0 rfl) ?_
    refine lv_i2d hM.1 hM.2.1 dX6_meanError_25 ?_
    have c_6 := hq.1
    replace hq := hq.2
    refine lv_ddiv hM.1 hM.2.1 dX6_meanError_26 c_6 ?_
    exact e_d hM hX hlocks hret hq dX6_meanError_27
  replace hq := hq.2 c_3
  refine lv_dconst0 hM.1 hM.2.1 dX6_meanError_12 ?_
  refine lv_goto (tgt := 27) hM.1 hM.2.1 dX6_meanError_13 (by decide) ?_
  exact e_d hM hX hlocks hret hq dX6_meanError_27
