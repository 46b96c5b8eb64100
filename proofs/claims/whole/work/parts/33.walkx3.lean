def rmX6_snapshotIn : Room := { frames := 0, cells := 0, slots := 0, locals := 0 }
theorem kX6_snapshotIn {R : Room} {s : State} {args : Array Value} {own : String} {index : Nat} (ht : ∀ w ∈ lw_all, w.before args s = true) (hl : Cond.methodLink own index yX6_snapshotIn ∈ lw_all) (hf : rmX6_snapshotIn.frames + 1 ≤ R.frames) (hlo : 8 + (2 + 11) + rmX6_snapshotIn.locals ≤ R.locals) : CallW R s args own RX6 index yX6_snapshotIn cX6_snapshotIn 2 (some (Jvm.ClassFile.FieldType.object "LateThermometers$Snapshot")) (wA yX6_snapshotIn cX6_snapshotIn 2 (some (Jvm.ClassFile.FieldType.object "LateThermometers$Snapshot"))) rmX6_snapshotIn 0 0 1 := cwV 1 ht (good_V hl qm_yX6_snapshotIn qs_yX6_snapshotIn qi_RX6 qc_yX6_snapshotIn) rfl rfl rfl (by decide +kernel) ⟨hf, hlo⟩
set_option maxRecDepth 100000 in
set_option maxHeartbeats 4000000 in
theorem met_X6_snapshotIn (l : Launch) (D : va_G) (ad : Adr) (cy : Nat → ClassId) (S : Mem) (x1 : Int32) {Q : Mem → Nat → Nat → Prop} (hq : vc_X6_snapshotIn S x1 Q) : Cr 4 l yX6_snapshotIn (wA yX6_snapshotIn cX6_snapshotIn 2 (some (Jvm.ClassFile.FieldType.object "LateThermometers$Snapshot"))) rmX6_snapshotIn D ad cy [.ref (ad 14 0 0), .int x1] S Q := by
  intro o sz
  refine mkC (own := RX6) (lv := [(0, .ref (ad 14 0 0)), (1, .int x1)]) (by decide) rfl (Nat.le_of_ble_eq_true rfl) rfl ⟨rfl, rfl⟩ ?_
  intro p e s m below meth c ls hsz hM hlocks hret hK hA hX hl
  unfold vc_X6_snapshotIn at hq
  refine lv_iload_n hM.1 hM.2.1 dX6_snapshotIn_0 rfl (lv_at hl 1 rfl) ?_
  refine lv_if_ne (tgt := 11) hM.1 hM.2.1 dX6_snapshotIn_1 (by decide) (fun c_1 => ?_) (fun c_1 => ?_)
  · replace hq := hq.1 c_1
    refine lv_aload_n hM.1 hM.2.1 dX6_snapshotIn_11 rfl (lv_at hl 0 rfl) ?_
    refine g14 hM hK hX m14 4 (by decide) qf_RX6_33 rfl dX6_snapshotIn_12 ?_
    exact e_r hM hX hlocks hret (Or.inl ⟨_, rfl⟩) hq dX6_snapshotIn_15
  replace hq := hq.2 c_1
  refine lv_aload_n hM.1 hM.2.1 dX6_snapshotIn_4 rfl (lv_at hl 0 rfl) ?_
  refine g14 hM hK hX m14 3 (by decide) qf_RX6_29 rfl dX6_snapshotIn_5 ?_
  refine lv_goto (tgt := 15) hM.1 hM.2.1 dX6_snapshotIn_8 (by decide) ?_
  exact e_r hM hX hlocks hret (Or.inl ⟨_, rfl⟩) hq dX6_snapshotIn_15
def rmX6_carriesOut : Room := { frames := 5, cells := 0, slots := 0, locals := 109 }
theorem kX6_carriesOut {R : Room} {s : State} {args : Array Value} {own : String} {index : Nat} (ht : ∀ w ∈ lw_all, w.before args s = true) (hl : Cond.methodLink own index yX6_carriesOut ∈ lw_all) (hf : rmX6_carriesOut.frames + 1 ≤ R.frames) (hlo : 8 + (1 + 11) + rmX6_carriesOut.locals ≤ R.locals) : CallW R s args own RX6 index yX6_carriesOut cX6_carriesOut 1 (some Jvm.ClassFile.FieldType.boolean) (wA yX6_carriesOut cX6_carriesOut 1 (some Jvm.ClassFile.FieldType.boolean)) rmX6_carriesOut 0 0 0 := cwV 0 ht (good_V hl qm_yX6_carriesOut qs_yX6_carriesOut qi_RX6 qc_yX6_carriesOut) rfl rfl rfl (by decide +kernel) ⟨hf, hlo⟩
set_option maxRecDepth 100000 in
set_option maxHeartbeats 4000000 in
theorem met_X6_carriesOut (l : Launch) (D : va_G) (ad : Adr) (cy : Nat → ClassId) (S : Mem) {Q : Mem → Int32 → Prop} (hq : vc_X6_carriesOut S Q) : Ci l yX6_carriesOut (wA yX6_carriesOut cX6_carriesOut 1 (some Jvm.ClassFile.FieldType.boolean)) rmX6_carriesOut D ad cy [.ref (ad 14 0 0)] S Q := by
  intro o sz
  refine mkC (own := RX6) (lv := [(0, .ref (ad 14 0 0))]) (by decide) rfl (Nat.le_of_ble_eq_true rfl) rfl ⟨rfl, rfl⟩ ?_
  intro p e s m below meth c ls hsz hM hlocks hret hK hA hX hl
  unfold vc_X6_carriesOut at hq
  refine lv_aload_n hM.1 hM.2.1 dX6_carriesOut_0 rfl (lv_at hl 0 rfl) ?_
  refine g14 hM hK hX m14 5 (by decide) qf_RX6_39 rfl dX6_carriesOut_1 ?_
  refine g2 hM hK hX m2 4 (by decide) qf_RX6_271 rfl dX6_carriesOut_4 ?_
  refine r_case (x := (S 2 0 0 4)) (v := (0 : Int32)) (fun c_1 => ?_) (fun c_1 => ?_)
  · replace hq := hq.1 c_1
    refine r_tsw (v := (0 : Int32)) (tgt := 32) hM c_1 dX6_carriesOut_7 (by decide) (by decide) (by rfl) (by decide) ?_
    refine lv_aload_n hM.1 hM.2.1 dX6_carriesOut_32 rfl (lv_at hl 0 rfl) ?_
    refine g14 hM hK hX m14 0 (by decide) qf_RX6_10 rfl dX6_carriesOut_33 ?_
    refine cVi (As := []) hM hK hX hA (met_X3_hasRoom l D ad cy S 0 (by decide) hq) (kX3_hasRoom hM.2.2.2.2 ql_RX6_51 (Nat.le_of_ble_eq_true rfl) (Nat.le_of_ble_eq_true rfl)) (v3 hK hX (id_P (by decide)).2.1) rfl hl.1 rfl (Nat.le_of_ble_eq_true rfl) dX6_carriesOut_36 ⟨Nat.zero_le _, Nat.zero_le _⟩ (fun S_2 r_3 hq H locs hX => ?_)
    refine lv_if_ne (tgt := 44) hM.1 hM.2.1 dX6_carriesOut_39 (by decide) (fun c_4 => ?_) (fun c_4 => ?_)
    · replace hq := hq.1 c_4
      refine lv_aload_n hM.1 hM.2.1 dX6_carriesOut_44 rfl (lv_at hl 0 rfl) ?_
      refine g14 hM hK hX m14 0 (by decide) qf_RX6_10 rfl dX6_carriesOut_45 ?_
      refine lv_aload_n hM.1 hM.2.1 dX6_carriesOut_48 rfl (lv_at hl 0 rfl) ?_
      refine g14 hM hK hX m14 5 (by decide) qf_RX6_39 rfl dX6_carriesOut_49 ?_
      refine g2 hM hK hX m2 5 (by decide) qf_RX6_274 rfl dX6_carriesOut_52 ?_
      refine lv_aload_n hM.1 hM.2.1 dX6_carriesOut_55 rfl (lv_at hl 0 rfl) ?_
      refine g14 hM hK hX m14 5 (by decide) qf_RX6_39 rfl dX6_carriesOut_56 ?_
      refine g2 hM hK hX m2 6 (by decide) qf_RX6_277 rfl dX6_carriesOut_59 ?_
      refine lv_iconst (v := (0 : Int32)) hM.1 hM.2.1 dX6_carriesOut_62 (by decide) ?_
      refine lv_aload_n hM.1 hM.2.1 dX6_carriesOut_63 rfl (lv_at hl 0 rfl) ?_
      refine g14 hM hK hX m14 5 (by decide) qf_RX6_39 rfl dX6_carriesOut_64 ?_
      refine g2 hM hK hX m2 7 (by decide) qf_RX6_280 rfl dX6_carriesOut_67 ?_
      refine cVi (As := [.int (S_2 2 0 0 5), .int (S_2 2 0 0 6), .int (0 : Int32), .int (S_2 2 0 0 7)]) hM hK hX hA (met_X3_add l D ad cy S_2 0 (S_2 2 0 0 5) (S_2 2 0 0 6) (0 : Int32) (S_2 2 0 0 7) (by decide) hq) (kX3_add hM.2.2.2.2 ql_RX6_66 (Nat.le_of_ble_eq_true rfl) (Nat.le_of_ble_eq_true rfl)) (v3 hK hX (id_P (by decide)).2.1) rfl hl.1 rfl (Nat.le_of_ble_eq_true rfl) dX6_carriesOut_70 ⟨Nat.zero_le _, Nat.zero_le _⟩ (fun S_5 r_6 hq H locs hX => ?_)
      refine lv_pop hM.1 hM.2.1 dX6_carriesOut_73 rfl ?_
      refine lv_iconst (v := (1 : Int32)) hM.1 hM.2.1 dX6_carriesOut_74 (by decide) ?_
      exact e_z hM hX hlocks hret rfl hq dX6_carriesOut_75
    replace hq := hq.2 c_4
    refine lv_iconst (v := (0 : Int32)) hM.1 hM.2.1 dX6_carriesOut_42 (by decide) ?_
    exact e_z hM hX hlocks hret rfl hq dX6_carriesOut_43
  replace hq := hq.2 c_1
  refine r_case (x := (S 2 0 0 4)) (v := (1 : Int32)) (fun c_7 => ?_) (fun c_7 => ?_)
  · replace hq := hq.1 c_7
    refine r_tsw (v := (1 : Int32)) (tgt := 76) hM c_7 dX6_carriesOut_7 (by decide) (by decide) (by rfl) (by decide) ?_
    refine lv_aload_n hM.1 hM.2.1 dX6_carriesOut_76 rfl (lv_at hl 0 rfl) ?_
    refine g14 hM hK hX m14 0 (by decide) qf_RX6_10 rfl dX6_carriesOut_77 ?_
    refine lv_iconst (v := (1 : Int32)) hM.1 hM.2.1 dX6_carriesOut_80 (by decide) ?_
    refine cVi (As := [.int (1 : Int32)]) hM hK hX hA (met_X3_hasHoursLeft l D ad cy S 0 (1 : Int32) (by decide) hq) (kX3_hasHoursLeft hM.2.2.2.2 ql_RX6_266 (Nat.le_of_ble_eq_true rfl) (Nat.le_of_ble_eq_true rfl)) (v3 hK hX (id_P (by decide)).2.1) rfl hl.1 rfl (Nat.le_of_ble_eq_true rfl) dX6_carriesOut_81 ⟨Nat.zero_le _, Nat.zero_le _⟩ (fun S_8 r_9 hq H locs hX => ?_)
    refine lv_if_ne (tgt := 89) hM.1 hM.2.1 dX6_carriesOut_84 (by decide) (fun c_10 => ?_) (fun c_10 => ?_)
    · replace hq := hq.1 c_10
      refine lv_aload_n hM.1 hM.2.1 dX6_carriesOut_89 rfl (lv_at hl 0 rfl) ?_
      refine g14 hM hK hX m14 0 (by decide) qf_RX6_10 rfl dX6_carriesOut_90 ?_
      refine lv_aload_n hM.1 hM.2.1 dX6_carriesOut_93 rfl (lv_at hl 0 rfl) ?_
      refine g14 hM hK hX m14 5 (by decide) qf_RX6_39 rfl dX6_carriesOut_94 ?_
      refine g2 hM hK hX m2 6 (by decide) qf_RX6_277 rfl dX6_carriesOut_97 ?_
      refine lv_bipush (v := (100 : Int32)) hM.1 hM.2.1 dX6_carriesOut_100 (by decide) ?_
      refine lv_imul hM.1 hM.2.1 dX6_carriesOut_102 ?_
      refine cVi (As := [.int ((S_8 2 0 0 6) * (100 : Int32))]) hM hK hX hA (met_X3_passHour l D ad cy S_8 0 ((S_8 2 0 0 6) * (100 : Int32)) (by decide) hq) (kX3_passHour hM.2.2.2.2 ql_RX6_73 (Nat.le_of_ble_eq_true rfl) (Nat.le_of_ble_eq_true rfl)) (v3 hK hX (id_P (by decide)).2.1) rfl hl.1 rfl (Nat.le_of_ble_eq_true rfl) dX6_carriesOut_103 ⟨Nat.zero_le _, Nat.zero_le _⟩ (fun S_11 r_12 hq H locs hX => ?_)
      refine lv_pop hM.1 hM.2.1 dX6_carriesOut_106 rfl ?_
      refine lv_iconst (v := (1 : Int32)) hM.1 hM.2.1 dX6_carriesOut_107 (by decide) ?_
      exact e_z hM hX hlocks hret rfl hq dX6_carriesOut_108
    replace hq := hq.2 c_10
    refine lv_iconst (v := (0 : Int32)) hM.1 hM.2.1 dX6_carriesOut_87 (by decide) ?_
    exact e_z hM hX hlocks hret rfl hq dX6_carriesOut_88
  replace hq := hq.2 c_7
  refine r_case (x := (S 2 0 0 4)) (v := (2 : Int32)) (fun c_13 => ?_) (fun c_13 => ?_)
  · replace hq := hq.1 c_13
    refine r_tsw (v := (2 : Int32)) (tgt := 109) hM c_13 dX6_carriesOut_7 (by decide) (by decide) (by rfl) (by decide) ?_
    refine lv_aload_n hM.1 hM.2.1 dX6_carriesOut_109 rfl (lv_at hl 0 rfl) ?_
    refine g14 hM hK hX m14 0 (by decide) qf_RX6_10 rfl dX6_carriesOut_110 ?_
    refine lv_aload_n hM.1 hM.2.1 dX6_carriesOut_113 rfl (lv_at hl 0 rfl) ?_
    refine g14 hM hK hX m14 5 (by decide) qf_RX6_39 rfl dX6_carriesOut_114 ?_
    refine g2 hM hK hX m2 5 (by decide) qf_RX6_274 rfl dX6_carriesOut_117 ?_
    refine lv_aload_n hM.1 hM.2.1 dX6_carriesOut_120 rfl (lv_at hl 0 rfl) ?_
    refine g14 hM hK hX m14 5 (by decide) qf_RX6_39 rfl dX6_carriesOut_121 ?_
    refine g2 hM hK hX m2 6 (by decide) qf_RX6_277 rfl dX6_carriesOut_124 ?_
    refine cVv (As := [.int (S 2 0 0 5), .int (S 2 0 0 6)]) hM hK hX hA (met_X3_changePeriod l D ad cy S 0 (S 2 0 0 5) (S 2 0 0 6) (by decide) hq) (kX3_changePeriod hM.2.2.2.2 ql_RX6_88 (Nat.le_of_ble_eq_true rfl) (Nat.le_of_ble_eq_true rfl)) (v3 hK hX (id_P (by decide)).2.1) rfl hl.1 rfl (Nat.le_of_ble_eq_true rfl) dX6_carriesOut_127 ⟨Nat.zero_le _, Nat.zero_le _⟩ (fun S_14 hq H locs hX => ?_)
    refine lv_iconst (v := (1 : Int32)) hM.1 hM.2.1 dX6_carriesOut_130 (by decide) ?_
    exact e_z hM hX hlocks hret rfl hq dX6_carriesOut_131
  replace hq := hq.2 c_13
  refine r_tswD (tgt := 132) 3 hM (by decide) (by decide) (fun k hk => ?_) dX6_carriesOut_7 (by decide) ?_
  · match k, hk with
    | 0, _ => exact c_1
    | 1, _ => exact c_7
    | 2, _ => exact c_13
    | k + 3, h => exact absurd h (by omega)
  refine lv_aload_n hM.1 hM.2.1 dX6_carriesOut_132 rfl (lv_at hl 0 rfl) ?_
  refine g14 hM hK hX m14 0 (by decide) qf_RX6_10 rfl dX6_carriesOut_133 ?_
  refine lv_aload_n hM.1 hM.2.1 dX6_carriesOut_136 rfl (lv_at hl 0 rfl) ?_
  refine g14 hM hK hX m14 5 (by decide) qf_RX6_39 rfl dX6_carriesOut_137 ?_
  refine g2 hM hK hX m2 6 (by decide) qf_RX6_277 rfl dX6_carriesOut_140 ?_
  refine cVi (As := [.int (S 2 0 0 6)]) hM hK hX hA (met_X3_has l D ad cy S 0 (S 2 0 0 6) (by decide) hq) (kX3_has hM.2.2.2.2 ql_RX6_260 (Nat.le_of_ble_eq_true rfl) (Nat.le_of_ble_eq_true rfl)) (v3 hK hX (id_P (by decide)).2.1) rfl hl.1 rfl (Nat.le_of_ble_eq_true rfl) dX6_carriesOut_143 ⟨Nat.zero_le _, Nat.zero_le _⟩ (fun S_15 r_16 hq H locs hX => ?_)
  refine lv_if_ne (tgt := 151) hM.1 hM.2.1 dX6_carriesOut_146 (by decide) (fun c_17 => ?_) (fun c_17 => ?_)
  · replace hq := hq.1 c_17
    refine lv_aload_n hM.1 hM.2.1 dX6_carriesOut_151 rfl (lv_at hl 0 rfl) ?_
    refine g14 hM hK hX m14 0 (by decide) qf_RX6_10 rfl dX6_carriesOut_152 ?_
    refine lv_aload_n hM.1 hM.2.1 dX6_carriesOut_155 rfl (lv_at hl 0 rfl) ?_
    refine g14 hM hK hX m14 5 (by decide) qf_RX6_39 rfl dX6_carriesOut_156 ?_
    refine g2 hM hK hX m2 6 (by decide) qf_RX6_277 rfl dX6_carriesOut_159 ?_
    refine cVr (As := [.int (S_15 2 0 0 6)]) hM hK hX hA (met_X3_at l D ad cy S_15 0 (S_15 2 0 0 6) (by decide) hq) (kX3_at hM.2.2.2.2 ql_RX6_94 (Nat.le_of_ble_eq_true rfl) (Nat.le_of_ble_eq_true rfl)) (v3 hK hX (id_P (by decide)).2.1) rfl hl.1 rfl (Nat.le_of_ble_eq_true rfl) dX6_carriesOut_162 ⟨Nat.zero_le _, Nat.zero_le _⟩ (fun S_18 P_19 i_20 hq H locs hX => ?_)
    refine lv_aload_n hM.1 hM.2.1 dX6_carriesOut_165 rfl (lv_at hl 0 rfl) ?_
    refine g14 hM hK hX m14 0 (by decide) qf_RX6_10 rfl dX6_carriesOut_166 ?_
    refine g3 hM hK hX (id_P (by decide)).2.1 8 (by decide) qf_RX6_81 rfl dX6_carriesOut_169 ?_
    have hT_21 := hq.1
    replace hq := hq.2
    refine cVv (As := [.int (S_18 3 0 0 8)]) hM hK hX hA (met_X5_startAfresh l D ad cy S_18 P_19 i_20 (S_18 3 0 0 8) hT_21 hq) (kX5_startAfresh hM.2.2.2.2 ql_RX6_103 (Nat.le_of_ble_eq_true rfl) (Nat.le_of_ble_eq_true rfl)) (v5 hK hX (id_T hT_21).1) rfl hl.1 rfl (Nat.le_of_ble_eq_true rfl) dX6_carriesOut_172 ⟨Nat.zero_le _, Nat.zero_le _⟩ (fun S_22 hq H locs hX => ?_)
    refine lv_iconst (v := (1 : Int32)) hM.1 hM.2.1 dX6_carriesOut_175 (by decide) ?_
    exact e_z hM hX hlocks hret rfl hq dX6_carriesOut_176
  replace hq := hq.2 c_17
  refine lv_iconst (v := (0 : Int32)) hM.1 hM.2.1 dX6_carriesOut_149 (by decide) ?_
  exact e_z hM hX hlocks hret rfl hq dX6_carriesOut_150
