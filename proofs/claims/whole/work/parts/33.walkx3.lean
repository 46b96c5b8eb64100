def rmX6_carriesOut : Room := { frames := 5, cells := 0, slots := 0, locals := 109 }
theorem kX6_carriesOut {R : Room} {s : State} {args : Array Value} {own : String} {index : Nat} (ht : ∀ w ∈ lw_all, w.before args s = true) (hl : Cond.methodLink own index yX6_carriesOut ∈ lw_all) (hf : rmX6_carriesOut.frames + 1 ≤ R.frames) (hlo : 8 + (1 + 11) + rmX6_carriesOut.locals ≤ R.locals) : CallW R s args own RX6 index yX6_carriesOut cX6_carriesOut 1 (some Jvm.ClassFile.FieldType.boolean) (wA yX6_carriesOut cX6_carriesOut 1 (some Jvm.ClassFile.FieldType.boolean)) rmX6_carriesOut 0 0 0 := cwV 0 ht (good_V hl qm_yX6_carriesOut qs_yX6_carriesOut qi_RX6 qc_yX6_carriesOut) rfl rfl rfl (by decide +kernel) ⟨hf, hlo⟩
set_option maxRecDepth 100000 in
set_option maxHeartbeats 4000000 in
theorem met_X6_carriesOut (l : Launch) (D : va_G) (ad : Adr) (cy : Nat → ClassId) (S : Mem) {Q : Mem → Int32 → Prop} (hq : vc_X6_carriesOut S Q) : Ci l yX6_carriesOut (wA yX6_carriesOut cX6_carriesOut 1 (some Jvm.ClassFile.FieldType.boolean)) rmX6_carriesOut D ad cy [.ref (ad 14 0 0)] S Q := by
  intro o sz
  refine mkC (own := RX6) (lv := [(0, .ref (ad 14 0 0))]) (by decide) rfl (Nat.le_of_ble_eq_true rfl) rfl ⟨rfl, rfl⟩ ?_
  intro p e s m below meth c ls hsz hM hlocks hret hK hA hX hl
  unfold vc_X6_carriesOut at hq
  refine lv_aload_n hM.1 hM.2.1 dX6_carriesOut_0 rfl (lv_at hl 0 rfl) ?_
  refine g14 hM hK hX m14 5 (by decide) qf_RX6_39 rfl dX6_carriesOut_1 ?_
  refine g2 hM hK hX m2 4 (by decide) qf_RX6_267 rfl dX6_carriesOut_4 ?_
  refine r_case (x := (S 2 0 0 4)) (v := (104 : Int32)) (fun c_1 => ?_) (fun c_1 => ?_)
  · replace hq := hq.1 c_1
    refine r_lsw (v := (104 : Int32)) (tgt := 84) hM c_1 dX6_carriesOut_7 (by decide) (by rfl) (by decide) ?_
    refine lv_aload_n hM.1 hM.2.1 dX6_carriesOut_84 rfl (lv_at hl 0 rfl) ?_
    refine g14 hM hK hX m14 0 (by decide) qf_RX6_10 rfl dX6_carriesOut_85 ?_
    refine lv_iconst (v := (1 : Int32)) hM.1 hM.2.1 dX6_carriesOut_88 (by decide) ?_
    refine cVi (As := [.int (1 : Int32)]) hM hK hX hA (met_X3_hasHoursLeft l D ad cy S 0 (1 : Int32) (by decide) hq) (kX3_hasHoursLeft hM.2.2.2.2 ql_RX6_262 (Nat.le_of_ble_eq_true rfl) (Nat.le_of_ble_eq_true rfl)) (v3 hK hX (id_P (by decide)).2.1) rfl hl.1 rfl (Nat.le_of_ble_eq_true rfl) dX6_carriesOut_89 ⟨Nat.zero_le _, Nat.zero_le _⟩ (fun S_2 r_3 hq H locs hX => ?_)
    refine lv_if_ne (tgt := 97) hM.1 hM.2.1 dX6_carriesOut_92 (by decide) (fun c_4 => ?_) (fun c_4 => ?_)
    · replace hq := hq.1 c_4
      refine lv_aload_n hM.1 hM.2.1 dX6_carriesOut_97 rfl (lv_at hl 0 rfl) ?_
      refine g14 hM hK hX m14 0 (by decide) qf_RX6_10 rfl dX6_carriesOut_98 ?_
      refine lv_aload_n hM.1 hM.2.1 dX6_carriesOut_101 rfl (lv_at hl 0 rfl) ?_
      refine g14 hM hK hX m14 5 (by decide) qf_RX6_39 rfl dX6_carriesOut_102 ?_
      refine g2 hM hK hX m2 6 (by decide) qf_RX6_274 rfl dX6_carriesOut_105 ?_
      refine lv_bipush (v := (100 : Int32)) hM.1 hM.2.1 dX6_carriesOut_108 (by decide) ?_
      refine lv_imul hM.1 hM.2.1 dX6_carriesOut_110 ?_
      refine cVi (As := [.int ((S_2 2 0 0 6) * (100 : Int32))]) hM hK hX hA (met_X3_passHour l D ad cy S_2 0 ((S_2 2 0 0 6) * (100 : Int32)) (by decide) hq) (kX3_passHour hM.2.2.2.2 ql_RX6_73 (Nat.le_of_ble_eq_true rfl) (Nat.le_of_ble_eq_true rfl)) (v3 hK hX (id_P (by decide)).2.1) rfl hl.1 rfl (Nat.le_of_ble_eq_true rfl) dX6_carriesOut_111 ⟨Nat.zero_le _, Nat.zero_le _⟩ (fun S_5 r_6 hq H locs hX => ?_)
      refine lv_pop hM.1 hM.2.1 dX6_carriesOut_114 rfl ?_
      refine lv_iconst (v := (1 : Int32)) hM.1 hM.2.1 dX6_carriesOut_115 (by decide) ?_
      exact e_z hM hX hlocks hret rfl hq dX6_carriesOut_116
    replace hq := hq.2 c_4
    refine lv_iconst (v := (0 : Int32)) hM.1 hM.2.1 dX6_carriesOut_95 (by decide) ?_
    exact e_z hM hX hlocks hret rfl hq dX6_carriesOut_96
  replace hq := hq.2 c_1
  refine r_case (x := (S 2 0 0 4)) (v := (112 : Int32)) (fun c_7 => ?_) (fun c_7 => ?_)
  · replace hq := hq.1 c_7
    refine r_lsw (v := (112 : Int32)) (tgt := 117) hM c_7 dX6_carriesOut_7 (by decide) (by rfl) (by decide) ?_
    refine lv_aload_n hM.1 hM.2.1 dX6_carriesOut_117 rfl (lv_at hl 0 rfl) ?_
    refine g14 hM hK hX m14 0 (by decide) qf_RX6_10 rfl dX6_carriesOut_118 ?_
    refine lv_aload_n hM.1 hM.2.1 dX6_carriesOut_121 rfl (lv_at hl 0 rfl) ?_
    refine g14 hM hK hX m14 5 (by decide) qf_RX6_39 rfl dX6_carriesOut_122 ?_
    refine g2 hM hK hX m2 5 (by decide) qf_RX6_271 rfl dX6_carriesOut_125 ?_
    refine lv_aload_n hM.1 hM.2.1 dX6_carriesOut_128 rfl (lv_at hl 0 rfl) ?_
    refine g14 hM hK hX m14 5 (by decide) qf_RX6_39 rfl dX6_carriesOut_129 ?_
    refine g2 hM hK hX m2 6 (by decide) qf_RX6_274 rfl dX6_carriesOut_132 ?_
    refine cVv (As := [.int (S 2 0 0 5), .int (S 2 0 0 6)]) hM hK hX hA (met_X3_changePeriod l D ad cy S 0 (S 2 0 0 5) (S 2 0 0 6) (by decide) hq) (kX3_changePeriod hM.2.2.2.2 ql_RX6_88 (Nat.le_of_ble_eq_true rfl) (Nat.le_of_ble_eq_true rfl)) (v3 hK hX (id_P (by decide)).2.1) rfl hl.1 rfl (Nat.le_of_ble_eq_true rfl) dX6_carriesOut_135 ⟨Nat.zero_le _, Nat.zero_le _⟩ (fun S_8 hq H locs hX => ?_)
    refine lv_iconst (v := (1 : Int32)) hM.1 hM.2.1 dX6_carriesOut_138 (by decide) ?_
    exact e_z hM hX hlocks hret rfl hq dX6_carriesOut_139
  replace hq := hq.2 c_7
  refine r_case (x := (S 2 0 0 4)) (v := (116 : Int32)) (fun c_9 => ?_) (fun c_9 => ?_)
  · replace hq := hq.1 c_9
    refine r_lsw (v := (116 : Int32)) (tgt := 40) hM c_9 dX6_carriesOut_7 (by decide) (by rfl) (by decide) ?_
    refine lv_aload_n hM.1 hM.2.1 dX6_carriesOut_40 rfl (lv_at hl 0 rfl) ?_
    refine g14 hM hK hX m14 0 (by decide) qf_RX6_10 rfl dX6_carriesOut_41 ?_
    refine cVi (As := []) hM hK hX hA (met_X3_hasRoom l D ad cy S 0 (by decide) hq) (kX3_hasRoom hM.2.2.2.2 ql_RX6_51 (Nat.le_of_ble_eq_true rfl) (Nat.le_of_ble_eq_true rfl)) (v3 hK hX (id_P (by decide)).2.1) rfl hl.1 rfl (Nat.le_of_ble_eq_true rfl) dX6_carriesOut_44 ⟨Nat.zero_le _, Nat.zero_le _⟩ (fun S_10 r_11 hq H locs hX => ?_)
    refine lv_if_ne (tgt := 52) hM.1 hM.2.1 dX6_carriesOut_47 (by decide) (fun c_12 => ?_) (fun c_12 => ?_)
    · replace hq := hq.1 c_12
      refine lv_aload_n hM.1 hM.2.1 dX6_carriesOut_52 rfl (lv_at hl 0 rfl) ?_
      refine g14 hM hK hX m14 0 (by decide) qf_RX6_10 rfl dX6_carriesOut_53 ?_
      refine lv_aload_n hM.1 hM.2.1 dX6_carriesOut_56 rfl (lv_at hl 0 rfl) ?_
      refine g14 hM hK hX m14 5 (by decide) qf_RX6_39 rfl dX6_carriesOut_57 ?_
      refine g2 hM hK hX m2 5 (by decide) qf_RX6_271 rfl dX6_carriesOut_60 ?_
      refine lv_aload_n hM.1 hM.2.1 dX6_carriesOut_63 rfl (lv_at hl 0 rfl) ?_
      refine g14 hM hK hX m14 5 (by decide) qf_RX6_39 rfl dX6_carriesOut_64 ?_
      refine g2 hM hK hX m2 6 (by decide) qf_RX6_274 rfl dX6_carriesOut_67 ?_
      refine lv_iconst (v := (0 : Int32)) hM.1 hM.2.1 dX6_carriesOut_70 (by decide) ?_
      refine lv_aload_n hM.1 hM.2.1 dX6_carriesOut_71 rfl (lv_at hl 0 rfl) ?_
      refine g14 hM hK hX m14 5 (by decide) qf_RX6_39 rfl dX6_carriesOut_72 ?_
      refine g2 hM hK hX m2 7 (by decide) qf_RX6_277 rfl dX6_carriesOut_75 ?_
      refine cVi (As := [.int (S_10 2 0 0 5), .int (S_10 2 0 0 6), .int (0 : Int32), .int (S_10 2 0 0 7)]) hM hK hX hA (met_X3_add l D ad cy S_10 0 (S_10 2 0 0 5) (S_10 2 0 0 6) (0 : Int32) (S_10 2 0 0 7) (by decide) hq) (kX3_add hM.2.2.2.2 ql_RX6_66 (Nat.le_of_ble_eq_true rfl) (Nat.le_of_ble_eq_true rfl)) (v3 hK hX (id_P (by decide)).2.1) rfl hl.1 rfl (Nat.le_of_ble_eq_true rfl) dX6_carriesOut_78 ⟨Nat.zero_le _, Nat.zero_le _⟩ (fun S_13 r_14 hq H locs hX => ?_)
      refine lv_pop hM.1 hM.2.1 dX6_carriesOut_81 rfl ?_
      refine lv_iconst (v := (1 : Int32)) hM.1 hM.2.1 dX6_carriesOut_82 (by decide) ?_
      exact e_z hM hX hlocks hret rfl hq dX6_carriesOut_83
    replace hq := hq.2 c_12
    refine lv_iconst (v := (0 : Int32)) hM.1 hM.2.1 dX6_carriesOut_50 (by decide) ?_
    exact e_z hM hX hlocks hret rfl hq dX6_carriesOut_51
  replace hq := hq.2 c_9
  refine lv_lookup (off := (133 : Int)) (tgt := 140) hM.1 hM.2.1 dX6_carriesOut_7 (by decide) (r_off _ (fun q hq9 => ?_)) (by decide) ?_
  · simp only [List.mem_cons, List.not_mem_nil, or_false] at hq9
    rcases hq9 with rfl | rfl | rfl
    · exact fun h9 => c_1 (Int32.toInt_inj.mp h9)
    · exact fun h9 => c_7 (Int32.toInt_inj.mp h9)
    · exact fun h9 => c_9 (Int32.toInt_inj.mp h9)
  refine lv_aload_n hM.1 hM.2.1 dX6_carriesOut_140 rfl (lv_at hl 0 rfl) ?_
  refine g14 hM hK hX m14 0 (by decide) qf_RX6_10 rfl dX6_carriesOut_141 ?_
  refine lv_aload_n hM.1 hM.2.1 dX6_carriesOut_144 rfl (lv_at hl 0 rfl) ?_
  refine g14 hM hK hX m14 5 (by decide) qf_RX6_39 rfl dX6_carriesOut_145 ?_
  refine g2 hM hK hX m2 6 (by decide) qf_RX6_274 rfl dX6_carriesOut_148 ?_
  refine cVi (As := [.int (S 2 0 0 6)]) hM hK hX hA (met_X3_has l D ad cy S 0 (S 2 0 0 6) (by decide) hq) (kX3_has hM.2.2.2.2 ql_RX6_256 (Nat.le_of_ble_eq_true rfl) (Nat.le_of_ble_eq_true rfl)) (v3 hK hX (id_P (by decide)).2.1) rfl hl.1 rfl (Nat.le_of_ble_eq_true rfl) dX6_carriesOut_151 ⟨Nat.zero_le _, Nat.zero_le _⟩ (fun S_15 r_16 hq H locs hX => ?_)
  refine lv_if_ne (tgt := 159) hM.1 hM.2.1 dX6_carriesOut_154 (by decide) (fun c_17 => ?_) (fun c_17 => ?_)
  · replace hq := hq.1 c_17
    refine lv_aload_n hM.1 hM.2.1 dX6_carriesOut_159 rfl (lv_at hl 0 rfl) ?_
    refine g14 hM hK hX m14 0 (by decide) qf_RX6_10 rfl dX6_carriesOut_160 ?_
    refine lv_aload_n hM.1 hM.2.1 dX6_carriesOut_163 rfl (lv_at hl 0 rfl) ?_
    refine g14 hM hK hX m14 5 (by decide) qf_RX6_39 rfl dX6_carriesOut_164 ?_
    refine g2 hM hK hX m2 6 (by decide) qf_RX6_274 rfl dX6_carriesOut_167 ?_
    refine cVr (As := [.int (S_15 2 0 0 6)]) hM hK hX hA (met_X3_at l D ad cy S_15 0 (S_15 2 0 0 6) (by decide) hq) (kX3_at hM.2.2.2.2 ql_RX6_94 (Nat.le_of_ble_eq_true rfl) (Nat.le_of_ble_eq_true rfl)) (v3 hK hX (id_P (by decide)).2.1) rfl hl.1 rfl (Nat.le_of_ble_eq_true rfl) dX6_carriesOut_170 ⟨Nat.zero_le _, Nat.zero_le _⟩ (fun S_18 P_19 i_20 hq H locs hX => ?_)
    refine lv_aload_n hM.1 hM.2.1 dX6_carriesOut_173 rfl (lv_at hl 0 rfl) ?_
    refine g14 hM hK hX m14 0 (by decide) qf_RX6_10 rfl dX6_carriesOut_174 ?_
    refine g3 hM hK hX (id_P (by decide)).2.1 8 (by decide) qf_RX6_81 rfl dX6_carriesOut_177 ?_
    have hT_21 := hq.1
    replace hq := hq.2
    refine cVv (As := [.int (S_18 3 0 0 8)]) hM hK hX hA (met_X5_startAfresh l D ad cy S_18 P_19 i_20 (S_18 3 0 0 8) hT_21 hq) (kX5_startAfresh hM.2.2.2.2 ql_RX6_103 (Nat.le_of_ble_eq_true rfl) (Nat.le_of_ble_eq_true rfl)) (v5 hK hX (id_T hT_21).1) rfl hl.1 rfl (Nat.le_of_ble_eq_true rfl) dX6_carriesOut_180 ⟨Nat.zero_le _, Nat.zero_le _⟩ (fun S_22 hq H locs hX => ?_)
    refine lv_iconst (v := (1 : Int32)) hM.1 hM.2.1 dX6_carriesOut_183 (by decide) ?_
    exact e_z hM hX hlocks hret rfl hq dX6_carriesOut_184
  replace hq := hq.2 c_17
  refine lv_iconst (v := (0 : Int32)) hM.1 hM.2.1 dX6_carriesOut_157 (by decide) ?_
  exact e_z hM hX hlocks hret rfl hq dX6_carriesOut_158
