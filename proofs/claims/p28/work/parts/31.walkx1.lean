def rmX5_follow : Room := { frames := 2, cells := 0, slots := 0, locals := 43 }
theorem kX5_follow {R : Room} {s : State} {args : Array Value} {own : String} {index : Nat} (ht : ∀ w ∈ lw_all, w.before args s = true) (hl : Cond.methodLink own index yX5_follow ∈ lw_all) (hf : rmX5_follow.frames + 1 ≤ R.frames) (hlo : 8 + (2 + 11) + rmX5_follow.locals ≤ R.locals) : CallW R s args own RX5 index yX5_follow cX5_follow 2 none (wA yX5_follow cX5_follow 2 none) rmX5_follow 0 0 1 := cwV 1 ht (good_V hl qm_yX5_follow qs_yX5_follow qi_RX5 qc_yX5_follow) rfl rfl rfl (by decide +kernel) ⟨hf, hlo⟩
set_option maxRecDepth 100000 in
set_option maxHeartbeats 4000000 in
theorem met_X5_follow (l : Launch) (D : va_G) (ad : Adr) (cy : Nat → ClassId) (S : Mem) (P : Nat) (i : Nat) (x1 : Int32) {Q : Mem → Prop} (hv : P < 11 ∧ i < 11) (hq : vc_X5_follow S P i x1 Q) : Cv l yX5_follow (wA yX5_follow cX5_follow 2 none) rmX5_follow D ad cy (IN []) [.ref (ad 5 P i), .int x1] S Q := by
  intro o sz hI
  refine mkC (own := RX5) (lv := [(0, .ref (ad 5 P i)), (1, .int x1)]) (by decide) rfl (Nat.le_of_ble_eq_true rfl) rfl ?_
  intro p e s m below meth c ls hsz hM hlocks hret hK hA hX hl
  unfold vc_X5_follow at hq
  refine lv_aload_n hM.1 hM.2.1 dX5_follow_0 rfl (lv_at hl 0 rfl) ?_
  refine lv_dup hM.1 hM.2.1 dX5_follow_1 rfl ?_
  refine g5 hM hK hX (hI.1 _ (id_T hv).1) 7 (by decide) qf_RX5_42 rfl dX5_follow_2 ?_
  refine lv_aload_n hM.1 hM.2.1 dX5_follow_5 rfl (lv_at hl 0 rfl) ?_
  refine lv_aload_n hM.1 hM.2.1 dX5_follow_6 rfl (lv_at hl 0 rfl) ?_
  refine g5 hM hK hX (hI.1 _ (id_T hv).1) 7 (by decide) qf_RX5_42 rfl dX5_follow_7 ?_
  refine lv_iload_n hM.1 hM.2.1 dX5_follow_10 rfl (lv_at hl 1 rfl) ?_
  refine cVi (As := [.int (S 5 P i 7), .int x1]) hM hK hX ⟨hI.1, trivial⟩ hA (met_X5_stepFrom l D ad cy S P i (S 5 P i 7) x1 hv hq) (kX5_stepFrom hM.2.2.2.2 ql_RX5_59 (Nat.le_of_ble_eq_true rfl) (Nat.le_of_ble_eq_true rfl)) (v5 hK hX (hI.1 _ (id_T hv).1)) rfl hl.1 rfl (Nat.le_of_ble_eq_true rfl) dX5_follow_11 ⟨Nat.zero_le _, Nat.zero_le _⟩ (fun S_1 r_2 hq H locs hX => ?_)
  refine lv_iadd hM.1 hM.2.1 dX5_follow_14 ?_
  refine p5_7 hM hK hX (hI.1 _ (id_T hv).1) qf_RX5_42 dX5_follow_15 (fun S_3 e_4 H locs hX => ?_)
  replace hq := hq S_3 e_4
  exact e_v hM hX hlocks hret hq dX5_follow_18
def rmX3_isReadNow : Room := { frames := 2, cells := 0, slots := 0, locals := 42 }
theorem kX3_isReadNow {R : Room} {s : State} {args : Array Value} {own : String} {index : Nat} (ht : ∀ w ∈ lw_all, w.before args s = true) (hl : Cond.methodLink own index yX3_isReadNow ∈ lw_all) (hf : rmX3_isReadNow.frames + 1 ≤ R.frames) (hlo : 8 + (2 + 11) + rmX3_isReadNow.locals ≤ R.locals) : CallW R s args own RX3 index yX3_isReadNow cX3_isReadNow 2 (some Jvm.ClassFile.FieldType.boolean) (wA yX3_isReadNow cX3_isReadNow 2 (some Jvm.ClassFile.FieldType.boolean)) rmX3_isReadNow 0 0 1 := cwV 1 ht (good_V hl qm_yX3_isReadNow qs_yX3_isReadNow qi_RX3 qc_yX3_isReadNow) rfl rfl rfl (by decide +kernel) ⟨hf, hlo⟩
set_option maxRecDepth 100000 in
set_option maxHeartbeats 4000000 in
theorem met_X3_isReadNow (l : Launch) (D : va_G) (ad : Adr) (cy : Nat → ClassId) (S : Mem) (P : Nat) (x1 : Int32) {Q : Mem → Int32 → Prop} (hv : P < 11) (hq : vc_X3_isReadNow S P x1 Q) : Ci l yX3_isReadNow (wA yX3_isReadNow cX3_isReadNow 2 (some Jvm.ClassFile.FieldType.boolean)) rmX3_isReadNow D ad cy (IN []) [.ref (ad 3 P 0), .int x1] S Q := by
  intro o sz hI
  refine mkC (own := RX3) (lv := [(0, .ref (ad 3 P 0)), (1, .int x1)]) (by decide) rfl (Nat.le_of_ble_eq_true rfl) rfl ?_
  intro p e s m below meth c ls hsz hM hlocks hret hK hA hX hl
  unfold vc_X3_isReadNow at hq
  refine lv_aload_n hM.1 hM.2.1 dX3_isReadNow_0 rfl (lv_at hl 0 rfl) ?_
  refine g3 hM hK hX (hI.1 _ (id_P hv).2.1) 7 (by decide) qf_RX3_65 rfl dX3_isReadNow_1 ?_
  refine lv_aload_n hM.1 hM.2.1 dX3_isReadNow_4 rfl (lv_at hl 0 rfl) ?_
  refine lv_iload_n hM.1 hM.2.1 dX3_isReadNow_5 rfl (lv_at hl 1 rfl) ?_
  refine cVi (As := [.int x1]) hM hK hX ⟨hI.1, trivial⟩ hA (met_X3_periodOf l D ad cy S P x1 hv hq) (kX3_periodOf hM.2.2.2.2 ql_RX3_82 (Nat.le_of_ble_eq_true rfl) (Nat.le_of_ble_eq_true rfl)) (v3 hK hX (hI.1 _ (id_P hv).2.1)) rfl hl.1 rfl (Nat.le_of_ble_eq_true rfl) dX3_isReadNow_6 ⟨Nat.zero_le _, Nat.zero_le _⟩ (fun S_1 r_2 hq H locs hX => ?_)
  refine cSNi (As := [.int (S 3 P 0 7), .int r_2]) hM hK hX ⟨hI.1, trivial⟩ hA (met_X6_remainder l D ad cy S_1 (S 3 P 0 7) r_2 hq) (kNX6_remainder hM.2.2.2.2 (hK.2 _ ql_RX3_86) (Nat.le_of_ble_eq_true rfl) (Nat.le_of_ble_eq_true rfl)) rfl hl.1 rfl (Nat.le_of_ble_eq_true rfl) dX3_isReadNow_9 ⟨Nat.zero_le _, Nat.zero_le _⟩ (fun S_3 r_4 hq H locs hX => ?_)
  refine lv_if_ne (tgt := 19) hM.1 hM.2.1 dX3_isReadNow_12 (by decide) (fun c_5 => ?_) (fun c_5 => ?_)
  · replace hq := hq.1 c_5
    refine lv_iconst (v := (0 : Int32)) hM.1 hM.2.1 dX3_isReadNow_19 (by decide) ?_
    exact e_z hM hX hlocks hret rfl hq dX3_isReadNow_20
  replace hq := hq.2 c_5
  refine lv_iconst (v := (1 : Int32)) hM.1 hM.2.1 dX3_isReadNow_15 (by decide) ?_
  refine lv_goto (tgt := 20) hM.1 hM.2.1 dX3_isReadNow_16 (by decide) ?_
  exact e_z hM hX hlocks hret rfl hq dX3_isReadNow_20
def rmX6_putFirst : Room := { frames := 0, cells := 0, slots := 0, locals := 0 }
theorem kX6_putFirst {R : Room} {s : State} {args : Array Value} {own : String} {index : Nat} (ht : ∀ w ∈ lw_all, w.before args s = true) (hl : Cond.methodLink own index yX6_putFirst ∈ lw_all) (hf : rmX6_putFirst.frames + 1 ≤ R.frames) (hlo : 8 + (3 + 11) + rmX6_putFirst.locals ≤ R.locals) : CallB R s args own index yX6_putFirst cX6_putFirst 3 none (wA yX6_putFirst cX6_putFirst 3 none) rmX6_putFirst 0 0 2 ∧ (Cond.static yX6_putFirst).before args s = true := va_cwS 2 ht (good_S hl qt_yX6_putFirst qi_RX6 qc_yX6_putFirst) rfl rfl rfl (by decide +kernel) ⟨hf, hlo⟩
theorem kNX6_putFirst {R : Room} {s : State} {args : Array Value} {own : String} {index : Nat} (ht : ∀ w ∈ lw_all, w.before args s = true) (hl : va_Nw (nestW (own, index, yX6_putFirst, RX6)) s) (hf : rmX6_putFirst.frames + 1 ≤ R.frames) (hlo : 8 + (3 + 11) + rmX6_putFirst.locals ≤ R.locals) : va_CN R s args own index yX6_putFirst RX6 cX6_putFirst 3 none (wA yX6_putFirst cX6_putFirst 3 none) rmX6_putFirst 0 0 2 ∧ (Cond.static yX6_putFirst).before args s = true ∧ True := ⟨va_cnB 2 ht (good_wA qc_yX6_putFirst) rfl rfl rfl hl (ht _ qi_RX6) (by decide +kernel) ⟨hf, hlo⟩, ht _ qt_yX6_putFirst, trivial⟩
set_option maxRecDepth 100000 in
set_option maxHeartbeats 4000000 in
theorem met_X6_putFirst (l : Launch) (D : va_G) (ad : Adr) (cy : Nat → ClassId) (S : Mem) (t0 : Nat) (P0 : Nat) (i0 : Nat) (n0 : Nat) (x1 : Int32) {Q : Mem → Prop} (ha0 : iarr t0 P0 i0 n0) (hq : vc_X6_putFirst S t0 P0 i0 n0 x1 Q) : Cv l yX6_putFirst (wA yX6_putFirst cX6_putFirst 3 none) rmX6_putFirst D ad cy (IN [(t0, P0, i0)]) [.ref (ad t0 P0 i0), .int x1] S Q := by
  intro o sz hI
  refine mkC (own := RX6) (lv := [(0, .ref (ad t0 P0 i0)), (1, .int x1)]) (by decide) rfl (Nat.le_of_ble_eq_true rfl) rfl ?_
  intro p e s m below meth c ls hsz hM hlocks hret hK hA hX hl
  have L5 : ∀ {K : Mem → Prop} (hk : ∀ (S : Mem), K S → ∀ (H : Heap) (locs : List Loc) (ls : Array Slot), PW D ad cy (AW ad o sz) s.heap o S H locs → lv_has ls 3 [(0, .ref (ad t0 P0 i0)), (1, .int x1)] → Wv D ad cy o sz Q p l e rmX6_putFirst s m [.ref (ad t0 P0 i0), .int x1] below meth c H locs (F0 m 23 ls [])), ∀ (n : Nat) (S : Mem) (y2 : Int32), vc_X6_putFirst_L5 Q K t0 P0 i0 n0 x1 n S y2 → ∀ (H : Heap) (locs : List Loc) (ls : Array Slot), PW D ad cy (AW ad o sz) s.heap o S H locs → lv_has ls 3 [(0, .ref (ad t0 P0 i0)), (1, .int x1), (2, .int y2)] → Wv D ad cy o sz Q p l e rmX6_putFirst s m [.ref (ad t0 P0 i0), .int x1] below meth c H locs (F0 m 5 ls []) := by
    intro K hk n
    induction n with
    | zero =>
      intro S y2 hq
      rw [vc_X6_putFirst_L5] at hq
      exact hq.elim
    | succ n ih =>
      intro S y2 hq H locs ls hX hl
      rw [vc_X6_putFirst_L5] at hq
      refine lv_iload_n hM.1 hM.2.1 dX6_putFirst_5 rfl (lv_at hl 2 rfl) ?_
      refine lv_if_le (tgt := 23) hM.1 hM.2.1 dX6_putFirst_6 (by decide) (fun c_1 => ?_) (fun c_1 => ?_)
      · replace hq := hq.1 c_1
        exact hk S hq _ _ _ hX (lv_sub hl [0, 1] rfl)
      replace hq := hq.2 c_1
      refine lv_aload_n hM.1 hM.2.1 dX6_putFirst_9 rfl (lv_at hl 0 rfl) ?_
      refine lv_iload_n hM.1 hM.2.1 dX6_putFirst_10 rfl (lv_at hl 2 rfl) ?_
      refine lv_aload_n hM.1 hM.2.1 dX6_putFirst_11 rfl (lv_at hl 0 rfl) ?_
      refine lv_iload_n hM.1 hM.2.1 dX6_putFirst_12 rfl (lv_at hl 2 rfl) ?_
      refine lv_iconst (v := (1 : Int32)) hM.1 hM.2.1 dX6_putFirst_13 (by decide) ?_
      refine lv_isub hM.1 hM.2.1 dX6_putFirst_14 ?_
      have c_2 := hq.1
      replace hq := hq.2
      refine r_iald hM hK hX hI.2.1 (ha0 ad cy) c_2 dX6_putFirst_15 ?_
      have c_4 := hq.1
      replace hq := hq.2
      refine r_iast hM hK hX hI.2.1 (ha0 ad cy) c_4 dX6_putFirst_16 (fun S_3 e_5 H locs hX => ?_)
      replace hq := hq S_3 e_5
      refine lv_iinc (v := (y2 + (-1 : Int32))) (lv' := [(2, .int (y2 + (-1 : Int32))), (0, .ref (ad t0 P0 i0)), (1, .int x1)]) hM.1 hM.2.1 dX6_putFirst_17 hl (k := 2) rfl rfl (by decide) rfl (fun ls hl => ?_)
      refine lv_goto (tgt := 5) hM.1 hM.2.1 dX6_putFirst_20 (by decide) ?_
      exact ih S_3 (y2 + (-1 : Int32)) hq _ _ _ hX (lv_sub hl [1, 2, 0] rfl)
  unfold vc_X6_putFirst at hq
  refine lv_aload_n hM.1 hM.2.1 dX6_putFirst_0 rfl (lv_at hl 0 rfl) ?_
  refine r_alen (v := nI n0) (t0 := 0) hM hK hX hI.2.1 ((ha0 ad cy) _) rfl rfl dX6_putFirst_1 ?_
  refine lv_iconst (v := (1 : Int32)) hM.1 hM.2.1 dX6_putFirst_2 (by decide) ?_
  refine lv_isub hM.1 hM.2.1 dX6_putFirst_3 ?_
  refine lv_istore_n (lv' := [(2, .int ((nI n0) - (1 : Int32))), (0, .ref (ad t0 P0 i0)), (1, .int x1)]) hM.1 hM.2.1 dX6_putFirst_4 rfl hl (by decide) rfl (fun ls hl => ?_)
  obtain ⟨k0, hq⟩ := hq
  refine L5 (fun S_6 hq H locs ls hX hl => ?_) k0 S ((nI n0) - (1 : Int32)) hq _ _ _ hX (lv_sub hl [1, 2, 0] rfl)
  refine lv_aload_n hM.1 hM.2.1 dX6_putFirst_23 rfl (lv_at hl 0 rfl) ?_
  refine r_alen (v := nI n0) (t0 := 0) hM hK hX hI.2.1 ((ha0 ad cy) _) rfl rfl dX6_putFirst_24 ?_
  refine lv_if_le (tgt := 32) hM.1 hM.2.1 dX6_putFirst_25 (by decide) (fun c_7 => ?_) (fun c_7 => ?_)
  · replace hq := hq.1 c_7
    exact e_v hM hX hlocks hret hq dX6_putFirst_32
  replace hq := hq.2 c_7
  refine lv_aload_n hM.1 hM.2.1 dX6_putFirst_28 rfl (lv_at hl 0 rfl) ?_
  refine lv_iconst (v := (0 : Int32)) hM.1 hM.2.1 dX6_putFirst_29 (by decide) ?_
  refine lv_iload_n hM.1 hM.2.1 dX6_putFirst_30 rfl (lv_at hl 1 rfl) ?_
  have c_9 := hq.1
  replace hq := hq.2
  refine r_iast hM hK hX hI.2.1 (ha0 ad cy) c_9 dX6_putFirst_31 (fun S_8 e_10 H locs hX => ?_)
  replace hq := hq S_8 e_10
  exact e_v hM hX hlocks hret hq dX6_putFirst_32
def rmX5_mendedWith : Room := { frames := 1, cells := 0, slots := 0, locals := 21 }
theorem kX5_mendedWith {R : Room} {s : State} {args : Array Value} {own : String} {index : Nat} (ht : ∀ w ∈ lw_all, w.before args s = true) (hl : Cond.methodLink own index yX5_mendedWith ∈ lw_all) (hf : rmX5_mendedWith.frames + 1 ≤ R.frames) (hlo : 8 + (5 + 11) + rmX5_mendedWith.locals ≤ R.locals) : CallW R s args own RX5 index yX5_mendedWith cX5_mendedWith 5 (some Jvm.ClassFile.FieldType.int) (wA yX5_mendedWith cX5_mendedWith 5 (some Jvm.ClassFile.FieldType.int)) rmX5_mendedWith 0 0 1 := cwV 1 ht (good_V hl qm_yX5_mendedWith qs_yX5_mendedWith qi_RX5 qc_yX5_mendedWith) rfl rfl rfl (by decide +kernel) ⟨hf, hlo⟩
set_option maxRecDepth 100000 in
set_option maxHeartbeats 4000000 in
theorem met_X5_mendedWith (l : Launch) (D : va_G) (ad : Adr) (cy : Nat → ClassId) (S : Mem) (P : Nat) (i : Nat) (x1 : Int32) {Q : Mem → Int32 → Prop} (hv : P < 11 ∧ i < 11) (hq : vc_X5_mendedWith S P i x1 Q) : Ci l yX5_mendedWith (wA yX5_mendedWith cX5_mendedWith 5 (some Jvm.ClassFile.FieldType.int)) rmX5_mendedWith D ad cy (IN []) [.ref (ad 5 P i), .int x1] S Q := by
  intro o sz hI
  refine mkC (own := RX5) (lv := [(0, .ref (ad 5 P i)), (1, .int x1)]) (by decide) rfl (Nat.le_of_ble_eq_true rfl) rfl ?_
  intro p e s m below meth c ls hsz hM hlocks hret hK hA hX hl
  unfold vc_X5_mendedWith at hq
  refine lv_aload_n hM.1 hM.2.1 dX5_mendedWith_0 rfl (lv_at hl 0 rfl) ?_
  refine g5 hM hK hX (hI.1 _ (id_T hv).1) 2 (by decide) qf_RX5_45 rfl dX5_mendedWith_1 ?_
  refine lv_if_ne (tgt := 10) hM.1 hM.2.1 dX5_mendedWith_4 (by decide) (fun c_1 => ?_) (fun c_1 => ?_)
  · replace hq := hq.1 c_1
    refine lv_aload_n hM.1 hM.2.1 dX5_mendedWith_10 rfl (lv_at hl 0 rfl) ?_
    refine g5 hM hK hX (hI.1 _ (id_T hv).1) 1 (by decide) qf_RX5_15 rfl dX5_mendedWith_11 ?_
    refine lv_iconst (v := (0 : Int32)) hM.1 hM.2.1 dX5_mendedWith_14 (by decide) ?_
    refine cSNi (As := [.ref (ad 7 P i), .int (0 : Int32)]) hM hK hX ⟨hI.1, (hI.1 _ (id_T hv).2.2), trivial⟩ hA (met_X6_entry l D ad cy S 7 P i 6 (0 : Int32) (fun _ _ => (a7 P i)) hq) (kNX6_entry hM.2.2.2.2 (hK.2 _ ql_RX5_80) (Nat.le_of_ble_eq_true rfl) (Nat.le_of_ble_eq_true rfl)) rfl hl.1 rfl (Nat.le_of_ble_eq_true rfl) dX5_mendedWith_15 ⟨Nat.zero_le _, Nat.zero_le _⟩ (fun S_2 r_3 hq H locs hX => ?_)
    refine lv_istore_n (lv' := [(2, .int r_3), (0, .ref (ad 5 P i)), (1, .int x1)]) hM.1 hM.2.1 dX5_mendedWith_18 rfl hl (by decide) rfl (fun ls hl => ?_)
    refine lv_aload_n hM.1 hM.2.1 dX5_mendedWith_19 rfl (lv_at hl 1 rfl) ?_
    refine g5 hM hK hX (hI.1 _ (id_T hv).1) 2 (by decide) qf_RX5_45 rfl dX5_mendedWith_20 ?_
    refine lv_iconst (v := (1 : Int32)) hM.1 hM.2.1 dX5_mendedWith_23 (by decide) ?_
    refine lv_icmp_ne (tgt := 34) hM.1 hM.2.1 dX5_mendedWith_24 (by decide) (fun c_4 => ?_) (fun c_4 => ?_)
    · replace hq := hq.1 c_4
      refine lv_iload_n hM.1 hM.2.1 dX5_mendedWith_34 rfl (lv_at hl 0 rfl) ?_
      refine lv_aload_n hM.1 hM.2.1 dX5_mendedWith_35 rfl (lv_at hl 1 rfl) ?_
      refine g5 hM hK hX (hI.1 _ (id_T hv).1) 1 (by decide) qf_RX5_15 rfl dX5_mendedWith_36 ?_
      refine lv_iconst (v := (1 : Int32)) hM.1 hM.2.1 dX5_mendedWith_39 (by decide) ?_
      refine cSNi (As := [.ref (ad 7 P i), .int (1 : Int32)]) hM hK hX ⟨hI.1, (hI.1 _ (id_T hv).2.2), trivial⟩ hA (met_X6_entry l D ad cy S_2 7 P i 6 (1 : Int32) (fun _ _ => (a7 P i)) hq) (kNX6_entry hM.2.2.2.2 (hK.2 _ ql_RX5_80) (Nat.le_of_ble_eq_true rfl) (Nat.le_of_ble_eq_true rfl)) rfl hl.1 rfl (Nat.le_of_ble_eq_true rfl) dX5_mendedWith_40 ⟨Nat.zero_le _, Nat.zero_le _⟩ (fun S_5 r_6 hq H locs hX => ?_)
      refine lv_isub hM.1 hM.2.1 dX5_mendedWith_43 ?_
      refine lv_istore_n (lv' := [(3, .int (r_3 - r_6)), (2, .int r_3), (0, .ref (ad 5 P i)), (1, .int x1)]) hM.1 hM.2.1 dX5_mendedWith_44 rfl hl (by decide) rfl (fun ls hl => ?_)
      refine lv_aload_n hM.1 hM.2.1 dX5_mendedWith_45 rfl (lv_at hl 2 rfl) ?_
      refine g5 hM hK hX (hI.1 _ (id_T hv).1) 0 (by decide) qf_RX5_9 rfl dX5_mendedWith_46 ?_
      refine lv_iconst (v := (0 : Int32)) hM.1 hM.2.1 dX5_mendedWith_49 (by decide) ?_
      refine cSNi (As := [.ref (ad 6 P i), .int (0 : Int32)]) hM hK hX ⟨hI.1, (hI.1 _ (id_T hv).2.1), trivial⟩ hA (met_X6_entry l D ad cy S_5 6 P i 6 (0 : Int32) (fun _ _ => (a6 P i)) hq) (kNX6_entry hM.2.2.2.2 (hK.2 _ ql_RX5_80) (Nat.le_of_ble_eq_true rfl) (Nat.le_of_ble_eq_true rfl)) rfl hl.1 rfl (Nat.le_of_ble_eq_true rfl) dX5_mendedWith_50 ⟨Nat.zero_le _, Nat.zero_le _⟩ (fun S_7 r_8 hq H locs hX => ?_)
      refine lv_aload_n hM.1 hM.2.1 dX5_mendedWith_53 rfl (lv_at hl 2 rfl) ?_
      refine g5 hM hK hX (hI.1 _ (id_T hv).1) 0 (by decide) qf_RX5_9 rfl dX5_mendedWith_54 ?_
      refine lv_iconst (v := (1 : Int32)) hM.1 hM.2.1 dX5_mendedWith_57 (by decide) ?_
      refine cSNi (As := [.ref (ad 6 P i), .int (1 : Int32)]) hM hK hX ⟨hI.1, (hI.1 _ (id_T hv).2.1), trivial⟩ hA (met_X6_entry l D ad cy S_7 6 P i 6 (1 : Int32) (fun _ _ => (a6 P i)) hq) (kNX6_entry hM.2.2.2.2 (hK.2 _ ql_RX5_80) (Nat.le_of_ble_eq_true rfl) (Nat.le_of_ble_eq_true rfl)) rfl hl.1 rfl (Nat.le_of_ble_eq_true rfl) dX5_mendedWith_58 ⟨Nat.zero_le _, Nat.zero_le _⟩ (fun S_9 r_10 hq H locs hX => ?_)
      refine lv_isub hM.1 hM.2.1 dX5_mendedWith_61 ?_
      refine lv_istore (lv' := [(4, .int (r_8 - r_10)), (3, .int (r_3 - r_6)), (2, .int r_3), (0, .ref (ad 5 P i)), (1, .int x1)]) hM.1 hM.2.1 dX5_mendedWith_62 hl (by decide) rfl (fun ls hl => ?_)
      refine lv_iload_n hM.1 hM.2.1 dX5_mendedWith_64 rfl (lv_at hl 2 rfl) ?_
      refine lv_iload_n hM.1 hM.2.1 dX5_mendedWith_65 rfl (lv_at hl 1 rfl) ?_
      refine lv_iload_n hM.1 hM.2.1 dX5_mendedWith_66 rfl (lv_at hl 4 rfl) ?_
      refine lv_iconst (v := (1 : Int32)) hM.1 hM.2.1 dX5_mendedWith_67 (by decide) ?_
      refine lv_isub hM.1 hM.2.1 dX5_mendedWith_68 ?_
      refine lv_imul hM.1 hM.2.1 dX5_mendedWith_69 ?_
      refine lv_iload hM.1 hM.2.1 dX5_mendedWith_70 (lv_at hl 0 rfl) ?_
      refine cSNi (As := [.int ((r_3 - r_6) * (x1 - (1 : Int32))), .int (r_8 - r_10)]) hM hK hX ⟨hI.1, trivial⟩ hA (met_X6_quotient l D ad cy S_9 ((r_3 - r_6) * (x1 - (1 : Int32))) (r_8 - r_10) hq) (kNX6_quotient hM.2.2.2.2 (hK.2 _ ql_RX5_63) (Nat.le_of_ble_eq_true rfl) (Nat.le_of_ble_eq_true rfl)) rfl hl.1 rfl (Nat.le_of_ble_eq_true rfl) dX5_mendedWith_72 ⟨Nat.zero_le _, Nat.zero_le _⟩ (fun S_11 r_12 hq H locs hX => ?_)
      refine lv_iadd hM.1 hM.2.1 dX5_mendedWith_75 ?_
      refine lv_aload_n hM.1 hM.2.1 dX5_mendedWith_76 rfl (lv_at hl 3 rfl) ?_
      refine g5 hM hK hX (hI.1 _ (id_T hv).1) 4 (by decide) qf_RX5_32 rfl dX5_mendedWith_77 ?_
      refine lv_isub hM.1 hM.2.1 dX5_mendedWith_80 ?_
      exact e_i hM hX hlocks hret hq dX5_mendedWith_81
    replace hq := hq.2 c_4
    refine lv_iload_n hM.1 hM.2.1 dX5_mendedWith_27 rfl (lv_at hl 0 rfl) ?_
    refine lv_aload_n hM.1 hM.2.1 dX5_mendedWith_28 rfl (lv_at hl 1 rfl) ?_
    refine g5 hM hK hX (hI.1 _ (id_T hv).1) 4 (by decide) qf_RX5_32 rfl dX5_mendedWith_29 ?_
    refine lv_isub hM.1 hM.2.1 dX5_mendedWith_32 ?_
    exact e_i hM hX hlocks hret hq dX5_mendedWith_33
  replace hq := hq.2 c_1
  refine lv_ldc hM.1 hM.2.1 hM.2.2.2.1 (hM.2.2.2.2 _ qn_RX5_25) dX5_mendedWith_7 ?_
  exact e_i hM hX hlocks hret hq dX5_mendedWith_9
def rmX5_takeReading : Room := { frames := 2, cells := 0, slots := 0, locals := 45 }
theorem kX5_takeReading {R : Room} {s : State} {args : Array Value} {own : String} {index : Nat} (ht : ∀ w ∈ lw_all, w.before args s = true) (hl : Cond.methodLink own index yX5_takeReading ∈ lw_all) (hf : rmX5_takeReading.frames + 1 ≤ R.frames) (hlo : 8 + (2 + 11) + rmX5_takeReading.locals ≤ R.locals) : CallW R s args own RX5 index yX5_takeReading cX5_takeReading 2 none (wA yX5_takeReading cX5_takeReading 2 none) rmX5_takeReading 0 0 1 := cwV 1 ht (good_V hl qm_yX5_takeReading qs_yX5_takeReading qi_RX5 qc_yX5_takeReading) rfl rfl rfl (by decide +kernel) ⟨hf, hlo⟩
set_option maxRecDepth 100000 in
set_option maxHeartbeats 4000000 in
theorem met_X5_takeReading (l : Launch) (D : va_G) (ad : Adr) (cy : Nat → ClassId) (S : Mem) (P : Nat) (i : Nat) (x1 : Int32) {Q : Mem → Prop} (hv : P < 11 ∧ i < 11) (hq : vc_X5_takeReading S P i x1 Q) : Cv l yX5_takeReading (wA yX5_takeReading cX5_takeReading 2 none) rmX5_takeReading D ad cy (IN []) [.ref (ad 5 P i), .int x1] S Q := by
  intro o sz hI
  refine mkC (own := RX5) (lv := [(0, .ref (ad 5 P i)), (1, .int x1)]) (by decide) rfl (Nat.le_of_ble_eq_true rfl) rfl ?_
  intro p e s m below meth c ls hsz hM hlocks hret hK hA hX hl
  unfold vc_X5_takeReading at hq
  refine lv_aload_n hM.1 hM.2.1 dX5_takeReading_0 rfl (lv_at hl 0 rfl) ?_
  refine g5 hM hK hX (hI.1 _ (id_T hv).1) 0 (by decide) qf_RX5_9 rfl dX5_takeReading_1 ?_
  refine lv_iload_n hM.1 hM.2.1 dX5_takeReading_4 rfl (lv_at hl 1 rfl) ?_
  refine cSNv (As := [.ref (ad 6 P i), .int x1]) hM hK hX ⟨hI.1, (hI.1 _ (id_T hv).2.1), trivial⟩ hA (met_X6_putFirst l D ad cy S 6 P i 6 x1 (fun _ _ => (a6 P i)) hq) (kNX6_putFirst hM.2.2.2.2 (hK.2 _ ql_RX5_67) (Nat.le_of_ble_eq_true rfl) (Nat.le_of_ble_eq_true rfl)) rfl hl.1 rfl (Nat.le_of_ble_eq_true rfl) dX5_takeReading_5 ⟨Nat.zero_le _, Nat.zero_le _⟩ (fun S_1 hq H locs hX => ?_)
  refine lv_aload_n hM.1 hM.2.1 dX5_takeReading_8 rfl (lv_at hl 0 rfl) ?_
  refine g5 hM hK hX (hI.1 _ (id_T hv).1) 1 (by decide) qf_RX5_15 rfl dX5_takeReading_9 ?_
  refine lv_aload_n hM.1 hM.2.1 dX5_takeReading_12 rfl (lv_at hl 0 rfl) ?_
  refine g5 hM hK hX (hI.1 _ (id_T hv).1) 7 (by decide) qf_RX5_42 rfl dX5_takeReading_13 ?_
  refine cSNv (As := [.ref (ad 7 P i), .int (S_1 5 P i 7)]) hM hK hX ⟨hI.1, (hI.1 _ (id_T hv).2.2), trivial⟩ hA (met_X6_putFirst l D ad cy S_1 7 P i 6 (S_1 5 P i 7) (fun _ _ => (a7 P i)) hq) (kNX6_putFirst hM.2.2.2.2 (hK.2 _ ql_RX5_67) (Nat.le_of_ble_eq_true rfl) (Nat.le_of_ble_eq_true rfl)) rfl hl.1 rfl (Nat.le_of_ble_eq_true rfl) dX5_takeReading_16 ⟨Nat.zero_le _, Nat.zero_le _⟩ (fun S_2 hq H locs hX => ?_)
  refine lv_aload_n hM.1 hM.2.1 dX5_takeReading_19 rfl (lv_at hl 0 rfl) ?_
  refine lv_aload_n hM.1 hM.2.1 dX5_takeReading_20 rfl (lv_at hl 0 rfl) ?_
  refine g5 hM hK hX (hI.1 _ (id_T hv).1) 2 (by decide) qf_RX5_45 rfl dX5_takeReading_21 ?_
  refine lv_iconst (v := (1 : Int32)) hM.1 hM.2.1 dX5_takeReading_24 (by decide) ?_
  refine lv_iadd hM.1 hM.2.1 dX5_takeReading_25 ?_
  refine lv_bipush (v := (6 : Int32)) hM.1 hM.2.1 dX5_takeReading_26 (by decide) ?_
  refine r_min hM hl.1 ql_RX5_71 (Nat.le_of_ble_eq_true rfl) (Nat.le_of_ble_eq_true rfl) (Nat.le_of_ble_eq_true rfl) (Nat.le_of_ble_eq_true rfl) dX5_takeReading_28 ?_
  refine p5_2 hM hK hX (hI.1 _ (id_T hv).1) qf_RX5_45 dX5_takeReading_31 (fun S_3 e_4 H locs hX => ?_)
  replace hq := hq S_3 e_4
  refine lv_aload_n hM.1 hM.2.1 dX5_takeReading_34 rfl (lv_at hl 0 rfl) ?_
  refine lv_aload_n hM.1 hM.2.1 dX5_takeReading_35 rfl (lv_at hl 0 rfl) ?_
  refine lv_aload_n hM.1 hM.2.1 dX5_takeReading_36 rfl (lv_at hl 0 rfl) ?_
  refine g5 hM hK hX (hI.1 _ (id_T hv).1) 3 (by decide) qf_RX5_18 rfl dX5_takeReading_37 ?_
  refine cVi (As := [.int (S_3 5 P i 3)]) hM hK hX ⟨hI.1, trivial⟩ hA (met_X5_mendedWith l D ad cy S_3 P i (S_3 5 P i 3) hv hq) (kX5_mendedWith hM.2.2.2.2 ql_RX5_76 (Nat.le_of_ble_eq_true rfl) (Nat.le_of_ble_eq_true rfl)) (v5 hK hX (hI.1 _ (id_T hv).1)) rfl hl.1 rfl (Nat.le_of_ble_eq_true rfl) dX5_takeReading_40 ⟨Nat.zero_le _, Nat.zero_le _⟩ (fun S_5 r_6 hq H locs hX => ?_)
  refine p5_11 hM hK hX (hI.1 _ (id_T hv).1) qf_RX5_26 dX5_takeReading_43 (fun S_7 e_8 H locs hX => ?_)
  replace hq := hq S_7 e_8
  exact e_v hM hX hlocks hret hq dX5_takeReading_46
def rmX3_readRows : Room := { frames := 3, cells := 0, slots := 0, locals := 66 }
theorem kX3_readRows {R : Room} {s : State} {args : Array Value} {own : String} {index : Nat} (ht : ∀ w ∈ lw_all, w.before args s = true) (hl : Cond.methodLink own index yX3_readRows ∈ lw_all) (hf : rmX3_readRows.frames + 1 ≤ R.frames) (hlo : 8 + (2 + 11) + rmX3_readRows.locals ≤ R.locals) : CallW R s args own RX3 index yX3_readRows cX3_readRows 2 none (wA yX3_readRows cX3_readRows 2 none) rmX3_readRows 0 0 0 := cwV 0 ht (good_V hl qm_yX3_readRows qs_yX3_readRows qi_RX3 qc_yX3_readRows) rfl rfl rfl (by decide +kernel) ⟨hf, hlo⟩
set_option maxRecDepth 100000 in
set_option maxHeartbeats 4000000 in
theorem met_X3_readRows (l : Launch) (D : va_G) (ad : Adr) (cy : Nat → ClassId) (S : Mem) (P : Nat) {Q : Mem → Prop} (hv : P < 11) (hq : vc_X3_readRows S P Q) : Cv l yX3_readRows (wA yX3_readRows cX3_readRows 2 none) rmX3_readRows D ad cy (IN []) [.ref (ad 3 P 0)] S Q := by
  intro o sz hI
  refine mkC (own := RX3) (lv := [(0, .ref (ad 3 P 0))]) (by decide) rfl (Nat.le_of_ble_eq_true rfl) rfl ?_
  intro p e s m below meth c ls hsz hM hlocks hret hK hA hX hl
  have J29 : ∀ {K0 : Mem → Int32 → Prop} (hk0 : ∀ (S : Mem) (y1 : Int32), K0 S y1 → ∀ (H : Heap) (locs : List Loc) (ls : Array Slot), PW D ad cy (AW ad o sz) s.heap o S H locs → lv_has ls 2 [(0, .ref (ad 3 P 0)), (1, .int y1)] → Wv D ad cy o sz Q p l e rmX3_readRows s m [.ref (ad 3 P 0)] below meth c H locs (F0 m 2 ls [])), ∀ {K1 : Mem → Prop} (hk1 : ∀ (S : Mem), K1 S → ∀ (H : Heap) (locs : List Loc) (ls : Array Slot), PW D ad cy (AW ad o sz) s.heap o S H locs → lv_has ls 2 [(0, .ref (ad 3 P 0))] → Wv D ad cy o sz Q p l e rmX3_readRows s m [.ref (ad 3 P 0)] below meth c H locs (F0 m 35 ls [])), ∀ (S : Mem) (y1 : Int32), vc_X3_readRows_J29 Q K0 K1 P S y1 → ∀ (H : Heap) (locs : List Loc) (ls : Array Slot), PW D ad cy (AW ad o sz) s.heap o S H locs → lv_has ls 2 [(0, .ref (ad 3 P 0)), (1, .int y1)] → Wv D ad cy o sz Q p l e rmX3_readRows s m [.ref (ad 3 P 0)] below meth c H locs (F0 m 29 ls []) := by
    intro K0 hk0 K1 hk1 S y1 hq H locs ls hX hl
    unfold vc_X3_readRows_J29 at hq
    refine lv_iinc (v := (y1 + (1 : Int32))) (lv' := [(1, .int (y1 + (1 : Int32))), (0, .ref (ad 3 P 0))]) hM.1 hM.2.1 dX3_readRows_29 hl (k := 1) rfl rfl (by decide) rfl (fun ls hl => ?_)
    refine lv_goto (tgt := 2) hM.1 hM.2.1 dX3_readRows_32 (by decide) ?_
    exact hk0 S (y1 + (1 : Int32)) hq _ _ _ hX (lv_sub hl [1, 0] rfl)
  have L2 : ∀ {K : Mem → Prop} (hk : ∀ (S : Mem), K S → ∀ (H : Heap) (locs : List Loc) (ls : Array Slot), PW D ad cy (AW ad o sz) s.heap o S H locs → lv_has ls 2 [(0, .ref (ad 3 P 0))] → Wv D ad cy o sz Q p l e rmX3_readRows s m [.ref (ad 3 P 0)] below meth c H locs (F0 m 35 ls [])), ∀ (n : Nat) (S : Mem) (y1 : Int32), vc_X3_readRows_L2 Q K P n S y1 → ∀ (H : Heap) (locs : List Loc) (ls : Array Slot), PW D ad cy (AW ad o sz) s.heap o S H locs → lv_has ls 2 [(0, .ref (ad 3 P 0)), (1, .int y1)] → Wv D ad cy o sz Q p l e rmX3_readRows s m [.ref (ad 3 P 0)] below meth c H locs (F0 m 2 ls []) := by
    intro K hk n
    induction n with
    | zero =>
      intro S y1 hq
      rw [vc_X3_readRows_L2] at hq
      exact hq.elim
    | succ n ih =>
      intro S y1 hq H locs ls hX hl
      rw [vc_X3_readRows_L2] at hq
      refine lv_iload_n hM.1 hM.2.1 dX3_readRows_2 rfl (lv_at hl 1 rfl) ?_
      refine lv_aload_n hM.1 hM.2.1 dX3_readRows_3 rfl (lv_at hl 0 rfl) ?_
      refine g3 hM hK hX (hI.1 _ (id_P hv).2.1) 3 (by decide) qf_RX3_26 rfl dX3_readRows_4 ?_
      refine r_alen (v := (4 : Int32)) (t0 := 0) hM hK hX (hI.1 _ (id_P hv).2.2.2.2.2) rfl rfl rfl dX3_readRows_7 ?_
      refine lv_icmp_ge (tgt := 35) hM.1 hM.2.1 dX3_readRows_8 (by decide) (fun c_1 => ?_) (fun c_1 => ?_)
      · replace hq := hq.1 c_1
        exact hk S hq _ _ _ hX (lv_sub hl [0] rfl)
      replace hq := hq.2 c_1
      refine lv_aload_n hM.1 hM.2.1 dX3_readRows_11 rfl (lv_at hl 0 rfl) ?_
      refine lv_iload_n hM.1 hM.2.1 dX3_readRows_12 rfl (lv_at hl 1 rfl) ?_
      refine cVi (As := [.int y1]) hM hK hX ⟨hI.1, trivial⟩ hA (met_X3_isReadNow l D ad cy S P y1 hv hq) (kX3_isReadNow hM.2.2.2.2 ql_RX3_118 (Nat.le_of_ble_eq_true rfl) (Nat.le_of_ble_eq_true rfl)) (v3 hK hX (hI.1 _ (id_P hv).2.1)) rfl hl.1 rfl (Nat.le_of_ble_eq_true rfl) dX3_readRows_13 ⟨Nat.zero_le _, Nat.zero_le _⟩ (fun S_2 r_3 hq H locs hX => ?_)
      refine lv_if_eq (tgt := 29) hM.1 hM.2.1 dX3_readRows_16 (by decide) (fun c_4 => ?_) (fun c_4 => ?_)
      · replace hq := hq.1 c_4
        exact J29 ih hk S_2 y1 hq _ _ _ hX (lv_sub hl [0, 1] rfl)
      replace hq := hq.2 c_4
      refine lv_aload_n hM.1 hM.2.1 dX3_readRows_19 rfl (lv_at hl 0 rfl) ?_
      refine g3 hM hK hX (hI.1 _ (id_P hv).2.1) 3 (by decide) qf_RX3_26 rfl dX3_readRows_20 ?_
      refine lv_iload_n hM.1 hM.2.1 dX3_readRows_23 rfl (lv_at hl 1 rfl) ?_
      refine lv_dup2_11 hM.1 hM.2.1 dX3_readRows_24 rfl rfl ?_
      have c_5 := hq.1
      replace hq := hq.2
      refine r_iald hM hK hX (hI.1 _ (id_P hv).2.2.2.2.2) (a13 P 0) c_5 dX3_readRows_25 ?_
      refine lv_iconst (v := (1 : Int32)) hM.1 hM.2.1 dX3_readRows_26 (by decide) ?_
      refine lv_iadd hM.1 hM.2.1 dX3_readRows_27 ?_
      have c_7 := hq.1
      replace hq := hq.2
      refine r_iast hM hK hX (hI.1 _ (id_P hv).2.2.2.2.2) (a13 P 0) c_7 dX3_readRows_28 (fun S_6 e_8 H locs hX => ?_)
      replace hq := hq S_6 e_8
      exact J29 ih hk S_6 y1 hq _ _ _ hX (lv_sub hl [0, 1] rfl)
  have J82 : ∀ {K0 : Mem → Int32 → Prop} (hk0 : ∀ (S : Mem) (y1 : Int32), K0 S y1 → ∀ (H : Heap) (locs : List Loc) (ls : Array Slot), PW D ad cy (AW ad o sz) s.heap o S H locs → lv_has ls 2 [(0, .ref (ad 3 P 0)), (1, .int y1)] → Wv D ad cy o sz Q p l e rmX3_readRows s m [.ref (ad 3 P 0)] below meth c H locs (F0 m 37 ls [])), ∀ {K1 : Mem → Prop} (hk1 : ∀ (S : Mem), K1 S → ∀ (H : Heap) (locs : List Loc) (ls : Array Slot), PW D ad cy (AW ad o sz) s.heap o S H locs → lv_has ls 2 [] → Wv D ad cy o sz Q p l e rmX3_readRows s m [.ref (ad 3 P 0)] below meth c H locs (F0 m 88 ls [])), ∀ (S : Mem) (y1 : Int32), vc_X3_readRows_J82 Q K0 K1 P S y1 → ∀ (H : Heap) (locs : List Loc) (ls : Array Slot), PW D ad cy (AW ad o sz) s.heap o S H locs → lv_has ls 2 [(0, .ref (ad 3 P 0)), (1, .int y1)] → Wv D ad cy o sz Q p l e rmX3_readRows s m [.ref (ad 3 P 0)] below meth c H locs (F0 m 82 ls []) := by
    intro K0 hk0 K1 hk1 S y1 hq H locs ls hX hl
    unfold vc_X3_readRows_J82 at hq
    refine lv_iinc (v := (y1 + (1 : Int32))) (lv' := [(1, .int (y1 + (1 : Int32))), (0, .ref (ad 3 P 0))]) hM.1 hM.2.1 dX3_readRows_82 hl (k := 1) rfl rfl (by decide) rfl (fun ls hl => ?_)
    refine lv_goto (tgt := 37) hM.1 hM.2.1 dX3_readRows_85 (by decide) ?_
    exact hk0 S (y1 + (1 : Int32)) hq _ _ _ hX (lv_sub hl [1, 0] rfl)
  have L37 : ∀ {K : Mem → Prop} (hk : ∀ (S : Mem), K S → ∀ (H : Heap) (locs : List Loc) (ls : Array Slot), PW D ad cy (AW ad o sz) s.heap o S H locs → lv_has ls 2 [] → Wv D ad cy o sz Q p l e rmX3_readRows s m [.ref (ad 3 P 0)] below meth c H locs (F0 m 88 ls [])), ∀ (n : Nat) (S : Mem) (y1 : Int32), vc_X3_readRows_L37 Q K P n S y1 → ∀ (H : Heap) (locs : List Loc) (ls : Array Slot), PW D ad cy (AW ad o sz) s.heap o S H locs → lv_has ls 2 [(0, .ref (ad 3 P 0)), (1, .int y1)] → Wv D ad cy o sz Q p l e rmX3_readRows s m [.ref (ad 3 P 0)] below meth c H locs (F0 m 37 ls []) := by
    intro K hk n
    induction n with
    | zero =>
      intro S y1 hq
      rw [vc_X3_readRows_L37] at hq
      exact hq.elim
    | succ n ih =>
      intro S y1 hq H locs ls hX hl
      rw [vc_X3_readRows_L37] at hq
      refine lv_iload_n hM.1 hM.2.1 dX3_readRows_37 rfl (lv_at hl 1 rfl) ?_
      refine lv_aload_n hM.1 hM.2.1 dX3_readRows_38 rfl (lv_at hl 0 rfl) ?_
      refine g3 hM hK hX (hI.1 _ (id_P hv).2.1) 6 (by decide) qf_RX3_50 rfl dX3_readRows_39 ?_
      refine lv_icmp_ge (tgt := 88) hM.1 hM.2.1 dX3_readRows_42 (by decide) (fun c_10 => ?_) (fun c_10 => ?_)
      · replace hq := hq.1 c_10
        exact hk S hq _ _ _ hX (lv_sub hl [] rfl)
      replace hq := hq.2 c_10
      refine lv_aload_n hM.1 hM.2.1 dX3_readRows_45 rfl (lv_at hl 0 rfl) ?_
      refine lv_aload_n hM.1 hM.2.1 dX3_readRows_46 rfl (lv_at hl 0 rfl) ?_
      refine lv_iload_n hM.1 hM.2.1 dX3_readRows_47 rfl (lv_at hl 1 rfl) ?_
      refine cVr (As := [.int y1]) hM hK hX ⟨hI.1, trivial⟩ hA (met_X3_at l D ad cy S P y1 hv hq) (kX3_at hM.2.2.2.2 ql_RX3_53 (Nat.le_of_ble_eq_true rfl) (Nat.le_of_ble_eq_true rfl)) (v3 hK hX (hI.1 _ (id_P hv).2.1)) rfl hl.1 rfl (Nat.le_of_ble_eq_true rfl) dX3_readRows_48 ⟨Nat.zero_le _, Nat.zero_le _⟩ (fun S_11 P_12 i_13 hq H locs hX => ?_)
      have hT_14 := hq.1
      replace hq := hq.2
      refine g5 hM hK hX (hI.1 _ (id_T hT_14).1) 5 (by decide) qf_RX3_90 rfl dX3_readRows_51 ?_
      refine cVi (As := [.int (S_11 5 P_12 i_13 5)]) hM hK hX ⟨hI.1, trivial⟩ hA (met_X3_isReadNow l D ad cy S_11 P (S_11 5 P_12 i_13 5) hv hq) (kX3_isReadNow hM.2.2.2.2 ql_RX3_118 (Nat.le_of_ble_eq_true rfl) (Nat.le_of_ble_eq_true rfl)) (v3 hK hX (hI.1 _ (id_P hv).2.1)) rfl hl.1 rfl (Nat.le_of_ble_eq_true rfl) dX3_readRows_54 ⟨Nat.zero_le _, Nat.zero_le _⟩ (fun S_15 r_16 hq H locs hX => ?_)
      refine lv_if_eq (tgt := 82) hM.1 hM.2.1 dX3_readRows_57 (by decide) (fun c_17 => ?_) (fun c_17 => ?_)
      · replace hq := hq.1 c_17
        exact J82 ih hk S_15 y1 hq _ _ _ hX (lv_sub hl [0, 1] rfl)
      replace hq := hq.2 c_17
      refine lv_aload_n hM.1 hM.2.1 dX3_readRows_60 rfl (lv_at hl 0 rfl) ?_
      refine lv_iload_n hM.1 hM.2.1 dX3_readRows_61 rfl (lv_at hl 1 rfl) ?_
      refine cVr (As := [.int y1]) hM hK hX ⟨hI.1, trivial⟩ hA (met_X3_at l D ad cy S_15 P y1 hv hq) (kX3_at hM.2.2.2.2 ql_RX3_53 (Nat.le_of_ble_eq_true rfl) (Nat.le_of_ble_eq_true rfl)) (v3 hK hX (hI.1 _ (id_P hv).2.1)) rfl hl.1 rfl (Nat.le_of_ble_eq_true rfl) dX3_readRows_62 ⟨Nat.zero_le _, Nat.zero_le _⟩ (fun S_18 P_19 i_20 hq H locs hX => ?_)
      refine lv_aload_n hM.1 hM.2.1 dX3_readRows_65 rfl (lv_at hl 0 rfl) ?_
      refine g3 hM hK hX (hI.1 _ (id_P hv).2.1) 7 (by decide) qf_RX3_65 rfl dX3_readRows_66 ?_
      have hT_21 := hq.1
      replace hq := hq.2
      refine cVv (As := [.int (S_18 3 P 0 7)]) hM hK hX ⟨hI.1, trivial⟩ hA (met_X5_takeReading l D ad cy S_18 P_19 i_20 (S_18 3 P 0 7) hT_21 hq) (kX5_takeReading hM.2.2.2.2 ql_RX3_122 (Nat.le_of_ble_eq_true rfl) (Nat.le_of_ble_eq_true rfl)) (v5 hK hX (hI.1 _ (id_T hT_21).1)) rfl hl.1 rfl (Nat.le_of_ble_eq_true rfl) dX3_readRows_69 ⟨Nat.zero_le _, Nat.zero_le _⟩ (fun S_22 hq H locs hX => ?_)
      refine lv_aload_n hM.1 hM.2.1 dX3_readRows_72 rfl (lv_at hl 0 rfl) ?_
      refine lv_dup hM.1 hM.2.1 dX3_readRows_73 rfl ?_
      refine g3 hM hK hX (hI.1 _ (id_P hv).2.1) 9 (by decide) qf_RX3_68 rfl dX3_readRows_74 ?_
      refine lv_iconst (v := (1 : Int32)) hM.1 hM.2.1 dX3_readRows_77 (by decide) ?_
      refine lv_iadd hM.1 hM.2.1 dX3_readRows_78 ?_
      refine p3_9 hM hK hX (hI.1 _ (id_P hv).2.1) qf_RX3_68 dX3_readRows_79 (fun S_23 e_24 H locs hX => ?_)
      replace hq := hq S_23 e_24
      exact J82 ih hk S_23 y1 hq _ _ _ hX (lv_sub hl [0, 1] rfl)
  unfold vc_X3_readRows at hq
  refine lv_iconst (v := (0 : Int32)) hM.1 hM.2.1 dX3_readRows_0 (by decide) ?_
  refine lv_istore_n (lv' := [(1, .int (0 : Int32)), (0, .ref (ad 3 P 0))]) hM.1 hM.2.1 dX3_readRows_1 rfl hl (by decide) rfl (fun ls hl => ?_)
  obtain ⟨k0, hq⟩ := hq
  refine L2 (fun S_9 hq H locs ls hX hl => ?_) k0 S (0 : Int32) hq _ _ _ hX (lv_sub hl [1, 0] rfl)
  refine lv_iconst (v := (0 : Int32)) hM.1 hM.2.1 dX3_readRows_35 (by decide) ?_
  refine lv_istore_n (lv' := [(1, .int (0 : Int32)), (0, .ref (ad 3 P 0))]) hM.1 hM.2.1 dX3_readRows_36 rfl hl (by decide) rfl (fun ls hl => ?_)
  obtain ⟨k0, hq⟩ := hq
  refine L37 (fun S_25 hq H locs ls hX hl => ?_) k0 S_9 (0 : Int32) hq _ _ _ hX (lv_sub hl [1, 0] rfl)
  exact e_v hM hX hlocks hret hq dX3_readRows_88
def rmX3_maskOfAsked : Room := { frames := 1, cells := 0, slots := 0, locals := 22 }
theorem kX3_maskOfAsked {R : Room} {s : State} {args : Array Value} {own : String} {index : Nat} (ht : ∀ w ∈ lw_all, w.before args s = true) (hl : Cond.methodLink own index yX3_maskOfAsked ∈ lw_all) (hf : rmX3_maskOfAsked.frames + 1 ≤ R.frames) (hlo : 8 + (3 + 11) + rmX3_maskOfAsked.locals ≤ R.locals) : CallW R s args own RX3 index yX3_maskOfAsked cX3_maskOfAsked 3 (some Jvm.ClassFile.FieldType.int) (wA yX3_maskOfAsked cX3_maskOfAsked 3 (some Jvm.ClassFile.FieldType.int)) rmX3_maskOfAsked 0 0 0 := cwV 0 ht (good_V hl qm_yX3_maskOfAsked qs_yX3_maskOfAsked qi_RX3 qc_yX3_maskOfAsked) rfl rfl rfl (by decide +kernel) ⟨hf, hlo⟩
set_option maxRecDepth 100000 in
set_option maxHeartbeats 4000000 in
theorem met_X3_maskOfAsked (l : Launch) (D : va_G) (ad : Adr) (cy : Nat → ClassId) (S : Mem) (P : Nat) {Q : Mem → Int32 → Prop} (hv : P < 11) (hq : vc_X3_maskOfAsked S P Q) : Ci l yX3_maskOfAsked (wA yX3_maskOfAsked cX3_maskOfAsked 3 (some Jvm.ClassFile.FieldType.int)) rmX3_maskOfAsked D ad cy (IN []) [.ref (ad 3 P 0)] S Q := by
  intro o sz hI
  refine mkC (own := RX3) (lv := [(0, .ref (ad 3 P 0))]) (by decide) rfl (Nat.le_of_ble_eq_true rfl) rfl ?_
  intro p e s m below meth c ls hsz hM hlocks hret hK hA hX hl
  have J29 : ∀ {K0 : Mem → Int32 → Int32 → Prop} (hk0 : ∀ (S : Mem) (y1 : Int32) (y2 : Int32), K0 S y1 y2 → ∀ (H : Heap) (locs : List Loc) (ls : Array Slot), PW D ad cy (AW ad o sz) s.heap o S H locs → lv_has ls 3 [(0, .ref (ad 3 P 0)), (1, .int y1), (2, .int y2)] → Wi D ad cy o sz Q p l e rmX3_maskOfAsked s m [.ref (ad 3 P 0)] below meth c H locs (F0 m 4 ls [])), ∀ {K1 : Mem → Int32 → Prop} (hk1 : ∀ (S : Mem) (y1 : Int32), K1 S y1 → ∀ (H : Heap) (locs : List Loc) (ls : Array Slot), PW D ad cy (AW ad o sz) s.heap o S H locs → lv_has ls 3 [(1, .int y1)] → Wi D ad cy o sz Q p l e rmX3_maskOfAsked s m [.ref (ad 3 P 0)] below meth c H locs (F0 m 35 ls [])), ∀ (S : Mem) (y1 : Int32) (y2 : Int32), vc_X3_maskOfAsked_J29 Q K0 K1 P S y1 y2 → ∀ (H : Heap) (locs : List Loc) (ls : Array Slot), PW D ad cy (AW ad o sz) s.heap o S H locs → lv_has ls 3 [(0, .ref (ad 3 P 0)), (1, .int y1), (2, .int y2)] → Wi D ad cy o sz Q p l e rmX3_maskOfAsked s m [.ref (ad 3 P 0)] below meth c H locs (F0 m 29 ls []) := by
    intro K0 hk0 K1 hk1 S y1 y2 hq H locs ls hX hl
    unfold vc_X3_maskOfAsked_J29 at hq
    refine lv_iinc (v := (y2 + (1 : Int32))) (lv' := [(2, .int (y2 + (1 : Int32))), (0, .ref (ad 3 P 0)), (1, .int y1)]) hM.1 hM.2.1 dX3_maskOfAsked_29 hl (k := 2) rfl rfl (by decide) rfl (fun ls hl => ?_)
    refine lv_goto (tgt := 4) hM.1 hM.2.1 dX3_maskOfAsked_32 (by decide) ?_
    exact hk0 S y1 (y2 + (1 : Int32)) hq _ _ _ hX (lv_sub hl [1, 2, 0] rfl)
  have L4 : ∀ {K : Mem → Int32 → Prop} (hk : ∀ (S : Mem) (y1 : Int32), K S y1 → ∀ (H : Heap) (locs : List Loc) (ls : Array Slot), PW D ad cy (AW ad o sz) s.heap o S H locs → lv_has ls 3 [(1, .int y1)] → Wi D ad cy o sz Q p l e rmX3_maskOfAsked s m [.ref (ad 3 P 0)] below meth c H locs (F0 m 35 ls [])), ∀ (n : Nat) (S : Mem) (y1 : Int32) (y2 : Int32), vc_X3_maskOfAsked_L4 Q K P n S y1 y2 → ∀ (H : Heap) (locs : List Loc) (ls : Array Slot), PW D ad cy (AW ad o sz) s.heap o S H locs → lv_has ls 3 [(0, .ref (ad 3 P 0)), (1, .int y1), (2, .int y2)] → Wi D ad cy o sz Q p l e rmX3_maskOfAsked s m [.ref (ad 3 P 0)] below meth c H locs (F0 m 4 ls []) := by
    intro K hk n
    induction n with
    | zero =>
      intro S y1 y2 hq
      rw [vc_X3_maskOfAsked_L4] at hq
      exact hq.elim
    | succ n ih =>
      intro S y1 y2 hq H locs ls hX hl
      rw [vc_X3_maskOfAsked_L4] at hq
      refine lv_iload_n hM.1 hM.2.1 dX3_maskOfAsked_4 rfl (lv_at hl 2 rfl) ?_
      refine lv_aload_n hM.1 hM.2.1 dX3_maskOfAsked_5 rfl (lv_at hl 0 rfl) ?_
      refine g3 hM hK hX (hI.1 _ (id_P hv).2.1) 6 (by decide) qf_RX3_50 rfl dX3_maskOfAsked_6 ?_
      refine lv_icmp_ge (tgt := 35) hM.1 hM.2.1 dX3_maskOfAsked_9 (by decide) (fun c_1 => ?_) (fun c_1 => ?_)
      · replace hq := hq.1 c_1
        exact hk S y1 hq _ _ _ hX (lv_sub hl [1] rfl)
      replace hq := hq.2 c_1
      refine lv_aload_n hM.1 hM.2.1 dX3_maskOfAsked_12 rfl (lv_at hl 0 rfl) ?_
      refine lv_iload_n hM.1 hM.2.1 dX3_maskOfAsked_13 rfl (lv_at hl 2 rfl) ?_
      refine cVr (As := [.int y2]) hM hK hX ⟨hI.1, trivial⟩ hA (met_X3_at l D ad cy S P y2 hv hq) (kX3_at hM.2.2.2.2 ql_RX3_53 (Nat.le_of_ble_eq_true rfl) (Nat.le_of_ble_eq_true rfl)) (v3 hK hX (hI.1 _ (id_P hv).2.1)) rfl hl.1 rfl (Nat.le_of_ble_eq_true rfl) dX3_maskOfAsked_14 ⟨Nat.zero_le _, Nat.zero_le _⟩ (fun S_2 P_3 i_4 hq H locs hX => ?_)
      have hT_5 := hq.1
      replace hq := hq.2
      refine cVi (As := []) hM hK hX ⟨hI.1, trivial⟩ hA (met_X5_isAsked l D ad cy S_2 P_3 i_4 hT_5 hq) (kX5_isAsked hM.2.2.2.2 ql_RX3_153 (Nat.le_of_ble_eq_true rfl) (Nat.le_of_ble_eq_true rfl)) (v5 hK hX (hI.1 _ (id_T hT_5).1)) rfl hl.1 rfl (Nat.le_of_ble_eq_true rfl) dX3_maskOfAsked_17 ⟨Nat.zero_le _, Nat.zero_le _⟩ (fun S_6 r_7 hq H locs hX => ?_)
      refine lv_if_eq (tgt := 29) hM.1 hM.2.1 dX3_maskOfAsked_20 (by decide) (fun c_8 => ?_) (fun c_8 => ?_)
      · replace hq := hq.1 c_8
        exact J29 ih hk S_6 y1 y2 hq _ _ _ hX (lv_sub hl [0, 1, 2] rfl)
      replace hq := hq.2 c_8
      refine lv_iload_n hM.1 hM.2.1 dX3_maskOfAsked_23 rfl (lv_at hl 1 rfl) ?_
      refine lv_iconst (v := (1 : Int32)) hM.1 hM.2.1 dX3_maskOfAsked_24 (by decide) ?_
      refine lv_iload_n hM.1 hM.2.1 dX3_maskOfAsked_25 rfl (lv_at hl 2 rfl) ?_
      refine lv_ishl hM.1 hM.2.1 dX3_maskOfAsked_26 ?_
      refine lv_ior hM.1 hM.2.1 dX3_maskOfAsked_27 ?_
      refine lv_istore_n (lv' := [(1, .int (y1 ||| ((1 : Int32) <<< (y2 &&& 31)))), (0, .ref (ad 3 P 0)), (2, .int y2)]) hM.1 hM.2.1 dX3_maskOfAsked_28 rfl hl (by decide) rfl (fun ls hl => ?_)
      exact J29 ih hk S_6 (y1 ||| ((1 : Int32) <<< (y2 &&& 31))) y2 hq _ _ _ hX (lv_sub hl [1, 0, 2] rfl)
  unfold vc_X3_maskOfAsked at hq
  refine lv_iconst (v := (0 : Int32)) hM.1 hM.2.1 dX3_maskOfAsked_0 (by decide) ?_
  refine lv_istore_n (lv' := [(1, .int (0 : Int32)), (0, .ref (ad 3 P 0))]) hM.1 hM.2.1 dX3_maskOfAsked_1 rfl hl (by decide) rfl (fun ls hl => ?_)
  refine lv_iconst (v := (0 : Int32)) hM.1 hM.2.1 dX3_maskOfAsked_2 (by decide) ?_
  refine lv_istore_n (lv' := [(2, .int (0 : Int32)), (1, .int (0 : Int32)), (0, .ref (ad 3 P 0))]) hM.1 hM.2.1 dX3_maskOfAsked_3 rfl hl (by decide) rfl (fun ls hl => ?_)
  obtain ⟨k0, hq⟩ := hq
  refine L4 (fun S_9 y1_10 hq H locs ls hX hl => ?_) k0 S (0 : Int32) (0 : Int32) hq _ _ _ hX (lv_sub hl [2, 1, 0] rfl)
  refine lv_iload_n hM.1 hM.2.1 dX3_maskOfAsked_35 rfl (lv_at hl 0 rfl) ?_
  exact e_i hM hX hlocks hret hq dX3_maskOfAsked_36
def rmJ6_bitCount_0f7a4 : Room := { frames := 0, cells := 0, slots := 0, locals := 0 }
theorem kJ6_bitCount_0f7a4 {R : Room} {s : State} {args : Array Value} {own : String} {index : Nat} (ht : ∀ w ∈ lw_all, w.before args s = true) (hl : Cond.methodLink own index yJ6_bitCount_0f7a4 ∈ lw_all) (hf : rmJ6_bitCount_0f7a4.frames + 1 ≤ R.frames) (hlo : 8 + (1 + 11) + rmJ6_bitCount_0f7a4.locals ≤ R.locals) : CallB R s args own index yJ6_bitCount_0f7a4 cJ6_bitCount_0f7a4 1 (some Jvm.ClassFile.FieldType.int) (wA yJ6_bitCount_0f7a4 cJ6_bitCount_0f7a4 1 (some Jvm.ClassFile.FieldType.int)) rmJ6_bitCount_0f7a4 0 0 1 ∧ (Cond.static yJ6_bitCount_0f7a4).before args s = true := va_cwS 1 ht (good_S hl qt_yJ6_bitCount_0f7a4 qi_RJ6 qc_yJ6_bitCount_0f7a4) rfl rfl rfl (by decide +kernel) ⟨hf, hlo⟩
set_option maxRecDepth 100000 in
set_option maxHeartbeats 4000000 in
theorem met_J6_bitCount_0f7a4 (l : Launch) (D : va_G) (ad : Adr) (cy : Nat → ClassId) (S : Mem) (x0 : Int32) {Q : Mem → Int32 → Prop} (hq : vc_J6_bitCount_0f7a4 S x0 Q) : Ci l yJ6_bitCount_0f7a4 (wA yJ6_bitCount_0f7a4 cJ6_bitCount_0f7a4 1 (some Jvm.ClassFile.FieldType.int)) rmJ6_bitCount_0f7a4 D ad cy (IN []) [.int x0] S Q := by
  intro o sz hI
  refine mkC (own := RJ6) (lv := [(0, .int x0)]) (by decide) rfl (Nat.le_of_ble_eq_true rfl) rfl ?_
  intro p e s m below meth c ls hsz hM hlocks hret hK hA hX hl
  unfold vc_J6_bitCount_0f7a4 at hq
  refine lv_iload_n hM.1 hM.2.1 dJ6_bitCount_0f7a4_0 rfl (lv_at hl 0 rfl) ?_
  refine lv_iload_n hM.1 hM.2.1 dJ6_bitCount_0f7a4_1 rfl (lv_at hl 0 rfl) ?_
  refine lv_iconst (v := (1 : Int32)) hM.1 hM.2.1 dJ6_bitCount_0f7a4_2 (by decide) ?_
  refine lv_iushr hM.1 hM.2.1 dJ6_bitCount_0f7a4_3 rfl ?_
  refine lv_ldcw hM.1 hM.2.1 hM.2.2.2.1 (hM.2.2.2.2 _ qn_RJ6_265) dJ6_bitCount_0f7a4_4 ?_
  refine lv_iand hM.1 hM.2.1 dJ6_bitCount_0f7a4_7 ?_
  refine lv_isub hM.1 hM.2.1 dJ6_bitCount_0f7a4_8 ?_
  refine lv_istore_n (lv' := [(0, .int (x0 - ((x0.toUInt32 >>> ((1 : Int32).toUInt32 &&& Int32.toUInt32 31)).toInt32 &&& (1431655765 : Int32))))]) hM.1 hM.2.1 dJ6_bitCount_0f7a4_9 rfl hl (by decide) rfl (fun ls hl => ?_)
  refine lv_iload_n hM.1 hM.2.1 dJ6_bitCount_0f7a4_10 rfl (lv_at hl 0 rfl) ?_
  refine lv_ldcw hM.1 hM.2.1 hM.2.2.2.1 (hM.2.2.2.2 _ qn_RJ6_266) dJ6_bitCount_0f7a4_11 ?_
  refine lv_iand hM.1 hM.2.1 dJ6_bitCount_0f7a4_14 ?_
  refine lv_iload_n hM.1 hM.2.1 dJ6_bitCount_0f7a4_15 rfl (lv_at hl 0 rfl) ?_
  refine lv_iconst (v := (2 : Int32)) hM.1 hM.2.1 dJ6_bitCount_0f7a4_16 (by decide) ?_
  refine lv_iushr hM.1 hM.2.1 dJ6_bitCount_0f7a4_17 rfl ?_
  refine lv_ldcw hM.1 hM.2.1 hM.2.2.2.1 (hM.2.2.2.2 _ qn_RJ6_266) dJ6_bitCount_0f7a4_18 ?_
  refine lv_iand hM.1 hM.2.1 dJ6_bitCount_0f7a4_21 ?_
  refine lv_iadd hM.1 hM.2.1 dJ6_bitCount_0f7a4_22 ?_
  refine lv_istore_n (lv' := [(0, .int (((x0 - ((x0.toUInt32 >>> ((1 : Int32).toUInt32 &&& Int32.toUInt32 31)).toInt32 &&& (1431655765 : Int32))) &&& (858993459 : Int32)) + (((x0 - ((x0.toUInt32 >>> ((1 : Int32).toUInt32 &&& Int32.toUInt32 31)).toInt32 &&& (1431655765 : Int32))).toUInt32 >>> ((2 : Int32).toUInt32 &&& Int32.toUInt32 31)).toInt32 &&& (858993459 : Int32))))]) hM.1 hM.2.1 dJ6_bitCount_0f7a4_23 rfl hl (by decide) rfl (fun ls hl => ?_)
  refine lv_iload_n hM.1 hM.2.1 dJ6_bitCount_0f7a4_24 rfl (lv_at hl 0 rfl) ?_
  refine lv_iload_n hM.1 hM.2.1 dJ6_bitCount_0f7a4_25 rfl (lv_at hl 0 rfl) ?_
  refine lv_iconst (v := (4 : Int32)) hM.1 hM.2.1 dJ6_bitCount_0f7a4_26 (by decide) ?_
  refine lv_iushr hM.1 hM.2.1 dJ6_bitCount_0f7a4_27 rfl ?_
  refine lv_iadd hM.1 hM.2.1 dJ6_bitCount_0f7a4_28 ?_
  refine lv_ldcw hM.1 hM.2.1 hM.2.2.2.1 (hM.2.2.2.2 _ qn_RJ6_267) dJ6_bitCount_0f7a4_29 ?_
  refine lv_iand hM.1 hM.2.1 dJ6_bitCount_0f7a4_32 ?_
  refine lv_istore_n (lv' := [(0, .int (((((x0 - ((x0.toUInt32 >>> ((1 : Int32).toUInt32 &&& Int32.toUInt32 31)).toInt32 &&& (1431655765 : Int32))) &&& (858993459 : Int32)) + (((x0 - ((x0.toUInt32 >>> ((1 : Int32).toUInt32 &&& Int32.toUInt32 31)).toInt32 &&& (1431655765 : Int32))).toUInt32 >>> ((2 : Int32).toUInt32 &&& Int32.toUInt32 31)).toInt32 &&& (858993459 : Int32))) + ((((x0 - ((x0.toUInt32 >>> ((1 : Int32).toUInt32 &&& Int32.toUInt32 31)).toInt32 &&& (1431655765 : Int32))) &&& (858993459 : Int32)) + (((x0 - ((x0.toUInt32 >>> ((1 : Int32).toUInt32 &&& Int32.toUInt32 31)).toInt32 &&& (1431655765 : Int32))).toUInt32 >>> ((2 : Int32).toUInt32 &&& Int32.toUInt32 31)).toInt32 &&& (858993459 : Int32))).toUInt32 >>> ((4 : Int32).toUInt32 &&& Int32.toUInt32 31)).toInt32) &&& (252645135 : Int32)))]) hM.1 hM.2.1 dJ6_bitCount_0f7a4_33 rfl hl (by decide) rfl (fun ls hl => ?_)
  refine lv_iload_n hM.1 hM.2.1 dJ6_bitCount_0f7a4_34 rfl (lv_at hl 0 rfl) ?_
  refine lv_iload_n hM.1 hM.2.1 dJ6_bitCount_0f7a4_35 rfl (lv_at hl 0 rfl) ?_
  refine lv_bipush (v := (8 : Int32)) hM.1 hM.2.1 dJ6_bitCount_0f7a4_36 (by decide) ?_
  refine lv_iushr hM.1 hM.2.1 dJ6_bitCount_0f7a4_38 rfl ?_
  refine lv_iadd hM.1 hM.2.1 dJ6_bitCount_0f7a4_39 ?_
  refine lv_istore_n (lv' := [(0, .int ((((((x0 - ((x0.toUInt32 >>> ((1 : Int32).toUInt32 &&& Int32.toUInt32 31)).toInt32 &&& (1431655765 : Int32))) &&& (858993459 : Int32)) + (((x0 - ((x0.toUInt32 >>> ((1 : Int32).toUInt32 &&& Int32.toUInt32 31)).toInt32 &&& (1431655765 : Int32))).toUInt32 >>> ((2 : Int32).toUInt32 &&& Int32.toUInt32 31)).toInt32 &&& (858993459 : Int32))) + ((((x0 - ((x0.toUInt32 >>> ((1 : Int32).toUInt32 &&& Int32.toUInt32 31)).toInt32 &&& (1431655765 : Int32))) &&& (858993459 : Int32)) + (((x0 - ((x0.toUInt32 >>> ((1 : Int32).toUInt32 &&& Int32.toUInt32 31)).toInt32 &&& (1431655765 : Int32))).toUInt32 >>> ((2 : Int32).toUInt32 &&& Int32.toUInt32 31)).toInt32 &&& (858993459 : Int32))).toUInt32 >>> ((4 : Int32).toUInt32 &&& Int32.toUInt32 31)).toInt32) &&& (252645135 : Int32)) + ((((((x0 - ((x0.toUInt32 >>> ((1 : Int32).toUInt32 &&& Int32.toUInt32 31)).toInt32 &&& (1431655765 : Int32))) &&& (858993459 : Int32)) + (((x0 - ((x0.toUInt32 >>> ((1 : Int32).toUInt32 &&& Int32.toUInt32 31)).toInt32 &&& (1431655765 : Int32))).toUInt32 >>> ((2 : Int32).toUInt32 &&& Int32.toUInt32 31)).toInt32 &&& (858993459 : Int32))) + ((((x0 - ((x0.toUInt32 >>> ((1 : Int32).toUInt32 &&& Int32.toUInt32 31)).toInt32 &&& (1431655765 : Int32))) &&& (858993459 : Int32)) + (((x0 - ((x0.toUInt32 >>> ((1 : Int32).toUInt32 &&& Int32.toUInt32 31)).toInt32 &&& (1431655765 : Int32))).toUInt32 >>> ((2 : Int32).toUInt32 &&& Int32.toUInt32 31)).toInt32 &&& (858993459 : Int32))).toUInt32 >>> ((4 : Int32).toUInt32 &&& Int32.toUInt32 31)).toInt32) &&& (252645135 : Int32)).toUInt32 >>> ((8 : Int32).toUInt32 &&& Int32.toUInt32 31)).toInt32))]) hM.1 hM.2.1 dJ6_bitCount_0f7a4_40 rfl hl (by decide) rfl (fun ls hl => ?_)
  refine lv_iload_n hM.1 hM.2.1 dJ6_bitCount_0f7a4_41 rfl (lv_at hl 0 rfl) ?_
  refine lv_iload_n hM.1 hM.2.1 dJ6_bitCount_0f7a4_42 rfl (lv_at hl 0 rfl) ?_
  refine lv_bipush (v := (16 : Int32)) hM.1 hM.2.1 dJ6_bitCount_0f7a4_43 (by decide) ?_
  refine lv_iushr hM.1 hM.2.1 dJ6_bitCount_0f7a4_45 rfl ?_
  refine lv_iadd hM.1 hM.2.1 dJ6_bitCount_0f7a4_46 ?_
  refine lv_istore_n (lv' := [(0, .int (((((((x0 - ((x0.toUInt32 >>> ((1 : Int32).toUInt32 &&& Int32.toUInt32 31)).toInt32 &&& (1431655765 : Int32))) &&& (858993459 : Int32)) + (((x0 - ((x0.toUInt32 >>> ((1 : Int32).toUInt32 &&& Int32.toUInt32 31)).toInt32 &&& (1431655765 : Int32))).toUInt32 >>> ((2 : Int32).toUInt32 &&& Int32.toUInt32 31)).toInt32 &&& (858993459 : Int32))) + ((((x0 - ((x0.toUInt32 >>> ((1 : Int32).toUInt32 &&& Int32.toUInt32 31)).toInt32 &&& (1431655765 : Int32))) &&& (858993459 : Int32)) + (((x0 - ((x0.toUInt32 >>> ((1 : Int32).toUInt32 &&& Int32.toUInt32 31)).toInt32 &&& (1431655765 : Int32))).toUInt32 >>> ((2 : Int32).toUInt32 &&& Int32.toUInt32 31)).toInt32 &&& (858993459 : Int32))).toUInt32 >>> ((4 : Int32).toUInt32 &&& Int32.toUInt32 31)).toInt32) &&& (252645135 : Int32)) + ((((((x0 - ((x0.toUInt32 >>> ((1 : Int32).toUInt32 &&& Int32.toUInt32 31)).toInt32 &&& (1431655765 : Int32))) &&& (858993459 : Int32)) + (((x0 - ((x0.toUInt32 >>> ((1 : Int32).toUInt32 &&& Int32.toUInt32 31)).toInt32 &&& (1431655765 : Int32))).toUInt32 >>> ((2 : Int32).toUInt32 &&& Int32.toUInt32 31)).toInt32 &&& (858993459 : Int32))) + ((((x0 - ((x0.toUInt32 >>> ((1 : Int32).toUInt32 &&& Int32.toUInt32 31)).toInt32 &&& (1431655765 : Int32))) &&& (858993459 : Int32)) + (((x0 - ((x0.toUInt32 >>> ((1 : Int32).toUInt32 &&& Int32.toUInt32 31)).toInt32 &&& (1431655765 : Int32))).toUInt32 >>> ((2 : Int32).toUInt32 &&& Int32.toUInt32 31)).toInt32 &&& (858993459 : Int32))).toUInt32 >>> ((4 : Int32).toUInt32 &&& Int32.toUInt32 31)).toInt32) &&& (252645135 : Int32)).toUInt32 >>> ((8 : Int32).toUInt32 &&& Int32.toUInt32 31)).toInt32) + (((((((x0 - ((x0.toUInt32 >>> ((1 : Int32).toUInt32 &&& Int32.toUInt32 31)).toInt32 &&& (1431655765 : Int32))) &&& (858993459 : Int32)) + (((x0 - ((x0.toUInt32 >>> ((1 : Int32).toUInt32 &&& Int32.toUInt32 31)).toInt32 &&& (1431655765 : Int32))).toUInt32 >>> ((2 : Int32).toUInt32 &&& Int32.toUInt32 31)).toInt32 &&& (858993459 : Int32))) + ((((x0 - ((x0.toUInt32 >>> ((1 : Int32).toUInt32 &&& Int32.toUInt32 31)).toInt32 &&& (1431655765 : Int32))) &&& (858993459 : Int32)) + (((x0 - ((x0.toUInt32 >>> ((1 : Int32).toUInt32 &&& Int32.toUInt32 31)).toInt32 &&& (1431655765 : Int32))).toUInt32 >>> ((2 : Int32).toUInt32 &&& Int32.toUInt32 31)).toInt32 &&& (858993459 : Int32))).toUInt32 >>> ((4 : Int32).toUInt32 &&& Int32.toUInt32 31)).toInt32) &&& (252645135 : Int32)) + ((((((x0 - ((x0.toUInt32 >>> ((1 : Int32).toUInt32 &&& Int32.toUInt32 31)).toInt32 &&& (1431655765 : Int32))) &&& (858993459 : Int32)) + (((x0 - ((x0.toUInt32 >>> ((1 : Int32).toUInt32 &&& Int32.toUInt32 31)).toInt32 &&& (1431655765 : Int32))).toUInt32 >>> ((2 : Int32).toUInt32 &&& Int32.toUInt32 31)).toInt32 &&& (858993459 : Int32))) + ((((x0 - ((x0.toUInt32 >>> ((1 : Int32).toUInt32 &&& Int32.toUInt32 31)).toInt32 &&& (1431655765 : Int32))) &&& (858993459 : Int32)) + (((x0 - ((x0.toUInt32 >>> ((1 : Int32).toUInt32 &&& Int32.toUInt32 31)).toInt32 &&& (1431655765 : Int32))).toUInt32 >>> ((2 : Int32).toUInt32 &&& Int32.toUInt32 31)).toInt32 &&& (858993459 : Int32))).toUInt32 >>> ((4 : Int32).toUInt32 &&& Int32.toUInt32 31)).toInt32) &&& (252645135 : Int32)).toUInt32 >>> ((8 : Int32).toUInt32 &&& Int32.toUInt32 31)).toInt32).toUInt32 >>> ((16 : Int32).toUInt32 &&& Int32.toUInt32 31)).toInt32))]) hM.1 hM.2.1 dJ6_bitCount_0f7a4_47 rfl hl (by decide) rfl (fun ls hl => ?_)
  refine lv_iload_n hM.1 hM.2.1 dJ6_bitCount_0f7a4_48 rfl (lv_at hl 0 rfl) ?_
  refine lv_bipush (v := (63 : Int32)) hM.1 hM.2.1 dJ6_bitCount_0f7a4_49 (by decide) ?_
  refine lv_iand hM.1 hM.2.1 dJ6_bitCount_0f7a4_51 ?_
  exact e_i hM hX hlocks hret hq dJ6_bitCount_0f7a4_52
def rmX5_hourAgo : Room := { frames := 1, cells := 0, slots := 0, locals := 21 }
theorem kX5_hourAgo {R : Room} {s : State} {args : Array Value} {own : String} {index : Nat} (ht : ∀ w ∈ lw_all, w.before args s = true) (hl : Cond.methodLink own index yX5_hourAgo ∈ lw_all) (hf : rmX5_hourAgo.frames + 1 ≤ R.frames) (hlo : 8 + (2 + 11) + rmX5_hourAgo.locals ≤ R.locals) : CallW R s args own RX5 index yX5_hourAgo cX5_hourAgo 2 (some Jvm.ClassFile.FieldType.int) (wA yX5_hourAgo cX5_hourAgo 2 (some Jvm.ClassFile.FieldType.int)) rmX5_hourAgo 0 0 1 := cwV 1 ht (good_V hl qm_yX5_hourAgo qs_yX5_hourAgo qi_RX5 qc_yX5_hourAgo) rfl rfl rfl (by decide +kernel) ⟨hf, hlo⟩
set_option maxRecDepth 100000 in
set_option maxHeartbeats 4000000 in
theorem met_X5_hourAgo (l : Launch) (D : va_G) (ad : Adr) (cy : Nat → ClassId) (S : Mem) (P : Nat) (i : Nat) (x1 : Int32) {Q : Mem → Int32 → Prop} (hv : P < 11 ∧ i < 11) (hq : vc_X5_hourAgo S P i x1 Q) : Ci l yX5_hourAgo (wA yX5_hourAgo cX5_hourAgo 2 (some Jvm.ClassFile.FieldType.int)) rmX5_hourAgo D ad cy (IN []) [.ref (ad 5 P i), .int x1] S Q := by
  intro o sz hI
  refine mkC (own := RX5) (lv := [(0, .ref (ad 5 P i)), (1, .int x1)]) (by decide) rfl (Nat.le_of_ble_eq_true rfl) rfl ?_
  intro p e s m below meth c ls hsz hM hlocks hret hK hA hX hl
  unfold vc_X5_hourAgo at hq
  refine lv_iload_n hM.1 hM.2.1 dX5_hourAgo_0 rfl (lv_at hl 1 rfl) ?_
  refine lv_aload_n hM.1 hM.2.1 dX5_hourAgo_1 rfl (lv_at hl 0 rfl) ?_
  refine g5 hM hK hX (hI.1 _ (id_T hv).1) 2 (by decide) qf_RX5_45 rfl dX5_hourAgo_2 ?_
  refine lv_icmp_ge (tgt := 19) hM.1 hM.2.1 dX5_hourAgo_5 (by decide) (fun c_1 => ?_) (fun c_1 => ?_)
  · replace hq := hq.1 c_1
    refine lv_ldc hM.1 hM.2.1 hM.2.2.2.1 (hM.2.2.2.2 _ qn_RX5_25) dX5_hourAgo_19 ?_
    exact e_i hM hX hlocks hret hq dX5_hourAgo_21
  replace hq := hq.2 c_1
  refine lv_aload_n hM.1 hM.2.1 dX5_hourAgo_8 rfl (lv_at hl 0 rfl) ?_
  refine g5 hM hK hX (hI.1 _ (id_T hv).1) 0 (by decide) qf_RX5_9 rfl dX5_hourAgo_9 ?_
  refine lv_iload_n hM.1 hM.2.1 dX5_hourAgo_12 rfl (lv_at hl 1 rfl) ?_
  refine cSNi (As := [.ref (ad 6 P i), .int x1]) hM hK hX ⟨hI.1, (hI.1 _ (id_T hv).2.1), trivial⟩ hA (met_X6_entry l D ad cy S 6 P i 6 x1 (fun _ _ => (a6 P i)) hq) (kNX6_entry hM.2.2.2.2 (hK.2 _ ql_RX5_80) (Nat.le_of_ble_eq_true rfl) (Nat.le_of_ble_eq_true rfl)) rfl hl.1 rfl (Nat.le_of_ble_eq_true rfl) dX5_hourAgo_13 ⟨Nat.zero_le _, Nat.zero_le _⟩ (fun S_2 r_3 hq H locs hX => ?_)
  refine lv_goto (tgt := 21) hM.1 hM.2.1 dX5_hourAgo_16 (by decide) ?_
  exact e_i hM hX hlocks hret hq dX5_hourAgo_21
def rmX5_isAskedAndReadIn : Room := { frames := 2, cells := 0, slots := 0, locals := 42 }
theorem kX5_isAskedAndReadIn {R : Room} {s : State} {args : Array Value} {own : String} {index : Nat} (ht : ∀ w ∈ lw_all, w.before args s = true) (hl : Cond.methodLink own index yX5_isAskedAndReadIn ∈ lw_all) (hf : rmX5_isAskedAndReadIn.frames + 1 ≤ R.frames) (hlo : 8 + (2 + 11) + rmX5_isAskedAndReadIn.locals ≤ R.locals) : CallW R s args own RX5 index yX5_isAskedAndReadIn cX5_isAskedAndReadIn 2 (some Jvm.ClassFile.FieldType.boolean) (wA yX5_isAskedAndReadIn cX5_isAskedAndReadIn 2 (some Jvm.ClassFile.FieldType.boolean)) rmX5_isAskedAndReadIn 0 0 1 := cwV 1 ht (good_V hl qm_yX5_isAskedAndReadIn qs_yX5_isAskedAndReadIn qi_RX5 qc_yX5_isAskedAndReadIn) rfl rfl rfl (by decide +kernel) ⟨hf, hlo⟩
set_option maxRecDepth 100000 in
set_option maxHeartbeats 4000000 in
theorem met_X5_isAskedAndReadIn (l : Launch) (D : va_G) (ad : Adr) (cy : Nat → ClassId) (S : Mem) (P : Nat) (i : Nat) (x1 : Int32) {Q : Mem → Int32 → Prop} (hv : P < 11 ∧ i < 11) (hq : vc_X5_isAskedAndReadIn S P i x1 Q) : Ci l yX5_isAskedAndReadIn (wA yX5_isAskedAndReadIn cX5_isAskedAndReadIn 2 (some Jvm.ClassFile.FieldType.boolean)) rmX5_isAskedAndReadIn D ad cy (IN []) [.ref (ad 5 P i), .int x1] S Q := by
  intro o sz hI
  refine mkC (own := RX5) (lv := [(0, .ref (ad 5 P i)), (1, .int x1)]) (by decide) rfl (Nat.le_of_ble_eq_true rfl) rfl ?_
  intro p e s m below meth c ls hsz hM hlocks hret hK hA hX hl
  unfold vc_X5_isAskedAndReadIn at hq
  refine lv_aload_n hM.1 hM.2.1 dX5_isAskedAndReadIn_0 rfl (lv_at hl 0 rfl) ?_
  refine cVi (As := []) hM hK hX ⟨hI.1, trivial⟩ hA (met_X5_isAsked l D ad cy S P i hv hq) (kX5_isAsked hM.2.2.2.2 ql_RX5_84 (Nat.le_of_ble_eq_true rfl) (Nat.le_of_ble_eq_true rfl)) (v5 hK hX (hI.1 _ (id_T hv).1)) rfl hl.1 rfl (Nat.le_of_ble_eq_true rfl) dX5_isAskedAndReadIn_1 ⟨Nat.zero_le _, Nat.zero_le _⟩ (fun S_1 r_2 hq H locs hX => ?_)
  refine lv_if_eq (tgt := 20) hM.1 hM.2.1 dX5_isAskedAndReadIn_4 (by decide) (fun c_3 => ?_) (fun c_3 => ?_)
  · replace hq := hq.1 c_3
    refine lv_iconst (v := (0 : Int32)) hM.1 hM.2.1 dX5_isAskedAndReadIn_20 (by decide) ?_
    exact e_z hM hX hlocks hret rfl hq dX5_isAskedAndReadIn_21
  replace hq := hq.2 c_3
  refine lv_aload_n hM.1 hM.2.1 dX5_isAskedAndReadIn_7 rfl (lv_at hl 0 rfl) ?_
  refine lv_iconst (v := (0 : Int32)) hM.1 hM.2.1 dX5_isAskedAndReadIn_8 (by decide) ?_
  refine cVi (As := [.int (0 : Int32)]) hM hK hX ⟨hI.1, trivial⟩ hA (met_X5_hourAgo l D ad cy S_1 P i (0 : Int32) hv hq) (kX5_hourAgo hM.2.2.2.2 ql_RX5_88 (Nat.le_of_ble_eq_true rfl) (Nat.le_of_ble_eq_true rfl)) (v5 hK hX (hI.1 _ (id_T hv).1)) rfl hl.1 rfl (Nat.le_of_ble_eq_true rfl) dX5_isAskedAndReadIn_9 ⟨Nat.zero_le _, Nat.zero_le _⟩ (fun S_4 r_5 hq H locs hX => ?_)
  refine lv_iload_n hM.1 hM.2.1 dX5_isAskedAndReadIn_12 rfl (lv_at hl 1 rfl) ?_
  refine lv_icmp_ne (tgt := 20) hM.1 hM.2.1 dX5_isAskedAndReadIn_13 (by decide) (fun c_6 => ?_) (fun c_6 => ?_)
  · replace hq := hq.1 c_6
    refine lv_iconst (v := (0 : Int32)) hM.1 hM.2.1 dX5_isAskedAndReadIn_20 (by decide) ?_
    exact e_z hM hX hlocks hret rfl hq dX5_isAskedAndReadIn_21
  replace hq := hq.2 c_6
  refine lv_iconst (v := (1 : Int32)) hM.1 hM.2.1 dX5_isAskedAndReadIn_16 (by decide) ?_
  refine lv_goto (tgt := 21) hM.1 hM.2.1 dX5_isAskedAndReadIn_17 (by decide) ?_
  exact e_z hM hX hlocks hret rfl hq dX5_isAskedAndReadIn_21
def rmX3_middleWithout : Room := { frames := 1, cells := 0, slots := 0, locals := 22 }
theorem kX3_middleWithout {R : Room} {s : State} {args : Array Value} {own : String} {index : Nat} (ht : ∀ w ∈ lw_all, w.before args s = true) (hl : Cond.methodLink own index yX3_middleWithout ∈ lw_all) (hf : rmX3_middleWithout.frames + 1 ≤ R.frames) (hlo : 8 + (3 + 11) + rmX3_middleWithout.locals ≤ R.locals) : CallW R s args own RX3 index yX3_middleWithout cX3_middleWithout 3 (some Jvm.ClassFile.FieldType.int) (wA yX3_middleWithout cX3_middleWithout 3 (some Jvm.ClassFile.FieldType.int)) rmX3_middleWithout 0 0 1 := cwV 1 ht (good_V hl qm_yX3_middleWithout qs_yX3_middleWithout qi_RX3 qc_yX3_middleWithout) rfl rfl rfl (by decide +kernel) ⟨hf, hlo⟩
set_option maxRecDepth 100000 in
set_option maxHeartbeats 4000000 in
theorem met_X3_middleWithout (l : Launch) (D : va_G) (ad : Adr) (cy : Nat → ClassId) (S : Mem) (P : Nat) (x1 : Int32) {Q : Mem → Int32 → Prop} (hv : P < 11) (hq : vc_X3_middleWithout S P x1 Q) : Ci l yX3_middleWithout (wA yX3_middleWithout cX3_middleWithout 3 (some Jvm.ClassFile.FieldType.int)) rmX3_middleWithout D ad cy (IN []) [.ref (ad 3 P 0), .int x1] S Q := by
  intro o sz hI
  refine mkC (own := RX3) (lv := [(0, .ref (ad 3 P 0)), (1, .int x1)]) (by decide) rfl (Nat.le_of_ble_eq_true rfl) rfl ?_
  intro p e s m below meth c ls hsz hM hlocks hret hK hA hX hl
  have J48 : ∀ {K0 : Mem → Int32 → Prop} (hk0 : ∀ (S : Mem) (y2 : Int32), K0 S y2 → ∀ (H : Heap) (locs : List Loc) (ls : Array Slot), PW D ad cy (AW ad o sz) s.heap o S H locs → lv_has ls 3 [(0, .ref (ad 3 P 0)), (1, .int x1), (2, .int y2)] → Wi D ad cy o sz Q p l e rmX3_middleWithout s m [.ref (ad 3 P 0), .int x1] below meth c H locs (F0 m 9 ls [])), ∀ {K1 : Mem → Prop} (hk1 : ∀ (S : Mem), K1 S → ∀ (H : Heap) (locs : List Loc) (ls : Array Slot), PW D ad cy (AW ad o sz) s.heap o S H locs → lv_has ls 3 [(0, .ref (ad 3 P 0))] → Wi D ad cy o sz Q p l e rmX3_middleWithout s m [.ref (ad 3 P 0), .int x1] below meth c H locs (F0 m 54 ls [])), ∀ (S : Mem) (y2 : Int32), vc_X3_middleWithout_J48 Q K0 K1 P x1 S y2 → ∀ (H : Heap) (locs : List Loc) (ls : Array Slot), PW D ad cy (AW ad o sz) s.heap o S H locs → lv_has ls 3 [(0, .ref (ad 3 P 0)), (1, .int x1), (2, .int y2)] → Wi D ad cy o sz Q p l e rmX3_middleWithout s m [.ref (ad 3 P 0), .int x1] below meth c H locs (F0 m 48 ls []) := by
    intro K0 hk0 K1 hk1 S y2 hq H locs ls hX hl
    unfold vc_X3_middleWithout_J48 at hq
    refine lv_iinc (v := (y2 + (1 : Int32))) (lv' := [(2, .int (y2 + (1 : Int32))), (0, .ref (ad 3 P 0)), (1, .int x1)]) hM.1 hM.2.1 dX3_middleWithout_48 hl (k := 2) rfl rfl (by decide) rfl (fun ls hl => ?_)
    refine lv_goto (tgt := 9) hM.1 hM.2.1 dX3_middleWithout_51 (by decide) ?_
    exact hk0 S (y2 + (1 : Int32)) hq _ _ _ hX (lv_sub hl [1, 2, 0] rfl)
  have L9 : ∀ {K : Mem → Prop} (hk : ∀ (S : Mem), K S → ∀ (H : Heap) (locs : List Loc) (ls : Array Slot), PW D ad cy (AW ad o sz) s.heap o S H locs → lv_has ls 3 [(0, .ref (ad 3 P 0))] → Wi D ad cy o sz Q p l e rmX3_middleWithout s m [.ref (ad 3 P 0), .int x1] below meth c H locs (F0 m 54 ls [])), ∀ (n : Nat) (S : Mem) (y2 : Int32), vc_X3_middleWithout_L9 Q K P x1 n S y2 → ∀ (H : Heap) (locs : List Loc) (ls : Array Slot), PW D ad cy (AW ad o sz) s.heap o S H locs → lv_has ls 3 [(0, .ref (ad 3 P 0)), (1, .int x1), (2, .int y2)] → Wi D ad cy o sz Q p l e rmX3_middleWithout s m [.ref (ad 3 P 0), .int x1] below meth c H locs (F0 m 9 ls []) := by
    intro K hk n
    induction n with
    | zero =>
      intro S y2 hq
      rw [vc_X3_middleWithout_L9] at hq
      exact hq.elim
    | succ n ih =>
      intro S y2 hq H locs ls hX hl
      rw [vc_X3_middleWithout_L9] at hq
      refine lv_iload_n hM.1 hM.2.1 dX3_middleWithout_9 rfl (lv_at hl 2 rfl) ?_
      refine lv_aload_n hM.1 hM.2.1 dX3_middleWithout_10 rfl (lv_at hl 0 rfl) ?_
      refine g3 hM hK hX (hI.1 _ (id_P hv).2.1) 6 (by decide) qf_RX3_50 rfl dX3_middleWithout_11 ?_
      refine lv_icmp_ge (tgt := 54) hM.1 hM.2.1 dX3_middleWithout_14 (by decide) (fun c_2 => ?_) (fun c_2 => ?_)
      · replace hq := hq.1 c_2
        exact hk S hq _ _ _ hX (lv_sub hl [0] rfl)
      replace hq := hq.2 c_2
      refine lv_iload_n hM.1 hM.2.1 dX3_middleWithout_17 rfl (lv_at hl 2 rfl) ?_
      refine lv_iload_n hM.1 hM.2.1 dX3_middleWithout_18 rfl (lv_at hl 1 rfl) ?_
      refine lv_icmp_eq (tgt := 48) hM.1 hM.2.1 dX3_middleWithout_19 (by decide) (fun c_3 => ?_) (fun c_3 => ?_)
      · replace hq := hq.1 c_3
        exact J48 ih hk S y2 hq _ _ _ hX (lv_sub hl [0, 1, 2] rfl)
      replace hq := hq.2 c_3
      refine lv_aload_n hM.1 hM.2.1 dX3_middleWithout_22 rfl (lv_at hl 0 rfl) ?_
      refine lv_iload_n hM.1 hM.2.1 dX3_middleWithout_23 rfl (lv_at hl 2 rfl) ?_
      refine cVr (As := [.int y2]) hM hK hX ⟨hI.1, trivial⟩ hA (met_X3_at l D ad cy S P y2 hv hq) (kX3_at hM.2.2.2.2 ql_RX3_53 (Nat.le_of_ble_eq_true rfl) (Nat.le_of_ble_eq_true rfl)) (v3 hK hX (hI.1 _ (id_P hv).2.1)) rfl hl.1 rfl (Nat.le_of_ble_eq_true rfl) dX3_middleWithout_24 ⟨Nat.zero_le _, Nat.zero_le _⟩ (fun S_4 P_5 i_6 hq H locs hX => ?_)
      have hT_7 := hq.1
      replace hq := hq.2
      refine cVi (As := []) hM hK hX ⟨hI.1, trivial⟩ hA (met_X5_isAsked l D ad cy S_4 P_5 i_6 hT_7 hq) (kX5_isAsked hM.2.2.2.2 ql_RX3_153 (Nat.le_of_ble_eq_true rfl) (Nat.le_of_ble_eq_true rfl)) (v5 hK hX (hI.1 _ (id_T hT_7).1)) rfl hl.1 rfl (Nat.le_of_ble_eq_true rfl) dX3_middleWithout_27 ⟨Nat.zero_le _, Nat.zero_le _⟩ (fun S_8 r_9 hq H locs hX => ?_)
      refine lv_if_eq (tgt := 48) hM.1 hM.2.1 dX3_middleWithout_30 (by decide) (fun c_10 => ?_) (fun c_10 => ?_)
      · replace hq := hq.1 c_10
        exact J48 ih hk S_8 y2 hq _ _ _ hX (lv_sub hl [0, 1, 2] rfl)
      replace hq := hq.2 c_10
      refine lv_aload_n hM.1 hM.2.1 dX3_middleWithout_33 rfl (lv_at hl 0 rfl) ?_
      refine g3 hM hK hX (hI.1 _ (id_P hv).2.1) 4 (by decide) qf_RX3_32 rfl dX3_middleWithout_34 ?_
      refine lv_aload_n hM.1 hM.2.1 dX3_middleWithout_37 rfl (lv_at hl 0 rfl) ?_
      refine lv_iload_n hM.1 hM.2.1 dX3_middleWithout_38 rfl (lv_at hl 2 rfl) ?_
      refine cVr (As := [.int y2]) hM hK hX ⟨hI.1, trivial⟩ hA (met_X3_at l D ad cy S_8 P y2 hv hq) (kX3_at hM.2.2.2.2 ql_RX3_53 (Nat.le_of_ble_eq_true rfl) (Nat.le_of_ble_eq_true rfl)) (v3 hK hX (hI.1 _ (id_P hv).2.1)) rfl hl.1 rfl (Nat.le_of_ble_eq_true rfl) dX3_middleWithout_39 ⟨Nat.zero_le _, Nat.zero_le _⟩ (fun S_11 P_12 i_13 hq H locs hX => ?_)
      have hT_14 := hq.1
      replace hq := hq.2
      refine g5 hM hK hX (hI.1 _ (id_T hT_14).1) 11 (by decide) qf_RX3_157 rfl dX3_middleWithout_42 ?_
      refine cVv (As := [.int (S_11 5 P_12 i_13 11)]) hM hK hX ⟨hI.1, trivial⟩ hA (met_X0_insert l D ad cy S_11 P (S_11 5 P_12 i_13 11) hv hq) (kX0_insert hM.2.2.2.2 ql_RX3_160 (Nat.le_of_ble_eq_true rfl) (Nat.le_of_ble_eq_true rfl)) (v0 hK hX (hI.1 _ (id_P hv).1)) rfl hl.1 rfl (Nat.le_of_ble_eq_true rfl) dX3_middleWithout_45 ⟨Nat.zero_le _, Nat.zero_le _⟩ (fun S_15 hq H locs hX => ?_)
      exact J48 ih hk S_15 y2 hq _ _ _ hX (lv_sub hl [0, 1, 2] rfl)
  unfold vc_X3_middleWithout at hq
  refine lv_aload_n hM.1 hM.2.1 dX3_middleWithout_0 rfl (lv_at hl 0 rfl) ?_
  refine g3 hM hK hX (hI.1 _ (id_P hv).2.1) 4 (by decide) qf_RX3_32 rfl dX3_middleWithout_1 ?_
  refine cVv (As := []) hM hK hX ⟨hI.1, trivial⟩ hA (met_X0_clear l D ad cy S P hv hq) (kX0_clear hM.2.2.2.2 ql_RX3_150 (Nat.le_of_ble_eq_true rfl) (Nat.le_of_ble_eq_true rfl)) (v0 hK hX (hI.1 _ (id_P hv).1)) rfl hl.1 rfl (Nat.le_of_ble_eq_true rfl) dX3_middleWithout_4 ⟨Nat.zero_le _, Nat.zero_le _⟩ (fun S_1 hq H locs hX => ?_)
  refine lv_iconst (v := (0 : Int32)) hM.1 hM.2.1 dX3_middleWithout_7 (by decide) ?_
  refine lv_istore_n (lv' := [(2, .int (0 : Int32)), (0, .ref (ad 3 P 0)), (1, .int x1)]) hM.1 hM.2.1 dX3_middleWithout_8 rfl hl (by decide) rfl (fun ls hl => ?_)
  obtain ⟨k0, hq⟩ := hq
  refine L9 (fun S_16 hq H locs ls hX hl => ?_) k0 S_1 (0 : Int32) hq _ _ _ hX (lv_sub hl [1, 2, 0] rfl)
  refine lv_aload_n hM.1 hM.2.1 dX3_middleWithout_54 rfl (lv_at hl 0 rfl) ?_
  refine g3 hM hK hX (hI.1 _ (id_P hv).2.1) 4 (by decide) qf_RX3_32 rfl dX3_middleWithout_55 ?_
  refine cVi (As := []) hM hK hX ⟨hI.1, trivial⟩ hA (met_X0_middle l D ad cy S_16 P hv hq) (kX0_middle hM.2.2.2.2 ql_RX3_163 (Nat.le_of_ble_eq_true rfl) (Nat.le_of_ble_eq_true rfl)) (v0 hK hX (hI.1 _ (id_P hv).1)) rfl hl.1 rfl (Nat.le_of_ble_eq_true rfl) dX3_middleWithout_58 ⟨Nat.zero_le _, Nat.zero_le _⟩ (fun S_17 r_18 hq H locs hX => ?_)
  exact e_i hM hX hlocks hret hq dX3_middleWithout_61
def rmX5_compareWith : Room := { frames := 1, cells := 0, slots := 0, locals := 21 }
theorem kX5_compareWith {R : Room} {s : State} {args : Array Value} {own : String} {index : Nat} (ht : ∀ w ∈ lw_all, w.before args s = true) (hl : Cond.methodLink own index yX5_compareWith ∈ lw_all) (hf : rmX5_compareWith.frames + 1 ≤ R.frames) (hlo : 8 + (3 + 11) + rmX5_compareWith.locals ≤ R.locals) : CallW R s args own RX5 index yX5_compareWith cX5_compareWith 3 none (wA yX5_compareWith cX5_compareWith 3 none) rmX5_compareWith 0 0 2 := cwV 2 ht (good_V hl qm_yX5_compareWith qs_yX5_compareWith qi_RX5 qc_yX5_compareWith) rfl rfl rfl (by decide +kernel) ⟨hf, hlo⟩
set_option maxRecDepth 100000 in
set_option maxHeartbeats 4000000 in
theorem met_X5_compareWith (l : Launch) (D : va_G) (ad : Adr) (cy : Nat → ClassId) (S : Mem) (P : Nat) (i : Nat) (x1 : Int32) (x2 : Int32) {Q : Mem → Prop} (hv : P < 11 ∧ i < 11) (hq : vc_X5_compareWith S P i x1 x2 Q) : Cv l yX5_compareWith (wA yX5_compareWith cX5_compareWith 3 none) rmX5_compareWith D ad cy (IN []) [.ref (ad 5 P i), .int x1, .int x2] S Q := by
  intro o sz hI
  refine mkC (own := RX5) (lv := [(0, .ref (ad 5 P i)), (1, .int x1), (2, .int x2)]) (by decide) rfl (Nat.le_of_ble_eq_true rfl) rfl ?_
  intro p e s m below meth c ls hsz hM hlocks hret hK hA hX hl
  unfold vc_X5_compareWith at hq
  refine lv_aload_n hM.1 hM.2.1 dX5_compareWith_0 rfl (lv_at hl 0 rfl) ?_
  refine g5 hM hK hX (hI.1 _ (id_T hv).1) 11 (by decide) qf_RX5_26 rfl dX5_compareWith_1 ?_
  refine lv_iload_n hM.1 hM.2.1 dX5_compareWith_4 rfl (lv_at hl 1 rfl) ?_
  refine lv_isub hM.1 hM.2.1 dX5_compareWith_5 ?_
  refine r_abs hM hl.1 ql_RX5_94 (Nat.le_of_ble_eq_true rfl) (Nat.le_of_ble_eq_true rfl) (Nat.le_of_ble_eq_true rfl) (Nat.le_of_ble_eq_true rfl) dX5_compareWith_6 ?_
  refine lv_iload_n hM.1 hM.2.1 dX5_compareWith_9 rfl (lv_at hl 2 rfl) ?_
  refine lv_icmp_le (tgt := 36) hM.1 hM.2.1 dX5_compareWith_10 (by decide) (fun c_1 => ?_) (fun c_1 => ?_)
  · replace hq := hq.1 c_1
    refine lv_aload_n hM.1 hM.2.1 dX5_compareWith_36 rfl (lv_at hl 0 rfl) ?_
    refine lv_iconst (v := (0 : Int32)) hM.1 hM.2.1 dX5_compareWith_37 (by decide) ?_
    refine p5_8 hM hK hX (hI.1 _ (id_T hv).1) qf_RX5_48 dX5_compareWith_38 (fun S_2 e_3 H locs hX => ?_)
    replace hq := hq S_2 e_3
    exact e_v hM hX hlocks hret hq dX5_compareWith_41
  replace hq := hq.2 c_1
  refine lv_aload_n hM.1 hM.2.1 dX5_compareWith_13 rfl (lv_at hl 0 rfl) ?_
  refine lv_dup hM.1 hM.2.1 dX5_compareWith_14 rfl ?_
  refine g5 hM hK hX (hI.1 _ (id_T hv).1) 9 (by decide) qf_RX5_35 rfl dX5_compareWith_15 ?_
  refine lv_iconst (v := (1 : Int32)) hM.1 hM.2.1 dX5_compareWith_18 (by decide) ?_
  refine lv_iadd hM.1 hM.2.1 dX5_compareWith_19 ?_
  refine p5_9 hM hK hX (hI.1 _ (id_T hv).1) qf_RX5_35 dX5_compareWith_20 (fun S_4 e_5 H locs hX => ?_)
  replace hq := hq S_4 e_5
  refine lv_aload_n hM.1 hM.2.1 dX5_compareWith_23 rfl (lv_at hl 0 rfl) ?_
  refine lv_dup hM.1 hM.2.1 dX5_compareWith_24 rfl ?_
  refine g5 hM hK hX (hI.1 _ (id_T hv).1) 8 (by decide) qf_RX5_48 rfl dX5_compareWith_25 ?_
  refine lv_iconst (v := (1 : Int32)) hM.1 hM.2.1 dX5_compareWith_28 (by decide) ?_
  refine lv_iadd hM.1 hM.2.1 dX5_compareWith_29 ?_
  refine p5_8 hM hK hX (hI.1 _ (id_T hv).1) qf_RX5_48 dX5_compareWith_30 (fun S_6 e_7 H locs hX => ?_)
  replace hq := hq S_6 e_7
  refine lv_goto (tgt := 41) hM.1 hM.2.1 dX5_compareWith_33 (by decide) ?_
  exact e_v hM hX hlocks hret hq dX5_compareWith_41
def rmX3_compareWithOthers : Room := { frames := 2, cells := 0, slots := 0, locals := 44 }
theorem kX3_compareWithOthers {R : Room} {s : State} {args : Array Value} {own : String} {index : Nat} (ht : ∀ w ∈ lw_all, w.before args s = true) (hl : Cond.methodLink own index yX3_compareWithOthers ∈ lw_all) (hf : rmX3_compareWithOthers.frames + 1 ≤ R.frames) (hlo : 8 + (3 + 11) + rmX3_compareWithOthers.locals ≤ R.locals) : CallW R s args own RX3 index yX3_compareWithOthers cX3_compareWithOthers 3 none (wA yX3_compareWithOthers cX3_compareWithOthers 3 none) rmX3_compareWithOthers 0 0 1 := cwV 1 ht (good_V hl qm_yX3_compareWithOthers qs_yX3_compareWithOthers qi_RX3 qc_yX3_compareWithOthers) rfl rfl rfl (by decide +kernel) ⟨hf, hlo⟩
set_option maxRecDepth 100000 in
set_option maxHeartbeats 4000000 in
theorem met_X3_compareWithOthers (l : Launch) (D : va_G) (ad : Adr) (cy : Nat → ClassId) (S : Mem) (P : Nat) (x1 : Int32) {Q : Mem → Prop} (hv : P < 11) (hq : vc_X3_compareWithOthers S P x1 Q) : Cv l yX3_compareWithOthers (wA yX3_compareWithOthers cX3_compareWithOthers 3 none) rmX3_compareWithOthers D ad cy (IN []) [.ref (ad 3 P 0), .int x1] S Q := by
  intro o sz hI
  refine mkC (own := RX3) (lv := [(0, .ref (ad 3 P 0)), (1, .int x1)]) (by decide) rfl (Nat.le_of_ble_eq_true rfl) rfl ?_
  intro p e s m below meth c ls hsz hM hlocks hret hK hA hX hl
  unfold vc_X3_compareWithOthers at hq
  refine lv_aload_n hM.1 hM.2.1 dX3_compareWithOthers_0 rfl (lv_at hl 0 rfl) ?_
  refine lv_iload_n hM.1 hM.2.1 dX3_compareWithOthers_1 rfl (lv_at hl 1 rfl) ?_
  refine cVr (As := [.int x1]) hM hK hX ⟨hI.1, trivial⟩ hA (met_X3_at l D ad cy S P x1 hv hq) (kX3_at hM.2.2.2.2 ql_RX3_53 (Nat.le_of_ble_eq_true rfl) (Nat.le_of_ble_eq_true rfl)) (v3 hK hX (hI.1 _ (id_P hv).2.1)) rfl hl.1 rfl (Nat.le_of_ble_eq_true rfl) dX3_compareWithOthers_2 ⟨Nat.zero_le _, Nat.zero_le _⟩ (fun S_1 P_2 i_3 hq H locs hX => ?_)
  have hT_4 := hq.1
  replace hq := hq.2
  refine g5 hM hK hX (hI.1 _ (id_T hT_4).1) 9 (by decide) qf_RX3_142 rfl dX3_compareWithOthers_5 ?_
  refine lv_istore_n (lv' := [(2, .int (S_1 5 P_2 i_3 9)), (0, .ref (ad 3 P 0)), (1, .int x1)]) hM.1 hM.2.1 dX3_compareWithOthers_8 rfl hl (by decide) rfl (fun ls hl => ?_)
  refine lv_aload_n hM.1 hM.2.1 dX3_compareWithOthers_9 rfl (lv_at hl 1 rfl) ?_
  refine lv_iload_n hM.1 hM.2.1 dX3_compareWithOthers_10 rfl (lv_at hl 2 rfl) ?_
  refine cVr (As := [.int x1]) hM hK hX ⟨hI.1, trivial⟩ hA (met_X3_at l D ad cy S_1 P x1 hv hq) (kX3_at hM.2.2.2.2 ql_RX3_53 (Nat.le_of_ble_eq_true rfl) (Nat.le_of_ble_eq_true rfl)) (v3 hK hX (hI.1 _ (id_P hv).2.1)) rfl hl.1 rfl (Nat.le_of_ble_eq_true rfl) dX3_compareWithOthers_11 ⟨Nat.zero_le _, Nat.zero_le _⟩ (fun S_5 P_6 i_7 hq H locs hX => ?_)
  refine lv_aload_n hM.1 hM.2.1 dX3_compareWithOthers_14 rfl (lv_at hl 1 rfl) ?_
  refine lv_iload_n hM.1 hM.2.1 dX3_compareWithOthers_15 rfl (lv_at hl 2 rfl) ?_
  refine cVi (As := [.int x1]) hM hK hX ⟨hI.1, trivial⟩ hA (met_X3_middleWithout l D ad cy S_5 P x1 hv hq) (kX3_middleWithout hM.2.2.2.2 ql_RX3_143 (Nat.le_of_ble_eq_true rfl) (Nat.le_of_ble_eq_true rfl)) (v3 hK hX (hI.1 _ (id_P hv).2.1)) rfl hl.1 rfl (Nat.le_of_ble_eq_true rfl) dX3_compareWithOthers_16 ⟨Nat.zero_le _, Nat.zero_le _⟩ (fun S_8 r_9 hq H locs hX => ?_)
  refine lv_aload_n hM.1 hM.2.1 dX3_compareWithOthers_19 rfl (lv_at hl 1 rfl) ?_
  refine g3 hM hK hX (hI.1 _ (id_P hv).2.1) 11 (by decide) qf_RX3_44 rfl dX3_compareWithOthers_20 ?_
  have hT_10 := hq.1
  replace hq := hq.2
  refine cVv (As := [.int r_9, .int (S_8 3 P 0 11)]) hM hK hX ⟨hI.1, trivial⟩ hA (met_X5_compareWith l D ad cy S_8 P_6 i_7 r_9 (S_8 3 P 0 11) hT_10 hq) (kX5_compareWith hM.2.2.2.2 ql_RX3_146 (Nat.le_of_ble_eq_true rfl) (Nat.le_of_ble_eq_true rfl)) (v5 hK hX (hI.1 _ (id_T hT_10).1)) rfl hl.1 rfl (Nat.le_of_ble_eq_true rfl) dX3_compareWithOthers_23 ⟨Nat.zero_le _, Nat.zero_le _⟩ (fun S_11 hq H locs hX => ?_)
  refine lv_aload_n hM.1 hM.2.1 dX3_compareWithOthers_26 rfl (lv_at hl 1 rfl) ?_
  refine lv_dup hM.1 hM.2.1 dX3_compareWithOthers_27 rfl ?_
  refine g3 hM hK hX (hI.1 _ (id_P hv).2.1) 10 (by decide) qf_RX3_71 rfl dX3_compareWithOthers_28 ?_
  refine lv_aload_n hM.1 hM.2.1 dX3_compareWithOthers_31 rfl (lv_at hl 1 rfl) ?_
  refine lv_iload_n hM.1 hM.2.1 dX3_compareWithOthers_32 rfl (lv_at hl 2 rfl) ?_
  refine cVr (As := [.int x1]) hM hK hX ⟨hI.1, trivial⟩ hA (met_X3_at l D ad cy S_11 P x1 hv hq) (kX3_at hM.2.2.2.2 ql_RX3_53 (Nat.le_of_ble_eq_true rfl) (Nat.le_of_ble_eq_true rfl)) (v3 hK hX (hI.1 _ (id_P hv).2.1)) rfl hl.1 rfl (Nat.le_of_ble_eq_true rfl) dX3_compareWithOthers_33 ⟨Nat.zero_le _, Nat.zero_le _⟩ (fun S_12 P_13 i_14 hq H locs hX => ?_)
  have hT_15 := hq.1
  replace hq := hq.2
  refine g5 hM hK hX (hI.1 _ (id_T hT_15).1) 9 (by decide) qf_RX3_142 rfl dX3_compareWithOthers_36 ?_
  refine lv_iload_n hM.1 hM.2.1 dX3_compareWithOthers_39 rfl (lv_at hl 0 rfl) ?_
  refine lv_isub hM.1 hM.2.1 dX3_compareWithOthers_40 ?_
  refine lv_iadd hM.1 hM.2.1 dX3_compareWithOthers_41 ?_
  refine p3_10 hM hK hX (hI.1 _ (id_P hv).2.1) qf_RX3_71 dX3_compareWithOthers_42 (fun S_16 e_17 H locs hX => ?_)
  replace hq := hq S_16 e_17
  exact e_v hM hX hlocks hret hq dX3_compareWithOthers_45
def rmX5_shutOutFrom : Room := { frames := 0, cells := 0, slots := 0, locals := 0 }
theorem kX5_shutOutFrom {R : Room} {s : State} {args : Array Value} {own : String} {index : Nat} (ht : ∀ w ∈ lw_all, w.before args s = true) (hl : Cond.methodLink own index yX5_shutOutFrom ∈ lw_all) (hf : rmX5_shutOutFrom.frames + 1 ≤ R.frames) (hlo : 8 + (2 + 11) + rmX5_shutOutFrom.locals ≤ R.locals) : CallW R s args own RX5 index yX5_shutOutFrom cX5_shutOutFrom 2 none (wA yX5_shutOutFrom cX5_shutOutFrom 2 none) rmX5_shutOutFrom 0 0 1 := cwV 1 ht (good_V hl qm_yX5_shutOutFrom qs_yX5_shutOutFrom qi_RX5 qc_yX5_shutOutFrom) rfl rfl rfl (by decide +kernel) ⟨hf, hlo⟩
set_option maxRecDepth 100000 in
set_option maxHeartbeats 4000000 in
theorem met_X5_shutOutFrom (l : Launch) (D : va_G) (ad : Adr) (cy : Nat → ClassId) (S : Mem) (P : Nat) (i : Nat) (x1 : Int32) {Q : Mem → Prop} (hv : P < 11 ∧ i < 11) (hq : vc_X5_shutOutFrom S P i x1 Q) : Cv l yX5_shutOutFrom (wA yX5_shutOutFrom cX5_shutOutFrom 2 none) rmX5_shutOutFrom D ad cy (IN []) [.ref (ad 5 P i), .int x1] S Q := by
  intro o sz hI
  refine mkC (own := RX5) (lv := [(0, .ref (ad 5 P i)), (1, .int x1)]) (by decide) rfl (Nat.le_of_ble_eq_true rfl) rfl ?_
  intro p e s m below meth c ls hsz hM hlocks hret hK hA hX hl
  unfold vc_X5_shutOutFrom at hq
  refine lv_aload_n hM.1 hM.2.1 dX5_shutOutFrom_0 rfl (lv_at hl 0 rfl) ?_
  refine g5 hM hK hX (hI.1 _ (id_T hv).1) 8 (by decide) qf_RX5_48 rfl dX5_shutOutFrom_1 ?_
  refine lv_iload_n hM.1 hM.2.1 dX5_shutOutFrom_4 rfl (lv_at hl 1 rfl) ?_
  refine lv_icmp_lt (tgt := 13) hM.1 hM.2.1 dX5_shutOutFrom_5 (by decide) (fun c_1 => ?_) (fun c_1 => ?_)
  · replace hq := hq.1 c_1
    exact e_v hM hX hlocks hret hq dX5_shutOutFrom_13
  replace hq := hq.2 c_1
  refine lv_aload_n hM.1 hM.2.1 dX5_shutOutFrom_8 rfl (lv_at hl 0 rfl) ?_
  refine lv_iconst (v := (1 : Int32)) hM.1 hM.2.1 dX5_shutOutFrom_9 (by decide) ?_
  refine p5_10 hM hK hX (hI.1 _ (id_T hv).1) ⟨rfl, rfl⟩ qf_RX5_51 dX5_shutOutFrom_10 (fun S_2 e_3 H locs hX => ?_)
  replace hq := hq S_2 e_3
  exact e_v hM hX hlocks hret hq dX5_shutOutFrom_13
def rmX3_lookForSpikes : Room := { frames := 3, cells := 0, slots := 0, locals := 66 }
theorem kX3_lookForSpikes {R : Room} {s : State} {args : Array Value} {own : String} {index : Nat} (ht : ∀ w ∈ lw_all, w.before args s = true) (hl : Cond.methodLink own index yX3_lookForSpikes ∈ lw_all) (hf : rmX3_lookForSpikes.frames + 1 ≤ R.frames) (hlo : 8 + (2 + 11) + rmX3_lookForSpikes.locals ≤ R.locals) : CallW R s args own RX3 index yX3_lookForSpikes cX3_lookForSpikes 2 none (wA yX3_lookForSpikes cX3_lookForSpikes 2 none) rmX3_lookForSpikes 0 0 0 := cwV 0 ht (good_V hl qm_yX3_lookForSpikes qs_yX3_lookForSpikes qi_RX3 qc_yX3_lookForSpikes) rfl rfl rfl (by decide +kernel) ⟨hf, hlo⟩
set_option maxRecDepth 100000 in
set_option maxHeartbeats 4000000 in
theorem met_X3_lookForSpikes (l : Launch) (D : va_G) (ad : Adr) (cy : Nat → ClassId) (S : Mem) (P : Nat) {Q : Mem → Prop} (hv : P < 11) (hq : vc_X3_lookForSpikes S P Q) : Cv l yX3_lookForSpikes (wA yX3_lookForSpikes cX3_lookForSpikes 2 none) rmX3_lookForSpikes D ad cy (IN []) [.ref (ad 3 P 0)] S Q := by
  intro o sz hI
  refine mkC (own := RX3) (lv := [(0, .ref (ad 3 P 0))]) (by decide) rfl (Nat.le_of_ble_eq_true rfl) rfl ?_
  intro p e s m below meth c ls hsz hM hlocks hret hK hA hX hl
  have J42 : ∀ {K0 : Mem → Int32 → Prop} (hk0 : ∀ (S : Mem) (y1 : Int32), K0 S y1 → ∀ (H : Heap) (locs : List Loc) (ls : Array Slot), PW D ad cy (AW ad o sz) s.heap o S H locs → lv_has ls 2 [(0, .ref (ad 3 P 0)), (1, .int y1)] → Wv D ad cy o sz Q p l e rmX3_lookForSpikes s m [.ref (ad 3 P 0)] below meth c H locs (F0 m 14 ls [])), ∀ {K1 : Mem → Prop} (hk1 : ∀ (S : Mem), K1 S → ∀ (H : Heap) (locs : List Loc) (ls : Array Slot), PW D ad cy (AW ad o sz) s.heap o S H locs → lv_has ls 2 [(0, .ref (ad 3 P 0))] → Wv D ad cy o sz Q p l e rmX3_lookForSpikes s m [.ref (ad 3 P 0)] below meth c H locs (F0 m 48 ls [])), ∀ (S : Mem) (y1 : Int32), vc_X3_lookForSpikes_J42 Q K0 K1 P S y1 → ∀ (H : Heap) (locs : List Loc) (ls : Array Slot), PW D ad cy (AW ad o sz) s.heap o S H locs → lv_has ls 2 [(0, .ref (ad 3 P 0)), (1, .int y1)] → Wv D ad cy o sz Q p l e rmX3_lookForSpikes s m [.ref (ad 3 P 0)] below meth c H locs (F0 m 42 ls []) := by
    intro K0 hk0 K1 hk1 S y1 hq H locs ls hX hl
    unfold vc_X3_lookForSpikes_J42 at hq
    refine lv_iinc (v := (y1 + (1 : Int32))) (lv' := [(1, .int (y1 + (1 : Int32))), (0, .ref (ad 3 P 0))]) hM.1 hM.2.1 dX3_lookForSpikes_42 hl (k := 1) rfl rfl (by decide) rfl (fun ls hl => ?_)
    refine lv_goto (tgt := 14) hM.1 hM.2.1 dX3_lookForSpikes_45 (by decide) ?_
    exact hk0 S (y1 + (1 : Int32)) hq _ _ _ hX (lv_sub hl [1, 0] rfl)
  have L14 : ∀ {K : Mem → Prop} (hk : ∀ (S : Mem), K S → ∀ (H : Heap) (locs : List Loc) (ls : Array Slot), PW D ad cy (AW ad o sz) s.heap o S H locs → lv_has ls 2 [(0, .ref (ad 3 P 0))] → Wv D ad cy o sz Q p l e rmX3_lookForSpikes s m [.ref (ad 3 P 0)] below meth c H locs (F0 m 48 ls [])), ∀ (n : Nat) (S : Mem) (y1 : Int32), vc_X3_lookForSpikes_L14 Q K P n S y1 → ∀ (H : Heap) (locs : List Loc) (ls : Array Slot), PW D ad cy (AW ad o sz) s.heap o S H locs → lv_has ls 2 [(0, .ref (ad 3 P 0)), (1, .int y1)] → Wv D ad cy o sz Q p l e rmX3_lookForSpikes s m [.ref (ad 3 P 0)] below meth c H locs (F0 m 14 ls []) := by
    intro K hk n
    induction n with
    | zero =>
      intro S y1 hq
      rw [vc_X3_lookForSpikes_L14] at hq
      exact hq.elim
    | succ n ih =>
      intro S y1 hq H locs ls hX hl
      rw [vc_X3_lookForSpikes_L14] at hq
      refine lv_iload_n hM.1 hM.2.1 dX3_lookForSpikes_14 rfl (lv_at hl 1 rfl) ?_
      refine lv_aload_n hM.1 hM.2.1 dX3_lookForSpikes_15 rfl (lv_at hl 0 rfl) ?_
      refine g3 hM hK hX (hI.1 _ (id_P hv).2.1) 6 (by decide) qf_RX3_50 rfl dX3_lookForSpikes_16 ?_
      refine lv_icmp_ge (tgt := 48) hM.1 hM.2.1 dX3_lookForSpikes_19 (by decide) (fun c_6 => ?_) (fun c_6 => ?_)
      · replace hq := hq.1 c_6
        exact hk S hq _ _ _ hX (lv_sub hl [0] rfl)
      replace hq := hq.2 c_6
      refine lv_aload_n hM.1 hM.2.1 dX3_lookForSpikes_22 rfl (lv_at hl 0 rfl) ?_
      refine lv_iload_n hM.1 hM.2.1 dX3_lookForSpikes_23 rfl (lv_at hl 1 rfl) ?_
      refine cVr (As := [.int y1]) hM hK hX ⟨hI.1, trivial⟩ hA (met_X3_at l D ad cy S P y1 hv hq) (kX3_at hM.2.2.2.2 ql_RX3_53 (Nat.le_of_ble_eq_true rfl) (Nat.le_of_ble_eq_true rfl)) (v3 hK hX (hI.1 _ (id_P hv).2.1)) rfl hl.1 rfl (Nat.le_of_ble_eq_true rfl) dX3_lookForSpikes_24 ⟨Nat.zero_le _, Nat.zero_le _⟩ (fun S_7 P_8 i_9 hq H locs hX => ?_)
      refine lv_aload_n hM.1 hM.2.1 dX3_lookForSpikes_27 rfl (lv_at hl 0 rfl) ?_
      refine g3 hM hK hX (hI.1 _ (id_P hv).2.1) 7 (by decide) qf_RX3_65 rfl dX3_lookForSpikes_28 ?_
      have hT_10 := hq.1
      replace hq := hq.2
      refine cVi (As := [.int (S_7 3 P 0 7)]) hM hK hX ⟨hI.1, trivial⟩ hA (met_X5_isAskedAndReadIn l D ad cy S_7 P_8 i_9 (S_7 3 P 0 7) hT_10 hq) (kX5_isAskedAndReadIn hM.2.2.2.2 ql_RX3_133 (Nat.le_of_ble_eq_true rfl) (Nat.le_of_ble_eq_true rfl)) (v5 hK hX (hI.1 _ (id_T hT_10).1)) rfl hl.1 rfl (Nat.le_of_ble_eq_true rfl) dX3_lookForSpikes_31 ⟨Nat.zero_le _, Nat.zero_le _⟩ (fun S_11 r_12 hq H locs hX => ?_)
      refine lv_if_eq (tgt := 42) hM.1 hM.2.1 dX3_lookForSpikes_34 (by decide) (fun c_13 => ?_) (fun c_13 => ?_)
      · replace hq := hq.1 c_13
        exact J42 ih hk S_11 y1 hq _ _ _ hX (lv_sub hl [0, 1] rfl)
      replace hq := hq.2 c_13
      refine lv_aload_n hM.1 hM.2.1 dX3_lookForSpikes_37 rfl (lv_at hl 0 rfl) ?_
      refine lv_iload_n hM.1 hM.2.1 dX3_lookForSpikes_38 rfl (lv_at hl 1 rfl) ?_
      refine cVv (As := [.int y1]) hM hK hX ⟨hI.1, trivial⟩ hA (met_X3_compareWithOthers l D ad cy S_11 P y1 hv hq) (kX3_compareWithOthers hM.2.2.2.2 ql_RX3_136 (Nat.le_of_ble_eq_true rfl) (Nat.le_of_ble_eq_true rfl)) (v3 hK hX (hI.1 _ (id_P hv).2.1)) rfl hl.1 rfl (Nat.le_of_ble_eq_true rfl) dX3_lookForSpikes_39 ⟨Nat.zero_le _, Nat.zero_le _⟩ (fun S_14 hq H locs hX => ?_)
      exact J42 ih hk S_14 y1 hq _ _ _ hX (lv_sub hl [0, 1] rfl)
  have J85 : ∀ {K0 : Mem → Int32 → Prop} (hk0 : ∀ (S : Mem) (y1 : Int32), K0 S y1 → ∀ (H : Heap) (locs : List Loc) (ls : Array Slot), PW D ad cy (AW ad o sz) s.heap o S H locs → lv_has ls 2 [(0, .ref (ad 3 P 0)), (1, .int y1)] → Wv D ad cy o sz Q p l e rmX3_lookForSpikes s m [.ref (ad 3 P 0)] below meth c H locs (F0 m 50 ls [])), ∀ {K1 : Mem → Prop} (hk1 : ∀ (S : Mem), K1 S → ∀ (H : Heap) (locs : List Loc) (ls : Array Slot), PW D ad cy (AW ad o sz) s.heap o S H locs → lv_has ls 2 [] → Wv D ad cy o sz Q p l e rmX3_lookForSpikes s m [.ref (ad 3 P 0)] below meth c H locs (F0 m 91 ls [])), ∀ (S : Mem) (y1 : Int32), vc_X3_lookForSpikes_J85 Q K0 K1 P S y1 → ∀ (H : Heap) (locs : List Loc) (ls : Array Slot), PW D ad cy (AW ad o sz) s.heap o S H locs → lv_has ls 2 [(0, .ref (ad 3 P 0)), (1, .int y1)] → Wv D ad cy o sz Q p l e rmX3_lookForSpikes s m [.ref (ad 3 P 0)] below meth c H locs (F0 m 85 ls []) := by
    intro K0 hk0 K1 hk1 S y1 hq H locs ls hX hl
    unfold vc_X3_lookForSpikes_J85 at hq
    refine lv_iinc (v := (y1 + (1 : Int32))) (lv' := [(1, .int (y1 + (1 : Int32))), (0, .ref (ad 3 P 0))]) hM.1 hM.2.1 dX3_lookForSpikes_85 hl (k := 1) rfl rfl (by decide) rfl (fun ls hl => ?_)
    refine lv_goto (tgt := 50) hM.1 hM.2.1 dX3_lookForSpikes_88 (by decide) ?_
    exact hk0 S (y1 + (1 : Int32)) hq _ _ _ hX (lv_sub hl [1, 0] rfl)
  have L50 : ∀ {K : Mem → Prop} (hk : ∀ (S : Mem), K S → ∀ (H : Heap) (locs : List Loc) (ls : Array Slot), PW D ad cy (AW ad o sz) s.heap o S H locs → lv_has ls 2 [] → Wv D ad cy o sz Q p l e rmX3_lookForSpikes s m [.ref (ad 3 P 0)] below meth c H locs (F0 m 91 ls [])), ∀ (n : Nat) (S : Mem) (y1 : Int32), vc_X3_lookForSpikes_L50 Q K P n S y1 → ∀ (H : Heap) (locs : List Loc) (ls : Array Slot), PW D ad cy (AW ad o sz) s.heap o S H locs → lv_has ls 2 [(0, .ref (ad 3 P 0)), (1, .int y1)] → Wv D ad cy o sz Q p l e rmX3_lookForSpikes s m [.ref (ad 3 P 0)] below meth c H locs (F0 m 50 ls []) := by
    intro K hk n
    induction n with
    | zero =>
      intro S y1 hq
      rw [vc_X3_lookForSpikes_L50] at hq
      exact hq.elim
    | succ n ih =>
      intro S y1 hq H locs ls hX hl
      rw [vc_X3_lookForSpikes_L50] at hq
      refine lv_iload_n hM.1 hM.2.1 dX3_lookForSpikes_50 rfl (lv_at hl 1 rfl) ?_
      refine lv_aload_n hM.1 hM.2.1 dX3_lookForSpikes_51 rfl (lv_at hl 0 rfl) ?_
      refine g3 hM hK hX (hI.1 _ (id_P hv).2.1) 6 (by decide) qf_RX3_50 rfl dX3_lookForSpikes_52 ?_
      refine lv_icmp_ge (tgt := 91) hM.1 hM.2.1 dX3_lookForSpikes_55 (by decide) (fun c_16 => ?_) (fun c_16 => ?_)
      · replace hq := hq.1 c_16
        exact hk S hq _ _ _ hX (lv_sub hl [] rfl)
      replace hq := hq.2 c_16
      refine lv_aload_n hM.1 hM.2.1 dX3_lookForSpikes_58 rfl (lv_at hl 0 rfl) ?_
      refine lv_iload_n hM.1 hM.2.1 dX3_lookForSpikes_59 rfl (lv_at hl 1 rfl) ?_
      refine cVr (As := [.int y1]) hM hK hX ⟨hI.1, trivial⟩ hA (met_X3_at l D ad cy S P y1 hv hq) (kX3_at hM.2.2.2.2 ql_RX3_53 (Nat.le_of_ble_eq_true rfl) (Nat.le_of_ble_eq_true rfl)) (v3 hK hX (hI.1 _ (id_P hv).2.1)) rfl hl.1 rfl (Nat.le_of_ble_eq_true rfl) dX3_lookForSpikes_60 ⟨Nat.zero_le _, Nat.zero_le _⟩ (fun S_17 P_18 i_19 hq H locs hX => ?_)
      refine lv_aload_n hM.1 hM.2.1 dX3_lookForSpikes_63 rfl (lv_at hl 0 rfl) ?_
      refine g3 hM hK hX (hI.1 _ (id_P hv).2.1) 7 (by decide) qf_RX3_65 rfl dX3_lookForSpikes_64 ?_
      have hT_20 := hq.1
      replace hq := hq.2
      refine cVi (As := [.int (S_17 3 P 0 7)]) hM hK hX ⟨hI.1, trivial⟩ hA (met_X5_isAskedAndReadIn l D ad cy S_17 P_18 i_19 (S_17 3 P 0 7) hT_20 hq) (kX5_isAskedAndReadIn hM.2.2.2.2 ql_RX3_133 (Nat.le_of_ble_eq_true rfl) (Nat.le_of_ble_eq_true rfl)) (v5 hK hX (hI.1 _ (id_T hT_20).1)) rfl hl.1 rfl (Nat.le_of_ble_eq_true rfl) dX3_lookForSpikes_67 ⟨Nat.zero_le _, Nat.zero_le _⟩ (fun S_21 r_22 hq H locs hX => ?_)
      refine lv_if_eq (tgt := 85) hM.1 hM.2.1 dX3_lookForSpikes_70 (by decide) (fun c_23 => ?_) (fun c_23 => ?_)
      · replace hq := hq.1 c_23
        exact J85 ih hk S_21 y1 hq _ _ _ hX (lv_sub hl [0, 1] rfl)
      replace hq := hq.2 c_23
      refine lv_aload_n hM.1 hM.2.1 dX3_lookForSpikes_73 rfl (lv_at hl 0 rfl) ?_
      refine lv_iload_n hM.1 hM.2.1 dX3_lookForSpikes_74 rfl (lv_at hl 1 rfl) ?_
      refine cVr (As := [.int y1]) hM hK hX ⟨hI.1, trivial⟩ hA (met_X3_at l D ad cy S_21 P y1 hv hq) (kX3_at hM.2.2.2.2 ql_RX3_53 (Nat.le_of_ble_eq_true rfl) (Nat.le_of_ble_eq_true rfl)) (v3 hK hX (hI.1 _ (id_P hv).2.1)) rfl hl.1 rfl (Nat.le_of_ble_eq_true rfl) dX3_lookForSpikes_75 ⟨Nat.zero_le _, Nat.zero_le _⟩ (fun S_24 P_25 i_26 hq H locs hX => ?_)
      refine lv_aload_n hM.1 hM.2.1 dX3_lookForSpikes_78 rfl (lv_at hl 0 rfl) ?_
      refine g3 hM hK hX (hI.1 _ (id_P hv).2.1) 12 (by decide) qf_RX3_47 rfl dX3_lookForSpikes_79 ?_
      have hT_27 := hq.1
      replace hq := hq.2
      refine cVv (As := [.int (S_24 3 P 0 12)]) hM hK hX ⟨hI.1, trivial⟩ hA (met_X5_shutOutFrom l D ad cy S_24 P_25 i_26 (S_24 3 P 0 12) hT_27 hq) (kX5_shutOutFrom hM.2.2.2.2 ql_RX3_139 (Nat.le_of_ble_eq_true rfl) (Nat.le_of_ble_eq_true rfl)) (v5 hK hX (hI.1 _ (id_T hT_27).1)) rfl hl.1 rfl (Nat.le_of_ble_eq_true rfl) dX3_lookForSpikes_82 ⟨Nat.zero_le _, Nat.zero_le _⟩ (fun S_28 hq H locs hX => ?_)
      exact J85 ih hk S_28 y1 hq _ _ _ hX (lv_sub hl [0, 1] rfl)
  unfold vc_X3_lookForSpikes at hq
  refine lv_aload_n hM.1 hM.2.1 dX3_lookForSpikes_0 rfl (lv_at hl 0 rfl) ?_
  refine cVi (As := []) hM hK hX ⟨hI.1, trivial⟩ hA (met_X3_maskOfAsked l D ad cy S P hv hq) (kX3_maskOfAsked hM.2.2.2.2 ql_RX3_125 (Nat.le_of_ble_eq_true rfl) (Nat.le_of_ble_eq_true rfl)) (v3 hK hX (hI.1 _ (id_P hv).2.1)) rfl hl.1 rfl (Nat.le_of_ble_eq_true rfl) dX3_lookForSpikes_1 ⟨Nat.zero_le _, Nat.zero_le _⟩ (fun S_1 r_2 hq H locs hX => ?_)
  refine cSi (As := [.int r_2]) hM hK hX ⟨hI.1, trivial⟩ hA (met_J6_bitCount_0f7a4 l D ad cy S_1 r_2 hq) (kJ6_bitCount_0f7a4 hM.2.2.2.2 ql_RX3_128 (Nat.le_of_ble_eq_true rfl) (Nat.le_of_ble_eq_true rfl)) rfl hl.1 rfl (Nat.le_of_ble_eq_true rfl) dX3_lookForSpikes_4 ⟨Nat.zero_le _, Nat.zero_le _⟩ (fun S_3 r_4 hq H locs hX => ?_)
  refine lv_iconst (v := (2 : Int32)) hM.1 hM.2.1 dX3_lookForSpikes_7 (by decide) ?_
  refine lv_icmp_ge (tgt := 12) hM.1 hM.2.1 dX3_lookForSpikes_8 (by decide) (fun c_5 => ?_) (fun c_5 => ?_)
  · replace hq := hq.1 c_5
    refine lv_iconst (v := (0 : Int32)) hM.1 hM.2.1 dX3_lookForSpikes_12 (by decide) ?_
    refine lv_istore_n (lv' := [(1, .int (0 : Int32)), (0, .ref (ad 3 P 0))]) hM.1 hM.2.1 dX3_lookForSpikes_13 rfl hl (by decide) rfl (fun ls hl => ?_)
    obtain ⟨k0, hq⟩ := hq
    refine L14 (fun S_15 hq H locs ls hX hl => ?_) k0 S_3 (0 : Int32) hq _ _ _ hX (lv_sub hl [1, 0] rfl)
    refine lv_iconst (v := (0 : Int32)) hM.1 hM.2.1 dX3_lookForSpikes_48 (by decide) ?_
    refine lv_istore_n (lv' := [(1, .int (0 : Int32)), (0, .ref (ad 3 P 0))]) hM.1 hM.2.1 dX3_lookForSpikes_49 rfl hl (by decide) rfl (fun ls hl => ?_)
    obtain ⟨k0, hq⟩ := hq
    refine L50 (fun S_29 hq H locs ls hX hl => ?_) k0 S_15 (0 : Int32) hq _ _ _ hX (lv_sub hl [1, 0] rfl)
    exact e_v hM hX hlocks hret hq dX3_lookForSpikes_91
  replace hq := hq.2 c_5
  exact e_v hM hX hlocks hret hq dX3_lookForSpikes_11
def rmX3_passHour : Room := { frames := 4, cells := 0, slots := 0, locals := 87 }
theorem kX3_passHour {R : Room} {s : State} {args : Array Value} {own : String} {index : Nat} (ht : ∀ w ∈ lw_all, w.before args s = true) (hl : Cond.methodLink own index yX3_passHour ∈ lw_all) (hf : rmX3_passHour.frames + 1 ≤ R.frames) (hlo : 8 + (3 + 11) + rmX3_passHour.locals ≤ R.locals) : CallW R s args own RX3 index yX3_passHour cX3_passHour 3 (some Jvm.ClassFile.FieldType.int) (wA yX3_passHour cX3_passHour 3 (some Jvm.ClassFile.FieldType.int)) rmX3_passHour 0 0 1 := cwV 1 ht (good_V hl qm_yX3_passHour qs_yX3_passHour qi_RX3 qc_yX3_passHour) rfl rfl rfl (by decide +kernel) ⟨hf, hlo⟩
set_option maxRecDepth 100000 in
set_option maxHeartbeats 4000000 in
theorem met_X3_passHour (l : Launch) (D : va_G) (ad : Adr) (cy : Nat → ClassId) (S : Mem) (P : Nat) (x1 : Int32) {Q : Mem → Int32 → Prop} (hv : P < 11) (hq : vc_X3_passHour S P x1 Q) : Ci l yX3_passHour (wA yX3_passHour cX3_passHour 3 (some Jvm.ClassFile.FieldType.int)) rmX3_passHour D ad cy (IN []) [.ref (ad 3 P 0), .int x1] S Q := by
  intro o sz hI
  refine mkC (own := RX3) (lv := [(0, .ref (ad 3 P 0)), (1, .int x1)]) (by decide) rfl (Nat.le_of_ble_eq_true rfl) rfl ?_
  intro p e s m below meth c ls hsz hM hlocks hret hK hA hX hl
  have L25 : ∀ {K : Mem → Prop} (hk : ∀ (S : Mem), K S → ∀ (H : Heap) (locs : List Loc) (ls : Array Slot), PW D ad cy (AW ad o sz) s.heap o S H locs → lv_has ls 3 [(0, .ref (ad 3 P 0))] → Wi D ad cy o sz Q p l e rmX3_passHour s m [.ref (ad 3 P 0), .int x1] below meth c H locs (F0 m 51 ls [])), ∀ (n : Nat) (S : Mem) (y2 : Int32), vc_X3_passHour_L25 Q K P x1 n S y2 → ∀ (H : Heap) (locs : List Loc) (ls : Array Slot), PW D ad cy (AW ad o sz) s.heap o S H locs → lv_has ls 3 [(0, .ref (ad 3 P 0)), (2, .int y2)] → Wi D ad cy o sz Q p l e rmX3_passHour s m [.ref (ad 3 P 0), .int x1] below meth c H locs (F0 m 25 ls []) := by
    intro K hk n
    induction n with
    | zero =>
      intro S y2 hq
      rw [vc_X3_passHour_L25] at hq
      exact hq.elim
    | succ n ih =>
      intro S y2 hq H locs ls hX hl
      rw [vc_X3_passHour_L25] at hq
      refine lv_iload_n hM.1 hM.2.1 dX3_passHour_25 rfl (lv_at hl 1 rfl) ?_
      refine lv_aload_n hM.1 hM.2.1 dX3_passHour_26 rfl (lv_at hl 0 rfl) ?_
      refine g3 hM hK hX (hI.1 _ (id_P hv).2.1) 6 (by decide) qf_RX3_50 rfl dX3_passHour_27 ?_
      refine lv_icmp_ge (tgt := 51) hM.1 hM.2.1 dX3_passHour_30 (by decide) (fun c_9 => ?_) (fun c_9 => ?_)
      · replace hq := hq.1 c_9
        exact hk S hq _ _ _ hX (lv_sub hl [0] rfl)
      replace hq := hq.2 c_9
      refine lv_aload_n hM.1 hM.2.1 dX3_passHour_33 rfl (lv_at hl 0 rfl) ?_
      refine lv_iload_n hM.1 hM.2.1 dX3_passHour_34 rfl (lv_at hl 1 rfl) ?_
      refine cVr (As := [.int y2]) hM hK hX ⟨hI.1, trivial⟩ hA (met_X3_at l D ad cy S P y2 hv hq) (kX3_at hM.2.2.2.2 ql_RX3_53 (Nat.le_of_ble_eq_true rfl) (Nat.le_of_ble_eq_true rfl)) (v3 hK hX (hI.1 _ (id_P hv).2.1)) rfl hl.1 rfl (Nat.le_of_ble_eq_true rfl) dX3_passHour_35 ⟨Nat.zero_le _, Nat.zero_le _⟩ (fun S_10 P_11 i_12 hq H locs hX => ?_)
      refine lv_aload_n hM.1 hM.2.1 dX3_passHour_38 rfl (lv_at hl 0 rfl) ?_
      refine g3 hM hK hX (hI.1 _ (id_P hv).2.1) 8 (by decide) qf_RX3_41 rfl dX3_passHour_39 ?_
      have hT_13 := hq.1
      replace hq := hq.2
      refine cVv (As := [.int (S_10 3 P 0 8)]) hM hK hX ⟨hI.1, trivial⟩ hA (met_X5_follow l D ad cy S_10 P_11 i_12 (S_10 3 P 0 8) hT_13 hq) (kX5_follow hM.2.2.2.2 ql_RX3_108 (Nat.le_of_ble_eq_true rfl) (Nat.le_of_ble_eq_true rfl)) (v5 hK hX (hI.1 _ (id_T hT_13).1)) rfl hl.1 rfl (Nat.le_of_ble_eq_true rfl) dX3_passHour_42 ⟨Nat.zero_le _, Nat.zero_le _⟩ (fun S_14 hq H locs hX => ?_)
      refine lv_iinc (v := (y2 + (1 : Int32))) (lv' := [(2, .int (y2 + (1 : Int32))), (0, .ref (ad 3 P 0))]) hM.1 hM.2.1 dX3_passHour_45 hl (k := 1) rfl rfl (by decide) rfl (fun ls hl => ?_)
      refine lv_goto (tgt := 25) hM.1 hM.2.1 dX3_passHour_48 (by decide) ?_
      exact ih S_14 (y2 + (1 : Int32)) hq _ _ _ hX (lv_sub hl [1, 0] rfl)
  unfold vc_X3_passHour at hq
  refine lv_aload_n hM.1 hM.2.1 dX3_passHour_0 rfl (lv_at hl 0 rfl) ?_
  refine lv_aload_n hM.1 hM.2.1 dX3_passHour_1 rfl (lv_at hl 0 rfl) ?_
  refine cVi (As := []) hM hK hX ⟨hI.1, trivial⟩ hA (met_X3_mean l D ad cy S P hv hq) (kX3_mean hM.2.2.2.2 ql_RX3_104 (Nat.le_of_ble_eq_true rfl) (Nat.le_of_ble_eq_true rfl)) (v3 hK hX (hI.1 _ (id_P hv).2.1)) rfl hl.1 rfl (Nat.le_of_ble_eq_true rfl) dX3_passHour_2 ⟨Nat.zero_le _, Nat.zero_le _⟩ (fun S_1 r_2 hq H locs hX => ?_)
  refine p3_5 hM hK hX (hI.1 _ (id_P hv).2.1) qf_RX3_37 dX3_passHour_5 (fun S_3 e_4 H locs hX => ?_)
  replace hq := hq S_3 e_4
  refine lv_aload_n hM.1 hM.2.1 dX3_passHour_8 rfl (lv_at hl 0 rfl) ?_
  refine lv_dup hM.1 hM.2.1 dX3_passHour_9 rfl ?_
  refine g3 hM hK hX (hI.1 _ (id_P hv).2.1) 7 (by decide) qf_RX3_65 rfl dX3_passHour_10 ?_
  refine lv_iconst (v := (1 : Int32)) hM.1 hM.2.1 dX3_passHour_13 (by decide) ?_
  refine lv_iadd hM.1 hM.2.1 dX3_passHour_14 ?_
  refine p3_7 hM hK hX (hI.1 _ (id_P hv).2.1) qf_RX3_65 dX3_passHour_15 (fun S_5 e_6 H locs hX => ?_)
  replace hq := hq S_5 e_6
  refine lv_aload_n hM.1 hM.2.1 dX3_passHour_18 rfl (lv_at hl 0 rfl) ?_
  refine lv_iload_n hM.1 hM.2.1 dX3_passHour_19 rfl (lv_at hl 1 rfl) ?_
  refine p3_8 hM hK hX (hI.1 _ (id_P hv).2.1) qf_RX3_41 dX3_passHour_20 (fun S_7 e_8 H locs hX => ?_)
  replace hq := hq S_7 e_8
  refine lv_iconst (v := (0 : Int32)) hM.1 hM.2.1 dX3_passHour_23 (by decide) ?_
  refine lv_istore_n (lv' := [(2, .int (0 : Int32)), (0, .ref (ad 3 P 0)), (1, .int x1)]) hM.1 hM.2.1 dX3_passHour_24 rfl hl (by decide) rfl (fun ls hl => ?_)
  obtain ⟨k0, hq⟩ := hq
  refine L25 (fun S_15 hq H locs ls hX hl => ?_) k0 S_7 (0 : Int32) hq _ _ _ hX (lv_sub hl [1, 0] rfl)
  refine lv_aload_n hM.1 hM.2.1 dX3_passHour_51 rfl (lv_at hl 0 rfl) ?_
  refine g3 hM hK hX (hI.1 _ (id_P hv).2.1) 9 (by decide) qf_RX3_68 rfl dX3_passHour_52 ?_
  refine lv_istore_n (lv' := [(2, .int (S_15 3 P 0 9)), (0, .ref (ad 3 P 0))]) hM.1 hM.2.1 dX3_passHour_55 rfl hl (by decide) rfl (fun ls hl => ?_)
  refine lv_aload_n hM.1 hM.2.1 dX3_passHour_56 rfl (lv_at hl 1 rfl) ?_
  refine cVv (As := []) hM hK hX ⟨hI.1, trivial⟩ hA (met_X3_readRows l D ad cy S_15 P hv hq) (kX3_readRows hM.2.2.2.2 ql_RX3_112 (Nat.le_of_ble_eq_true rfl) (Nat.le_of_ble_eq_true rfl)) (v3 hK hX (hI.1 _ (id_P hv).2.1)) rfl hl.1 rfl (Nat.le_of_ble_eq_true rfl) dX3_passHour_57 ⟨Nat.zero_le _, Nat.zero_le _⟩ (fun S_16 hq H locs hX => ?_)
  refine lv_aload_n hM.1 hM.2.1 dX3_passHour_60 rfl (lv_at hl 1 rfl) ?_
  refine g3 hM hK hX (hI.1 _ (id_P hv).2.1) 9 (by decide) qf_RX3_68 rfl dX3_passHour_61 ?_
  refine lv_iload_n hM.1 hM.2.1 dX3_passHour_64 rfl (lv_at hl 0 rfl) ?_
  refine lv_icmp_le (tgt := 72) hM.1 hM.2.1 dX3_passHour_65 (by decide) (fun c_17 => ?_) (fun c_17 => ?_)
  · replace hq := hq.1 c_17
    refine lv_aload_n hM.1 hM.2.1 dX3_passHour_72 rfl (lv_at hl 1 rfl) ?_
    refine g3 hM hK hX (hI.1 _ (id_P hv).2.1) 9 (by decide) qf_RX3_68 rfl dX3_passHour_73 ?_
    refine lv_iload_n hM.1 hM.2.1 dX3_passHour_76 rfl (lv_at hl 0 rfl) ?_
    refine lv_isub hM.1 hM.2.1 dX3_passHour_77 ?_
    exact e_i hM hX hlocks hret hq dX3_passHour_78
  replace hq := hq.2 c_17
  refine lv_aload_n hM.1 hM.2.1 dX3_passHour_68 rfl (lv_at hl 1 rfl) ?_
  refine cVv (As := []) hM hK hX ⟨hI.1, trivial⟩ hA (met_X3_lookForSpikes l D ad cy S_16 P hv hq) (kX3_lookForSpikes hM.2.2.2.2 ql_RX3_115 (Nat.le_of_ble_eq_true rfl) (Nat.le_of_ble_eq_true rfl)) (v3 hK hX (hI.1 _ (id_P hv).2.1)) rfl hl.1 rfl (Nat.le_of_ble_eq_true rfl) dX3_passHour_69 ⟨Nat.zero_le _, Nat.zero_le _⟩ (fun S_18 hq H locs hX => ?_)
  refine lv_aload_n hM.1 hM.2.1 dX3_passHour_72 rfl (lv_at hl 1 rfl) ?_
  refine g3 hM hK hX (hI.1 _ (id_P hv).2.1) 9 (by decide) qf_RX3_68 rfl dX3_passHour_73 ?_
  refine lv_iload_n hM.1 hM.2.1 dX3_passHour_76 rfl (lv_at hl 0 rfl) ?_
  refine lv_isub hM.1 hM.2.1 dX3_passHour_77 ?_
  exact e_i hM hX hlocks hret hq dX3_passHour_78
def rmX3_passHours : Room := { frames := 5, cells := 0, slots := 0, locals := 109 }
theorem kX3_passHours {R : Room} {s : State} {args : Array Value} {own : String} {index : Nat} (ht : ∀ w ∈ lw_all, w.before args s = true) (hl : Cond.methodLink own index yX3_passHours ∈ lw_all) (hf : rmX3_passHours.frames + 1 ≤ R.frames) (hlo : 8 + (5 + 11) + rmX3_passHours.locals ≤ R.locals) : CallW R s args own RX3 index yX3_passHours cX3_passHours 5 none (wA yX3_passHours cX3_passHours 5 none) rmX3_passHours 0 0 2 := cwV 2 ht (good_V hl qm_yX3_passHours qs_yX3_passHours qi_RX3 qc_yX3_passHours) rfl rfl rfl (by decide +kernel) ⟨hf, hlo⟩
set_option maxRecDepth 100000 in
set_option maxHeartbeats 4000000 in
theorem met_X3_passHours (l : Launch) (D : va_G) (ad : Adr) (cy : Nat → ClassId) (S : Mem) (P : Nat) (x1 : Int32) (x2 : Int32) {Q : Mem → Prop} (hv : P < 11) (hq : vc_X3_passHours S P x1 x2 Q) : Cv l yX3_passHours (wA yX3_passHours cX3_passHours 5 none) rmX3_passHours D ad cy (IN []) [.ref (ad 3 P 0), .int x1, .int x2] S Q := by
  intro o sz hI
  refine mkC (own := RX3) (lv := [(0, .ref (ad 3 P 0)), (1, .int x1), (2, .int x2)]) (by decide) rfl (Nat.le_of_ble_eq_true rfl) rfl ?_
  intro p e s m below meth c ls hsz hM hlocks hret hK hA hX hl
  have L2 : ∀ {K : Mem → Prop} (hk : ∀ (S : Mem), K S → ∀ (H : Heap) (locs : List Loc) (ls : Array Slot), PW D ad cy (AW ad o sz) s.heap o S H locs → lv_has ls 5 [] → Wv D ad cy o sz Q p l e rmX3_passHours s m [.ref (ad 3 P 0), .int x1, .int x2] below meth c H locs (F0 m 40 ls [])), ∀ (n : Nat) (S : Mem) (y3 : Int32), vc_X3_passHours_L2 Q K P x1 x2 n S y3 → ∀ (H : Heap) (locs : List Loc) (ls : Array Slot), PW D ad cy (AW ad o sz) s.heap o S H locs → lv_has ls 5 [(0, .ref (ad 3 P 0)), (1, .int x1), (2, .int x2), (3, .int y3)] → Wv D ad cy o sz Q p l e rmX3_passHours s m [.ref (ad 3 P 0), .int x1, .int x2] below meth c H locs (F0 m 2 ls []) := by
    intro K hk n
    induction n with
    | zero =>
      intro S y3 hq
      rw [vc_X3_passHours_L2] at hq
      exact hq.elim
    | succ n ih =>
      intro S y3 hq H locs ls hX hl
      rw [vc_X3_passHours_L2] at hq
      refine lv_iload_n hM.1 hM.2.1 dX3_passHours_2 rfl (lv_at hl 3 rfl) ?_
      refine lv_iload_n hM.1 hM.2.1 dX3_passHours_3 rfl (lv_at hl 1 rfl) ?_
      refine lv_icmp_ge (tgt := 40) hM.1 hM.2.1 dX3_passHours_4 (by decide) (fun c_1 => ?_) (fun c_1 => ?_)
      · replace hq := hq.1 c_1
        exact hk S hq _ _ _ hX (lv_sub hl [] rfl)
      replace hq := hq.2 c_1
      refine lv_aload_n hM.1 hM.2.1 dX3_passHours_7 rfl (lv_at hl 0 rfl) ?_
      refine g3 hM hK hX (hI.1 _ (id_P hv).2.1) 8 (by decide) qf_RX3_41 rfl dX3_passHours_8 ?_
      refine lv_iload_n hM.1 hM.2.1 dX3_passHours_11 rfl (lv_at hl 2 rfl) ?_
      refine lv_iadd hM.1 hM.2.1 dX3_passHours_12 ?_
      refine lv_istore (lv' := [(4, .int ((S 3 P 0 8) + x2)), (0, .ref (ad 3 P 0)), (1, .int x1), (2, .int x2), (3, .int y3)]) hM.1 hM.2.1 dX3_passHours_13 hl (by decide) rfl (fun ls hl => ?_)
      refine lv_aload_n hM.1 hM.2.1 dX3_passHours_15 rfl (lv_at hl 1 rfl) ?_
      refine lv_sipush (v := (-5000 : Int32)) hM.1 hM.2.1 dX3_passHours_16 (by decide) ?_
      refine lv_sipush (v := (5000 : Int32)) hM.1 hM.2.1 dX3_passHours_19 (by decide) ?_
      refine lv_iload hM.1 hM.2.1 dX3_passHours_22 (lv_at hl 0 rfl) ?_
      refine r_min hM hl.1 ql_RX3_93 (Nat.le_of_ble_eq_true rfl) (Nat.le_of_ble_eq_true rfl) (Nat.le_of_ble_eq_true rfl) (Nat.le_of_ble_eq_true rfl) dX3_passHours_24 ?_
      refine r_max hM hl.1 ql_RX3_98 (Nat.le_of_ble_eq_true rfl) (Nat.le_of_ble_eq_true rfl) (Nat.le_of_ble_eq_true rfl) (Nat.le_of_ble_eq_true rfl) dX3_passHours_27 ?_
      refine cVi (As := [.int (imax (-5000 : Int32) (imin (5000 : Int32) ((S 3 P 0 8) + x2)))]) hM hK hX ⟨hI.1, trivial⟩ hA (met_X3_passHour l D ad cy S P (imax (-5000 : Int32) (imin (5000 : Int32) ((S 3 P 0 8) + x2))) hv hq) (kX3_passHour hM.2.2.2.2 ql_RX3_101 (Nat.le_of_ble_eq_true rfl) (Nat.le_of_ble_eq_true rfl)) (v3 hK hX (hI.1 _ (id_P hv).2.1)) rfl hl.1 rfl (Nat.le_of_ble_eq_true rfl) dX3_passHours_30 ⟨Nat.zero_le _, Nat.zero_le _⟩ (fun S_2 r_3 hq H locs hX => ?_)
      refine lv_pop hM.1 hM.2.1 dX3_passHours_33 rfl ?_
      refine lv_iinc (v := (y3 + (1 : Int32))) (lv' := [(3, .int (y3 + (1 : Int32))), (4, .int ((S 3 P 0 8) + x2)), (0, .ref (ad 3 P 0)), (1, .int x1), (2, .int x2)]) hM.1 hM.2.1 dX3_passHours_34 hl (k := 4) rfl rfl (by decide) rfl (fun ls hl => ?_)
      refine lv_goto (tgt := 2) hM.1 hM.2.1 dX3_passHours_37 (by decide) ?_
      exact ih S_2 (y3 + (1 : Int32)) hq _ _ _ hX (lv_sub hl [2, 3, 4, 0] rfl)
  unfold vc_X3_passHours at hq
  refine lv_iconst (v := (0 : Int32)) hM.1 hM.2.1 dX3_passHours_0 (by decide) ?_
  refine lv_istore_n (lv' := [(3, .int (0 : Int32)), (0, .ref (ad 3 P 0)), (1, .int x1), (2, .int x2)]) hM.1 hM.2.1 dX3_passHours_1 rfl hl (by decide) rfl (fun ls hl => ?_)
  obtain ⟨k0, hq⟩ := hq
  refine L2 (fun S_4 hq H locs ls hX hl => ?_) k0 S (0 : Int32) hq _ _ _ hX (lv_sub hl [1, 2, 3, 0] rfl)
  exact e_v hM hX hlocks hret hq dX3_passHours_40
def rmX3_maskOfShutOut : Room := { frames := 1, cells := 0, slots := 0, locals := 22 }
theorem kX3_maskOfShutOut {R : Room} {s : State} {args : Array Value} {own : String} {index : Nat} (ht : ∀ w ∈ lw_all, w.before args s = true) (hl : Cond.methodLink own index yX3_maskOfShutOut ∈ lw_all) (hf : rmX3_maskOfShutOut.frames + 1 ≤ R.frames) (hlo : 8 + (3 + 11) + rmX3_maskOfShutOut.locals ≤ R.locals) : CallW R s args own RX3 index yX3_maskOfShutOut cX3_maskOfShutOut 3 (some Jvm.ClassFile.FieldType.int) (wA yX3_maskOfShutOut cX3_maskOfShutOut 3 (some Jvm.ClassFile.FieldType.int)) rmX3_maskOfShutOut 0 0 0 := cwV 0 ht (good_V hl qm_yX3_maskOfShutOut qs_yX3_maskOfShutOut qi_RX3 qc_yX3_maskOfShutOut) rfl rfl rfl (by decide +kernel) ⟨hf, hlo⟩
set_option maxRecDepth 100000 in
set_option maxHeartbeats 4000000 in
theorem met_X3_maskOfShutOut (l : Launch) (D : va_G) (ad : Adr) (cy : Nat → ClassId) (S : Mem) (P : Nat) {Q : Mem → Int32 → Prop} (hv : P < 11) (hq : vc_X3_maskOfShutOut S P Q) : Ci l yX3_maskOfShutOut (wA yX3_maskOfShutOut cX3_maskOfShutOut 3 (some Jvm.ClassFile.FieldType.int)) rmX3_maskOfShutOut D ad cy (IN []) [.ref (ad 3 P 0)] S Q := by
  intro o sz hI
  refine mkC (own := RX3) (lv := [(0, .ref (ad 3 P 0))]) (by decide) rfl (Nat.le_of_ble_eq_true rfl) rfl ?_
  intro p e s m below meth c ls hsz hM hlocks hret hK hA hX hl
  have J29 : ∀ {K0 : Mem → Int32 → Int32 → Prop} (hk0 : ∀ (S : Mem) (y1 : Int32) (y2 : Int32), K0 S y1 y2 → ∀ (H : Heap) (locs : List Loc) (ls : Array Slot), PW D ad cy (AW ad o sz) s.heap o S H locs → lv_has ls 3 [(0, .ref (ad 3 P 0)), (1, .int y1), (2, .int y2)] → Wi D ad cy o sz Q p l e rmX3_maskOfShutOut s m [.ref (ad 3 P 0)] below meth c H locs (F0 m 4 ls [])), ∀ {K1 : Mem → Int32 → Prop} (hk1 : ∀ (S : Mem) (y1 : Int32), K1 S y1 → ∀ (H : Heap) (locs : List Loc) (ls : Array Slot), PW D ad cy (AW ad o sz) s.heap o S H locs → lv_has ls 3 [(1, .int y1)] → Wi D ad cy o sz Q p l e rmX3_maskOfShutOut s m [.ref (ad 3 P 0)] below meth c H locs (F0 m 35 ls [])), ∀ (S : Mem) (y1 : Int32) (y2 : Int32), vc_X3_maskOfShutOut_J29 Q K0 K1 P S y1 y2 → ∀ (H : Heap) (locs : List Loc) (ls : Array Slot), PW D ad cy (AW ad o sz) s.heap o S H locs → lv_has ls 3 [(0, .ref (ad 3 P 0)), (1, .int y1), (2, .int y2)] → Wi D ad cy o sz Q p l e rmX3_maskOfShutOut s m [.ref (ad 3 P 0)] below meth c H locs (F0 m 29 ls []) := by
    intro K0 hk0 K1 hk1 S y1 y2 hq H locs ls hX hl
    unfold vc_X3_maskOfShutOut_J29 at hq
    refine lv_iinc (v := (y2 + (1 : Int32))) (lv' := [(2, .int (y2 + (1 : Int32))), (0, .ref (ad 3 P 0)), (1, .int y1)]) hM.1 hM.2.1 dX3_maskOfShutOut_29 hl (k := 2) rfl rfl (by decide) rfl (fun ls hl => ?_)
    refine lv_goto (tgt := 4) hM.1 hM.2.1 dX3_maskOfShutOut_32 (by decide) ?_
    exact hk0 S y1 (y2 + (1 : Int32)) hq _ _ _ hX (lv_sub hl [1, 2, 0] rfl)
  have L4 : ∀ {K : Mem → Int32 → Prop} (hk : ∀ (S : Mem) (y1 : Int32), K S y1 → ∀ (H : Heap) (locs : List Loc) (ls : Array Slot), PW D ad cy (AW ad o sz) s.heap o S H locs → lv_has ls 3 [(1, .int y1)] → Wi D ad cy o sz Q p l e rmX3_maskOfShutOut s m [.ref (ad 3 P 0)] below meth c H locs (F0 m 35 ls [])), ∀ (n : Nat) (S : Mem) (y1 : Int32) (y2 : Int32), vc_X3_maskOfShutOut_L4 Q K P n S y1 y2 → ∀ (H : Heap) (locs : List Loc) (ls : Array Slot), PW D ad cy (AW ad o sz) s.heap o S H locs → lv_has ls 3 [(0, .ref (ad 3 P 0)), (1, .int y1), (2, .int y2)] → Wi D ad cy o sz Q p l e rmX3_maskOfShutOut s m [.ref (ad 3 P 0)] below meth c H locs (F0 m 4 ls []) := by
    intro K hk n
    induction n with
    | zero =>
      intro S y1 y2 hq
      rw [vc_X3_maskOfShutOut_L4] at hq
      exact hq.elim
    | succ n ih =>
      intro S y1 y2 hq H locs ls hX hl
      rw [vc_X3_maskOfShutOut_L4] at hq
      refine lv_iload_n hM.1 hM.2.1 dX3_maskOfShutOut_4 rfl (lv_at hl 2 rfl) ?_
      refine lv_aload_n hM.1 hM.2.1 dX3_maskOfShutOut_5 rfl (lv_at hl 0 rfl) ?_
      refine g3 hM hK hX (hI.1 _ (id_P hv).2.1) 6 (by decide) qf_RX3_50 rfl dX3_maskOfShutOut_6 ?_
      refine lv_icmp_ge (tgt := 35) hM.1 hM.2.1 dX3_maskOfShutOut_9 (by decide) (fun c_1 => ?_) (fun c_1 => ?_)
      · replace hq := hq.1 c_1
        exact hk S y1 hq _ _ _ hX (lv_sub hl [1] rfl)
      replace hq := hq.2 c_1
      refine lv_aload_n hM.1 hM.2.1 dX3_maskOfShutOut_12 rfl (lv_at hl 0 rfl) ?_
      refine lv_iload_n hM.1 hM.2.1 dX3_maskOfShutOut_13 rfl (lv_at hl 2 rfl) ?_
      refine cVr (As := [.int y2]) hM hK hX ⟨hI.1, trivial⟩ hA (met_X3_at l D ad cy S P y2 hv hq) (kX3_at hM.2.2.2.2 ql_RX3_53 (Nat.le_of_ble_eq_true rfl) (Nat.le_of_ble_eq_true rfl)) (v3 hK hX (hI.1 _ (id_P hv).2.1)) rfl hl.1 rfl (Nat.le_of_ble_eq_true rfl) dX3_maskOfShutOut_14 ⟨Nat.zero_le _, Nat.zero_le _⟩ (fun S_2 P_3 i_4 hq H locs hX => ?_)
      have hT_5 := hq.1
      replace hq := hq.2
      refine g5 hM hK hX (hI.1 _ (id_T hT_5).1) 10 (by decide) qf_RX3_166 rfl dX3_maskOfShutOut_17 ?_
      refine lv_if_eq (tgt := 29) hM.1 hM.2.1 dX3_maskOfShutOut_20 (by decide) (fun c_6 => ?_) (fun c_6 => ?_)
      · replace hq := hq.1 c_6
        exact J29 ih hk S_2 y1 y2 hq _ _ _ hX (lv_sub hl [0, 1, 2] rfl)
      replace hq := hq.2 c_6
      refine lv_iload_n hM.1 hM.2.1 dX3_maskOfShutOut_23 rfl (lv_at hl 1 rfl) ?_
      refine lv_iconst (v := (1 : Int32)) hM.1 hM.2.1 dX3_maskOfShutOut_24 (by decide) ?_
      refine lv_iload_n hM.1 hM.2.1 dX3_maskOfShutOut_25 rfl (lv_at hl 2 rfl) ?_
      refine lv_ishl hM.1 hM.2.1 dX3_maskOfShutOut_26 ?_
      refine lv_ior hM.1 hM.2.1 dX3_maskOfShutOut_27 ?_
      refine lv_istore_n (lv' := [(1, .int (y1 ||| ((1 : Int32) <<< (y2 &&& 31)))), (0, .ref (ad 3 P 0)), (2, .int y2)]) hM.1 hM.2.1 dX3_maskOfShutOut_28 rfl hl (by decide) rfl (fun ls hl => ?_)
      exact J29 ih hk S_2 (y1 ||| ((1 : Int32) <<< (y2 &&& 31))) y2 hq _ _ _ hX (lv_sub hl [1, 0, 2] rfl)
  unfold vc_X3_maskOfShutOut at hq
  refine lv_iconst (v := (0 : Int32)) hM.1 hM.2.1 dX3_maskOfShutOut_0 (by decide) ?_
  refine lv_istore_n (lv' := [(1, .int (0 : Int32)), (0, .ref (ad 3 P 0))]) hM.1 hM.2.1 dX3_maskOfShutOut_1 rfl hl (by decide) rfl (fun ls hl => ?_)
  refine lv_iconst (v := (0 : Int32)) hM.1 hM.2.1 dX3_maskOfShutOut_2 (by decide) ?_
  refine lv_istore_n (lv' := [(2, .int (0 : Int32)), (1, .int (0 : Int32)), (0, .ref (ad 3 P 0))]) hM.1 hM.2.1 dX3_maskOfShutOut_3 rfl hl (by decide) rfl (fun ls hl => ?_)
  obtain ⟨k0, hq⟩ := hq
  refine L4 (fun S_7 y1_8 hq H locs ls hX hl => ?_) k0 S (0 : Int32) (0 : Int32) hq _ _ _ hX (lv_sub hl [2, 1, 0] rfl)
  refine lv_iload_n hM.1 hM.2.1 dX3_maskOfShutOut_35 rfl (lv_at hl 0 rfl) ?_
  exact e_i hM hX hlocks hret hq dX3_maskOfShutOut_36
def rmX3_slope : Room := { frames := 2, cells := 0, slots := 0, locals := 45 }
theorem kX3_slope {R : Room} {s : State} {args : Array Value} {own : String} {index : Nat} (ht : ∀ w ∈ lw_all, w.before args s = true) (hl : Cond.methodLink own index yX3_slope ∈ lw_all) (hf : rmX3_slope.frames + 1 ≤ R.frames) (hlo : 8 + (2 + 11) + rmX3_slope.locals ≤ R.locals) : CallW R s args own RX3 index yX3_slope cX3_slope 2 (some Jvm.ClassFile.FieldType.int) (wA yX3_slope cX3_slope 2 (some Jvm.ClassFile.FieldType.int)) rmX3_slope 0 0 0 := cwV 0 ht (good_V hl qm_yX3_slope qs_yX3_slope qi_RX3 qc_yX3_slope) rfl rfl rfl (by decide +kernel) ⟨hf, hlo⟩
set_option maxRecDepth 100000 in
set_option maxHeartbeats 4000000 in
theorem met_X3_slope (l : Launch) (D : va_G) (ad : Adr) (cy : Nat → ClassId) (S : Mem) (P : Nat) {Q : Mem → Int32 → Prop} (hv : P < 11) (hq : vc_X3_slope S P Q) : Ci l yX3_slope (wA yX3_slope cX3_slope 2 (some Jvm.ClassFile.FieldType.int)) rmX3_slope D ad cy (IN []) [.ref (ad 3 P 0)] S Q := by
  intro o sz hI
  refine mkC (own := RX3) (lv := [(0, .ref (ad 3 P 0))]) (by decide) rfl (Nat.le_of_ble_eq_true rfl) rfl ?_
  intro p e s m below meth c ls hsz hM hlocks hret hK hA hX hl
  unfold vc_X3_slope at hq
  refine lv_aload_n hM.1 hM.2.1 dX3_slope_0 rfl (lv_at hl 0 rfl) ?_
  refine cVi (As := []) hM hK hX ⟨hI.1, trivial⟩ hA (met_X3_mean l D ad cy S P hv hq) (kX3_mean hM.2.2.2.2 ql_RX3_104 (Nat.le_of_ble_eq_true rfl) (Nat.le_of_ble_eq_true rfl)) (v3 hK hX (hI.1 _ (id_P hv).2.1)) rfl hl.1 rfl (Nat.le_of_ble_eq_true rfl) dX3_slope_1 ⟨Nat.zero_le _, Nat.zero_le _⟩ (fun S_1 r_2 hq H locs hX => ?_)
  refine lv_istore_n (lv' := [(1, .int r_2), (0, .ref (ad 3 P 0))]) hM.1 hM.2.1 dX3_slope_4 rfl hl (by decide) rfl (fun ls hl => ?_)
  refine lv_iload_n hM.1 hM.2.1 dX3_slope_5 rfl (lv_at hl 0 rfl) ?_
  refine lv_ldc hM.1 hM.2.1 hM.2.2.2.1 (hM.2.2.2.2 _ qn_RX3_36) dX3_slope_6 ?_
  refine lv_icmp_eq (tgt := 20) hM.1 hM.2.1 dX3_slope_8 (by decide) (fun c_3 => ?_) (fun c_3 => ?_)
  · replace hq := hq.1 c_3
    refine lv_ldc hM.1 hM.2.1 hM.2.2.2.1 (hM.2.2.2.2 _ qn_RX3_36) dX3_slope_20 ?_
    refine lv_goto (tgt := 31) hM.1 hM.2.1 dX3_slope_22 (by decide) ?_
    exact e_i hM hX hlocks hret hq dX3_slope_31
  replace hq := hq.2 c_3
  refine lv_aload_n hM.1 hM.2.1 dX3_slope_11 rfl (lv_at hl 1 rfl) ?_
  refine g3 hM hK hX (hI.1 _ (id_P hv).2.1) 5 (by decide) qf_RX3_37 rfl dX3_slope_12 ?_
  refine lv_ldc hM.1 hM.2.1 hM.2.2.2.1 (hM.2.2.2.2 _ qn_RX3_36) dX3_slope_15 ?_
  refine lv_icmp_ne (tgt := 25) hM.1 hM.2.1 dX3_slope_17 (by decide) (fun c_4 => ?_) (fun c_4 => ?_)
  · replace hq := hq.1 c_4
    refine lv_iload_n hM.1 hM.2.1 dX3_slope_25 rfl (lv_at hl 0 rfl) ?_
    refine lv_aload_n hM.1 hM.2.1 dX3_slope_26 rfl (lv_at hl 1 rfl) ?_
    refine g3 hM hK hX (hI.1 _ (id_P hv).2.1) 5 (by decide) qf_RX3_37 rfl dX3_slope_27 ?_
    refine lv_isub hM.1 hM.2.1 dX3_slope_30 ?_
    exact e_i hM hX hlocks hret hq dX3_slope_31
  replace hq := hq.2 c_4
  refine lv_ldc hM.1 hM.2.1 hM.2.2.2.1 (hM.2.2.2.2 _ qn_RX3_36) dX3_slope_20 ?_
  refine lv_goto (tgt := 31) hM.1 hM.2.1 dX3_slope_22 (by decide) ?_
  exact e_i hM hX hlocks hret hq dX3_slope_31
def rmX5_hasMended : Room := { frames := 0, cells := 0, slots := 0, locals := 0 }
theorem kX5_hasMended {R : Room} {s : State} {args : Array Value} {own : String} {index : Nat} (ht : ∀ w ∈ lw_all, w.before args s = true) (hl : Cond.methodLink own index yX5_hasMended ∈ lw_all) (hf : rmX5_hasMended.frames + 1 ≤ R.frames) (hlo : 8 + (1 + 11) + rmX5_hasMended.locals ≤ R.locals) : CallW R s args own RX5 index yX5_hasMended cX5_hasMended 1 (some Jvm.ClassFile.FieldType.boolean) (wA yX5_hasMended cX5_hasMended 1 (some Jvm.ClassFile.FieldType.boolean)) rmX5_hasMended 0 0 0 := cwV 0 ht (good_V hl qm_yX5_hasMended qs_yX5_hasMended qi_RX5 qc_yX5_hasMended) rfl rfl rfl (by decide +kernel) ⟨hf, hlo⟩
set_option maxRecDepth 100000 in
set_option maxHeartbeats 4000000 in
theorem met_X5_hasMended (l : Launch) (D : va_G) (ad : Adr) (cy : Nat → ClassId) (S : Mem) (P : Nat) (i : Nat) {Q : Mem → Int32 → Prop} (hv : P < 11 ∧ i < 11) (hq : vc_X5_hasMended S P i Q) : Ci l yX5_hasMended (wA yX5_hasMended cX5_hasMended 1 (some Jvm.ClassFile.FieldType.boolean)) rmX5_hasMended D ad cy (IN []) [.ref (ad 5 P i)] S Q := by
  intro o sz hI
  refine mkC (own := RX5) (lv := [(0, .ref (ad 5 P i))]) (by decide) rfl (Nat.le_of_ble_eq_true rfl) rfl ?_
  intro p e s m below meth c ls hsz hM hlocks hret hK hA hX hl
  unfold vc_X5_hasMended at hq
  refine lv_aload_n hM.1 hM.2.1 dX5_hasMended_0 rfl (lv_at hl 0 rfl) ?_
  refine g5 hM hK hX (hI.1 _ (id_T hv).1) 2 (by decide) qf_RX5_45 rfl dX5_hasMended_1 ?_
  refine lv_if_le (tgt := 11) hM.1 hM.2.1 dX5_hasMended_4 (by decide) (fun c_1 => ?_) (fun c_1 => ?_)
  · replace hq := hq.1 c_1
    refine lv_iconst (v := (0 : Int32)) hM.1 hM.2.1 dX5_hasMended_11 (by decide) ?_
    exact e_z hM hX hlocks hret rfl hq dX5_hasMended_12
  replace hq := hq.2 c_1
  refine lv_iconst (v := (1 : Int32)) hM.1 hM.2.1 dX5_hasMended_7 (by decide) ?_
  refine lv_goto (tgt := 12) hM.1 hM.2.1 dX5_hasMended_8 (by decide) ?_
  exact e_z hM hX hlocks hret rfl hq dX5_hasMended_12
def rmX5_error : Room := { frames := 1, cells := 0, slots := 0, locals := 21 }
theorem kX5_error {R : Room} {s : State} {args : Array Value} {own : String} {index : Nat} (ht : ∀ w ∈ lw_all, w.before args s = true) (hl : Cond.methodLink own index yX5_error ∈ lw_all) (hf : rmX5_error.frames + 1 ≤ R.frames) (hlo : 8 + (2 + 11) + rmX5_error.locals ≤ R.locals) : CallW R s args own RX5 index yX5_error cX5_error 2 (some Jvm.ClassFile.FieldType.int) (wA yX5_error cX5_error 2 (some Jvm.ClassFile.FieldType.int)) rmX5_error 0 0 1 := cwV 1 ht (good_V hl qm_yX5_error qs_yX5_error qi_RX5 qc_yX5_error) rfl rfl rfl (by decide +kernel) ⟨hf, hlo⟩
set_option maxRecDepth 100000 in
set_option maxHeartbeats 4000000 in
theorem met_X5_error (l : Launch) (D : va_G) (ad : Adr) (cy : Nat → ClassId) (S : Mem) (P : Nat) (i : Nat) (x1 : Int32) {Q : Mem → Int32 → Prop} (hv : P < 11 ∧ i < 11) (hq : vc_X5_error S P i x1 Q) : Ci l yX5_error (wA yX5_error cX5_error 2 (some Jvm.ClassFile.FieldType.int)) rmX5_error D ad cy (IN []) [.ref (ad 5 P i), .int x1] S Q := by
  intro o sz hI
  refine mkC (own := RX5) (lv := [(0, .ref (ad 5 P i)), (1, .int x1)]) (by decide) rfl (Nat.le_of_ble_eq_true rfl) rfl ?_
  intro p e s m below meth c ls hsz hM hlocks hret hK hA hX hl
  unfold vc_X5_error at hq
  refine lv_aload_n hM.1 hM.2.1 dX5_error_0 rfl (lv_at hl 0 rfl) ?_
  refine g5 hM hK hX (hI.1 _ (id_T hv).1) 11 (by decide) qf_RX5_26 rfl dX5_error_1 ?_
  refine lv_iload_n hM.1 hM.2.1 dX5_error_4 rfl (lv_at hl 1 rfl) ?_
  refine lv_isub hM.1 hM.2.1 dX5_error_5 ?_
  refine r_abs hM hl.1 ql_RX5_94 (Nat.le_of_ble_eq_true rfl) (Nat.le_of_ble_eq_true rfl) (Nat.le_of_ble_eq_true rfl) (Nat.le_of_ble_eq_true rfl) dX5_error_6 ?_
  exact e_i hM hX hlocks hret hq dX5_error_9
def rmX3_sortKey : Room := { frames := 2, cells := 0, slots := 0, locals := 42 }
theorem kX3_sortKey {R : Room} {s : State} {args : Array Value} {own : String} {index : Nat} (ht : ∀ w ∈ lw_all, w.before args s = true) (hl : Cond.methodLink own index yX3_sortKey ∈ lw_all) (hf : rmX3_sortKey.frames + 1 ≤ R.frames) (hlo : 8 + (3 + 11) + rmX3_sortKey.locals ≤ R.locals) : CallW R s args own RX3 index yX3_sortKey cX3_sortKey 3 (some Jvm.ClassFile.FieldType.int) (wA yX3_sortKey cX3_sortKey 3 (some Jvm.ClassFile.FieldType.int)) rmX3_sortKey 0 0 2 := cwV 2 ht (good_V hl qm_yX3_sortKey qs_yX3_sortKey qi_RX3 qc_yX3_sortKey) rfl rfl rfl (by decide +kernel) ⟨hf, hlo⟩
set_option maxRecDepth 100000 in
set_option maxHeartbeats 4000000 in
theorem met_X3_sortKey (l : Launch) (D : va_G) (ad : Adr) (cy : Nat → ClassId) (S : Mem) (P : Nat) (x1 : Int32) (x2 : Int32) {Q : Mem → Int32 → Prop} (hv : P < 11) (hq : vc_X3_sortKey S P x1 x2 Q) : Ci l yX3_sortKey (wA yX3_sortKey cX3_sortKey 3 (some Jvm.ClassFile.FieldType.int)) rmX3_sortKey D ad cy (IN []) [.ref (ad 3 P 0), .int x1, .int x2] S Q := by
  intro o sz hI
  refine mkC (own := RX3) (lv := [(0, .ref (ad 3 P 0)), (1, .int x1), (2, .int x2)]) (by decide) rfl (Nat.le_of_ble_eq_true rfl) rfl ?_
  intro p e s m below meth c ls hsz hM hlocks hret hK hA hX hl
  unfold vc_X3_sortKey at hq
  refine lv_iload_n hM.1 hM.2.1 dX3_sortKey_0 rfl (lv_at hl 2 rfl) ?_
  refine lv_iconst (v := (1 : Int32)) hM.1 hM.2.1 dX3_sortKey_1 (by decide) ?_
  refine lv_icmp_ne (tgt := 21) hM.1 hM.2.1 dX3_sortKey_2 (by decide) (fun c_1 => ?_) (fun c_1 => ?_)
  · replace hq := hq.1 c_1
    refine lv_aload_n hM.1 hM.2.1 dX3_sortKey_21 rfl (lv_at hl 0 rfl) ?_
    refine lv_iload_n hM.1 hM.2.1 dX3_sortKey_22 rfl (lv_at hl 1 rfl) ?_
    refine cVr (As := [.int x1]) hM hK hX ⟨hI.1, trivial⟩ hA (met_X3_at l D ad cy S P x1 hv hq) (kX3_at hM.2.2.2.2 ql_RX3_53 (Nat.le_of_ble_eq_true rfl) (Nat.le_of_ble_eq_true rfl)) (v3 hK hX (hI.1 _ (id_P hv).2.1)) rfl hl.1 rfl (Nat.le_of_ble_eq_true rfl) dX3_sortKey_23 ⟨Nat.zero_le _, Nat.zero_le _⟩ (fun S_2 P_3 i_4 hq H locs hX => ?_)
    have hT_5 := hq.1
    replace hq := hq.2
    refine g5 hM hK hX (hI.1 _ (id_T hT_5).1) 11 (by decide) qf_RX3_157 rfl dX3_sortKey_26 ?_
    exact e_i hM hX hlocks hret hq dX3_sortKey_29
  replace hq := hq.2 c_1
  refine lv_aload_n hM.1 hM.2.1 dX3_sortKey_5 rfl (lv_at hl 0 rfl) ?_
  refine lv_iload_n hM.1 hM.2.1 dX3_sortKey_6 rfl (lv_at hl 1 rfl) ?_
  refine cVr (As := [.int x1]) hM hK hX ⟨hI.1, trivial⟩ hA (met_X3_at l D ad cy S P x1 hv hq) (kX3_at hM.2.2.2.2 ql_RX3_53 (Nat.le_of_ble_eq_true rfl) (Nat.le_of_ble_eq_true rfl)) (v3 hK hX (hI.1 _ (id_P hv).2.1)) rfl hl.1 rfl (Nat.le_of_ble_eq_true rfl) dX3_sortKey_7 ⟨Nat.zero_le _, Nat.zero_le _⟩ (fun S_6 P_7 i_8 hq H locs hX => ?_)
  refine lv_aload_n hM.1 hM.2.1 dX3_sortKey_10 rfl (lv_at hl 0 rfl) ?_
  refine g3 hM hK hX (hI.1 _ (id_P hv).2.1) 8 (by decide) qf_RX3_41 rfl dX3_sortKey_11 ?_
  have hT_9 := hq.1
  replace hq := hq.2
  refine cVi (As := [.int (S_6 3 P 0 8)]) hM hK hX ⟨hI.1, trivial⟩ hA (met_X5_error l D ad cy S_6 P_7 i_8 (S_6 3 P 0 8) hT_9 hq) (kX5_error hM.2.2.2.2 ql_RX3_185 (Nat.le_of_ble_eq_true rfl) (Nat.le_of_ble_eq_true rfl)) (v5 hK hX (hI.1 _ (id_T hT_9).1)) rfl hl.1 rfl (Nat.le_of_ble_eq_true rfl) dX3_sortKey_14 ⟨Nat.zero_le _, Nat.zero_le _⟩ (fun S_10 r_11 hq H locs hX => ?_)
  refine lv_ineg hM.1 hM.2.1 dX3_sortKey_17 ?_
  refine lv_goto (tgt := 29) hM.1 hM.2.1 dX3_sortKey_18 (by decide) ?_
  exact e_i hM hX hlocks hret hq dX3_sortKey_29
def rmX3_countAheadOf : Room := { frames := 3, cells := 0, slots := 0, locals := 64 }
theorem kX3_countAheadOf {R : Room} {s : State} {args : Array Value} {own : String} {index : Nat} (ht : ∀ w ∈ lw_all, w.before args s = true) (hl : Cond.methodLink own index yX3_countAheadOf ∈ lw_all) (hf : rmX3_countAheadOf.frames + 1 ≤ R.frames) (hlo : 8 + (7 + 11) + rmX3_countAheadOf.locals ≤ R.locals) : CallW R s args own RX3 index yX3_countAheadOf cX3_countAheadOf 7 (some Jvm.ClassFile.FieldType.int) (wA yX3_countAheadOf cX3_countAheadOf 7 (some Jvm.ClassFile.FieldType.int)) rmX3_countAheadOf 0 0 2 := cwV 2 ht (good_V hl qm_yX3_countAheadOf qs_yX3_countAheadOf qi_RX3 qc_yX3_countAheadOf) rfl rfl rfl (by decide +kernel) ⟨hf, hlo⟩
set_option maxRecDepth 100000 in
set_option maxHeartbeats 4000000 in
theorem met_X3_countAheadOf (l : Launch) (D : va_G) (ad : Adr) (cy : Nat → ClassId) (S : Mem) (P : Nat) (x1 : Int32) (x2 : Int32) {Q : Mem → Int32 → Prop} (hv : P < 11) (hq : vc_X3_countAheadOf S P x1 x2 Q) : Ci l yX3_countAheadOf (wA yX3_countAheadOf cX3_countAheadOf 7 (some Jvm.ClassFile.FieldType.int)) rmX3_countAheadOf D ad cy (IN []) [.ref (ad 3 P 0), .int x1, .int x2] S Q := by
  intro o sz hI
  refine mkC (own := RX3) (lv := [(0, .ref (ad 3 P 0)), (1, .int x1), (2, .int x2)]) (by decide) rfl (Nat.le_of_ble_eq_true rfl) rfl ?_
  intro p e s m below meth c ls hsz hM hlocks hret hK hA hX hl
  have J64 : ∀ {K0 : Mem → Int32 → Int32 → Int32 → Prop} (hk0 : ∀ (S : Mem) (y3 : Int32) (y4 : Int32) (y5 : Int32), K0 S y3 y4 y5 → ∀ (H : Heap) (locs : List Loc) (ls : Array Slot), PW D ad cy (AW ad o sz) s.heap o S H locs → lv_has ls 7 [(0, .ref (ad 3 P 0)), (1, .int x1), (2, .int x2), (3, .int y3), (4, .int y4), (5, .int y5)] → Wi D ad cy o sz Q p l e rmX3_countAheadOf s m [.ref (ad 3 P 0), .int x1, .int x2] below meth c H locs (F0 m 13 ls [])), ∀ {K1 : Mem → Int32 → Prop} (hk1 : ∀ (S : Mem) (y4 : Int32), K1 S y4 → ∀ (H : Heap) (locs : List Loc) (ls : Array Slot), PW D ad cy (AW ad o sz) s.heap o S H locs → lv_has ls 7 [(4, .int y4)] → Wi D ad cy o sz Q p l e rmX3_countAheadOf s m [.ref (ad 3 P 0), .int x1, .int x2] below meth c H locs (F0 m 70 ls [])), ∀ (S : Mem) (y3 : Int32) (y4 : Int32) (y5 : Int32), vc_X3_countAheadOf_J64 Q K0 K1 P x1 x2 S y3 y4 y5 → ∀ (H : Heap) (locs : List Loc) (ls : Array Slot), PW D ad cy (AW ad o sz) s.heap o S H locs → lv_has ls 7 [(0, .ref (ad 3 P 0)), (1, .int x1), (2, .int x2), (3, .int y3), (4, .int y4), (5, .int y5)] → Wi D ad cy o sz Q p l e rmX3_countAheadOf s m [.ref (ad 3 P 0), .int x1, .int x2] below meth c H locs (F0 m 64 ls []) := by
    intro K0 hk0 K1 hk1 S y3 y4 y5 hq H locs ls hX hl
    unfold vc_X3_countAheadOf_J64 at hq
    refine lv_iinc (v := (y5 + (1 : Int32))) (lv' := [(5, .int (y5 + (1 : Int32))), (0, .ref (ad 3 P 0)), (1, .int x1), (2, .int x2), (3, .int y3), (4, .int y4)]) hM.1 hM.2.1 dX3_countAheadOf_64 hl (k := 5) rfl rfl (by decide) rfl (fun ls hl => ?_)
    refine lv_goto (tgt := 13) hM.1 hM.2.1 dX3_countAheadOf_67 (by decide) ?_
    exact hk0 S y3 y4 (y5 + (1 : Int32)) hq _ _ _ hX (lv_sub hl [1, 2, 3, 4, 5, 0] rfl)
  have J61 : ∀ {K0 : Mem → Int32 → Int32 → Int32 → Prop} (hk0 : ∀ (S : Mem) (y3 : Int32) (y4 : Int32) (y5 : Int32), K0 S y3 y4 y5 → ∀ (H : Heap) (locs : List Loc) (ls : Array Slot), PW D ad cy (AW ad o sz) s.heap o S H locs → lv_has ls 7 [(0, .ref (ad 3 P 0)), (1, .int x1), (2, .int x2), (3, .int y3), (4, .int y4), (5, .int y5)] → Wi D ad cy o sz Q p l e rmX3_countAheadOf s m [.ref (ad 3 P 0), .int x1, .int x2] below meth c H locs (F0 m 13 ls [])), ∀ {K1 : Mem → Int32 → Prop} (hk1 : ∀ (S : Mem) (y4 : Int32), K1 S y4 → ∀ (H : Heap) (locs : List Loc) (ls : Array Slot), PW D ad cy (AW ad o sz) s.heap o S H locs → lv_has ls 7 [(4, .int y4)] → Wi D ad cy o sz Q p l e rmX3_countAheadOf s m [.ref (ad 3 P 0), .int x1, .int x2] below meth c H locs (F0 m 70 ls [])), ∀ (S : Mem) (y3 : Int32) (y4 : Int32) (y5 : Int32), vc_X3_countAheadOf_J61 Q K0 K1 P x1 x2 S y3 y4 y5 → ∀ (H : Heap) (locs : List Loc) (ls : Array Slot), PW D ad cy (AW ad o sz) s.heap o S H locs → lv_has ls 7 [(0, .ref (ad 3 P 0)), (1, .int x1), (2, .int x2), (3, .int y3), (4, .int y4), (5, .int y5)] → Wi D ad cy o sz Q p l e rmX3_countAheadOf s m [.ref (ad 3 P 0), .int x1, .int x2] below meth c H locs (F0 m 61 ls []) := by
    intro K0 hk0 K1 hk1 S y3 y4 y5 hq H locs ls hX hl
    unfold vc_X3_countAheadOf_J61 at hq
    refine lv_iinc (v := (y4 + (1 : Int32))) (lv' := [(4, .int (y4 + (1 : Int32))), (0, .ref (ad 3 P 0)), (1, .int x1), (2, .int x2), (3, .int y3), (5, .int y5)]) hM.1 hM.2.1 dX3_countAheadOf_61 hl (k := 4) rfl rfl (by decide) rfl (fun ls hl => ?_)
    exact J64 hk0 hk1 S y3 (y4 + (1 : Int32)) y5 hq _ _ _ hX (lv_sub hl [1, 2, 3, 4, 0, 5] rfl)
  have L13 : ∀ {K : Mem → Int32 → Prop} (hk : ∀ (S : Mem) (y4 : Int32), K S y4 → ∀ (H : Heap) (locs : List Loc) (ls : Array Slot), PW D ad cy (AW ad o sz) s.heap o S H locs → lv_has ls 7 [(4, .int y4)] → Wi D ad cy o sz Q p l e rmX3_countAheadOf s m [.ref (ad 3 P 0), .int x1, .int x2] below meth c H locs (F0 m 70 ls [])), ∀ (n : Nat) (S : Mem) (y3 : Int32) (y4 : Int32) (y5 : Int32), vc_X3_countAheadOf_L13 Q K P x1 x2 n S y3 y4 y5 → ∀ (H : Heap) (locs : List Loc) (ls : Array Slot), PW D ad cy (AW ad o sz) s.heap o S H locs → lv_has ls 7 [(0, .ref (ad 3 P 0)), (1, .int x1), (2, .int x2), (3, .int y3), (4, .int y4), (5, .int y5)] → Wi D ad cy o sz Q p l e rmX3_countAheadOf s m [.ref (ad 3 P 0), .int x1, .int x2] below meth c H locs (F0 m 13 ls []) := by
    intro K hk n
    induction n with
    | zero =>
      intro S y3 y4 y5 hq
      rw [vc_X3_countAheadOf_L13] at hq
      exact hq.elim
    | succ n ih =>
      intro S y3 y4 y5 hq H locs ls hX hl
      rw [vc_X3_countAheadOf_L13] at hq
      refine lv_iload hM.1 hM.2.1 dX3_countAheadOf_13 (lv_at hl 5 rfl) ?_
      refine lv_aload_n hM.1 hM.2.1 dX3_countAheadOf_15 rfl (lv_at hl 0 rfl) ?_
      refine g3 hM hK hX (hI.1 _ (id_P hv).2.1) 6 (by decide) qf_RX3_50 rfl dX3_countAheadOf_16 ?_
      refine lv_icmp_ge (tgt := 70) hM.1 hM.2.1 dX3_countAheadOf_19 (by decide) (fun c_3 => ?_) (fun c_3 => ?_)
      · replace hq := hq.1 c_3
        exact hk S y4 hq _ _ _ hX (lv_sub hl [4] rfl)
      replace hq := hq.2 c_3
      refine lv_aload_n hM.1 hM.2.1 dX3_countAheadOf_22 rfl (lv_at hl 0 rfl) ?_
      refine lv_iload hM.1 hM.2.1 dX3_countAheadOf_23 (lv_at hl 5 rfl) ?_
      refine lv_iload_n hM.1 hM.2.1 dX3_countAheadOf_25 rfl (lv_at hl 2 rfl) ?_
      refine cVi (As := [.int y5, .int x2]) hM hK hX ⟨hI.1, trivial⟩ hA (met_X3_sortKey l D ad cy S P y5 x2 hv hq) (kX3_sortKey hM.2.2.2.2 ql_RX3_182 (Nat.le_of_ble_eq_true rfl) (Nat.le_of_ble_eq_true rfl)) (v3 hK hX (hI.1 _ (id_P hv).2.1)) rfl hl.1 rfl (Nat.le_of_ble_eq_true rfl) dX3_countAheadOf_26 ⟨Nat.zero_le _, Nat.zero_le _⟩ (fun S_4 r_5 hq H locs hX => ?_)
      refine lv_istore (lv' := [(6, .int r_5), (0, .ref (ad 3 P 0)), (1, .int x1), (2, .int x2), (3, .int y3), (4, .int y4), (5, .int y5)]) hM.1 hM.2.1 dX3_countAheadOf_29 hl (by decide) rfl (fun ls hl => ?_)
      refine lv_aload_n hM.1 hM.2.1 dX3_countAheadOf_31 rfl (lv_at hl 1 rfl) ?_
      refine lv_iload hM.1 hM.2.1 dX3_countAheadOf_32 (lv_at hl 6 rfl) ?_
      refine cVr (As := [.int y5]) hM hK hX ⟨hI.1, trivial⟩ hA (met_X3_at l D ad cy S_4 P y5 hv hq) (kX3_at hM.2.2.2.2 ql_RX3_53 (Nat.le_of_ble_eq_true rfl) (Nat.le_of_ble_eq_true rfl)) (v3 hK hX (hI.1 _ (id_P hv).2.1)) rfl hl.1 rfl (Nat.le_of_ble_eq_true rfl) dX3_countAheadOf_34 ⟨Nat.zero_le _, Nat.zero_le _⟩ (fun S_6 P_7 i_8 hq H locs hX => ?_)
      have hT_9 := hq.1
      replace hq := hq.2
      refine cVi (As := []) hM hK hX ⟨hI.1, trivial⟩ hA (met_X5_hasMended l D ad cy S_6 P_7 i_8 hT_9 hq) (kX5_hasMended hM.2.2.2.2 ql_RX3_176 (Nat.le_of_ble_eq_true rfl) (Nat.le_of_ble_eq_true rfl)) (v5 hK hX (hI.1 _ (id_T hT_9).1)) rfl hl.1 rfl (Nat.le_of_ble_eq_true rfl) dX3_countAheadOf_37 ⟨Nat.zero_le _, Nat.zero_le _⟩ (fun S_10 r_11 hq H locs hX => ?_)
      refine lv_if_eq (tgt := 64) hM.1 hM.2.1 dX3_countAheadOf_40 (by decide) (fun c_12 => ?_) (fun c_12 => ?_)
      · replace hq := hq.1 c_12
        exact J64 ih hk S_10 y3 y4 y5 hq _ _ _ hX (lv_sub hl [1, 2, 3, 4, 5, 6] rfl)
      replace hq := hq.2 c_12
      refine lv_iload hM.1 hM.2.1 dX3_countAheadOf_43 (lv_at hl 0 rfl) ?_
      refine lv_iload_n hM.1 hM.2.1 dX3_countAheadOf_45 rfl (lv_at hl 4 rfl) ?_
      refine lv_icmp_lt (tgt := 61) hM.1 hM.2.1 dX3_countAheadOf_46 (by decide) (fun c_13 => ?_) (fun c_13 => ?_)
      · replace hq := hq.1 c_13
        exact J61 ih hk S_10 y3 y4 y5 hq _ _ _ hX (lv_sub hl [1, 2, 3, 4, 5, 6] rfl)
      replace hq := hq.2 c_13
      refine lv_iload hM.1 hM.2.1 dX3_countAheadOf_49 (lv_at hl 0 rfl) ?_
      refine lv_iload_n hM.1 hM.2.1 dX3_countAheadOf_51 rfl (lv_at hl 4 rfl) ?_
      refine lv_icmp_ne (tgt := 64) hM.1 hM.2.1 dX3_countAheadOf_52 (by decide) (fun c_14 => ?_) (fun c_14 => ?_)
      · replace hq := hq.1 c_14
        exact J64 ih hk S_10 y3 y4 y5 hq _ _ _ hX (lv_sub hl [1, 2, 3, 4, 5, 6] rfl)
      replace hq := hq.2 c_14
      refine lv_iload hM.1 hM.2.1 dX3_countAheadOf_55 (lv_at hl 6 rfl) ?_
      refine lv_iload_n hM.1 hM.2.1 dX3_countAheadOf_57 rfl (lv_at hl 2 rfl) ?_
      refine lv_icmp_ge (tgt := 64) hM.1 hM.2.1 dX3_countAheadOf_58 (by decide) (fun c_15 => ?_) (fun c_15 => ?_)
      · replace hq := hq.1 c_15
        exact J64 ih hk S_10 y3 y4 y5 hq _ _ _ hX (lv_sub hl [1, 2, 3, 4, 5, 6] rfl)
      replace hq := hq.2 c_15
      exact J61 ih hk S_10 y3 y4 y5 hq _ _ _ hX (lv_sub hl [1, 2, 3, 4, 5, 6] rfl)
  unfold vc_X3_countAheadOf at hq
  refine lv_aload_n hM.1 hM.2.1 dX3_countAheadOf_0 rfl (lv_at hl 0 rfl) ?_
  refine lv_iload_n hM.1 hM.2.1 dX3_countAheadOf_1 rfl (lv_at hl 1 rfl) ?_
  refine lv_iload_n hM.1 hM.2.1 dX3_countAheadOf_2 rfl (lv_at hl 2 rfl) ?_
  refine cVi (As := [.int x1, .int x2]) hM hK hX ⟨hI.1, trivial⟩ hA (met_X3_sortKey l D ad cy S P x1 x2 hv hq) (kX3_sortKey hM.2.2.2.2 ql_RX3_182 (Nat.le_of_ble_eq_true rfl) (Nat.le_of_ble_eq_true rfl)) (v3 hK hX (hI.1 _ (id_P hv).2.1)) rfl hl.1 rfl (Nat.le_of_ble_eq_true rfl) dX3_countAheadOf_3 ⟨Nat.zero_le _, Nat.zero_le _⟩ (fun S_1 r_2 hq H locs hX => ?_)
  refine lv_istore_n (lv' := [(3, .int r_2), (0, .ref (ad 3 P 0)), (1, .int x1), (2, .int x2)]) hM.1 hM.2.1 dX3_countAheadOf_6 rfl hl (by decide) rfl (fun ls hl => ?_)
  refine lv_iconst (v := (0 : Int32)) hM.1 hM.2.1 dX3_countAheadOf_7 (by decide) ?_
  refine lv_istore (lv' := [(4, .int (0 : Int32)), (3, .int r_2), (0, .ref (ad 3 P 0)), (1, .int x1), (2, .int x2)]) hM.1 hM.2.1 dX3_countAheadOf_8 hl (by decide) rfl (fun ls hl => ?_)
  refine lv_iconst (v := (0 : Int32)) hM.1 hM.2.1 dX3_countAheadOf_10 (by decide) ?_
  refine lv_istore (lv' := [(5, .int (0 : Int32)), (4, .int (0 : Int32)), (3, .int r_2), (0, .ref (ad 3 P 0)), (1, .int x1), (2, .int x2)]) hM.1 hM.2.1 dX3_countAheadOf_11 hl (by decide) rfl (fun ls hl => ?_)
  obtain ⟨k0, hq⟩ := hq
  refine L13 (fun S_16 y4_17 hq H locs ls hX hl => ?_) k0 S_1 r_2 (0 : Int32) (0 : Int32) hq _ _ _ hX (lv_sub hl [3, 4, 5, 2, 1, 0] rfl)
  refine lv_iload hM.1 hM.2.1 dX3_countAheadOf_70 (lv_at hl 0 rfl) ?_
  exact e_i hM hX hlocks hret hq dX3_countAheadOf_72
def rmX3_atRank : Room := { frames := 4, cells := 0, slots := 0, locals := 90 }
theorem kX3_atRank {R : Room} {s : State} {args : Array Value} {own : String} {index : Nat} (ht : ∀ w ∈ lw_all, w.before args s = true) (hl : Cond.methodLink own index yX3_atRank ∈ lw_all) (hf : rmX3_atRank.frames + 1 ≤ R.frames) (hlo : 8 + (4 + 11) + rmX3_atRank.locals ≤ R.locals) : CallW R s args own RX3 index yX3_atRank cX3_atRank 4 (some Jvm.ClassFile.FieldType.int) (wA yX3_atRank cX3_atRank 4 (some Jvm.ClassFile.FieldType.int)) rmX3_atRank 0 0 2 := cwV 2 ht (good_V hl qm_yX3_atRank qs_yX3_atRank qi_RX3 qc_yX3_atRank) rfl rfl rfl (by decide +kernel) ⟨hf, hlo⟩
set_option maxRecDepth 100000 in
set_option maxHeartbeats 4000000 in
theorem met_X3_atRank (l : Launch) (D : va_G) (ad : Adr) (cy : Nat → ClassId) (S : Mem) (P : Nat) (x1 : Int32) (x2 : Int32) {Q : Mem → Int32 → Prop} (hv : P < 11) (hq : vc_X3_atRank S P x1 x2 Q) : Ci l yX3_atRank (wA yX3_atRank cX3_atRank 4 (some Jvm.ClassFile.FieldType.int)) rmX3_atRank D ad cy (IN []) [.ref (ad 3 P 0), .int x1, .int x2] S Q := by
  intro o sz hI
  refine mkC (own := RX3) (lv := [(0, .ref (ad 3 P 0)), (1, .int x1), (2, .int x2)]) (by decide) rfl (Nat.le_of_ble_eq_true rfl) rfl ?_
  intro p e s m below meth c ls hsz hM hlocks hret hK hA hX hl
  have J33 : ∀ {K0 : Mem → Int32 → Prop} (hk0 : ∀ (S : Mem) (y3 : Int32), K0 S y3 → ∀ (H : Heap) (locs : List Loc) (ls : Array Slot), PW D ad cy (AW ad o sz) s.heap o S H locs → lv_has ls 4 [(0, .ref (ad 3 P 0)), (1, .int x1), (2, .int x2), (3, .int y3)] → Wi D ad cy o sz Q p l e rmX3_atRank s m [.ref (ad 3 P 0), .int x1, .int x2] below meth c H locs (F0 m 2 ls [])), ∀ {K1 : Mem → Prop} (hk1 : ∀ (S : Mem), K1 S → ∀ (H : Heap) (locs : List Loc) (ls : Array Slot), PW D ad cy (AW ad o sz) s.heap o S H locs → lv_has ls 4 [] → Wi D ad cy o sz Q p l e rmX3_atRank s m [.ref (ad 3 P 0), .int x1, .int x2] below meth c H locs (F0 m 39 ls [])), ∀ (S : Mem) (y3 : Int32), vc_X3_atRank_J33 Q K0 K1 P x1 x2 S y3 → ∀ (H : Heap) (locs : List Loc) (ls : Array Slot), PW D ad cy (AW ad o sz) s.heap o S H locs → lv_has ls 4 [(0, .ref (ad 3 P 0)), (1, .int x1), (2, .int x2), (3, .int y3)] → Wi D ad cy o sz Q p l e rmX3_atRank s m [.ref (ad 3 P 0), .int x1, .int x2] below meth c H locs (F0 m 33 ls []) := by
    intro K0 hk0 K1 hk1 S y3 hq H locs ls hX hl
    unfold vc_X3_atRank_J33 at hq
    refine lv_iinc (v := (y3 + (1 : Int32))) (lv' := [(3, .int (y3 + (1 : Int32))), (0, .ref (ad 3 P 0)), (1, .int x1), (2, .int x2)]) hM.1 hM.2.1 dX3_atRank_33 hl (k := 3) rfl rfl (by decide) rfl (fun ls hl => ?_)
    refine lv_goto (tgt := 2) hM.1 hM.2.1 dX3_atRank_36 (by decide) ?_
    exact hk0 S (y3 + (1 : Int32)) hq _ _ _ hX (lv_sub hl [1, 2, 3, 0] rfl)
  have L2 : ∀ {K : Mem → Prop} (hk : ∀ (S : Mem), K S → ∀ (H : Heap) (locs : List Loc) (ls : Array Slot), PW D ad cy (AW ad o sz) s.heap o S H locs → lv_has ls 4 [] → Wi D ad cy o sz Q p l e rmX3_atRank s m [.ref (ad 3 P 0), .int x1, .int x2] below meth c H locs (F0 m 39 ls [])), ∀ (n : Nat) (S : Mem) (y3 : Int32), vc_X3_atRank_L2 Q K P x1 x2 n S y3 → ∀ (H : Heap) (locs : List Loc) (ls : Array Slot), PW D ad cy (AW ad o sz) s.heap o S H locs → lv_has ls 4 [(0, .ref (ad 3 P 0)), (1, .int x1), (2, .int x2), (3, .int y3)] → Wi D ad cy o sz Q p l e rmX3_atRank s m [.ref (ad 3 P 0), .int x1, .int x2] below meth c H locs (F0 m 2 ls []) := by
    intro K hk n
    induction n with
    | zero =>
      intro S y3 hq
      rw [vc_X3_atRank_L2] at hq
      exact hq.elim
    | succ n ih =>
      intro S y3 hq H locs ls hX hl
      rw [vc_X3_atRank_L2] at hq
      refine lv_iload_n hM.1 hM.2.1 dX3_atRank_2 rfl (lv_at hl 3 rfl) ?_
      refine lv_aload_n hM.1 hM.2.1 dX3_atRank_3 rfl (lv_at hl 0 rfl) ?_
      refine g3 hM hK hX (hI.1 _ (id_P hv).2.1) 6 (by decide) qf_RX3_50 rfl dX3_atRank_4 ?_
      refine lv_icmp_ge (tgt := 39) hM.1 hM.2.1 dX3_atRank_7 (by decide) (fun c_1 => ?_) (fun c_1 => ?_)
      · replace hq := hq.1 c_1
        exact hk S hq _ _ _ hX (lv_sub hl [] rfl)
      replace hq := hq.2 c_1
      refine lv_aload_n hM.1 hM.2.1 dX3_atRank_10 rfl (lv_at hl 0 rfl) ?_
      refine lv_iload_n hM.1 hM.2.1 dX3_atRank_11 rfl (lv_at hl 3 rfl) ?_
      refine cVr (As := [.int y3]) hM hK hX ⟨hI.1, trivial⟩ hA (met_X3_at l D ad cy S P y3 hv hq) (kX3_at hM.2.2.2.2 ql_RX3_53 (Nat.le_of_ble_eq_true rfl) (Nat.le_of_ble_eq_true rfl)) (v3 hK hX (hI.1 _ (id_P hv).2.1)) rfl hl.1 rfl (Nat.le_of_ble_eq_true rfl) dX3_atRank_12 ⟨Nat.zero_le _, Nat.zero_le _⟩ (fun S_2 P_3 i_4 hq H locs hX => ?_)
      have hT_5 := hq.1
      replace hq := hq.2
      refine cVi (As := []) hM hK hX ⟨hI.1, trivial⟩ hA (met_X5_hasMended l D ad cy S_2 P_3 i_4 hT_5 hq) (kX5_hasMended hM.2.2.2.2 ql_RX3_176 (Nat.le_of_ble_eq_true rfl) (Nat.le_of_ble_eq_true rfl)) (v5 hK hX (hI.1 _ (id_T hT_5).1)) rfl hl.1 rfl (Nat.le_of_ble_eq_true rfl) dX3_atRank_15 ⟨Nat.zero_le _, Nat.zero_le _⟩ (fun S_6 r_7 hq H locs hX => ?_)
      refine lv_if_eq (tgt := 33) hM.1 hM.2.1 dX3_atRank_18 (by decide) (fun c_8 => ?_) (fun c_8 => ?_)
      · replace hq := hq.1 c_8
        exact J33 ih hk S_6 y3 hq _ _ _ hX (lv_sub hl [0, 1, 2, 3] rfl)
      replace hq := hq.2 c_8
      refine lv_aload_n hM.1 hM.2.1 dX3_atRank_21 rfl (lv_at hl 0 rfl) ?_
      refine lv_iload_n hM.1 hM.2.1 dX3_atRank_22 rfl (lv_at hl 3 rfl) ?_
      refine lv_iload_n hM.1 hM.2.1 dX3_atRank_23 rfl (lv_at hl 1 rfl) ?_
      refine cVi (As := [.int y3, .int x1]) hM hK hX ⟨hI.1, trivial⟩ hA (met_X3_countAheadOf l D ad cy S_6 P y3 x1 hv hq) (kX3_countAheadOf hM.2.2.2.2 ql_RX3_179 (Nat.le_of_ble_eq_true rfl) (Nat.le_of_ble_eq_true rfl)) (v3 hK hX (hI.1 _ (id_P hv).2.1)) rfl hl.1 rfl (Nat.le_of_ble_eq_true rfl) dX3_atRank_24 ⟨Nat.zero_le _, Nat.zero_le _⟩ (fun S_9 r_10 hq H locs hX => ?_)
      refine lv_iload_n hM.1 hM.2.1 dX3_atRank_27 rfl (lv_at hl 2 rfl) ?_
      refine lv_icmp_ne (tgt := 33) hM.1 hM.2.1 dX3_atRank_28 (by decide) (fun c_11 => ?_) (fun c_11 => ?_)
      · replace hq := hq.1 c_11
        exact J33 ih hk S_9 y3 hq _ _ _ hX (lv_sub hl [0, 1, 2, 3] rfl)
      replace hq := hq.2 c_11
      refine lv_iload_n hM.1 hM.2.1 dX3_atRank_31 rfl (lv_at hl 3 rfl) ?_
      exact e_i hM hX hlocks hret hq dX3_atRank_32
  unfold vc_X3_atRank at hq
  refine lv_iconst (v := (0 : Int32)) hM.1 hM.2.1 dX3_atRank_0 (by decide) ?_
  refine lv_istore_n (lv' := [(3, .int (0 : Int32)), (0, .ref (ad 3 P 0)), (1, .int x1), (2, .int x2)]) hM.1 hM.2.1 dX3_atRank_1 rfl hl (by decide) rfl (fun ls hl => ?_)
  obtain ⟨k0, hq⟩ := hq
  refine L2 (fun S_12 hq H locs ls hX hl => ?_) k0 S (0 : Int32) hq _ _ _ hX (lv_sub hl [1, 2, 3, 0] rfl)
  refine lv_ldc hM.1 hM.2.1 hM.2.2.2.1 (hM.2.2.2.2 _ qn_RX3_36) dX3_atRank_39 ?_
  exact e_i hM hX hlocks hret hq dX3_atRank_41
def rmX3_countMended : Room := { frames := 1, cells := 0, slots := 0, locals := 22 }
theorem kX3_countMended {R : Room} {s : State} {args : Array Value} {own : String} {index : Nat} (ht : ∀ w ∈ lw_all, w.before args s = true) (hl : Cond.methodLink own index yX3_countMended ∈ lw_all) (hf : rmX3_countMended.frames + 1 ≤ R.frames) (hlo : 8 + (3 + 11) + rmX3_countMended.locals ≤ R.locals) : CallW R s args own RX3 index yX3_countMended cX3_countMended 3 (some Jvm.ClassFile.FieldType.int) (wA yX3_countMended cX3_countMended 3 (some Jvm.ClassFile.FieldType.int)) rmX3_countMended 0 0 0 := cwV 0 ht (good_V hl qm_yX3_countMended qs_yX3_countMended qi_RX3 qc_yX3_countMended) rfl rfl rfl (by decide +kernel) ⟨hf, hlo⟩
set_option maxRecDepth 100000 in
set_option maxHeartbeats 4000000 in
theorem met_X3_countMended (l : Launch) (D : va_G) (ad : Adr) (cy : Nat → ClassId) (S : Mem) (P : Nat) {Q : Mem → Int32 → Prop} (hv : P < 11) (hq : vc_X3_countMended S P Q) : Ci l yX3_countMended (wA yX3_countMended cX3_countMended 3 (some Jvm.ClassFile.FieldType.int)) rmX3_countMended D ad cy (IN []) [.ref (ad 3 P 0)] S Q := by
  intro o sz hI
  refine mkC (own := RX3) (lv := [(0, .ref (ad 3 P 0))]) (by decide) rfl (Nat.le_of_ble_eq_true rfl) rfl ?_
  intro p e s m below meth c ls hsz hM hlocks hret hK hA hX hl
  have J26 : ∀ {K0 : Mem → Int32 → Int32 → Prop} (hk0 : ∀ (S : Mem) (y1 : Int32) (y2 : Int32), K0 S y1 y2 → ∀ (H : Heap) (locs : List Loc) (ls : Array Slot), PW D ad cy (AW ad o sz) s.heap o S H locs → lv_has ls 3 [(0, .ref (ad 3 P 0)), (1, .int y1), (2, .int y2)] → Wi D ad cy o sz Q p l e rmX3_countMended s m [.ref (ad 3 P 0)] below meth c H locs (F0 m 4 ls [])), ∀ {K1 : Mem → Int32 → Prop} (hk1 : ∀ (S : Mem) (y1 : Int32), K1 S y1 → ∀ (H : Heap) (locs : List Loc) (ls : Array Slot), PW D ad cy (AW ad o sz) s.heap o S H locs → lv_has ls 3 [(1, .int y1)] → Wi D ad cy o sz Q p l e rmX3_countMended s m [.ref (ad 3 P 0)] below meth c H locs (F0 m 32 ls [])), ∀ (S : Mem) (y1 : Int32) (y2 : Int32), vc_X3_countMended_J26 Q K0 K1 P S y1 y2 → ∀ (H : Heap) (locs : List Loc) (ls : Array Slot), PW D ad cy (AW ad o sz) s.heap o S H locs → lv_has ls 3 [(0, .ref (ad 3 P 0)), (1, .int y1), (2, .int y2)] → Wi D ad cy o sz Q p l e rmX3_countMended s m [.ref (ad 3 P 0)] below meth c H locs (F0 m 26 ls []) := by
    intro K0 hk0 K1 hk1 S y1 y2 hq H locs ls hX hl
    unfold vc_X3_countMended_J26 at hq
    refine lv_iinc (v := (y2 + (1 : Int32))) (lv' := [(2, .int (y2 + (1 : Int32))), (0, .ref (ad 3 P 0)), (1, .int y1)]) hM.1 hM.2.1 dX3_countMended_26 hl (k := 2) rfl rfl (by decide) rfl (fun ls hl => ?_)
    refine lv_goto (tgt := 4) hM.1 hM.2.1 dX3_countMended_29 (by decide) ?_
    exact hk0 S y1 (y2 + (1 : Int32)) hq _ _ _ hX (lv_sub hl [1, 2, 0] rfl)
  have L4 : ∀ {K : Mem → Int32 → Prop} (hk : ∀ (S : Mem) (y1 : Int32), K S y1 → ∀ (H : Heap) (locs : List Loc) (ls : Array Slot), PW D ad cy (AW ad o sz) s.heap o S H locs → lv_has ls 3 [(1, .int y1)] → Wi D ad cy o sz Q p l e rmX3_countMended s m [.ref (ad 3 P 0)] below meth c H locs (F0 m 32 ls [])), ∀ (n : Nat) (S : Mem) (y1 : Int32) (y2 : Int32), vc_X3_countMended_L4 Q K P n S y1 y2 → ∀ (H : Heap) (locs : List Loc) (ls : Array Slot), PW D ad cy (AW ad o sz) s.heap o S H locs → lv_has ls 3 [(0, .ref (ad 3 P 0)), (1, .int y1), (2, .int y2)] → Wi D ad cy o sz Q p l e rmX3_countMended s m [.ref (ad 3 P 0)] below meth c H locs (F0 m 4 ls []) := by
    intro K hk n
    induction n with
    | zero =>
      intro S y1 y2 hq
      rw [vc_X3_countMended_L4] at hq
      exact hq.elim
    | succ n ih =>
      intro S y1 y2 hq H locs ls hX hl
      rw [vc_X3_countMended_L4] at hq
      refine lv_iload_n hM.1 hM.2.1 dX3_countMended_4 rfl (lv_at hl 2 rfl) ?_
      refine lv_aload_n hM.1 hM.2.1 dX3_countMended_5 rfl (lv_at hl 0 rfl) ?_
      refine g3 hM hK hX (hI.1 _ (id_P hv).2.1) 6 (by decide) qf_RX3_50 rfl dX3_countMended_6 ?_
      refine lv_icmp_ge (tgt := 32) hM.1 hM.2.1 dX3_countMended_9 (by decide) (fun c_1 => ?_) (fun c_1 => ?_)
      · replace hq := hq.1 c_1
        exact hk S y1 hq _ _ _ hX (lv_sub hl [1] rfl)
      replace hq := hq.2 c_1
      refine lv_aload_n hM.1 hM.2.1 dX3_countMended_12 rfl (lv_at hl 0 rfl) ?_
      refine lv_iload_n hM.1 hM.2.1 dX3_countMended_13 rfl (lv_at hl 2 rfl) ?_
      refine cVr (As := [.int y2]) hM hK hX ⟨hI.1, trivial⟩ hA (met_X3_at l D ad cy S P y2 hv hq) (kX3_at hM.2.2.2.2 ql_RX3_53 (Nat.le_of_ble_eq_true rfl) (Nat.le_of_ble_eq_true rfl)) (v3 hK hX (hI.1 _ (id_P hv).2.1)) rfl hl.1 rfl (Nat.le_of_ble_eq_true rfl) dX3_countMended_14 ⟨Nat.zero_le _, Nat.zero_le _⟩ (fun S_2 P_3 i_4 hq H locs hX => ?_)
      have hT_5 := hq.1
      replace hq := hq.2
      refine cVi (As := []) hM hK hX ⟨hI.1, trivial⟩ hA (met_X5_hasMended l D ad cy S_2 P_3 i_4 hT_5 hq) (kX5_hasMended hM.2.2.2.2 ql_RX3_176 (Nat.le_of_ble_eq_true rfl) (Nat.le_of_ble_eq_true rfl)) (v5 hK hX (hI.1 _ (id_T hT_5).1)) rfl hl.1 rfl (Nat.le_of_ble_eq_true rfl) dX3_countMended_17 ⟨Nat.zero_le _, Nat.zero_le _⟩ (fun S_6 r_7 hq H locs hX => ?_)
      refine lv_if_eq (tgt := 26) hM.1 hM.2.1 dX3_countMended_20 (by decide) (fun c_8 => ?_) (fun c_8 => ?_)
      · replace hq := hq.1 c_8
        exact J26 ih hk S_6 y1 y2 hq _ _ _ hX (lv_sub hl [0, 1, 2] rfl)
      replace hq := hq.2 c_8
      refine lv_iinc (v := (y1 + (1 : Int32))) (lv' := [(1, .int (y1 + (1 : Int32))), (0, .ref (ad 3 P 0)), (2, .int y2)]) hM.1 hM.2.1 dX3_countMended_23 hl (k := 1) rfl rfl (by decide) rfl (fun ls hl => ?_)
      exact J26 ih hk S_6 (y1 + (1 : Int32)) y2 hq _ _ _ hX (lv_sub hl [1, 0, 2] rfl)
  unfold vc_X3_countMended at hq
  refine lv_iconst (v := (0 : Int32)) hM.1 hM.2.1 dX3_countMended_0 (by decide) ?_
  refine lv_istore_n (lv' := [(1, .int (0 : Int32)), (0, .ref (ad 3 P 0))]) hM.1 hM.2.1 dX3_countMended_1 rfl hl (by decide) rfl (fun ls hl => ?_)
  refine lv_iconst (v := (0 : Int32)) hM.1 hM.2.1 dX3_countMended_2 (by decide) ?_
  refine lv_istore_n (lv' := [(2, .int (0 : Int32)), (1, .int (0 : Int32)), (0, .ref (ad 3 P 0))]) hM.1 hM.2.1 dX3_countMended_3 rfl hl (by decide) rfl (fun ls hl => ?_)
  obtain ⟨k0, hq⟩ := hq
  refine L4 (fun S_9 y1_10 hq H locs ls hX hl => ?_) k0 S (0 : Int32) (0 : Int32) hq _ _ _ hX (lv_sub hl [2, 1, 0] rfl)
  refine lv_iload_n hM.1 hM.2.1 dX3_countMended_32 rfl (lv_at hl 0 rfl) ?_
  exact e_i hM hX hlocks hret hq dX3_countMended_33
def rmX3_countMendedIn : Room := { frames := 1, cells := 0, slots := 0, locals := 22 }
theorem kX3_countMendedIn {R : Room} {s : State} {args : Array Value} {own : String} {index : Nat} (ht : ∀ w ∈ lw_all, w.before args s = true) (hl : Cond.methodLink own index yX3_countMendedIn ∈ lw_all) (hf : rmX3_countMendedIn.frames + 1 ≤ R.frames) (hlo : 8 + (5 + 11) + rmX3_countMendedIn.locals ≤ R.locals) : CallW R s args own RX3 index yX3_countMendedIn cX3_countMendedIn 5 (some Jvm.ClassFile.FieldType.int) (wA yX3_countMendedIn cX3_countMendedIn 5 (some Jvm.ClassFile.FieldType.int)) rmX3_countMendedIn 0 0 2 := cwV 2 ht (good_V hl qm_yX3_countMendedIn qs_yX3_countMendedIn qi_RX3 qc_yX3_countMendedIn) rfl rfl rfl (by decide +kernel) ⟨hf, hlo⟩
set_option maxRecDepth 100000 in
set_option maxHeartbeats 4000000 in
theorem met_X3_countMendedIn (l : Launch) (D : va_G) (ad : Adr) (cy : Nat → ClassId) (S : Mem) (P : Nat) (x1 : Int32) (x2 : Int32) {Q : Mem → Int32 → Prop} (hv : P < 11) (hq : vc_X3_countMendedIn S P x1 x2 Q) : Ci l yX3_countMendedIn (wA yX3_countMendedIn cX3_countMendedIn 5 (some Jvm.ClassFile.FieldType.int)) rmX3_countMendedIn D ad cy (IN []) [.ref (ad 3 P 0), .int x1, .int x2] S Q := by
  intro o sz hI
  refine mkC (own := RX3) (lv := [(0, .ref (ad 3 P 0)), (1, .int x1), (2, .int x2)]) (by decide) rfl (Nat.le_of_ble_eq_true rfl) rfl ?_
  intro p e s m below meth c ls hsz hM hlocks hret hK hA hX hl
  have J55 : ∀ {K0 : Mem → Int32 → Int32 → Prop} (hk0 : ∀ (S : Mem) (y3 : Int32) (y4 : Int32), K0 S y3 y4 → ∀ (H : Heap) (locs : List Loc) (ls : Array Slot), PW D ad cy (AW ad o sz) s.heap o S H locs → lv_has ls 5 [(0, .ref (ad 3 P 0)), (1, .int x1), (2, .int x2), (3, .int y3), (4, .int y4)] → Wi D ad cy o sz Q p l e rmX3_countMendedIn s m [.ref (ad 3 P 0), .int x1, .int x2] below meth c H locs (F0 m 5 ls [])), ∀ {K1 : Mem → Int32 → Prop} (hk1 : ∀ (S : Mem) (y3 : Int32), K1 S y3 → ∀ (H : Heap) (locs : List Loc) (ls : Array Slot), PW D ad cy (AW ad o sz) s.heap o S H locs → lv_has ls 5 [(3, .int y3)] → Wi D ad cy o sz Q p l e rmX3_countMendedIn s m [.ref (ad 3 P 0), .int x1, .int x2] below meth c H locs (F0 m 61 ls [])), ∀ (S : Mem) (y3 : Int32) (y4 : Int32), vc_X3_countMendedIn_J55 Q K0 K1 P x1 x2 S y3 y4 → ∀ (H : Heap) (locs : List Loc) (ls : Array Slot), PW D ad cy (AW ad o sz) s.heap o S H locs → lv_has ls 5 [(0, .ref (ad 3 P 0)), (1, .int x1), (2, .int x2), (3, .int y3), (4, .int y4)] → Wi D ad cy o sz Q p l e rmX3_countMendedIn s m [.ref (ad 3 P 0), .int x1, .int x2] below meth c H locs (F0 m 55 ls []) := by
    intro K0 hk0 K1 hk1 S y3 y4 hq H locs ls hX hl
    unfold vc_X3_countMendedIn_J55 at hq
    refine lv_iinc (v := (y4 + (1 : Int32))) (lv' := [(4, .int (y4 + (1 : Int32))), (0, .ref (ad 3 P 0)), (1, .int x1), (2, .int x2), (3, .int y3)]) hM.1 hM.2.1 dX3_countMendedIn_55 hl (k := 4) rfl rfl (by decide) rfl (fun ls hl => ?_)
    refine lv_goto (tgt := 5) hM.1 hM.2.1 dX3_countMendedIn_58 (by decide) ?_
    exact hk0 S y3 (y4 + (1 : Int32)) hq _ _ _ hX (lv_sub hl [1, 2, 3, 4, 0] rfl)
  have L5 : ∀ {K : Mem → Int32 → Prop} (hk : ∀ (S : Mem) (y3 : Int32), K S y3 → ∀ (H : Heap) (locs : List Loc) (ls : Array Slot), PW D ad cy (AW ad o sz) s.heap o S H locs → lv_has ls 5 [(3, .int y3)] → Wi D ad cy o sz Q p l e rmX3_countMendedIn s m [.ref (ad 3 P 0), .int x1, .int x2] below meth c H locs (F0 m 61 ls [])), ∀ (n : Nat) (S : Mem) (y3 : Int32) (y4 : Int32), vc_X3_countMendedIn_L5 Q K P x1 x2 n S y3 y4 → ∀ (H : Heap) (locs : List Loc) (ls : Array Slot), PW D ad cy (AW ad o sz) s.heap o S H locs → lv_has ls 5 [(0, .ref (ad 3 P 0)), (1, .int x1), (2, .int x2), (3, .int y3), (4, .int y4)] → Wi D ad cy o sz Q p l e rmX3_countMendedIn s m [.ref (ad 3 P 0), .int x1, .int x2] below meth c H locs (F0 m 5 ls []) := by
    intro K hk n
    induction n with
    | zero =>
      intro S y3 y4 hq
      rw [vc_X3_countMendedIn_L5] at hq
      exact hq.elim
    | succ n ih =>
      intro S y3 y4 hq H locs ls hX hl
      rw [vc_X3_countMendedIn_L5] at hq
      refine lv_iload hM.1 hM.2.1 dX3_countMendedIn_5 (lv_at hl 4 rfl) ?_
      refine lv_aload_n hM.1 hM.2.1 dX3_countMendedIn_7 rfl (lv_at hl 0 rfl) ?_
      refine g3 hM hK hX (hI.1 _ (id_P hv).2.1) 6 (by decide) qf_RX3_50 rfl dX3_countMendedIn_8 ?_
      refine lv_icmp_ge (tgt := 61) hM.1 hM.2.1 dX3_countMendedIn_11 (by decide) (fun c_1 => ?_) (fun c_1 => ?_)
      · replace hq := hq.1 c_1
        exact hk S y3 hq _ _ _ hX (lv_sub hl [3] rfl)
      replace hq := hq.2 c_1
      refine lv_aload_n hM.1 hM.2.1 dX3_countMendedIn_14 rfl (lv_at hl 0 rfl) ?_
      refine lv_iload hM.1 hM.2.1 dX3_countMendedIn_15 (lv_at hl 4 rfl) ?_
      refine cVr (As := [.int y4]) hM hK hX ⟨hI.1, trivial⟩ hA (met_X3_at l D ad cy S P y4 hv hq) (kX3_at hM.2.2.2.2 ql_RX3_53 (Nat.le_of_ble_eq_true rfl) (Nat.le_of_ble_eq_true rfl)) (v3 hK hX (hI.1 _ (id_P hv).2.1)) rfl hl.1 rfl (Nat.le_of_ble_eq_true rfl) dX3_countMendedIn_17 ⟨Nat.zero_le _, Nat.zero_le _⟩ (fun S_2 P_3 i_4 hq H locs hX => ?_)
      have hT_5 := hq.1
      replace hq := hq.2
      refine cVi (As := []) hM hK hX ⟨hI.1, trivial⟩ hA (met_X5_hasMended l D ad cy S_2 P_3 i_4 hT_5 hq) (kX5_hasMended hM.2.2.2.2 ql_RX3_176 (Nat.le_of_ble_eq_true rfl) (Nat.le_of_ble_eq_true rfl)) (v5 hK hX (hI.1 _ (id_T hT_5).1)) rfl hl.1 rfl (Nat.le_of_ble_eq_true rfl) dX3_countMendedIn_20 ⟨Nat.zero_le _, Nat.zero_le _⟩ (fun S_6 r_7 hq H locs hX => ?_)
      refine lv_if_eq (tgt := 55) hM.1 hM.2.1 dX3_countMendedIn_23 (by decide) (fun c_8 => ?_) (fun c_8 => ?_)
      · replace hq := hq.1 c_8
        exact J55 ih hk S_6 y3 y4 hq _ _ _ hX (lv_sub hl [0, 1, 2, 3, 4] rfl)
      replace hq := hq.2 c_8
      refine lv_aload_n hM.1 hM.2.1 dX3_countMendedIn_26 rfl (lv_at hl 0 rfl) ?_
      refine lv_iload hM.1 hM.2.1 dX3_countMendedIn_27 (lv_at hl 4 rfl) ?_
      refine cVr (As := [.int y4]) hM hK hX ⟨hI.1, trivial⟩ hA (met_X3_at l D ad cy S_6 P y4 hv hq) (kX3_at hM.2.2.2.2 ql_RX3_53 (Nat.le_of_ble_eq_true rfl) (Nat.le_of_ble_eq_true rfl)) (v3 hK hX (hI.1 _ (id_P hv).2.1)) rfl hl.1 rfl (Nat.le_of_ble_eq_true rfl) dX3_countMendedIn_29 ⟨Nat.zero_le _, Nat.zero_le _⟩ (fun S_9 P_10 i_11 hq H locs hX => ?_)
      have hT_12 := hq.1
      replace hq := hq.2
      refine g5 hM hK hX (hI.1 _ (id_T hT_12).1) 11 (by decide) qf_RX3_157 rfl dX3_countMendedIn_32 ?_
      refine lv_iload_n hM.1 hM.2.1 dX3_countMendedIn_35 rfl (lv_at hl 1 rfl) ?_
      refine lv_icmp_lt (tgt := 55) hM.1 hM.2.1 dX3_countMendedIn_36 (by decide) (fun c_13 => ?_) (fun c_13 => ?_)
      · replace hq := hq.1 c_13
        exact J55 ih hk S_9 y3 y4 hq _ _ _ hX (lv_sub hl [0, 1, 2, 3, 4] rfl)
      replace hq := hq.2 c_13
      refine lv_aload_n hM.1 hM.2.1 dX3_countMendedIn_39 rfl (lv_at hl 0 rfl) ?_
      refine lv_iload hM.1 hM.2.1 dX3_countMendedIn_40 (lv_at hl 4 rfl) ?_
      refine cVr (As := [.int y4]) hM hK hX ⟨hI.1, trivial⟩ hA (met_X3_at l D ad cy S_9 P y4 hv hq) (kX3_at hM.2.2.2.2 ql_RX3_53 (Nat.le_of_ble_eq_true rfl) (Nat.le_of_ble_eq_true rfl)) (v3 hK hX (hI.1 _ (id_P hv).2.1)) rfl hl.1 rfl (Nat.le_of_ble_eq_true rfl) dX3_countMendedIn_42 ⟨Nat.zero_le _, Nat.zero_le _⟩ (fun S_14 P_15 i_16 hq H locs hX => ?_)
      have hT_17 := hq.1
      replace hq := hq.2
      refine g5 hM hK hX (hI.1 _ (id_T hT_17).1) 11 (by decide) qf_RX3_157 rfl dX3_countMendedIn_45 ?_
      refine lv_iload_n hM.1 hM.2.1 dX3_countMendedIn_48 rfl (lv_at hl 2 rfl) ?_
      refine lv_icmp_gt (tgt := 55) hM.1 hM.2.1 dX3_countMendedIn_49 (by decide) (fun c_18 => ?_) (fun c_18 => ?_)
      · replace hq := hq.1 c_18
        exact J55 ih hk S_14 y3 y4 hq _ _ _ hX (lv_sub hl [0, 1, 2, 3, 4] rfl)
      replace hq := hq.2 c_18
      refine lv_iinc (v := (y3 + (1 : Int32))) (lv' := [(3, .int (y3 + (1 : Int32))), (0, .ref (ad 3 P 0)), (1, .int x1), (2, .int x2), (4, .int y4)]) hM.1 hM.2.1 dX3_countMendedIn_52 hl (k := 3) rfl rfl (by decide) rfl (fun ls hl => ?_)
      exact J55 ih hk S_14 (y3 + (1 : Int32)) y4 hq _ _ _ hX (lv_sub hl [1, 2, 3, 0, 4] rfl)
  unfold vc_X3_countMendedIn at hq
  refine lv_iconst (v := (0 : Int32)) hM.1 hM.2.1 dX3_countMendedIn_0 (by decide) ?_
  refine lv_istore_n (lv' := [(3, .int (0 : Int32)), (0, .ref (ad 3 P 0)), (1, .int x1), (2, .int x2)]) hM.1 hM.2.1 dX3_countMendedIn_1 rfl hl (by decide) rfl (fun ls hl => ?_)
  refine lv_iconst (v := (0 : Int32)) hM.1 hM.2.1 dX3_countMendedIn_2 (by decide) ?_
  refine lv_istore (lv' := [(4, .int (0 : Int32)), (3, .int (0 : Int32)), (0, .ref (ad 3 P 0)), (1, .int x1), (2, .int x2)]) hM.1 hM.2.1 dX3_countMendedIn_3 hl (by decide) rfl (fun ls hl => ?_)
  obtain ⟨k0, hq⟩ := hq
  refine L5 (fun S_19 y3_20 hq H locs ls hX hl => ?_) k0 S (0 : Int32) (0 : Int32) hq _ _ _ hX (lv_sub hl [2, 3, 4, 1, 0] rfl)
  refine lv_iload_n hM.1 hM.2.1 dX3_countMendedIn_61 rfl (lv_at hl 0 rfl) ?_
  exact e_i hM hX hlocks hret hq dX3_countMendedIn_62
