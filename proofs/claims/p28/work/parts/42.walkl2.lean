def rmL_areRanked : Room := { frames := 6, cells := 0, slots := 0, locals := 135 }
theorem kL_areRanked {R : Room} {s : State} {args : Array Value} {own : String} {index : Nat} (ht : ∀ w ∈ lw_all, w.before args s = true) (hl : Cond.methodLink own index yL_areRanked ∈ lw_all) (hf : rmL_areRanked.frames + 1 ≤ R.frames) (hlo : 8 + (16 + 11) + rmL_areRanked.locals ≤ R.locals) : CallB R s args own index yL_areRanked cL_areRanked 16 (some Jvm.ClassFile.FieldType.boolean) (wA yL_areRanked cL_areRanked 16 (some Jvm.ClassFile.FieldType.boolean)) rmL_areRanked 0 0 8 ∧ (Cond.static yL_areRanked).before args s = true := va_cwS 8 ht (good_S hl qt_yL_areRanked qi_RL qc_yL_areRanked) rfl rfl rfl (by decide +kernel) ⟨hf, hlo⟩
set_option maxRecDepth 100000 in
set_option maxHeartbeats 4000000 in
theorem met_L_areRanked (l : Launch) (D : va_G) (ad : Adr) (cy : Nat → ClassId) (S : Mem) (x5 : Int32) (x6 : Int32) (x7 : Int32) {Q : Mem → Int32 → Prop} (hq : vc_L_areRanked S x5 x6 x7 Q) : Ci l yL_areRanked (wA yL_areRanked cL_areRanked 16 (some Jvm.ClassFile.FieldType.boolean)) rmL_areRanked D ad cy (IN [(15, 0, 0), (16, 0, 0), (17, 0, 0), (18, 0, 0)]) [.ref (ad 14 0 0), .ref (ad 15 0 0), .ref (ad 16 0 0), .ref (ad 17 0 0), .ref (ad 18 0 0), .int x5, .int x6, .int x7] S Q := by
  intro o sz hI
  refine mkC (own := RL) (lv := [(0, .ref (ad 14 0 0)), (1, .ref (ad 15 0 0)), (2, .ref (ad 16 0 0)), (3, .ref (ad 17 0 0)), (4, .ref (ad 18 0 0)), (5, .int x5), (6, .int x6), (7, .int x7)]) (by decide) rfl (Nat.le_of_ble_eq_true rfl) rfl ?_
  intro p e s m below meth c ls hsz hM hlocks hret hK hA hX hl
  have J88 : ∀ {K0 : Mem → Int32 → Int32 → Int32 → Prop} (hk0 : ∀ (S : Mem) (y8 : Int32) (y9 : Int32) (y10 : Int32), K0 S y8 y9 y10 → ∀ (H : Heap) (locs : List Loc) (ls : Array Slot), PW D ad cy (AW ad o sz) s.heap o S H locs → lv_has ls 16 [(0, .ref (ad 14 0 0)), (1, .ref (ad 15 0 0)), (2, .ref (ad 16 0 0)), (3, .ref (ad 17 0 0)), (4, .ref (ad 18 0 0)), (5, .int x5), (6, .int x6), (7, .int x7), (8, .int y8), (9, .int y9), (10, .int y10)] → Wi D ad cy o sz Q p l e rmL_areRanked s m [.ref (ad 14 0 0), .ref (ad 15 0 0), .ref (ad 16 0 0), .ref (ad 17 0 0), .ref (ad 18 0 0), .int x5, .int x6, .int x7] below meth c H locs (F0 m 9 ls [])), ∀ {K1 : Mem → Int32 → Int32 → Prop} (hk1 : ∀ (S : Mem) (y8 : Int32) (y9 : Int32), K1 S y8 y9 → ∀ (H : Heap) (locs : List Loc) (ls : Array Slot), PW D ad cy (AW ad o sz) s.heap o S H locs → lv_has ls 16 [(0, .ref (ad 14 0 0)), (1, .ref (ad 15 0 0)), (2, .ref (ad 16 0 0)), (3, .ref (ad 17 0 0)), (4, .ref (ad 18 0 0)), (5, .int x5), (6, .int x6), (7, .int x7), (8, .int y8), (9, .int y9)] → Wi D ad cy o sz Q p l e rmL_areRanked s m [.ref (ad 14 0 0), .ref (ad 15 0 0), .ref (ad 16 0 0), .ref (ad 17 0 0), .ref (ad 18 0 0), .int x5, .int x6, .int x7] below meth c H locs (F0 m 97 ls [])), ∀ (S : Mem) (y8 : Int32) (y10 : Int32) (w0 : Int32) (w1 : Int32), vc_L_areRanked_J88 Q K0 K1 x5 x6 x7 S y8 y10 w0 w1 → ∀ (H : Heap) (locs : List Loc) (ls : Array Slot), PW D ad cy (AW ad o sz) s.heap o S H locs → lv_has ls 16 [(0, .ref (ad 14 0 0)), (1, .ref (ad 15 0 0)), (2, .ref (ad 16 0 0)), (3, .ref (ad 17 0 0)), (4, .ref (ad 18 0 0)), (5, .int x5), (6, .int x6), (7, .int x7), (8, .int y8), (10, .int y10)] → Wi D ad cy o sz Q p l e rmL_areRanked s m [.ref (ad 14 0 0), .ref (ad 15 0 0), .ref (ad 16 0 0), .ref (ad 17 0 0), .ref (ad 18 0 0), .int x5, .int x6, .int x7] below meth c H locs (F0 m 88 ls [.int w1, .int w0]) := by
    intro K0 hk0 K1 hk1 S y8 y10 w0 w1 hq H locs ls hX hl
    unfold vc_L_areRanked_J88 at hq
    refine lv_iadd hM.1 hM.2.1 dL_areRanked_88 ?_
    refine lv_istore (lv' := [(9, .int (w0 + w1)), (0, .ref (ad 14 0 0)), (1, .ref (ad 15 0 0)), (2, .ref (ad 16 0 0)), (3, .ref (ad 17 0 0)), (4, .ref (ad 18 0 0)), (5, .int x5), (6, .int x6), (7, .int x7), (8, .int y8), (10, .int y10)]) hM.1 hM.2.1 dL_areRanked_89 hl (by decide) rfl (fun ls hl => ?_)
    refine lv_iinc (v := (y10 + (1 : Int32))) (lv' := [(10, .int (y10 + (1 : Int32))), (9, .int (w0 + w1)), (0, .ref (ad 14 0 0)), (1, .ref (ad 15 0 0)), (2, .ref (ad 16 0 0)), (3, .ref (ad 17 0 0)), (4, .ref (ad 18 0 0)), (5, .int x5), (6, .int x6), (7, .int x7), (8, .int y8)]) hM.1 hM.2.1 dL_areRanked_91 hl (k := 10) rfl rfl (by decide) rfl (fun ls hl => ?_)
    refine lv_goto (tgt := 9) hM.1 hM.2.1 dL_areRanked_94 (by decide) ?_
    exact hk0 S y8 (w0 + w1) (y10 + (1 : Int32)) hq _ _ _ hX (lv_sub hl [2, 3, 4, 5, 6, 7, 8, 9, 10, 1, 0] rfl)
  have J87 : ∀ {K0 : Mem → Int32 → Int32 → Int32 → Prop} (hk0 : ∀ (S : Mem) (y8 : Int32) (y9 : Int32) (y10 : Int32), K0 S y8 y9 y10 → ∀ (H : Heap) (locs : List Loc) (ls : Array Slot), PW D ad cy (AW ad o sz) s.heap o S H locs → lv_has ls 16 [(0, .ref (ad 14 0 0)), (1, .ref (ad 15 0 0)), (2, .ref (ad 16 0 0)), (3, .ref (ad 17 0 0)), (4, .ref (ad 18 0 0)), (5, .int x5), (6, .int x6), (7, .int x7), (8, .int y8), (9, .int y9), (10, .int y10)] → Wi D ad cy o sz Q p l e rmL_areRanked s m [.ref (ad 14 0 0), .ref (ad 15 0 0), .ref (ad 16 0 0), .ref (ad 17 0 0), .ref (ad 18 0 0), .int x5, .int x6, .int x7] below meth c H locs (F0 m 9 ls [])), ∀ {K1 : Mem → Int32 → Int32 → Prop} (hk1 : ∀ (S : Mem) (y8 : Int32) (y9 : Int32), K1 S y8 y9 → ∀ (H : Heap) (locs : List Loc) (ls : Array Slot), PW D ad cy (AW ad o sz) s.heap o S H locs → lv_has ls 16 [(0, .ref (ad 14 0 0)), (1, .ref (ad 15 0 0)), (2, .ref (ad 16 0 0)), (3, .ref (ad 17 0 0)), (4, .ref (ad 18 0 0)), (5, .int x5), (6, .int x6), (7, .int x7), (8, .int y8), (9, .int y9)] → Wi D ad cy o sz Q p l e rmL_areRanked s m [.ref (ad 14 0 0), .ref (ad 15 0 0), .ref (ad 16 0 0), .ref (ad 17 0 0), .ref (ad 18 0 0), .int x5, .int x6, .int x7] below meth c H locs (F0 m 97 ls [])), ∀ (S : Mem) (y8 : Int32) (y10 : Int32) (w0 : Int32), vc_L_areRanked_J87 Q K0 K1 x5 x6 x7 S y8 y10 w0 → ∀ (H : Heap) (locs : List Loc) (ls : Array Slot), PW D ad cy (AW ad o sz) s.heap o S H locs → lv_has ls 16 [(0, .ref (ad 14 0 0)), (1, .ref (ad 15 0 0)), (2, .ref (ad 16 0 0)), (3, .ref (ad 17 0 0)), (4, .ref (ad 18 0 0)), (5, .int x5), (6, .int x6), (7, .int x7), (8, .int y8), (10, .int y10)] → Wi D ad cy o sz Q p l e rmL_areRanked s m [.ref (ad 14 0 0), .ref (ad 15 0 0), .ref (ad 16 0 0), .ref (ad 17 0 0), .ref (ad 18 0 0), .int x5, .int x6, .int x7] below meth c H locs (F0 m 87 ls [.int w0]) := by
    intro K0 hk0 K1 hk1 S y8 y10 w0 hq H locs ls hX hl
    unfold vc_L_areRanked_J87 at hq
    refine lv_iconst (v := (0 : Int32)) hM.1 hM.2.1 dL_areRanked_87 (by decide) ?_
    exact J88 hk0 hk1 S y8 y10 w0 (0 : Int32) hq _ _ _ hX (lv_sub hl [0, 1, 2, 3, 4, 5, 6, 7, 8, 9] rfl)
  have J39 : ∀ {K0 : Mem → Int32 → Int32 → Int32 → Prop} (hk0 : ∀ (S : Mem) (y8 : Int32) (y9 : Int32) (y10 : Int32), K0 S y8 y9 y10 → ∀ (H : Heap) (locs : List Loc) (ls : Array Slot), PW D ad cy (AW ad o sz) s.heap o S H locs → lv_has ls 16 [(0, .ref (ad 14 0 0)), (1, .ref (ad 15 0 0)), (2, .ref (ad 16 0 0)), (3, .ref (ad 17 0 0)), (4, .ref (ad 18 0 0)), (5, .int x5), (6, .int x6), (7, .int x7), (8, .int y8), (9, .int y9), (10, .int y10)] → Wi D ad cy o sz Q p l e rmL_areRanked s m [.ref (ad 14 0 0), .ref (ad 15 0 0), .ref (ad 16 0 0), .ref (ad 17 0 0), .ref (ad 18 0 0), .int x5, .int x6, .int x7] below meth c H locs (F0 m 9 ls [])), ∀ {K1 : Mem → Int32 → Int32 → Prop} (hk1 : ∀ (S : Mem) (y8 : Int32) (y9 : Int32), K1 S y8 y9 → ∀ (H : Heap) (locs : List Loc) (ls : Array Slot), PW D ad cy (AW ad o sz) s.heap o S H locs → lv_has ls 16 [(0, .ref (ad 14 0 0)), (1, .ref (ad 15 0 0)), (2, .ref (ad 16 0 0)), (3, .ref (ad 17 0 0)), (4, .ref (ad 18 0 0)), (5, .int x5), (6, .int x6), (7, .int x7), (8, .int y8), (9, .int y9)] → Wi D ad cy o sz Q p l e rmL_areRanked s m [.ref (ad 14 0 0), .ref (ad 15 0 0), .ref (ad 16 0 0), .ref (ad 17 0 0), .ref (ad 18 0 0), .int x5, .int x6, .int x7] below meth c H locs (F0 m 97 ls [])), ∀ (S : Mem) (y9 : Int32) (y10 : Int32) (w0 : Int32) (w1 : Int32), vc_L_areRanked_J39 Q K0 K1 x5 x6 x7 S y9 y10 w0 w1 → ∀ (H : Heap) (locs : List Loc) (ls : Array Slot), PW D ad cy (AW ad o sz) s.heap o S H locs → lv_has ls 16 [(0, .ref (ad 14 0 0)), (1, .ref (ad 15 0 0)), (2, .ref (ad 16 0 0)), (3, .ref (ad 17 0 0)), (4, .ref (ad 18 0 0)), (5, .int x5), (6, .int x6), (7, .int x7), (9, .int y9), (10, .int y10)] → Wi D ad cy o sz Q p l e rmL_areRanked s m [.ref (ad 14 0 0), .ref (ad 15 0 0), .ref (ad 16 0 0), .ref (ad 17 0 0), .ref (ad 18 0 0), .int x5, .int x6, .int x7] below meth c H locs (F0 m 39 ls [.int w1, .int w0]) := by
    intro K0 hk0 K1 hk1 S y9 y10 w0 w1 hq H locs ls hX hl
    unfold vc_L_areRanked_J39 at hq
    refine lv_iadd hM.1 hM.2.1 dL_areRanked_39 ?_
    refine lv_istore (lv' := [(8, .int (w0 + w1)), (0, .ref (ad 14 0 0)), (1, .ref (ad 15 0 0)), (2, .ref (ad 16 0 0)), (3, .ref (ad 17 0 0)), (4, .ref (ad 18 0 0)), (5, .int x5), (6, .int x6), (7, .int x7), (9, .int y9), (10, .int y10)]) hM.1 hM.2.1 dL_areRanked_40 hl (by decide) rfl (fun ls hl => ?_)
    refine lv_iload hM.1 hM.2.1 dL_areRanked_42 (lv_at hl 9 rfl) ?_
    refine lv_aload_n hM.1 hM.2.1 dL_areRanked_44 rfl (lv_at hl 2 rfl) ?_
    refine lv_bipush (v := (10 : Int32)) hM.1 hM.2.1 dL_areRanked_45 (by decide) ?_
    refine lv_iload hM.1 hM.2.1 dL_areRanked_47 (lv_at hl 10 rfl) ?_
    refine lv_imul hM.1 hM.2.1 dL_areRanked_49 ?_
    refine lv_bipush (v := (7 : Int32)) hM.1 hM.2.1 dL_areRanked_50 (by decide) ?_
    refine lv_iadd hM.1 hM.2.1 dL_areRanked_52 ?_
    have c_5 := hq.1
    replace hq := hq.2
    refine r_iald hM hK hX hI.2.1 (a15 0 0) c_5 dL_areRanked_53 ?_
    refine lv_if_le (tgt := 87) hM.1 hM.2.1 dL_areRanked_54 (by decide) (fun c_6 => ?_) (fun c_6 => ?_)
    · replace hq := hq.1 c_6
      exact J87 hk0 hk1 S (w0 + w1) y10 y9 hq _ _ _ hX (lv_sub hl [1, 2, 3, 4, 5, 6, 7, 8, 0, 10] rfl)
    replace hq := hq.2 c_6
    refine lv_aload_n hM.1 hM.2.1 dL_areRanked_57 rfl (lv_at hl 2 rfl) ?_
    refine lv_aload_n hM.1 hM.2.1 dL_areRanked_58 rfl (lv_at hl 3 rfl) ?_
    refine lv_aload_n hM.1 hM.2.1 dL_areRanked_59 rfl (lv_at hl 4 rfl) ?_
    refine lv_iload hM.1 hM.2.1 dL_areRanked_60 (lv_at hl 10 rfl) ?_
    refine cSi (As := [.ref (ad 15 0 0), .ref (ad 16 0 0), .ref (ad 17 0 0), .int y10]) hM hK hX ⟨hI.1, hI.2.1, hI.2.2.1, hI.2.2.2.1, trivial⟩ hA (met_L_own l D ad cy S 0 y10 hq) (kL_own hM.2.2.2.2 ql_RL_20 (Nat.le_of_ble_eq_true rfl) (Nat.le_of_ble_eq_true rfl)) rfl hl.1 rfl (Nat.le_of_ble_eq_true rfl) dL_areRanked_62 ⟨Nat.zero_le _, Nat.zero_le _⟩ (fun S_7 r_8 hq H locs hX => ?_)
    refine lv_iload hM.1 hM.2.1 dL_areRanked_65 (lv_at hl 7 rfl) ?_
    refine lv_icmp_lt (tgt := 87) hM.1 hM.2.1 dL_areRanked_67 (by decide) (fun c_9 => ?_) (fun c_9 => ?_)
    · replace hq := hq.1 c_9
      exact J87 hk0 hk1 S_7 (w0 + w1) y10 y9 hq _ _ _ hX (lv_sub hl [1, 2, 3, 4, 5, 6, 7, 8, 0, 10] rfl)
    replace hq := hq.2 c_9
    refine lv_aload_n hM.1 hM.2.1 dL_areRanked_70 rfl (lv_at hl 2 rfl) ?_
    refine lv_aload_n hM.1 hM.2.1 dL_areRanked_71 rfl (lv_at hl 3 rfl) ?_
    refine lv_aload_n hM.1 hM.2.1 dL_areRanked_72 rfl (lv_at hl 4 rfl) ?_
    refine lv_iload hM.1 hM.2.1 dL_areRanked_73 (lv_at hl 10 rfl) ?_
    refine cSi (As := [.ref (ad 15 0 0), .ref (ad 16 0 0), .ref (ad 17 0 0), .int y10]) hM hK hX ⟨hI.1, hI.2.1, hI.2.2.1, hI.2.2.2.1, trivial⟩ hA (met_L_own l D ad cy S_7 0 y10 hq) (kL_own hM.2.2.2.2 ql_RL_20 (Nat.le_of_ble_eq_true rfl) (Nat.le_of_ble_eq_true rfl)) rfl hl.1 rfl (Nat.le_of_ble_eq_true rfl) dL_areRanked_75 ⟨Nat.zero_le _, Nat.zero_le _⟩ (fun S_10 r_11 hq H locs hX => ?_)
    refine lv_iload hM.1 hM.2.1 dL_areRanked_78 (lv_at hl 8 rfl) ?_
    refine lv_icmp_gt (tgt := 87) hM.1 hM.2.1 dL_areRanked_80 (by decide) (fun c_12 => ?_) (fun c_12 => ?_)
    · replace hq := hq.1 c_12
      exact J87 hk0 hk1 S_10 (w0 + w1) y10 y9 hq _ _ _ hX (lv_sub hl [1, 2, 3, 4, 5, 6, 7, 8, 0, 10] rfl)
    replace hq := hq.2 c_12
    refine lv_iconst (v := (1 : Int32)) hM.1 hM.2.1 dL_areRanked_83 (by decide) ?_
    refine lv_goto (tgt := 88) hM.1 hM.2.1 dL_areRanked_84 (by decide) ?_
    exact J88 hk0 hk1 S_10 (w0 + w1) y10 y9 (1 : Int32) hq _ _ _ hX (lv_sub hl [1, 2, 3, 4, 5, 6, 7, 8, 0, 10] rfl)
  have L9 : ∀ {K : Mem → Int32 → Int32 → Prop} (hk : ∀ (S : Mem) (y8 : Int32) (y9 : Int32), K S y8 y9 → ∀ (H : Heap) (locs : List Loc) (ls : Array Slot), PW D ad cy (AW ad o sz) s.heap o S H locs → lv_has ls 16 [(0, .ref (ad 14 0 0)), (1, .ref (ad 15 0 0)), (2, .ref (ad 16 0 0)), (3, .ref (ad 17 0 0)), (4, .ref (ad 18 0 0)), (5, .int x5), (6, .int x6), (7, .int x7), (8, .int y8), (9, .int y9)] → Wi D ad cy o sz Q p l e rmL_areRanked s m [.ref (ad 14 0 0), .ref (ad 15 0 0), .ref (ad 16 0 0), .ref (ad 17 0 0), .ref (ad 18 0 0), .int x5, .int x6, .int x7] below meth c H locs (F0 m 97 ls [])), ∀ (n : Nat) (S : Mem) (y8 : Int32) (y9 : Int32) (y10 : Int32), vc_L_areRanked_L9 Q K x5 x6 x7 n S y8 y9 y10 → ∀ (H : Heap) (locs : List Loc) (ls : Array Slot), PW D ad cy (AW ad o sz) s.heap o S H locs → lv_has ls 16 [(0, .ref (ad 14 0 0)), (1, .ref (ad 15 0 0)), (2, .ref (ad 16 0 0)), (3, .ref (ad 17 0 0)), (4, .ref (ad 18 0 0)), (5, .int x5), (6, .int x6), (7, .int x7), (8, .int y8), (9, .int y9), (10, .int y10)] → Wi D ad cy o sz Q p l e rmL_areRanked s m [.ref (ad 14 0 0), .ref (ad 15 0 0), .ref (ad 16 0 0), .ref (ad 17 0 0), .ref (ad 18 0 0), .int x5, .int x6, .int x7] below meth c H locs (F0 m 9 ls []) := by
    intro K hk n
    induction n with
    | zero =>
      intro S y8 y9 y10 hq
      rw [vc_L_areRanked_L9] at hq
      exact hq.elim
    | succ n ih =>
      intro S y8 y9 y10 hq H locs ls hX hl
      rw [vc_L_areRanked_L9] at hq
      refine lv_iload hM.1 hM.2.1 dL_areRanked_9 (lv_at hl 10 rfl) ?_
      refine lv_aload hM.1 hM.2.1 dL_areRanked_11 (lv_at hl 4 rfl) ?_
      refine lv_bipush (v := (15 : Int32)) hM.1 hM.2.1 dL_areRanked_13 (by decide) ?_
      have c_1 := hq.1
      replace hq := hq.2
      refine r_iald hM hK hX hI.2.2.2.2.1 (a18 0 0) c_1 dL_areRanked_15 ?_
      refine lv_icmp_ge (tgt := 97) hM.1 hM.2.1 dL_areRanked_16 (by decide) (fun c_2 => ?_) (fun c_2 => ?_)
      · replace hq := hq.1 c_2
        exact hk S y8 y9 hq _ _ _ hX (lv_sub hl [0, 1, 2, 3, 4, 5, 6, 7, 8, 9] rfl)
      replace hq := hq.2 c_2
      refine lv_iload hM.1 hM.2.1 dL_areRanked_19 (lv_at hl 8 rfl) ?_
      refine lv_aload_n hM.1 hM.2.1 dL_areRanked_21 rfl (lv_at hl 1 rfl) ?_
      refine lv_bipush (v := (10 : Int32)) hM.1 hM.2.1 dL_areRanked_22 (by decide) ?_
      refine lv_iload hM.1 hM.2.1 dL_areRanked_24 (lv_at hl 10 rfl) ?_
      refine lv_imul hM.1 hM.2.1 dL_areRanked_26 ?_
      refine lv_bipush (v := (7 : Int32)) hM.1 hM.2.1 dL_areRanked_27 (by decide) ?_
      refine lv_iadd hM.1 hM.2.1 dL_areRanked_29 ?_
      have c_3 := hq.1
      replace hq := hq.2
      refine r_iald hM hK hX hI.2.1 (a15 0 0) c_3 dL_areRanked_30 ?_
      refine lv_if_le (tgt := 38) hM.1 hM.2.1 dL_areRanked_31 (by decide) (fun c_4 => ?_) (fun c_4 => ?_)
      · replace hq := hq.1 c_4
        refine lv_iconst (v := (0 : Int32)) hM.1 hM.2.1 dL_areRanked_38 (by decide) ?_
        exact J39 ih hk S y9 y10 y8 (0 : Int32) hq _ _ _ hX (lv_sub hl [0, 1, 2, 3, 4, 5, 6, 7, 9, 10] rfl)
      replace hq := hq.2 c_4
      refine lv_iconst (v := (1 : Int32)) hM.1 hM.2.1 dL_areRanked_34 (by decide) ?_
      refine lv_goto (tgt := 39) hM.1 hM.2.1 dL_areRanked_35 (by decide) ?_
      exact J39 ih hk S y9 y10 y8 (1 : Int32) hq _ _ _ hX (lv_sub hl [0, 1, 2, 3, 4, 5, 6, 7, 9, 10] rfl)
  have J272 : ∀ {K0 : Mem → Int32 → Int32 → Int32 → Int32 → Int32 → Prop} (hk0 : ∀ (S : Mem) (y8 : Int32) (y10 : Int32) (y11 : Int32) (y12 : Int32) (y13 : Int32), K0 S y8 y10 y11 y12 y13 → ∀ (H : Heap) (locs : List Loc) (ls : Array Slot), PW D ad cy (AW ad o sz) s.heap o S H locs → lv_has ls 16 [(0, .ref (ad 14 0 0)), (1, .ref (ad 15 0 0)), (2, .ref (ad 16 0 0)), (3, .ref (ad 17 0 0)), (4, .ref (ad 18 0 0)), (5, .int x5), (8, .int y8), (10, .int y10), (11, .int y11), (12, .int y12), (13, .int y13)] → Wi D ad cy o sz Q p l e rmL_areRanked s m [.ref (ad 14 0 0), .ref (ad 15 0 0), .ref (ad 16 0 0), .ref (ad 17 0 0), .ref (ad 18 0 0), .int x5, .int x6, .int x7] below meth c H locs (F0 m 140 ls [])), ∀ {K1 : Mem → Int32 → Prop} (hk1 : ∀ (S : Mem) (y10 : Int32), K1 S y10 → ∀ (H : Heap) (locs : List Loc) (ls : Array Slot), PW D ad cy (AW ad o sz) s.heap o S H locs → lv_has ls 16 [(10, .int y10)] → Wi D ad cy o sz Q p l e rmL_areRanked s m [.ref (ad 14 0 0), .ref (ad 15 0 0), .ref (ad 16 0 0), .ref (ad 17 0 0), .ref (ad 18 0 0), .int x5, .int x6, .int x7] below meth c H locs (F0 m 288 ls [])), ∀ (S : Mem) (y8 : Int32) (y13 : Int32) (y14 : Int32) (y15 : Int32) (w0 : Int32), vc_L_areRanked_J272 Q K0 K1 x5 x6 x7 S y8 y13 y14 y15 w0 → ∀ (H : Heap) (locs : List Loc) (ls : Array Slot), PW D ad cy (AW ad o sz) s.heap o S H locs → lv_has ls 16 [(0, .ref (ad 14 0 0)), (1, .ref (ad 15 0 0)), (2, .ref (ad 16 0 0)), (3, .ref (ad 17 0 0)), (4, .ref (ad 18 0 0)), (5, .int x5), (8, .int y8), (13, .int y13), (14, .int y14), (15, .int y15)] → Wi D ad cy o sz Q p l e rmL_areRanked s m [.ref (ad 14 0 0), .ref (ad 15 0 0), .ref (ad 16 0 0), .ref (ad 17 0 0), .ref (ad 18 0 0), .int x5, .int x6, .int x7] below meth c H locs (F0 m 272 ls [.int w0]) := by
    intro K0 hk0 K1 hk1 S y8 y13 y14 y15 w0 hq H locs ls hX hl
    unfold vc_L_areRanked_J272 at hq
    refine lv_istore (lv' := [(10, .int w0), (0, .ref (ad 14 0 0)), (1, .ref (ad 15 0 0)), (2, .ref (ad 16 0 0)), (3, .ref (ad 17 0 0)), (4, .ref (ad 18 0 0)), (5, .int x5), (8, .int y8), (13, .int y13), (14, .int y14), (15, .int y15)]) hM.1 hM.2.1 dL_areRanked_272 hl (by decide) rfl (fun ls hl => ?_)
    refine lv_iload hM.1 hM.2.1 dL_areRanked_274 (lv_at hl 10 rfl) ?_
    refine lv_istore (lv' := [(11, .int y15), (10, .int w0), (0, .ref (ad 14 0 0)), (1, .ref (ad 15 0 0)), (2, .ref (ad 16 0 0)), (3, .ref (ad 17 0 0)), (4, .ref (ad 18 0 0)), (5, .int x5), (8, .int y8), (13, .int y13), (14, .int y14), (15, .int y15)]) hM.1 hM.2.1 dL_areRanked_276 hl (by decide) rfl (fun ls hl => ?_)
    refine lv_iload hM.1 hM.2.1 dL_areRanked_278 (lv_at hl 10 rfl) ?_
    refine lv_istore (lv' := [(12, .int y14), (11, .int y15), (10, .int w0), (0, .ref (ad 14 0 0)), (1, .ref (ad 15 0 0)), (2, .ref (ad 16 0 0)), (3, .ref (ad 17 0 0)), (4, .ref (ad 18 0 0)), (5, .int x5), (8, .int y8), (13, .int y13), (14, .int y14), (15, .int y15)]) hM.1 hM.2.1 dL_areRanked_280 hl (by decide) rfl (fun ls hl => ?_)
    refine lv_iinc (v := (y13 + (1 : Int32))) (lv' := [(13, .int (y13 + (1 : Int32))), (12, .int y14), (11, .int y15), (10, .int w0), (0, .ref (ad 14 0 0)), (1, .ref (ad 15 0 0)), (2, .ref (ad 16 0 0)), (3, .ref (ad 17 0 0)), (4, .ref (ad 18 0 0)), (5, .int x5), (8, .int y8), (14, .int y14), (15, .int y15)]) hM.1 hM.2.1 dL_areRanked_282 hl (k := 10) rfl rfl (by decide) rfl (fun ls hl => ?_)
    refine lv_goto (tgt := 140) hM.1 hM.2.1 dL_areRanked_285 (by decide) ?_
    exact hk0 S y8 w0 y15 y14 (y13 + (1 : Int32)) hq _ _ _ hX (lv_sub hl [4, 5, 6, 7, 8, 9, 10, 3, 2, 1, 0] rfl)
  have J271 : ∀ {K0 : Mem → Int32 → Int32 → Int32 → Int32 → Int32 → Prop} (hk0 : ∀ (S : Mem) (y8 : Int32) (y10 : Int32) (y11 : Int32) (y12 : Int32) (y13 : Int32), K0 S y8 y10 y11 y12 y13 → ∀ (H : Heap) (locs : List Loc) (ls : Array Slot), PW D ad cy (AW ad o sz) s.heap o S H locs → lv_has ls 16 [(0, .ref (ad 14 0 0)), (1, .ref (ad 15 0 0)), (2, .ref (ad 16 0 0)), (3, .ref (ad 17 0 0)), (4, .ref (ad 18 0 0)), (5, .int x5), (8, .int y8), (10, .int y10), (11, .int y11), (12, .int y12), (13, .int y13)] → Wi D ad cy o sz Q p l e rmL_areRanked s m [.ref (ad 14 0 0), .ref (ad 15 0 0), .ref (ad 16 0 0), .ref (ad 17 0 0), .ref (ad 18 0 0), .int x5, .int x6, .int x7] below meth c H locs (F0 m 140 ls [])), ∀ {K1 : Mem → Int32 → Prop} (hk1 : ∀ (S : Mem) (y10 : Int32), K1 S y10 → ∀ (H : Heap) (locs : List Loc) (ls : Array Slot), PW D ad cy (AW ad o sz) s.heap o S H locs → lv_has ls 16 [(10, .int y10)] → Wi D ad cy o sz Q p l e rmL_areRanked s m [.ref (ad 14 0 0), .ref (ad 15 0 0), .ref (ad 16 0 0), .ref (ad 17 0 0), .ref (ad 18 0 0), .int x5, .int x6, .int x7] below meth c H locs (F0 m 288 ls [])), ∀ (S : Mem) (y8 : Int32) (y13 : Int32) (y14 : Int32) (y15 : Int32), vc_L_areRanked_J271 Q K0 K1 x5 x6 x7 S y8 y13 y14 y15 → ∀ (H : Heap) (locs : List Loc) (ls : Array Slot), PW D ad cy (AW ad o sz) s.heap o S H locs → lv_has ls 16 [(0, .ref (ad 14 0 0)), (1, .ref (ad 15 0 0)), (2, .ref (ad 16 0 0)), (3, .ref (ad 17 0 0)), (4, .ref (ad 18 0 0)), (5, .int x5), (8, .int y8), (13, .int y13), (14, .int y14), (15, .int y15)] → Wi D ad cy o sz Q p l e rmL_areRanked s m [.ref (ad 14 0 0), .ref (ad 15 0 0), .ref (ad 16 0 0), .ref (ad 17 0 0), .ref (ad 18 0 0), .int x5, .int x6, .int x7] below meth c H locs (F0 m 271 ls []) := by
    intro K0 hk0 K1 hk1 S y8 y13 y14 y15 hq H locs ls hX hl
    unfold vc_L_areRanked_J271 at hq
    refine lv_iconst (v := (0 : Int32)) hM.1 hM.2.1 dL_areRanked_271 (by decide) ?_
    exact J272 hk0 hk1 S y8 y13 y14 y15 (0 : Int32) hq _ _ _ hX (lv_sub hl [0, 1, 2, 3, 4, 5, 6, 7, 8, 9] rfl)
  have J267 : ∀ {K0 : Mem → Int32 → Int32 → Int32 → Int32 → Int32 → Prop} (hk0 : ∀ (S : Mem) (y8 : Int32) (y10 : Int32) (y11 : Int32) (y12 : Int32) (y13 : Int32), K0 S y8 y10 y11 y12 y13 → ∀ (H : Heap) (locs : List Loc) (ls : Array Slot), PW D ad cy (AW ad o sz) s.heap o S H locs → lv_has ls 16 [(0, .ref (ad 14 0 0)), (1, .ref (ad 15 0 0)), (2, .ref (ad 16 0 0)), (3, .ref (ad 17 0 0)), (4, .ref (ad 18 0 0)), (5, .int x5), (8, .int y8), (10, .int y10), (11, .int y11), (12, .int y12), (13, .int y13)] → Wi D ad cy o sz Q p l e rmL_areRanked s m [.ref (ad 14 0 0), .ref (ad 15 0 0), .ref (ad 16 0 0), .ref (ad 17 0 0), .ref (ad 18 0 0), .int x5, .int x6, .int x7] below meth c H locs (F0 m 140 ls [])), ∀ {K1 : Mem → Int32 → Prop} (hk1 : ∀ (S : Mem) (y10 : Int32), K1 S y10 → ∀ (H : Heap) (locs : List Loc) (ls : Array Slot), PW D ad cy (AW ad o sz) s.heap o S H locs → lv_has ls 16 [(10, .int y10)] → Wi D ad cy o sz Q p l e rmL_areRanked s m [.ref (ad 14 0 0), .ref (ad 15 0 0), .ref (ad 16 0 0), .ref (ad 17 0 0), .ref (ad 18 0 0), .int x5, .int x6, .int x7] below meth c H locs (F0 m 288 ls [])), ∀ (S : Mem) (y8 : Int32) (y13 : Int32) (y14 : Int32) (y15 : Int32), vc_L_areRanked_J267 Q K0 K1 x5 x6 x7 S y8 y13 y14 y15 → ∀ (H : Heap) (locs : List Loc) (ls : Array Slot), PW D ad cy (AW ad o sz) s.heap o S H locs → lv_has ls 16 [(0, .ref (ad 14 0 0)), (1, .ref (ad 15 0 0)), (2, .ref (ad 16 0 0)), (3, .ref (ad 17 0 0)), (4, .ref (ad 18 0 0)), (5, .int x5), (8, .int y8), (13, .int y13), (14, .int y14), (15, .int y15)] → Wi D ad cy o sz Q p l e rmL_areRanked s m [.ref (ad 14 0 0), .ref (ad 15 0 0), .ref (ad 16 0 0), .ref (ad 17 0 0), .ref (ad 18 0 0), .int x5, .int x6, .int x7] below meth c H locs (F0 m 267 ls []) := by
    intro K0 hk0 K1 hk1 S y8 y13 y14 y15 hq H locs ls hX hl
    unfold vc_L_areRanked_J267 at hq
    refine lv_iconst (v := (1 : Int32)) hM.1 hM.2.1 dL_areRanked_267 (by decide) ?_
    refine lv_goto (tgt := 272) hM.1 hM.2.1 dL_areRanked_268 (by decide) ?_
    exact J272 hk0 hk1 S y8 y13 y14 y15 (1 : Int32) hq _ _ _ hX (lv_sub hl [0, 1, 2, 3, 4, 5, 6, 7, 8, 9] rfl)
  have J239 : ∀ {K0 : Mem → Int32 → Int32 → Int32 → Int32 → Int32 → Prop} (hk0 : ∀ (S : Mem) (y8 : Int32) (y10 : Int32) (y11 : Int32) (y12 : Int32) (y13 : Int32), K0 S y8 y10 y11 y12 y13 → ∀ (H : Heap) (locs : List Loc) (ls : Array Slot), PW D ad cy (AW ad o sz) s.heap o S H locs → lv_has ls 16 [(0, .ref (ad 14 0 0)), (1, .ref (ad 15 0 0)), (2, .ref (ad 16 0 0)), (3, .ref (ad 17 0 0)), (4, .ref (ad 18 0 0)), (5, .int x5), (8, .int y8), (10, .int y10), (11, .int y11), (12, .int y12), (13, .int y13)] → Wi D ad cy o sz Q p l e rmL_areRanked s m [.ref (ad 14 0 0), .ref (ad 15 0 0), .ref (ad 16 0 0), .ref (ad 17 0 0), .ref (ad 18 0 0), .int x5, .int x6, .int x7] below meth c H locs (F0 m 140 ls [])), ∀ {K1 : Mem → Int32 → Prop} (hk1 : ∀ (S : Mem) (y10 : Int32), K1 S y10 → ∀ (H : Heap) (locs : List Loc) (ls : Array Slot), PW D ad cy (AW ad o sz) s.heap o S H locs → lv_has ls 16 [(10, .int y10)] → Wi D ad cy o sz Q p l e rmL_areRanked s m [.ref (ad 14 0 0), .ref (ad 15 0 0), .ref (ad 16 0 0), .ref (ad 17 0 0), .ref (ad 18 0 0), .int x5, .int x6, .int x7] below meth c H locs (F0 m 288 ls [])), ∀ (S : Mem) (y8 : Int32) (y10 : Int32) (y11 : Int32) (y12 : Int32) (y13 : Int32) (y14 : Int32) (w0 : Int32), vc_L_areRanked_J239 Q K0 K1 x5 x6 x7 S y8 y10 y11 y12 y13 y14 w0 → ∀ (H : Heap) (locs : List Loc) (ls : Array Slot), PW D ad cy (AW ad o sz) s.heap o S H locs → lv_has ls 16 [(0, .ref (ad 14 0 0)), (1, .ref (ad 15 0 0)), (2, .ref (ad 16 0 0)), (3, .ref (ad 17 0 0)), (4, .ref (ad 18 0 0)), (5, .int x5), (8, .int y8), (10, .int y10), (11, .int y11), (12, .int y12), (13, .int y13), (14, .int y14)] → Wi D ad cy o sz Q p l e rmL_areRanked s m [.ref (ad 14 0 0), .ref (ad 15 0 0), .ref (ad 16 0 0), .ref (ad 17 0 0), .ref (ad 18 0 0), .int x5, .int x6, .int x7] below meth c H locs (F0 m 239 ls [.int w0]) := by
    intro K0 hk0 K1 hk1 S y8 y10 y11 y12 y13 y14 w0 hq H locs ls hX hl
    unfold vc_L_areRanked_J239 at hq
    refine lv_istore (lv' := [(15, .int w0), (0, .ref (ad 14 0 0)), (1, .ref (ad 15 0 0)), (2, .ref (ad 16 0 0)), (3, .ref (ad 17 0 0)), (4, .ref (ad 18 0 0)), (5, .int x5), (8, .int y8), (10, .int y10), (11, .int y11), (12, .int y12), (13, .int y13), (14, .int y14)]) hM.1 hM.2.1 dL_areRanked_239 hl (by decide) rfl (fun ls hl => ?_)
    refine lv_iload hM.1 hM.2.1 dL_areRanked_241 (lv_at hl 8 rfl) ?_
    refine lv_if_eq (tgt := 271) hM.1 hM.2.1 dL_areRanked_243 (by decide) (fun c_31 => ?_) (fun c_31 => ?_)
    · replace hq := hq.1 c_31
      exact J271 hk0 hk1 S y8 y13 y14 w0 hq _ _ _ hX (lv_sub hl [1, 2, 3, 4, 5, 6, 7, 11, 12, 0] rfl)
    replace hq := hq.2 c_31
    refine lv_iload hM.1 hM.2.1 dL_areRanked_246 (lv_at hl 0 rfl) ?_
    refine lv_iload hM.1 hM.2.1 dL_areRanked_248 (lv_at hl 9 rfl) ?_
    refine lv_icmp_gt (tgt := 267) hM.1 hM.2.1 dL_areRanked_250 (by decide) (fun c_32 => ?_) (fun c_32 => ?_)
    · replace hq := hq.1 c_32
      exact J267 hk0 hk1 S y8 y13 y14 w0 hq _ _ _ hX (lv_sub hl [1, 2, 3, 4, 5, 6, 7, 11, 12, 0] rfl)
    replace hq := hq.2 c_32
    refine lv_iload hM.1 hM.2.1 dL_areRanked_253 (lv_at hl 0 rfl) ?_
    refine lv_iload hM.1 hM.2.1 dL_areRanked_255 (lv_at hl 9 rfl) ?_
    refine lv_icmp_ne (tgt := 271) hM.1 hM.2.1 dL_areRanked_257 (by decide) (fun c_33 => ?_) (fun c_33 => ?_)
    · replace hq := hq.1 c_33
      exact J271 hk0 hk1 S y8 y13 y14 w0 hq _ _ _ hX (lv_sub hl [1, 2, 3, 4, 5, 6, 7, 11, 12, 0] rfl)
    replace hq := hq.2 c_33
    refine lv_iload hM.1 hM.2.1 dL_areRanked_260 (lv_at hl 12 rfl) ?_
    refine lv_iload hM.1 hM.2.1 dL_areRanked_262 (lv_at hl 10 rfl) ?_
    refine lv_icmp_le (tgt := 271) hM.1 hM.2.1 dL_areRanked_264 (by decide) (fun c_34 => ?_) (fun c_34 => ?_)
    · replace hq := hq.1 c_34
      exact J271 hk0 hk1 S y8 y13 y14 w0 hq _ _ _ hX (lv_sub hl [1, 2, 3, 4, 5, 6, 7, 11, 12, 0] rfl)
    replace hq := hq.2 c_34
    exact J267 hk0 hk1 S y8 y13 y14 w0 hq _ _ _ hX (lv_sub hl [1, 2, 3, 4, 5, 6, 7, 11, 12, 0] rfl)
  have J195 : ∀ {K0 : Mem → Int32 → Int32 → Int32 → Int32 → Int32 → Prop} (hk0 : ∀ (S : Mem) (y8 : Int32) (y10 : Int32) (y11 : Int32) (y12 : Int32) (y13 : Int32), K0 S y8 y10 y11 y12 y13 → ∀ (H : Heap) (locs : List Loc) (ls : Array Slot), PW D ad cy (AW ad o sz) s.heap o S H locs → lv_has ls 16 [(0, .ref (ad 14 0 0)), (1, .ref (ad 15 0 0)), (2, .ref (ad 16 0 0)), (3, .ref (ad 17 0 0)), (4, .ref (ad 18 0 0)), (5, .int x5), (8, .int y8), (10, .int y10), (11, .int y11), (12, .int y12), (13, .int y13)] → Wi D ad cy o sz Q p l e rmL_areRanked s m [.ref (ad 14 0 0), .ref (ad 15 0 0), .ref (ad 16 0 0), .ref (ad 17 0 0), .ref (ad 18 0 0), .int x5, .int x6, .int x7] below meth c H locs (F0 m 140 ls [])), ∀ {K1 : Mem → Int32 → Prop} (hk1 : ∀ (S : Mem) (y10 : Int32), K1 S y10 → ∀ (H : Heap) (locs : List Loc) (ls : Array Slot), PW D ad cy (AW ad o sz) s.heap o S H locs → lv_has ls 16 [(10, .int y10)] → Wi D ad cy o sz Q p l e rmL_areRanked s m [.ref (ad 14 0 0), .ref (ad 15 0 0), .ref (ad 16 0 0), .ref (ad 17 0 0), .ref (ad 18 0 0), .int x5, .int x6, .int x7] below meth c H locs (F0 m 288 ls [])), ∀ (S : Mem) (y8 : Int32) (y11 : Int32) (y12 : Int32) (y13 : Int32) (y14 : Int32) (w0 : Int32), vc_L_areRanked_J195 Q K0 K1 x5 x6 x7 S y8 y11 y12 y13 y14 w0 → ∀ (H : Heap) (locs : List Loc) (ls : Array Slot), PW D ad cy (AW ad o sz) s.heap o S H locs → lv_has ls 16 [(0, .ref (ad 14 0 0)), (1, .ref (ad 15 0 0)), (2, .ref (ad 16 0 0)), (3, .ref (ad 17 0 0)), (4, .ref (ad 18 0 0)), (5, .int x5), (8, .int y8), (11, .int y11), (12, .int y12), (13, .int y13), (14, .int y14)] → Wi D ad cy o sz Q p l e rmL_areRanked s m [.ref (ad 14 0 0), .ref (ad 15 0 0), .ref (ad 16 0 0), .ref (ad 17 0 0), .ref (ad 18 0 0), .int x5, .int x6, .int x7] below meth c H locs (F0 m 195 ls [.int w0]) := by
    intro K0 hk0 K1 hk1 S y8 y11 y12 y13 y14 w0 hq H locs ls hX hl
    unfold vc_L_areRanked_J195 at hq
    refine lv_istore (lv' := [(10, .int w0), (0, .ref (ad 14 0 0)), (1, .ref (ad 15 0 0)), (2, .ref (ad 16 0 0)), (3, .ref (ad 17 0 0)), (4, .ref (ad 18 0 0)), (5, .int x5), (8, .int y8), (11, .int y11), (12, .int y12), (13, .int y13), (14, .int y14)]) hM.1 hM.2.1 dL_areRanked_195 hl (by decide) rfl (fun ls hl => ?_)
    refine lv_iload hM.1 hM.2.1 dL_areRanked_197 (lv_at hl 0 rfl) ?_
    refine lv_if_ne (tgt := 206) hM.1 hM.2.1 dL_areRanked_199 (by decide) (fun c_24 => ?_) (fun c_24 => ?_)
    · replace hq := hq.1 c_24
      refine lv_iload hM.1 hM.2.1 dL_areRanked_206 (lv_at hl 6 rfl) ?_
      refine lv_if_ne (tgt := 222) hM.1 hM.2.1 dL_areRanked_208 (by decide) (fun c_25 => ?_) (fun c_25 => ?_)
      · replace hq := hq.1 c_25
        refine lv_aload_n hM.1 hM.2.1 dL_areRanked_222 rfl (lv_at hl 2 rfl) ?_
        refine lv_aload_n hM.1 hM.2.1 dL_areRanked_223 rfl (lv_at hl 3 rfl) ?_
        refine lv_aload_n hM.1 hM.2.1 dL_areRanked_224 rfl (lv_at hl 4 rfl) ?_
        refine lv_iload hM.1 hM.2.1 dL_areRanked_225 (lv_at hl 11 rfl) ?_
        refine cSi (As := [.ref (ad 15 0 0), .ref (ad 16 0 0), .ref (ad 17 0 0), .int y14]) hM hK hX ⟨hI.1, hI.2.1, hI.2.2.1, hI.2.2.2.1, trivial⟩ hA (met_L_own l D ad cy S 0 y14 hq) (kL_own hM.2.2.2.2 ql_RL_20 (Nat.le_of_ble_eq_true rfl) (Nat.le_of_ble_eq_true rfl)) rfl hl.1 rfl (Nat.le_of_ble_eq_true rfl) dL_areRanked_227 ⟨Nat.zero_le _, Nat.zero_le _⟩ (fun S_26 r_27 hq H locs hX => ?_)
        refine lv_aload hM.1 hM.2.1 dL_areRanked_230 (lv_at hl 5 rfl) ?_
        refine lv_iconst (v := (1 : Int32)) hM.1 hM.2.1 dL_areRanked_232 (by decide) ?_
        have c_28 := hq.1
        replace hq := hq.2
        refine r_iald hM hK hX hI.2.2.2.2.1 (a18 0 0) c_28 dL_areRanked_233 ?_
        refine lv_isub hM.1 hM.2.1 dL_areRanked_234 ?_
        refine cSi (As := [.int (r_27 - (S_26 18 0 0 (1 : Int32).toNatClampNeg))]) hM hK hX ⟨hI.1, trivial⟩ hA (met_L_size l D ad cy S_26 (r_27 - (S_26 18 0 0 (1 : Int32).toNatClampNeg)) hq) (kL_size hM.2.2.2.2 ql_RL_36 (Nat.le_of_ble_eq_true rfl) (Nat.le_of_ble_eq_true rfl)) rfl hl.1 rfl (Nat.le_of_ble_eq_true rfl) dL_areRanked_235 ⟨Nat.zero_le _, Nat.zero_le _⟩ (fun S_29 r_30 hq H locs hX => ?_)
        refine lv_ineg hM.1 hM.2.1 dL_areRanked_238 ?_
        exact J239 hk0 hk1 S_29 y8 w0 y11 y12 y13 y14 (-r_30) hq _ _ _ hX (lv_sub hl [1, 2, 3, 4, 5, 6, 7, 0, 8, 9, 10, 11] rfl)
      replace hq := hq.2 c_25
      refine lv_aload_n hM.1 hM.2.1 dL_areRanked_211 rfl (lv_at hl 2 rfl) ?_
      refine lv_aload_n hM.1 hM.2.1 dL_areRanked_212 rfl (lv_at hl 3 rfl) ?_
      refine lv_aload_n hM.1 hM.2.1 dL_areRanked_213 rfl (lv_at hl 4 rfl) ?_
      refine lv_iload hM.1 hM.2.1 dL_areRanked_214 (lv_at hl 11 rfl) ?_
      refine cSi (As := [.ref (ad 15 0 0), .ref (ad 16 0 0), .ref (ad 17 0 0), .int y14]) hM hK hX ⟨hI.1, hI.2.1, hI.2.2.1, hI.2.2.2.1, trivial⟩ hA (met_L_own l D ad cy S 0 y14 hq) (kL_own hM.2.2.2.2 ql_RL_20 (Nat.le_of_ble_eq_true rfl) (Nat.le_of_ble_eq_true rfl)) rfl hl.1 rfl (Nat.le_of_ble_eq_true rfl) dL_areRanked_216 ⟨Nat.zero_le _, Nat.zero_le _⟩ (fun S_35 r_36 hq H locs hX => ?_)
      refine lv_goto (tgt := 239) hM.1 hM.2.1 dL_areRanked_219 (by decide) ?_
      exact J239 hk0 hk1 S_35 y8 w0 y11 y12 y13 y14 r_36 hq _ _ _ hX (lv_sub hl [1, 2, 3, 4, 5, 6, 7, 0, 8, 9, 10, 11] rfl)
    replace hq := hq.2 c_24
    refine lv_iconst (v := (0 : Int32)) hM.1 hM.2.1 dL_areRanked_202 (by decide) ?_
    refine lv_goto (tgt := 239) hM.1 hM.2.1 dL_areRanked_203 (by decide) ?_
    exact J239 hk0 hk1 S y8 w0 y11 y12 y13 y14 (0 : Int32) hq _ _ _ hX (lv_sub hl [1, 2, 3, 4, 5, 6, 7, 0, 8, 9, 10, 11] rfl)
  have J194 : ∀ {K0 : Mem → Int32 → Int32 → Int32 → Int32 → Int32 → Prop} (hk0 : ∀ (S : Mem) (y8 : Int32) (y10 : Int32) (y11 : Int32) (y12 : Int32) (y13 : Int32), K0 S y8 y10 y11 y12 y13 → ∀ (H : Heap) (locs : List Loc) (ls : Array Slot), PW D ad cy (AW ad o sz) s.heap o S H locs → lv_has ls 16 [(0, .ref (ad 14 0 0)), (1, .ref (ad 15 0 0)), (2, .ref (ad 16 0 0)), (3, .ref (ad 17 0 0)), (4, .ref (ad 18 0 0)), (5, .int x5), (8, .int y8), (10, .int y10), (11, .int y11), (12, .int y12), (13, .int y13)] → Wi D ad cy o sz Q p l e rmL_areRanked s m [.ref (ad 14 0 0), .ref (ad 15 0 0), .ref (ad 16 0 0), .ref (ad 17 0 0), .ref (ad 18 0 0), .int x5, .int x6, .int x7] below meth c H locs (F0 m 140 ls [])), ∀ {K1 : Mem → Int32 → Prop} (hk1 : ∀ (S : Mem) (y10 : Int32), K1 S y10 → ∀ (H : Heap) (locs : List Loc) (ls : Array Slot), PW D ad cy (AW ad o sz) s.heap o S H locs → lv_has ls 16 [(10, .int y10)] → Wi D ad cy o sz Q p l e rmL_areRanked s m [.ref (ad 14 0 0), .ref (ad 15 0 0), .ref (ad 16 0 0), .ref (ad 17 0 0), .ref (ad 18 0 0), .int x5, .int x6, .int x7] below meth c H locs (F0 m 288 ls [])), ∀ (S : Mem) (y8 : Int32) (y11 : Int32) (y12 : Int32) (y13 : Int32) (y14 : Int32), vc_L_areRanked_J194 Q K0 K1 x5 x6 x7 S y8 y11 y12 y13 y14 → ∀ (H : Heap) (locs : List Loc) (ls : Array Slot), PW D ad cy (AW ad o sz) s.heap o S H locs → lv_has ls 16 [(0, .ref (ad 14 0 0)), (1, .ref (ad 15 0 0)), (2, .ref (ad 16 0 0)), (3, .ref (ad 17 0 0)), (4, .ref (ad 18 0 0)), (5, .int x5), (8, .int y8), (11, .int y11), (12, .int y12), (13, .int y13), (14, .int y14)] → Wi D ad cy o sz Q p l e rmL_areRanked s m [.ref (ad 14 0 0), .ref (ad 15 0 0), .ref (ad 16 0 0), .ref (ad 17 0 0), .ref (ad 18 0 0), .int x5, .int x6, .int x7] below meth c H locs (F0 m 194 ls []) := by
    intro K0 hk0 K1 hk1 S y8 y11 y12 y13 y14 hq H locs ls hX hl
    unfold vc_L_areRanked_J194 at hq
    refine lv_iconst (v := (0 : Int32)) hM.1 hM.2.1 dL_areRanked_194 (by decide) ?_
    exact J195 hk0 hk1 S y8 y11 y12 y13 y14 (0 : Int32) hq _ _ _ hX (lv_sub hl [0, 1, 2, 3, 4, 5, 6, 7, 8, 9, 10] rfl)
  have L140 : ∀ {K : Mem → Int32 → Prop} (hk : ∀ (S : Mem) (y10 : Int32), K S y10 → ∀ (H : Heap) (locs : List Loc) (ls : Array Slot), PW D ad cy (AW ad o sz) s.heap o S H locs → lv_has ls 16 [(10, .int y10)] → Wi D ad cy o sz Q p l e rmL_areRanked s m [.ref (ad 14 0 0), .ref (ad 15 0 0), .ref (ad 16 0 0), .ref (ad 17 0 0), .ref (ad 18 0 0), .int x5, .int x6, .int x7] below meth c H locs (F0 m 288 ls [])), ∀ (n : Nat) (S : Mem) (y8 : Int32) (y10 : Int32) (y11 : Int32) (y12 : Int32) (y13 : Int32), vc_L_areRanked_L140 Q K x5 x6 x7 n S y8 y10 y11 y12 y13 → ∀ (H : Heap) (locs : List Loc) (ls : Array Slot), PW D ad cy (AW ad o sz) s.heap o S H locs → lv_has ls 16 [(0, .ref (ad 14 0 0)), (1, .ref (ad 15 0 0)), (2, .ref (ad 16 0 0)), (3, .ref (ad 17 0 0)), (4, .ref (ad 18 0 0)), (5, .int x5), (8, .int y8), (10, .int y10), (11, .int y11), (12, .int y12), (13, .int y13)] → Wi D ad cy o sz Q p l e rmL_areRanked s m [.ref (ad 14 0 0), .ref (ad 15 0 0), .ref (ad 16 0 0), .ref (ad 17 0 0), .ref (ad 18 0 0), .int x5, .int x6, .int x7] below meth c H locs (F0 m 140 ls []) := by
    intro K hk n
    induction n with
    | zero =>
      intro S y8 y10 y11 y12 y13 hq
      rw [vc_L_areRanked_L140] at hq
      exact hq.elim
    | succ n ih =>
      intro S y8 y10 y11 y12 y13 hq H locs ls hX hl
      rw [vc_L_areRanked_L140] at hq
      refine lv_iload hM.1 hM.2.1 dL_areRanked_140 (lv_at hl 10 rfl) ?_
      refine lv_iload hM.1 hM.2.1 dL_areRanked_142 (lv_at hl 6 rfl) ?_
      refine lv_icmp_ge (tgt := 288) hM.1 hM.2.1 dL_areRanked_144 (by decide) (fun c_19 => ?_) (fun c_19 => ?_)
      · replace hq := hq.1 c_19
        exact hk S y10 hq _ _ _ hX (lv_sub hl [7] rfl)
      replace hq := hq.2 c_19
      refine lv_iload hM.1 hM.2.1 dL_areRanked_147 (lv_at hl 7 rfl) ?_
      refine lv_if_eq (tgt := 288) hM.1 hM.2.1 dL_areRanked_149 (by decide) (fun c_20 => ?_) (fun c_20 => ?_)
      · replace hq := hq.1 c_20
        exact hk S y10 hq _ _ _ hX (lv_sub hl [7] rfl)
      replace hq := hq.2 c_20
      refine lv_aload_n hM.1 hM.2.1 dL_areRanked_152 rfl (lv_at hl 0 rfl) ?_
      refine lv_iload hM.1 hM.2.1 dL_areRanked_153 (lv_at hl 5 rfl) ?_
      refine lv_iload hM.1 hM.2.1 dL_areRanked_155 (lv_at hl 10 rfl) ?_
      refine cVi (As := [.int x5, .int y13]) hM hK hX ⟨hI.1, trivial⟩ hA (met_X6_ranked l D ad cy S x5 y13 hq) (kX6_ranked hM.2.2.2.2 ql_RL_60 (Nat.le_of_ble_eq_true rfl) (Nat.le_of_ble_eq_true rfl)) (v14 hK hX (hI.1 _ m14)) rfl hl.1 rfl (Nat.le_of_ble_eq_true rfl) dL_areRanked_157 ⟨Nat.zero_le _, Nat.zero_le _⟩ (fun S_21 r_22 hq H locs hX => ?_)
      refine lv_istore (lv' := [(14, .int r_22), (0, .ref (ad 14 0 0)), (1, .ref (ad 15 0 0)), (2, .ref (ad 16 0 0)), (3, .ref (ad 17 0 0)), (4, .ref (ad 18 0 0)), (5, .int x5), (8, .int y8), (10, .int y10), (11, .int y11), (12, .int y12), (13, .int y13)]) hM.1 hM.2.1 dL_areRanked_160 hl (by decide) rfl (fun ls hl => ?_)
      refine lv_iload hM.1 hM.2.1 dL_areRanked_162 (lv_at hl 0 rfl) ?_
      refine lv_if_lt (tgt := 194) hM.1 hM.2.1 dL_areRanked_164 (by decide) (fun c_23 => ?_) (fun c_23 => ?_)
      · replace hq := hq.1 c_23
        exact J194 ih hk S_21 y8 y11 y12 y13 r_22 hq _ _ _ hX (lv_sub hl [1, 2, 3, 4, 5, 6, 7, 9, 10, 11, 0] rfl)
      replace hq := hq.2 c_23
      refine lv_iload hM.1 hM.2.1 dL_areRanked_167 (lv_at hl 0 rfl) ?_
      refine lv_aload hM.1 hM.2.1 dL_areRanked_169 (lv_at hl 5 rfl) ?_
      refine lv_bipush (v := (15 : Int32)) hM.1 hM.2.1 dL_areRanked_171 (by decide) ?_
      have c_37 := hq.1
      replace hq := hq.2
      refine r_iald hM hK hX hI.2.2.2.2.1 (a18 0 0) c_37 dL_areRanked_173 ?_
      refine lv_icmp_ge (tgt := 194) hM.1 hM.2.1 dL_areRanked_174 (by decide) (fun c_38 => ?_) (fun c_38 => ?_)
      · replace hq := hq.1 c_38
        exact J194 ih hk S_21 y8 y11 y12 y13 r_22 hq _ _ _ hX (lv_sub hl [1, 2, 3, 4, 5, 6, 7, 9, 10, 11, 0] rfl)
      replace hq := hq.2 c_38
      refine lv_aload_n hM.1 hM.2.1 dL_areRanked_177 rfl (lv_at hl 2 rfl) ?_
      refine lv_bipush (v := (10 : Int32)) hM.1 hM.2.1 dL_areRanked_178 (by decide) ?_
      refine lv_iload hM.1 hM.2.1 dL_areRanked_180 (lv_at hl 0 rfl) ?_
      refine lv_imul hM.1 hM.2.1 dL_areRanked_182 ?_
      refine lv_bipush (v := (7 : Int32)) hM.1 hM.2.1 dL_areRanked_183 (by decide) ?_
      refine lv_iadd hM.1 hM.2.1 dL_areRanked_185 ?_
      have c_39 := hq.1
      replace hq := hq.2
      refine r_iald hM hK hX hI.2.1 (a15 0 0) c_39 dL_areRanked_186 ?_
      refine lv_if_le (tgt := 194) hM.1 hM.2.1 dL_areRanked_187 (by decide) (fun c_40 => ?_) (fun c_40 => ?_)
      · replace hq := hq.1 c_40
        exact J194 ih hk S_21 y8 y11 y12 y13 r_22 hq _ _ _ hX (lv_sub hl [1, 2, 3, 4, 5, 6, 7, 9, 10, 11, 0] rfl)
      replace hq := hq.2 c_40
      refine lv_iconst (v := (1 : Int32)) hM.1 hM.2.1 dL_areRanked_190 (by decide) ?_
      refine lv_goto (tgt := 195) hM.1 hM.2.1 dL_areRanked_191 (by decide) ?_
      exact J195 ih hk S_21 y8 y11 y12 y13 r_22 (1 : Int32) hq _ _ _ hX (lv_sub hl [1, 2, 3, 4, 5, 6, 7, 9, 10, 11, 0] rfl)
  have J128 : ∀ (S : Mem) (y8 : Int32) (w0 : Int32), vc_L_areRanked_J128 Q x5 x6 x7 S y8 w0 → ∀ (H : Heap) (locs : List Loc) (ls : Array Slot), PW D ad cy (AW ad o sz) s.heap o S H locs → lv_has ls 16 [(0, .ref (ad 14 0 0)), (1, .ref (ad 15 0 0)), (2, .ref (ad 16 0 0)), (3, .ref (ad 17 0 0)), (4, .ref (ad 18 0 0)), (5, .int x5), (8, .int y8)] → Wi D ad cy o sz Q p l e rmL_areRanked s m [.ref (ad 14 0 0), .ref (ad 15 0 0), .ref (ad 16 0 0), .ref (ad 17 0 0), .ref (ad 18 0 0), .int x5, .int x6, .int x7] below meth c H locs (F0 m 128 ls [.int w0]) := by
    intro S y8 w0 hq H locs ls hX hl
    unfold vc_L_areRanked_J128 at hq
    refine lv_istore (lv' := [(10, .int w0), (0, .ref (ad 14 0 0)), (1, .ref (ad 15 0 0)), (2, .ref (ad 16 0 0)), (3, .ref (ad 17 0 0)), (4, .ref (ad 18 0 0)), (5, .int x5), (8, .int y8)]) hM.1 hM.2.1 dL_areRanked_128 hl (by decide) rfl (fun ls hl => ?_)
    refine lv_ldc hM.1 hM.2.1 hM.2.2.2.1 (hM.2.2.2.2 _ qn_RL_66) dL_areRanked_130 ?_
    refine lv_istore (lv' := [(11, .int (-2000000 : Int32)), (10, .int w0), (0, .ref (ad 14 0 0)), (1, .ref (ad 15 0 0)), (2, .ref (ad 16 0 0)), (3, .ref (ad 17 0 0)), (4, .ref (ad 18 0 0)), (5, .int x5), (8, .int y8)]) hM.1 hM.2.1 dL_areRanked_132 hl (by decide) rfl (fun ls hl => ?_)
    refine lv_iconst (v := (-1 : Int32)) hM.1 hM.2.1 dL_areRanked_134 (by decide) ?_
    refine lv_istore (lv' := [(12, .int (-1 : Int32)), (11, .int (-2000000 : Int32)), (10, .int w0), (0, .ref (ad 14 0 0)), (1, .ref (ad 15 0 0)), (2, .ref (ad 16 0 0)), (3, .ref (ad 17 0 0)), (4, .ref (ad 18 0 0)), (5, .int x5), (8, .int y8)]) hM.1 hM.2.1 dL_areRanked_135 hl (by decide) rfl (fun ls hl => ?_)
    refine lv_iconst (v := (0 : Int32)) hM.1 hM.2.1 dL_areRanked_137 (by decide) ?_
    refine lv_istore (lv' := [(13, .int (0 : Int32)), (12, .int (-1 : Int32)), (11, .int (-2000000 : Int32)), (10, .int w0), (0, .ref (ad 14 0 0)), (1, .ref (ad 15 0 0)), (2, .ref (ad 16 0 0)), (3, .ref (ad 17 0 0)), (4, .ref (ad 18 0 0)), (5, .int x5), (8, .int y8)]) hM.1 hM.2.1 dL_areRanked_138 hl (by decide) rfl (fun ls hl => ?_)
    obtain ⟨k0, hq⟩ := hq
    refine L140 (fun S_41 y10_42 hq H locs ls hX hl => ?_) k0 S y8 w0 (-2000000 : Int32) (-1 : Int32) (0 : Int32) hq _ _ _ hX (lv_sub hl [4, 5, 6, 7, 8, 9, 10, 3, 2, 1, 0] rfl)
    refine lv_iload hM.1 hM.2.1 dL_areRanked_288 (lv_at hl 0 rfl) ?_
    exact e_z hM hX hlocks hret (nar_z hq.1).1 hq.2 dL_areRanked_290
  have J127 : ∀ (S : Mem) (y8 : Int32), vc_L_areRanked_J127 Q x5 x6 x7 S y8 → ∀ (H : Heap) (locs : List Loc) (ls : Array Slot), PW D ad cy (AW ad o sz) s.heap o S H locs → lv_has ls 16 [(0, .ref (ad 14 0 0)), (1, .ref (ad 15 0 0)), (2, .ref (ad 16 0 0)), (3, .ref (ad 17 0 0)), (4, .ref (ad 18 0 0)), (5, .int x5), (8, .int y8)] → Wi D ad cy o sz Q p l e rmL_areRanked s m [.ref (ad 14 0 0), .ref (ad 15 0 0), .ref (ad 16 0 0), .ref (ad 17 0 0), .ref (ad 18 0 0), .int x5, .int x6, .int x7] below meth c H locs (F0 m 127 ls []) := by
    intro S y8 hq H locs ls hX hl
    unfold vc_L_areRanked_J127 at hq
    refine lv_iconst (v := (0 : Int32)) hM.1 hM.2.1 dL_areRanked_127 (by decide) ?_
    exact J128 S y8 (0 : Int32) hq _ _ _ hX (lv_sub hl [0, 1, 2, 3, 4, 5, 6] rfl)
  unfold vc_L_areRanked at hq
  refine lv_iconst (v := (0 : Int32)) hM.1 hM.2.1 dL_areRanked_0 (by decide) ?_
  refine lv_istore (lv' := [(8, .int (0 : Int32)), (0, .ref (ad 14 0 0)), (1, .ref (ad 15 0 0)), (2, .ref (ad 16 0 0)), (3, .ref (ad 17 0 0)), (4, .ref (ad 18 0 0)), (5, .int x5), (6, .int x6), (7, .int x7)]) hM.1 hM.2.1 dL_areRanked_1 hl (by decide) rfl (fun ls hl => ?_)
  refine lv_iconst (v := (0 : Int32)) hM.1 hM.2.1 dL_areRanked_3 (by decide) ?_
  refine lv_istore (lv' := [(9, .int (0 : Int32)), (8, .int (0 : Int32)), (0, .ref (ad 14 0 0)), (1, .ref (ad 15 0 0)), (2, .ref (ad 16 0 0)), (3, .ref (ad 17 0 0)), (4, .ref (ad 18 0 0)), (5, .int x5), (6, .int x6), (7, .int x7)]) hM.1 hM.2.1 dL_areRanked_4 hl (by decide) rfl (fun ls hl => ?_)
  refine lv_iconst (v := (0 : Int32)) hM.1 hM.2.1 dL_areRanked_6 (by decide) ?_
  refine lv_istore (lv' := [(10, .int (0 : Int32)), (9, .int (0 : Int32)), (8, .int (0 : Int32)), (0, .ref (ad 14 0 0)), (1, .ref (ad 15 0 0)), (2, .ref (ad 16 0 0)), (3, .ref (ad 17 0 0)), (4, .ref (ad 18 0 0)), (5, .int x5), (6, .int x6), (7, .int x7)]) hM.1 hM.2.1 dL_areRanked_7 hl (by decide) rfl (fun ls hl => ?_)
  obtain ⟨k0, hq⟩ := hq
  refine L9 (fun S_13 y8_14 y9_15 hq H locs ls hX hl => ?_) k0 S (0 : Int32) (0 : Int32) (0 : Int32) hq _ _ _ hX (lv_sub hl [3, 4, 5, 6, 7, 8, 9, 10, 2, 1, 0] rfl)
  refine lv_aload_n hM.1 hM.2.1 dL_areRanked_97 rfl (lv_at hl 0 rfl) ?_
  refine lv_iload hM.1 hM.2.1 dL_areRanked_98 (lv_at hl 5 rfl) ?_
  refine lv_iload hM.1 hM.2.1 dL_areRanked_100 (lv_at hl 8 rfl) ?_
  refine cVi (As := [.int x5, .int y8_14]) hM hK hX ⟨hI.1, trivial⟩ hA (met_X6_ranked l D ad cy S_13 x5 y8_14 hq) (kX6_ranked hM.2.2.2.2 ql_RL_60 (Nat.le_of_ble_eq_true rfl) (Nat.le_of_ble_eq_true rfl)) (v14 hK hX (hI.1 _ m14)) rfl hl.1 rfl (Nat.le_of_ble_eq_true rfl) dL_areRanked_102 ⟨Nat.zero_le _, Nat.zero_le _⟩ (fun S_16 r_17 hq H locs hX => ?_)
  refine lv_ldc hM.1 hM.2.1 hM.2.2.2.1 (hM.2.2.2.2 _ qn_RL_11) dL_areRanked_105 ?_
  refine lv_icmp_ne (tgt := 127) hM.1 hM.2.1 dL_areRanked_107 (by decide) (fun c_18 => ?_) (fun c_18 => ?_)
  · replace hq := hq.1 c_18
    exact J127 S_16 y8_14 hq _ _ _ hX (lv_sub hl [0, 1, 2, 3, 4, 5, 8] rfl)
  replace hq := hq.2 c_18
  refine lv_aload_n hM.1 hM.2.1 dL_areRanked_110 rfl (lv_at hl 0 rfl) ?_
  refine lv_iload hM.1 hM.2.1 dL_areRanked_111 (lv_at hl 6 rfl) ?_
  refine lv_iload hM.1 hM.2.1 dL_areRanked_113 (lv_at hl 7 rfl) ?_
  refine cVi (As := [.int x6, .int x7]) hM hK hX ⟨hI.1, trivial⟩ hA (met_X6_between l D ad cy S_16 x6 x7 hq) (kX6_between hM.2.2.2.2 ql_RL_63 (Nat.le_of_ble_eq_true rfl) (Nat.le_of_ble_eq_true rfl)) (v14 hK hX (hI.1 _ m14)) rfl hl.1 rfl (Nat.le_of_ble_eq_true rfl) dL_areRanked_115 ⟨Nat.zero_le _, Nat.zero_le _⟩ (fun S_43 r_44 hq H locs hX => ?_)
  refine lv_iload hM.1 hM.2.1 dL_areRanked_118 (lv_at hl 9 rfl) ?_
  refine lv_icmp_ne (tgt := 127) hM.1 hM.2.1 dL_areRanked_120 (by decide) (fun c_45 => ?_) (fun c_45 => ?_)
  · replace hq := hq.1 c_45
    exact J127 S_43 y8_14 hq _ _ _ hX (lv_sub hl [0, 1, 2, 3, 4, 5, 8] rfl)
  replace hq := hq.2 c_45
  refine lv_iconst (v := (1 : Int32)) hM.1 hM.2.1 dL_areRanked_123 (by decide) ?_
  refine lv_goto (tgt := 128) hM.1 hM.2.1 dL_areRanked_124 (by decide) ?_
  exact J128 S_43 y8_14 (1 : Int32) hq _ _ _ hX (lv_sub hl [0, 1, 2, 3, 4, 5, 8] rfl)
def rmL_wouldOne : Room := { frames := 4, cells := 0, slots := 0, locals := 91 }
theorem kL_wouldOne {R : Room} {s : State} {args : Array Value} {own : String} {index : Nat} (ht : ∀ w ∈ lw_all, w.before args s = true) (hl : Cond.methodLink own index yL_wouldOne ∈ lw_all) (hf : rmL_wouldOne.frames + 1 ≤ R.frames) (hlo : 8 + (12 + 11) + rmL_wouldOne.locals ≤ R.locals) : CallB R s args own index yL_wouldOne cL_wouldOne 12 (some Jvm.ClassFile.FieldType.boolean) (wA yL_wouldOne cL_wouldOne 12 (some Jvm.ClassFile.FieldType.boolean)) rmL_wouldOne 0 0 6 ∧ (Cond.static yL_wouldOne).before args s = true := va_cwS 6 ht (good_S hl qt_yL_wouldOne qi_RL qc_yL_wouldOne) rfl rfl rfl (by decide +kernel) ⟨hf, hlo⟩
set_option maxRecDepth 100000 in
set_option maxHeartbeats 4000000 in
theorem met_L_wouldOne (l : Launch) (D : va_G) (ad : Adr) (cy : Nat → ClassId) (S : Mem) (x5 : Int32) {Q : Mem → Int32 → Prop} (hq : vc_L_wouldOne S x5 Q) : Ci l yL_wouldOne (wA yL_wouldOne cL_wouldOne 12 (some Jvm.ClassFile.FieldType.boolean)) rmL_wouldOne D ad cy (IN [(15, 0, 0), (16, 0, 0), (17, 0, 0), (18, 0, 0)]) [.ref (ad 14 0 0), .ref (ad 15 0 0), .ref (ad 16 0 0), .ref (ad 17 0 0), .ref (ad 18 0 0), .int x5] S Q := by
  intro o sz hI
  refine mkC (own := RL) (lv := [(0, .ref (ad 14 0 0)), (1, .ref (ad 15 0 0)), (2, .ref (ad 16 0 0)), (3, .ref (ad 17 0 0)), (4, .ref (ad 18 0 0)), (5, .int x5)]) (by decide) rfl (Nat.le_of_ble_eq_true rfl) rfl ?_
  intro p e s m below meth c ls hsz hM hlocks hret hK hA hX hl
  have J112 : ∀ {K0 : Mem → Int32 → Int32 → Int32 → Int32 → Prop} (hk0 : ∀ (S : Mem) (y6 : Int32) (y7 : Int32) (y8 : Int32) (y9 : Int32), K0 S y6 y7 y8 y9 → ∀ (H : Heap) (locs : List Loc) (ls : Array Slot), PW D ad cy (AW ad o sz) s.heap o S H locs → lv_has ls 12 [(0, .ref (ad 14 0 0)), (1, .ref (ad 15 0 0)), (2, .ref (ad 16 0 0)), (3, .ref (ad 17 0 0)), (4, .ref (ad 18 0 0)), (5, .int x5), (6, .int y6), (7, .int y7), (8, .int y8), (9, .int y9)] → Wi D ad cy o sz Q p l e rmL_wouldOne s m [.ref (ad 14 0 0), .ref (ad 15 0 0), .ref (ad 16 0 0), .ref (ad 17 0 0), .ref (ad 18 0 0), .int x5] below meth c H locs (F0 m 14 ls [])), ∀ {K1 : Mem → Int32 → Int32 → Prop} (hk1 : ∀ (S : Mem) (y6 : Int32) (y8 : Int32), K1 S y6 y8 → ∀ (H : Heap) (locs : List Loc) (ls : Array Slot), PW D ad cy (AW ad o sz) s.heap o S H locs → lv_has ls 12 [(0, .ref (ad 14 0 0)), (1, .ref (ad 15 0 0)), (4, .ref (ad 18 0 0)), (5, .int x5), (6, .int y6), (8, .int y8)] → Wi D ad cy o sz Q p l e rmL_wouldOne s m [.ref (ad 14 0 0), .ref (ad 15 0 0), .ref (ad 16 0 0), .ref (ad 17 0 0), .ref (ad 18 0 0), .int x5] below meth c H locs (F0 m 120 ls [])), ∀ (S : Mem) (y6 : Int32) (y8 : Int32) (y9 : Int32) (w0 : Int32), vc_L_wouldOne_J112 Q K0 K1 x5 S y6 y8 y9 w0 → ∀ (H : Heap) (locs : List Loc) (ls : Array Slot), PW D ad cy (AW ad o sz) s.heap o S H locs → lv_has ls 12 [(0, .ref (ad 14 0 0)), (1, .ref (ad 15 0 0)), (2, .ref (ad 16 0 0)), (3, .ref (ad 17 0 0)), (4, .ref (ad 18 0 0)), (5, .int x5), (6, .int y6), (8, .int y8), (9, .int y9)] → Wi D ad cy o sz Q p l e rmL_wouldOne s m [.ref (ad 14 0 0), .ref (ad 15 0 0), .ref (ad 16 0 0), .ref (ad 17 0 0), .ref (ad 18 0 0), .int x5] below meth c H locs (F0 m 112 ls [.int w0]) := by
    intro K0 hk0 K1 hk1 S y6 y8 y9 w0 hq H locs ls hX hl
    unfold vc_L_wouldOne_J112 at hq
    refine lv_istore (lv' := [(7, .int w0), (0, .ref (ad 14 0 0)), (1, .ref (ad 15 0 0)), (2, .ref (ad 16 0 0)), (3, .ref (ad 17 0 0)), (4, .ref (ad 18 0 0)), (5, .int x5), (6, .int y6), (8, .int y8), (9, .int y9)]) hM.1 hM.2.1 dL_wouldOne_112 hl (by decide) rfl (fun ls hl => ?_)
    refine lv_iinc (v := (y9 + (-1 : Int32))) (lv' := [(9, .int (y9 + (-1 : Int32))), (7, .int w0), (0, .ref (ad 14 0 0)), (1, .ref (ad 15 0 0)), (2, .ref (ad 16 0 0)), (3, .ref (ad 17 0 0)), (4, .ref (ad 18 0 0)), (5, .int x5), (6, .int y6), (8, .int y8)]) hM.1 hM.2.1 dL_wouldOne_114 hl (k := 9) rfl rfl (by decide) rfl (fun ls hl => ?_)
    refine lv_goto (tgt := 14) hM.1 hM.2.1 dL_wouldOne_117 (by decide) ?_
    exact hk0 S y6 w0 y8 (y9 + (-1 : Int32)) hq _ _ _ hX (lv_sub hl [2, 3, 4, 5, 6, 7, 8, 1, 9, 0] rfl)
  have J96 : ∀ {K0 : Mem → Int32 → Int32 → Int32 → Int32 → Prop} (hk0 : ∀ (S : Mem) (y6 : Int32) (y7 : Int32) (y8 : Int32) (y9 : Int32), K0 S y6 y7 y8 y9 → ∀ (H : Heap) (locs : List Loc) (ls : Array Slot), PW D ad cy (AW ad o sz) s.heap o S H locs → lv_has ls 12 [(0, .ref (ad 14 0 0)), (1, .ref (ad 15 0 0)), (2, .ref (ad 16 0 0)), (3, .ref (ad 17 0 0)), (4, .ref (ad 18 0 0)), (5, .int x5), (6, .int y6), (7, .int y7), (8, .int y8), (9, .int y9)] → Wi D ad cy o sz Q p l e rmL_wouldOne s m [.ref (ad 14 0 0), .ref (ad 15 0 0), .ref (ad 16 0 0), .ref (ad 17 0 0), .ref (ad 18 0 0), .int x5] below meth c H locs (F0 m 14 ls [])), ∀ {K1 : Mem → Int32 → Int32 → Prop} (hk1 : ∀ (S : Mem) (y6 : Int32) (y8 : Int32), K1 S y6 y8 → ∀ (H : Heap) (locs : List Loc) (ls : Array Slot), PW D ad cy (AW ad o sz) s.heap o S H locs → lv_has ls 12 [(0, .ref (ad 14 0 0)), (1, .ref (ad 15 0 0)), (4, .ref (ad 18 0 0)), (5, .int x5), (6, .int y6), (8, .int y8)] → Wi D ad cy o sz Q p l e rmL_wouldOne s m [.ref (ad 14 0 0), .ref (ad 15 0 0), .ref (ad 16 0 0), .ref (ad 17 0 0), .ref (ad 18 0 0), .int x5] below meth c H locs (F0 m 120 ls [])), ∀ (S : Mem) (y7 : Int32) (y8 : Int32) (y9 : Int32) (y11 : Int32) (w0 : Int32), vc_L_wouldOne_J96 Q K0 K1 x5 S y7 y8 y9 y11 w0 → ∀ (H : Heap) (locs : List Loc) (ls : Array Slot), PW D ad cy (AW ad o sz) s.heap o S H locs → lv_has ls 12 [(0, .ref (ad 14 0 0)), (1, .ref (ad 15 0 0)), (2, .ref (ad 16 0 0)), (3, .ref (ad 17 0 0)), (4, .ref (ad 18 0 0)), (5, .int x5), (7, .int y7), (8, .int y8), (9, .int y9), (11, .int y11)] → Wi D ad cy o sz Q p l e rmL_wouldOne s m [.ref (ad 14 0 0), .ref (ad 15 0 0), .ref (ad 16 0 0), .ref (ad 17 0 0), .ref (ad 18 0 0), .int x5] below meth c H locs (F0 m 96 ls [.int w0]) := by
    intro K0 hk0 K1 hk1 S y7 y8 y9 y11 w0 hq H locs ls hX hl
    unfold vc_L_wouldOne_J96 at hq
    refine lv_istore (lv' := [(6, .int w0), (0, .ref (ad 14 0 0)), (1, .ref (ad 15 0 0)), (2, .ref (ad 16 0 0)), (3, .ref (ad 17 0 0)), (4, .ref (ad 18 0 0)), (5, .int x5), (7, .int y7), (8, .int y8), (9, .int y9), (11, .int y11)]) hM.1 hM.2.1 dL_wouldOne_96 hl (by decide) rfl (fun ls hl => ?_)
    refine lv_iload hM.1 hM.2.1 dL_wouldOne_98 (lv_at hl 0 rfl) ?_
    refine lv_iload hM.1 hM.2.1 dL_wouldOne_100 (lv_at hl 9 rfl) ?_
    refine lv_icmp_ne (tgt := 110) hM.1 hM.2.1 dL_wouldOne_102 (by decide) (fun c_9 => ?_) (fun c_9 => ?_)
    · replace hq := hq.1 c_9
      refine lv_iload hM.1 hM.2.1 dL_wouldOne_110 (lv_at hl 7 rfl) ?_
      exact J112 hk0 hk1 S w0 y8 y9 y7 hq _ _ _ hX (lv_sub hl [1, 2, 3, 4, 5, 6, 0, 8, 9] rfl)
    replace hq := hq.2 c_9
    refine lv_iload hM.1 hM.2.1 dL_wouldOne_105 (lv_at hl 10 rfl) ?_
    refine lv_goto (tgt := 112) hM.1 hM.2.1 dL_wouldOne_107 (by decide) ?_
    exact J112 hk0 hk1 S w0 y8 y9 y11 hq _ _ _ hX (lv_sub hl [1, 2, 3, 4, 5, 6, 0, 8, 9] rfl)
  have J94 : ∀ {K0 : Mem → Int32 → Int32 → Int32 → Int32 → Prop} (hk0 : ∀ (S : Mem) (y6 : Int32) (y7 : Int32) (y8 : Int32) (y9 : Int32), K0 S y6 y7 y8 y9 → ∀ (H : Heap) (locs : List Loc) (ls : Array Slot), PW D ad cy (AW ad o sz) s.heap o S H locs → lv_has ls 12 [(0, .ref (ad 14 0 0)), (1, .ref (ad 15 0 0)), (2, .ref (ad 16 0 0)), (3, .ref (ad 17 0 0)), (4, .ref (ad 18 0 0)), (5, .int x5), (6, .int y6), (7, .int y7), (8, .int y8), (9, .int y9)] → Wi D ad cy o sz Q p l e rmL_wouldOne s m [.ref (ad 14 0 0), .ref (ad 15 0 0), .ref (ad 16 0 0), .ref (ad 17 0 0), .ref (ad 18 0 0), .int x5] below meth c H locs (F0 m 14 ls [])), ∀ {K1 : Mem → Int32 → Int32 → Prop} (hk1 : ∀ (S : Mem) (y6 : Int32) (y8 : Int32), K1 S y6 y8 → ∀ (H : Heap) (locs : List Loc) (ls : Array Slot), PW D ad cy (AW ad o sz) s.heap o S H locs → lv_has ls 12 [(0, .ref (ad 14 0 0)), (1, .ref (ad 15 0 0)), (4, .ref (ad 18 0 0)), (5, .int x5), (6, .int y6), (8, .int y8)] → Wi D ad cy o sz Q p l e rmL_wouldOne s m [.ref (ad 14 0 0), .ref (ad 15 0 0), .ref (ad 16 0 0), .ref (ad 17 0 0), .ref (ad 18 0 0), .int x5] below meth c H locs (F0 m 120 ls [])), ∀ (S : Mem) (y6 : Int32) (y7 : Int32) (y8 : Int32) (y9 : Int32) (y11 : Int32), vc_L_wouldOne_J94 Q K0 K1 x5 S y6 y7 y8 y9 y11 → ∀ (H : Heap) (locs : List Loc) (ls : Array Slot), PW D ad cy (AW ad o sz) s.heap o S H locs → lv_has ls 12 [(0, .ref (ad 14 0 0)), (1, .ref (ad 15 0 0)), (2, .ref (ad 16 0 0)), (3, .ref (ad 17 0 0)), (4, .ref (ad 18 0 0)), (5, .int x5), (6, .int y6), (7, .int y7), (8, .int y8), (9, .int y9), (11, .int y11)] → Wi D ad cy o sz Q p l e rmL_wouldOne s m [.ref (ad 14 0 0), .ref (ad 15 0 0), .ref (ad 16 0 0), .ref (ad 17 0 0), .ref (ad 18 0 0), .int x5] below meth c H locs (F0 m 94 ls []) := by
    intro K0 hk0 K1 hk1 S y6 y7 y8 y9 y11 hq H locs ls hX hl
    unfold vc_L_wouldOne_J94 at hq
    refine lv_iload hM.1 hM.2.1 dL_wouldOne_94 (lv_at hl 6 rfl) ?_
    exact J96 hk0 hk1 S y7 y8 y9 y11 y6 hq _ _ _ hX (lv_sub hl [0, 1, 2, 3, 4, 5, 7, 8, 9, 10] rfl)
  have J89 : ∀ {K0 : Mem → Int32 → Int32 → Int32 → Int32 → Prop} (hk0 : ∀ (S : Mem) (y6 : Int32) (y7 : Int32) (y8 : Int32) (y9 : Int32), K0 S y6 y7 y8 y9 → ∀ (H : Heap) (locs : List Loc) (ls : Array Slot), PW D ad cy (AW ad o sz) s.heap o S H locs → lv_has ls 12 [(0, .ref (ad 14 0 0)), (1, .ref (ad 15 0 0)), (2, .ref (ad 16 0 0)), (3, .ref (ad 17 0 0)), (4, .ref (ad 18 0 0)), (5, .int x5), (6, .int y6), (7, .int y7), (8, .int y8), (9, .int y9)] → Wi D ad cy o sz Q p l e rmL_wouldOne s m [.ref (ad 14 0 0), .ref (ad 15 0 0), .ref (ad 16 0 0), .ref (ad 17 0 0), .ref (ad 18 0 0), .int x5] below meth c H locs (F0 m 14 ls [])), ∀ {K1 : Mem → Int32 → Int32 → Prop} (hk1 : ∀ (S : Mem) (y6 : Int32) (y8 : Int32), K1 S y6 y8 → ∀ (H : Heap) (locs : List Loc) (ls : Array Slot), PW D ad cy (AW ad o sz) s.heap o S H locs → lv_has ls 12 [(0, .ref (ad 14 0 0)), (1, .ref (ad 15 0 0)), (4, .ref (ad 18 0 0)), (5, .int x5), (6, .int y6), (8, .int y8)] → Wi D ad cy o sz Q p l e rmL_wouldOne s m [.ref (ad 14 0 0), .ref (ad 15 0 0), .ref (ad 16 0 0), .ref (ad 17 0 0), .ref (ad 18 0 0), .int x5] below meth c H locs (F0 m 120 ls [])), ∀ (S : Mem) (y7 : Int32) (y8 : Int32) (y9 : Int32) (y11 : Int32), vc_L_wouldOne_J89 Q K0 K1 x5 S y7 y8 y9 y11 → ∀ (H : Heap) (locs : List Loc) (ls : Array Slot), PW D ad cy (AW ad o sz) s.heap o S H locs → lv_has ls 12 [(0, .ref (ad 14 0 0)), (1, .ref (ad 15 0 0)), (2, .ref (ad 16 0 0)), (3, .ref (ad 17 0 0)), (4, .ref (ad 18 0 0)), (5, .int x5), (7, .int y7), (8, .int y8), (9, .int y9), (11, .int y11)] → Wi D ad cy o sz Q p l e rmL_wouldOne s m [.ref (ad 14 0 0), .ref (ad 15 0 0), .ref (ad 16 0 0), .ref (ad 17 0 0), .ref (ad 18 0 0), .int x5] below meth c H locs (F0 m 89 ls []) := by
    intro K0 hk0 K1 hk1 S y7 y8 y9 y11 hq H locs ls hX hl
    unfold vc_L_wouldOne_J89 at hq
    refine lv_iload hM.1 hM.2.1 dL_wouldOne_89 (lv_at hl 8 rfl) ?_
    refine lv_goto (tgt := 96) hM.1 hM.2.1 dL_wouldOne_91 (by decide) ?_
    exact J96 hk0 hk1 S y7 y8 y9 y11 y9 hq _ _ _ hX (lv_sub hl [0, 1, 2, 3, 4, 5, 6, 7, 8, 9] rfl)
  have J54 : ∀ {K0 : Mem → Int32 → Int32 → Int32 → Int32 → Prop} (hk0 : ∀ (S : Mem) (y6 : Int32) (y7 : Int32) (y8 : Int32) (y9 : Int32), K0 S y6 y7 y8 y9 → ∀ (H : Heap) (locs : List Loc) (ls : Array Slot), PW D ad cy (AW ad o sz) s.heap o S H locs → lv_has ls 12 [(0, .ref (ad 14 0 0)), (1, .ref (ad 15 0 0)), (2, .ref (ad 16 0 0)), (3, .ref (ad 17 0 0)), (4, .ref (ad 18 0 0)), (5, .int x5), (6, .int y6), (7, .int y7), (8, .int y8), (9, .int y9)] → Wi D ad cy o sz Q p l e rmL_wouldOne s m [.ref (ad 14 0 0), .ref (ad 15 0 0), .ref (ad 16 0 0), .ref (ad 17 0 0), .ref (ad 18 0 0), .int x5] below meth c H locs (F0 m 14 ls [])), ∀ {K1 : Mem → Int32 → Int32 → Prop} (hk1 : ∀ (S : Mem) (y6 : Int32) (y8 : Int32), K1 S y6 y8 → ∀ (H : Heap) (locs : List Loc) (ls : Array Slot), PW D ad cy (AW ad o sz) s.heap o S H locs → lv_has ls 12 [(0, .ref (ad 14 0 0)), (1, .ref (ad 15 0 0)), (4, .ref (ad 18 0 0)), (5, .int x5), (6, .int y6), (8, .int y8)] → Wi D ad cy o sz Q p l e rmL_wouldOne s m [.ref (ad 14 0 0), .ref (ad 15 0 0), .ref (ad 16 0 0), .ref (ad 17 0 0), .ref (ad 18 0 0), .int x5] below meth c H locs (F0 m 120 ls [])), ∀ (S : Mem) (y6 : Int32) (y7 : Int32) (y9 : Int32) (y10 : Int32) (w0 : Int32), vc_L_wouldOne_J54 Q K0 K1 x5 S y6 y7 y9 y10 w0 → ∀ (H : Heap) (locs : List Loc) (ls : Array Slot), PW D ad cy (AW ad o sz) s.heap o S H locs → lv_has ls 12 [(0, .ref (ad 14 0 0)), (1, .ref (ad 15 0 0)), (2, .ref (ad 16 0 0)), (3, .ref (ad 17 0 0)), (4, .ref (ad 18 0 0)), (5, .int x5), (6, .int y6), (7, .int y7), (9, .int y9), (10, .int y10)] → Wi D ad cy o sz Q p l e rmL_wouldOne s m [.ref (ad 14 0 0), .ref (ad 15 0 0), .ref (ad 16 0 0), .ref (ad 17 0 0), .ref (ad 18 0 0), .int x5] below meth c H locs (F0 m 54 ls [.int w0]) := by
    intro K0 hk0 K1 hk1 S y6 y7 y9 y10 w0 hq H locs ls hX hl
    unfold vc_L_wouldOne_J54 at hq
    refine lv_istore (lv' := [(8, .int w0), (0, .ref (ad 14 0 0)), (1, .ref (ad 15 0 0)), (2, .ref (ad 16 0 0)), (3, .ref (ad 17 0 0)), (4, .ref (ad 18 0 0)), (5, .int x5), (6, .int y6), (7, .int y7), (9, .int y9), (10, .int y10)]) hM.1 hM.2.1 dL_wouldOne_54 hl (by decide) rfl (fun ls hl => ?_)
    refine lv_iload hM.1 hM.2.1 dL_wouldOne_56 (lv_at hl 10 rfl) ?_
    refine lv_aload hM.1 hM.2.1 dL_wouldOne_58 (lv_at hl 5 rfl) ?_
    refine lv_iconst (v := (1 : Int32)) hM.1 hM.2.1 dL_wouldOne_60 (by decide) ?_
    have c_5 := hq.1
    replace hq := hq.2
    refine r_iald hM hK hX hI.2.2.2.2.1 (a18 0 0) c_5 dL_wouldOne_61 ?_
    refine lv_isub hM.1 hM.2.1 dL_wouldOne_62 ?_
    refine cSi (As := [.int (y10 - (S 18 0 0 (1 : Int32).toNatClampNeg))]) hM hK hX ⟨hI.1, trivial⟩ hA (met_L_size l D ad cy S (y10 - (S 18 0 0 (1 : Int32).toNatClampNeg)) hq) (kL_size hM.2.2.2.2 ql_RL_36 (Nat.le_of_ble_eq_true rfl) (Nat.le_of_ble_eq_true rfl)) rfl hl.1 rfl (Nat.le_of_ble_eq_true rfl) dL_wouldOne_63 ⟨Nat.zero_le _, Nat.zero_le _⟩ (fun S_6 r_7 hq H locs hX => ?_)
    refine lv_istore (lv' := [(11, .int r_7), (8, .int w0), (0, .ref (ad 14 0 0)), (1, .ref (ad 15 0 0)), (2, .ref (ad 16 0 0)), (3, .ref (ad 17 0 0)), (4, .ref (ad 18 0 0)), (5, .int x5), (6, .int y6), (7, .int y7), (9, .int y9), (10, .int y10)]) hM.1 hM.2.1 dL_wouldOne_66 hl (by decide) rfl (fun ls hl => ?_)
    refine lv_iload hM.1 hM.2.1 dL_wouldOne_68 (lv_at hl 11 rfl) ?_
    refine lv_ldc hM.1 hM.2.1 hM.2.2.2.1 (hM.2.2.2.2 _ qn_RL_11) dL_wouldOne_70 ?_
    refine lv_icmp_eq (tgt := 94) hM.1 hM.2.1 dL_wouldOne_72 (by decide) (fun c_8 => ?_) (fun c_8 => ?_)
    · replace hq := hq.1 c_8
      exact J94 hk0 hk1 S_6 y6 y7 w0 y9 r_7 hq _ _ _ hX (lv_sub hl [2, 3, 4, 5, 6, 7, 8, 9, 1, 10, 0] rfl)
    replace hq := hq.2 c_8
    refine lv_iload hM.1 hM.2.1 dL_wouldOne_75 (lv_at hl 8 rfl) ?_
    refine lv_ldc hM.1 hM.2.1 hM.2.2.2.1 (hM.2.2.2.2 _ qn_RL_11) dL_wouldOne_77 ?_
    refine lv_icmp_eq (tgt := 89) hM.1 hM.2.1 dL_wouldOne_79 (by decide) (fun c_10 => ?_) (fun c_10 => ?_)
    · replace hq := hq.1 c_10
      exact J89 hk0 hk1 S_6 y7 w0 y9 r_7 hq _ _ _ hX (lv_sub hl [2, 3, 4, 5, 6, 7, 9, 1, 10, 0] rfl)
    replace hq := hq.2 c_10
    refine lv_iload hM.1 hM.2.1 dL_wouldOne_82 (lv_at hl 0 rfl) ?_
    refine lv_iload hM.1 hM.2.1 dL_wouldOne_84 (lv_at hl 9 rfl) ?_
    refine lv_icmp_gt (tgt := 94) hM.1 hM.2.1 dL_wouldOne_86 (by decide) (fun c_11 => ?_) (fun c_11 => ?_)
    · replace hq := hq.1 c_11
      exact J94 hk0 hk1 S_6 y6 y7 w0 y9 r_7 hq _ _ _ hX (lv_sub hl [2, 3, 4, 5, 6, 7, 8, 9, 1, 10, 0] rfl)
    replace hq := hq.2 c_11
    exact J89 hk0 hk1 S_6 y7 w0 y9 r_7 hq _ _ _ hX (lv_sub hl [2, 3, 4, 5, 6, 7, 9, 1, 10, 0] rfl)
  have J53 : ∀ {K0 : Mem → Int32 → Int32 → Int32 → Int32 → Prop} (hk0 : ∀ (S : Mem) (y6 : Int32) (y7 : Int32) (y8 : Int32) (y9 : Int32), K0 S y6 y7 y8 y9 → ∀ (H : Heap) (locs : List Loc) (ls : Array Slot), PW D ad cy (AW ad o sz) s.heap o S H locs → lv_has ls 12 [(0, .ref (ad 14 0 0)), (1, .ref (ad 15 0 0)), (2, .ref (ad 16 0 0)), (3, .ref (ad 17 0 0)), (4, .ref (ad 18 0 0)), (5, .int x5), (6, .int y6), (7, .int y7), (8, .int y8), (9, .int y9)] → Wi D ad cy o sz Q p l e rmL_wouldOne s m [.ref (ad 14 0 0), .ref (ad 15 0 0), .ref (ad 16 0 0), .ref (ad 17 0 0), .ref (ad 18 0 0), .int x5] below meth c H locs (F0 m 14 ls [])), ∀ {K1 : Mem → Int32 → Int32 → Prop} (hk1 : ∀ (S : Mem) (y6 : Int32) (y8 : Int32), K1 S y6 y8 → ∀ (H : Heap) (locs : List Loc) (ls : Array Slot), PW D ad cy (AW ad o sz) s.heap o S H locs → lv_has ls 12 [(0, .ref (ad 14 0 0)), (1, .ref (ad 15 0 0)), (4, .ref (ad 18 0 0)), (5, .int x5), (6, .int y6), (8, .int y8)] → Wi D ad cy o sz Q p l e rmL_wouldOne s m [.ref (ad 14 0 0), .ref (ad 15 0 0), .ref (ad 16 0 0), .ref (ad 17 0 0), .ref (ad 18 0 0), .int x5] below meth c H locs (F0 m 120 ls [])), ∀ (S : Mem) (y6 : Int32) (y7 : Int32) (y9 : Int32) (y10 : Int32), vc_L_wouldOne_J53 Q K0 K1 x5 S y6 y7 y9 y10 → ∀ (H : Heap) (locs : List Loc) (ls : Array Slot), PW D ad cy (AW ad o sz) s.heap o S H locs → lv_has ls 12 [(0, .ref (ad 14 0 0)), (1, .ref (ad 15 0 0)), (2, .ref (ad 16 0 0)), (3, .ref (ad 17 0 0)), (4, .ref (ad 18 0 0)), (5, .int x5), (6, .int y6), (7, .int y7), (9, .int y9), (10, .int y10)] → Wi D ad cy o sz Q p l e rmL_wouldOne s m [.ref (ad 14 0 0), .ref (ad 15 0 0), .ref (ad 16 0 0), .ref (ad 17 0 0), .ref (ad 18 0 0), .int x5] below meth c H locs (F0 m 53 ls []) := by
    intro K0 hk0 K1 hk1 S y6 y7 y9 y10 hq H locs ls hX hl
    unfold vc_L_wouldOne_J53 at hq
    refine lv_iconst (v := (0 : Int32)) hM.1 hM.2.1 dL_wouldOne_53 (by decide) ?_
    exact J54 hk0 hk1 S y6 y7 y9 y10 (0 : Int32) hq _ _ _ hX (lv_sub hl [0, 1, 2, 3, 4, 5, 6, 7, 8, 9] rfl)
  have L14 : ∀ {K : Mem → Int32 → Int32 → Prop} (hk : ∀ (S : Mem) (y6 : Int32) (y8 : Int32), K S y6 y8 → ∀ (H : Heap) (locs : List Loc) (ls : Array Slot), PW D ad cy (AW ad o sz) s.heap o S H locs → lv_has ls 12 [(0, .ref (ad 14 0 0)), (1, .ref (ad 15 0 0)), (4, .ref (ad 18 0 0)), (5, .int x5), (6, .int y6), (8, .int y8)] → Wi D ad cy o sz Q p l e rmL_wouldOne s m [.ref (ad 14 0 0), .ref (ad 15 0 0), .ref (ad 16 0 0), .ref (ad 17 0 0), .ref (ad 18 0 0), .int x5] below meth c H locs (F0 m 120 ls [])), ∀ (n : Nat) (S : Mem) (y6 : Int32) (y7 : Int32) (y8 : Int32) (y9 : Int32), vc_L_wouldOne_L14 Q K x5 n S y6 y7 y8 y9 → ∀ (H : Heap) (locs : List Loc) (ls : Array Slot), PW D ad cy (AW ad o sz) s.heap o S H locs → lv_has ls 12 [(0, .ref (ad 14 0 0)), (1, .ref (ad 15 0 0)), (2, .ref (ad 16 0 0)), (3, .ref (ad 17 0 0)), (4, .ref (ad 18 0 0)), (5, .int x5), (6, .int y6), (7, .int y7), (8, .int y8), (9, .int y9)] → Wi D ad cy o sz Q p l e rmL_wouldOne s m [.ref (ad 14 0 0), .ref (ad 15 0 0), .ref (ad 16 0 0), .ref (ad 17 0 0), .ref (ad 18 0 0), .int x5] below meth c H locs (F0 m 14 ls []) := by
    intro K hk n
    induction n with
    | zero =>
      intro S y6 y7 y8 y9 hq
      rw [vc_L_wouldOne_L14] at hq
      exact hq.elim
    | succ n ih =>
      intro S y6 y7 y8 y9 hq H locs ls hX hl
      rw [vc_L_wouldOne_L14] at hq
      refine lv_iload hM.1 hM.2.1 dL_wouldOne_14 (lv_at hl 9 rfl) ?_
      refine lv_if_le (tgt := 120) hM.1 hM.2.1 dL_wouldOne_16 (by decide) (fun c_1 => ?_) (fun c_1 => ?_)
      · replace hq := hq.1 c_1
        exact hk S y6 y8 hq _ _ _ hX (lv_sub hl [0, 1, 4, 5, 6, 8] rfl)
      replace hq := hq.2 c_1
      refine lv_aload_n hM.1 hM.2.1 dL_wouldOne_19 rfl (lv_at hl 1 rfl) ?_
      refine lv_aload_n hM.1 hM.2.1 dL_wouldOne_20 rfl (lv_at hl 2 rfl) ?_
      refine lv_aload_n hM.1 hM.2.1 dL_wouldOne_21 rfl (lv_at hl 3 rfl) ?_
      refine lv_iload hM.1 hM.2.1 dL_wouldOne_22 (lv_at hl 5 rfl) ?_
      refine lv_iload hM.1 hM.2.1 dL_wouldOne_24 (lv_at hl 9 rfl) ?_
      refine cSi (As := [.ref (ad 15 0 0), .ref (ad 16 0 0), .ref (ad 17 0 0), .int x5, .int y9]) hM hK hX ⟨hI.1, hI.2.1, hI.2.2.1, hI.2.2.2.1, trivial⟩ hA (met_L_mended l D ad cy S 0 x5 y9 hq) (kL_mended hM.2.2.2.2 ql_RL_12 (Nat.le_of_ble_eq_true rfl) (Nat.le_of_ble_eq_true rfl)) rfl hl.1 rfl (Nat.le_of_ble_eq_true rfl) dL_wouldOne_26 ⟨Nat.zero_le _, Nat.zero_le _⟩ (fun S_2 r_3 hq H locs hX => ?_)
      refine lv_istore (lv' := [(10, .int r_3), (0, .ref (ad 14 0 0)), (1, .ref (ad 15 0 0)), (2, .ref (ad 16 0 0)), (3, .ref (ad 17 0 0)), (4, .ref (ad 18 0 0)), (5, .int x5), (6, .int y6), (7, .int y7), (8, .int y8), (9, .int y9)]) hM.1 hM.2.1 dL_wouldOne_29 hl (by decide) rfl (fun ls hl => ?_)
      refine lv_iload hM.1 hM.2.1 dL_wouldOne_31 (lv_at hl 9 rfl) ?_
      refine lv_if_eq (tgt := 53) hM.1 hM.2.1 dL_wouldOne_33 (by decide) (fun c_4 => ?_) (fun c_4 => ?_)
      · replace hq := hq.1 c_4
        exact J53 ih hk S_2 y6 y7 y9 r_3 hq _ _ _ hX (lv_sub hl [1, 2, 3, 4, 5, 6, 7, 8, 10, 0] rfl)
      replace hq := hq.2 c_4
      refine lv_aload_n hM.1 hM.2.1 dL_wouldOne_36 rfl (lv_at hl 1 rfl) ?_
      refine lv_iload hM.1 hM.2.1 dL_wouldOne_37 (lv_at hl 6 rfl) ?_
      refine lv_iload hM.1 hM.2.1 dL_wouldOne_39 (lv_at hl 10 rfl) ?_
      refine cVi (As := [.int x5, .int y9]) hM hK hX ⟨hI.1, trivial⟩ hA (met_X6_ifLag l D ad cy S_2 x5 y9 hq) (kX6_ifLag hM.2.2.2.2 ql_RL_77 (Nat.le_of_ble_eq_true rfl) (Nat.le_of_ble_eq_true rfl)) (v14 hK hX (hI.1 _ m14)) rfl hl.1 rfl (Nat.le_of_ble_eq_true rfl) dL_wouldOne_41 ⟨Nat.zero_le _, Nat.zero_le _⟩ (fun S_12 r_13 hq H locs hX => ?_)
      refine lv_iload hM.1 hM.2.1 dL_wouldOne_44 (lv_at hl 0 rfl) ?_
      refine lv_icmp_ne (tgt := 53) hM.1 hM.2.1 dL_wouldOne_46 (by decide) (fun c_14 => ?_) (fun c_14 => ?_)
      · replace hq := hq.1 c_14
        exact J53 ih hk S_12 y6 y7 y9 r_3 hq _ _ _ hX (lv_sub hl [1, 2, 3, 4, 5, 6, 7, 8, 10, 0] rfl)
      replace hq := hq.2 c_14
      refine lv_iconst (v := (1 : Int32)) hM.1 hM.2.1 dL_wouldOne_49 (by decide) ?_
      refine lv_goto (tgt := 54) hM.1 hM.2.1 dL_wouldOne_50 (by decide) ?_
      exact J54 ih hk S_12 y6 y7 y9 r_3 (1 : Int32) hq _ _ _ hX (lv_sub hl [1, 2, 3, 4, 5, 6, 7, 8, 10, 0] rfl)
  have L138 : ∀ {K : Mem → Int32 → Int32 → Int32 → Prop} (hk : ∀ (S : Mem) (y6 : Int32) (y8 : Int32) (y11 : Int32), K S y6 y8 y11 → ∀ (H : Heap) (locs : List Loc) (ls : Array Slot), PW D ad cy (AW ad o sz) s.heap o S H locs → lv_has ls 12 [(0, .ref (ad 14 0 0)), (5, .int x5), (6, .int y6), (8, .int y8), (11, .int y11)] → Wi D ad cy o sz Q p l e rmL_wouldOne s m [.ref (ad 14 0 0), .ref (ad 15 0 0), .ref (ad 16 0 0), .ref (ad 17 0 0), .ref (ad 18 0 0), .int x5] below meth c H locs (F0 m 196 ls [])), ∀ (n : Nat) (S : Mem) (y6 : Int32) (y8 : Int32) (y9 : Int32) (y10 : Int32) (y11 : Int32), vc_L_wouldOne_L138 Q K x5 n S y6 y8 y9 y10 y11 → ∀ (H : Heap) (locs : List Loc) (ls : Array Slot), PW D ad cy (AW ad o sz) s.heap o S H locs → lv_has ls 12 [(0, .ref (ad 14 0 0)), (1, .ref (ad 15 0 0)), (4, .ref (ad 18 0 0)), (5, .int x5), (6, .int y6), (8, .int y8), (9, .int y9), (10, .int y10), (11, .int y11)] → Wi D ad cy o sz Q p l e rmL_wouldOne s m [.ref (ad 14 0 0), .ref (ad 15 0 0), .ref (ad 16 0 0), .ref (ad 17 0 0), .ref (ad 18 0 0), .int x5] below meth c H locs (F0 m 138 ls []) := by
    intro K hk n
    induction n with
    | zero =>
      intro S y6 y8 y9 y10 y11 hq
      rw [vc_L_wouldOne_L138] at hq
      exact hq.elim
    | succ n ih =>
      intro S y6 y8 y9 y10 y11 hq H locs ls hX hl
      rw [vc_L_wouldOne_L138] at hq
      refine lv_aload hM.1 hM.2.1 dL_wouldOne_138 (lv_at hl 2 rfl) ?_
      refine lv_iconst (v := (1 : Int32)) hM.1 hM.2.1 dL_wouldOne_140 (by decide) ?_
      have c_19 := hq.1
      replace hq := hq.2
      refine r_iald hM hK hX hI.2.2.2.2.1 (a18 0 0) c_19 dL_wouldOne_141 ?_
      refine lv_aload_n hM.1 hM.2.1 dL_wouldOne_142 rfl (lv_at hl 1 rfl) ?_
      refine lv_iload hM.1 hM.2.1 dL_wouldOne_143 (lv_at hl 6 rfl) ?_
      refine lv_iconst (v := (2 : Int32)) hM.1 hM.2.1 dL_wouldOne_145 (by decide) ?_
      refine lv_iadd hM.1 hM.2.1 dL_wouldOne_146 ?_
      have c_20 := hq.1
      replace hq := hq.2
      refine r_iald hM hK hX hI.2.1 (a15 0 0) c_20 dL_wouldOne_147 ?_
      refine lv_iadd hM.1 hM.2.1 dL_wouldOne_148 ?_
      refine lv_iload hM.1 hM.2.1 dL_wouldOne_149 (lv_at hl 7 rfl) ?_
      refine lv_isub hM.1 hM.2.1 dL_wouldOne_151 ?_
      refine cSi (As := [.int (((S 18 0 0 (1 : Int32).toNatClampNeg) + (S 15 0 0 (y9 + (2 : Int32)).toNatClampNeg)) - y10)]) hM hK hX ⟨hI.1, trivial⟩ hA (met_L_size l D ad cy S (((S 18 0 0 (1 : Int32).toNatClampNeg) + (S 15 0 0 (y9 + (2 : Int32)).toNatClampNeg)) - y10) hq) (kL_size hM.2.2.2.2 ql_RL_36 (Nat.le_of_ble_eq_true rfl) (Nat.le_of_ble_eq_true rfl)) rfl hl.1 rfl (Nat.le_of_ble_eq_true rfl) dL_wouldOne_152 ⟨Nat.zero_le _, Nat.zero_le _⟩ (fun S_21 r_22 hq H locs hX => ?_)
      refine lv_aload_n hM.1 hM.2.1 dL_wouldOne_155 rfl (lv_at hl 1 rfl) ?_
      refine lv_iload hM.1 hM.2.1 dL_wouldOne_156 (lv_at hl 6 rfl) ?_
      refine lv_iconst (v := (1 : Int32)) hM.1 hM.2.1 dL_wouldOne_158 (by decide) ?_
      refine lv_iadd hM.1 hM.2.1 dL_wouldOne_159 ?_
      have c_23 := hq.1
      replace hq := hq.2
      refine r_iald hM hK hX hI.2.1 (a15 0 0) c_23 dL_wouldOne_160 ?_
      refine lv_icmp_lt (tgt := 196) hM.1 hM.2.1 dL_wouldOne_161 (by decide) (fun c_24 => ?_) (fun c_24 => ?_)
      · replace hq := hq.1 c_24
        exact hk S_21 y6 y8 y11 hq _ _ _ hX (lv_sub hl [0, 3, 4, 5, 8] rfl)
      replace hq := hq.2 c_24
      refine lv_iload hM.1 hM.2.1 dL_wouldOne_164 (lv_at hl 7 rfl) ?_
      refine lv_aload hM.1 hM.2.1 dL_wouldOne_166 (lv_at hl 2 rfl) ?_
      refine lv_iconst (v := (1 : Int32)) hM.1 hM.2.1 dL_wouldOne_168 (by decide) ?_
      have c_25 := hq.1
      replace hq := hq.2
      refine r_iald hM hK hX hI.2.2.2.2.1 (a18 0 0) c_25 dL_wouldOne_169 ?_
      refine lv_aload_n hM.1 hM.2.1 dL_wouldOne_170 rfl (lv_at hl 1 rfl) ?_
      refine lv_iload hM.1 hM.2.1 dL_wouldOne_171 (lv_at hl 6 rfl) ?_
      refine lv_iconst (v := (2 : Int32)) hM.1 hM.2.1 dL_wouldOne_173 (by decide) ?_
      refine lv_iadd hM.1 hM.2.1 dL_wouldOne_174 ?_
      have c_26 := hq.1
      replace hq := hq.2
      refine r_iald hM hK hX hI.2.1 (a15 0 0) c_26 dL_wouldOne_175 ?_
      refine lv_iadd hM.1 hM.2.1 dL_wouldOne_176 ?_
      refine lv_iload hM.1 hM.2.1 dL_wouldOne_177 (lv_at hl 7 rfl) ?_
      refine lv_isub hM.1 hM.2.1 dL_wouldOne_179 ?_
      refine lv_aload_n hM.1 hM.2.1 dL_wouldOne_180 rfl (lv_at hl 1 rfl) ?_
      refine lv_iload hM.1 hM.2.1 dL_wouldOne_181 (lv_at hl 6 rfl) ?_
      refine lv_iconst (v := (1 : Int32)) hM.1 hM.2.1 dL_wouldOne_183 (by decide) ?_
      refine lv_iadd hM.1 hM.2.1 dL_wouldOne_184 ?_
      have c_27 := hq.1
      replace hq := hq.2
      refine r_iald hM hK hX hI.2.1 (a15 0 0) c_27 dL_wouldOne_185 ?_
      have c_28 := hq.1
      replace hq := hq.2
      refine lv_idiv hM.1 hM.2.1 dL_wouldOne_186 c_28 ?_
      refine lv_iadd hM.1 hM.2.1 dL_wouldOne_187 ?_
      refine lv_istore (lv' := [(10, .int (y10 + ((((S_21 18 0 0 (1 : Int32).toNatClampNeg) + (S_21 15 0 0 (y9 + (2 : Int32)).toNatClampNeg)) - y10) / (S_21 15 0 0 (y9 + (1 : Int32)).toNatClampNeg)))), (0, .ref (ad 14 0 0)), (1, .ref (ad 15 0 0)), (4, .ref (ad 18 0 0)), (5, .int x5), (6, .int y6), (8, .int y8), (9, .int y9), (11, .int y11)]) hM.1 hM.2.1 dL_wouldOne_188 hl (by decide) rfl (fun ls hl => ?_)
      refine lv_iinc (v := (y11 + (1 : Int32))) (lv' := [(11, .int (y11 + (1 : Int32))), (10, .int (y10 + ((((S_21 18 0 0 (1 : Int32).toNatClampNeg) + (S_21 15 0 0 (y9 + (2 : Int32)).toNatClampNeg)) - y10) / (S_21 15 0 0 (y9 + (1 : Int32)).toNatClampNeg)))), (0, .ref (ad 14 0 0)), (1, .ref (ad 15 0 0)), (4, .ref (ad 18 0 0)), (5, .int x5), (6, .int y6), (8, .int y8), (9, .int y9)]) hM.1 hM.2.1 dL_wouldOne_190 hl (k := 8) rfl rfl (by decide) rfl (fun ls hl => ?_)
      refine lv_goto (tgt := 138) hM.1 hM.2.1 dL_wouldOne_193 (by decide) ?_
      exact ih S_21 y6 y8 y9 (y10 + ((((S_21 18 0 0 (1 : Int32).toNatClampNeg) + (S_21 15 0 0 (y9 + (2 : Int32)).toNatClampNeg)) - y10) / (S_21 15 0 0 (y9 + (1 : Int32)).toNatClampNeg))) (y11 + (1 : Int32)) hq _ _ _ hX (lv_sub hl [2, 3, 4, 5, 6, 7, 8, 1, 0] rfl)
  unfold vc_L_wouldOne at hq
  refine lv_ldc hM.1 hM.2.1 hM.2.2.2.1 (hM.2.2.2.2 _ qn_RL_11) dL_wouldOne_0 ?_
  refine lv_istore (lv' := [(6, .int (-999999 : Int32)), (0, .ref (ad 14 0 0)), (1, .ref (ad 15 0 0)), (2, .ref (ad 16 0 0)), (3, .ref (ad 17 0 0)), (4, .ref (ad 18 0 0)), (5, .int x5)]) hM.1 hM.2.1 dL_wouldOne_2 hl (by decide) rfl (fun ls hl => ?_)
  refine lv_iconst (v := (0 : Int32)) hM.1 hM.2.1 dL_wouldOne_4 (by decide) ?_
  refine lv_istore (lv' := [(7, .int (0 : Int32)), (6, .int (-999999 : Int32)), (0, .ref (ad 14 0 0)), (1, .ref (ad 15 0 0)), (2, .ref (ad 16 0 0)), (3, .ref (ad 17 0 0)), (4, .ref (ad 18 0 0)), (5, .int x5)]) hM.1 hM.2.1 dL_wouldOne_5 hl (by decide) rfl (fun ls hl => ?_)
  refine lv_iconst (v := (1 : Int32)) hM.1 hM.2.1 dL_wouldOne_7 (by decide) ?_
  refine lv_istore (lv' := [(8, .int (1 : Int32)), (7, .int (0 : Int32)), (6, .int (-999999 : Int32)), (0, .ref (ad 14 0 0)), (1, .ref (ad 15 0 0)), (2, .ref (ad 16 0 0)), (3, .ref (ad 17 0 0)), (4, .ref (ad 18 0 0)), (5, .int x5)]) hM.1 hM.2.1 dL_wouldOne_8 hl (by decide) rfl (fun ls hl => ?_)
  refine lv_bipush (v := (9 : Int32)) hM.1 hM.2.1 dL_wouldOne_10 (by decide) ?_
  refine lv_istore (lv' := [(9, .int (9 : Int32)), (8, .int (1 : Int32)), (7, .int (0 : Int32)), (6, .int (-999999 : Int32)), (0, .ref (ad 14 0 0)), (1, .ref (ad 15 0 0)), (2, .ref (ad 16 0 0)), (3, .ref (ad 17 0 0)), (4, .ref (ad 18 0 0)), (5, .int x5)]) hM.1 hM.2.1 dL_wouldOne_12 hl (by decide) rfl (fun ls hl => ?_)
  obtain ⟨k0, hq⟩ := hq
  refine L14 (fun S_15 y6_16 y8_17 hq H locs ls hX hl => ?_) k0 S (-999999 : Int32) (0 : Int32) (1 : Int32) (9 : Int32) hq _ _ _ hX (lv_sub hl [4, 5, 6, 7, 8, 9, 3, 2, 1, 0] rfl)
  refine lv_bipush (v := (10 : Int32)) hM.1 hM.2.1 dL_wouldOne_120 (by decide) ?_
  refine lv_iload hM.1 hM.2.1 dL_wouldOne_122 (lv_at hl 3 rfl) ?_
  refine lv_imul hM.1 hM.2.1 dL_wouldOne_124 ?_
  refine lv_istore (lv' := [(9, .int ((10 : Int32) * x5)), (0, .ref (ad 14 0 0)), (1, .ref (ad 15 0 0)), (4, .ref (ad 18 0 0)), (5, .int x5), (6, .int y6_16), (8, .int y8_17)]) hM.1 hM.2.1 dL_wouldOne_125 hl (by decide) rfl (fun ls hl => ?_)
  refine lv_aload_n hM.1 hM.2.1 dL_wouldOne_127 rfl (lv_at hl 2 rfl) ?_
  refine lv_iload hM.1 hM.2.1 dL_wouldOne_128 (lv_at hl 0 rfl) ?_
  refine lv_iconst (v := (4 : Int32)) hM.1 hM.2.1 dL_wouldOne_130 (by decide) ?_
  refine lv_iadd hM.1 hM.2.1 dL_wouldOne_131 ?_
  have c_18 := hq.1
  replace hq := hq.2
  refine r_iald hM hK hX hI.2.1 (a15 0 0) c_18 dL_wouldOne_132 ?_
  refine lv_istore (lv' := [(10, .int (S_15 15 0 0 (((10 : Int32) * x5) + (4 : Int32)).toNatClampNeg)), (9, .int ((10 : Int32) * x5)), (0, .ref (ad 14 0 0)), (1, .ref (ad 15 0 0)), (4, .ref (ad 18 0 0)), (5, .int x5), (6, .int y6_16), (8, .int y8_17)]) hM.1 hM.2.1 dL_wouldOne_133 hl (by decide) rfl (fun ls hl => ?_)
  refine lv_iconst (v := (0 : Int32)) hM.1 hM.2.1 dL_wouldOne_135 (by decide) ?_
  refine lv_istore (lv' := [(11, .int (0 : Int32)), (10, .int (S_15 15 0 0 (((10 : Int32) * x5) + (4 : Int32)).toNatClampNeg)), (9, .int ((10 : Int32) * x5)), (0, .ref (ad 14 0 0)), (1, .ref (ad 15 0 0)), (4, .ref (ad 18 0 0)), (5, .int x5), (6, .int y6_16), (8, .int y8_17)]) hM.1 hM.2.1 dL_wouldOne_136 hl (by decide) rfl (fun ls hl => ?_)
  obtain ⟨k0, hq⟩ := hq
  refine L138 (fun S_29 y6_30 y8_31 y11_32 hq H locs ls hX hl => ?_) k0 S_15 y6_16 y8_17 ((10 : Int32) * x5) (S_15 15 0 0 (((10 : Int32) * x5) + (4 : Int32)).toNatClampNeg) (0 : Int32) hq _ _ _ hX (lv_sub hl [3, 4, 5, 6, 7, 8, 2, 1, 0] rfl)
  refine lv_iload hM.1 hM.2.1 dL_wouldOne_196 (lv_at hl 3 rfl) ?_
  refine lv_if_eq (tgt := 227) hM.1 hM.2.1 dL_wouldOne_198 (by decide) (fun c_33 => ?_) (fun c_33 => ?_)
  · replace hq := hq.1 c_33
    refine lv_iconst (v := (0 : Int32)) hM.1 hM.2.1 dL_wouldOne_227 (by decide) ?_
    exact e_z hM hX hlocks hret rfl hq dL_wouldOne_228
  replace hq := hq.2 c_33
  refine lv_aload_n hM.1 hM.2.1 dL_wouldOne_201 rfl (lv_at hl 0 rfl) ?_
  refine lv_iload hM.1 hM.2.1 dL_wouldOne_202 (lv_at hl 1 rfl) ?_
  refine cVi (As := [.int x5]) hM hK hX ⟨hI.1, trivial⟩ hA (met_X6_bestLag l D ad cy S_29 x5 hq) (kX6_bestLag hM.2.2.2.2 ql_RL_80 (Nat.le_of_ble_eq_true rfl) (Nat.le_of_ble_eq_true rfl)) (v14 hK hX (hI.1 _ m14)) rfl hl.1 rfl (Nat.le_of_ble_eq_true rfl) dL_wouldOne_204 ⟨Nat.zero_le _, Nat.zero_le _⟩ (fun S_34 r_35 hq H locs hX => ?_)
  refine lv_iload hM.1 hM.2.1 dL_wouldOne_207 (lv_at hl 2 rfl) ?_
  refine lv_icmp_ne (tgt := 227) hM.1 hM.2.1 dL_wouldOne_209 (by decide) (fun c_36 => ?_) (fun c_36 => ?_)
  · replace hq := hq.1 c_36
    refine lv_iconst (v := (0 : Int32)) hM.1 hM.2.1 dL_wouldOne_227 (by decide) ?_
    exact e_z hM hX hlocks hret rfl hq dL_wouldOne_228
  replace hq := hq.2 c_36
  refine lv_aload_n hM.1 hM.2.1 dL_wouldOne_212 rfl (lv_at hl 0 rfl) ?_
  refine lv_iload hM.1 hM.2.1 dL_wouldOne_213 (lv_at hl 1 rfl) ?_
  refine cVi (As := [.int x5]) hM hK hX ⟨hI.1, trivial⟩ hA (met_X6_stillIn l D ad cy S_34 x5 hq) (kX6_stillIn hM.2.2.2.2 ql_RL_83 (Nat.le_of_ble_eq_true rfl) (Nat.le_of_ble_eq_true rfl)) (v14 hK hX (hI.1 _ m14)) rfl hl.1 rfl (Nat.le_of_ble_eq_true rfl) dL_wouldOne_215 ⟨Nat.zero_le _, Nat.zero_le _⟩ (fun S_37 r_38 hq H locs hX => ?_)
  refine lv_iload hM.1 hM.2.1 dL_wouldOne_218 (lv_at hl 4 rfl) ?_
  refine lv_icmp_ne (tgt := 227) hM.1 hM.2.1 dL_wouldOne_220 (by decide) (fun c_39 => ?_) (fun c_39 => ?_)
  · replace hq := hq.1 c_39
    refine lv_iconst (v := (0 : Int32)) hM.1 hM.2.1 dL_wouldOne_227 (by decide) ?_
    exact e_z hM hX hlocks hret rfl hq dL_wouldOne_228
  replace hq := hq.2 c_39
  refine lv_iconst (v := (1 : Int32)) hM.1 hM.2.1 dL_wouldOne_223 (by decide) ?_
  refine lv_goto (tgt := 228) hM.1 hM.2.1 dL_wouldOne_224 (by decide) ?_
  exact e_z hM hX hlocks hret rfl hq dL_wouldOne_228
def rmL_adds : Room := { frames := 5, cells := 0, slots := 0, locals := 110 }
theorem kL_adds {R : Room} {s : State} {args : Array Value} {own : String} {index : Nat} (ht : ∀ w ∈ lw_all, w.before args s = true) (hl : Cond.methodLink own index yL_adds ∈ lw_all) (hf : rmL_adds.frames + 1 ≤ R.frames) (hlo : 8 + (6 + 11) + rmL_adds.locals ≤ R.locals) : CallB R s args own index yL_adds cL_adds 6 (some Jvm.ClassFile.FieldType.boolean) (wA yL_adds cL_adds 6 (some Jvm.ClassFile.FieldType.boolean)) rmL_adds 0 0 4 ∧ (Cond.static yL_adds).before args s = true := va_cwS 4 ht (good_S hl qt_yL_adds qi_RL qc_yL_adds) rfl rfl rfl (by decide +kernel) ⟨hf, hlo⟩
set_option maxRecDepth 100000 in
set_option maxHeartbeats 4000000 in
theorem met_L_adds (l : Launch) (D : va_G) (ad : Adr) (cy : Nat → ClassId) (S : Mem) (x3 : Int32) {Q : Mem → Int32 → Prop} (hq : vc_L_adds S x3 Q) : Ci l yL_adds (wA yL_adds cL_adds 6 (some Jvm.ClassFile.FieldType.boolean)) rmL_adds D ad cy (IN [(15, 0, 0), (18, 0, 0)]) [.ref (ad 14 0 0), .ref (ad 15 0 0), .ref (ad 18 0 0), .int x3] S Q := by
  intro o sz hI
  refine mkC (own := RL) (lv := [(0, .ref (ad 14 0 0)), (1, .ref (ad 15 0 0)), (2, .ref (ad 18 0 0)), (3, .int x3)]) (by decide) rfl (Nat.le_of_ble_eq_true rfl) rfl ?_
  intro p e s m below meth c ls hsz hM hlocks hret hK hA hX hl
  have L37 : ∀ {K : Mem → Int32 → Prop} (hk : ∀ (S : Mem) (y4 : Int32), K S y4 → ∀ (H : Heap) (locs : List Loc) (ls : Array Slot), PW D ad cy (AW ad o sz) s.heap o S H locs → lv_has ls 6 [(0, .ref (ad 14 0 0)), (1, .ref (ad 15 0 0)), (2, .ref (ad 18 0 0)), (3, .int x3), (4, .int y4)] → Wi D ad cy o sz Q p l e rmL_adds s m [.ref (ad 14 0 0), .ref (ad 15 0 0), .ref (ad 18 0 0), .int x3] below meth c H locs (F0 m 58 ls [])), ∀ (n : Nat) (S : Mem) (y4 : Int32) (y5 : Int32), vc_L_adds_L37 Q K x3 n S y4 y5 → ∀ (H : Heap) (locs : List Loc) (ls : Array Slot), PW D ad cy (AW ad o sz) s.heap o S H locs → lv_has ls 6 [(0, .ref (ad 14 0 0)), (1, .ref (ad 15 0 0)), (2, .ref (ad 18 0 0)), (3, .int x3), (4, .int y4), (5, .int y5)] → Wi D ad cy o sz Q p l e rmL_adds s m [.ref (ad 14 0 0), .ref (ad 15 0 0), .ref (ad 18 0 0), .int x3] below meth c H locs (F0 m 37 ls []) := by
    intro K hk n
    induction n with
    | zero =>
      intro S y4 y5 hq
      rw [vc_L_adds_L37] at hq
      exact hq.elim
    | succ n ih =>
      intro S y4 y5 hq H locs ls hX hl
      rw [vc_L_adds_L37] at hq
      refine lv_iload hM.1 hM.2.1 dL_adds_37 (lv_at hl 5 rfl) ?_
      refine lv_bipush (v := (10 : Int32)) hM.1 hM.2.1 dL_adds_39 (by decide) ?_
      refine lv_icmp_ge (tgt := 58) hM.1 hM.2.1 dL_adds_41 (by decide) (fun c_4 => ?_) (fun c_4 => ?_)
      · replace hq := hq.1 c_4
        exact hk S y4 hq _ _ _ hX (lv_sub hl [0, 1, 2, 3, 4] rfl)
      replace hq := hq.2 c_4
      refine lv_aload_n hM.1 hM.2.1 dL_adds_44 rfl (lv_at hl 1 rfl) ?_
      refine lv_iload hM.1 hM.2.1 dL_adds_45 (lv_at hl 4 rfl) ?_
      refine lv_iload hM.1 hM.2.1 dL_adds_47 (lv_at hl 5 rfl) ?_
      refine lv_iadd hM.1 hM.2.1 dL_adds_49 ?_
      refine lv_iconst (v := (0 : Int32)) hM.1 hM.2.1 dL_adds_50 (by decide) ?_
      have c_6 := hq.1
      replace hq := hq.2
      refine r_iast hM hK hX hI.2.1 (a15 0 0) c_6 dL_adds_51 (fun S_5 e_7 H locs hX => ?_)
      replace hq := hq S_5 e_7
      refine lv_iinc (v := (y5 + (1 : Int32))) (lv' := [(5, .int (y5 + (1 : Int32))), (0, .ref (ad 14 0 0)), (1, .ref (ad 15 0 0)), (2, .ref (ad 18 0 0)), (3, .int x3), (4, .int y4)]) hM.1 hM.2.1 dL_adds_52 hl (k := 5) rfl rfl (by decide) rfl (fun ls hl => ?_)
      refine lv_goto (tgt := 37) hM.1 hM.2.1 dL_adds_55 (by decide) ?_
      exact ih S_5 y4 (y5 + (1 : Int32)) hq _ _ _ hX (lv_sub hl [1, 2, 3, 4, 5, 0] rfl)
  unfold vc_L_adds at hq
  refine lv_aload_n hM.1 hM.2.1 dL_adds_0 rfl (lv_at hl 2 rfl) ?_
  refine lv_bipush (v := (15 : Int32)) hM.1 hM.2.1 dL_adds_1 (by decide) ?_
  have c_1 := hq.1
  replace hq := hq.2
  refine r_iald hM hK hX hI.2.2.1 (a18 0 0) c_1 dL_adds_3 ?_
  refine lv_bipush (v := (6 : Int32)) hM.1 hM.2.1 dL_adds_4 (by decide) ?_
  refine lv_icmp_ne (tgt := 25) hM.1 hM.2.1 dL_adds_6 (by decide) (fun c_2 => ?_) (fun c_2 => ?_)
  · replace hq := hq.1 c_2
    refine lv_bipush (v := (10 : Int32)) hM.1 hM.2.1 dL_adds_25 (by decide) ?_
    refine lv_aload_n hM.1 hM.2.1 dL_adds_27 rfl (lv_at hl 2 rfl) ?_
    refine lv_bipush (v := (15 : Int32)) hM.1 hM.2.1 dL_adds_28 (by decide) ?_
    have c_3 := hq.1
    replace hq := hq.2
    refine r_iald hM hK hX hI.2.2.1 (a18 0 0) c_3 dL_adds_30 ?_
    refine lv_imul hM.1 hM.2.1 dL_adds_31 ?_
    refine lv_istore (lv' := [(4, .int ((10 : Int32) * (S 18 0 0 (15 : Int32).toNatClampNeg))), (0, .ref (ad 14 0 0)), (1, .ref (ad 15 0 0)), (2, .ref (ad 18 0 0)), (3, .int x3)]) hM.1 hM.2.1 dL_adds_32 hl (by decide) rfl (fun ls hl => ?_)
    refine lv_iconst (v := (0 : Int32)) hM.1 hM.2.1 dL_adds_34 (by decide) ?_
    refine lv_istore (lv' := [(5, .int (0 : Int32)), (4, .int ((10 : Int32) * (S 18 0 0 (15 : Int32).toNatClampNeg))), (0, .ref (ad 14 0 0)), (1, .ref (ad 15 0 0)), (2, .ref (ad 18 0 0)), (3, .int x3)]) hM.1 hM.2.1 dL_adds_35 hl (by decide) rfl (fun ls hl => ?_)
    obtain ⟨k0, hq⟩ := hq
    refine L37 (fun S_8 y4_9 hq H locs ls hX hl => ?_) k0 S ((10 : Int32) * (S 18 0 0 (15 : Int32).toNatClampNeg)) (0 : Int32) hq _ _ _ hX (lv_sub hl [2, 3, 4, 5, 1, 0] rfl)
    refine lv_aload_n hM.1 hM.2.1 dL_adds_58 rfl (lv_at hl 1 rfl) ?_
    refine lv_iload hM.1 hM.2.1 dL_adds_59 (lv_at hl 4 rfl) ?_
    refine lv_iload_n hM.1 hM.2.1 dL_adds_61 rfl (lv_at hl 3 rfl) ?_
    refine lv_iconst (v := (5 : Int32)) hM.1 hM.2.1 dL_adds_62 (by decide) ?_
    refine cSi (As := [.int x3, .int (5 : Int32)]) hM hK hX ⟨hI.1, trivial⟩ hA (met_L_low l D ad cy S_8 x3 (5 : Int32) hq) (kL_low hM.2.2.2.2 ql_RL_86 (Nat.le_of_ble_eq_true rfl) (Nat.le_of_ble_eq_true rfl)) rfl hl.1 rfl (Nat.le_of_ble_eq_true rfl) dL_adds_63 ⟨Nat.zero_le _, Nat.zero_le _⟩ (fun S_10 r_11 hq H locs hX => ?_)
    refine lv_iconst (v := (4 : Int32)) hM.1 hM.2.1 dL_adds_66 (by decide) ?_
    have c_12 := hq.1
    replace hq := hq.2
    refine lv_irem hM.1 hM.2.1 dL_adds_67 c_12 ?_
    have c_14 := hq.1
    replace hq := hq.2
    refine r_iast hM hK hX hI.2.1 (a15 0 0) c_14 dL_adds_68 (fun S_13 e_15 H locs hX => ?_)
    replace hq := hq S_13 e_15
    refine lv_aload_n hM.1 hM.2.1 dL_adds_69 rfl (lv_at hl 1 rfl) ?_
    refine lv_iload hM.1 hM.2.1 dL_adds_70 (lv_at hl 4 rfl) ?_
    refine lv_iconst (v := (1 : Int32)) hM.1 hM.2.1 dL_adds_72 (by decide) ?_
    refine lv_iadd hM.1 hM.2.1 dL_adds_73 ?_
    refine lv_iconst (v := (1 : Int32)) hM.1 hM.2.1 dL_adds_74 (by decide) ?_
    refine lv_iload_n hM.1 hM.2.1 dL_adds_75 rfl (lv_at hl 3 rfl) ?_
    refine lv_iconst (v := (3 : Int32)) hM.1 hM.2.1 dL_adds_76 (by decide) ?_
    refine lv_ishr hM.1 hM.2.1 dL_adds_77 ?_
    refine lv_bipush (v := (9 : Int32)) hM.1 hM.2.1 dL_adds_78 (by decide) ?_
    refine cSi (As := [.int (x3 >>> ((3 : Int32) &&& 31)), .int (9 : Int32)]) hM hK hX ⟨hI.1, trivial⟩ hA (met_L_low l D ad cy S_13 (x3 >>> ((3 : Int32) &&& 31)) (9 : Int32) hq) (kL_low hM.2.2.2.2 ql_RL_86 (Nat.le_of_ble_eq_true rfl) (Nat.le_of_ble_eq_true rfl)) rfl hl.1 rfl (Nat.le_of_ble_eq_true rfl) dL_adds_80 ⟨Nat.zero_le _, Nat.zero_le _⟩ (fun S_16 r_17 hq H locs hX => ?_)
    refine lv_iadd hM.1 hM.2.1 dL_adds_83 ?_
    have c_19 := hq.1
    replace hq := hq.2
    refine r_iast hM hK hX hI.2.1 (a15 0 0) c_19 dL_adds_84 (fun S_18 e_20 H locs hX => ?_)
    replace hq := hq S_18 e_20
    refine lv_aload_n hM.1 hM.2.1 dL_adds_85 rfl (lv_at hl 1 rfl) ?_
    refine lv_iload hM.1 hM.2.1 dL_adds_86 (lv_at hl 4 rfl) ?_
    refine lv_iconst (v := (2 : Int32)) hM.1 hM.2.1 dL_adds_88 (by decide) ?_
    refine lv_iadd hM.1 hM.2.1 dL_adds_89 ?_
    refine lv_iload_n hM.1 hM.2.1 dL_adds_90 rfl (lv_at hl 3 rfl) ?_
    refine lv_bipush (v := (7 : Int32)) hM.1 hM.2.1 dL_adds_91 (by decide) ?_
    refine lv_ishr hM.1 hM.2.1 dL_adds_93 ?_
    refine lv_sipush (v := (401 : Int32)) hM.1 hM.2.1 dL_adds_94 (by decide) ?_
    refine cSi (As := [.int (x3 >>> ((7 : Int32) &&& 31)), .int (401 : Int32)]) hM hK hX ⟨hI.1, trivial⟩ hA (met_L_low l D ad cy S_18 (x3 >>> ((7 : Int32) &&& 31)) (401 : Int32) hq) (kL_low hM.2.2.2.2 ql_RL_86 (Nat.le_of_ble_eq_true rfl) (Nat.le_of_ble_eq_true rfl)) rfl hl.1 rfl (Nat.le_of_ble_eq_true rfl) dL_adds_97 ⟨Nat.zero_le _, Nat.zero_le _⟩ (fun S_21 r_22 hq H locs hX => ?_)
    refine lv_sipush (v := (200 : Int32)) hM.1 hM.2.1 dL_adds_100 (by decide) ?_
    refine lv_isub hM.1 hM.2.1 dL_adds_103 ?_
    have c_24 := hq.1
    replace hq := hq.2
    refine r_iast hM hK hX hI.2.1 (a15 0 0) c_24 dL_adds_104 (fun S_23 e_25 H locs hX => ?_)
    replace hq := hq S_23 e_25
    refine lv_aload_n hM.1 hM.2.1 dL_adds_105 rfl (lv_at hl 1 rfl) ?_
    refine lv_iload hM.1 hM.2.1 dL_adds_106 (lv_at hl 4 rfl) ?_
    refine lv_iconst (v := (3 : Int32)) hM.1 hM.2.1 dL_adds_108 (by decide) ?_
    refine lv_iadd hM.1 hM.2.1 dL_adds_109 ?_
    refine lv_iconst (v := (1 : Int32)) hM.1 hM.2.1 dL_adds_110 (by decide) ?_
    refine lv_iload_n hM.1 hM.2.1 dL_adds_111 rfl (lv_at hl 3 rfl) ?_
    refine lv_bipush (v := (12 : Int32)) hM.1 hM.2.1 dL_adds_112 (by decide) ?_
    refine lv_ishr hM.1 hM.2.1 dL_adds_114 ?_
    refine lv_iconst (v := (5 : Int32)) hM.1 hM.2.1 dL_adds_115 (by decide) ?_
    refine cSi (As := [.int (x3 >>> ((12 : Int32) &&& 31)), .int (5 : Int32)]) hM hK hX ⟨hI.1, trivial⟩ hA (met_L_low l D ad cy S_23 (x3 >>> ((12 : Int32) &&& 31)) (5 : Int32) hq) (kL_low hM.2.2.2.2 ql_RL_86 (Nat.le_of_ble_eq_true rfl) (Nat.le_of_ble_eq_true rfl)) rfl hl.1 rfl (Nat.le_of_ble_eq_true rfl) dL_adds_116 ⟨Nat.zero_le _, Nat.zero_le _⟩ (fun S_26 r_27 hq H locs hX => ?_)
    refine lv_iadd hM.1 hM.2.1 dL_adds_119 ?_
    have c_29 := hq.1
    replace hq := hq.2
    refine r_iast hM hK hX hI.2.1 (a15 0 0) c_29 dL_adds_120 (fun S_28 e_30 H locs hX => ?_)
    replace hq := hq S_28 e_30
    refine lv_aload_n hM.1 hM.2.1 dL_adds_121 rfl (lv_at hl 1 rfl) ?_
    refine lv_iload hM.1 hM.2.1 dL_adds_122 (lv_at hl 4 rfl) ?_
    refine lv_iconst (v := (4 : Int32)) hM.1 hM.2.1 dL_adds_124 (by decide) ?_
    refine lv_iadd hM.1 hM.2.1 dL_adds_125 ?_
    refine lv_aload_n hM.1 hM.2.1 dL_adds_126 rfl (lv_at hl 2 rfl) ?_
    refine lv_iconst (v := (1 : Int32)) hM.1 hM.2.1 dL_adds_127 (by decide) ?_
    have c_31 := hq.1
    replace hq := hq.2
    refine r_iald hM hK hX hI.2.2.1 (a18 0 0) c_31 dL_adds_128 ?_
    refine lv_aload_n hM.1 hM.2.1 dL_adds_129 rfl (lv_at hl 1 rfl) ?_
    refine lv_iload hM.1 hM.2.1 dL_adds_130 (lv_at hl 4 rfl) ?_
    refine lv_iconst (v := (2 : Int32)) hM.1 hM.2.1 dL_adds_132 (by decide) ?_
    refine lv_iadd hM.1 hM.2.1 dL_adds_133 ?_
    have c_32 := hq.1
    replace hq := hq.2
    refine r_iald hM hK hX hI.2.1 (a15 0 0) c_32 dL_adds_134 ?_
    refine lv_iadd hM.1 hM.2.1 dL_adds_135 ?_
    have c_34 := hq.1
    replace hq := hq.2
    refine r_iast hM hK hX hI.2.1 (a15 0 0) c_34 dL_adds_136 (fun S_33 e_35 H locs hX => ?_)
    replace hq := hq S_33 e_35
    refine lv_aload_n hM.1 hM.2.1 dL_adds_137 rfl (lv_at hl 2 rfl) ?_
    refine lv_bipush (v := (15 : Int32)) hM.1 hM.2.1 dL_adds_138 (by decide) ?_
    refine lv_dup2_11 hM.1 hM.2.1 dL_adds_140 rfl rfl ?_
    have c_36 := hq.1
    replace hq := hq.2
    refine r_iald hM hK hX hI.2.2.1 (a18 0 0) c_36 dL_adds_141 ?_
    refine lv_iconst (v := (1 : Int32)) hM.1 hM.2.1 dL_adds_142 (by decide) ?_
    refine lv_iadd hM.1 hM.2.1 dL_adds_143 ?_
    have c_38 := hq.1
    replace hq := hq.2
    refine r_iast hM hK hX hI.2.2.1 (a18 0 0) c_38 dL_adds_144 (fun S_37 e_39 H locs hX => ?_)
    replace hq := hq S_37 e_39
    refine lv_aload_n hM.1 hM.2.1 dL_adds_145 rfl (lv_at hl 0 rfl) ?_
    refine lv_aload_n hM.1 hM.2.1 dL_adds_146 rfl (lv_at hl 1 rfl) ?_
    refine lv_iload hM.1 hM.2.1 dL_adds_147 (lv_at hl 4 rfl) ?_
    have c_40 := hq.1
    replace hq := hq.2
    refine r_iald hM hK hX hI.2.1 (a15 0 0) c_40 dL_adds_149 ?_
    refine lv_aload_n hM.1 hM.2.1 dL_adds_150 rfl (lv_at hl 1 rfl) ?_
    refine lv_iload hM.1 hM.2.1 dL_adds_151 (lv_at hl 4 rfl) ?_
    refine lv_iconst (v := (1 : Int32)) hM.1 hM.2.1 dL_adds_153 (by decide) ?_
    refine lv_iadd hM.1 hM.2.1 dL_adds_154 ?_
    have c_41 := hq.1
    replace hq := hq.2
    refine r_iald hM hK hX hI.2.1 (a15 0 0) c_41 dL_adds_155 ?_
    refine lv_aload_n hM.1 hM.2.1 dL_adds_156 rfl (lv_at hl 1 rfl) ?_
    refine lv_iload hM.1 hM.2.1 dL_adds_157 (lv_at hl 4 rfl) ?_
    refine lv_iconst (v := (2 : Int32)) hM.1 hM.2.1 dL_adds_159 (by decide) ?_
    refine lv_iadd hM.1 hM.2.1 dL_adds_160 ?_
    have c_42 := hq.1
    replace hq := hq.2
    refine r_iald hM hK hX hI.2.1 (a15 0 0) c_42 dL_adds_161 ?_
    refine lv_aload_n hM.1 hM.2.1 dL_adds_162 rfl (lv_at hl 1 rfl) ?_
    refine lv_iload hM.1 hM.2.1 dL_adds_163 (lv_at hl 4 rfl) ?_
    refine lv_iconst (v := (3 : Int32)) hM.1 hM.2.1 dL_adds_165 (by decide) ?_
    refine lv_iadd hM.1 hM.2.1 dL_adds_166 ?_
    have c_43 := hq.1
    replace hq := hq.2
    refine r_iald hM hK hX hI.2.1 (a15 0 0) c_43 dL_adds_167 ?_
    refine cVi (As := [.int (S_37 15 0 0 y4_9.toNatClampNeg), .int (S_37 15 0 0 (y4_9 + (1 : Int32)).toNatClampNeg), .int (S_37 15 0 0 (y4_9 + (2 : Int32)).toNatClampNeg), .int (S_37 15 0 0 (y4_9 + (3 : Int32)).toNatClampNeg)]) hM hK hX ⟨hI.1, trivial⟩ hA (met_X6_thermometer l D ad cy S_37 (S_37 15 0 0 y4_9.toNatClampNeg) (S_37 15 0 0 (y4_9 + (1 : Int32)).toNatClampNeg) (S_37 15 0 0 (y4_9 + (2 : Int32)).toNatClampNeg) (S_37 15 0 0 (y4_9 + (3 : Int32)).toNatClampNeg) hq) (kX6_thermometer hM.2.2.2.2 ql_RL_89 (Nat.le_of_ble_eq_true rfl) (Nat.le_of_ble_eq_true rfl)) (v14 hK hX (hI.1 _ m14)) rfl hl.1 rfl (Nat.le_of_ble_eq_true rfl) dL_adds_168 ⟨Nat.zero_le _, Nat.zero_le _⟩ (fun S_44 r_45 hq H locs hX => ?_)
    refine lv_aload_n hM.1 hM.2.1 dL_adds_171 rfl (lv_at hl 2 rfl) ?_
    refine lv_bipush (v := (15 : Int32)) hM.1 hM.2.1 dL_adds_172 (by decide) ?_
    have c_46 := hq.1
    replace hq := hq.2
    refine r_iald hM hK hX hI.2.2.1 (a18 0 0) c_46 dL_adds_174 ?_
    refine lv_iconst (v := (1 : Int32)) hM.1 hM.2.1 dL_adds_175 (by decide) ?_
    refine lv_isub hM.1 hM.2.1 dL_adds_176 ?_
    refine lv_icmp_ne (tgt := 184) hM.1 hM.2.1 dL_adds_177 (by decide) (fun c_47 => ?_) (fun c_47 => ?_)
    · replace hq := hq.1 c_47
      refine lv_iconst (v := (0 : Int32)) hM.1 hM.2.1 dL_adds_184 (by decide) ?_
      exact e_z hM hX hlocks hret rfl hq dL_adds_185
    replace hq := hq.2 c_47
    refine lv_iconst (v := (1 : Int32)) hM.1 hM.2.1 dL_adds_180 (by decide) ?_
    refine lv_goto (tgt := 185) hM.1 hM.2.1 dL_adds_181 (by decide) ?_
    exact e_z hM hX hlocks hret rfl hq dL_adds_185
  replace hq := hq.2 c_2
  refine lv_aload_n hM.1 hM.2.1 dL_adds_9 rfl (lv_at hl 0 rfl) ?_
  refine lv_iconst (v := (1 : Int32)) hM.1 hM.2.1 dL_adds_10 (by decide) ?_
  refine cVi (As := [.int (1 : Int32)]) hM hK hX ⟨hI.1, trivial⟩ hA (met_X6_count l D ad cy S (1 : Int32) hq) (kX6_count hM.2.2.2.2 ql_RL_40 (Nat.le_of_ble_eq_true rfl) (Nat.le_of_ble_eq_true rfl)) (v14 hK hX (hI.1 _ m14)) rfl hl.1 rfl (Nat.le_of_ble_eq_true rfl) dL_adds_11 ⟨Nat.zero_le _, Nat.zero_le _⟩ (fun S_48 r_49 hq H locs hX => ?_)
  refine lv_bipush (v := (6 : Int32)) hM.1 hM.2.1 dL_adds_14 (by decide) ?_
  refine lv_icmp_ne (tgt := 23) hM.1 hM.2.1 dL_adds_16 (by decide) (fun c_50 => ?_) (fun c_50 => ?_)
  · replace hq := hq.1 c_50
    refine lv_iconst (v := (0 : Int32)) hM.1 hM.2.1 dL_adds_23 (by decide) ?_
    exact e_z hM hX hlocks hret rfl hq dL_adds_24
  replace hq := hq.2 c_50
  refine lv_iconst (v := (1 : Int32)) hM.1 hM.2.1 dL_adds_19 (by decide) ?_
  refine lv_goto (tgt := 24) hM.1 hM.2.1 dL_adds_20 (by decide) ?_
  exact e_z hM hX hlocks hret rfl hq dL_adds_24
def rmL_acts : Room := { frames := 7, cells := 0, slots := 0, locals := 155 }
theorem kL_acts {R : Room} {s : State} {args : Array Value} {own : String} {index : Nat} (ht : ∀ w ∈ lw_all, w.before args s = true) (hl : Cond.methodLink own index yL_acts ∈ lw_all) (hf : rmL_acts.frames + 1 ≤ R.frames) (hlo : 8 + (19 + 11) + rmL_acts.locals ≤ R.locals) : CallB R s args own index yL_acts cL_acts 19 (some Jvm.ClassFile.FieldType.boolean) (wA yL_acts cL_acts 19 (some Jvm.ClassFile.FieldType.boolean)) rmL_acts 0 0 7 ∧ (Cond.static yL_acts).before args s = true := va_cwS 7 ht (good_S hl qt_yL_acts qi_RL qc_yL_acts) rfl rfl rfl (by decide +kernel) ⟨hf, hlo⟩
set_option maxRecDepth 100000 in
set_option maxHeartbeats 4000000 in
theorem met_L_acts (l : Launch) (D : va_G) (ad : Adr) (cy : Nat → ClassId) (S : Mem) (x5 : Int32) (x6 : Int32) {Q : Mem → Int32 → Prop} (hq : vc_L_acts S x5 x6 Q) : Ci l yL_acts (wA yL_acts cL_acts 19 (some Jvm.ClassFile.FieldType.boolean)) rmL_acts D ad cy (IN [(15, 0, 0), (16, 0, 0), (17, 0, 0), (18, 0, 0)]) [.ref (ad 14 0 0), .ref (ad 15 0 0), .ref (ad 16 0 0), .ref (ad 17 0 0), .ref (ad 18 0 0), .int x5, .int x6] S Q := by
  intro o sz hI
  refine mkC (own := RL) (lv := [(0, .ref (ad 14 0 0)), (1, .ref (ad 15 0 0)), (2, .ref (ad 16 0 0)), (3, .ref (ad 17 0 0)), (4, .ref (ad 18 0 0)), (5, .int x5), (6, .int x6)]) (by decide) rfl (Nat.le_of_ble_eq_true rfl) rfl ?_
  intro p e s m below meth c ls hsz hM hlocks hret hK hA hX hl
  have J272 : ∀ (S : Mem) (y7 : Int32) (w0 : Int32), vc_L_acts_J272 Q x5 x6 S y7 w0 → ∀ (H : Heap) (locs : List Loc) (ls : Array Slot), PW D ad cy (AW ad o sz) s.heap o S H locs → lv_has ls 19 [(0, .ref (ad 14 0 0)), (1, .ref (ad 15 0 0)), (7, .int y7)] → Wi D ad cy o sz Q p l e rmL_acts s m [.ref (ad 14 0 0), .ref (ad 15 0 0), .ref (ad 16 0 0), .ref (ad 17 0 0), .ref (ad 18 0 0), .int x5, .int x6] below meth c H locs (F0 m 272 ls [.int w0]) := by
    intro S y7 w0 hq H locs ls hX hl
    unfold vc_L_acts_J272 at hq
    refine lv_istore (lv' := [(11, .int w0), (0, .ref (ad 14 0 0)), (1, .ref (ad 15 0 0)), (7, .int y7)]) hM.1 hM.2.1 dL_acts_272 hl (by decide) rfl (fun ls hl => ?_)
    refine lv_aload_n hM.1 hM.2.1 dL_acts_274 rfl (lv_at hl 2 rfl) ?_
    refine lv_bipush (v := (10 : Int32)) hM.1 hM.2.1 dL_acts_275 (by decide) ?_
    refine lv_iload hM.1 hM.2.1 dL_acts_277 (lv_at hl 3 rfl) ?_
    refine lv_imul hM.1 hM.2.1 dL_acts_279 ?_
    refine lv_iconst (v := (4 : Int32)) hM.1 hM.2.1 dL_acts_280 (by decide) ?_
    refine lv_iadd hM.1 hM.2.1 dL_acts_281 ?_
    have c_47 := hq.1
    replace hq := hq.2
    refine r_iald hM hK hX hI.2.1 (a15 0 0) c_47 dL_acts_282 ?_
    refine lv_iload hM.1 hM.2.1 dL_acts_283 (lv_at hl 0 rfl) ?_
    refine lv_iadd hM.1 hM.2.1 dL_acts_285 ?_
    refine cSi (As := [.int ((S 15 0 0 (((10 : Int32) * y7) + (4 : Int32)).toNatClampNeg) + w0)]) hM hK hX ⟨hI.1, trivial⟩ hA (met_L_size l D ad cy S ((S 15 0 0 (((10 : Int32) * y7) + (4 : Int32)).toNatClampNeg) + w0) hq) (kL_size hM.2.2.2.2 ql_RL_36 (Nat.le_of_ble_eq_true rfl) (Nat.le_of_ble_eq_true rfl)) rfl hl.1 rfl (Nat.le_of_ble_eq_true rfl) dL_acts_286 ⟨Nat.zero_le _, Nat.zero_le _⟩ (fun S_48 r_49 hq H locs hX => ?_)
    refine lv_sipush (v := (20000 : Int32)) hM.1 hM.2.1 dL_acts_289 (by decide) ?_
    refine lv_icmp_le (tgt := 320) hM.1 hM.2.1 dL_acts_292 (by decide) (fun c_50 => ?_) (fun c_50 => ?_)
    · replace hq := hq.1 c_50
      refine lv_aload_n hM.1 hM.2.1 dL_acts_320 rfl (lv_at hl 2 rfl) ?_
      refine lv_bipush (v := (10 : Int32)) hM.1 hM.2.1 dL_acts_321 (by decide) ?_
      refine lv_iload hM.1 hM.2.1 dL_acts_323 (lv_at hl 3 rfl) ?_
      refine lv_imul hM.1 hM.2.1 dL_acts_325 ?_
      refine lv_iconst (v := (4 : Int32)) hM.1 hM.2.1 dL_acts_326 (by decide) ?_
      refine lv_iadd hM.1 hM.2.1 dL_acts_327 ?_
      refine lv_dup2_11 hM.1 hM.2.1 dL_acts_328 rfl rfl ?_
      have c_51 := hq.1
      replace hq := hq.2
      refine r_iald hM hK hX hI.2.1 (a15 0 0) c_51 dL_acts_329 ?_
      refine lv_iload hM.1 hM.2.1 dL_acts_330 (lv_at hl 0 rfl) ?_
      refine lv_iadd hM.1 hM.2.1 dL_acts_332 ?_
      have c_53 := hq.1
      replace hq := hq.2
      refine r_iast hM hK hX hI.2.1 (a15 0 0) c_53 dL_acts_333 (fun S_52 e_54 H locs hX => ?_)
      replace hq := hq S_52 e_54
      refine lv_aload_n hM.1 hM.2.1 dL_acts_334 rfl (lv_at hl 1 rfl) ?_
      refine lv_iload hM.1 hM.2.1 dL_acts_335 (lv_at hl 3 rfl) ?_
      refine lv_iload hM.1 hM.2.1 dL_acts_337 (lv_at hl 0 rfl) ?_
      refine cVi (As := [.int y7, .int w0]) hM hK hX ⟨hI.1, trivial⟩ hA (met_X6_knock l D ad cy S_52 y7 w0 hq) (kX6_knock hM.2.2.2.2 ql_RL_103 (Nat.le_of_ble_eq_true rfl) (Nat.le_of_ble_eq_true rfl)) (v14 hK hX (hI.1 _ m14)) rfl hl.1 rfl (Nat.le_of_ble_eq_true rfl) dL_acts_339 ⟨Nat.zero_le _, Nat.zero_le _⟩ (fun S_55 r_56 hq H locs hX => ?_)
      refine lv_aload_n hM.1 hM.2.1 dL_acts_342 rfl (lv_at hl 2 rfl) ?_
      refine lv_bipush (v := (10 : Int32)) hM.1 hM.2.1 dL_acts_343 (by decide) ?_
      refine lv_iload hM.1 hM.2.1 dL_acts_345 (lv_at hl 3 rfl) ?_
      refine lv_imul hM.1 hM.2.1 dL_acts_347 ?_
      refine lv_iconst (v := (4 : Int32)) hM.1 hM.2.1 dL_acts_348 (by decide) ?_
      refine lv_iadd hM.1 hM.2.1 dL_acts_349 ?_
      have c_57 := hq.1
      replace hq := hq.2
      refine r_iald hM hK hX hI.2.1 (a15 0 0) c_57 dL_acts_350 ?_
      refine lv_ldc hM.1 hM.2.1 hM.2.2.2.1 (hM.2.2.2.2 _ qn_RL_106) dL_acts_351 ?_
      refine lv_iadd hM.1 hM.2.1 dL_acts_353 ?_
      refine lv_icmp_ne (tgt := 361) hM.1 hM.2.1 dL_acts_354 (by decide) (fun c_58 => ?_) (fun c_58 => ?_)
      · replace hq := hq.1 c_58
        refine lv_iconst (v := (0 : Int32)) hM.1 hM.2.1 dL_acts_361 (by decide) ?_
        exact e_z hM hX hlocks hret rfl hq dL_acts_362
      replace hq := hq.2 c_58
      refine lv_iconst (v := (1 : Int32)) hM.1 hM.2.1 dL_acts_357 (by decide) ?_
      refine lv_goto (tgt := 362) hM.1 hM.2.1 dL_acts_358 (by decide) ?_
      exact e_z hM hX hlocks hret rfl hq dL_acts_362
    replace hq := hq.2 c_50
    refine lv_aload_n hM.1 hM.2.1 dL_acts_295 rfl (lv_at hl 1 rfl) ?_
    refine lv_iload hM.1 hM.2.1 dL_acts_296 (lv_at hl 3 rfl) ?_
    refine lv_iconst (v := (4 : Int32)) hM.1 hM.2.1 dL_acts_298 (by decide) ?_
    refine cVi (As := [.int y7, .int (4 : Int32)]) hM hK hX ⟨hI.1, trivial⟩ hA (met_X6_ofThermometer l D ad cy S_48 y7 (4 : Int32) hq) (kX6_ofThermometer hM.2.2.2.2 ql_RL_45 (Nat.le_of_ble_eq_true rfl) (Nat.le_of_ble_eq_true rfl)) (v14 hK hX (hI.1 _ m14)) rfl hl.1 rfl (Nat.le_of_ble_eq_true rfl) dL_acts_299 ⟨Nat.zero_le _, Nat.zero_le _⟩ (fun S_59 r_60 hq H locs hX => ?_)
    refine lv_aload_n hM.1 hM.2.1 dL_acts_302 rfl (lv_at hl 2 rfl) ?_
    refine lv_bipush (v := (10 : Int32)) hM.1 hM.2.1 dL_acts_303 (by decide) ?_
    refine lv_iload hM.1 hM.2.1 dL_acts_305 (lv_at hl 3 rfl) ?_
    refine lv_imul hM.1 hM.2.1 dL_acts_307 ?_
    refine lv_iconst (v := (4 : Int32)) hM.1 hM.2.1 dL_acts_308 (by decide) ?_
    refine lv_iadd hM.1 hM.2.1 dL_acts_309 ?_
    have c_61 := hq.1
    replace hq := hq.2
    refine r_iald hM hK hX hI.2.1 (a15 0 0) c_61 dL_acts_310 ?_
    refine lv_icmp_ne (tgt := 318) hM.1 hM.2.1 dL_acts_311 (by decide) (fun c_62 => ?_) (fun c_62 => ?_)
    · replace hq := hq.1 c_62
      refine lv_iconst (v := (0 : Int32)) hM.1 hM.2.1 dL_acts_318 (by decide) ?_
      exact e_z hM hX hlocks hret rfl hq dL_acts_319
    replace hq := hq.2 c_62
    refine lv_iconst (v := (1 : Int32)) hM.1 hM.2.1 dL_acts_314 (by decide) ?_
    refine lv_goto (tgt := 319) hM.1 hM.2.1 dL_acts_315 (by decide) ?_
    exact e_z hM hX hlocks hret rfl hq dL_acts_319
  have J435 : ∀ (S : Mem) (y12 : Int32) (y13 : Int32) (w1 : Int32) (w2 : Int32), vc_L_acts_J435 Q x5 x6 S y12 y13 w1 w2 → ∀ (H : Heap) (locs : List Loc) (ls : Array Slot), PW D ad cy (AW ad o sz) s.heap o S H locs → lv_has ls 19 [(0, .ref (ad 14 0 0)), (4, .ref (ad 18 0 0)), (12, .int y12), (13, .int y13)] → Wi D ad cy o sz Q p l e rmL_acts s m [.ref (ad 14 0 0), .ref (ad 15 0 0), .ref (ad 16 0 0), .ref (ad 17 0 0), .ref (ad 18 0 0), .int x5, .int x6] below meth c H locs (F0 m 435 ls [.int w2, .int w1, .ref (ad 18 0 0)]) := by
    intro S y12 y13 w1 w2 hq H locs ls hX hl
    unfold vc_L_acts_J435 at hq
    have c_89 := hq.1
    replace hq := hq.2
    refine r_iast hM hK hX hI.2.2.2.2.1 (a18 0 0) c_89 dL_acts_435 (fun S_88 e_90 H locs hX => ?_)
    replace hq := hq S_88 e_90
    refine lv_aload_n hM.1 hM.2.1 dL_acts_436 rfl (lv_at hl 0 rfl) ?_
    refine lv_iload hM.1 hM.2.1 dL_acts_437 (lv_at hl 2 rfl) ?_
    refine lv_aload hM.1 hM.2.1 dL_acts_439 (lv_at hl 1 rfl) ?_
    refine lv_iconst (v := (2 : Int32)) hM.1 hM.2.1 dL_acts_441 (by decide) ?_
    refine lv_iload hM.1 hM.2.1 dL_acts_442 (lv_at hl 2 rfl) ?_
    refine lv_iadd hM.1 hM.2.1 dL_acts_444 ?_
    have c_91 := hq.1
    replace hq := hq.2
    refine r_iald hM hK hX hI.2.2.2.2.1 (a18 0 0) c_91 dL_acts_445 ?_
    refine cVi (As := [.int y12, .int (S_88 18 0 0 ((2 : Int32) + y12).toNatClampNeg)]) hM hK hX ⟨hI.1, trivial⟩ hA (met_X6_set l D ad cy S_88 y12 (S_88 18 0 0 ((2 : Int32) + y12).toNatClampNeg) hq) (kX6_set hM.2.2.2.2 ql_RL_107 (Nat.le_of_ble_eq_true rfl) (Nat.le_of_ble_eq_true rfl)) (v14 hK hX (hI.1 _ m14)) rfl hl.1 rfl (Nat.le_of_ble_eq_true rfl) dL_acts_446 ⟨Nat.zero_le _, Nat.zero_le _⟩ (fun S_92 r_93 hq H locs hX => ?_)
    refine lv_iload hM.1 hM.2.1 dL_acts_449 (lv_at hl 3 rfl) ?_
    refine lv_icmp_ne (tgt := 458) hM.1 hM.2.1 dL_acts_451 (by decide) (fun c_94 => ?_) (fun c_94 => ?_)
    · replace hq := hq.1 c_94
      refine lv_iconst (v := (0 : Int32)) hM.1 hM.2.1 dL_acts_458 (by decide) ?_
      exact e_z hM hX hlocks hret rfl hq dL_acts_459
    replace hq := hq.2 c_94
    refine lv_iconst (v := (1 : Int32)) hM.1 hM.2.1 dL_acts_454 (by decide) ?_
    refine lv_goto (tgt := 459) hM.1 hM.2.1 dL_acts_455 (by decide) ?_
    exact e_z hM hX hlocks hret rfl hq dL_acts_459
  have J418 : ∀ (S : Mem) (y12 : Int32) (y13 : Int32) (w1 : Int32) (w2 : Int32) (w3 : Int32) (w4 : Int32), vc_L_acts_J418 Q x5 x6 S y12 y13 w1 w2 w3 w4 → ∀ (H : Heap) (locs : List Loc) (ls : Array Slot), PW D ad cy (AW ad o sz) s.heap o S H locs → lv_has ls 19 [(0, .ref (ad 14 0 0)), (4, .ref (ad 18 0 0)), (12, .int y12), (13, .int y13)] → Wi D ad cy o sz Q p l e rmL_acts s m [.ref (ad 14 0 0), .ref (ad 15 0 0), .ref (ad 16 0 0), .ref (ad 17 0 0), .ref (ad 18 0 0), .int x5, .int x6] below meth c H locs (F0 m 418 ls [.int w4, .int w3, .int w2, .int w1, .ref (ad 18 0 0)]) := by
    intro S y12 y13 w1 w2 w3 w4 hq H locs ls hX hl
    unfold vc_L_acts_J418 at hq
    refine cSi (As := [.int w3, .int w4]) hM hK hX ⟨hI.1, trivial⟩ hA (met_L_low l D ad cy S w3 w4 hq) (kL_low hM.2.2.2.2 ql_RL_86 (Nat.le_of_ble_eq_true rfl) (Nat.le_of_ble_eq_true rfl)) rfl hl.1 rfl (Nat.le_of_ble_eq_true rfl) dL_acts_418 ⟨Nat.zero_le _, Nat.zero_le _⟩ (fun S_98 r_99 hq H locs hX => ?_)
    refine lv_iadd hM.1 hM.2.1 dL_acts_421 ?_
    refine lv_goto (tgt := 435) hM.1 hM.2.1 dL_acts_422 (by decide) ?_
    exact J435 S_98 y12 y13 w1 (w2 + r_99) hq _ _ _ hX (lv_sub hl [0, 1, 2, 3] rfl)
  have J540 : ∀ {K0 : Mem → Int32 → Int32 → Int32 → Prop} (hk0 : ∀ (S : Mem) (y14 : Int32) (y15 : Int32) (y16 : Int32), K0 S y14 y15 y16 → ∀ (H : Heap) (locs : List Loc) (ls : Array Slot), PW D ad cy (AW ad o sz) s.heap o S H locs → lv_has ls 19 [(0, .ref (ad 14 0 0)), (1, .ref (ad 15 0 0)), (2, .ref (ad 16 0 0)), (3, .ref (ad 17 0 0)), (4, .ref (ad 18 0 0)), (14, .int y14), (15, .int y15), (16, .int y16)] → Wi D ad cy o sz Q p l e rmL_acts s m [.ref (ad 14 0 0), .ref (ad 15 0 0), .ref (ad 16 0 0), .ref (ad 17 0 0), .ref (ad 18 0 0), .int x5, .int x6] below meth c H locs (F0 m 489 ls [])), ∀ {K1 : Mem → Int32 → Int32 → Prop} (hk1 : ∀ (S : Mem) (y14 : Int32) (y15 : Int32), K1 S y14 y15 → ∀ (H : Heap) (locs : List Loc) (ls : Array Slot), PW D ad cy (AW ad o sz) s.heap o S H locs → lv_has ls 19 [(0, .ref (ad 14 0 0)), (4, .ref (ad 18 0 0)), (14, .int y14), (15, .int y15)] → Wi D ad cy o sz Q p l e rmL_acts s m [.ref (ad 14 0 0), .ref (ad 15 0 0), .ref (ad 16 0 0), .ref (ad 17 0 0), .ref (ad 18 0 0), .int x5, .int x6] below meth c H locs (F0 m 551 ls [])), ∀ (S : Mem) (y14 : Int32) (y15 : Int32) (y16 : Int32) (w4 : Int32), vc_L_acts_J540 Q K0 K1 x5 x6 S y14 y15 y16 w4 → ∀ (H : Heap) (locs : List Loc) (ls : Array Slot), PW D ad cy (AW ad o sz) s.heap o S H locs → lv_has ls 19 [(0, .ref (ad 14 0 0)), (1, .ref (ad 15 0 0)), (2, .ref (ad 16 0 0)), (3, .ref (ad 17 0 0)), (4, .ref (ad 18 0 0)), (14, .int y14), (15, .int y15), (16, .int y16)] → Wi D ad cy o sz Q p l e rmL_acts s m [.ref (ad 14 0 0), .ref (ad 15 0 0), .ref (ad 16 0 0), .ref (ad 17 0 0), .ref (ad 18 0 0), .int x5, .int x6] below meth c H locs (F0 m 540 ls [.int w4, .ref (ad 18 0 0), .ref (ad 17 0 0), .ref (ad 16 0 0), .ref (ad 15 0 0)]) := by
    intro K0 hk0 K1 hk1 S y14 y15 y16 w4 hq H locs ls hX hl
    unfold vc_L_acts_J540 at hq
    refine cSi (As := [.ref (ad 15 0 0), .ref (ad 16 0 0), .ref (ad 17 0 0), .ref (ad 18 0 0), .int w4]) hM hK hX ⟨hI.1, hI.2.1, hI.2.2.1, hI.2.2.2.1, hI.2.2.2.2.1, trivial⟩ hA (met_L_hour l D ad cy S 0 w4 hq) (kL_hour hM.2.2.2.2 ql_RL_71 (Nat.le_of_ble_eq_true rfl) (Nat.le_of_ble_eq_true rfl)) rfl hl.1 rfl (Nat.le_of_ble_eq_true rfl) dL_acts_540 ⟨Nat.zero_le _, Nat.zero_le _⟩ (fun S_109 r_110 hq H locs hX => ?_)
    refine lv_istore (lv' := [(18, .int r_110), (0, .ref (ad 14 0 0)), (1, .ref (ad 15 0 0)), (2, .ref (ad 16 0 0)), (3, .ref (ad 17 0 0)), (4, .ref (ad 18 0 0)), (14, .int y14), (15, .int y15), (16, .int y16)]) hM.1 hM.2.1 dL_acts_543 hl (by decide) rfl (fun ls hl => ?_)
    refine lv_iinc (v := (y16 + (1 : Int32))) (lv' := [(16, .int (y16 + (1 : Int32))), (18, .int r_110), (0, .ref (ad 14 0 0)), (1, .ref (ad 15 0 0)), (2, .ref (ad 16 0 0)), (3, .ref (ad 17 0 0)), (4, .ref (ad 18 0 0)), (14, .int y14), (15, .int y15)]) hM.1 hM.2.1 dL_acts_545 hl (k := 8) rfl rfl (by decide) rfl (fun ls hl => ?_)
    refine lv_goto (tgt := 489) hM.1 hM.2.1 dL_acts_548 (by decide) ?_
    exact hk0 S_109 y14 y15 (y16 + (1 : Int32)) hq _ _ _ hX (lv_sub hl [2, 3, 4, 5, 6, 7, 8, 0] rfl)
  have L489 : ∀ {K : Mem → Int32 → Int32 → Prop} (hk : ∀ (S : Mem) (y14 : Int32) (y15 : Int32), K S y14 y15 → ∀ (H : Heap) (locs : List Loc) (ls : Array Slot), PW D ad cy (AW ad o sz) s.heap o S H locs → lv_has ls 19 [(0, .ref (ad 14 0 0)), (4, .ref (ad 18 0 0)), (14, .int y14), (15, .int y15)] → Wi D ad cy o sz Q p l e rmL_acts s m [.ref (ad 14 0 0), .ref (ad 15 0 0), .ref (ad 16 0 0), .ref (ad 17 0 0), .ref (ad 18 0 0), .int x5, .int x6] below meth c H locs (F0 m 551 ls [])), ∀ (n : Nat) (S : Mem) (y14 : Int32) (y15 : Int32) (y16 : Int32), vc_L_acts_L489 Q K x5 x6 n S y14 y15 y16 → ∀ (H : Heap) (locs : List Loc) (ls : Array Slot), PW D ad cy (AW ad o sz) s.heap o S H locs → lv_has ls 19 [(0, .ref (ad 14 0 0)), (1, .ref (ad 15 0 0)), (2, .ref (ad 16 0 0)), (3, .ref (ad 17 0 0)), (4, .ref (ad 18 0 0)), (14, .int y14), (15, .int y15), (16, .int y16)] → Wi D ad cy o sz Q p l e rmL_acts s m [.ref (ad 14 0 0), .ref (ad 15 0 0), .ref (ad 16 0 0), .ref (ad 17 0 0), .ref (ad 18 0 0), .int x5, .int x6] below meth c H locs (F0 m 489 ls []) := by
    intro K hk n
    induction n with
    | zero =>
      intro S y14 y15 y16 hq
      rw [vc_L_acts_L489] at hq
      exact hq.elim
    | succ n ih =>
      intro S y14 y15 y16 hq H locs ls hX hl
      rw [vc_L_acts_L489] at hq
      refine lv_iload hM.1 hM.2.1 dL_acts_489 (lv_at hl 7 rfl) ?_
      refine lv_iload hM.1 hM.2.1 dL_acts_491 (lv_at hl 5 rfl) ?_
      refine lv_icmp_ge (tgt := 551) hM.1 hM.2.1 dL_acts_493 (by decide) (fun c_105 => ?_) (fun c_105 => ?_)
      · replace hq := hq.1 c_105
        exact hk S y14 y15 hq _ _ _ hX (lv_sub hl [0, 4, 5, 6] rfl)
      replace hq := hq.2 c_105
      refine lv_aload hM.1 hM.2.1 dL_acts_496 (lv_at hl 4 rfl) ?_
      refine lv_iconst (v := (1 : Int32)) hM.1 hM.2.1 dL_acts_498 (by decide) ?_
      have c_106 := hq.1
      replace hq := hq.2
      refine r_iald hM hK hX hI.2.2.2.2.1 (a18 0 0) c_106 dL_acts_499 ?_
      refine lv_iload hM.1 hM.2.1 dL_acts_500 (lv_at hl 6 rfl) ?_
      refine lv_iadd hM.1 hM.2.1 dL_acts_502 ?_
      refine lv_istore (lv' := [(17, .int ((S 18 0 0 (1 : Int32).toNatClampNeg) + y15)), (0, .ref (ad 14 0 0)), (1, .ref (ad 15 0 0)), (2, .ref (ad 16 0 0)), (3, .ref (ad 17 0 0)), (4, .ref (ad 18 0 0)), (14, .int y14), (15, .int y15), (16, .int y16)]) hM.1 hM.2.1 dL_acts_503 hl (by decide) rfl (fun ls hl => ?_)
      refine lv_aload_n hM.1 hM.2.1 dL_acts_505 rfl (lv_at hl 2 rfl) ?_
      refine lv_aload_n hM.1 hM.2.1 dL_acts_506 rfl (lv_at hl 3 rfl) ?_
      refine lv_aload_n hM.1 hM.2.1 dL_acts_507 rfl (lv_at hl 4 rfl) ?_
      refine lv_aload hM.1 hM.2.1 dL_acts_508 (lv_at hl 5 rfl) ?_
      refine lv_iload hM.1 hM.2.1 dL_acts_510 (lv_at hl 0 rfl) ?_
      refine lv_sipush (v := (5000 : Int32)) hM.1 hM.2.1 dL_acts_512 (by decide) ?_
      refine lv_icmp_le (tgt := 524) hM.1 hM.2.1 dL_acts_515 (by decide) (fun c_107 => ?_) (fun c_107 => ?_)
      · replace hq := hq.1 c_107
        refine lv_iload hM.1 hM.2.1 dL_acts_524 (lv_at hl 0 rfl) ?_
        refine lv_sipush (v := (-5000 : Int32)) hM.1 hM.2.1 dL_acts_526 (by decide) ?_
        refine lv_icmp_ge (tgt := 538) hM.1 hM.2.1 dL_acts_529 (by decide) (fun c_108 => ?_) (fun c_108 => ?_)
        · replace hq := hq.1 c_108
          refine lv_iload hM.1 hM.2.1 dL_acts_538 (lv_at hl 0 rfl) ?_
          exact J540 ih hk S y14 y15 y16 ((S 18 0 0 (1 : Int32).toNatClampNeg) + y15) hq _ _ _ hX (lv_sub hl [1, 2, 3, 4, 5, 6, 7, 8] rfl)
        replace hq := hq.2 c_108
        refine lv_sipush (v := (-5000 : Int32)) hM.1 hM.2.1 dL_acts_532 (by decide) ?_
        refine lv_goto (tgt := 540) hM.1 hM.2.1 dL_acts_535 (by decide) ?_
        exact J540 ih hk S y14 y15 y16 (-5000 : Int32) hq _ _ _ hX (lv_sub hl [1, 2, 3, 4, 5, 6, 7, 8] rfl)
      replace hq := hq.2 c_107
      refine lv_sipush (v := (5000 : Int32)) hM.1 hM.2.1 dL_acts_518 (by decide) ?_
      refine lv_goto (tgt := 540) hM.1 hM.2.1 dL_acts_521 (by decide) ?_
      exact J540 ih hk S y14 y15 y16 (5000 : Int32) hq _ _ _ hX (lv_sub hl [1, 2, 3, 4, 5, 6, 7, 8] rfl)
  have J648 : ∀ (S : Mem) (w0 : Int32), vc_L_acts_J648 Q x5 x6 S w0 → ∀ (H : Heap) (locs : List Loc) (ls : Array Slot), PW D ad cy (AW ad o sz) s.heap o S H locs → lv_has ls 19 [(0, .ref (ad 14 0 0)), (1, .ref (ad 15 0 0)), (2, .ref (ad 16 0 0)), (3, .ref (ad 17 0 0)), (4, .ref (ad 18 0 0))] → Wi D ad cy o sz Q p l e rmL_acts s m [.ref (ad 14 0 0), .ref (ad 15 0 0), .ref (ad 16 0 0), .ref (ad 17 0 0), .ref (ad 18 0 0), .int x5, .int x6] below meth c H locs (F0 m 648 ls [.int w0]) := by
    intro S w0 hq H locs ls hX hl
    unfold vc_L_acts_J648 at hq
    refine lv_istore (lv' := [(16, .int w0), (0, .ref (ad 14 0 0)), (1, .ref (ad 15 0 0)), (2, .ref (ad 16 0 0)), (3, .ref (ad 17 0 0)), (4, .ref (ad 18 0 0))]) hM.1 hM.2.1 dL_acts_648 hl (by decide) rfl (fun ls hl => ?_)
    refine lv_aload_n hM.1 hM.2.1 dL_acts_650 rfl (lv_at hl 1 rfl) ?_
    refine lv_iload hM.1 hM.2.1 dL_acts_651 (lv_at hl 0 rfl) ?_
    refine cVi (As := [.int w0]) hM hK hX ⟨hI.1, trivial⟩ hA (met_X6_hour l D ad cy S w0 hq) (kX6_hour hM.2.2.2.2 ql_RL_113 (Nat.le_of_ble_eq_true rfl) (Nat.le_of_ble_eq_true rfl)) (v14 hK hX (hI.1 _ m14)) rfl hl.1 rfl (Nat.le_of_ble_eq_true rfl) dL_acts_653 ⟨Nat.zero_le _, Nat.zero_le _⟩ (fun S_138 r_139 hq H locs hX => ?_)
    refine lv_istore (lv' := [(17, .int r_139), (16, .int w0), (0, .ref (ad 14 0 0)), (1, .ref (ad 15 0 0)), (2, .ref (ad 16 0 0)), (3, .ref (ad 17 0 0)), (4, .ref (ad 18 0 0))]) hM.1 hM.2.1 dL_acts_656 hl (by decide) rfl (fun ls hl => ?_)
    refine lv_iload hM.1 hM.2.1 dL_acts_658 (lv_at hl 0 rfl) ?_
    refine lv_aload_n hM.1 hM.2.1 dL_acts_660 rfl (lv_at hl 3 rfl) ?_
    refine lv_aload_n hM.1 hM.2.1 dL_acts_661 rfl (lv_at hl 4 rfl) ?_
    refine lv_aload_n hM.1 hM.2.1 dL_acts_662 rfl (lv_at hl 5 rfl) ?_
    refine lv_aload hM.1 hM.2.1 dL_acts_663 (lv_at hl 6 rfl) ?_
    refine lv_iload hM.1 hM.2.1 dL_acts_665 (lv_at hl 1 rfl) ?_
    refine cSi (As := [.ref (ad 15 0 0), .ref (ad 16 0 0), .ref (ad 17 0 0), .ref (ad 18 0 0), .int w0]) hM hK hX ⟨hI.1, hI.2.1, hI.2.2.1, hI.2.2.2.1, hI.2.2.2.2.1, trivial⟩ hA (met_L_hour l D ad cy S_138 0 w0 hq) (kL_hour hM.2.2.2.2 ql_RL_71 (Nat.le_of_ble_eq_true rfl) (Nat.le_of_ble_eq_true rfl)) rfl hl.1 rfl (Nat.le_of_ble_eq_true rfl) dL_acts_667 ⟨Nat.zero_le _, Nat.zero_le _⟩ (fun S_140 r_141 hq H locs hX => ?_)
    refine lv_icmp_ne (tgt := 677) hM.1 hM.2.1 dL_acts_670 (by decide) (fun c_142 => ?_) (fun c_142 => ?_)
    · replace hq := hq.1 c_142
      refine lv_iconst (v := (0 : Int32)) hM.1 hM.2.1 dL_acts_677 (by decide) ?_
      exact e_z hM hX hlocks hret rfl hq dL_acts_678
    replace hq := hq.2 c_142
    refine lv_iconst (v := (1 : Int32)) hM.1 hM.2.1 dL_acts_673 (by decide) ?_
    refine lv_goto (tgt := 678) hM.1 hM.2.1 dL_acts_674 (by decide) ?_
    exact e_z hM hX hlocks hret rfl hq dL_acts_678
  have J616 : ∀ (S : Mem) (w0 : Int32), vc_L_acts_J616 Q x5 x6 S w0 → ∀ (H : Heap) (locs : List Loc) (ls : Array Slot), PW D ad cy (AW ad o sz) s.heap o S H locs → lv_has ls 19 [(0, .ref (ad 14 0 0)), (1, .ref (ad 15 0 0)), (2, .ref (ad 16 0 0)), (3, .ref (ad 17 0 0)), (4, .ref (ad 18 0 0))] → Wi D ad cy o sz Q p l e rmL_acts s m [.ref (ad 14 0 0), .ref (ad 15 0 0), .ref (ad 16 0 0), .ref (ad 17 0 0), .ref (ad 18 0 0), .int x5, .int x6] below meth c H locs (F0 m 616 ls [.int w0]) := by
    intro S w0 hq H locs ls hX hl
    unfold vc_L_acts_J616 at hq
    refine lv_istore (lv' := [(16, .int w0), (0, .ref (ad 14 0 0)), (1, .ref (ad 15 0 0)), (2, .ref (ad 16 0 0)), (3, .ref (ad 17 0 0)), (4, .ref (ad 18 0 0))]) hM.1 hM.2.1 dL_acts_616 hl (by decide) rfl (fun ls hl => ?_)
    refine lv_iload hM.1 hM.2.1 dL_acts_618 (lv_at hl 0 rfl) ?_
    refine lv_sipush (v := (5000 : Int32)) hM.1 hM.2.1 dL_acts_620 (by decide) ?_
    refine lv_icmp_le (tgt := 632) hM.1 hM.2.1 dL_acts_623 (by decide) (fun c_136 => ?_) (fun c_136 => ?_)
    · replace hq := hq.1 c_136
      refine lv_iload hM.1 hM.2.1 dL_acts_632 (lv_at hl 0 rfl) ?_
      refine lv_sipush (v := (-5000 : Int32)) hM.1 hM.2.1 dL_acts_634 (by decide) ?_
      refine lv_icmp_ge (tgt := 646) hM.1 hM.2.1 dL_acts_637 (by decide) (fun c_137 => ?_) (fun c_137 => ?_)
      · replace hq := hq.1 c_137
        refine lv_iload hM.1 hM.2.1 dL_acts_646 (lv_at hl 0 rfl) ?_
        exact J648 S w0 hq _ _ _ hX (lv_sub hl [1, 2, 3, 4, 5] rfl)
      replace hq := hq.2 c_137
      refine lv_sipush (v := (-5000 : Int32)) hM.1 hM.2.1 dL_acts_640 (by decide) ?_
      refine lv_goto (tgt := 648) hM.1 hM.2.1 dL_acts_643 (by decide) ?_
      exact J648 S (-5000 : Int32) hq _ _ _ hX (lv_sub hl [1, 2, 3, 4, 5] rfl)
    replace hq := hq.2 c_136
    refine lv_sipush (v := (5000 : Int32)) hM.1 hM.2.1 dL_acts_626 (by decide) ?_
    refine lv_goto (tgt := 648) hM.1 hM.2.1 dL_acts_629 (by decide) ?_
    exact J648 S (5000 : Int32) hq _ _ _ hX (lv_sub hl [1, 2, 3, 4, 5] rfl)
  have J22 : ∀ (S : Mem) (w0 : Int32), vc_L_acts_J22 Q x5 x6 S w0 → ∀ (H : Heap) (locs : List Loc) (ls : Array Slot), PW D ad cy (AW ad o sz) s.heap o S H locs → lv_has ls 19 [(0, .ref (ad 14 0 0)), (1, .ref (ad 15 0 0)), (2, .ref (ad 16 0 0)), (3, .ref (ad 17 0 0)), (4, .ref (ad 18 0 0)), (5, .int x5), (6, .int x6)] → Wi D ad cy o sz Q p l e rmL_acts s m [.ref (ad 14 0 0), .ref (ad 15 0 0), .ref (ad 16 0 0), .ref (ad 17 0 0), .ref (ad 18 0 0), .int x5, .int x6] below meth c H locs (F0 m 22 ls [.int w0]) := by
    intro S w0 hq H locs ls hX hl
    unfold vc_L_acts_J22 at hq
    refine lv_istore (lv' := [(7, .int w0), (0, .ref (ad 14 0 0)), (1, .ref (ad 15 0 0)), (2, .ref (ad 16 0 0)), (3, .ref (ad 17 0 0)), (4, .ref (ad 18 0 0)), (5, .int x5), (6, .int x6)]) hM.1 hM.2.1 dL_acts_22 hl (by decide) rfl (fun ls hl => ?_)
    refine lv_iload hM.1 hM.2.1 dL_acts_24 (lv_at hl 6 rfl) ?_
    refine r_case (x := x5) (v := (0 : Int32)) (fun c_6 => ?_) (fun c_6 => ?_)
    · replace hq := hq.1 c_6
      refine r_tsw (v := (0 : Int32)) (tgt := 76) hM c_6 dL_acts_26 (by decide) (by decide) (by rfl) (by decide) ?_
      refine lv_aload_n hM.1 hM.2.1 dL_acts_76 rfl (lv_at hl 1 rfl) ?_
      refine lv_aload_n hM.1 hM.2.1 dL_acts_77 rfl (lv_at hl 2 rfl) ?_
      refine lv_aload hM.1 hM.2.1 dL_acts_78 (lv_at hl 5 rfl) ?_
      refine lv_iload hM.1 hM.2.1 dL_acts_80 (lv_at hl 7 rfl) ?_
      refine cSi (As := [.ref (ad 14 0 0), .ref (ad 15 0 0), .ref (ad 18 0 0), .int x6]) hM hK hX ⟨hI.1, hI.2.1, hI.2.2.2.2.1, trivial⟩ hA (met_L_adds l D ad cy S x6 hq) (kL_adds hM.2.2.2.2 ql_RL_93 (Nat.le_of_ble_eq_true rfl) (Nat.le_of_ble_eq_true rfl)) rfl hl.1 rfl (Nat.le_of_ble_eq_true rfl) dL_acts_82 ⟨Nat.zero_le _, Nat.zero_le _⟩ (fun S_7 r_8 hq H locs hX => ?_)
      exact e_z hM hX hlocks hret (nar_z hq.1).1 hq.2 dL_acts_85
    replace hq := hq.2 c_6
    refine r_case (x := x5) (v := (1 : Int32)) (fun c_9 => ?_) (fun c_9 => ?_)
    · replace hq := hq.1 c_9
      refine r_tsw (v := (1 : Int32)) (tgt := 86) hM c_9 dL_acts_26 (by decide) (by decide) (by rfl) (by decide) ?_
      refine lv_iload hM.1 hM.2.1 dL_acts_86 (lv_at hl 7 rfl) ?_
      refine lv_iconst (v := (4 : Int32)) hM.1 hM.2.1 dL_acts_88 (by decide) ?_
      refine cSi (As := [.int x6, .int (4 : Int32)]) hM hK hX ⟨hI.1, trivial⟩ hA (met_L_low l D ad cy S x6 (4 : Int32) hq) (kL_low hM.2.2.2.2 ql_RL_86 (Nat.le_of_ble_eq_true rfl) (Nat.le_of_ble_eq_true rfl)) rfl hl.1 rfl (Nat.le_of_ble_eq_true rfl) dL_acts_89 ⟨Nat.zero_le _, Nat.zero_le _⟩ (fun S_10 r_11 hq H locs hX => ?_)
      refine lv_istore (lv' := [(8, .int r_11), (7, .int w0), (0, .ref (ad 14 0 0)), (1, .ref (ad 15 0 0)), (2, .ref (ad 16 0 0)), (3, .ref (ad 17 0 0)), (4, .ref (ad 18 0 0)), (5, .int x5), (6, .int x6)]) hM.1 hM.2.1 dL_acts_92 hl (by decide) rfl (fun ls hl => ?_)
      refine lv_aload hM.1 hM.2.1 dL_acts_94 (lv_at hl 6 rfl) ?_
      refine lv_iconst (v := (4 : Int32)) hM.1 hM.2.1 dL_acts_96 (by decide) ?_
      refine lv_iload hM.1 hM.2.1 dL_acts_97 (lv_at hl 0 rfl) ?_
      refine lv_iadd hM.1 hM.2.1 dL_acts_99 ?_
      have c_12 := hq.1
      replace hq := hq.2
      refine r_iald hM hK hX hI.2.2.2.2.1 (a18 0 0) c_12 dL_acts_100 ?_
      refine lv_istore (lv' := [(9, .int (S_10 18 0 0 ((4 : Int32) + r_11).toNatClampNeg)), (8, .int r_11), (7, .int w0), (0, .ref (ad 14 0 0)), (1, .ref (ad 15 0 0)), (2, .ref (ad 16 0 0)), (3, .ref (ad 17 0 0)), (4, .ref (ad 18 0 0)), (5, .int x5), (6, .int x6)]) hM.1 hM.2.1 dL_acts_101 hl (by decide) rfl (fun ls hl => ?_)
      refine lv_aload hM.1 hM.2.1 dL_acts_103 (lv_at hl 7 rfl) ?_
      refine lv_iconst (v := (4 : Int32)) hM.1 hM.2.1 dL_acts_105 (by decide) ?_
      refine lv_iload hM.1 hM.2.1 dL_acts_106 (lv_at hl 1 rfl) ?_
      refine lv_iadd hM.1 hM.2.1 dL_acts_108 ?_
      refine lv_iconst (v := (1 : Int32)) hM.1 hM.2.1 dL_acts_109 (by decide) ?_
      refine lv_iload hM.1 hM.2.1 dL_acts_110 (lv_at hl 9 rfl) ?_
      refine lv_iconst (v := (2 : Int32)) hM.1 hM.2.1 dL_acts_112 (by decide) ?_
      refine lv_ishr hM.1 hM.2.1 dL_acts_113 ?_
      refine lv_bipush (v := (6 : Int32)) hM.1 hM.2.1 dL_acts_114 (by decide) ?_
      refine cSi (As := [.int (x6 >>> ((2 : Int32) &&& 31)), .int (6 : Int32)]) hM hK hX ⟨hI.1, trivial⟩ hA (met_L_low l D ad cy S_10 (x6 >>> ((2 : Int32) &&& 31)) (6 : Int32) hq) (kL_low hM.2.2.2.2 ql_RL_86 (Nat.le_of_ble_eq_true rfl) (Nat.le_of_ble_eq_true rfl)) rfl hl.1 rfl (Nat.le_of_ble_eq_true rfl) dL_acts_116 ⟨Nat.zero_le _, Nat.zero_le _⟩ (fun S_13 r_14 hq H locs hX => ?_)
      refine lv_iadd hM.1 hM.2.1 dL_acts_119 ?_
      have c_16 := hq.1
      replace hq := hq.2
      refine r_iast hM hK hX hI.2.2.2.2.1 (a18 0 0) c_16 dL_acts_120 (fun S_15 e_17 H locs hX => ?_)
      replace hq := hq S_15 e_17
      refine lv_aload_n hM.1 hM.2.1 dL_acts_121 rfl (lv_at hl 3 rfl) ?_
      refine lv_iload hM.1 hM.2.1 dL_acts_122 (lv_at hl 1 rfl) ?_
      refine lv_aload hM.1 hM.2.1 dL_acts_124 (lv_at hl 7 rfl) ?_
      refine lv_iconst (v := (4 : Int32)) hM.1 hM.2.1 dL_acts_126 (by decide) ?_
      refine lv_iload hM.1 hM.2.1 dL_acts_127 (lv_at hl 1 rfl) ?_
      refine lv_iadd hM.1 hM.2.1 dL_acts_129 ?_
      have c_18 := hq.1
      replace hq := hq.2
      refine r_iald hM hK hX hI.2.2.2.2.1 (a18 0 0) c_18 dL_acts_130 ?_
      refine cVi (As := [.int r_11, .int (S_15 18 0 0 ((4 : Int32) + r_11).toNatClampNeg)]) hM hK hX ⟨hI.1, trivial⟩ hA (met_X6_period l D ad cy S_15 r_11 (S_15 18 0 0 ((4 : Int32) + r_11).toNatClampNeg) hq) (kX6_period hM.2.2.2.2 ql_RL_97 (Nat.le_of_ble_eq_true rfl) (Nat.le_of_ble_eq_true rfl)) (v14 hK hX (hI.1 _ m14)) rfl hl.1 rfl (Nat.le_of_ble_eq_true rfl) dL_acts_131 ⟨Nat.zero_le _, Nat.zero_le _⟩ (fun S_19 r_20 hq H locs hX => ?_)
      refine lv_iload hM.1 hM.2.1 dL_acts_134 (lv_at hl 0 rfl) ?_
      refine lv_icmp_ne (tgt := 143) hM.1 hM.2.1 dL_acts_136 (by decide) (fun c_21 => ?_) (fun c_21 => ?_)
      · replace hq := hq.1 c_21
        refine lv_iconst (v := (0 : Int32)) hM.1 hM.2.1 dL_acts_143 (by decide) ?_
        exact e_z hM hX hlocks hret rfl hq dL_acts_144
      replace hq := hq.2 c_21
      refine lv_iconst (v := (1 : Int32)) hM.1 hM.2.1 dL_acts_139 (by decide) ?_
      refine lv_goto (tgt := 144) hM.1 hM.2.1 dL_acts_140 (by decide) ?_
      exact e_z hM hX hlocks hret rfl hq dL_acts_144
    replace hq := hq.2 c_9
    refine r_case (x := x5) (v := (2 : Int32)) (fun c_22 => ?_) (fun c_22 => ?_)
    · replace hq := hq.1 c_22
      refine r_tsw (v := (2 : Int32)) (tgt := 145) hM c_22 dL_acts_26 (by decide) (by decide) (by rfl) (by decide) ?_
      refine lv_aload_n hM.1 hM.2.1 dL_acts_145 rfl (lv_at hl 2 rfl) ?_
      refine lv_bipush (v := (10 : Int32)) hM.1 hM.2.1 dL_acts_146 (by decide) ?_
      refine lv_iload hM.1 hM.2.1 dL_acts_148 (lv_at hl 0 rfl) ?_
      refine lv_imul hM.1 hM.2.1 dL_acts_150 ?_
      refine lv_iconst (v := (5 : Int32)) hM.1 hM.2.1 dL_acts_151 (by decide) ?_
      refine lv_iadd hM.1 hM.2.1 dL_acts_152 ?_
      have c_23 := hq.1
      replace hq := hq.2
      refine r_iald hM hK hX hI.2.1 (a15 0 0) c_23 dL_acts_153 ?_
      refine lv_istore (lv' := [(10, .int (S 15 0 0 (((10 : Int32) * w0) + (5 : Int32)).toNatClampNeg)), (7, .int w0), (0, .ref (ad 14 0 0)), (1, .ref (ad 15 0 0)), (2, .ref (ad 16 0 0)), (3, .ref (ad 17 0 0)), (4, .ref (ad 18 0 0)), (5, .int x5), (6, .int x6)]) hM.1 hM.2.1 dL_acts_154 hl (by decide) rfl (fun ls hl => ?_)
      refine lv_aload_n hM.1 hM.2.1 dL_acts_156 rfl (lv_at hl 3 rfl) ?_
      refine lv_bipush (v := (10 : Int32)) hM.1 hM.2.1 dL_acts_157 (by decide) ?_
      refine lv_iload hM.1 hM.2.1 dL_acts_159 (lv_at hl 1 rfl) ?_
      refine lv_imul hM.1 hM.2.1 dL_acts_161 ?_
      refine lv_iconst (v := (4 : Int32)) hM.1 hM.2.1 dL_acts_162 (by decide) ?_
      refine lv_iadd hM.1 hM.2.1 dL_acts_163 ?_
      refine lv_aload hM.1 hM.2.1 dL_acts_164 (lv_at hl 6 rfl) ?_
      refine lv_iconst (v := (1 : Int32)) hM.1 hM.2.1 dL_acts_166 (by decide) ?_
      have c_24 := hq.1
      replace hq := hq.2
      refine r_iald hM hK hX hI.2.2.2.2.1 (a18 0 0) c_24 dL_acts_167 ?_
      refine lv_aload_n hM.1 hM.2.1 dL_acts_168 rfl (lv_at hl 3 rfl) ?_
      refine lv_bipush (v := (10 : Int32)) hM.1 hM.2.1 dL_acts_169 (by decide) ?_
      refine lv_iload hM.1 hM.2.1 dL_acts_171 (lv_at hl 1 rfl) ?_
      refine lv_imul hM.1 hM.2.1 dL_acts_173 ?_
      refine lv_iconst (v := (2 : Int32)) hM.1 hM.2.1 dL_acts_174 (by decide) ?_
      refine lv_iadd hM.1 hM.2.1 dL_acts_175 ?_
      have c_25 := hq.1
      replace hq := hq.2
      refine r_iald hM hK hX hI.2.1 (a15 0 0) c_25 dL_acts_176 ?_
      refine lv_iadd hM.1 hM.2.1 dL_acts_177 ?_
      have c_27 := hq.1
      replace hq := hq.2
      refine r_iast hM hK hX hI.2.1 (a15 0 0) c_27 dL_acts_178 (fun S_26 e_28 H locs hX => ?_)
      replace hq := hq S_26 e_28
      refine lv_aload_n hM.1 hM.2.1 dL_acts_179 rfl (lv_at hl 3 rfl) ?_
      refine lv_bipush (v := (10 : Int32)) hM.1 hM.2.1 dL_acts_180 (by decide) ?_
      refine lv_iload hM.1 hM.2.1 dL_acts_182 (lv_at hl 1 rfl) ?_
      refine lv_imul hM.1 hM.2.1 dL_acts_184 ?_
      refine lv_iconst (v := (5 : Int32)) hM.1 hM.2.1 dL_acts_185 (by decide) ?_
      refine lv_iadd hM.1 hM.2.1 dL_acts_186 ?_
      refine lv_iconst (v := (0 : Int32)) hM.1 hM.2.1 dL_acts_187 (by decide) ?_
      have c_30 := hq.1
      replace hq := hq.2
      refine r_iast hM hK hX hI.2.1 (a15 0 0) c_30 dL_acts_188 (fun S_29 e_31 H locs hX => ?_)
      replace hq := hq S_29 e_31
      refine lv_aload_n hM.1 hM.2.1 dL_acts_189 rfl (lv_at hl 3 rfl) ?_
      refine lv_bipush (v := (10 : Int32)) hM.1 hM.2.1 dL_acts_190 (by decide) ?_
      refine lv_iload hM.1 hM.2.1 dL_acts_192 (lv_at hl 1 rfl) ?_
      refine lv_imul hM.1 hM.2.1 dL_acts_194 ?_
      refine lv_bipush (v := (6 : Int32)) hM.1 hM.2.1 dL_acts_195 (by decide) ?_
      refine lv_iadd hM.1 hM.2.1 dL_acts_197 ?_
      refine lv_iconst (v := (0 : Int32)) hM.1 hM.2.1 dL_acts_198 (by decide) ?_
      have c_33 := hq.1
      replace hq := hq.2
      refine r_iast hM hK hX hI.2.1 (a15 0 0) c_33 dL_acts_199 (fun S_32 e_34 H locs hX => ?_)
      replace hq := hq S_32 e_34
      refine lv_aload_n hM.1 hM.2.1 dL_acts_200 rfl (lv_at hl 3 rfl) ?_
      refine lv_bipush (v := (10 : Int32)) hM.1 hM.2.1 dL_acts_201 (by decide) ?_
      refine lv_iload hM.1 hM.2.1 dL_acts_203 (lv_at hl 1 rfl) ?_
      refine lv_imul hM.1 hM.2.1 dL_acts_205 ?_
      refine lv_bipush (v := (7 : Int32)) hM.1 hM.2.1 dL_acts_206 (by decide) ?_
      refine lv_iadd hM.1 hM.2.1 dL_acts_208 ?_
      refine lv_iconst (v := (0 : Int32)) hM.1 hM.2.1 dL_acts_209 (by decide) ?_
      have c_36 := hq.1
      replace hq := hq.2
      refine r_iast hM hK hX hI.2.1 (a15 0 0) c_36 dL_acts_210 (fun S_35 e_37 H locs hX => ?_)
      replace hq := hq S_35 e_37
      refine lv_aload_n hM.1 hM.2.1 dL_acts_211 rfl (lv_at hl 2 rfl) ?_
      refine lv_iload hM.1 hM.2.1 dL_acts_212 (lv_at hl 1 rfl) ?_
      refine cVi (As := [.int w0]) hM hK hX ⟨hI.1, trivial⟩ hA (met_X6_calibrate l D ad cy S_35 w0 hq) (kX6_calibrate hM.2.2.2.2 ql_RL_100 (Nat.le_of_ble_eq_true rfl) (Nat.le_of_ble_eq_true rfl)) (v14 hK hX (hI.1 _ m14)) rfl hl.1 rfl (Nat.le_of_ble_eq_true rfl) dL_acts_214 ⟨Nat.zero_le _, Nat.zero_le _⟩ (fun S_38 r_39 hq H locs hX => ?_)
      refine lv_iload hM.1 hM.2.1 dL_acts_217 (lv_at hl 0 rfl) ?_
      refine lv_icmp_ne (tgt := 226) hM.1 hM.2.1 dL_acts_219 (by decide) (fun c_40 => ?_) (fun c_40 => ?_)
      · replace hq := hq.1 c_40
        refine lv_iconst (v := (0 : Int32)) hM.1 hM.2.1 dL_acts_226 (by decide) ?_
        exact e_z hM hX hlocks hret rfl hq dL_acts_227
      replace hq := hq.2 c_40
      refine lv_iconst (v := (1 : Int32)) hM.1 hM.2.1 dL_acts_222 (by decide) ?_
      refine lv_goto (tgt := 227) hM.1 hM.2.1 dL_acts_223 (by decide) ?_
      exact e_z hM hX hlocks hret rfl hq dL_acts_227
    replace hq := hq.2 c_22
    refine r_case (x := x5) (v := (3 : Int32)) (fun c_41 => ?_) (fun c_41 => ?_)
    · replace hq := hq.1 c_41
      refine r_tsw (v := (3 : Int32)) (tgt := 228) hM c_41 dL_acts_26 (by decide) (by decide) (by rfl) (by decide) ?_
      refine lv_iload hM.1 hM.2.1 dL_acts_228 (lv_at hl 7 rfl) ?_
      refine lv_iconst (v := (4 : Int32)) hM.1 hM.2.1 dL_acts_230 (by decide) ?_
      refine lv_ishr hM.1 hM.2.1 dL_acts_231 ?_
      refine lv_iconst (v := (3 : Int32)) hM.1 hM.2.1 dL_acts_232 (by decide) ?_
      refine cSi (As := [.int (x6 >>> ((4 : Int32) &&& 31)), .int (3 : Int32)]) hM hK hX ⟨hI.1, trivial⟩ hA (met_L_low l D ad cy S (x6 >>> ((4 : Int32) &&& 31)) (3 : Int32) hq) (kL_low hM.2.2.2.2 ql_RL_86 (Nat.le_of_ble_eq_true rfl) (Nat.le_of_ble_eq_true rfl)) rfl hl.1 rfl (Nat.le_of_ble_eq_true rfl) dL_acts_233 ⟨Nat.zero_le _, Nat.zero_le _⟩ (fun S_42 r_43 hq H locs hX => ?_)
      refine lv_if_ne (tgt := 257) hM.1 hM.2.1 dL_acts_236 (by decide) (fun c_44 => ?_) (fun c_44 => ?_)
      · replace hq := hq.1 c_44
        refine lv_iload hM.1 hM.2.1 dL_acts_257 (lv_at hl 7 rfl) ?_
        refine lv_bipush (v := (6 : Int32)) hM.1 hM.2.1 dL_acts_259 (by decide) ?_
        refine lv_ishr hM.1 hM.2.1 dL_acts_261 ?_
        refine lv_sipush (v := (800 : Int32)) hM.1 hM.2.1 dL_acts_262 (by decide) ?_
        refine cSi (As := [.int (x6 >>> ((6 : Int32) &&& 31)), .int (800 : Int32)]) hM hK hX ⟨hI.1, trivial⟩ hA (met_L_low l D ad cy S_42 (x6 >>> ((6 : Int32) &&& 31)) (800 : Int32) hq) (kL_low hM.2.2.2.2 ql_RL_86 (Nat.le_of_ble_eq_true rfl) (Nat.le_of_ble_eq_true rfl)) rfl hl.1 rfl (Nat.le_of_ble_eq_true rfl) dL_acts_265 ⟨Nat.zero_le _, Nat.zero_le _⟩ (fun S_45 r_46 hq H locs hX => ?_)
        refine lv_sipush (v := (400 : Int32)) hM.1 hM.2.1 dL_acts_268 (by decide) ?_
        refine lv_isub hM.1 hM.2.1 dL_acts_271 ?_
        exact J272 S_45 w0 (r_46 - (400 : Int32)) hq _ _ _ hX (lv_sub hl [1, 2, 0] rfl)
      replace hq := hq.2 c_44
      refine lv_iload hM.1 hM.2.1 dL_acts_239 (lv_at hl 7 rfl) ?_
      refine lv_bipush (v := (6 : Int32)) hM.1 hM.2.1 dL_acts_241 (by decide) ?_
      refine lv_ishr hM.1 hM.2.1 dL_acts_243 ?_
      refine lv_sipush (v := (6001 : Int32)) hM.1 hM.2.1 dL_acts_244 (by decide) ?_
      refine cSi (As := [.int (x6 >>> ((6 : Int32) &&& 31)), .int (6001 : Int32)]) hM hK hX ⟨hI.1, trivial⟩ hA (met_L_low l D ad cy S_42 (x6 >>> ((6 : Int32) &&& 31)) (6001 : Int32) hq) (kL_low hM.2.2.2.2 ql_RL_86 (Nat.le_of_ble_eq_true rfl) (Nat.le_of_ble_eq_true rfl)) rfl hl.1 rfl (Nat.le_of_ble_eq_true rfl) dL_acts_247 ⟨Nat.zero_le _, Nat.zero_le _⟩ (fun S_63 r_64 hq H locs hX => ?_)
      refine lv_sipush (v := (3000 : Int32)) hM.1 hM.2.1 dL_acts_250 (by decide) ?_
      refine lv_isub hM.1 hM.2.1 dL_acts_253 ?_
      refine lv_goto (tgt := 272) hM.1 hM.2.1 dL_acts_254 (by decide) ?_
      exact J272 S_63 w0 (r_64 - (3000 : Int32)) hq _ _ _ hX (lv_sub hl [1, 2, 0] rfl)
    replace hq := hq.2 c_41
    refine r_case (x := x5) (v := (4 : Int32)) (fun c_65 => ?_) (fun c_65 => ?_)
    · replace hq := hq.1 c_65
      refine r_tsw (v := (4 : Int32)) (tgt := 228) hM c_65 dL_acts_26 (by decide) (by decide) (by rfl) (by decide) ?_
      refine lv_iload hM.1 hM.2.1 dL_acts_228 (lv_at hl 7 rfl) ?_
      refine lv_iconst (v := (4 : Int32)) hM.1 hM.2.1 dL_acts_230 (by decide) ?_
      refine lv_ishr hM.1 hM.2.1 dL_acts_231 ?_
      refine lv_iconst (v := (3 : Int32)) hM.1 hM.2.1 dL_acts_232 (by decide) ?_
      refine cSi (As := [.int (x6 >>> ((4 : Int32) &&& 31)), .int (3 : Int32)]) hM hK hX ⟨hI.1, trivial⟩ hA (met_L_low l D ad cy S (x6 >>> ((4 : Int32) &&& 31)) (3 : Int32) hq) (kL_low hM.2.2.2.2 ql_RL_86 (Nat.le_of_ble_eq_true rfl) (Nat.le_of_ble_eq_true rfl)) rfl hl.1 rfl (Nat.le_of_ble_eq_true rfl) dL_acts_233 ⟨Nat.zero_le _, Nat.zero_le _⟩ (fun S_66 r_67 hq H locs hX => ?_)
      refine lv_if_ne (tgt := 257) hM.1 hM.2.1 dL_acts_236 (by decide) (fun c_68 => ?_) (fun c_68 => ?_)
      · replace hq := hq.1 c_68
        refine lv_iload hM.1 hM.2.1 dL_acts_257 (lv_at hl 7 rfl) ?_
        refine lv_bipush (v := (6 : Int32)) hM.1 hM.2.1 dL_acts_259 (by decide) ?_
        refine lv_ishr hM.1 hM.2.1 dL_acts_261 ?_
        refine lv_sipush (v := (800 : Int32)) hM.1 hM.2.1 dL_acts_262 (by decide) ?_
        refine cSi (As := [.int (x6 >>> ((6 : Int32) &&& 31)), .int (800 : Int32)]) hM hK hX ⟨hI.1, trivial⟩ hA (met_L_low l D ad cy S_66 (x6 >>> ((6 : Int32) &&& 31)) (800 : Int32) hq) (kL_low hM.2.2.2.2 ql_RL_86 (Nat.le_of_ble_eq_true rfl) (Nat.le_of_ble_eq_true rfl)) rfl hl.1 rfl (Nat.le_of_ble_eq_true rfl) dL_acts_265 ⟨Nat.zero_le _, Nat.zero_le _⟩ (fun S_69 r_70 hq H locs hX => ?_)
        refine lv_sipush (v := (400 : Int32)) hM.1 hM.2.1 dL_acts_268 (by decide) ?_
        refine lv_isub hM.1 hM.2.1 dL_acts_271 ?_
        exact J272 S_69 w0 (r_70 - (400 : Int32)) hq _ _ _ hX (lv_sub hl [1, 2, 0] rfl)
      replace hq := hq.2 c_68
      refine lv_iload hM.1 hM.2.1 dL_acts_239 (lv_at hl 7 rfl) ?_
      refine lv_bipush (v := (6 : Int32)) hM.1 hM.2.1 dL_acts_241 (by decide) ?_
      refine lv_ishr hM.1 hM.2.1 dL_acts_243 ?_
      refine lv_sipush (v := (6001 : Int32)) hM.1 hM.2.1 dL_acts_244 (by decide) ?_
      refine cSi (As := [.int (x6 >>> ((6 : Int32) &&& 31)), .int (6001 : Int32)]) hM hK hX ⟨hI.1, trivial⟩ hA (met_L_low l D ad cy S_66 (x6 >>> ((6 : Int32) &&& 31)) (6001 : Int32) hq) (kL_low hM.2.2.2.2 ql_RL_86 (Nat.le_of_ble_eq_true rfl) (Nat.le_of_ble_eq_true rfl)) rfl hl.1 rfl (Nat.le_of_ble_eq_true rfl) dL_acts_247 ⟨Nat.zero_le _, Nat.zero_le _⟩ (fun S_71 r_72 hq H locs hX => ?_)
      refine lv_sipush (v := (3000 : Int32)) hM.1 hM.2.1 dL_acts_250 (by decide) ?_
      refine lv_isub hM.1 hM.2.1 dL_acts_253 ?_
      refine lv_goto (tgt := 272) hM.1 hM.2.1 dL_acts_254 (by decide) ?_
      exact J272 S_71 w0 (r_72 - (3000 : Int32)) hq _ _ _ hX (lv_sub hl [1, 2, 0] rfl)
    replace hq := hq.2 c_65
    refine r_case (x := x5) (v := (5 : Int32)) (fun c_73 => ?_) (fun c_73 => ?_)
    · replace hq := hq.1 c_73
      refine r_tsw (v := (5 : Int32)) (tgt := 228) hM c_73 dL_acts_26 (by decide) (by decide) (by rfl) (by decide) ?_
      refine lv_iload hM.1 hM.2.1 dL_acts_228 (lv_at hl 7 rfl) ?_
      refine lv_iconst (v := (4 : Int32)) hM.1 hM.2.1 dL_acts_230 (by decide) ?_
      refine lv_ishr hM.1 hM.2.1 dL_acts_231 ?_
      refine lv_iconst (v := (3 : Int32)) hM.1 hM.2.1 dL_acts_232 (by decide) ?_
      refine cSi (As := [.int (x6 >>> ((4 : Int32) &&& 31)), .int (3 : Int32)]) hM hK hX ⟨hI.1, trivial⟩ hA (met_L_low l D ad cy S (x6 >>> ((4 : Int32) &&& 31)) (3 : Int32) hq) (kL_low hM.2.2.2.2 ql_RL_86 (Nat.le_of_ble_eq_true rfl) (Nat.le_of_ble_eq_true rfl)) rfl hl.1 rfl (Nat.le_of_ble_eq_true rfl) dL_acts_233 ⟨Nat.zero_le _, Nat.zero_le _⟩ (fun S_74 r_75 hq H locs hX => ?_)
      refine lv_if_ne (tgt := 257) hM.1 hM.2.1 dL_acts_236 (by decide) (fun c_76 => ?_) (fun c_76 => ?_)
      · replace hq := hq.1 c_76
        refine lv_iload hM.1 hM.2.1 dL_acts_257 (lv_at hl 7 rfl) ?_
        refine lv_bipush (v := (6 : Int32)) hM.1 hM.2.1 dL_acts_259 (by decide) ?_
        refine lv_ishr hM.1 hM.2.1 dL_acts_261 ?_
        refine lv_sipush (v := (800 : Int32)) hM.1 hM.2.1 dL_acts_262 (by decide) ?_
        refine cSi (As := [.int (x6 >>> ((6 : Int32) &&& 31)), .int (800 : Int32)]) hM hK hX ⟨hI.1, trivial⟩ hA (met_L_low l D ad cy S_74 (x6 >>> ((6 : Int32) &&& 31)) (800 : Int32) hq) (kL_low hM.2.2.2.2 ql_RL_86 (Nat.le_of_ble_eq_true rfl) (Nat.le_of_ble_eq_true rfl)) rfl hl.1 rfl (Nat.le_of_ble_eq_true rfl) dL_acts_265 ⟨Nat.zero_le _, Nat.zero_le _⟩ (fun S_77 r_78 hq H locs hX => ?_)
        refine lv_sipush (v := (400 : Int32)) hM.1 hM.2.1 dL_acts_268 (by decide) ?_
        refine lv_isub hM.1 hM.2.1 dL_acts_271 ?_
        exact J272 S_77 w0 (r_78 - (400 : Int32)) hq _ _ _ hX (lv_sub hl [1, 2, 0] rfl)
      replace hq := hq.2 c_76
      refine lv_iload hM.1 hM.2.1 dL_acts_239 (lv_at hl 7 rfl) ?_
      refine lv_bipush (v := (6 : Int32)) hM.1 hM.2.1 dL_acts_241 (by decide) ?_
      refine lv_ishr hM.1 hM.2.1 dL_acts_243 ?_
      refine lv_sipush (v := (6001 : Int32)) hM.1 hM.2.1 dL_acts_244 (by decide) ?_
      refine cSi (As := [.int (x6 >>> ((6 : Int32) &&& 31)), .int (6001 : Int32)]) hM hK hX ⟨hI.1, trivial⟩ hA (met_L_low l D ad cy S_74 (x6 >>> ((6 : Int32) &&& 31)) (6001 : Int32) hq) (kL_low hM.2.2.2.2 ql_RL_86 (Nat.le_of_ble_eq_true rfl) (Nat.le_of_ble_eq_true rfl)) rfl hl.1 rfl (Nat.le_of_ble_eq_true rfl) dL_acts_247 ⟨Nat.zero_le _, Nat.zero_le _⟩ (fun S_79 r_80 hq H locs hX => ?_)
      refine lv_sipush (v := (3000 : Int32)) hM.1 hM.2.1 dL_acts_250 (by decide) ?_
      refine lv_isub hM.1 hM.2.1 dL_acts_253 ?_
      refine lv_goto (tgt := 272) hM.1 hM.2.1 dL_acts_254 (by decide) ?_
      exact J272 S_79 w0 (r_80 - (3000 : Int32)) hq _ _ _ hX (lv_sub hl [1, 2, 0] rfl)
    replace hq := hq.2 c_73
    refine r_case (x := x5) (v := (6 : Int32)) (fun c_81 => ?_) (fun c_81 => ?_)
    · replace hq := hq.1 c_81
      refine r_tsw (v := (6 : Int32)) (tgt := 363) hM c_81 dL_acts_26 (by decide) (by decide) (by rfl) (by decide) ?_
      refine lv_iload hM.1 hM.2.1 dL_acts_363 (lv_at hl 7 rfl) ?_
      refine lv_iconst (v := (2 : Int32)) hM.1 hM.2.1 dL_acts_365 (by decide) ?_
      refine cSi (As := [.int x6, .int (2 : Int32)]) hM hK hX ⟨hI.1, trivial⟩ hA (met_L_low l D ad cy S x6 (2 : Int32) hq) (kL_low hM.2.2.2.2 ql_RL_86 (Nat.le_of_ble_eq_true rfl) (Nat.le_of_ble_eq_true rfl)) rfl hl.1 rfl (Nat.le_of_ble_eq_true rfl) dL_acts_366 ⟨Nat.zero_le _, Nat.zero_le _⟩ (fun S_82 r_83 hq H locs hX => ?_)
      refine lv_istore (lv' := [(12, .int r_83), (7, .int w0), (0, .ref (ad 14 0 0)), (1, .ref (ad 15 0 0)), (2, .ref (ad 16 0 0)), (3, .ref (ad 17 0 0)), (4, .ref (ad 18 0 0)), (5, .int x5), (6, .int x6)]) hM.1 hM.2.1 dL_acts_369 hl (by decide) rfl (fun ls hl => ?_)
      refine lv_aload hM.1 hM.2.1 dL_acts_371 (lv_at hl 6 rfl) ?_
      refine lv_iconst (v := (2 : Int32)) hM.1 hM.2.1 dL_acts_373 (by decide) ?_
      refine lv_iload hM.1 hM.2.1 dL_acts_374 (lv_at hl 0 rfl) ?_
      refine lv_iadd hM.1 hM.2.1 dL_acts_376 ?_
      have c_84 := hq.1
      replace hq := hq.2
      refine r_iald hM hK hX hI.2.2.2.2.1 (a18 0 0) c_84 dL_acts_377 ?_
      refine lv_istore (lv' := [(13, .int (S_82 18 0 0 ((2 : Int32) + r_83).toNatClampNeg)), (12, .int r_83), (7, .int w0), (0, .ref (ad 14 0 0)), (1, .ref (ad 15 0 0)), (2, .ref (ad 16 0 0)), (3, .ref (ad 17 0 0)), (4, .ref (ad 18 0 0)), (5, .int x5), (6, .int x6)]) hM.1 hM.2.1 dL_acts_378 hl (by decide) rfl (fun ls hl => ?_)
      refine lv_aload hM.1 hM.2.1 dL_acts_380 (lv_at hl 7 rfl) ?_
      refine lv_iconst (v := (2 : Int32)) hM.1 hM.2.1 dL_acts_382 (by decide) ?_
      refine lv_iload hM.1 hM.2.1 dL_acts_383 (lv_at hl 1 rfl) ?_
      refine lv_iadd hM.1 hM.2.1 dL_acts_385 ?_
      refine lv_iload hM.1 hM.2.1 dL_acts_386 (lv_at hl 1 rfl) ?_
      refine lv_if_ne (tgt := 425) hM.1 hM.2.1 dL_acts_388 (by decide) (fun c_85 => ?_) (fun c_85 => ?_)
      · replace hq := hq.1 c_85
        refine lv_iconst (v := (1 : Int32)) hM.1 hM.2.1 dL_acts_425 (by decide) ?_
        refine lv_iload hM.1 hM.2.1 dL_acts_426 (lv_at hl 9 rfl) ?_
        refine lv_iconst (v := (1 : Int32)) hM.1 hM.2.1 dL_acts_428 (by decide) ?_
        refine lv_ishr hM.1 hM.2.1 dL_acts_429 ?_
        refine lv_iconst (v := (5 : Int32)) hM.1 hM.2.1 dL_acts_430 (by decide) ?_
        refine cSi (As := [.int (x6 >>> ((1 : Int32) &&& 31)), .int (5 : Int32)]) hM hK hX ⟨hI.1, trivial⟩ hA (met_L_low l D ad cy S_82 (x6 >>> ((1 : Int32) &&& 31)) (5 : Int32) hq) (kL_low hM.2.2.2.2 ql_RL_86 (Nat.le_of_ble_eq_true rfl) (Nat.le_of_ble_eq_true rfl)) rfl hl.1 rfl (Nat.le_of_ble_eq_true rfl) dL_acts_431 ⟨Nat.zero_le _, Nat.zero_le _⟩ (fun S_86 r_87 hq H locs hX => ?_)
        refine lv_iadd hM.1 hM.2.1 dL_acts_434 ?_
        exact J435 S_86 r_83 (S_82 18 0 0 ((2 : Int32) + r_83).toNatClampNeg) ((2 : Int32) + r_83) ((1 : Int32) + r_87) hq _ _ _ hX (lv_sub hl [3, 7, 1, 0] rfl)
      replace hq := hq.2 c_85
      refine lv_bipush (v := (10 : Int32)) hM.1 hM.2.1 dL_acts_391 (by decide) ?_
      refine lv_iload hM.1 hM.2.1 dL_acts_393 (lv_at hl 9 rfl) ?_
      refine lv_iconst (v := (1 : Int32)) hM.1 hM.2.1 dL_acts_395 (by decide) ?_
      refine lv_ishr hM.1 hM.2.1 dL_acts_396 ?_
      refine lv_iload hM.1 hM.2.1 dL_acts_397 (lv_at hl 9 rfl) ?_
      refine lv_bipush (v := (12 : Int32)) hM.1 hM.2.1 dL_acts_399 (by decide) ?_
      refine lv_ishr hM.1 hM.2.1 dL_acts_401 ?_
      refine lv_iconst (v := (2 : Int32)) hM.1 hM.2.1 dL_acts_402 (by decide) ?_
      refine cSi (As := [.int (x6 >>> ((12 : Int32) &&& 31)), .int (2 : Int32)]) hM hK hX ⟨hI.1, trivial⟩ hA (met_L_low l D ad cy S_82 (x6 >>> ((12 : Int32) &&& 31)) (2 : Int32) hq) (kL_low hM.2.2.2.2 ql_RL_86 (Nat.le_of_ble_eq_true rfl) (Nat.le_of_ble_eq_true rfl)) rfl hl.1 rfl (Nat.le_of_ble_eq_true rfl) dL_acts_403 ⟨Nat.zero_le _, Nat.zero_le _⟩ (fun S_95 r_96 hq H locs hX => ?_)
      refine lv_if_ne (tgt := 415) hM.1 hM.2.1 dL_acts_406 (by decide) (fun c_97 => ?_) (fun c_97 => ?_)
      · replace hq := hq.1 c_97
        refine lv_sipush (v := (200 : Int32)) hM.1 hM.2.1 dL_acts_415 (by decide) ?_
        exact J418 S_95 r_83 (S_82 18 0 0 ((2 : Int32) + r_83).toNatClampNeg) ((2 : Int32) + r_83) (10 : Int32) (x6 >>> ((1 : Int32) &&& 31)) (200 : Int32) hq _ _ _ hX (lv_sub hl [3, 7, 1, 0] rfl)
      replace hq := hq.2 c_97
      refine lv_sipush (v := (1991 : Int32)) hM.1 hM.2.1 dL_acts_409 (by decide) ?_
      refine lv_goto (tgt := 418) hM.1 hM.2.1 dL_acts_412 (by decide) ?_
      exact J418 S_95 r_83 (S_82 18 0 0 ((2 : Int32) + r_83).toNatClampNeg) ((2 : Int32) + r_83) (10 : Int32) (x6 >>> ((1 : Int32) &&& 31)) (1991 : Int32) hq _ _ _ hX (lv_sub hl [3, 7, 1, 0] rfl)
    replace hq := hq.2 c_81
    refine r_case (x := x5) (v := (7 : Int32)) (fun c_100 => ?_) (fun c_100 => ?_)
    · replace hq := hq.1 c_100
      refine r_tsw (v := (7 : Int32)) (tgt := 460) hM c_100 dL_acts_26 (by decide) (by decide) (by rfl) (by decide) ?_
      refine lv_iconst (v := (1 : Int32)) hM.1 hM.2.1 dL_acts_460 (by decide) ?_
      refine lv_iload hM.1 hM.2.1 dL_acts_461 (lv_at hl 7 rfl) ?_
      refine lv_bipush (v := (24 : Int32)) hM.1 hM.2.1 dL_acts_463 (by decide) ?_
      refine cSi (As := [.int x6, .int (24 : Int32)]) hM hK hX ⟨hI.1, trivial⟩ hA (met_L_low l D ad cy S x6 (24 : Int32) hq) (kL_low hM.2.2.2.2 ql_RL_86 (Nat.le_of_ble_eq_true rfl) (Nat.le_of_ble_eq_true rfl)) rfl hl.1 rfl (Nat.le_of_ble_eq_true rfl) dL_acts_465 ⟨Nat.zero_le _, Nat.zero_le _⟩ (fun S_101 r_102 hq H locs hX => ?_)
      refine lv_iadd hM.1 hM.2.1 dL_acts_468 ?_
      refine lv_istore (lv' := [(14, .int ((1 : Int32) + r_102)), (7, .int w0), (0, .ref (ad 14 0 0)), (1, .ref (ad 15 0 0)), (2, .ref (ad 16 0 0)), (3, .ref (ad 17 0 0)), (4, .ref (ad 18 0 0)), (5, .int x5), (6, .int x6)]) hM.1 hM.2.1 dL_acts_469 hl (by decide) rfl (fun ls hl => ?_)
      refine lv_iload hM.1 hM.2.1 dL_acts_471 (lv_at hl 8 rfl) ?_
      refine lv_iconst (v := (5 : Int32)) hM.1 hM.2.1 dL_acts_473 (by decide) ?_
      refine lv_ishr hM.1 hM.2.1 dL_acts_474 ?_
      refine lv_sipush (v := (201 : Int32)) hM.1 hM.2.1 dL_acts_475 (by decide) ?_
      refine cSi (As := [.int (x6 >>> ((5 : Int32) &&& 31)), .int (201 : Int32)]) hM hK hX ⟨hI.1, trivial⟩ hA (met_L_low l D ad cy S_101 (x6 >>> ((5 : Int32) &&& 31)) (201 : Int32) hq) (kL_low hM.2.2.2.2 ql_RL_86 (Nat.le_of_ble_eq_true rfl) (Nat.le_of_ble_eq_true rfl)) rfl hl.1 rfl (Nat.le_of_ble_eq_true rfl) dL_acts_478 ⟨Nat.zero_le _, Nat.zero_le _⟩ (fun S_103 r_104 hq H locs hX => ?_)
      refine lv_bipush (v := (100 : Int32)) hM.1 hM.2.1 dL_acts_481 (by decide) ?_
      refine lv_isub hM.1 hM.2.1 dL_acts_483 ?_
      refine lv_istore (lv' := [(15, .int (r_104 - (100 : Int32))), (14, .int ((1 : Int32) + r_102)), (7, .int w0), (0, .ref (ad 14 0 0)), (1, .ref (ad 15 0 0)), (2, .ref (ad 16 0 0)), (3, .ref (ad 17 0 0)), (4, .ref (ad 18 0 0)), (5, .int x5), (6, .int x6)]) hM.1 hM.2.1 dL_acts_484 hl (by decide) rfl (fun ls hl => ?_)
      refine lv_iconst (v := (0 : Int32)) hM.1 hM.2.1 dL_acts_486 (by decide) ?_
      refine lv_istore (lv' := [(16, .int (0 : Int32)), (15, .int (r_104 - (100 : Int32))), (14, .int ((1 : Int32) + r_102)), (7, .int w0), (0, .ref (ad 14 0 0)), (1, .ref (ad 15 0 0)), (2, .ref (ad 16 0 0)), (3, .ref (ad 17 0 0)), (4, .ref (ad 18 0 0)), (5, .int x5), (6, .int x6)]) hM.1 hM.2.1 dL_acts_487 hl (by decide) rfl (fun ls hl => ?_)
      obtain ⟨k0, hq⟩ := hq
      refine L489 (fun S_111 y14_112 y15_113 hq H locs ls hX hl => ?_) k0 S_103 ((1 : Int32) + r_102) (r_104 - (100 : Int32)) (0 : Int32) hq _ _ _ hX (lv_sub hl [4, 5, 6, 7, 8, 2, 1, 0] rfl)
      refine lv_aload_n hM.1 hM.2.1 dL_acts_551 rfl (lv_at hl 0 rfl) ?_
      refine lv_iload hM.1 hM.2.1 dL_acts_552 (lv_at hl 2 rfl) ?_
      refine lv_iload hM.1 hM.2.1 dL_acts_554 (lv_at hl 3 rfl) ?_
      refine cVi (As := [.int y14_112, .int y15_113]) hM hK hX ⟨hI.1, trivial⟩ hA (met_X6_hours l D ad cy S_111 y14_112 y15_113 hq) (kX6_hours hM.2.2.2.2 ql_RL_110 (Nat.le_of_ble_eq_true rfl) (Nat.le_of_ble_eq_true rfl)) (v14 hK hX (hI.1 _ m14)) rfl hl.1 rfl (Nat.le_of_ble_eq_true rfl) dL_acts_556 ⟨Nat.zero_le _, Nat.zero_le _⟩ (fun S_114 r_115 hq H locs hX => ?_)
      refine lv_aload hM.1 hM.2.1 dL_acts_559 (lv_at hl 1 rfl) ?_
      refine lv_iconst (v := (1 : Int32)) hM.1 hM.2.1 dL_acts_561 (by decide) ?_
      have c_116 := hq.1
      replace hq := hq.2
      refine r_iald hM hK hX hI.2.2.2.2.1 (a18 0 0) c_116 dL_acts_562 ?_
      refine lv_icmp_ne (tgt := 570) hM.1 hM.2.1 dL_acts_563 (by decide) (fun c_117 => ?_) (fun c_117 => ?_)
      · replace hq := hq.1 c_117
        refine lv_iconst (v := (0 : Int32)) hM.1 hM.2.1 dL_acts_570 (by decide) ?_
        exact e_z hM hX hlocks hret rfl hq dL_acts_571
      replace hq := hq.2 c_117
      refine lv_iconst (v := (1 : Int32)) hM.1 hM.2.1 dL_acts_566 (by decide) ?_
      refine lv_goto (tgt := 571) hM.1 hM.2.1 dL_acts_567 (by decide) ?_
      exact e_z hM hX hlocks hret rfl hq dL_acts_571
    replace hq := hq.2 c_100
    refine r_case (x := x5) (v := (8 : Int32)) (fun c_118 => ?_) (fun c_118 => ?_)
    · replace hq := hq.1 c_118
      refine r_tsw (v := (8 : Int32)) (tgt := 460) hM c_118 dL_acts_26 (by decide) (by decide) (by rfl) (by decide) ?_
      refine lv_iconst (v := (1 : Int32)) hM.1 hM.2.1 dL_acts_460 (by decide) ?_
      refine lv_iload hM.1 hM.2.1 dL_acts_461 (lv_at hl 7 rfl) ?_
      refine lv_bipush (v := (24 : Int32)) hM.1 hM.2.1 dL_acts_463 (by decide) ?_
      refine cSi (As := [.int x6, .int (24 : Int32)]) hM hK hX ⟨hI.1, trivial⟩ hA (met_L_low l D ad cy S x6 (24 : Int32) hq) (kL_low hM.2.2.2.2 ql_RL_86 (Nat.le_of_ble_eq_true rfl) (Nat.le_of_ble_eq_true rfl)) rfl hl.1 rfl (Nat.le_of_ble_eq_true rfl) dL_acts_465 ⟨Nat.zero_le _, Nat.zero_le _⟩ (fun S_119 r_120 hq H locs hX => ?_)
      refine lv_iadd hM.1 hM.2.1 dL_acts_468 ?_
      refine lv_istore (lv' := [(14, .int ((1 : Int32) + r_120)), (7, .int w0), (0, .ref (ad 14 0 0)), (1, .ref (ad 15 0 0)), (2, .ref (ad 16 0 0)), (3, .ref (ad 17 0 0)), (4, .ref (ad 18 0 0)), (5, .int x5), (6, .int x6)]) hM.1 hM.2.1 dL_acts_469 hl (by decide) rfl (fun ls hl => ?_)
      refine lv_iload hM.1 hM.2.1 dL_acts_471 (lv_at hl 8 rfl) ?_
      refine lv_iconst (v := (5 : Int32)) hM.1 hM.2.1 dL_acts_473 (by decide) ?_
      refine lv_ishr hM.1 hM.2.1 dL_acts_474 ?_
      refine lv_sipush (v := (201 : Int32)) hM.1 hM.2.1 dL_acts_475 (by decide) ?_
      refine cSi (As := [.int (x6 >>> ((5 : Int32) &&& 31)), .int (201 : Int32)]) hM hK hX ⟨hI.1, trivial⟩ hA (met_L_low l D ad cy S_119 (x6 >>> ((5 : Int32) &&& 31)) (201 : Int32) hq) (kL_low hM.2.2.2.2 ql_RL_86 (Nat.le_of_ble_eq_true rfl) (Nat.le_of_ble_eq_true rfl)) rfl hl.1 rfl (Nat.le_of_ble_eq_true rfl) dL_acts_478 ⟨Nat.zero_le _, Nat.zero_le _⟩ (fun S_121 r_122 hq H locs hX => ?_)
      refine lv_bipush (v := (100 : Int32)) hM.1 hM.2.1 dL_acts_481 (by decide) ?_
      refine lv_isub hM.1 hM.2.1 dL_acts_483 ?_
      refine lv_istore (lv' := [(15, .int (r_122 - (100 : Int32))), (14, .int ((1 : Int32) + r_120)), (7, .int w0), (0, .ref (ad 14 0 0)), (1, .ref (ad 15 0 0)), (2, .ref (ad 16 0 0)), (3, .ref (ad 17 0 0)), (4, .ref (ad 18 0 0)), (5, .int x5), (6, .int x6)]) hM.1 hM.2.1 dL_acts_484 hl (by decide) rfl (fun ls hl => ?_)
      refine lv_iconst (v := (0 : Int32)) hM.1 hM.2.1 dL_acts_486 (by decide) ?_
      refine lv_istore (lv' := [(16, .int (0 : Int32)), (15, .int (r_122 - (100 : Int32))), (14, .int ((1 : Int32) + r_120)), (7, .int w0), (0, .ref (ad 14 0 0)), (1, .ref (ad 15 0 0)), (2, .ref (ad 16 0 0)), (3, .ref (ad 17 0 0)), (4, .ref (ad 18 0 0)), (5, .int x5), (6, .int x6)]) hM.1 hM.2.1 dL_acts_487 hl (by decide) rfl (fun ls hl => ?_)
      obtain ⟨k0, hq⟩ := hq
      refine L489 (fun S_123 y14_124 y15_125 hq H locs ls hX hl => ?_) k0 S_121 ((1 : Int32) + r_120) (r_122 - (100 : Int32)) (0 : Int32) hq _ _ _ hX (lv_sub hl [4, 5, 6, 7, 8, 2, 1, 0] rfl)
      refine lv_aload_n hM.1 hM.2.1 dL_acts_551 rfl (lv_at hl 0 rfl) ?_
      refine lv_iload hM.1 hM.2.1 dL_acts_552 (lv_at hl 2 rfl) ?_
      refine lv_iload hM.1 hM.2.1 dL_acts_554 (lv_at hl 3 rfl) ?_
      refine cVi (As := [.int y14_124, .int y15_125]) hM hK hX ⟨hI.1, trivial⟩ hA (met_X6_hours l D ad cy S_123 y14_124 y15_125 hq) (kX6_hours hM.2.2.2.2 ql_RL_110 (Nat.le_of_ble_eq_true rfl) (Nat.le_of_ble_eq_true rfl)) (v14 hK hX (hI.1 _ m14)) rfl hl.1 rfl (Nat.le_of_ble_eq_true rfl) dL_acts_556 ⟨Nat.zero_le _, Nat.zero_le _⟩ (fun S_126 r_127 hq H locs hX => ?_)
      refine lv_aload hM.1 hM.2.1 dL_acts_559 (lv_at hl 1 rfl) ?_
      refine lv_iconst (v := (1 : Int32)) hM.1 hM.2.1 dL_acts_561 (by decide) ?_
      have c_128 := hq.1
      replace hq := hq.2
      refine r_iald hM hK hX hI.2.2.2.2.1 (a18 0 0) c_128 dL_acts_562 ?_
      refine lv_icmp_ne (tgt := 570) hM.1 hM.2.1 dL_acts_563 (by decide) (fun c_129 => ?_) (fun c_129 => ?_)
      · replace hq := hq.1 c_129
        refine lv_iconst (v := (0 : Int32)) hM.1 hM.2.1 dL_acts_570 (by decide) ?_
        exact e_z hM hX hlocks hret rfl hq dL_acts_571
      replace hq := hq.2 c_129
      refine lv_iconst (v := (1 : Int32)) hM.1 hM.2.1 dL_acts_566 (by decide) ?_
      refine lv_goto (tgt := 571) hM.1 hM.2.1 dL_acts_567 (by decide) ?_
      exact e_z hM hX hlocks hret rfl hq dL_acts_571
    replace hq := hq.2 c_118
    refine r_tswD (tgt := 572) 9 hM (by decide) (by decide) (fun k hk => ?_) dL_acts_26 (by decide) ?_
    · match k, hk with
      | 0, _ => exact c_6
      | 1, _ => exact c_9
      | 2, _ => exact c_22
      | 3, _ => exact c_41
      | 4, _ => exact c_65
      | 5, _ => exact c_73
      | 6, _ => exact c_81
      | 7, _ => exact c_100
      | 8, _ => exact c_118
      | k + 9, h => exact absurd h (by omega)
    refine lv_iload hM.1 hM.2.1 dL_acts_572 (lv_at hl 7 rfl) ?_
    refine lv_iconst (v := (3 : Int32)) hM.1 hM.2.1 dL_acts_574 (by decide) ?_
    refine cSi (As := [.int x6, .int (3 : Int32)]) hM hK hX ⟨hI.1, trivial⟩ hA (met_L_low l D ad cy S x6 (3 : Int32) hq) (kL_low hM.2.2.2.2 ql_RL_86 (Nat.le_of_ble_eq_true rfl) (Nat.le_of_ble_eq_true rfl)) rfl hl.1 rfl (Nat.le_of_ble_eq_true rfl) dL_acts_575 ⟨Nat.zero_le _, Nat.zero_le _⟩ (fun S_130 r_131 hq H locs hX => ?_)
    refine lv_if_ne (tgt := 598) hM.1 hM.2.1 dL_acts_578 (by decide) (fun c_132 => ?_) (fun c_132 => ?_)
    · replace hq := hq.1 c_132
      refine lv_aload hM.1 hM.2.1 dL_acts_598 (lv_at hl 5 rfl) ?_
      refine lv_iconst (v := (1 : Int32)) hM.1 hM.2.1 dL_acts_600 (by decide) ?_
      have c_133 := hq.1
      replace hq := hq.2
      refine r_iald hM hK hX hI.2.2.2.2.1 (a18 0 0) c_133 dL_acts_601 ?_
      refine lv_iload hM.1 hM.2.1 dL_acts_602 (lv_at hl 7 rfl) ?_
      refine lv_iconst (v := (2 : Int32)) hM.1 hM.2.1 dL_acts_604 (by decide) ?_
      refine lv_ishr hM.1 hM.2.1 dL_acts_605 ?_
      refine lv_sipush (v := (201 : Int32)) hM.1 hM.2.1 dL_acts_606 (by decide) ?_
      refine cSi (As := [.int (x6 >>> ((2 : Int32) &&& 31)), .int (201 : Int32)]) hM hK hX ⟨hI.1, trivial⟩ hA (met_L_low l D ad cy S_130 (x6 >>> ((2 : Int32) &&& 31)) (201 : Int32) hq) (kL_low hM.2.2.2.2 ql_RL_86 (Nat.le_of_ble_eq_true rfl) (Nat.le_of_ble_eq_true rfl)) rfl hl.1 rfl (Nat.le_of_ble_eq_true rfl) dL_acts_609 ⟨Nat.zero_le _, Nat.zero_le _⟩ (fun S_134 r_135 hq H locs hX => ?_)
      refine lv_iadd hM.1 hM.2.1 dL_acts_612 ?_
      refine lv_bipush (v := (100 : Int32)) hM.1 hM.2.1 dL_acts_613 (by decide) ?_
      refine lv_isub hM.1 hM.2.1 dL_acts_615 ?_
      exact J616 S_134 (((S_130 18 0 0 (1 : Int32).toNatClampNeg) + r_135) - (100 : Int32)) hq _ _ _ hX (lv_sub hl [1, 2, 3, 4, 5] rfl)
    replace hq := hq.2 c_132
    refine lv_iload hM.1 hM.2.1 dL_acts_581 (lv_at hl 7 rfl) ?_
    refine lv_iconst (v := (2 : Int32)) hM.1 hM.2.1 dL_acts_583 (by decide) ?_
    refine lv_ishr hM.1 hM.2.1 dL_acts_584 ?_
    refine lv_sipush (v := (10001 : Int32)) hM.1 hM.2.1 dL_acts_585 (by decide) ?_
    refine cSi (As := [.int (x6 >>> ((2 : Int32) &&& 31)), .int (10001 : Int32)]) hM hK hX ⟨hI.1, trivial⟩ hA (met_L_low l D ad cy S_130 (x6 >>> ((2 : Int32) &&& 31)) (10001 : Int32) hq) (kL_low hM.2.2.2.2 ql_RL_86 (Nat.le_of_ble_eq_true rfl) (Nat.le_of_ble_eq_true rfl)) rfl hl.1 rfl (Nat.le_of_ble_eq_true rfl) dL_acts_588 ⟨Nat.zero_le _, Nat.zero_le _⟩ (fun S_143 r_144 hq H locs hX => ?_)
    refine lv_sipush (v := (5000 : Int32)) hM.1 hM.2.1 dL_acts_591 (by decide) ?_
    refine lv_isub hM.1 hM.2.1 dL_acts_594 ?_
    refine lv_goto (tgt := 616) hM.1 hM.2.1 dL_acts_595 (by decide) ?_
    exact J616 S_143 (r_144 - (5000 : Int32)) hq _ _ _ hX (lv_sub hl [1, 2, 3, 4, 5] rfl)
  unfold vc_L_acts at hq
  refine lv_aload hM.1 hM.2.1 dL_acts_0 (lv_at hl 4 rfl) ?_
  refine lv_bipush (v := (15 : Int32)) hM.1 hM.2.1 dL_acts_2 (by decide) ?_
  have c_1 := hq.1
  replace hq := hq.2
  refine r_iald hM hK hX hI.2.2.2.2.1 (a18 0 0) c_1 dL_acts_4 ?_
  refine lv_if_ne (tgt := 12) hM.1 hM.2.1 dL_acts_5 (by decide) (fun c_2 => ?_) (fun c_2 => ?_)
  · replace hq := hq.1 c_2
    refine lv_iload hM.1 hM.2.1 dL_acts_12 (lv_at hl 6 rfl) ?_
    refine lv_aload hM.1 hM.2.1 dL_acts_14 (lv_at hl 4 rfl) ?_
    refine lv_bipush (v := (15 : Int32)) hM.1 hM.2.1 dL_acts_16 (by decide) ?_
    have c_3 := hq.1
    replace hq := hq.2
    refine r_iald hM hK hX hI.2.2.2.2.1 (a18 0 0) c_3 dL_acts_18 ?_
    refine cSi (As := [.int x6, .int (S 18 0 0 (15 : Int32).toNatClampNeg)]) hM hK hX ⟨hI.1, trivial⟩ hA (met_L_low l D ad cy S x6 (S 18 0 0 (15 : Int32).toNatClampNeg) hq) (kL_low hM.2.2.2.2 ql_RL_86 (Nat.le_of_ble_eq_true rfl) (Nat.le_of_ble_eq_true rfl)) rfl hl.1 rfl (Nat.le_of_ble_eq_true rfl) dL_acts_19 ⟨Nat.zero_le _, Nat.zero_le _⟩ (fun S_4 r_5 hq H locs hX => ?_)
    exact J22 S_4 r_5 hq _ _ _ hX (lv_sub hl [0, 1, 2, 3, 4, 5, 6] rfl)
  replace hq := hq.2 c_2
  refine lv_iconst (v := (0 : Int32)) hM.1 hM.2.1 dL_acts_8 (by decide) ?_
  refine lv_goto (tgt := 22) hM.1 hM.2.1 dL_acts_9 (by decide) ?_
  exact J22 S (0 : Int32) hq _ _ _ hX (lv_sub hl [0, 1, 2, 3, 4, 5, 6] rfl)
