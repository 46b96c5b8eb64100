def rmL_would : Room := { frames := 7, cells := 4, slots := 148, locals := 155 }
theorem kL_would {R : Room} {s : State} {args : Array Value} {own : String} {index : Nat} (ht : ∀ w ∈ lw_all, w.before args s = true) (hl : Cond.methodLink own index yL_would ∈ lw_all) (hf : rmL_would.frames + 1 ≤ R.frames) (hlo : 8 + (14 + 11) + rmL_would.locals ≤ R.locals) : CallB R s args own index yL_would cL_would 14 (some Jvm.ClassFile.FieldType.boolean) (wA yL_would cL_would 14 (some Jvm.ClassFile.FieldType.boolean)) rmL_would 4 148 6 ∧ (Cond.static yL_would).before args s = true := va_cwS 6 ht (good_S hl qt_yL_would qi_RL qc_yL_would) rfl rfl rfl (by decide +kernel) ⟨hf, hlo⟩
set_option maxRecDepth 100000 in
set_option maxHeartbeats 4000000 in
theorem rest_L_would {p : Program} {l : Launch} {e : Env} {s : State} {m : MethodId} {args : Array Value} {below : List Frame} {meth : Method} {c : Code} {D : va_G} {ad0 ad : Adr} {cy : Nat → ClassId} {o0 o : List Id} {sz : Nat} {x5 : Int32} {Q : Mem → Int32 → Prop} (hM : CallFix p m c cL_would 14 s args lw_all RL) (hlocks : meth.locks = false) (hret : meth.sig.returnType = (some Jvm.ClassFile.FieldType.boolean)) (hK : KW D cy s) (hA : ∀ q, s.heap.size ≤ q → AW ad0 o0 sz q) (hI : IN [(15, 0, 0), (16, 0, 0), (17, 0, 0), (18, 0, 0), (15, 1, 0), (16, 1, 0), (17, 1, 0), (18, 1, 0)] o) (hend : ∀ (S : Mem) (H : Heap) (locs : List Loc), PW D ad cy (AW ad0 o0 sz) s.heap o S H locs → va_P D vwCl (wd ad0 cy o0 S) H) (S : Mem) (H : Heap) (locs : List Loc) (ls : Array Slot) (hX : PW D ad cy (AW ad0 o0 sz) s.heap o S H locs) (hl : lv_has ls 14 [(9, .ref (ad 18 1 0)), (8, .ref (ad 17 1 0)), (7, .ref (ad 16 1 0)), (6, .ref (ad 15 1 0)), (0, .ref (ad 14 0 0)), (1, .ref (ad 15 0 0)), (2, .ref (ad 16 0 0)), (3, .ref (ad 17 0 0)), (4, .ref (ad 18 0 0)), (5, .int x5)]) (hq : vc_L_wouldR S x5 Q) : W p l e rmL_would s m args below meth c H locs 4 148 (MQ below (Qi D ad0 cy o0 sz Q) args s 4 148 (AW ad0 o0 sz)) (F0 m 24 ls []) := by
  have L52 : ∀ {K : Mem → Prop} (hk : ∀ (S : Mem), K S → ∀ (H : Heap) (locs : List Loc) (ls : Array Slot), PW D ad cy (AW ad0 o0 sz) s.heap o S H locs → lv_has ls 14 [(0, .ref (ad 14 0 0)), (4, .ref (ad 18 0 0)), (5, .int x5), (6, .ref (ad 15 1 0)), (7, .ref (ad 16 1 0)), (8, .ref (ad 17 1 0)), (9, .ref (ad 18 1 0))] → W p l e rmL_would s m args below meth c H locs 4 148 (MQ below (Qi D ad0 cy o0 sz Q) args s 4 148 (AW ad0 o0 sz)) (F0 m 82 ls [])), ∀ (n : Nat) (S : Mem) (y10 : Int32), vc_L_would_L52 Q K x5 n S y10 → ∀ (H : Heap) (locs : List Loc) (ls : Array Slot), PW D ad cy (AW ad0 o0 sz) s.heap o S H locs → lv_has ls 14 [(0, .ref (ad 14 0 0)), (4, .ref (ad 18 0 0)), (5, .int x5), (6, .ref (ad 15 1 0)), (7, .ref (ad 16 1 0)), (8, .ref (ad 17 1 0)), (9, .ref (ad 18 1 0)), (10, .int y10)] → W p l e rmL_would s m args below meth c H locs 4 148 (MQ below (Qi D ad0 cy o0 sz Q) args s 4 148 (AW ad0 o0 sz)) (F0 m 52 ls []) := by
    intro K hk n
    induction n with
    | zero =>
      intro S y10 hq
      rw [vc_L_would_L52] at hq
      exact hq.elim
    | succ n ih =>
      intro S y10 hq H locs ls hX hl
      rw [vc_L_would_L52] at hq
      refine lv_iload hM.1 hM.2.1 dL_would_52 (lv_at hl 7 rfl) ?_
      refine lv_iload hM.1 hM.2.1 dL_would_54 (lv_at hl 2 rfl) ?_
      refine lv_icmp_ge (tgt := 82) hM.1 hM.2.1 dL_would_56 (by decide) (fun c_5 => ?_) (fun c_5 => ?_)
      · replace hq := hq.1 c_5
        exact hk S hq _ _ _ hX (lv_sub hl [0, 1, 2, 3, 4, 5, 6] rfl)
      replace hq := hq.2 c_5
      refine lv_aload hM.1 hM.2.1 dL_would_59 (lv_at hl 3 rfl) ?_
      refine lv_aload hM.1 hM.2.1 dL_would_61 (lv_at hl 4 rfl) ?_
      refine lv_aload hM.1 hM.2.1 dL_would_63 (lv_at hl 5 rfl) ?_
      refine lv_aload hM.1 hM.2.1 dL_would_65 (lv_at hl 6 rfl) ?_
      refine lv_aload hM.1 hM.2.1 dL_would_67 (lv_at hl 6 rfl) ?_
      refine lv_iconst (v := (1 : Int32)) hM.1 hM.2.1 dL_would_69 (by decide) ?_
      have c_6 := hq.1
      replace hq := hq.2
      refine r_iald hM hK hX hI.2.2.2.2.2.2.2.2.1 (a18 1 0) c_6 dL_would_70 ?_
      refine cSi (As := [.ref (ad 15 1 0), .ref (ad 16 1 0), .ref (ad 17 1 0), .ref (ad 18 1 0), .int (S 18 1 0 (1 : Int32).toNatClampNeg)]) hM hK hX ⟨hI.1, hI.2.2.2.2.2.1, hI.2.2.2.2.2.2.1, hI.2.2.2.2.2.2.2.1, hI.2.2.2.2.2.2.2.2.1, trivial⟩ hA (met_L_hour l D ad cy S 1 (S 18 1 0 (1 : Int32).toNatClampNeg) hq) (kL_hour hM.2.2.2.2 ql_RL_71 (Nat.le_of_ble_eq_true rfl) (Nat.le_of_ble_eq_true rfl)) rfl hl.1 rfl (Nat.le_of_ble_eq_true rfl) dL_would_71 ⟨Nat.le_of_ble_eq_true rfl, Nat.le_of_ble_eq_true rfl⟩ (fun S_7 r_8 hq H locs hX => ?_)
      refine lv_istore (lv' := [(11, .int r_8), (0, .ref (ad 14 0 0)), (4, .ref (ad 18 0 0)), (5, .int x5), (6, .ref (ad 15 1 0)), (7, .ref (ad 16 1 0)), (8, .ref (ad 17 1 0)), (9, .ref (ad 18 1 0)), (10, .int y10)]) hM.1 hM.2.1 dL_would_74 hl (by decide) rfl (fun ls hl => ?_)
      refine lv_iinc (v := (y10 + (1 : Int32))) (lv' := [(10, .int (y10 + (1 : Int32))), (11, .int r_8), (0, .ref (ad 14 0 0)), (4, .ref (ad 18 0 0)), (5, .int x5), (6, .ref (ad 15 1 0)), (7, .ref (ad 16 1 0)), (8, .ref (ad 17 1 0)), (9, .ref (ad 18 1 0))]) hM.1 hM.2.1 dL_would_76 hl (k := 8) rfl rfl (by decide) rfl (fun ls hl => ?_)
      refine lv_goto (tgt := 52) hM.1 hM.2.1 dL_would_79 (by decide) ?_
      exact ih S_7 (y10 + (1 : Int32)) hq _ _ _ hX (lv_sub hl [2, 3, 4, 5, 6, 7, 8, 0] rfl)
  have J165 : ∀ {K0 : Mem → Int32 → Int32 → Int32 → Prop} (hk0 : ∀ (S : Mem) (y10 : Int32) (y11 : Int32) (y12 : Int32), K0 S y10 y11 y12 → ∀ (H : Heap) (locs : List Loc) (ls : Array Slot), PW D ad cy (AW ad0 o0 sz) s.heap o S H locs → lv_has ls 14 [(0, .ref (ad 14 0 0)), (4, .ref (ad 18 0 0)), (5, .int x5), (6, .ref (ad 15 1 0)), (7, .ref (ad 16 1 0)), (8, .ref (ad 17 1 0)), (9, .ref (ad 18 1 0)), (10, .int y10), (11, .int y11), (12, .int y12)] → W p l e rmL_would s m args below meth c H locs 4 148 (MQ below (Qi D ad0 cy o0 sz Q) args s 4 148 (AW ad0 o0 sz)) (F0 m 91 ls [])), ∀ {K1 : Mem → Int32 → Int32 → Prop} (hk1 : ∀ (S : Mem) (y10 : Int32) (y11 : Int32), K1 S y10 y11 → ∀ (H : Heap) (locs : List Loc) (ls : Array Slot), PW D ad cy (AW ad0 o0 sz) s.heap o S H locs → lv_has ls 14 [(0, .ref (ad 14 0 0)), (4, .ref (ad 18 0 0)), (5, .int x5), (6, .ref (ad 15 1 0)), (7, .ref (ad 16 1 0)), (8, .ref (ad 17 1 0)), (9, .ref (ad 18 1 0)), (10, .int y10), (11, .int y11)] → W p l e rmL_would s m args below meth c H locs 4 148 (MQ below (Qi D ad0 cy o0 sz Q) args s 4 148 (AW ad0 o0 sz)) (F0 m 173 ls [])), ∀ (S : Mem) (y10 : Int32) (y12 : Int32) (w0 : Int32), vc_L_would_J165 Q K0 K1 x5 S y10 y12 w0 → ∀ (H : Heap) (locs : List Loc) (ls : Array Slot), PW D ad cy (AW ad0 o0 sz) s.heap o S H locs → lv_has ls 14 [(0, .ref (ad 14 0 0)), (4, .ref (ad 18 0 0)), (5, .int x5), (6, .ref (ad 15 1 0)), (7, .ref (ad 16 1 0)), (8, .ref (ad 17 1 0)), (9, .ref (ad 18 1 0)), (10, .int y10), (12, .int y12)] → W p l e rmL_would s m args below meth c H locs 4 148 (MQ below (Qi D ad0 cy o0 sz Q) args s 4 148 (AW ad0 o0 sz)) (F0 m 165 ls [.int w0]) := by
    intro K0 hk0 K1 hk1 S y10 y12 w0 hq H locs ls hX hl
    unfold vc_L_would_J165 at hq
    refine lv_istore (lv' := [(11, .int w0), (0, .ref (ad 14 0 0)), (4, .ref (ad 18 0 0)), (5, .int x5), (6, .ref (ad 15 1 0)), (7, .ref (ad 16 1 0)), (8, .ref (ad 17 1 0)), (9, .ref (ad 18 1 0)), (10, .int y10), (12, .int y12)]) hM.1 hM.2.1 dL_would_165 hl (by decide) rfl (fun ls hl => ?_)
    refine lv_iinc (v := (y12 + (1 : Int32))) (lv' := [(12, .int (y12 + (1 : Int32))), (11, .int w0), (0, .ref (ad 14 0 0)), (4, .ref (ad 18 0 0)), (5, .int x5), (6, .ref (ad 15 1 0)), (7, .ref (ad 16 1 0)), (8, .ref (ad 17 1 0)), (9, .ref (ad 18 1 0)), (10, .int y10)]) hM.1 hM.2.1 dL_would_167 hl (k := 9) rfl rfl (by decide) rfl (fun ls hl => ?_)
    refine lv_goto (tgt := 91) hM.1 hM.2.1 dL_would_170 (by decide) ?_
    exact hk0 S y10 w0 (y12 + (1 : Int32)) hq _ _ _ hX (lv_sub hl [2, 3, 4, 5, 6, 7, 8, 9, 1, 0] rfl)
  have L91 : ∀ {K : Mem → Int32 → Int32 → Prop} (hk : ∀ (S : Mem) (y10 : Int32) (y11 : Int32), K S y10 y11 → ∀ (H : Heap) (locs : List Loc) (ls : Array Slot), PW D ad cy (AW ad0 o0 sz) s.heap o S H locs → lv_has ls 14 [(0, .ref (ad 14 0 0)), (4, .ref (ad 18 0 0)), (5, .int x5), (6, .ref (ad 15 1 0)), (7, .ref (ad 16 1 0)), (8, .ref (ad 17 1 0)), (9, .ref (ad 18 1 0)), (10, .int y10), (11, .int y11)] → W p l e rmL_would s m args below meth c H locs 4 148 (MQ below (Qi D ad0 cy o0 sz Q) args s 4 148 (AW ad0 o0 sz)) (F0 m 173 ls [])), ∀ (n : Nat) (S : Mem) (y10 : Int32) (y11 : Int32) (y12 : Int32), vc_L_would_L91 Q K x5 n S y10 y11 y12 → ∀ (H : Heap) (locs : List Loc) (ls : Array Slot), PW D ad cy (AW ad0 o0 sz) s.heap o S H locs → lv_has ls 14 [(0, .ref (ad 14 0 0)), (4, .ref (ad 18 0 0)), (5, .int x5), (6, .ref (ad 15 1 0)), (7, .ref (ad 16 1 0)), (8, .ref (ad 17 1 0)), (9, .ref (ad 18 1 0)), (10, .int y10), (11, .int y11), (12, .int y12)] → W p l e rmL_would s m args below meth c H locs 4 148 (MQ below (Qi D ad0 cy o0 sz Q) args s 4 148 (AW ad0 o0 sz)) (F0 m 91 ls []) := by
    intro K hk n
    induction n with
    | zero =>
      intro S y10 y11 y12 hq
      rw [vc_L_would_L91] at hq
      exact hq.elim
    | succ n ih =>
      intro S y10 y11 y12 hq H locs ls hX hl
      rw [vc_L_would_L91] at hq
      refine lv_iload hM.1 hM.2.1 dL_would_91 (lv_at hl 9 rfl) ?_
      refine lv_aload hM.1 hM.2.1 dL_would_93 (lv_at hl 1 rfl) ?_
      refine lv_bipush (v := (15 : Int32)) hM.1 hM.2.1 dL_would_95 (by decide) ?_
      have c_10 := hq.1
      replace hq := hq.2
      refine r_iald hM hK hX hI.2.2.2.2.1 (a18 0 0) c_10 dL_would_97 ?_
      refine lv_icmp_ge (tgt := 173) hM.1 hM.2.1 dL_would_98 (by decide) (fun c_11 => ?_) (fun c_11 => ?_)
      · replace hq := hq.1 c_11
        exact hk S y10 y11 hq _ _ _ hX (lv_sub hl [0, 1, 2, 3, 4, 5, 6, 7, 8] rfl)
      replace hq := hq.2 c_11
      refine lv_iload hM.1 hM.2.1 dL_would_101 (lv_at hl 7 rfl) ?_
      refine lv_aload hM.1 hM.2.1 dL_would_103 (lv_at hl 3 rfl) ?_
      refine lv_bipush (v := (10 : Int32)) hM.1 hM.2.1 dL_would_105 (by decide) ?_
      refine lv_iload hM.1 hM.2.1 dL_would_107 (lv_at hl 9 rfl) ?_
      refine lv_imul hM.1 hM.2.1 dL_would_109 ?_
      refine lv_bipush (v := (6 : Int32)) hM.1 hM.2.1 dL_would_110 (by decide) ?_
      refine lv_iadd hM.1 hM.2.1 dL_would_112 ?_
      have c_12 := hq.1
      replace hq := hq.2
      refine r_iald hM hK hX hI.2.2.2.2.2.1 (a15 1 0) c_12 dL_would_113 ?_
      refine lv_iload hM.1 hM.2.1 dL_would_114 (lv_at hl 9 rfl) ?_
      refine lv_ishl hM.1 hM.2.1 dL_would_116 ?_
      refine lv_ior hM.1 hM.2.1 dL_would_117 ?_
      refine lv_istore (lv' := [(10, .int (y10 ||| ((S 15 1 0 (((10 : Int32) * y12) + (6 : Int32)).toNatClampNeg) <<< (y12 &&& 31)))), (0, .ref (ad 14 0 0)), (4, .ref (ad 18 0 0)), (5, .int x5), (6, .ref (ad 15 1 0)), (7, .ref (ad 16 1 0)), (8, .ref (ad 17 1 0)), (9, .ref (ad 18 1 0)), (11, .int y11), (12, .int y12)]) hM.1 hM.2.1 dL_would_118 hl (by decide) rfl (fun ls hl => ?_)
      refine lv_aload hM.1 hM.2.1 dL_would_120 (lv_at hl 4 rfl) ?_
      refine lv_bipush (v := (10 : Int32)) hM.1 hM.2.1 dL_would_122 (by decide) ?_
      refine lv_iload hM.1 hM.2.1 dL_would_124 (lv_at hl 9 rfl) ?_
      refine lv_imul hM.1 hM.2.1 dL_would_126 ?_
      refine lv_iconst (v := (4 : Int32)) hM.1 hM.2.1 dL_would_127 (by decide) ?_
      refine lv_iadd hM.1 hM.2.1 dL_would_128 ?_
      have c_13 := hq.1
      replace hq := hq.2
      refine r_iald hM hK hX hI.2.2.2.2.2.1 (a15 1 0) c_13 dL_would_129 ?_
      refine lv_aload hM.1 hM.2.1 dL_would_130 (lv_at hl 4 rfl) ?_
      refine lv_bipush (v := (10 : Int32)) hM.1 hM.2.1 dL_would_132 (by decide) ?_
      refine lv_iload hM.1 hM.2.1 dL_would_134 (lv_at hl 9 rfl) ?_
      refine lv_imul hM.1 hM.2.1 dL_would_136 ?_
      refine lv_iconst (v := (2 : Int32)) hM.1 hM.2.1 dL_would_137 (by decide) ?_
      refine lv_iadd hM.1 hM.2.1 dL_would_138 ?_
      have c_14 := hq.1
      replace hq := hq.2
      refine r_iald hM hK hX hI.2.2.2.2.2.1 (a15 1 0) c_14 dL_would_139 ?_
      refine lv_isub hM.1 hM.2.1 dL_would_140 ?_
      refine lv_aload hM.1 hM.2.1 dL_would_141 (lv_at hl 2 rfl) ?_
      refine lv_iconst (v := (1 : Int32)) hM.1 hM.2.1 dL_would_143 (by decide) ?_
      have c_15 := hq.1
      replace hq := hq.2
      refine r_iald hM hK hX hI.2.2.2.2.1 (a18 0 0) c_15 dL_would_144 ?_
      refine lv_isub hM.1 hM.2.1 dL_would_145 ?_
      refine cSi (As := [.int (((S 15 1 0 (((10 : Int32) * y12) + (4 : Int32)).toNatClampNeg) - (S 15 1 0 (((10 : Int32) * y12) + (2 : Int32)).toNatClampNeg)) - (S 18 0 0 (1 : Int32).toNatClampNeg))]) hM hK hX ⟨hI.1, trivial⟩ hA (met_L_size l D ad cy S (((S 15 1 0 (((10 : Int32) * y12) + (4 : Int32)).toNatClampNeg) - (S 15 1 0 (((10 : Int32) * y12) + (2 : Int32)).toNatClampNeg)) - (S 18 0 0 (1 : Int32).toNatClampNeg)) hq) (kL_size hM.2.2.2.2 ql_RL_36 (Nat.le_of_ble_eq_true rfl) (Nat.le_of_ble_eq_true rfl)) rfl hl.1 rfl (Nat.le_of_ble_eq_true rfl) dL_would_146 ⟨Nat.le_of_ble_eq_true rfl, Nat.le_of_ble_eq_true rfl⟩ (fun S_16 r_17 hq H locs hX => ?_)
      refine lv_istore (lv' := [(13, .int r_17), (10, .int (y10 ||| ((S 15 1 0 (((10 : Int32) * y12) + (6 : Int32)).toNatClampNeg) <<< (y12 &&& 31)))), (0, .ref (ad 14 0 0)), (4, .ref (ad 18 0 0)), (5, .int x5), (6, .ref (ad 15 1 0)), (7, .ref (ad 16 1 0)), (8, .ref (ad 17 1 0)), (9, .ref (ad 18 1 0)), (11, .int y11), (12, .int y12)]) hM.1 hM.2.1 dL_would_149 hl (by decide) rfl (fun ls hl => ?_)
      refine lv_iload hM.1 hM.2.1 dL_would_151 (lv_at hl 0 rfl) ?_
      refine lv_iload hM.1 hM.2.1 dL_would_153 (lv_at hl 9 rfl) ?_
      refine lv_icmp_le (tgt := 163) hM.1 hM.2.1 dL_would_155 (by decide) (fun c_18 => ?_) (fun c_18 => ?_)
      · replace hq := hq.1 c_18
        refine lv_iload hM.1 hM.2.1 dL_would_163 (lv_at hl 9 rfl) ?_
        exact J165 ih hk S_16 (y10 ||| ((S 15 1 0 (((10 : Int32) * y12) + (6 : Int32)).toNatClampNeg) <<< (y12 &&& 31))) y12 y11 hq _ _ _ hX (lv_sub hl [2, 3, 4, 5, 6, 7, 8, 1, 10] rfl)
      replace hq := hq.2 c_18
      refine lv_iload hM.1 hM.2.1 dL_would_158 (lv_at hl 0 rfl) ?_
      refine lv_goto (tgt := 165) hM.1 hM.2.1 dL_would_160 (by decide) ?_
      exact J165 ih hk S_16 (y10 ||| ((S 15 1 0 (((10 : Int32) * y12) + (6 : Int32)).toNatClampNeg) <<< (y12 &&& 31))) y12 r_17 hq _ _ _ hX (lv_sub hl [2, 3, 4, 5, 6, 7, 8, 1, 10] rfl)
  unfold vc_L_wouldR at hq
  refine lv_aload_n hM.1 hM.2.1 dL_would_24 rfl (lv_at hl 5 rfl) ?_
  refine lv_aload hM.1 hM.2.1 dL_would_25 (lv_at hl 3 rfl) ?_
  refine cSv (As := [.ref (ad 15 0 0), .ref (ad 15 1 0)]) hM hK hX ⟨hI.1, hI.2.1, hI.2.2.2.2.2.1, trivial⟩ hA (met_L_copy l D ad cy S 15 0 0 60 15 1 0 60 (fun _ _ => (a15 0 0)) (fun _ _ => (a15 1 0)) hq) (kL_copy hM.2.2.2.2 ql_RL_67 (Nat.le_of_ble_eq_true rfl) (Nat.le_of_ble_eq_true rfl)) rfl hl.1 rfl (Nat.le_of_ble_eq_true rfl) dL_would_27 ⟨Nat.le_of_ble_eq_true rfl, Nat.le_of_ble_eq_true rfl⟩ (fun S_1 hq H locs hX => ?_)
  refine lv_aload_n hM.1 hM.2.1 dL_would_30 rfl (lv_at hl 6 rfl) ?_
  refine lv_aload hM.1 hM.2.1 dL_would_31 (lv_at hl 2 rfl) ?_
  refine cSv (As := [.ref (ad 16 0 0), .ref (ad 16 1 0)]) hM hK hX ⟨hI.1, hI.2.2.1, hI.2.2.2.2.2.2.1, trivial⟩ hA (met_L_copy l D ad cy S_1 16 0 0 36 16 1 0 36 (fun _ _ => (a16 0 0)) (fun _ _ => (a16 1 0)) hq) (kL_copy hM.2.2.2.2 ql_RL_67 (Nat.le_of_ble_eq_true rfl) (Nat.le_of_ble_eq_true rfl)) rfl hl.1 rfl (Nat.le_of_ble_eq_true rfl) dL_would_33 ⟨Nat.le_of_ble_eq_true rfl, Nat.le_of_ble_eq_true rfl⟩ (fun S_2 hq H locs hX => ?_)
  refine lv_aload_n hM.1 hM.2.1 dL_would_36 rfl (lv_at hl 7 rfl) ?_
  refine lv_aload hM.1 hM.2.1 dL_would_37 (lv_at hl 1 rfl) ?_
  refine cSv (As := [.ref (ad 17 0 0), .ref (ad 17 1 0)]) hM hK hX ⟨hI.1, hI.2.2.2.1, hI.2.2.2.2.2.2.2.1, trivial⟩ hA (met_L_copy l D ad cy S_2 17 0 0 36 17 1 0 36 (fun _ _ => (a17 0 0)) (fun _ _ => (a17 1 0)) hq) (kL_copy hM.2.2.2.2 ql_RL_67 (Nat.le_of_ble_eq_true rfl) (Nat.le_of_ble_eq_true rfl)) rfl hl.1 rfl (Nat.le_of_ble_eq_true rfl) dL_would_39 ⟨Nat.le_of_ble_eq_true rfl, Nat.le_of_ble_eq_true rfl⟩ (fun S_3 hq H locs hX => ?_)
  refine lv_aload hM.1 hM.2.1 dL_would_42 (lv_at hl 8 rfl) ?_
  refine lv_aload hM.1 hM.2.1 dL_would_44 (lv_at hl 0 rfl) ?_
  refine cSv (As := [.ref (ad 18 0 0), .ref (ad 18 1 0)]) hM hK hX ⟨hI.1, hI.2.2.2.2.1, hI.2.2.2.2.2.2.2.2.1, trivial⟩ hA (met_L_copy l D ad cy S_3 18 0 0 16 18 1 0 16 (fun _ _ => (a18 0 0)) (fun _ _ => (a18 1 0)) hq) (kL_copy hM.2.2.2.2 ql_RL_67 (Nat.le_of_ble_eq_true rfl) (Nat.le_of_ble_eq_true rfl)) rfl hl.1 rfl (Nat.le_of_ble_eq_true rfl) dL_would_46 ⟨Nat.le_of_ble_eq_true rfl, Nat.le_of_ble_eq_true rfl⟩ (fun S_4 hq H locs hX => ?_)
  refine lv_iconst (v := (0 : Int32)) hM.1 hM.2.1 dL_would_49 (by decide) ?_
  refine lv_istore (lv' := [(10, .int (0 : Int32)), (9, .ref (ad 18 1 0)), (8, .ref (ad 17 1 0)), (7, .ref (ad 16 1 0)), (6, .ref (ad 15 1 0)), (0, .ref (ad 14 0 0)), (1, .ref (ad 15 0 0)), (2, .ref (ad 16 0 0)), (3, .ref (ad 17 0 0)), (4, .ref (ad 18 0 0)), (5, .int x5)]) hM.1 hM.2.1 dL_would_50 hl (by decide) rfl (fun ls hl => ?_)
  obtain ⟨k0, hq⟩ := hq
  refine L52 (fun S_9 hq H locs ls hX hl => ?_) k0 S_4 (0 : Int32) hq _ _ _ hX (lv_sub hl [5, 9, 10, 4, 3, 2, 1, 0] rfl)
  refine lv_iconst (v := (0 : Int32)) hM.1 hM.2.1 dL_would_82 (by decide) ?_
  refine lv_istore (lv' := [(10, .int (0 : Int32)), (0, .ref (ad 14 0 0)), (4, .ref (ad 18 0 0)), (5, .int x5), (6, .ref (ad 15 1 0)), (7, .ref (ad 16 1 0)), (8, .ref (ad 17 1 0)), (9, .ref (ad 18 1 0))]) hM.1 hM.2.1 dL_would_83 hl (by decide) rfl (fun ls hl => ?_)
  refine lv_iconst (v := (0 : Int32)) hM.1 hM.2.1 dL_would_85 (by decide) ?_
  refine lv_istore (lv' := [(11, .int (0 : Int32)), (10, .int (0 : Int32)), (0, .ref (ad 14 0 0)), (4, .ref (ad 18 0 0)), (5, .int x5), (6, .ref (ad 15 1 0)), (7, .ref (ad 16 1 0)), (8, .ref (ad 17 1 0)), (9, .ref (ad 18 1 0))]) hM.1 hM.2.1 dL_would_86 hl (by decide) rfl (fun ls hl => ?_)
  refine lv_iconst (v := (0 : Int32)) hM.1 hM.2.1 dL_would_88 (by decide) ?_
  refine lv_istore (lv' := [(12, .int (0 : Int32)), (11, .int (0 : Int32)), (10, .int (0 : Int32)), (0, .ref (ad 14 0 0)), (4, .ref (ad 18 0 0)), (5, .int x5), (6, .ref (ad 15 1 0)), (7, .ref (ad 16 1 0)), (8, .ref (ad 17 1 0)), (9, .ref (ad 18 1 0))]) hM.1 hM.2.1 dL_would_89 hl (by decide) rfl (fun ls hl => ?_)
  obtain ⟨k0, hq⟩ := hq
  refine L91 (fun S_19 y10_20 y11_21 hq H locs ls hX hl => ?_) k0 S_9 (0 : Int32) (0 : Int32) (0 : Int32) hq _ _ _ hX (lv_sub hl [3, 4, 5, 6, 7, 8, 9, 2, 1, 0] rfl)
  refine lv_aload_n hM.1 hM.2.1 dL_would_173 rfl (lv_at hl 0 rfl) ?_
  refine lv_iload hM.1 hM.2.1 dL_would_174 (lv_at hl 2 rfl) ?_
  refine lv_iconst (v := (0 : Int32)) hM.1 hM.2.1 dL_would_176 (by decide) ?_
  refine cVi (As := [.int x5, .int (0 : Int32)]) hM hK hX ⟨hI.1, trivial⟩ hA (met_X6_ifStill l D ad cy S_19 x5 (0 : Int32) hq) (kX6_ifStill hM.2.2.2.2 ql_RL_74 (Nat.le_of_ble_eq_true rfl) (Nat.le_of_ble_eq_true rfl)) (v14 hK hX (hI.1 _ m14)) rfl hl.1 rfl (Nat.le_of_ble_eq_true rfl) dL_would_177 ⟨Nat.le_of_ble_eq_true rfl, Nat.le_of_ble_eq_true rfl⟩ (fun S_22 r_23 hq H locs hX => ?_)
  refine lv_aload hM.1 hM.2.1 dL_would_180 (lv_at hl 3 rfl) ?_
  refine lv_aload hM.1 hM.2.1 dL_would_182 (lv_at hl 4 rfl) ?_
  refine lv_aload hM.1 hM.2.1 dL_would_184 (lv_at hl 5 rfl) ?_
  refine lv_aload hM.1 hM.2.1 dL_would_186 (lv_at hl 6 rfl) ?_
  refine cSi (As := [.ref (ad 15 1 0), .ref (ad 16 1 0), .ref (ad 17 1 0), .ref (ad 18 1 0)]) hM hK hX ⟨hI.1, hI.2.2.2.2.2.1, hI.2.2.2.2.2.2.1, hI.2.2.2.2.2.2.2.1, hI.2.2.2.2.2.2.2.2.1, trivial⟩ hA (met_L_mean l D ad cy S_22 1 hq) (kL_mean hM.2.2.2.2 ql_RL_24 (Nat.le_of_ble_eq_true rfl) (Nat.le_of_ble_eq_true rfl)) rfl hl.1 rfl (Nat.le_of_ble_eq_true rfl) dL_would_188 ⟨Nat.le_of_ble_eq_true rfl, Nat.le_of_ble_eq_true rfl⟩ (fun S_24 r_25 hq H locs hX => ?_)
  refine lv_icmp_ne (tgt := 243) hM.1 hM.2.1 dL_would_191 (by decide) (fun c_26 => ?_) (fun c_26 => ?_)
  · replace hq := hq.1 c_26
    refine lv_iconst (v := (0 : Int32)) hM.1 hM.2.1 dL_would_243 (by decide) ?_
    exact W.zret hM.1 hM.2.1 hret (nar_z hq.1).1 (fun t ht hW => ⟨⟨(0 : Int32), S_24, rfl, hq.2, by show va_P D vwCl (wd ad0 cy o0 S_24) t.heap; rw [ht]; exact hend _ _ _ hX⟩, hX.2.2.F ht⟩) hX.2.2.2.2 dL_would_244 hlocks
  replace hq := hq.2 c_26
  refine lv_aload_n hM.1 hM.2.1 dL_would_194 rfl (lv_at hl 0 rfl) ?_
  refine lv_iload hM.1 hM.2.1 dL_would_195 (lv_at hl 2 rfl) ?_
  refine lv_iconst (v := (1 : Int32)) hM.1 hM.2.1 dL_would_197 (by decide) ?_
  refine cVi (As := [.int x5, .int (1 : Int32)]) hM hK hX ⟨hI.1, trivial⟩ hA (met_X6_ifStill l D ad cy S_24 x5 (1 : Int32) hq) (kX6_ifStill hM.2.2.2.2 ql_RL_74 (Nat.le_of_ble_eq_true rfl) (Nat.le_of_ble_eq_true rfl)) (v14 hK hX (hI.1 _ m14)) rfl hl.1 rfl (Nat.le_of_ble_eq_true rfl) dL_would_198 ⟨Nat.le_of_ble_eq_true rfl, Nat.le_of_ble_eq_true rfl⟩ (fun S_27 r_28 hq H locs hX => ?_)
  refine lv_iload hM.1 hM.2.1 dL_would_201 (lv_at hl 7 rfl) ?_
  refine lv_icmp_ne (tgt := 243) hM.1 hM.2.1 dL_would_203 (by decide) (fun c_29 => ?_) (fun c_29 => ?_)
  · replace hq := hq.1 c_29
    refine lv_iconst (v := (0 : Int32)) hM.1 hM.2.1 dL_would_243 (by decide) ?_
    exact W.zret hM.1 hM.2.1 hret (nar_z hq.1).1 (fun t ht hW => ⟨⟨(0 : Int32), S_27, rfl, hq.2, by show va_P D vwCl (wd ad0 cy o0 S_27) t.heap; rw [ht]; exact hend _ _ _ hX⟩, hX.2.2.F ht⟩) hX.2.2.2.2 dL_would_244 hlocks
  replace hq := hq.2 c_29
  refine lv_aload_n hM.1 hM.2.1 dL_would_206 rfl (lv_at hl 0 rfl) ?_
  refine lv_iload hM.1 hM.2.1 dL_would_207 (lv_at hl 2 rfl) ?_
  refine lv_iconst (v := (2 : Int32)) hM.1 hM.2.1 dL_would_209 (by decide) ?_
  refine cVi (As := [.int x5, .int (2 : Int32)]) hM hK hX ⟨hI.1, trivial⟩ hA (met_X6_ifStill l D ad cy S_27 x5 (2 : Int32) hq) (kX6_ifStill hM.2.2.2.2 ql_RL_74 (Nat.le_of_ble_eq_true rfl) (Nat.le_of_ble_eq_true rfl)) (v14 hK hX (hI.1 _ m14)) rfl hl.1 rfl (Nat.le_of_ble_eq_true rfl) dL_would_210 ⟨Nat.le_of_ble_eq_true rfl, Nat.le_of_ble_eq_true rfl⟩ (fun S_30 r_31 hq H locs hX => ?_)
  refine lv_aload hM.1 hM.2.1 dL_would_213 (lv_at hl 6 rfl) ?_
  refine lv_bipush (v := (13 : Int32)) hM.1 hM.2.1 dL_would_215 (by decide) ?_
  have c_32 := hq.1
  replace hq := hq.2
  refine r_iald hM hK hX hI.2.2.2.2.2.2.2.2.1 (a18 1 0) c_32 dL_would_217 ?_
  refine lv_aload hM.1 hM.2.1 dL_would_218 (lv_at hl 1 rfl) ?_
  refine lv_bipush (v := (13 : Int32)) hM.1 hM.2.1 dL_would_220 (by decide) ?_
  have c_33 := hq.1
  replace hq := hq.2
  refine r_iald hM hK hX hI.2.2.2.2.1 (a18 0 0) c_33 dL_would_222 ?_
  refine lv_isub hM.1 hM.2.1 dL_would_223 ?_
  refine lv_icmp_ne (tgt := 243) hM.1 hM.2.1 dL_would_224 (by decide) (fun c_34 => ?_) (fun c_34 => ?_)
  · replace hq := hq.1 c_34
    refine lv_iconst (v := (0 : Int32)) hM.1 hM.2.1 dL_would_243 (by decide) ?_
    exact W.zret hM.1 hM.2.1 hret (nar_z hq.1).1 (fun t ht hW => ⟨⟨(0 : Int32), S_30, rfl, hq.2, by show va_P D vwCl (wd ad0 cy o0 S_30) t.heap; rw [ht]; exact hend _ _ _ hX⟩, hX.2.2.F ht⟩) hX.2.2.2.2 dL_would_244 hlocks
  replace hq := hq.2 c_34
  refine lv_aload_n hM.1 hM.2.1 dL_would_227 rfl (lv_at hl 0 rfl) ?_
  refine lv_iload hM.1 hM.2.1 dL_would_228 (lv_at hl 2 rfl) ?_
  refine lv_iconst (v := (3 : Int32)) hM.1 hM.2.1 dL_would_230 (by decide) ?_
  refine cVi (As := [.int x5, .int (3 : Int32)]) hM hK hX ⟨hI.1, trivial⟩ hA (met_X6_ifStill l D ad cy S_30 x5 (3 : Int32) hq) (kX6_ifStill hM.2.2.2.2 ql_RL_74 (Nat.le_of_ble_eq_true rfl) (Nat.le_of_ble_eq_true rfl)) (v14 hK hX (hI.1 _ m14)) rfl hl.1 rfl (Nat.le_of_ble_eq_true rfl) dL_would_231 ⟨Nat.le_of_ble_eq_true rfl, Nat.le_of_ble_eq_true rfl⟩ (fun S_35 r_36 hq H locs hX => ?_)
  refine lv_iload hM.1 hM.2.1 dL_would_234 (lv_at hl 8 rfl) ?_
  refine lv_icmp_ne (tgt := 243) hM.1 hM.2.1 dL_would_236 (by decide) (fun c_37 => ?_) (fun c_37 => ?_)
  · replace hq := hq.1 c_37
    refine lv_iconst (v := (0 : Int32)) hM.1 hM.2.1 dL_would_243 (by decide) ?_
    exact W.zret hM.1 hM.2.1 hret (nar_z hq.1).1 (fun t ht hW => ⟨⟨(0 : Int32), S_35, rfl, hq.2, by show va_P D vwCl (wd ad0 cy o0 S_35) t.heap; rw [ht]; exact hend _ _ _ hX⟩, hX.2.2.F ht⟩) hX.2.2.2.2 dL_would_244 hlocks
  replace hq := hq.2 c_37
  refine lv_iconst (v := (1 : Int32)) hM.1 hM.2.1 dL_would_239 (by decide) ?_
  refine lv_goto (tgt := 244) hM.1 hM.2.1 dL_would_240 (by decide) ?_
  exact W.zret hM.1 hM.2.1 hret (nar_z hq.1).1 (fun t ht hW => ⟨⟨(1 : Int32), S_35, rfl, hq.2, by show va_P D vwCl (wd ad0 cy o0 S_35) t.heap; rw [ht]; exact hend _ _ _ hX⟩, hX.2.2.F ht⟩) hX.2.2.2.2 dL_would_244 hlocks
