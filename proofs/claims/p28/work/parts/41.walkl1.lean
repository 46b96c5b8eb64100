def rmL_hour : Room := { frames := 3, cells := 0, slots := 0, locals := 78 }
theorem kL_hour {R : Room} {s : State} {args : Array Value} {own : String} {index : Nat} (ht : ∀ w ∈ lw_all, w.before args s = true) (hl : Cond.methodLink own index yL_hour ∈ lw_all) (hf : rmL_hour.frames + 1 ≤ R.frames) (hlo : 8 + (10 + 11) + rmL_hour.locals ≤ R.locals) : CallB R s args own index yL_hour cL_hour 10 (some Jvm.ClassFile.FieldType.int) (wA yL_hour cL_hour 10 (some Jvm.ClassFile.FieldType.int)) rmL_hour 0 0 5 ∧ (Cond.static yL_hour).before args s = true := va_cwS 5 ht (good_S hl qt_yL_hour qi_RL qc_yL_hour) rfl rfl rfl (by decide +kernel) ⟨hf, hlo⟩
set_option maxRecDepth 100000 in
set_option maxHeartbeats 4000000 in
theorem met_L_hour (l : Launch) (D : va_G) (ad : Adr) (cy : Nat → ClassId) (S : Mem) (PP : Nat) (x4 : Int32) {Q : Mem → Int32 → Prop} (hq : vc_L_hour S PP x4 Q) : Ci l yL_hour (wA yL_hour cL_hour 10 (some Jvm.ClassFile.FieldType.int)) rmL_hour D ad cy (IN [(15, PP, 0), (16, PP, 0), (17, PP, 0), (18, PP, 0)]) [.ref (ad 15 PP 0), .ref (ad 16 PP 0), .ref (ad 17 PP 0), .ref (ad 18 PP 0), .int x4] S Q := by
  intro o sz hI
  refine mkC (own := RL) (lv := [(0, .ref (ad 15 PP 0)), (1, .ref (ad 16 PP 0)), (2, .ref (ad 17 PP 0)), (3, .ref (ad 18 PP 0)), (4, .int x4)]) (by decide) rfl (Nat.le_of_ble_eq_true rfl) rfl ?_
  intro p e s m below meth c ls hsz hM hlocks hret hK hA hX hl
  have J61 : ∀ {K0 : Mem → Int32 → Int32 → Prop} (hk0 : ∀ (S : Mem) (y5 : Int32) (y6 : Int32), K0 S y5 y6 → ∀ (H : Heap) (locs : List Loc) (ls : Array Slot), PW D ad cy (AW ad o sz) s.heap o S H locs → lv_has ls 10 [(0, .ref (ad 15 PP 0)), (1, .ref (ad 16 PP 0)), (2, .ref (ad 17 PP 0)), (3, .ref (ad 18 PP 0)), (5, .int y5), (6, .int y6)] → Wi D ad cy o sz Q p l e rmL_hour s m [.ref (ad 15 PP 0), .ref (ad 16 PP 0), .ref (ad 17 PP 0), .ref (ad 18 PP 0), .int x4] below meth c H locs (F0 m 29 ls [])), ∀ {K1 : Mem → Int32 → Prop} (hk1 : ∀ (S : Mem) (y5 : Int32), K1 S y5 → ∀ (H : Heap) (locs : List Loc) (ls : Array Slot), PW D ad cy (AW ad o sz) s.heap o S H locs → lv_has ls 10 [(0, .ref (ad 15 PP 0)), (1, .ref (ad 16 PP 0)), (2, .ref (ad 17 PP 0)), (3, .ref (ad 18 PP 0)), (5, .int y5)] → Wi D ad cy o sz Q p l e rmL_hour s m [.ref (ad 15 PP 0), .ref (ad 16 PP 0), .ref (ad 17 PP 0), .ref (ad 18 PP 0), .int x4] below meth c H locs (F0 m 69 ls [])), ∀ (S : Mem) (y5 : Int32) (y6 : Int32) (w1 : Int32) (w2 : Int32) (w3 : Int32), vc_L_hour_J61 Q K0 K1 PP x4 S y5 y6 w1 w2 w3 → ∀ (H : Heap) (locs : List Loc) (ls : Array Slot), PW D ad cy (AW ad o sz) s.heap o S H locs → lv_has ls 10 [(0, .ref (ad 15 PP 0)), (1, .ref (ad 16 PP 0)), (2, .ref (ad 17 PP 0)), (3, .ref (ad 18 PP 0)), (5, .int y5), (6, .int y6)] → Wi D ad cy o sz Q p l e rmL_hour s m [.ref (ad 15 PP 0), .ref (ad 16 PP 0), .ref (ad 17 PP 0), .ref (ad 18 PP 0), .int x4] below meth c H locs (F0 m 61 ls [.int w3, .int w2, .int w1, .ref (ad 18 PP 0)]) := by
    intro K0 hk0 K1 hk1 S y5 y6 w1 w2 w3 hq H locs ls hX hl
    unfold vc_L_hour_J61 at hq
    refine lv_iadd hM.1 hM.2.1 dL_hour_61 ?_
    have c_20 := hq.1
    replace hq := hq.2
    refine r_iast hM hK hX hI.2.2.2.2.1 (a18 PP 0) c_20 dL_hour_62 (fun S_19 e_21 H locs hX => ?_)
    replace hq := hq S_19 e_21
    refine lv_iinc (v := (y6 + (1 : Int32))) (lv' := [(6, .int (y6 + (1 : Int32))), (0, .ref (ad 15 PP 0)), (1, .ref (ad 16 PP 0)), (2, .ref (ad 17 PP 0)), (3, .ref (ad 18 PP 0)), (5, .int y5)]) hM.1 hM.2.1 dL_hour_63 hl (k := 5) rfl rfl (by decide) rfl (fun ls hl => ?_)
    refine lv_goto (tgt := 29) hM.1 hM.2.1 dL_hour_66 (by decide) ?_
    exact hk0 S_19 y5 (y6 + (1 : Int32)) hq _ _ _ hX (lv_sub hl [1, 2, 3, 4, 5, 0] rfl)
  have L29 : ∀ {K : Mem → Int32 → Prop} (hk : ∀ (S : Mem) (y5 : Int32), K S y5 → ∀ (H : Heap) (locs : List Loc) (ls : Array Slot), PW D ad cy (AW ad o sz) s.heap o S H locs → lv_has ls 10 [(0, .ref (ad 15 PP 0)), (1, .ref (ad 16 PP 0)), (2, .ref (ad 17 PP 0)), (3, .ref (ad 18 PP 0)), (5, .int y5)] → Wi D ad cy o sz Q p l e rmL_hour s m [.ref (ad 15 PP 0), .ref (ad 16 PP 0), .ref (ad 17 PP 0), .ref (ad 18 PP 0), .int x4] below meth c H locs (F0 m 69 ls [])), ∀ (n : Nat) (S : Mem) (y5 : Int32) (y6 : Int32), vc_L_hour_L29 Q K PP x4 n S y5 y6 → ∀ (H : Heap) (locs : List Loc) (ls : Array Slot), PW D ad cy (AW ad o sz) s.heap o S H locs → lv_has ls 10 [(0, .ref (ad 15 PP 0)), (1, .ref (ad 16 PP 0)), (2, .ref (ad 17 PP 0)), (3, .ref (ad 18 PP 0)), (5, .int y5), (6, .int y6)] → Wi D ad cy o sz Q p l e rmL_hour s m [.ref (ad 15 PP 0), .ref (ad 16 PP 0), .ref (ad 17 PP 0), .ref (ad 18 PP 0), .int x4] below meth c H locs (F0 m 29 ls []) := by
    intro K hk n
    induction n with
    | zero =>
      intro S y5 y6 hq
      rw [vc_L_hour_L29] at hq
      exact hq.elim
    | succ n ih =>
      intro S y5 y6 hq H locs ls hX hl
      rw [vc_L_hour_L29] at hq
      refine lv_iload hM.1 hM.2.1 dL_hour_29 (lv_at hl 5 rfl) ?_
      refine lv_iconst (v := (4 : Int32)) hM.1 hM.2.1 dL_hour_31 (by decide) ?_
      refine lv_icmp_ge (tgt := 69) hM.1 hM.2.1 dL_hour_32 (by decide) (fun c_13 => ?_) (fun c_13 => ?_)
      · replace hq := hq.1 c_13
        exact hk S y5 hq _ _ _ hX (lv_sub hl [0, 1, 2, 3, 4] rfl)
      replace hq := hq.2 c_13
      refine lv_aload_n hM.1 hM.2.1 dL_hour_35 rfl (lv_at hl 3 rfl) ?_
      refine lv_bipush (v := (8 : Int32)) hM.1 hM.2.1 dL_hour_36 (by decide) ?_
      refine lv_iload hM.1 hM.2.1 dL_hour_38 (lv_at hl 5 rfl) ?_
      refine lv_iadd hM.1 hM.2.1 dL_hour_40 ?_
      refine lv_dup2_11 hM.1 hM.2.1 dL_hour_41 rfl rfl ?_
      have c_14 := hq.1
      replace hq := hq.2
      refine r_iald hM hK hX hI.2.2.2.2.1 (a18 PP 0) c_14 dL_hour_42 ?_
      refine lv_aload_n hM.1 hM.2.1 dL_hour_43 rfl (lv_at hl 3 rfl) ?_
      refine lv_iconst (v := (0 : Int32)) hM.1 hM.2.1 dL_hour_44 (by decide) ?_
      have c_15 := hq.1
      replace hq := hq.2
      refine r_iald hM hK hX hI.2.2.2.2.1 (a18 PP 0) c_15 dL_hour_45 ?_
      refine lv_aload_n hM.1 hM.2.1 dL_hour_46 rfl (lv_at hl 3 rfl) ?_
      refine lv_iconst (v := (4 : Int32)) hM.1 hM.2.1 dL_hour_47 (by decide) ?_
      refine lv_iload hM.1 hM.2.1 dL_hour_48 (lv_at hl 5 rfl) ?_
      refine lv_iadd hM.1 hM.2.1 dL_hour_50 ?_
      have c_16 := hq.1
      replace hq := hq.2
      refine r_iald hM hK hX hI.2.2.2.2.1 (a18 PP 0) c_16 dL_hour_51 ?_
      have c_17 := hq.1
      replace hq := hq.2
      refine lv_irem hM.1 hM.2.1 dL_hour_52 c_17 ?_
      refine lv_if_ne (tgt := 60) hM.1 hM.2.1 dL_hour_53 (by decide) (fun c_18 => ?_) (fun c_18 => ?_)
      · replace hq := hq.1 c_18
        refine lv_iconst (v := (0 : Int32)) hM.1 hM.2.1 dL_hour_60 (by decide) ?_
        exact J61 ih hk S y5 y6 ((8 : Int32) + y6) (S 18 PP 0 ((8 : Int32) + y6).toNatClampNeg) (0 : Int32) hq _ _ _ hX (lv_sub hl [0, 1, 2, 3, 4, 5] rfl)
      replace hq := hq.2 c_18
      refine lv_iconst (v := (1 : Int32)) hM.1 hM.2.1 dL_hour_56 (by decide) ?_
      refine lv_goto (tgt := 61) hM.1 hM.2.1 dL_hour_57 (by decide) ?_
      exact J61 ih hk S y5 y6 ((8 : Int32) + y6) (S 18 PP 0 ((8 : Int32) + y6).toNatClampNeg) (1 : Int32) hq _ _ _ hX (lv_sub hl [0, 1, 2, 3, 4, 5] rfl)
  have J230 : ∀ {K0 : Mem → Int32 → Int32 → Prop} (hk0 : ∀ (S : Mem) (y5 : Int32) (y6 : Int32), K0 S y5 y6 → ∀ (H : Heap) (locs : List Loc) (ls : Array Slot), PW D ad cy (AW ad o sz) s.heap o S H locs → lv_has ls 10 [(0, .ref (ad 15 PP 0)), (1, .ref (ad 16 PP 0)), (2, .ref (ad 17 PP 0)), (3, .ref (ad 18 PP 0)), (5, .int y5), (6, .int y6)] → Wi D ad cy o sz Q p l e rmL_hour s m [.ref (ad 15 PP 0), .ref (ad 16 PP 0), .ref (ad 17 PP 0), .ref (ad 18 PP 0), .int x4] below meth c H locs (F0 m 72 ls [])), ∀ {K1 : Mem → Int32 → Prop} (hk1 : ∀ (S : Mem) (y5 : Int32), K1 S y5 → ∀ (H : Heap) (locs : List Loc) (ls : Array Slot), PW D ad cy (AW ad o sz) s.heap o S H locs → lv_has ls 10 [(0, .ref (ad 15 PP 0)), (1, .ref (ad 16 PP 0)), (2, .ref (ad 17 PP 0)), (3, .ref (ad 18 PP 0)), (5, .int y5)] → Wi D ad cy o sz Q p l e rmL_hour s m [.ref (ad 15 PP 0), .ref (ad 16 PP 0), .ref (ad 17 PP 0), .ref (ad 18 PP 0), .int x4] below meth c H locs (F0 m 236 ls [])), ∀ (S : Mem) (y5 : Int32) (y6 : Int32), vc_L_hour_J230 Q K0 K1 PP x4 S y5 y6 → ∀ (H : Heap) (locs : List Loc) (ls : Array Slot), PW D ad cy (AW ad o sz) s.heap o S H locs → lv_has ls 10 [(0, .ref (ad 15 PP 0)), (1, .ref (ad 16 PP 0)), (2, .ref (ad 17 PP 0)), (3, .ref (ad 18 PP 0)), (5, .int y5), (6, .int y6)] → Wi D ad cy o sz Q p l e rmL_hour s m [.ref (ad 15 PP 0), .ref (ad 16 PP 0), .ref (ad 17 PP 0), .ref (ad 18 PP 0), .int x4] below meth c H locs (F0 m 230 ls []) := by
    intro K0 hk0 K1 hk1 S y5 y6 hq H locs ls hX hl
    unfold vc_L_hour_J230 at hq
    refine lv_iinc (v := (y6 + (1 : Int32))) (lv' := [(6, .int (y6 + (1 : Int32))), (0, .ref (ad 15 PP 0)), (1, .ref (ad 16 PP 0)), (2, .ref (ad 17 PP 0)), (3, .ref (ad 18 PP 0)), (5, .int y5)]) hM.1 hM.2.1 dL_hour_230 hl (k := 5) rfl rfl (by decide) rfl (fun ls hl => ?_)
    refine lv_goto (tgt := 72) hM.1 hM.2.1 dL_hour_233 (by decide) ?_
    exact hk0 S y5 (y6 + (1 : Int32)) hq _ _ _ hX (lv_sub hl [1, 2, 3, 4, 5, 0] rfl)
  have L122 : ∀ {K : Mem → Int32 → Int32 → Int32 → Prop} (hk : ∀ (S : Mem) (y5 : Int32) (y6 : Int32) (y7 : Int32), K S y5 y6 y7 → ∀ (H : Heap) (locs : List Loc) (ls : Array Slot), PW D ad cy (AW ad o sz) s.heap o S H locs → lv_has ls 10 [(0, .ref (ad 15 PP 0)), (1, .ref (ad 16 PP 0)), (2, .ref (ad 17 PP 0)), (3, .ref (ad 18 PP 0)), (5, .int y5), (6, .int y6), (7, .int y7)] → Wi D ad cy o sz Q p l e rmL_hour s m [.ref (ad 15 PP 0), .ref (ad 16 PP 0), .ref (ad 17 PP 0), .ref (ad 18 PP 0), .int x4] below meth c H locs (F0 m 177 ls [])), ∀ (n : Nat) (S : Mem) (y5 : Int32) (y6 : Int32) (y7 : Int32) (y8 : Int32), vc_L_hour_L122 Q K PP x4 n S y5 y6 y7 y8 → ∀ (H : Heap) (locs : List Loc) (ls : Array Slot), PW D ad cy (AW ad o sz) s.heap o S H locs → lv_has ls 10 [(0, .ref (ad 15 PP 0)), (1, .ref (ad 16 PP 0)), (2, .ref (ad 17 PP 0)), (3, .ref (ad 18 PP 0)), (5, .int y5), (6, .int y6), (7, .int y7), (8, .int y8)] → Wi D ad cy o sz Q p l e rmL_hour s m [.ref (ad 15 PP 0), .ref (ad 16 PP 0), .ref (ad 17 PP 0), .ref (ad 18 PP 0), .int x4] below meth c H locs (F0 m 122 ls []) := by
    intro K hk n
    induction n with
    | zero =>
      intro S y5 y6 y7 y8 hq
      rw [vc_L_hour_L122] at hq
      exact hq.elim
    | succ n ih =>
      intro S y5 y6 y7 y8 hq H locs ls hX hl
      rw [vc_L_hour_L122] at hq
      refine lv_iload hM.1 hM.2.1 dL_hour_122 (lv_at hl 7 rfl) ?_
      refine lv_if_le (tgt := 177) hM.1 hM.2.1 dL_hour_124 (by decide) (fun c_37 => ?_) (fun c_37 => ?_)
      · replace hq := hq.1 c_37
        exact hk S y5 y6 y7 hq _ _ _ hX (lv_sub hl [0, 1, 2, 3, 4, 5, 6] rfl)
      replace hq := hq.2 c_37
      refine lv_aload_n hM.1 hM.2.1 dL_hour_127 rfl (lv_at hl 1 rfl) ?_
      refine lv_bipush (v := (6 : Int32)) hM.1 hM.2.1 dL_hour_128 (by decide) ?_
      refine lv_iload hM.1 hM.2.1 dL_hour_130 (lv_at hl 5 rfl) ?_
      refine lv_imul hM.1 hM.2.1 dL_hour_132 ?_
      refine lv_iload hM.1 hM.2.1 dL_hour_133 (lv_at hl 7 rfl) ?_
      refine lv_iadd hM.1 hM.2.1 dL_hour_135 ?_
      refine lv_aload_n hM.1 hM.2.1 dL_hour_136 rfl (lv_at hl 1 rfl) ?_
      refine lv_bipush (v := (6 : Int32)) hM.1 hM.2.1 dL_hour_137 (by decide) ?_
      refine lv_iload hM.1 hM.2.1 dL_hour_139 (lv_at hl 5 rfl) ?_
      refine lv_imul hM.1 hM.2.1 dL_hour_141 ?_
      refine lv_iload hM.1 hM.2.1 dL_hour_142 (lv_at hl 7 rfl) ?_
      refine lv_iadd hM.1 hM.2.1 dL_hour_144 ?_
      refine lv_iconst (v := (1 : Int32)) hM.1 hM.2.1 dL_hour_145 (by decide) ?_
      refine lv_isub hM.1 hM.2.1 dL_hour_146 ?_
      have c_38 := hq.1
      replace hq := hq.2
      refine r_iald hM hK hX hI.2.2.1 (a16 PP 0) c_38 dL_hour_147 ?_
      have c_40 := hq.1
      replace hq := hq.2
      refine r_iast hM hK hX hI.2.2.1 (a16 PP 0) c_40 dL_hour_148 (fun S_39 e_41 H locs hX => ?_)
      replace hq := hq S_39 e_41
      refine lv_aload_n hM.1 hM.2.1 dL_hour_149 rfl (lv_at hl 2 rfl) ?_
      refine lv_bipush (v := (6 : Int32)) hM.1 hM.2.1 dL_hour_150 (by decide) ?_
      refine lv_iload hM.1 hM.2.1 dL_hour_152 (lv_at hl 5 rfl) ?_
      refine lv_imul hM.1 hM.2.1 dL_hour_154 ?_
      refine lv_iload hM.1 hM.2.1 dL_hour_155 (lv_at hl 7 rfl) ?_
      refine lv_iadd hM.1 hM.2.1 dL_hour_157 ?_
      refine lv_aload_n hM.1 hM.2.1 dL_hour_158 rfl (lv_at hl 2 rfl) ?_
      refine lv_bipush (v := (6 : Int32)) hM.1 hM.2.1 dL_hour_159 (by decide) ?_
      refine lv_iload hM.1 hM.2.1 dL_hour_161 (lv_at hl 5 rfl) ?_
      refine lv_imul hM.1 hM.2.1 dL_hour_163 ?_
      refine lv_iload hM.1 hM.2.1 dL_hour_164 (lv_at hl 7 rfl) ?_
      refine lv_iadd hM.1 hM.2.1 dL_hour_166 ?_
      refine lv_iconst (v := (1 : Int32)) hM.1 hM.2.1 dL_hour_167 (by decide) ?_
      refine lv_isub hM.1 hM.2.1 dL_hour_168 ?_
      have c_42 := hq.1
      replace hq := hq.2
      refine r_iald hM hK hX hI.2.2.2.1 (a17 PP 0) c_42 dL_hour_169 ?_
      have c_44 := hq.1
      replace hq := hq.2
      refine r_iast hM hK hX hI.2.2.2.1 (a17 PP 0) c_44 dL_hour_170 (fun S_43 e_45 H locs hX => ?_)
      replace hq := hq S_43 e_45
      refine lv_iinc (v := (y8 + (-1 : Int32))) (lv' := [(8, .int (y8 + (-1 : Int32))), (0, .ref (ad 15 PP 0)), (1, .ref (ad 16 PP 0)), (2, .ref (ad 17 PP 0)), (3, .ref (ad 18 PP 0)), (5, .int y5), (6, .int y6), (7, .int y7)]) hM.1 hM.2.1 dL_hour_171 hl (k := 7) rfl rfl (by decide) rfl (fun ls hl => ?_)
      refine lv_goto (tgt := 122) hM.1 hM.2.1 dL_hour_174 (by decide) ?_
      exact ih S_43 y5 y6 y7 (y8 + (-1 : Int32)) hq _ _ _ hX (lv_sub hl [1, 2, 3, 4, 5, 6, 7, 0] rfl)
  have J225 : ∀ {K0 : Mem → Int32 → Int32 → Prop} (hk0 : ∀ (S : Mem) (y5 : Int32) (y6 : Int32), K0 S y5 y6 → ∀ (H : Heap) (locs : List Loc) (ls : Array Slot), PW D ad cy (AW ad o sz) s.heap o S H locs → lv_has ls 10 [(0, .ref (ad 15 PP 0)), (1, .ref (ad 16 PP 0)), (2, .ref (ad 17 PP 0)), (3, .ref (ad 18 PP 0)), (5, .int y5), (6, .int y6)] → Wi D ad cy o sz Q p l e rmL_hour s m [.ref (ad 15 PP 0), .ref (ad 16 PP 0), .ref (ad 17 PP 0), .ref (ad 18 PP 0), .int x4] below meth c H locs (F0 m 72 ls [])), ∀ {K1 : Mem → Int32 → Prop} (hk1 : ∀ (S : Mem) (y5 : Int32), K1 S y5 → ∀ (H : Heap) (locs : List Loc) (ls : Array Slot), PW D ad cy (AW ad o sz) s.heap o S H locs → lv_has ls 10 [(0, .ref (ad 15 PP 0)), (1, .ref (ad 16 PP 0)), (2, .ref (ad 17 PP 0)), (3, .ref (ad 18 PP 0)), (5, .int y5)] → Wi D ad cy o sz Q p l e rmL_hour s m [.ref (ad 15 PP 0), .ref (ad 16 PP 0), .ref (ad 17 PP 0), .ref (ad 18 PP 0), .int x4] below meth c H locs (F0 m 236 ls [])), ∀ (S : Mem) (y5 : Int32) (y6 : Int32) (w1 : Int32) (w2 : Int32) (w3 : Int32), vc_L_hour_J225 Q K0 K1 PP x4 S y5 y6 w1 w2 w3 → ∀ (H : Heap) (locs : List Loc) (ls : Array Slot), PW D ad cy (AW ad o sz) s.heap o S H locs → lv_has ls 10 [(0, .ref (ad 15 PP 0)), (1, .ref (ad 16 PP 0)), (2, .ref (ad 17 PP 0)), (3, .ref (ad 18 PP 0)), (5, .int y5), (6, .int y6)] → Wi D ad cy o sz Q p l e rmL_hour s m [.ref (ad 15 PP 0), .ref (ad 16 PP 0), .ref (ad 17 PP 0), .ref (ad 18 PP 0), .int x4] below meth c H locs (F0 m 225 ls [.int w3, .int w2, .int w1, .ref (ad 15 PP 0)]) := by
    intro K0 hk0 K1 hk1 S y5 y6 w1 w2 w3 hq H locs ls hX hl
    unfold vc_L_hour_J225 at hq
    refine lv_iadd hM.1 hM.2.1 dL_hour_225 ?_
    have c_62 := hq.1
    replace hq := hq.2
    refine r_iast hM hK hX hI.2.1 (a15 PP 0) c_62 dL_hour_226 (fun S_61 e_63 H locs hX => ?_)
    replace hq := hq S_61 e_63
    refine lv_iinc (v := (y5 + (1 : Int32))) (lv' := [(5, .int (y5 + (1 : Int32))), (0, .ref (ad 15 PP 0)), (1, .ref (ad 16 PP 0)), (2, .ref (ad 17 PP 0)), (3, .ref (ad 18 PP 0)), (6, .int y6)]) hM.1 hM.2.1 dL_hour_227 hl (k := 4) rfl rfl (by decide) rfl (fun ls hl => ?_)
    exact J230 hk0 hk1 S_61 (y5 + (1 : Int32)) y6 hq _ _ _ hX (lv_sub hl [1, 2, 3, 4, 0, 5] rfl)
  have L72 : ∀ {K : Mem → Int32 → Prop} (hk : ∀ (S : Mem) (y5 : Int32), K S y5 → ∀ (H : Heap) (locs : List Loc) (ls : Array Slot), PW D ad cy (AW ad o sz) s.heap o S H locs → lv_has ls 10 [(0, .ref (ad 15 PP 0)), (1, .ref (ad 16 PP 0)), (2, .ref (ad 17 PP 0)), (3, .ref (ad 18 PP 0)), (5, .int y5)] → Wi D ad cy o sz Q p l e rmL_hour s m [.ref (ad 15 PP 0), .ref (ad 16 PP 0), .ref (ad 17 PP 0), .ref (ad 18 PP 0), .int x4] below meth c H locs (F0 m 236 ls [])), ∀ (n : Nat) (S : Mem) (y5 : Int32) (y6 : Int32), vc_L_hour_L72 Q K PP x4 n S y5 y6 → ∀ (H : Heap) (locs : List Loc) (ls : Array Slot), PW D ad cy (AW ad o sz) s.heap o S H locs → lv_has ls 10 [(0, .ref (ad 15 PP 0)), (1, .ref (ad 16 PP 0)), (2, .ref (ad 17 PP 0)), (3, .ref (ad 18 PP 0)), (5, .int y5), (6, .int y6)] → Wi D ad cy o sz Q p l e rmL_hour s m [.ref (ad 15 PP 0), .ref (ad 16 PP 0), .ref (ad 17 PP 0), .ref (ad 18 PP 0), .int x4] below meth c H locs (F0 m 72 ls []) := by
    intro K hk n
    induction n with
    | zero =>
      intro S y5 y6 hq
      rw [vc_L_hour_L72] at hq
      exact hq.elim
    | succ n ih =>
      intro S y5 y6 hq H locs ls hX hl
      rw [vc_L_hour_L72] at hq
      refine lv_iload hM.1 hM.2.1 dL_hour_72 (lv_at hl 5 rfl) ?_
      refine lv_aload_n hM.1 hM.2.1 dL_hour_74 rfl (lv_at hl 3 rfl) ?_
      refine lv_bipush (v := (15 : Int32)) hM.1 hM.2.1 dL_hour_75 (by decide) ?_
      have c_24 := hq.1
      replace hq := hq.2
      refine r_iald hM hK hX hI.2.2.2.2.1 (a18 PP 0) c_24 dL_hour_77 ?_
      refine lv_icmp_ge (tgt := 236) hM.1 hM.2.1 dL_hour_78 (by decide) (fun c_25 => ?_) (fun c_25 => ?_)
      · replace hq := hq.1 c_25
        exact hk S y5 hq _ _ _ hX (lv_sub hl [0, 1, 2, 3, 4] rfl)
      replace hq := hq.2 c_25
      refine lv_bipush (v := (10 : Int32)) hM.1 hM.2.1 dL_hour_81 (by decide) ?_
      refine lv_iload hM.1 hM.2.1 dL_hour_83 (lv_at hl 5 rfl) ?_
      refine lv_imul hM.1 hM.2.1 dL_hour_85 ?_
      refine lv_istore (lv' := [(7, .int ((10 : Int32) * y6)), (0, .ref (ad 15 PP 0)), (1, .ref (ad 16 PP 0)), (2, .ref (ad 17 PP 0)), (3, .ref (ad 18 PP 0)), (5, .int y5), (6, .int y6)]) hM.1 hM.2.1 dL_hour_86 hl (by decide) rfl (fun ls hl => ?_)
      refine lv_aload_n hM.1 hM.2.1 dL_hour_88 rfl (lv_at hl 1 rfl) ?_
      refine lv_iload hM.1 hM.2.1 dL_hour_89 (lv_at hl 0 rfl) ?_
      refine lv_iconst (v := (4 : Int32)) hM.1 hM.2.1 dL_hour_91 (by decide) ?_
      refine lv_iadd hM.1 hM.2.1 dL_hour_92 ?_
      refine lv_dup2_11 hM.1 hM.2.1 dL_hour_93 rfl rfl ?_
      have c_26 := hq.1
      replace hq := hq.2
      refine r_iald hM hK hX hI.2.1 (a15 PP 0) c_26 dL_hour_94 ?_
      refine lv_aload_n hM.1 hM.2.1 dL_hour_95 rfl (lv_at hl 1 rfl) ?_
      refine lv_aload_n hM.1 hM.2.1 dL_hour_96 rfl (lv_at hl 4 rfl) ?_
      refine lv_iload hM.1 hM.2.1 dL_hour_97 (lv_at hl 6 rfl) ?_
      refine cSi (As := [.ref (ad 15 PP 0), .ref (ad 18 PP 0), .int y6]) hM hK hX ⟨hI.1, hI.2.1, hI.2.2.2.2.1, trivial⟩ hA (met_L_change l D ad cy S PP y6 hq) (kL_change hM.2.2.2.2 ql_RL_28 (Nat.le_of_ble_eq_true rfl) (Nat.le_of_ble_eq_true rfl)) rfl hl.1 rfl (Nat.le_of_ble_eq_true rfl) dL_hour_99 ⟨Nat.zero_le _, Nat.zero_le _⟩ (fun S_27 r_28 hq H locs hX => ?_)
      refine lv_iadd hM.1 hM.2.1 dL_hour_102 ?_
      have c_30 := hq.1
      replace hq := hq.2
      refine r_iast hM hK hX hI.2.1 (a15 PP 0) c_30 dL_hour_103 (fun S_29 e_31 H locs hX => ?_)
      replace hq := hq S_29 e_31
      refine lv_aload_n hM.1 hM.2.1 dL_hour_104 rfl (lv_at hl 4 rfl) ?_
      refine lv_iconst (v := (0 : Int32)) hM.1 hM.2.1 dL_hour_105 (by decide) ?_
      have c_32 := hq.1
      replace hq := hq.2
      refine r_iald hM hK hX hI.2.2.2.2.1 (a18 PP 0) c_32 dL_hour_106 ?_
      refine lv_aload_n hM.1 hM.2.1 dL_hour_107 rfl (lv_at hl 4 rfl) ?_
      refine lv_iconst (v := (4 : Int32)) hM.1 hM.2.1 dL_hour_108 (by decide) ?_
      refine lv_aload_n hM.1 hM.2.1 dL_hour_109 rfl (lv_at hl 1 rfl) ?_
      refine lv_iload hM.1 hM.2.1 dL_hour_110 (lv_at hl 0 rfl) ?_
      have c_33 := hq.1
      replace hq := hq.2
      refine r_iald hM hK hX hI.2.1 (a15 PP 0) c_33 dL_hour_112 ?_
      refine lv_iadd hM.1 hM.2.1 dL_hour_113 ?_
      have c_34 := hq.1
      replace hq := hq.2
      refine r_iald hM hK hX hI.2.2.2.2.1 (a18 PP 0) c_34 dL_hour_114 ?_
      have c_35 := hq.1
      replace hq := hq.2
      refine lv_irem hM.1 hM.2.1 dL_hour_115 c_35 ?_
      refine lv_if_ne (tgt := 230) hM.1 hM.2.1 dL_hour_116 (by decide) (fun c_36 => ?_) (fun c_36 => ?_)
      · replace hq := hq.1 c_36
        exact J230 ih hk S_29 y5 y6 hq _ _ _ hX (lv_sub hl [1, 2, 3, 4, 5, 6] rfl)
      replace hq := hq.2 c_36
      refine lv_iconst (v := (5 : Int32)) hM.1 hM.2.1 dL_hour_119 (by decide) ?_
      refine lv_istore (lv' := [(8, .int (5 : Int32)), (7, .int ((10 : Int32) * y6)), (0, .ref (ad 15 PP 0)), (1, .ref (ad 16 PP 0)), (2, .ref (ad 17 PP 0)), (3, .ref (ad 18 PP 0)), (5, .int y5), (6, .int y6)]) hM.1 hM.2.1 dL_hour_120 hl (by decide) rfl (fun ls hl => ?_)
      obtain ⟨k0, hq⟩ := hq
      refine L122 (fun S_46 y5_47 y6_48 y7_49 hq H locs ls hX hl => ?_) k0 S_29 y5 y6 ((10 : Int32) * y6) (5 : Int32) hq _ _ _ hX (lv_sub hl [2, 3, 4, 5, 6, 7, 1, 0] rfl)
      refine lv_aload_n hM.1 hM.2.1 dL_hour_177 rfl (lv_at hl 1 rfl) ?_
      refine lv_bipush (v := (6 : Int32)) hM.1 hM.2.1 dL_hour_178 (by decide) ?_
      refine lv_iload hM.1 hM.2.1 dL_hour_180 (lv_at hl 5 rfl) ?_
      refine lv_imul hM.1 hM.2.1 dL_hour_182 ?_
      refine lv_aload_n hM.1 hM.2.1 dL_hour_183 rfl (lv_at hl 3 rfl) ?_
      refine lv_iconst (v := (0 : Int32)) hM.1 hM.2.1 dL_hour_184 (by decide) ?_
      have c_50 := hq.1
      replace hq := hq.2
      refine r_iald hM hK hX hI.2.2.2.2.1 (a18 PP 0) c_50 dL_hour_185 ?_
      have c_52 := hq.1
      replace hq := hq.2
      refine r_iast hM hK hX hI.2.2.1 (a16 PP 0) c_52 dL_hour_186 (fun S_51 e_53 H locs hX => ?_)
      replace hq := hq S_51 e_53
      refine lv_aload_n hM.1 hM.2.1 dL_hour_187 rfl (lv_at hl 2 rfl) ?_
      refine lv_bipush (v := (6 : Int32)) hM.1 hM.2.1 dL_hour_188 (by decide) ?_
      refine lv_iload hM.1 hM.2.1 dL_hour_190 (lv_at hl 5 rfl) ?_
      refine lv_imul hM.1 hM.2.1 dL_hour_192 ?_
      refine lv_aload_n hM.1 hM.2.1 dL_hour_193 rfl (lv_at hl 0 rfl) ?_
      refine lv_iload hM.1 hM.2.1 dL_hour_194 (lv_at hl 6 rfl) ?_
      refine lv_iconst (v := (4 : Int32)) hM.1 hM.2.1 dL_hour_196 (by decide) ?_
      refine lv_iadd hM.1 hM.2.1 dL_hour_197 ?_
      have c_54 := hq.1
      replace hq := hq.2
      refine r_iald hM hK hX hI.2.1 (a15 PP 0) c_54 dL_hour_198 ?_
      have c_56 := hq.1
      replace hq := hq.2
      refine r_iast hM hK hX hI.2.2.2.1 (a17 PP 0) c_56 dL_hour_199 (fun S_55 e_57 H locs hX => ?_)
      replace hq := hq S_55 e_57
      refine lv_aload_n hM.1 hM.2.1 dL_hour_200 rfl (lv_at hl 0 rfl) ?_
      refine lv_iload hM.1 hM.2.1 dL_hour_201 (lv_at hl 6 rfl) ?_
      refine lv_bipush (v := (7 : Int32)) hM.1 hM.2.1 dL_hour_203 (by decide) ?_
      refine lv_iadd hM.1 hM.2.1 dL_hour_205 ?_
      refine lv_dup2_11 hM.1 hM.2.1 dL_hour_206 rfl rfl ?_
      have c_58 := hq.1
      replace hq := hq.2
      refine r_iald hM hK hX hI.2.1 (a15 PP 0) c_58 dL_hour_207 ?_
      refine lv_aload_n hM.1 hM.2.1 dL_hour_208 rfl (lv_at hl 0 rfl) ?_
      refine lv_iload hM.1 hM.2.1 dL_hour_209 (lv_at hl 6 rfl) ?_
      refine lv_bipush (v := (7 : Int32)) hM.1 hM.2.1 dL_hour_211 (by decide) ?_
      refine lv_iadd hM.1 hM.2.1 dL_hour_213 ?_
      have c_59 := hq.1
      replace hq := hq.2
      refine r_iald hM hK hX hI.2.1 (a15 PP 0) c_59 dL_hour_214 ?_
      refine lv_bipush (v := (6 : Int32)) hM.1 hM.2.1 dL_hour_215 (by decide) ?_
      refine lv_icmp_ge (tgt := 224) hM.1 hM.2.1 dL_hour_217 (by decide) (fun c_60 => ?_) (fun c_60 => ?_)
      · replace hq := hq.1 c_60
        refine lv_iconst (v := (0 : Int32)) hM.1 hM.2.1 dL_hour_224 (by decide) ?_
        exact J225 ih hk S_55 y5_47 y6_48 (y7_49 + (7 : Int32)) (S_55 15 PP 0 (y7_49 + (7 : Int32)).toNatClampNeg) (0 : Int32) hq _ _ _ hX (lv_sub hl [0, 1, 2, 3, 4, 5] rfl)
      replace hq := hq.2 c_60
      refine lv_iconst (v := (1 : Int32)) hM.1 hM.2.1 dL_hour_220 (by decide) ?_
      refine lv_goto (tgt := 225) hM.1 hM.2.1 dL_hour_221 (by decide) ?_
      exact J225 ih hk S_55 y5_47 y6_48 (y7_49 + (7 : Int32)) (S_55 15 PP 0 (y7_49 + (7 : Int32)).toNatClampNeg) (1 : Int32) hq _ _ _ hX (lv_sub hl [0, 1, 2, 3, 4, 5] rfl)
  have J434 : ∀ {K0 : Mem → Int32 → Int32 → Prop} (hk0 : ∀ (S : Mem) (y5 : Int32) (y6 : Int32), K0 S y5 y6 → ∀ (H : Heap) (locs : List Loc) (ls : Array Slot), PW D ad cy (AW ad o sz) s.heap o S H locs → lv_has ls 10 [(0, .ref (ad 15 PP 0)), (1, .ref (ad 16 PP 0)), (2, .ref (ad 17 PP 0)), (3, .ref (ad 18 PP 0)), (5, .int y5), (6, .int y6)] → Wi D ad cy o sz Q p l e rmL_hour s m [.ref (ad 15 PP 0), .ref (ad 16 PP 0), .ref (ad 17 PP 0), .ref (ad 18 PP 0), .int x4] below meth c H locs (F0 m 248 ls [])), ∀ {K1 : Mem → Int32 → Prop} (hk1 : ∀ (S : Mem) (y5 : Int32), K1 S y5 → ∀ (H : Heap) (locs : List Loc) (ls : Array Slot), PW D ad cy (AW ad o sz) s.heap o S H locs → lv_has ls 10 [(0, .ref (ad 15 PP 0)), (3, .ref (ad 18 PP 0)), (5, .int y5)] → Wi D ad cy o sz Q p l e rmL_hour s m [.ref (ad 15 PP 0), .ref (ad 16 PP 0), .ref (ad 17 PP 0), .ref (ad 18 PP 0), .int x4] below meth c H locs (F0 m 442 ls [])), ∀ (S : Mem) (y5 : Int32) (y6 : Int32) (w1 : Int32) (w2 : Int32) (w3 : Int32), vc_L_hour_J434 Q K0 K1 PP x4 S y5 y6 w1 w2 w3 → ∀ (H : Heap) (locs : List Loc) (ls : Array Slot), PW D ad cy (AW ad o sz) s.heap o S H locs → lv_has ls 10 [(0, .ref (ad 15 PP 0)), (1, .ref (ad 16 PP 0)), (2, .ref (ad 17 PP 0)), (3, .ref (ad 18 PP 0)), (5, .int y5), (6, .int y6)] → Wi D ad cy o sz Q p l e rmL_hour s m [.ref (ad 15 PP 0), .ref (ad 16 PP 0), .ref (ad 17 PP 0), .ref (ad 18 PP 0), .int x4] below meth c H locs (F0 m 434 ls [.int w3, .int w2, .int w1, .ref (ad 18 PP 0)]) := by
    intro K0 hk0 K1 hk1 S y5 y6 w1 w2 w3 hq H locs ls hX hl
    unfold vc_L_hour_J434 at hq
    refine lv_iadd hM.1 hM.2.1 dL_hour_434 ?_
    have c_97 := hq.1
    replace hq := hq.2
    refine r_iast hM hK hX hI.2.2.2.2.1 (a18 PP 0) c_97 dL_hour_435 (fun S_96 e_98 H locs hX => ?_)
    replace hq := hq S_96 e_98
    refine lv_iinc (v := (y6 + (1 : Int32))) (lv' := [(6, .int (y6 + (1 : Int32))), (0, .ref (ad 15 PP 0)), (1, .ref (ad 16 PP 0)), (2, .ref (ad 17 PP 0)), (3, .ref (ad 18 PP 0)), (5, .int y5)]) hM.1 hM.2.1 dL_hour_436 hl (k := 5) rfl rfl (by decide) rfl (fun ls hl => ?_)
    refine lv_goto (tgt := 248) hM.1 hM.2.1 dL_hour_439 (by decide) ?_
    exact hk0 S_96 y5 (y6 + (1 : Int32)) hq _ _ _ hX (lv_sub hl [1, 2, 3, 4, 5, 0] rfl)
  have J417 : ∀ {K0 : Mem → Int32 → Int32 → Prop} (hk0 : ∀ (S : Mem) (y5 : Int32) (y6 : Int32), K0 S y5 y6 → ∀ (H : Heap) (locs : List Loc) (ls : Array Slot), PW D ad cy (AW ad o sz) s.heap o S H locs → lv_has ls 10 [(0, .ref (ad 15 PP 0)), (1, .ref (ad 16 PP 0)), (2, .ref (ad 17 PP 0)), (3, .ref (ad 18 PP 0)), (5, .int y5), (6, .int y6)] → Wi D ad cy o sz Q p l e rmL_hour s m [.ref (ad 15 PP 0), .ref (ad 16 PP 0), .ref (ad 17 PP 0), .ref (ad 18 PP 0), .int x4] below meth c H locs (F0 m 248 ls [])), ∀ {K1 : Mem → Int32 → Prop} (hk1 : ∀ (S : Mem) (y5 : Int32), K1 S y5 → ∀ (H : Heap) (locs : List Loc) (ls : Array Slot), PW D ad cy (AW ad o sz) s.heap o S H locs → lv_has ls 10 [(0, .ref (ad 15 PP 0)), (3, .ref (ad 18 PP 0)), (5, .int y5)] → Wi D ad cy o sz Q p l e rmL_hour s m [.ref (ad 15 PP 0), .ref (ad 16 PP 0), .ref (ad 17 PP 0), .ref (ad 18 PP 0), .int x4] below meth c H locs (F0 m 442 ls [])), ∀ (S : Mem) (y5 : Int32) (y6 : Int32) (y9 : Int32) (w1 : Int32) (w2 : Int32) (w3 : Int32), vc_L_hour_J417 Q K0 K1 PP x4 S y5 y6 y9 w1 w2 w3 → ∀ (H : Heap) (locs : List Loc) (ls : Array Slot), PW D ad cy (AW ad o sz) s.heap o S H locs → lv_has ls 10 [(0, .ref (ad 15 PP 0)), (1, .ref (ad 16 PP 0)), (2, .ref (ad 17 PP 0)), (3, .ref (ad 18 PP 0)), (5, .int y5), (6, .int y6), (9, .int y9)] → Wi D ad cy o sz Q p l e rmL_hour s m [.ref (ad 15 PP 0), .ref (ad 16 PP 0), .ref (ad 17 PP 0), .ref (ad 18 PP 0), .int x4] below meth c H locs (F0 m 417 ls [.int w3, .int w2, .int w1, .ref (ad 15 PP 0)]) := by
    intro K0 hk0 K1 hk1 S y5 y6 y9 w1 w2 w3 hq H locs ls hX hl
    unfold vc_L_hour_J417 at hq
    refine lv_iadd hM.1 hM.2.1 dL_hour_417 ?_
    have c_92 := hq.1
    replace hq := hq.2
    refine r_iast hM hK hX hI.2.1 (a15 PP 0) c_92 dL_hour_418 (fun S_91 e_93 H locs hX => ?_)
    replace hq := hq S_91 e_93
    refine lv_aload_n hM.1 hM.2.1 dL_hour_419 rfl (lv_at hl 3 rfl) ?_
    refine lv_bipush (v := (13 : Int32)) hM.1 hM.2.1 dL_hour_420 (by decide) ?_
    refine lv_dup2_11 hM.1 hM.2.1 dL_hour_422 rfl rfl ?_
    have c_94 := hq.1
    replace hq := hq.2
    refine r_iald hM hK hX hI.2.2.2.2.1 (a18 PP 0) c_94 dL_hour_423 ?_
    refine lv_iload hM.1 hM.2.1 dL_hour_424 (lv_at hl 6 rfl) ?_
    refine lv_if_eq (tgt := 433) hM.1 hM.2.1 dL_hour_426 (by decide) (fun c_95 => ?_) (fun c_95 => ?_)
    · replace hq := hq.1 c_95
      refine lv_iconst (v := (0 : Int32)) hM.1 hM.2.1 dL_hour_433 (by decide) ?_
      exact J434 hk0 hk1 S_91 y5 y6 (13 : Int32) (S_91 18 PP 0 (13 : Int32).toNatClampNeg) (0 : Int32) hq _ _ _ hX (lv_sub hl [0, 1, 2, 3, 4, 5] rfl)
    replace hq := hq.2 c_95
    refine lv_iconst (v := (1 : Int32)) hM.1 hM.2.1 dL_hour_429 (by decide) ?_
    refine lv_goto (tgt := 434) hM.1 hM.2.1 dL_hour_430 (by decide) ?_
    exact J434 hk0 hk1 S_91 y5 y6 (13 : Int32) (S_91 18 PP 0 (13 : Int32).toNatClampNeg) (1 : Int32) hq _ _ _ hX (lv_sub hl [0, 1, 2, 3, 4, 5] rfl)
  have J398 : ∀ {K0 : Mem → Int32 → Int32 → Prop} (hk0 : ∀ (S : Mem) (y5 : Int32) (y6 : Int32), K0 S y5 y6 → ∀ (H : Heap) (locs : List Loc) (ls : Array Slot), PW D ad cy (AW ad o sz) s.heap o S H locs → lv_has ls 10 [(0, .ref (ad 15 PP 0)), (1, .ref (ad 16 PP 0)), (2, .ref (ad 17 PP 0)), (3, .ref (ad 18 PP 0)), (5, .int y5), (6, .int y6)] → Wi D ad cy o sz Q p l e rmL_hour s m [.ref (ad 15 PP 0), .ref (ad 16 PP 0), .ref (ad 17 PP 0), .ref (ad 18 PP 0), .int x4] below meth c H locs (F0 m 248 ls [])), ∀ {K1 : Mem → Int32 → Prop} (hk1 : ∀ (S : Mem) (y5 : Int32), K1 S y5 → ∀ (H : Heap) (locs : List Loc) (ls : Array Slot), PW D ad cy (AW ad o sz) s.heap o S H locs → lv_has ls 10 [(0, .ref (ad 15 PP 0)), (3, .ref (ad 18 PP 0)), (5, .int y5)] → Wi D ad cy o sz Q p l e rmL_hour s m [.ref (ad 15 PP 0), .ref (ad 16 PP 0), .ref (ad 17 PP 0), .ref (ad 18 PP 0), .int x4] below meth c H locs (F0 m 442 ls [])), ∀ (S : Mem) (y5 : Int32) (y6 : Int32) (y7 : Int32) (y9 : Int32) (w1 : Int32) (w2 : Int32), vc_L_hour_J398 Q K0 K1 PP x4 S y5 y6 y7 y9 w1 w2 → ∀ (H : Heap) (locs : List Loc) (ls : Array Slot), PW D ad cy (AW ad o sz) s.heap o S H locs → lv_has ls 10 [(0, .ref (ad 15 PP 0)), (1, .ref (ad 16 PP 0)), (2, .ref (ad 17 PP 0)), (3, .ref (ad 18 PP 0)), (5, .int y5), (6, .int y6), (7, .int y7), (9, .int y9)] → Wi D ad cy o sz Q p l e rmL_hour s m [.ref (ad 15 PP 0), .ref (ad 16 PP 0), .ref (ad 17 PP 0), .ref (ad 18 PP 0), .int x4] below meth c H locs (F0 m 398 ls [.int w2, .int w1, .ref (ad 15 PP 0)]) := by
    intro K0 hk0 K1 hk1 S y5 y6 y7 y9 w1 w2 hq H locs ls hX hl
    unfold vc_L_hour_J398 at hq
    have c_87 := hq.1
    replace hq := hq.2
    refine r_iast hM hK hX hI.2.1 (a15 PP 0) c_87 dL_hour_398 (fun S_86 e_88 H locs hX => ?_)
    replace hq := hq S_86 e_88
    refine lv_aload_n hM.1 hM.2.1 dL_hour_399 rfl (lv_at hl 0 rfl) ?_
    refine lv_iload hM.1 hM.2.1 dL_hour_400 (lv_at hl 6 rfl) ?_
    refine lv_bipush (v := (8 : Int32)) hM.1 hM.2.1 dL_hour_402 (by decide) ?_
    refine lv_iadd hM.1 hM.2.1 dL_hour_404 ?_
    refine lv_dup2_11 hM.1 hM.2.1 dL_hour_405 rfl rfl ?_
    have c_89 := hq.1
    replace hq := hq.2
    refine r_iald hM hK hX hI.2.1 (a15 PP 0) c_89 dL_hour_406 ?_
    refine lv_iload hM.1 hM.2.1 dL_hour_407 (lv_at hl 7 rfl) ?_
    refine lv_if_eq (tgt := 416) hM.1 hM.2.1 dL_hour_409 (by decide) (fun c_90 => ?_) (fun c_90 => ?_)
    · replace hq := hq.1 c_90
      refine lv_iconst (v := (0 : Int32)) hM.1 hM.2.1 dL_hour_416 (by decide) ?_
      exact J417 hk0 hk1 S_86 y5 y6 y9 (y7 + (8 : Int32)) (S_86 15 PP 0 (y7 + (8 : Int32)).toNatClampNeg) (0 : Int32) hq _ _ _ hX (lv_sub hl [0, 1, 2, 3, 4, 5, 7] rfl)
    replace hq := hq.2 c_90
    refine lv_iconst (v := (1 : Int32)) hM.1 hM.2.1 dL_hour_412 (by decide) ?_
    refine lv_goto (tgt := 417) hM.1 hM.2.1 dL_hour_413 (by decide) ?_
    exact J417 hk0 hk1 S_86 y5 y6 y9 (y7 + (8 : Int32)) (S_86 15 PP 0 (y7 + (8 : Int32)).toNatClampNeg) (1 : Int32) hq _ _ _ hX (lv_sub hl [0, 1, 2, 3, 4, 5, 7] rfl)
  have J354 : ∀ {K0 : Mem → Int32 → Int32 → Prop} (hk0 : ∀ (S : Mem) (y5 : Int32) (y6 : Int32), K0 S y5 y6 → ∀ (H : Heap) (locs : List Loc) (ls : Array Slot), PW D ad cy (AW ad o sz) s.heap o S H locs → lv_has ls 10 [(0, .ref (ad 15 PP 0)), (1, .ref (ad 16 PP 0)), (2, .ref (ad 17 PP 0)), (3, .ref (ad 18 PP 0)), (5, .int y5), (6, .int y6)] → Wi D ad cy o sz Q p l e rmL_hour s m [.ref (ad 15 PP 0), .ref (ad 16 PP 0), .ref (ad 17 PP 0), .ref (ad 18 PP 0), .int x4] below meth c H locs (F0 m 248 ls [])), ∀ {K1 : Mem → Int32 → Prop} (hk1 : ∀ (S : Mem) (y5 : Int32), K1 S y5 → ∀ (H : Heap) (locs : List Loc) (ls : Array Slot), PW D ad cy (AW ad o sz) s.heap o S H locs → lv_has ls 10 [(0, .ref (ad 15 PP 0)), (3, .ref (ad 18 PP 0)), (5, .int y5)] → Wi D ad cy o sz Q p l e rmL_hour s m [.ref (ad 15 PP 0), .ref (ad 16 PP 0), .ref (ad 17 PP 0), .ref (ad 18 PP 0), .int x4] below meth c H locs (F0 m 442 ls [])), ∀ (S : Mem) (y5 : Int32) (y6 : Int32) (y7 : Int32) (w0 : Int32), vc_L_hour_J354 Q K0 K1 PP x4 S y5 y6 y7 w0 → ∀ (H : Heap) (locs : List Loc) (ls : Array Slot), PW D ad cy (AW ad o sz) s.heap o S H locs → lv_has ls 10 [(0, .ref (ad 15 PP 0)), (1, .ref (ad 16 PP 0)), (2, .ref (ad 17 PP 0)), (3, .ref (ad 18 PP 0)), (5, .int y5), (6, .int y6), (7, .int y7)] → Wi D ad cy o sz Q p l e rmL_hour s m [.ref (ad 15 PP 0), .ref (ad 16 PP 0), .ref (ad 17 PP 0), .ref (ad 18 PP 0), .int x4] below meth c H locs (F0 m 354 ls [.int w0]) := by
    intro K0 hk0 K1 hk1 S y5 y6 y7 w0 hq H locs ls hX hl
    unfold vc_L_hour_J354 at hq
    refine lv_istore (lv' := [(9, .int w0), (0, .ref (ad 15 PP 0)), (1, .ref (ad 16 PP 0)), (2, .ref (ad 17 PP 0)), (3, .ref (ad 18 PP 0)), (5, .int y5), (6, .int y6), (7, .int y7)]) hM.1 hM.2.1 dL_hour_354 hl (by decide) rfl (fun ls hl => ?_)
    refine lv_aload_n hM.1 hM.2.1 dL_hour_356 rfl (lv_at hl 1 rfl) ?_
    refine lv_iload hM.1 hM.2.1 dL_hour_357 (lv_at hl 7 rfl) ?_
    refine lv_iconst (v := (5 : Int32)) hM.1 hM.2.1 dL_hour_359 (by decide) ?_
    refine lv_iadd hM.1 hM.2.1 dL_hour_360 ?_
    refine lv_iload hM.1 hM.2.1 dL_hour_361 (lv_at hl 0 rfl) ?_
    refine lv_if_eq (tgt := 377) hM.1 hM.2.1 dL_hour_363 (by decide) (fun c_82 => ?_) (fun c_82 => ?_)
    · replace hq := hq.1 c_82
      refine lv_aload_n hM.1 hM.2.1 dL_hour_377 rfl (lv_at hl 1 rfl) ?_
      refine lv_iload hM.1 hM.2.1 dL_hour_378 (lv_at hl 7 rfl) ?_
      refine lv_bipush (v := (9 : Int32)) hM.1 hM.2.1 dL_hour_380 (by decide) ?_
      refine lv_iadd hM.1 hM.2.1 dL_hour_382 ?_
      have c_83 := hq.1
      replace hq := hq.2
      refine r_iald hM hK hX hI.2.1 (a15 PP 0) c_83 dL_hour_383 ?_
      refine lv_iconst (v := (1 : Int32)) hM.1 hM.2.1 dL_hour_384 (by decide) ?_
      refine lv_icmp_ne (tgt := 392) hM.1 hM.2.1 dL_hour_385 (by decide) (fun c_84 => ?_) (fun c_84 => ?_)
      · replace hq := hq.1 c_84
        refine lv_aload_n hM.1 hM.2.1 dL_hour_392 rfl (lv_at hl 1 rfl) ?_
        refine lv_iload hM.1 hM.2.1 dL_hour_393 (lv_at hl 7 rfl) ?_
        refine lv_iconst (v := (5 : Int32)) hM.1 hM.2.1 dL_hour_395 (by decide) ?_
        refine lv_iadd hM.1 hM.2.1 dL_hour_396 ?_
        have c_85 := hq.1
        replace hq := hq.2
        refine r_iald hM hK hX hI.2.1 (a15 PP 0) c_85 dL_hour_397 ?_
        exact J398 hk0 hk1 S y5 y6 y7 w0 (y7 + (5 : Int32)) (S 15 PP 0 (y7 + (5 : Int32)).toNatClampNeg) hq _ _ _ hX (lv_sub hl [1, 2, 3, 4, 5, 6, 7, 0] rfl)
      replace hq := hq.2 c_84
      refine lv_iconst (v := (0 : Int32)) hM.1 hM.2.1 dL_hour_388 (by decide) ?_
      refine lv_goto (tgt := 398) hM.1 hM.2.1 dL_hour_389 (by decide) ?_
      exact J398 hk0 hk1 S y5 y6 y7 w0 (y7 + (5 : Int32)) (0 : Int32) hq _ _ _ hX (lv_sub hl [1, 2, 3, 4, 5, 6, 7, 0] rfl)
    replace hq := hq.2 c_82
    refine lv_aload_n hM.1 hM.2.1 dL_hour_366 rfl (lv_at hl 1 rfl) ?_
    refine lv_iload hM.1 hM.2.1 dL_hour_367 (lv_at hl 7 rfl) ?_
    refine lv_iconst (v := (5 : Int32)) hM.1 hM.2.1 dL_hour_369 (by decide) ?_
    refine lv_iadd hM.1 hM.2.1 dL_hour_370 ?_
    have c_99 := hq.1
    replace hq := hq.2
    refine r_iald hM hK hX hI.2.1 (a15 PP 0) c_99 dL_hour_371 ?_
    refine lv_iconst (v := (1 : Int32)) hM.1 hM.2.1 dL_hour_372 (by decide) ?_
    refine lv_iadd hM.1 hM.2.1 dL_hour_373 ?_
    refine lv_goto (tgt := 398) hM.1 hM.2.1 dL_hour_374 (by decide) ?_
    exact J398 hk0 hk1 S y5 y6 y7 w0 (y7 + (5 : Int32)) ((S 15 PP 0 (y7 + (5 : Int32)).toNatClampNeg) + (1 : Int32)) hq _ _ _ hX (lv_sub hl [1, 2, 3, 4, 5, 6, 7, 0] rfl)
  have J353 : ∀ {K0 : Mem → Int32 → Int32 → Prop} (hk0 : ∀ (S : Mem) (y5 : Int32) (y6 : Int32), K0 S y5 y6 → ∀ (H : Heap) (locs : List Loc) (ls : Array Slot), PW D ad cy (AW ad o sz) s.heap o S H locs → lv_has ls 10 [(0, .ref (ad 15 PP 0)), (1, .ref (ad 16 PP 0)), (2, .ref (ad 17 PP 0)), (3, .ref (ad 18 PP 0)), (5, .int y5), (6, .int y6)] → Wi D ad cy o sz Q p l e rmL_hour s m [.ref (ad 15 PP 0), .ref (ad 16 PP 0), .ref (ad 17 PP 0), .ref (ad 18 PP 0), .int x4] below meth c H locs (F0 m 248 ls [])), ∀ {K1 : Mem → Int32 → Prop} (hk1 : ∀ (S : Mem) (y5 : Int32), K1 S y5 → ∀ (H : Heap) (locs : List Loc) (ls : Array Slot), PW D ad cy (AW ad o sz) s.heap o S H locs → lv_has ls 10 [(0, .ref (ad 15 PP 0)), (3, .ref (ad 18 PP 0)), (5, .int y5)] → Wi D ad cy o sz Q p l e rmL_hour s m [.ref (ad 15 PP 0), .ref (ad 16 PP 0), .ref (ad 17 PP 0), .ref (ad 18 PP 0), .int x4] below meth c H locs (F0 m 442 ls [])), ∀ (S : Mem) (y5 : Int32) (y6 : Int32) (y7 : Int32), vc_L_hour_J353 Q K0 K1 PP x4 S y5 y6 y7 → ∀ (H : Heap) (locs : List Loc) (ls : Array Slot), PW D ad cy (AW ad o sz) s.heap o S H locs → lv_has ls 10 [(0, .ref (ad 15 PP 0)), (1, .ref (ad 16 PP 0)), (2, .ref (ad 17 PP 0)), (3, .ref (ad 18 PP 0)), (5, .int y5), (6, .int y6), (7, .int y7)] → Wi D ad cy o sz Q p l e rmL_hour s m [.ref (ad 15 PP 0), .ref (ad 16 PP 0), .ref (ad 17 PP 0), .ref (ad 18 PP 0), .int x4] below meth c H locs (F0 m 353 ls []) := by
    intro K0 hk0 K1 hk1 S y5 y6 y7 hq H locs ls hX hl
    unfold vc_L_hour_J353 at hq
    refine lv_iconst (v := (0 : Int32)) hM.1 hM.2.1 dL_hour_353 (by decide) ?_
    exact J354 hk0 hk1 S y5 y6 y7 (0 : Int32) hq _ _ _ hX (lv_sub hl [0, 1, 2, 3, 4, 5, 6] rfl)
  have J317 : ∀ {K0 : Mem → Int32 → Int32 → Prop} (hk0 : ∀ (S : Mem) (y5 : Int32) (y6 : Int32), K0 S y5 y6 → ∀ (H : Heap) (locs : List Loc) (ls : Array Slot), PW D ad cy (AW ad o sz) s.heap o S H locs → lv_has ls 10 [(0, .ref (ad 15 PP 0)), (1, .ref (ad 16 PP 0)), (2, .ref (ad 17 PP 0)), (3, .ref (ad 18 PP 0)), (5, .int y5), (6, .int y6)] → Wi D ad cy o sz Q p l e rmL_hour s m [.ref (ad 15 PP 0), .ref (ad 16 PP 0), .ref (ad 17 PP 0), .ref (ad 18 PP 0), .int x4] below meth c H locs (F0 m 248 ls [])), ∀ {K1 : Mem → Int32 → Prop} (hk1 : ∀ (S : Mem) (y5 : Int32), K1 S y5 → ∀ (H : Heap) (locs : List Loc) (ls : Array Slot), PW D ad cy (AW ad o sz) s.heap o S H locs → lv_has ls 10 [(0, .ref (ad 15 PP 0)), (3, .ref (ad 18 PP 0)), (5, .int y5)] → Wi D ad cy o sz Q p l e rmL_hour s m [.ref (ad 15 PP 0), .ref (ad 16 PP 0), .ref (ad 17 PP 0), .ref (ad 18 PP 0), .int x4] below meth c H locs (F0 m 442 ls [])), ∀ (S : Mem) (y5 : Int32) (y6 : Int32) (y7 : Int32) (y8 : Int32) (w1 : Int32) (w2 : Int32), vc_L_hour_J317 Q K0 K1 PP x4 S y5 y6 y7 y8 w1 w2 → ∀ (H : Heap) (locs : List Loc) (ls : Array Slot), PW D ad cy (AW ad o sz) s.heap o S H locs → lv_has ls 10 [(0, .ref (ad 15 PP 0)), (1, .ref (ad 16 PP 0)), (2, .ref (ad 17 PP 0)), (3, .ref (ad 18 PP 0)), (5, .int y5), (6, .int y6), (7, .int y7), (8, .int y8)] → Wi D ad cy o sz Q p l e rmL_hour s m [.ref (ad 15 PP 0), .ref (ad 16 PP 0), .ref (ad 17 PP 0), .ref (ad 18 PP 0), .int x4] below meth c H locs (F0 m 317 ls [.int w2, .int w1, .ref (ad 15 PP 0)]) := by
    intro K0 hk0 K1 hk1 S y5 y6 y7 y8 w1 w2 hq H locs ls hX hl
    unfold vc_L_hour_J317 at hq
    have c_78 := hq.1
    replace hq := hq.2
    refine r_iast hM hK hX hI.2.1 (a15 PP 0) c_78 dL_hour_317 (fun S_77 e_79 H locs hX => ?_)
    replace hq := hq S_77 e_79
    refine lv_aload_n hM.1 hM.2.1 dL_hour_318 rfl (lv_at hl 0 rfl) ?_
    refine lv_iload hM.1 hM.2.1 dL_hour_319 (lv_at hl 6 rfl) ?_
    refine lv_bipush (v := (9 : Int32)) hM.1 hM.2.1 dL_hour_321 (by decide) ?_
    refine lv_iadd hM.1 hM.2.1 dL_hour_323 ?_
    have c_80 := hq.1
    replace hq := hq.2
    refine r_iald hM hK hX hI.2.1 (a15 PP 0) c_80 dL_hour_324 ?_
    refine lv_iconst (v := (1 : Int32)) hM.1 hM.2.1 dL_hour_325 (by decide) ?_
    refine lv_icmp_ne (tgt := 353) hM.1 hM.2.1 dL_hour_326 (by decide) (fun c_81 => ?_) (fun c_81 => ?_)
    · replace hq := hq.1 c_81
      exact J353 hk0 hk1 S_77 y5 y6 y7 hq _ _ _ hX (lv_sub hl [0, 1, 2, 3, 4, 5, 6] rfl)
    replace hq := hq.2 c_81
    refine lv_aload_n hM.1 hM.2.1 dL_hour_329 rfl (lv_at hl 0 rfl) ?_
    refine lv_aload_n hM.1 hM.2.1 dL_hour_330 rfl (lv_at hl 1 rfl) ?_
    refine lv_aload_n hM.1 hM.2.1 dL_hour_331 rfl (lv_at hl 2 rfl) ?_
    refine lv_iload hM.1 hM.2.1 dL_hour_332 (lv_at hl 5 rfl) ?_
    refine cSi (As := [.ref (ad 15 PP 0), .ref (ad 16 PP 0), .ref (ad 17 PP 0), .int y6]) hM hK hX ⟨hI.1, hI.2.1, hI.2.2.1, hI.2.2.2.1, trivial⟩ hA (met_L_own l D ad cy S_77 PP y6 hq) (kL_own hM.2.2.2.2 ql_RL_20 (Nat.le_of_ble_eq_true rfl) (Nat.le_of_ble_eq_true rfl)) rfl hl.1 rfl (Nat.le_of_ble_eq_true rfl) dL_hour_334 ⟨Nat.zero_le _, Nat.zero_le _⟩ (fun S_100 r_101 hq H locs hX => ?_)
    refine lv_iload hM.1 hM.2.1 dL_hour_337 (lv_at hl 7 rfl) ?_
    refine lv_isub hM.1 hM.2.1 dL_hour_339 ?_
    refine cSi (As := [.int (r_101 - y8)]) hM hK hX ⟨hI.1, trivial⟩ hA (met_L_size l D ad cy S_100 (r_101 - y8) hq) (kL_size hM.2.2.2.2 ql_RL_36 (Nat.le_of_ble_eq_true rfl) (Nat.le_of_ble_eq_true rfl)) rfl hl.1 rfl (Nat.le_of_ble_eq_true rfl) dL_hour_340 ⟨Nat.zero_le _, Nat.zero_le _⟩ (fun S_102 r_103 hq H locs hX => ?_)
    refine lv_aload_n hM.1 hM.2.1 dL_hour_343 rfl (lv_at hl 3 rfl) ?_
    refine lv_iconst (v := (2 : Int32)) hM.1 hM.2.1 dL_hour_344 (by decide) ?_
    have c_104 := hq.1
    replace hq := hq.2
    refine r_iald hM hK hX hI.2.2.2.2.1 (a18 PP 0) c_104 dL_hour_345 ?_
    refine lv_icmp_le (tgt := 353) hM.1 hM.2.1 dL_hour_346 (by decide) (fun c_105 => ?_) (fun c_105 => ?_)
    · replace hq := hq.1 c_105
      exact J353 hk0 hk1 S_102 y5 y6 y7 hq _ _ _ hX (lv_sub hl [0, 1, 2, 3, 4, 5, 6] rfl)
    replace hq := hq.2 c_105
    refine lv_iconst (v := (1 : Int32)) hM.1 hM.2.1 dL_hour_349 (by decide) ?_
    refine lv_goto (tgt := 354) hM.1 hM.2.1 dL_hour_350 (by decide) ?_
    exact J354 hk0 hk1 S_102 y5 y6 y7 (1 : Int32) hq _ _ _ hX (lv_sub hl [0, 1, 2, 3, 4, 5, 6] rfl)
  have J316 : ∀ {K0 : Mem → Int32 → Int32 → Prop} (hk0 : ∀ (S : Mem) (y5 : Int32) (y6 : Int32), K0 S y5 y6 → ∀ (H : Heap) (locs : List Loc) (ls : Array Slot), PW D ad cy (AW ad o sz) s.heap o S H locs → lv_has ls 10 [(0, .ref (ad 15 PP 0)), (1, .ref (ad 16 PP 0)), (2, .ref (ad 17 PP 0)), (3, .ref (ad 18 PP 0)), (5, .int y5), (6, .int y6)] → Wi D ad cy o sz Q p l e rmL_hour s m [.ref (ad 15 PP 0), .ref (ad 16 PP 0), .ref (ad 17 PP 0), .ref (ad 18 PP 0), .int x4] below meth c H locs (F0 m 248 ls [])), ∀ {K1 : Mem → Int32 → Prop} (hk1 : ∀ (S : Mem) (y5 : Int32), K1 S y5 → ∀ (H : Heap) (locs : List Loc) (ls : Array Slot), PW D ad cy (AW ad o sz) s.heap o S H locs → lv_has ls 10 [(0, .ref (ad 15 PP 0)), (3, .ref (ad 18 PP 0)), (5, .int y5)] → Wi D ad cy o sz Q p l e rmL_hour s m [.ref (ad 15 PP 0), .ref (ad 16 PP 0), .ref (ad 17 PP 0), .ref (ad 18 PP 0), .int x4] below meth c H locs (F0 m 442 ls [])), ∀ (S : Mem) (y5 : Int32) (y6 : Int32) (y7 : Int32) (y8 : Int32) (w1 : Int32), vc_L_hour_J316 Q K0 K1 PP x4 S y5 y6 y7 y8 w1 → ∀ (H : Heap) (locs : List Loc) (ls : Array Slot), PW D ad cy (AW ad o sz) s.heap o S H locs → lv_has ls 10 [(0, .ref (ad 15 PP 0)), (1, .ref (ad 16 PP 0)), (2, .ref (ad 17 PP 0)), (3, .ref (ad 18 PP 0)), (5, .int y5), (6, .int y6), (7, .int y7), (8, .int y8)] → Wi D ad cy o sz Q p l e rmL_hour s m [.ref (ad 15 PP 0), .ref (ad 16 PP 0), .ref (ad 17 PP 0), .ref (ad 18 PP 0), .int x4] below meth c H locs (F0 m 316 ls [.int w1, .ref (ad 15 PP 0)]) := by
    intro K0 hk0 K1 hk1 S y5 y6 y7 y8 w1 hq H locs ls hX hl
    unfold vc_L_hour_J316 at hq
    refine lv_iconst (v := (0 : Int32)) hM.1 hM.2.1 dL_hour_316 (by decide) ?_
    exact J317 hk0 hk1 S y5 y6 y7 y8 w1 (0 : Int32) hq _ _ _ hX (lv_sub hl [0, 1, 2, 3, 4, 5, 6, 7] rfl)
  have L248 : ∀ {K : Mem → Int32 → Prop} (hk : ∀ (S : Mem) (y5 : Int32), K S y5 → ∀ (H : Heap) (locs : List Loc) (ls : Array Slot), PW D ad cy (AW ad o sz) s.heap o S H locs → lv_has ls 10 [(0, .ref (ad 15 PP 0)), (3, .ref (ad 18 PP 0)), (5, .int y5)] → Wi D ad cy o sz Q p l e rmL_hour s m [.ref (ad 15 PP 0), .ref (ad 16 PP 0), .ref (ad 17 PP 0), .ref (ad 18 PP 0), .int x4] below meth c H locs (F0 m 442 ls [])), ∀ (n : Nat) (S : Mem) (y5 : Int32) (y6 : Int32), vc_L_hour_L248 Q K PP x4 n S y5 y6 → ∀ (H : Heap) (locs : List Loc) (ls : Array Slot), PW D ad cy (AW ad o sz) s.heap o S H locs → lv_has ls 10 [(0, .ref (ad 15 PP 0)), (1, .ref (ad 16 PP 0)), (2, .ref (ad 17 PP 0)), (3, .ref (ad 18 PP 0)), (5, .int y5), (6, .int y6)] → Wi D ad cy o sz Q p l e rmL_hour s m [.ref (ad 15 PP 0), .ref (ad 16 PP 0), .ref (ad 17 PP 0), .ref (ad 18 PP 0), .int x4] below meth c H locs (F0 m 248 ls []) := by
    intro K hk n
    induction n with
    | zero =>
      intro S y5 y6 hq
      rw [vc_L_hour_L248] at hq
      exact hq.elim
    | succ n ih =>
      intro S y5 y6 hq H locs ls hX hl
      rw [vc_L_hour_L248] at hq
      refine lv_iload hM.1 hM.2.1 dL_hour_248 (lv_at hl 5 rfl) ?_
      refine lv_aload_n hM.1 hM.2.1 dL_hour_250 rfl (lv_at hl 3 rfl) ?_
      refine lv_bipush (v := (15 : Int32)) hM.1 hM.2.1 dL_hour_251 (by decide) ?_
      have c_70 := hq.1
      replace hq := hq.2
      refine r_iald hM hK hX hI.2.2.2.2.1 (a18 PP 0) c_70 dL_hour_253 ?_
      refine lv_icmp_ge (tgt := 442) hM.1 hM.2.1 dL_hour_254 (by decide) (fun c_71 => ?_) (fun c_71 => ?_)
      · replace hq := hq.1 c_71
        exact hk S y5 hq _ _ _ hX (lv_sub hl [0, 3, 4] rfl)
      replace hq := hq.2 c_71
      refine lv_bipush (v := (10 : Int32)) hM.1 hM.2.1 dL_hour_257 (by decide) ?_
      refine lv_iload hM.1 hM.2.1 dL_hour_259 (lv_at hl 5 rfl) ?_
      refine lv_imul hM.1 hM.2.1 dL_hour_261 ?_
      refine lv_istore (lv' := [(7, .int ((10 : Int32) * y6)), (0, .ref (ad 15 PP 0)), (1, .ref (ad 16 PP 0)), (2, .ref (ad 17 PP 0)), (3, .ref (ad 18 PP 0)), (5, .int y5), (6, .int y6)]) hM.1 hM.2.1 dL_hour_262 hl (by decide) rfl (fun ls hl => ?_)
      refine lv_aload_n hM.1 hM.2.1 dL_hour_264 rfl (lv_at hl 1 rfl) ?_
      refine lv_aload_n hM.1 hM.2.1 dL_hour_265 rfl (lv_at hl 2 rfl) ?_
      refine lv_aload_n hM.1 hM.2.1 dL_hour_266 rfl (lv_at hl 3 rfl) ?_
      refine lv_aload_n hM.1 hM.2.1 dL_hour_267 rfl (lv_at hl 4 rfl) ?_
      refine lv_iload hM.1 hM.2.1 dL_hour_268 (lv_at hl 6 rfl) ?_
      refine cSi (As := [.ref (ad 15 PP 0), .ref (ad 16 PP 0), .ref (ad 17 PP 0), .ref (ad 18 PP 0), .int y6]) hM hK hX ⟨hI.1, hI.2.1, hI.2.2.1, hI.2.2.2.1, hI.2.2.2.2.1, trivial⟩ hA (met_L_middle l D ad cy S PP y6 hq) (kL_middle hM.2.2.2.2 ql_RL_32 (Nat.le_of_ble_eq_true rfl) (Nat.le_of_ble_eq_true rfl)) rfl hl.1 rfl (Nat.le_of_ble_eq_true rfl) dL_hour_270 ⟨Nat.zero_le _, Nat.zero_le _⟩ (fun S_72 r_73 hq H locs hX => ?_)
      refine lv_istore (lv' := [(8, .int r_73), (7, .int ((10 : Int32) * y6)), (0, .ref (ad 15 PP 0)), (1, .ref (ad 16 PP 0)), (2, .ref (ad 17 PP 0)), (3, .ref (ad 18 PP 0)), (5, .int y5), (6, .int y6)]) hM.1 hM.2.1 dL_hour_273 hl (by decide) rfl (fun ls hl => ?_)
      refine lv_aload_n hM.1 hM.2.1 dL_hour_275 rfl (lv_at hl 2 rfl) ?_
      refine lv_iload hM.1 hM.2.1 dL_hour_276 (lv_at hl 1 rfl) ?_
      refine lv_bipush (v := (9 : Int32)) hM.1 hM.2.1 dL_hour_278 (by decide) ?_
      refine lv_iadd hM.1 hM.2.1 dL_hour_280 ?_
      refine lv_aload_n hM.1 hM.2.1 dL_hour_281 rfl (lv_at hl 2 rfl) ?_
      refine lv_iload hM.1 hM.2.1 dL_hour_282 (lv_at hl 7 rfl) ?_
      refine cSi (As := [.ref (ad 15 PP 0), .int y6]) hM hK hX ⟨hI.1, hI.2.1, trivial⟩ hA (met_L_asked l D ad cy S_72 PP y6 hq) (kL_asked hM.2.2.2.2 ql_RL_16 (Nat.le_of_ble_eq_true rfl) (Nat.le_of_ble_eq_true rfl)) rfl hl.1 rfl (Nat.le_of_ble_eq_true rfl) dL_hour_284 ⟨Nat.zero_le _, Nat.zero_le _⟩ (fun S_74 r_75 hq H locs hX => ?_)
      refine lv_if_eq (tgt := 316) hM.1 hM.2.1 dL_hour_287 (by decide) (fun c_76 => ?_) (fun c_76 => ?_)
      · replace hq := hq.1 c_76
        exact J316 ih hk S_74 y5 y6 ((10 : Int32) * y6) r_73 (((10 : Int32) * y6) + (9 : Int32)) hq _ _ _ hX (lv_sub hl [2, 3, 4, 5, 6, 7, 1, 0] rfl)
      replace hq := hq.2 c_76
      refine lv_aload_n hM.1 hM.2.1 dL_hour_290 rfl (lv_at hl 5 rfl) ?_
      refine lv_iconst (v := (0 : Int32)) hM.1 hM.2.1 dL_hour_291 (by decide) ?_
      have c_106 := hq.1
      replace hq := hq.2
      refine r_iald hM hK hX hI.2.2.2.2.1 (a18 PP 0) c_106 dL_hour_292 ?_
      refine lv_aload_n hM.1 hM.2.1 dL_hour_293 rfl (lv_at hl 5 rfl) ?_
      refine lv_iconst (v := (4 : Int32)) hM.1 hM.2.1 dL_hour_294 (by decide) ?_
      refine lv_aload_n hM.1 hM.2.1 dL_hour_295 rfl (lv_at hl 2 rfl) ?_
      refine lv_iload hM.1 hM.2.1 dL_hour_296 (lv_at hl 1 rfl) ?_
      have c_107 := hq.1
      replace hq := hq.2
      refine r_iald hM hK hX hI.2.1 (a15 PP 0) c_107 dL_hour_298 ?_
      refine lv_iadd hM.1 hM.2.1 dL_hour_299 ?_
      have c_108 := hq.1
      replace hq := hq.2
      refine r_iald hM hK hX hI.2.2.2.2.1 (a18 PP 0) c_108 dL_hour_300 ?_
      have c_109 := hq.1
      replace hq := hq.2
      refine lv_irem hM.1 hM.2.1 dL_hour_301 c_109 ?_
      refine lv_if_ne (tgt := 316) hM.1 hM.2.1 dL_hour_302 (by decide) (fun c_110 => ?_) (fun c_110 => ?_)
      · replace hq := hq.1 c_110
        exact J316 ih hk S_74 y5 y6 ((10 : Int32) * y6) r_73 (((10 : Int32) * y6) + (9 : Int32)) hq _ _ _ hX (lv_sub hl [2, 3, 4, 5, 6, 7, 1, 0] rfl)
      replace hq := hq.2 c_110
      refine lv_iload hM.1 hM.2.1 dL_hour_305 (lv_at hl 0 rfl) ?_
      refine lv_ldc hM.1 hM.2.1 hM.2.2.2.1 (hM.2.2.2.2 _ qn_RL_11) dL_hour_307 ?_
      refine lv_icmp_eq (tgt := 316) hM.1 hM.2.1 dL_hour_309 (by decide) (fun c_111 => ?_) (fun c_111 => ?_)
      · replace hq := hq.1 c_111
        exact J316 ih hk S_74 y5 y6 ((10 : Int32) * y6) r_73 (((10 : Int32) * y6) + (9 : Int32)) hq _ _ _ hX (lv_sub hl [2, 3, 4, 5, 6, 7, 1, 0] rfl)
      replace hq := hq.2 c_111
      refine lv_iconst (v := (1 : Int32)) hM.1 hM.2.1 dL_hour_312 (by decide) ?_
      refine lv_goto (tgt := 317) hM.1 hM.2.1 dL_hour_313 (by decide) ?_
      exact J317 ih hk S_74 y5 y6 ((10 : Int32) * y6) r_73 (((10 : Int32) * y6) + (9 : Int32)) (1 : Int32) hq _ _ _ hX (lv_sub hl [2, 3, 4, 5, 6, 7, 1, 0] rfl)
  have J506 : ∀ {K0 : Mem → Int32 → Int32 → Prop} (hk0 : ∀ (S : Mem) (y5 : Int32) (y6 : Int32), K0 S y5 y6 → ∀ (H : Heap) (locs : List Loc) (ls : Array Slot), PW D ad cy (AW ad o sz) s.heap o S H locs → lv_has ls 10 [(0, .ref (ad 15 PP 0)), (3, .ref (ad 18 PP 0)), (5, .int y5), (6, .int y6)] → Wi D ad cy o sz Q p l e rmL_hour s m [.ref (ad 15 PP 0), .ref (ad 16 PP 0), .ref (ad 17 PP 0), .ref (ad 18 PP 0), .int x4] below meth c H locs (F0 m 445 ls [])), ∀ {K1 : Mem → Int32 → Prop} (hk1 : ∀ (S : Mem) (y5 : Int32), K1 S y5 → ∀ (H : Heap) (locs : List Loc) (ls : Array Slot), PW D ad cy (AW ad o sz) s.heap o S H locs → lv_has ls 10 [(5, .int y5)] → Wi D ad cy o sz Q p l e rmL_hour s m [.ref (ad 15 PP 0), .ref (ad 16 PP 0), .ref (ad 17 PP 0), .ref (ad 18 PP 0), .int x4] below meth c H locs (F0 m 513 ls [])), ∀ (S : Mem) (y5 : Int32) (y6 : Int32) (w1 : Int32) (w2 : Int32), vc_L_hour_J506 Q K0 K1 PP x4 S y5 y6 w1 w2 → ∀ (H : Heap) (locs : List Loc) (ls : Array Slot), PW D ad cy (AW ad o sz) s.heap o S H locs → lv_has ls 10 [(0, .ref (ad 15 PP 0)), (3, .ref (ad 18 PP 0)), (5, .int y5), (6, .int y6)] → Wi D ad cy o sz Q p l e rmL_hour s m [.ref (ad 15 PP 0), .ref (ad 16 PP 0), .ref (ad 17 PP 0), .ref (ad 18 PP 0), .int x4] below meth c H locs (F0 m 506 ls [.int w2, .int w1, .ref (ad 15 PP 0)]) := by
    intro K0 hk0 K1 hk1 S y5 y6 w1 w2 hq H locs ls hX hl
    unfold vc_L_hour_J506 at hq
    have c_120 := hq.1
    replace hq := hq.2
    refine r_iast hM hK hX hI.2.1 (a15 PP 0) c_120 dL_hour_506 (fun S_119 e_121 H locs hX => ?_)
    replace hq := hq S_119 e_121
    refine lv_iinc (v := (y6 + (1 : Int32))) (lv' := [(6, .int (y6 + (1 : Int32))), (0, .ref (ad 15 PP 0)), (3, .ref (ad 18 PP 0)), (5, .int y5)]) hM.1 hM.2.1 dL_hour_507 hl (k := 3) rfl rfl (by decide) rfl (fun ls hl => ?_)
    refine lv_goto (tgt := 445) hM.1 hM.2.1 dL_hour_510 (by decide) ?_
    exact hk0 S_119 y5 (y6 + (1 : Int32)) hq _ _ _ hX (lv_sub hl [1, 2, 3, 0] rfl)
  have J496 : ∀ {K0 : Mem → Int32 → Int32 → Prop} (hk0 : ∀ (S : Mem) (y5 : Int32) (y6 : Int32), K0 S y5 y6 → ∀ (H : Heap) (locs : List Loc) (ls : Array Slot), PW D ad cy (AW ad o sz) s.heap o S H locs → lv_has ls 10 [(0, .ref (ad 15 PP 0)), (3, .ref (ad 18 PP 0)), (5, .int y5), (6, .int y6)] → Wi D ad cy o sz Q p l e rmL_hour s m [.ref (ad 15 PP 0), .ref (ad 16 PP 0), .ref (ad 17 PP 0), .ref (ad 18 PP 0), .int x4] below meth c H locs (F0 m 445 ls [])), ∀ {K1 : Mem → Int32 → Prop} (hk1 : ∀ (S : Mem) (y5 : Int32), K1 S y5 → ∀ (H : Heap) (locs : List Loc) (ls : Array Slot), PW D ad cy (AW ad o sz) s.heap o S H locs → lv_has ls 10 [(5, .int y5)] → Wi D ad cy o sz Q p l e rmL_hour s m [.ref (ad 15 PP 0), .ref (ad 16 PP 0), .ref (ad 17 PP 0), .ref (ad 18 PP 0), .int x4] below meth c H locs (F0 m 513 ls [])), ∀ (S : Mem) (y5 : Int32) (y6 : Int32) (w1 : Int32), vc_L_hour_J496 Q K0 K1 PP x4 S y5 y6 w1 → ∀ (H : Heap) (locs : List Loc) (ls : Array Slot), PW D ad cy (AW ad o sz) s.heap o S H locs → lv_has ls 10 [(0, .ref (ad 15 PP 0)), (3, .ref (ad 18 PP 0)), (5, .int y5), (6, .int y6)] → Wi D ad cy o sz Q p l e rmL_hour s m [.ref (ad 15 PP 0), .ref (ad 16 PP 0), .ref (ad 17 PP 0), .ref (ad 18 PP 0), .int x4] below meth c H locs (F0 m 496 ls [.int w1, .ref (ad 15 PP 0)]) := by
    intro K0 hk0 K1 hk1 S y5 y6 w1 hq H locs ls hX hl
    unfold vc_L_hour_J496 at hq
    refine lv_aload_n hM.1 hM.2.1 dL_hour_496 rfl (lv_at hl 0 rfl) ?_
    refine lv_bipush (v := (10 : Int32)) hM.1 hM.2.1 dL_hour_497 (by decide) ?_
    refine lv_iload hM.1 hM.2.1 dL_hour_499 (lv_at hl 3 rfl) ?_
    refine lv_imul hM.1 hM.2.1 dL_hour_501 ?_
    refine lv_bipush (v := (6 : Int32)) hM.1 hM.2.1 dL_hour_502 (by decide) ?_
    refine lv_iadd hM.1 hM.2.1 dL_hour_504 ?_
    have c_118 := hq.1
    replace hq := hq.2
    refine r_iald hM hK hX hI.2.1 (a15 PP 0) c_118 dL_hour_505 ?_
    exact J506 hk0 hk1 S y5 y6 w1 (S 15 PP 0 (((10 : Int32) * y6) + (6 : Int32)).toNatClampNeg) hq _ _ _ hX (lv_sub hl [0, 1, 2, 3] rfl)
  have L445 : ∀ {K : Mem → Int32 → Prop} (hk : ∀ (S : Mem) (y5 : Int32), K S y5 → ∀ (H : Heap) (locs : List Loc) (ls : Array Slot), PW D ad cy (AW ad o sz) s.heap o S H locs → lv_has ls 10 [(5, .int y5)] → Wi D ad cy o sz Q p l e rmL_hour s m [.ref (ad 15 PP 0), .ref (ad 16 PP 0), .ref (ad 17 PP 0), .ref (ad 18 PP 0), .int x4] below meth c H locs (F0 m 513 ls [])), ∀ (n : Nat) (S : Mem) (y5 : Int32) (y6 : Int32), vc_L_hour_L445 Q K PP x4 n S y5 y6 → ∀ (H : Heap) (locs : List Loc) (ls : Array Slot), PW D ad cy (AW ad o sz) s.heap o S H locs → lv_has ls 10 [(0, .ref (ad 15 PP 0)), (3, .ref (ad 18 PP 0)), (5, .int y5), (6, .int y6)] → Wi D ad cy o sz Q p l e rmL_hour s m [.ref (ad 15 PP 0), .ref (ad 16 PP 0), .ref (ad 17 PP 0), .ref (ad 18 PP 0), .int x4] below meth c H locs (F0 m 445 ls []) := by
    intro K hk n
    induction n with
    | zero =>
      intro S y5 y6 hq
      rw [vc_L_hour_L445] at hq
      exact hq.elim
    | succ n ih =>
      intro S y5 y6 hq H locs ls hX hl
      rw [vc_L_hour_L445] at hq
      refine lv_iload hM.1 hM.2.1 dL_hour_445 (lv_at hl 3 rfl) ?_
      refine lv_aload_n hM.1 hM.2.1 dL_hour_447 rfl (lv_at hl 1 rfl) ?_
      refine lv_bipush (v := (15 : Int32)) hM.1 hM.2.1 dL_hour_448 (by decide) ?_
      have c_114 := hq.1
      replace hq := hq.2
      refine r_iald hM hK hX hI.2.2.2.2.1 (a18 PP 0) c_114 dL_hour_450 ?_
      refine lv_icmp_ge (tgt := 513) hM.1 hM.2.1 dL_hour_451 (by decide) (fun c_115 => ?_) (fun c_115 => ?_)
      · replace hq := hq.1 c_115
        exact hk S y5 hq _ _ _ hX (lv_sub hl [2] rfl)
      replace hq := hq.2 c_115
      refine lv_aload_n hM.1 hM.2.1 dL_hour_454 rfl (lv_at hl 0 rfl) ?_
      refine lv_bipush (v := (10 : Int32)) hM.1 hM.2.1 dL_hour_455 (by decide) ?_
      refine lv_iload hM.1 hM.2.1 dL_hour_457 (lv_at hl 3 rfl) ?_
      refine lv_imul hM.1 hM.2.1 dL_hour_459 ?_
      refine lv_bipush (v := (6 : Int32)) hM.1 hM.2.1 dL_hour_460 (by decide) ?_
      refine lv_iadd hM.1 hM.2.1 dL_hour_462 ?_
      refine lv_aload_n hM.1 hM.2.1 dL_hour_463 rfl (lv_at hl 0 rfl) ?_
      refine lv_bipush (v := (10 : Int32)) hM.1 hM.2.1 dL_hour_464 (by decide) ?_
      refine lv_iload hM.1 hM.2.1 dL_hour_466 (lv_at hl 3 rfl) ?_
      refine lv_imul hM.1 hM.2.1 dL_hour_468 ?_
      refine lv_bipush (v := (9 : Int32)) hM.1 hM.2.1 dL_hour_469 (by decide) ?_
      refine lv_iadd hM.1 hM.2.1 dL_hour_471 ?_
      have c_116 := hq.1
      replace hq := hq.2
      refine r_iald hM hK hX hI.2.1 (a15 PP 0) c_116 dL_hour_472 ?_
      refine lv_iconst (v := (1 : Int32)) hM.1 hM.2.1 dL_hour_473 (by decide) ?_
      refine lv_icmp_ne (tgt := 496) hM.1 hM.2.1 dL_hour_474 (by decide) (fun c_117 => ?_) (fun c_117 => ?_)
      · replace hq := hq.1 c_117
        exact J496 ih hk S y5 y6 (((10 : Int32) * y6) + (6 : Int32)) hq _ _ _ hX (lv_sub hl [0, 1, 2, 3] rfl)
      replace hq := hq.2 c_117
      refine lv_aload_n hM.1 hM.2.1 dL_hour_477 rfl (lv_at hl 0 rfl) ?_
      refine lv_bipush (v := (10 : Int32)) hM.1 hM.2.1 dL_hour_478 (by decide) ?_
      refine lv_iload hM.1 hM.2.1 dL_hour_480 (lv_at hl 3 rfl) ?_
      refine lv_imul hM.1 hM.2.1 dL_hour_482 ?_
      refine lv_iconst (v := (5 : Int32)) hM.1 hM.2.1 dL_hour_483 (by decide) ?_
      refine lv_iadd hM.1 hM.2.1 dL_hour_484 ?_
      have c_122 := hq.1
      replace hq := hq.2
      refine r_iald hM hK hX hI.2.1 (a15 PP 0) c_122 dL_hour_485 ?_
      refine lv_aload_n hM.1 hM.2.1 dL_hour_486 rfl (lv_at hl 1 rfl) ?_
      refine lv_iconst (v := (3 : Int32)) hM.1 hM.2.1 dL_hour_487 (by decide) ?_
      have c_123 := hq.1
      replace hq := hq.2
      refine r_iald hM hK hX hI.2.2.2.2.1 (a18 PP 0) c_123 dL_hour_488 ?_
      refine lv_icmp_lt (tgt := 496) hM.1 hM.2.1 dL_hour_489 (by decide) (fun c_124 => ?_) (fun c_124 => ?_)
      · replace hq := hq.1 c_124
        exact J496 ih hk S y5 y6 (((10 : Int32) * y6) + (6 : Int32)) hq _ _ _ hX (lv_sub hl [0, 1, 2, 3] rfl)
      replace hq := hq.2 c_124
      refine lv_iconst (v := (1 : Int32)) hM.1 hM.2.1 dL_hour_492 (by decide) ?_
      refine lv_goto (tgt := 506) hM.1 hM.2.1 dL_hour_493 (by decide) ?_
      exact J506 ih hk S y5 y6 (((10 : Int32) * y6) + (6 : Int32)) (1 : Int32) hq _ _ _ hX (lv_sub hl [0, 1, 2, 3] rfl)
  unfold vc_L_hour at hq
  refine lv_aload_n hM.1 hM.2.1 dL_hour_0 rfl (lv_at hl 3 rfl) ?_
  refine lv_bipush (v := (14 : Int32)) hM.1 hM.2.1 dL_hour_1 (by decide) ?_
  refine lv_aload_n hM.1 hM.2.1 dL_hour_3 rfl (lv_at hl 0 rfl) ?_
  refine lv_aload_n hM.1 hM.2.1 dL_hour_4 rfl (lv_at hl 1 rfl) ?_
  refine lv_aload_n hM.1 hM.2.1 dL_hour_5 rfl (lv_at hl 2 rfl) ?_
  refine lv_aload_n hM.1 hM.2.1 dL_hour_6 rfl (lv_at hl 3 rfl) ?_
  refine cSi (As := [.ref (ad 15 PP 0), .ref (ad 16 PP 0), .ref (ad 17 PP 0), .ref (ad 18 PP 0)]) hM hK hX ⟨hI.1, hI.2.1, hI.2.2.1, hI.2.2.2.1, hI.2.2.2.2.1, trivial⟩ hA (met_L_mean l D ad cy S PP hq) (kL_mean hM.2.2.2.2 ql_RL_24 (Nat.le_of_ble_eq_true rfl) (Nat.le_of_ble_eq_true rfl)) rfl hl.1 rfl (Nat.le_of_ble_eq_true rfl) dL_hour_7 ⟨Nat.zero_le _, Nat.zero_le _⟩ (fun S_1 r_2 hq H locs hX => ?_)
  have c_4 := hq.1
  replace hq := hq.2
  refine r_iast hM hK hX hI.2.2.2.2.1 (a18 PP 0) c_4 dL_hour_10 (fun S_3 e_5 H locs hX => ?_)
  replace hq := hq S_3 e_5
  refine lv_aload_n hM.1 hM.2.1 dL_hour_11 rfl (lv_at hl 3 rfl) ?_
  refine lv_iconst (v := (0 : Int32)) hM.1 hM.2.1 dL_hour_12 (by decide) ?_
  refine lv_dup2_11 hM.1 hM.2.1 dL_hour_13 rfl rfl ?_
  have c_6 := hq.1
  replace hq := hq.2
  refine r_iald hM hK hX hI.2.2.2.2.1 (a18 PP 0) c_6 dL_hour_14 ?_
  refine lv_iconst (v := (1 : Int32)) hM.1 hM.2.1 dL_hour_15 (by decide) ?_
  refine lv_iadd hM.1 hM.2.1 dL_hour_16 ?_
  have c_8 := hq.1
  replace hq := hq.2
  refine r_iast hM hK hX hI.2.2.2.2.1 (a18 PP 0) c_8 dL_hour_17 (fun S_7 e_9 H locs hX => ?_)
  replace hq := hq S_7 e_9
  refine lv_aload_n hM.1 hM.2.1 dL_hour_18 rfl (lv_at hl 3 rfl) ?_
  refine lv_iconst (v := (1 : Int32)) hM.1 hM.2.1 dL_hour_19 (by decide) ?_
  refine lv_iload hM.1 hM.2.1 dL_hour_20 (lv_at hl 4 rfl) ?_
  have c_11 := hq.1
  replace hq := hq.2
  refine r_iast hM hK hX hI.2.2.2.2.1 (a18 PP 0) c_11 dL_hour_22 (fun S_10 e_12 H locs hX => ?_)
  replace hq := hq S_10 e_12
  refine lv_iconst (v := (0 : Int32)) hM.1 hM.2.1 dL_hour_23 (by decide) ?_
  refine lv_istore (lv' := [(5, .int (0 : Int32)), (0, .ref (ad 15 PP 0)), (1, .ref (ad 16 PP 0)), (2, .ref (ad 17 PP 0)), (3, .ref (ad 18 PP 0)), (4, .int x4)]) hM.1 hM.2.1 dL_hour_24 hl (by decide) rfl (fun ls hl => ?_)
  refine lv_iconst (v := (0 : Int32)) hM.1 hM.2.1 dL_hour_26 (by decide) ?_
  refine lv_istore (lv' := [(6, .int (0 : Int32)), (5, .int (0 : Int32)), (0, .ref (ad 15 PP 0)), (1, .ref (ad 16 PP 0)), (2, .ref (ad 17 PP 0)), (3, .ref (ad 18 PP 0)), (4, .int x4)]) hM.1 hM.2.1 dL_hour_27 hl (by decide) rfl (fun ls hl => ?_)
  obtain ⟨k0, hq⟩ := hq
  refine L29 (fun S_22 y5_23 hq H locs ls hX hl => ?_) k0 S_10 (0 : Int32) (0 : Int32) hq _ _ _ hX (lv_sub hl [2, 3, 4, 5, 1, 0] rfl)
  refine lv_iconst (v := (0 : Int32)) hM.1 hM.2.1 dL_hour_69 (by decide) ?_
  refine lv_istore (lv' := [(6, .int (0 : Int32)), (0, .ref (ad 15 PP 0)), (1, .ref (ad 16 PP 0)), (2, .ref (ad 17 PP 0)), (3, .ref (ad 18 PP 0)), (5, .int y5_23)]) hM.1 hM.2.1 dL_hour_70 hl (by decide) rfl (fun ls hl => ?_)
  obtain ⟨k0, hq⟩ := hq
  refine L72 (fun S_64 y5_65 hq H locs ls hX hl => ?_) k0 S_22 y5_23 (0 : Int32) hq _ _ _ hX (lv_sub hl [1, 2, 3, 4, 5, 0] rfl)
  refine lv_aload_n hM.1 hM.2.1 dL_hour_236 rfl (lv_at hl 3 rfl) ?_
  refine lv_bipush (v := (12 : Int32)) hM.1 hM.2.1 dL_hour_237 (by decide) ?_
  refine lv_dup2_11 hM.1 hM.2.1 dL_hour_239 rfl rfl ?_
  have c_66 := hq.1
  replace hq := hq.2
  refine r_iald hM hK hX hI.2.2.2.2.1 (a18 PP 0) c_66 dL_hour_240 ?_
  refine lv_iload hM.1 hM.2.1 dL_hour_241 (lv_at hl 4 rfl) ?_
  refine lv_iadd hM.1 hM.2.1 dL_hour_243 ?_
  have c_68 := hq.1
  replace hq := hq.2
  refine r_iast hM hK hX hI.2.2.2.2.1 (a18 PP 0) c_68 dL_hour_244 (fun S_67 e_69 H locs hX => ?_)
  replace hq := hq S_67 e_69
  refine lv_iconst (v := (0 : Int32)) hM.1 hM.2.1 dL_hour_245 (by decide) ?_
  refine lv_istore (lv' := [(6, .int (0 : Int32)), (0, .ref (ad 15 PP 0)), (1, .ref (ad 16 PP 0)), (2, .ref (ad 17 PP 0)), (3, .ref (ad 18 PP 0)), (5, .int y5_65)]) hM.1 hM.2.1 dL_hour_246 hl (by decide) rfl (fun ls hl => ?_)
  obtain ⟨k0, hq⟩ := hq
  refine L248 (fun S_112 y5_113 hq H locs ls hX hl => ?_) k0 S_67 y5_65 (0 : Int32) hq _ _ _ hX (lv_sub hl [1, 2, 3, 4, 5, 0] rfl)
  refine lv_iconst (v := (0 : Int32)) hM.1 hM.2.1 dL_hour_442 (by decide) ?_
  refine lv_istore (lv' := [(6, .int (0 : Int32)), (0, .ref (ad 15 PP 0)), (3, .ref (ad 18 PP 0)), (5, .int y5_113)]) hM.1 hM.2.1 dL_hour_443 hl (by decide) rfl (fun ls hl => ?_)
  obtain ⟨k0, hq⟩ := hq
  refine L445 (fun S_125 y5_126 hq H locs ls hX hl => ?_) k0 S_112 y5_113 (0 : Int32) hq _ _ _ hX (lv_sub hl [1, 2, 3, 0] rfl)
  refine lv_iload hM.1 hM.2.1 dL_hour_513 (lv_at hl 0 rfl) ?_
  exact e_i hM hX hlocks hret hq dL_hour_515
def rmL_areThermometers : Room := { frames := 4, cells := 0, slots := 0, locals := 87 }
theorem kL_areThermometers {R : Room} {s : State} {args : Array Value} {own : String} {index : Nat} (ht : ∀ w ∈ lw_all, w.before args s = true) (hl : Cond.methodLink own index yL_areThermometers ∈ lw_all) (hf : rmL_areThermometers.frames + 1 ≤ R.frames) (hlo : 8 + (13 + 11) + rmL_areThermometers.locals ≤ R.locals) : CallB R s args own index yL_areThermometers cL_areThermometers 13 (some Jvm.ClassFile.FieldType.boolean) (wA yL_areThermometers cL_areThermometers 13 (some Jvm.ClassFile.FieldType.boolean)) rmL_areThermometers 0 0 5 ∧ (Cond.static yL_areThermometers).before args s = true := va_cwS 5 ht (good_S hl qt_yL_areThermometers qi_RL qc_yL_areThermometers) rfl rfl rfl (by decide +kernel) ⟨hf, hlo⟩
set_option maxRecDepth 100000 in
set_option maxHeartbeats 4000000 in
theorem met_L_areThermometers (l : Launch) (D : va_G) (ad : Adr) (cy : Nat → ClassId) (S : Mem) {Q : Mem → Int32 → Prop} (hq : vc_L_areThermometers S Q) : Ci l yL_areThermometers (wA yL_areThermometers cL_areThermometers 13 (some Jvm.ClassFile.FieldType.boolean)) rmL_areThermometers D ad cy (IN [(15, 0, 0), (16, 0, 0), (17, 0, 0), (18, 0, 0)]) [.ref (ad 14 0 0), .ref (ad 15 0 0), .ref (ad 16 0 0), .ref (ad 17 0 0), .ref (ad 18 0 0)] S Q := by
  intro o sz hI
  refine mkC (own := RL) (lv := [(0, .ref (ad 14 0 0)), (1, .ref (ad 15 0 0)), (2, .ref (ad 16 0 0)), (3, .ref (ad 17 0 0)), (4, .ref (ad 18 0 0))]) (by decide) rfl (Nat.le_of_ble_eq_true rfl) rfl ?_
  intro p e s m below meth c ls hsz hM hlocks hret hK hA hX hl
  have J95 : ∀ {K0 : Mem → Int32 → Int32 → Int32 → Int32 → Int32 → Int32 → Int32 → Int32 → Prop} (hk0 : ∀ (S : Mem) (y5 : Int32) (y6 : Int32) (y7 : Int32) (y8 : Int32) (y9 : Int32) (y10 : Int32) (y11 : Int32) (y12 : Int32), K0 S y5 y6 y7 y8 y9 y10 y11 y12 → ∀ (H : Heap) (locs : List Loc) (ls : Array Slot), PW D ad cy (AW ad o sz) s.heap o S H locs → lv_has ls 13 [(0, .ref (ad 14 0 0)), (1, .ref (ad 15 0 0)), (2, .ref (ad 16 0 0)), (3, .ref (ad 17 0 0)), (4, .ref (ad 18 0 0)), (5, .int y5), (6, .int y6), (7, .int y7), (8, .int y8), (9, .int y9), (10, .int y10), (11, .int y11), (12, .int y12)] → Wi D ad cy o sz Q p l e rmL_areThermometers s m [.ref (ad 14 0 0), .ref (ad 15 0 0), .ref (ad 16 0 0), .ref (ad 17 0 0), .ref (ad 18 0 0)] below meth c H locs (F0 m 60 ls [])), ∀ {K1 : Mem → Int32 → Int32 → Int32 → Int32 → Int32 → Int32 → Int32 → Prop} (hk1 : ∀ (S : Mem) (y5 : Int32) (y6 : Int32) (y7 : Int32) (y8 : Int32) (y9 : Int32) (y10 : Int32) (y11 : Int32), K1 S y5 y6 y7 y8 y9 y10 y11 → ∀ (H : Heap) (locs : List Loc) (ls : Array Slot), PW D ad cy (AW ad o sz) s.heap o S H locs → lv_has ls 13 [(0, .ref (ad 14 0 0)), (1, .ref (ad 15 0 0)), (2, .ref (ad 16 0 0)), (3, .ref (ad 17 0 0)), (4, .ref (ad 18 0 0)), (5, .int y5), (6, .int y6), (7, .int y7), (8, .int y8), (9, .int y9), (10, .int y10), (11, .int y11)] → Wi D ad cy o sz Q p l e rmL_areThermometers s m [.ref (ad 14 0 0), .ref (ad 15 0 0), .ref (ad 16 0 0), .ref (ad 17 0 0), .ref (ad 18 0 0)] below meth c H locs (F0 m 103 ls [])), ∀ (S : Mem) (y5 : Int32) (y6 : Int32) (y7 : Int32) (y8 : Int32) (y10 : Int32) (y11 : Int32) (y12 : Int32) (w0 : Int32), vc_L_areThermometers_J95 Q K0 K1 S y5 y6 y7 y8 y10 y11 y12 w0 → ∀ (H : Heap) (locs : List Loc) (ls : Array Slot), PW D ad cy (AW ad o sz) s.heap o S H locs → lv_has ls 13 [(0, .ref (ad 14 0 0)), (1, .ref (ad 15 0 0)), (2, .ref (ad 16 0 0)), (3, .ref (ad 17 0 0)), (4, .ref (ad 18 0 0)), (5, .int y5), (6, .int y6), (7, .int y7), (8, .int y8), (10, .int y10), (11, .int y11), (12, .int y12)] → Wi D ad cy o sz Q p l e rmL_areThermometers s m [.ref (ad 14 0 0), .ref (ad 15 0 0), .ref (ad 16 0 0), .ref (ad 17 0 0), .ref (ad 18 0 0)] below meth c H locs (F0 m 95 ls [.int w0]) := by
    intro K0 hk0 K1 hk1 S y5 y6 y7 y8 y10 y11 y12 w0 hq H locs ls hX hl
    unfold vc_L_areThermometers_J95 at hq
    refine lv_istore (lv' := [(9, .int w0), (0, .ref (ad 14 0 0)), (1, .ref (ad 15 0 0)), (2, .ref (ad 16 0 0)), (3, .ref (ad 17 0 0)), (4, .ref (ad 18 0 0)), (5, .int y5), (6, .int y6), (7, .int y7), (8, .int y8), (10, .int y10), (11, .int y11), (12, .int y12)]) hM.1 hM.2.1 dL_areThermometers_95 hl (by decide) rfl (fun ls hl => ?_)
    refine lv_iinc (v := (y12 + (1 : Int32))) (lv' := [(12, .int (y12 + (1 : Int32))), (9, .int w0), (0, .ref (ad 14 0 0)), (1, .ref (ad 15 0 0)), (2, .ref (ad 16 0 0)), (3, .ref (ad 17 0 0)), (4, .ref (ad 18 0 0)), (5, .int y5), (6, .int y6), (7, .int y7), (8, .int y8), (10, .int y10), (11, .int y11)]) hM.1 hM.2.1 dL_areThermometers_97 hl (k := 12) rfl rfl (by decide) rfl (fun ls hl => ?_)
    refine lv_goto (tgt := 60) hM.1 hM.2.1 dL_areThermometers_100 (by decide) ?_
    exact hk0 S y5 y6 y7 y8 w0 y10 y11 (y12 + (1 : Int32)) hq _ _ _ hX (lv_sub hl [2, 3, 4, 5, 6, 7, 8, 9, 10, 1, 11, 12, 0] rfl)
  have J94 : ∀ {K0 : Mem → Int32 → Int32 → Int32 → Int32 → Int32 → Int32 → Int32 → Int32 → Prop} (hk0 : ∀ (S : Mem) (y5 : Int32) (y6 : Int32) (y7 : Int32) (y8 : Int32) (y9 : Int32) (y10 : Int32) (y11 : Int32) (y12 : Int32), K0 S y5 y6 y7 y8 y9 y10 y11 y12 → ∀ (H : Heap) (locs : List Loc) (ls : Array Slot), PW D ad cy (AW ad o sz) s.heap o S H locs → lv_has ls 13 [(0, .ref (ad 14 0 0)), (1, .ref (ad 15 0 0)), (2, .ref (ad 16 0 0)), (3, .ref (ad 17 0 0)), (4, .ref (ad 18 0 0)), (5, .int y5), (6, .int y6), (7, .int y7), (8, .int y8), (9, .int y9), (10, .int y10), (11, .int y11), (12, .int y12)] → Wi D ad cy o sz Q p l e rmL_areThermometers s m [.ref (ad 14 0 0), .ref (ad 15 0 0), .ref (ad 16 0 0), .ref (ad 17 0 0), .ref (ad 18 0 0)] below meth c H locs (F0 m 60 ls [])), ∀ {K1 : Mem → Int32 → Int32 → Int32 → Int32 → Int32 → Int32 → Int32 → Prop} (hk1 : ∀ (S : Mem) (y5 : Int32) (y6 : Int32) (y7 : Int32) (y8 : Int32) (y9 : Int32) (y10 : Int32) (y11 : Int32), K1 S y5 y6 y7 y8 y9 y10 y11 → ∀ (H : Heap) (locs : List Loc) (ls : Array Slot), PW D ad cy (AW ad o sz) s.heap o S H locs → lv_has ls 13 [(0, .ref (ad 14 0 0)), (1, .ref (ad 15 0 0)), (2, .ref (ad 16 0 0)), (3, .ref (ad 17 0 0)), (4, .ref (ad 18 0 0)), (5, .int y5), (6, .int y6), (7, .int y7), (8, .int y8), (9, .int y9), (10, .int y10), (11, .int y11)] → Wi D ad cy o sz Q p l e rmL_areThermometers s m [.ref (ad 14 0 0), .ref (ad 15 0 0), .ref (ad 16 0 0), .ref (ad 17 0 0), .ref (ad 18 0 0)] below meth c H locs (F0 m 103 ls [])), ∀ (S : Mem) (y5 : Int32) (y6 : Int32) (y7 : Int32) (y8 : Int32) (y10 : Int32) (y11 : Int32) (y12 : Int32), vc_L_areThermometers_J94 Q K0 K1 S y5 y6 y7 y8 y10 y11 y12 → ∀ (H : Heap) (locs : List Loc) (ls : Array Slot), PW D ad cy (AW ad o sz) s.heap o S H locs → lv_has ls 13 [(0, .ref (ad 14 0 0)), (1, .ref (ad 15 0 0)), (2, .ref (ad 16 0 0)), (3, .ref (ad 17 0 0)), (4, .ref (ad 18 0 0)), (5, .int y5), (6, .int y6), (7, .int y7), (8, .int y8), (10, .int y10), (11, .int y11), (12, .int y12)] → Wi D ad cy o sz Q p l e rmL_areThermometers s m [.ref (ad 14 0 0), .ref (ad 15 0 0), .ref (ad 16 0 0), .ref (ad 17 0 0), .ref (ad 18 0 0)] below meth c H locs (F0 m 94 ls []) := by
    intro K0 hk0 K1 hk1 S y5 y6 y7 y8 y10 y11 y12 hq H locs ls hX hl
    unfold vc_L_areThermometers_J94 at hq
    refine lv_iconst (v := (0 : Int32)) hM.1 hM.2.1 dL_areThermometers_94 (by decide) ?_
    exact J95 hk0 hk1 S y5 y6 y7 y8 y10 y11 y12 (0 : Int32) hq _ _ _ hX (lv_sub hl [0, 1, 2, 3, 4, 5, 6, 7, 8, 9, 10, 11] rfl)
  have L60 : ∀ {K : Mem → Int32 → Int32 → Int32 → Int32 → Int32 → Int32 → Int32 → Prop} (hk : ∀ (S : Mem) (y5 : Int32) (y6 : Int32) (y7 : Int32) (y8 : Int32) (y9 : Int32) (y10 : Int32) (y11 : Int32), K S y5 y6 y7 y8 y9 y10 y11 → ∀ (H : Heap) (locs : List Loc) (ls : Array Slot), PW D ad cy (AW ad o sz) s.heap o S H locs → lv_has ls 13 [(0, .ref (ad 14 0 0)), (1, .ref (ad 15 0 0)), (2, .ref (ad 16 0 0)), (3, .ref (ad 17 0 0)), (4, .ref (ad 18 0 0)), (5, .int y5), (6, .int y6), (7, .int y7), (8, .int y8), (9, .int y9), (10, .int y10), (11, .int y11)] → Wi D ad cy o sz Q p l e rmL_areThermometers s m [.ref (ad 14 0 0), .ref (ad 15 0 0), .ref (ad 16 0 0), .ref (ad 17 0 0), .ref (ad 18 0 0)] below meth c H locs (F0 m 103 ls [])), ∀ (n : Nat) (S : Mem) (y5 : Int32) (y6 : Int32) (y7 : Int32) (y8 : Int32) (y9 : Int32) (y10 : Int32) (y11 : Int32) (y12 : Int32), vc_L_areThermometers_L60 Q K n S y5 y6 y7 y8 y9 y10 y11 y12 → ∀ (H : Heap) (locs : List Loc) (ls : Array Slot), PW D ad cy (AW ad o sz) s.heap o S H locs → lv_has ls 13 [(0, .ref (ad 14 0 0)), (1, .ref (ad 15 0 0)), (2, .ref (ad 16 0 0)), (3, .ref (ad 17 0 0)), (4, .ref (ad 18 0 0)), (5, .int y5), (6, .int y6), (7, .int y7), (8, .int y8), (9, .int y9), (10, .int y10), (11, .int y11), (12, .int y12)] → Wi D ad cy o sz Q p l e rmL_areThermometers s m [.ref (ad 14 0 0), .ref (ad 15 0 0), .ref (ad 16 0 0), .ref (ad 17 0 0), .ref (ad 18 0 0)] below meth c H locs (F0 m 60 ls []) := by
    intro K hk n
    induction n with
    | zero =>
      intro S y5 y6 y7 y8 y9 y10 y11 y12 hq
      rw [vc_L_areThermometers_L60] at hq
      exact hq.elim
    | succ n ih =>
      intro S y5 y6 y7 y8 y9 y10 y11 y12 hq H locs ls hX hl
      rw [vc_L_areThermometers_L60] at hq
      refine lv_iload hM.1 hM.2.1 dL_areThermometers_60 (lv_at hl 12 rfl) ?_
      refine lv_bipush (v := (9 : Int32)) hM.1 hM.2.1 dL_areThermometers_62 (by decide) ?_
      refine lv_icmp_ge (tgt := 103) hM.1 hM.2.1 dL_areThermometers_64 (by decide) (fun c_8 => ?_) (fun c_8 => ?_)
      · replace hq := hq.1 c_8
        exact hk S y5 y6 y7 y8 y9 y10 y11 hq _ _ _ hX (lv_sub hl [0, 1, 2, 3, 4, 5, 6, 7, 8, 9, 10, 11] rfl)
      replace hq := hq.2 c_8
      refine lv_iload hM.1 hM.2.1 dL_areThermometers_67 (lv_at hl 9 rfl) ?_
      refine lv_if_eq (tgt := 94) hM.1 hM.2.1 dL_areThermometers_69 (by decide) (fun c_9 => ?_) (fun c_9 => ?_)
      · replace hq := hq.1 c_9
        exact J94 ih hk S y5 y6 y7 y8 y10 y11 y12 hq _ _ _ hX (lv_sub hl [0, 1, 2, 3, 4, 5, 6, 7, 8, 10, 11, 12] rfl)
      replace hq := hq.2 c_9
      refine lv_aload_n hM.1 hM.2.1 dL_areThermometers_72 rfl (lv_at hl 0 rfl) ?_
      refine lv_iload hM.1 hM.2.1 dL_areThermometers_73 (lv_at hl 10 rfl) ?_
      refine lv_iload hM.1 hM.2.1 dL_areThermometers_75 (lv_at hl 12 rfl) ?_
      refine cVi (As := [.int y10, .int y12]) hM hK hX ⟨hI.1, trivial⟩ hA (met_X6_ofThermometer l D ad cy S y10 y12 hq) (kX6_ofThermometer hM.2.2.2.2 ql_RL_45 (Nat.le_of_ble_eq_true rfl) (Nat.le_of_ble_eq_true rfl)) (v14 hK hX (hI.1 _ m14)) rfl hl.1 rfl (Nat.le_of_ble_eq_true rfl) dL_areThermometers_77 ⟨Nat.zero_le _, Nat.zero_le _⟩ (fun S_10 r_11 hq H locs hX => ?_)
      refine lv_aload_n hM.1 hM.2.1 dL_areThermometers_80 rfl (lv_at hl 1 rfl) ?_
      refine lv_iload hM.1 hM.2.1 dL_areThermometers_81 (lv_at hl 11 rfl) ?_
      refine lv_iload hM.1 hM.2.1 dL_areThermometers_83 (lv_at hl 12 rfl) ?_
      refine lv_iadd hM.1 hM.2.1 dL_areThermometers_85 ?_
      have c_12 := hq.1
      replace hq := hq.2
      refine r_iald hM hK hX hI.2.1 (a15 0 0) c_12 dL_areThermometers_86 ?_
      refine lv_icmp_ne (tgt := 94) hM.1 hM.2.1 dL_areThermometers_87 (by decide) (fun c_13 => ?_) (fun c_13 => ?_)
      · replace hq := hq.1 c_13
        exact J94 ih hk S_10 y5 y6 y7 y8 y10 y11 y12 hq _ _ _ hX (lv_sub hl [0, 1, 2, 3, 4, 5, 6, 7, 8, 10, 11, 12] rfl)
      replace hq := hq.2 c_13
      refine lv_iconst (v := (1 : Int32)) hM.1 hM.2.1 dL_areThermometers_90 (by decide) ?_
      refine lv_goto (tgt := 95) hM.1 hM.2.1 dL_areThermometers_91 (by decide) ?_
      exact J95 ih hk S_10 y5 y6 y7 y8 y10 y11 y12 (1 : Int32) hq _ _ _ hX (lv_sub hl [0, 1, 2, 3, 4, 5, 6, 7, 8, 10, 11, 12] rfl)
  have J222 : ∀ {K0 : Mem → Int32 → Int32 → Int32 → Int32 → Int32 → Int32 → Int32 → Int32 → Prop} (hk0 : ∀ (S : Mem) (y5 : Int32) (y6 : Int32) (y7 : Int32) (y8 : Int32) (y9 : Int32) (y10 : Int32) (y11 : Int32) (y12 : Int32), K0 S y5 y6 y7 y8 y9 y10 y11 y12 → ∀ (H : Heap) (locs : List Loc) (ls : Array Slot), PW D ad cy (AW ad o sz) s.heap o S H locs → lv_has ls 13 [(0, .ref (ad 14 0 0)), (1, .ref (ad 15 0 0)), (2, .ref (ad 16 0 0)), (3, .ref (ad 17 0 0)), (4, .ref (ad 18 0 0)), (5, .int y5), (6, .int y6), (7, .int y7), (8, .int y8), (9, .int y9), (10, .int y10), (11, .int y11), (12, .int y12)] → Wi D ad cy o sz Q p l e rmL_areThermometers s m [.ref (ad 14 0 0), .ref (ad 15 0 0), .ref (ad 16 0 0), .ref (ad 17 0 0), .ref (ad 18 0 0)] below meth c H locs (F0 m 156 ls [])), ∀ {K1 : Mem → Int32 → Int32 → Int32 → Int32 → Int32 → Int32 → Int32 → Prop} (hk1 : ∀ (S : Mem) (y5 : Int32) (y6 : Int32) (y7 : Int32) (y8 : Int32) (y9 : Int32) (y10 : Int32) (y11 : Int32), K1 S y5 y6 y7 y8 y9 y10 y11 → ∀ (H : Heap) (locs : List Loc) (ls : Array Slot), PW D ad cy (AW ad o sz) s.heap o S H locs → lv_has ls 13 [(0, .ref (ad 14 0 0)), (1, .ref (ad 15 0 0)), (2, .ref (ad 16 0 0)), (3, .ref (ad 17 0 0)), (4, .ref (ad 18 0 0)), (5, .int y5), (6, .int y6), (7, .int y7), (8, .int y8), (9, .int y9), (10, .int y10), (11, .int y11)] → Wi D ad cy o sz Q p l e rmL_areThermometers s m [.ref (ad 14 0 0), .ref (ad 15 0 0), .ref (ad 16 0 0), .ref (ad 17 0 0), .ref (ad 18 0 0)] below meth c H locs (F0 m 230 ls [])), ∀ (S : Mem) (y5 : Int32) (y6 : Int32) (y7 : Int32) (y8 : Int32) (y10 : Int32) (y11 : Int32) (y12 : Int32) (w0 : Int32), vc_L_areThermometers_J222 Q K0 K1 S y5 y6 y7 y8 y10 y11 y12 w0 → ∀ (H : Heap) (locs : List Loc) (ls : Array Slot), PW D ad cy (AW ad o sz) s.heap o S H locs → lv_has ls 13 [(0, .ref (ad 14 0 0)), (1, .ref (ad 15 0 0)), (2, .ref (ad 16 0 0)), (3, .ref (ad 17 0 0)), (4, .ref (ad 18 0 0)), (5, .int y5), (6, .int y6), (7, .int y7), (8, .int y8), (10, .int y10), (11, .int y11), (12, .int y12)] → Wi D ad cy o sz Q p l e rmL_areThermometers s m [.ref (ad 14 0 0), .ref (ad 15 0 0), .ref (ad 16 0 0), .ref (ad 17 0 0), .ref (ad 18 0 0)] below meth c H locs (F0 m 222 ls [.int w0]) := by
    intro K0 hk0 K1 hk1 S y5 y6 y7 y8 y10 y11 y12 w0 hq H locs ls hX hl
    unfold vc_L_areThermometers_J222 at hq
    refine lv_istore (lv' := [(9, .int w0), (0, .ref (ad 14 0 0)), (1, .ref (ad 15 0 0)), (2, .ref (ad 16 0 0)), (3, .ref (ad 17 0 0)), (4, .ref (ad 18 0 0)), (5, .int y5), (6, .int y6), (7, .int y7), (8, .int y8), (10, .int y10), (11, .int y11), (12, .int y12)]) hM.1 hM.2.1 dL_areThermometers_222 hl (by decide) rfl (fun ls hl => ?_)
    refine lv_iinc (v := (y12 + (1 : Int32))) (lv' := [(12, .int (y12 + (1 : Int32))), (9, .int w0), (0, .ref (ad 14 0 0)), (1, .ref (ad 15 0 0)), (2, .ref (ad 16 0 0)), (3, .ref (ad 17 0 0)), (4, .ref (ad 18 0 0)), (5, .int y5), (6, .int y6), (7, .int y7), (8, .int y8), (10, .int y10), (11, .int y11)]) hM.1 hM.2.1 dL_areThermometers_224 hl (k := 12) rfl rfl (by decide) rfl (fun ls hl => ?_)
    refine lv_goto (tgt := 156) hM.1 hM.2.1 dL_areThermometers_227 (by decide) ?_
    exact hk0 S y5 y6 y7 y8 w0 y10 y11 (y12 + (1 : Int32)) hq _ _ _ hX (lv_sub hl [2, 3, 4, 5, 6, 7, 8, 9, 10, 1, 11, 12, 0] rfl)
  have J221 : ∀ {K0 : Mem → Int32 → Int32 → Int32 → Int32 → Int32 → Int32 → Int32 → Int32 → Prop} (hk0 : ∀ (S : Mem) (y5 : Int32) (y6 : Int32) (y7 : Int32) (y8 : Int32) (y9 : Int32) (y10 : Int32) (y11 : Int32) (y12 : Int32), K0 S y5 y6 y7 y8 y9 y10 y11 y12 → ∀ (H : Heap) (locs : List Loc) (ls : Array Slot), PW D ad cy (AW ad o sz) s.heap o S H locs → lv_has ls 13 [(0, .ref (ad 14 0 0)), (1, .ref (ad 15 0 0)), (2, .ref (ad 16 0 0)), (3, .ref (ad 17 0 0)), (4, .ref (ad 18 0 0)), (5, .int y5), (6, .int y6), (7, .int y7), (8, .int y8), (9, .int y9), (10, .int y10), (11, .int y11), (12, .int y12)] → Wi D ad cy o sz Q p l e rmL_areThermometers s m [.ref (ad 14 0 0), .ref (ad 15 0 0), .ref (ad 16 0 0), .ref (ad 17 0 0), .ref (ad 18 0 0)] below meth c H locs (F0 m 156 ls [])), ∀ {K1 : Mem → Int32 → Int32 → Int32 → Int32 → Int32 → Int32 → Int32 → Prop} (hk1 : ∀ (S : Mem) (y5 : Int32) (y6 : Int32) (y7 : Int32) (y8 : Int32) (y9 : Int32) (y10 : Int32) (y11 : Int32), K1 S y5 y6 y7 y8 y9 y10 y11 → ∀ (H : Heap) (locs : List Loc) (ls : Array Slot), PW D ad cy (AW ad o sz) s.heap o S H locs → lv_has ls 13 [(0, .ref (ad 14 0 0)), (1, .ref (ad 15 0 0)), (2, .ref (ad 16 0 0)), (3, .ref (ad 17 0 0)), (4, .ref (ad 18 0 0)), (5, .int y5), (6, .int y6), (7, .int y7), (8, .int y8), (9, .int y9), (10, .int y10), (11, .int y11)] → Wi D ad cy o sz Q p l e rmL_areThermometers s m [.ref (ad 14 0 0), .ref (ad 15 0 0), .ref (ad 16 0 0), .ref (ad 17 0 0), .ref (ad 18 0 0)] below meth c H locs (F0 m 230 ls [])), ∀ (S : Mem) (y5 : Int32) (y6 : Int32) (y7 : Int32) (y8 : Int32) (y10 : Int32) (y11 : Int32) (y12 : Int32), vc_L_areThermometers_J221 Q K0 K1 S y5 y6 y7 y8 y10 y11 y12 → ∀ (H : Heap) (locs : List Loc) (ls : Array Slot), PW D ad cy (AW ad o sz) s.heap o S H locs → lv_has ls 13 [(0, .ref (ad 14 0 0)), (1, .ref (ad 15 0 0)), (2, .ref (ad 16 0 0)), (3, .ref (ad 17 0 0)), (4, .ref (ad 18 0 0)), (5, .int y5), (6, .int y6), (7, .int y7), (8, .int y8), (10, .int y10), (11, .int y11), (12, .int y12)] → Wi D ad cy o sz Q p l e rmL_areThermometers s m [.ref (ad 14 0 0), .ref (ad 15 0 0), .ref (ad 16 0 0), .ref (ad 17 0 0), .ref (ad 18 0 0)] below meth c H locs (F0 m 221 ls []) := by
    intro K0 hk0 K1 hk1 S y5 y6 y7 y8 y10 y11 y12 hq H locs ls hX hl
    unfold vc_L_areThermometers_J221 at hq
    refine lv_iconst (v := (0 : Int32)) hM.1 hM.2.1 dL_areThermometers_221 (by decide) ?_
    exact J222 hk0 hk1 S y5 y6 y7 y8 y10 y11 y12 (0 : Int32) hq _ _ _ hX (lv_sub hl [0, 1, 2, 3, 4, 5, 6, 7, 8, 9, 10, 11] rfl)
  have L156 : ∀ {K : Mem → Int32 → Int32 → Int32 → Int32 → Int32 → Int32 → Int32 → Prop} (hk : ∀ (S : Mem) (y5 : Int32) (y6 : Int32) (y7 : Int32) (y8 : Int32) (y9 : Int32) (y10 : Int32) (y11 : Int32), K S y5 y6 y7 y8 y9 y10 y11 → ∀ (H : Heap) (locs : List Loc) (ls : Array Slot), PW D ad cy (AW ad o sz) s.heap o S H locs → lv_has ls 13 [(0, .ref (ad 14 0 0)), (1, .ref (ad 15 0 0)), (2, .ref (ad 16 0 0)), (3, .ref (ad 17 0 0)), (4, .ref (ad 18 0 0)), (5, .int y5), (6, .int y6), (7, .int y7), (8, .int y8), (9, .int y9), (10, .int y10), (11, .int y11)] → Wi D ad cy o sz Q p l e rmL_areThermometers s m [.ref (ad 14 0 0), .ref (ad 15 0 0), .ref (ad 16 0 0), .ref (ad 17 0 0), .ref (ad 18 0 0)] below meth c H locs (F0 m 230 ls [])), ∀ (n : Nat) (S : Mem) (y5 : Int32) (y6 : Int32) (y7 : Int32) (y8 : Int32) (y9 : Int32) (y10 : Int32) (y11 : Int32) (y12 : Int32), vc_L_areThermometers_L156 Q K n S y5 y6 y7 y8 y9 y10 y11 y12 → ∀ (H : Heap) (locs : List Loc) (ls : Array Slot), PW D ad cy (AW ad o sz) s.heap o S H locs → lv_has ls 13 [(0, .ref (ad 14 0 0)), (1, .ref (ad 15 0 0)), (2, .ref (ad 16 0 0)), (3, .ref (ad 17 0 0)), (4, .ref (ad 18 0 0)), (5, .int y5), (6, .int y6), (7, .int y7), (8, .int y8), (9, .int y9), (10, .int y10), (11, .int y11), (12, .int y12)] → Wi D ad cy o sz Q p l e rmL_areThermometers s m [.ref (ad 14 0 0), .ref (ad 15 0 0), .ref (ad 16 0 0), .ref (ad 17 0 0), .ref (ad 18 0 0)] below meth c H locs (F0 m 156 ls []) := by
    intro K hk n
    induction n with
    | zero =>
      intro S y5 y6 y7 y8 y9 y10 y11 y12 hq
      rw [vc_L_areThermometers_L156] at hq
      exact hq.elim
    | succ n ih =>
      intro S y5 y6 y7 y8 y9 y10 y11 y12 hq H locs ls hX hl
      rw [vc_L_areThermometers_L156] at hq
      refine lv_iload hM.1 hM.2.1 dL_areThermometers_156 (lv_at hl 12 rfl) ?_
      refine lv_aload_n hM.1 hM.2.1 dL_areThermometers_158 rfl (lv_at hl 1 rfl) ?_
      refine lv_iload hM.1 hM.2.1 dL_areThermometers_159 (lv_at hl 11 rfl) ?_
      refine lv_bipush (v := (7 : Int32)) hM.1 hM.2.1 dL_areThermometers_161 (by decide) ?_
      refine lv_iadd hM.1 hM.2.1 dL_areThermometers_163 ?_
      have c_23 := hq.1
      replace hq := hq.2
      refine r_iald hM hK hX hI.2.1 (a15 0 0) c_23 dL_areThermometers_164 ?_
      refine lv_icmp_ge (tgt := 230) hM.1 hM.2.1 dL_areThermometers_165 (by decide) (fun c_24 => ?_) (fun c_24 => ?_)
      · replace hq := hq.1 c_24
        exact hk S y5 y6 y7 y8 y9 y10 y11 hq _ _ _ hX (lv_sub hl [0, 1, 2, 3, 4, 5, 6, 7, 8, 9, 10, 11] rfl)
      replace hq := hq.2 c_24
      refine lv_iload hM.1 hM.2.1 dL_areThermometers_168 (lv_at hl 9 rfl) ?_
      refine lv_if_eq (tgt := 221) hM.1 hM.2.1 dL_areThermometers_170 (by decide) (fun c_25 => ?_) (fun c_25 => ?_)
      · replace hq := hq.1 c_25
        exact J221 ih hk S y5 y6 y7 y8 y10 y11 y12 hq _ _ _ hX (lv_sub hl [0, 1, 2, 3, 4, 5, 6, 7, 8, 10, 11, 12] rfl)
      replace hq := hq.2 c_25
      refine lv_aload_n hM.1 hM.2.1 dL_areThermometers_173 rfl (lv_at hl 0 rfl) ?_
      refine lv_iload hM.1 hM.2.1 dL_areThermometers_174 (lv_at hl 10 rfl) ?_
      refine lv_iload hM.1 hM.2.1 dL_areThermometers_176 (lv_at hl 12 rfl) ?_
      refine lv_iconst (v := (0 : Int32)) hM.1 hM.2.1 dL_areThermometers_178 (by decide) ?_
      refine cVi (As := [.int y10, .int y12, .int (0 : Int32)]) hM hK hX ⟨hI.1, trivial⟩ hA (met_X6_reading l D ad cy S y10 y12 (0 : Int32) hq) (kX6_reading hM.2.2.2.2 ql_RL_49 (Nat.le_of_ble_eq_true rfl) (Nat.le_of_ble_eq_true rfl)) (v14 hK hX (hI.1 _ m14)) rfl hl.1 rfl (Nat.le_of_ble_eq_true rfl) dL_areThermometers_179 ⟨Nat.zero_le _, Nat.zero_le _⟩ (fun S_26 r_27 hq H locs hX => ?_)
      refine lv_aload_n hM.1 hM.2.1 dL_areThermometers_182 rfl (lv_at hl 2 rfl) ?_
      refine lv_bipush (v := (6 : Int32)) hM.1 hM.2.1 dL_areThermometers_183 (by decide) ?_
      refine lv_iload hM.1 hM.2.1 dL_areThermometers_185 (lv_at hl 10 rfl) ?_
      refine lv_imul hM.1 hM.2.1 dL_areThermometers_187 ?_
      refine lv_iload hM.1 hM.2.1 dL_areThermometers_188 (lv_at hl 12 rfl) ?_
      refine lv_iadd hM.1 hM.2.1 dL_areThermometers_190 ?_
      have c_28 := hq.1
      replace hq := hq.2
      refine r_iald hM hK hX hI.2.2.1 (a16 0 0) c_28 dL_areThermometers_191 ?_
      refine lv_icmp_ne (tgt := 221) hM.1 hM.2.1 dL_areThermometers_192 (by decide) (fun c_29 => ?_) (fun c_29 => ?_)
      · replace hq := hq.1 c_29
        exact J221 ih hk S_26 y5 y6 y7 y8 y10 y11 y12 hq _ _ _ hX (lv_sub hl [0, 1, 2, 3, 4, 5, 6, 7, 8, 10, 11, 12] rfl)
      replace hq := hq.2 c_29
      refine lv_aload_n hM.1 hM.2.1 dL_areThermometers_195 rfl (lv_at hl 0 rfl) ?_
      refine lv_iload hM.1 hM.2.1 dL_areThermometers_196 (lv_at hl 10 rfl) ?_
      refine lv_iload hM.1 hM.2.1 dL_areThermometers_198 (lv_at hl 12 rfl) ?_
      refine lv_iconst (v := (1 : Int32)) hM.1 hM.2.1 dL_areThermometers_200 (by decide) ?_
      refine cVi (As := [.int y10, .int y12, .int (1 : Int32)]) hM hK hX ⟨hI.1, trivial⟩ hA (met_X6_reading l D ad cy S_26 y10 y12 (1 : Int32) hq) (kX6_reading hM.2.2.2.2 ql_RL_49 (Nat.le_of_ble_eq_true rfl) (Nat.le_of_ble_eq_true rfl)) (v14 hK hX (hI.1 _ m14)) rfl hl.1 rfl (Nat.le_of_ble_eq_true rfl) dL_areThermometers_201 ⟨Nat.zero_le _, Nat.zero_le _⟩ (fun S_30 r_31 hq H locs hX => ?_)
      refine lv_aload_n hM.1 hM.2.1 dL_areThermometers_204 rfl (lv_at hl 3 rfl) ?_
      refine lv_bipush (v := (6 : Int32)) hM.1 hM.2.1 dL_areThermometers_205 (by decide) ?_
      refine lv_iload hM.1 hM.2.1 dL_areThermometers_207 (lv_at hl 10 rfl) ?_
      refine lv_imul hM.1 hM.2.1 dL_areThermometers_209 ?_
      refine lv_iload hM.1 hM.2.1 dL_areThermometers_210 (lv_at hl 12 rfl) ?_
      refine lv_iadd hM.1 hM.2.1 dL_areThermometers_212 ?_
      have c_32 := hq.1
      replace hq := hq.2
      refine r_iald hM hK hX hI.2.2.2.1 (a17 0 0) c_32 dL_areThermometers_213 ?_
      refine lv_icmp_ne (tgt := 221) hM.1 hM.2.1 dL_areThermometers_214 (by decide) (fun c_33 => ?_) (fun c_33 => ?_)
      · replace hq := hq.1 c_33
        exact J221 ih hk S_30 y5 y6 y7 y8 y10 y11 y12 hq _ _ _ hX (lv_sub hl [0, 1, 2, 3, 4, 5, 6, 7, 8, 10, 11, 12] rfl)
      replace hq := hq.2 c_33
      refine lv_iconst (v := (1 : Int32)) hM.1 hM.2.1 dL_areThermometers_217 (by decide) ?_
      refine lv_goto (tgt := 222) hM.1 hM.2.1 dL_areThermometers_218 (by decide) ?_
      exact J222 ih hk S_30 y5 y6 y7 y8 y10 y11 y12 (1 : Int32) hq _ _ _ hX (lv_sub hl [0, 1, 2, 3, 4, 5, 6, 7, 8, 10, 11, 12] rfl)
  have J319 : ∀ {K0 : Mem → Int32 → Int32 → Int32 → Int32 → Int32 → Int32 → Prop} (hk0 : ∀ (S : Mem) (y5 : Int32) (y6 : Int32) (y7 : Int32) (y8 : Int32) (y9 : Int32) (y10 : Int32), K0 S y5 y6 y7 y8 y9 y10 → ∀ (H : Heap) (locs : List Loc) (ls : Array Slot), PW D ad cy (AW ad o sz) s.heap o S H locs → lv_has ls 13 [(0, .ref (ad 14 0 0)), (1, .ref (ad 15 0 0)), (2, .ref (ad 16 0 0)), (3, .ref (ad 17 0 0)), (4, .ref (ad 18 0 0)), (5, .int y5), (6, .int y6), (7, .int y7), (8, .int y8), (9, .int y9), (10, .int y10)] → Wi D ad cy o sz Q p l e rmL_areThermometers s m [.ref (ad 14 0 0), .ref (ad 15 0 0), .ref (ad 16 0 0), .ref (ad 17 0 0), .ref (ad 18 0 0)] below meth c H locs (F0 m 35 ls [])), ∀ {K1 : Mem → Int32 → Int32 → Int32 → Int32 → Int32 → Prop} (hk1 : ∀ (S : Mem) (y5 : Int32) (y6 : Int32) (y7 : Int32) (y8 : Int32) (y9 : Int32), K1 S y5 y6 y7 y8 y9 → ∀ (H : Heap) (locs : List Loc) (ls : Array Slot), PW D ad cy (AW ad o sz) s.heap o S H locs → lv_has ls 13 [(0, .ref (ad 14 0 0)), (5, .int y5), (6, .int y6), (7, .int y7), (8, .int y8), (9, .int y9)] → Wi D ad cy o sz Q p l e rmL_areThermometers s m [.ref (ad 14 0 0), .ref (ad 15 0 0), .ref (ad 16 0 0), .ref (ad 17 0 0), .ref (ad 18 0 0)] below meth c H locs (F0 m 328 ls [])), ∀ (S : Mem) (y5 : Int32) (y6 : Int32) (y7 : Int32) (y9 : Int32) (y10 : Int32) (w0 : Int32) (w1 : Int32), vc_L_areThermometers_J319 Q K0 K1 S y5 y6 y7 y9 y10 w0 w1 → ∀ (H : Heap) (locs : List Loc) (ls : Array Slot), PW D ad cy (AW ad o sz) s.heap o S H locs → lv_has ls 13 [(0, .ref (ad 14 0 0)), (1, .ref (ad 15 0 0)), (2, .ref (ad 16 0 0)), (3, .ref (ad 17 0 0)), (4, .ref (ad 18 0 0)), (5, .int y5), (6, .int y6), (7, .int y7), (9, .int y9), (10, .int y10)] → Wi D ad cy o sz Q p l e rmL_areThermometers s m [.ref (ad 14 0 0), .ref (ad 15 0 0), .ref (ad 16 0 0), .ref (ad 17 0 0), .ref (ad 18 0 0)] below meth c H locs (F0 m 319 ls [.int w1, .int w0]) := by
    intro K0 hk0 K1 hk1 S y5 y6 y7 y9 y10 w0 w1 hq H locs ls hX hl
    unfold vc_L_areThermometers_J319 at hq
    refine lv_iadd hM.1 hM.2.1 dL_areThermometers_319 ?_
    refine lv_istore (lv' := [(8, .int (w0 + w1)), (0, .ref (ad 14 0 0)), (1, .ref (ad 15 0 0)), (2, .ref (ad 16 0 0)), (3, .ref (ad 17 0 0)), (4, .ref (ad 18 0 0)), (5, .int y5), (6, .int y6), (7, .int y7), (9, .int y9), (10, .int y10)]) hM.1 hM.2.1 dL_areThermometers_320 hl (by decide) rfl (fun ls hl => ?_)
    refine lv_iinc (v := (y10 + (1 : Int32))) (lv' := [(10, .int (y10 + (1 : Int32))), (8, .int (w0 + w1)), (0, .ref (ad 14 0 0)), (1, .ref (ad 15 0 0)), (2, .ref (ad 16 0 0)), (3, .ref (ad 17 0 0)), (4, .ref (ad 18 0 0)), (5, .int y5), (6, .int y6), (7, .int y7), (9, .int y9)]) hM.1 hM.2.1 dL_areThermometers_322 hl (k := 10) rfl rfl (by decide) rfl (fun ls hl => ?_)
    refine lv_goto (tgt := 35) hM.1 hM.2.1 dL_areThermometers_325 (by decide) ?_
    exact hk0 S y5 y6 y7 (w0 + w1) y9 (y10 + (1 : Int32)) hq _ _ _ hX (lv_sub hl [2, 3, 4, 5, 6, 7, 8, 9, 1, 10, 0] rfl)
  have J299 : ∀ {K0 : Mem → Int32 → Int32 → Int32 → Int32 → Int32 → Int32 → Prop} (hk0 : ∀ (S : Mem) (y5 : Int32) (y6 : Int32) (y7 : Int32) (y8 : Int32) (y9 : Int32) (y10 : Int32), K0 S y5 y6 y7 y8 y9 y10 → ∀ (H : Heap) (locs : List Loc) (ls : Array Slot), PW D ad cy (AW ad o sz) s.heap o S H locs → lv_has ls 13 [(0, .ref (ad 14 0 0)), (1, .ref (ad 15 0 0)), (2, .ref (ad 16 0 0)), (3, .ref (ad 17 0 0)), (4, .ref (ad 18 0 0)), (5, .int y5), (6, .int y6), (7, .int y7), (8, .int y8), (9, .int y9), (10, .int y10)] → Wi D ad cy o sz Q p l e rmL_areThermometers s m [.ref (ad 14 0 0), .ref (ad 15 0 0), .ref (ad 16 0 0), .ref (ad 17 0 0), .ref (ad 18 0 0)] below meth c H locs (F0 m 35 ls [])), ∀ {K1 : Mem → Int32 → Int32 → Int32 → Int32 → Int32 → Prop} (hk1 : ∀ (S : Mem) (y5 : Int32) (y6 : Int32) (y7 : Int32) (y8 : Int32) (y9 : Int32), K1 S y5 y6 y7 y8 y9 → ∀ (H : Heap) (locs : List Loc) (ls : Array Slot), PW D ad cy (AW ad o sz) s.heap o S H locs → lv_has ls 13 [(0, .ref (ad 14 0 0)), (5, .int y5), (6, .int y6), (7, .int y7), (8, .int y8), (9, .int y9)] → Wi D ad cy o sz Q p l e rmL_areThermometers s m [.ref (ad 14 0 0), .ref (ad 15 0 0), .ref (ad 16 0 0), .ref (ad 17 0 0), .ref (ad 18 0 0)] below meth c H locs (F0 m 328 ls [])), ∀ (S : Mem) (y5 : Int32) (y6 : Int32) (y8 : Int32) (y9 : Int32) (y10 : Int32) (y11 : Int32) (w0 : Int32) (w1 : Int32), vc_L_areThermometers_J299 Q K0 K1 S y5 y6 y8 y9 y10 y11 w0 w1 → ∀ (H : Heap) (locs : List Loc) (ls : Array Slot), PW D ad cy (AW ad o sz) s.heap o S H locs → lv_has ls 13 [(0, .ref (ad 14 0 0)), (1, .ref (ad 15 0 0)), (2, .ref (ad 16 0 0)), (3, .ref (ad 17 0 0)), (4, .ref (ad 18 0 0)), (5, .int y5), (6, .int y6), (8, .int y8), (9, .int y9), (10, .int y10), (11, .int y11)] → Wi D ad cy o sz Q p l e rmL_areThermometers s m [.ref (ad 14 0 0), .ref (ad 15 0 0), .ref (ad 16 0 0), .ref (ad 17 0 0), .ref (ad 18 0 0)] below meth c H locs (F0 m 299 ls [.int w1, .int w0]) := by
    intro K0 hk0 K1 hk1 S y5 y6 y8 y9 y10 y11 w0 w1 hq H locs ls hX hl
    unfold vc_L_areThermometers_J299 at hq
    refine lv_iadd hM.1 hM.2.1 dL_areThermometers_299 ?_
    refine lv_istore (lv' := [(7, .int (w0 + w1)), (0, .ref (ad 14 0 0)), (1, .ref (ad 15 0 0)), (2, .ref (ad 16 0 0)), (3, .ref (ad 17 0 0)), (4, .ref (ad 18 0 0)), (5, .int y5), (6, .int y6), (8, .int y8), (9, .int y9), (10, .int y10), (11, .int y11)]) hM.1 hM.2.1 dL_areThermometers_300 hl (by decide) rfl (fun ls hl => ?_)
    refine lv_iload hM.1 hM.2.1 dL_areThermometers_302 (lv_at hl 8 rfl) ?_
    refine lv_aload_n hM.1 hM.2.1 dL_areThermometers_304 rfl (lv_at hl 2 rfl) ?_
    refine lv_iload hM.1 hM.2.1 dL_areThermometers_305 (lv_at hl 11 rfl) ?_
    refine lv_bipush (v := (7 : Int32)) hM.1 hM.2.1 dL_areThermometers_307 (by decide) ?_
    refine lv_iadd hM.1 hM.2.1 dL_areThermometers_309 ?_
    have c_48 := hq.1
    replace hq := hq.2
    refine r_iald hM hK hX hI.2.1 (a15 0 0) c_48 dL_areThermometers_310 ?_
    refine lv_if_le (tgt := 318) hM.1 hM.2.1 dL_areThermometers_311 (by decide) (fun c_49 => ?_) (fun c_49 => ?_)
    · replace hq := hq.1 c_49
      refine lv_iconst (v := (0 : Int32)) hM.1 hM.2.1 dL_areThermometers_318 (by decide) ?_
      exact J319 hk0 hk1 S y5 y6 (w0 + w1) y9 y10 y8 (0 : Int32) hq _ _ _ hX (lv_sub hl [1, 2, 3, 4, 5, 6, 7, 0, 9, 10] rfl)
    replace hq := hq.2 c_49
    refine lv_iconst (v := (1 : Int32)) hM.1 hM.2.1 dL_areThermometers_314 (by decide) ?_
    refine lv_goto (tgt := 319) hM.1 hM.2.1 dL_areThermometers_315 (by decide) ?_
    exact J319 hk0 hk1 S y5 y6 (w0 + w1) y9 y10 y8 (1 : Int32) hq _ _ _ hX (lv_sub hl [1, 2, 3, 4, 5, 6, 7, 0, 9, 10] rfl)
  have J249 : ∀ {K0 : Mem → Int32 → Int32 → Int32 → Int32 → Int32 → Int32 → Prop} (hk0 : ∀ (S : Mem) (y5 : Int32) (y6 : Int32) (y7 : Int32) (y8 : Int32) (y9 : Int32) (y10 : Int32), K0 S y5 y6 y7 y8 y9 y10 → ∀ (H : Heap) (locs : List Loc) (ls : Array Slot), PW D ad cy (AW ad o sz) s.heap o S H locs → lv_has ls 13 [(0, .ref (ad 14 0 0)), (1, .ref (ad 15 0 0)), (2, .ref (ad 16 0 0)), (3, .ref (ad 17 0 0)), (4, .ref (ad 18 0 0)), (5, .int y5), (6, .int y6), (7, .int y7), (8, .int y8), (9, .int y9), (10, .int y10)] → Wi D ad cy o sz Q p l e rmL_areThermometers s m [.ref (ad 14 0 0), .ref (ad 15 0 0), .ref (ad 16 0 0), .ref (ad 17 0 0), .ref (ad 18 0 0)] below meth c H locs (F0 m 35 ls [])), ∀ {K1 : Mem → Int32 → Int32 → Int32 → Int32 → Int32 → Prop} (hk1 : ∀ (S : Mem) (y5 : Int32) (y6 : Int32) (y7 : Int32) (y8 : Int32) (y9 : Int32), K1 S y5 y6 y7 y8 y9 → ∀ (H : Heap) (locs : List Loc) (ls : Array Slot), PW D ad cy (AW ad o sz) s.heap o S H locs → lv_has ls 13 [(0, .ref (ad 14 0 0)), (5, .int y5), (6, .int y6), (7, .int y7), (8, .int y8), (9, .int y9)] → Wi D ad cy o sz Q p l e rmL_areThermometers s m [.ref (ad 14 0 0), .ref (ad 15 0 0), .ref (ad 16 0 0), .ref (ad 17 0 0), .ref (ad 18 0 0)] below meth c H locs (F0 m 328 ls [])), ∀ (S : Mem) (y6 : Int32) (y7 : Int32) (y8 : Int32) (y9 : Int32) (y10 : Int32) (y11 : Int32) (w0 : Int32) (w1 : Int32), vc_L_areThermometers_J249 Q K0 K1 S y6 y7 y8 y9 y10 y11 w0 w1 → ∀ (H : Heap) (locs : List Loc) (ls : Array Slot), PW D ad cy (AW ad o sz) s.heap o S H locs → lv_has ls 13 [(0, .ref (ad 14 0 0)), (1, .ref (ad 15 0 0)), (2, .ref (ad 16 0 0)), (3, .ref (ad 17 0 0)), (4, .ref (ad 18 0 0)), (6, .int y6), (7, .int y7), (8, .int y8), (9, .int y9), (10, .int y10), (11, .int y11)] → Wi D ad cy o sz Q p l e rmL_areThermometers s m [.ref (ad 14 0 0), .ref (ad 15 0 0), .ref (ad 16 0 0), .ref (ad 17 0 0), .ref (ad 18 0 0)] below meth c H locs (F0 m 249 ls [.int w1, .int w0]) := by
    intro K0 hk0 K1 hk1 S y6 y7 y8 y9 y10 y11 w0 w1 hq H locs ls hX hl
    unfold vc_L_areThermometers_J249 at hq
    refine lv_ior hM.1 hM.2.1 dL_areThermometers_249 ?_
    refine lv_istore (lv' := [(5, .int (w0 ||| w1)), (0, .ref (ad 14 0 0)), (1, .ref (ad 15 0 0)), (2, .ref (ad 16 0 0)), (3, .ref (ad 17 0 0)), (4, .ref (ad 18 0 0)), (6, .int y6), (7, .int y7), (8, .int y8), (9, .int y9), (10, .int y10), (11, .int y11)]) hM.1 hM.2.1 dL_areThermometers_250 hl (by decide) rfl (fun ls hl => ?_)
    refine lv_iload hM.1 hM.2.1 dL_areThermometers_252 (lv_at hl 6 rfl) ?_
    refine lv_aload_n hM.1 hM.2.1 dL_areThermometers_254 rfl (lv_at hl 2 rfl) ?_
    refine lv_iload hM.1 hM.2.1 dL_areThermometers_255 (lv_at hl 11 rfl) ?_
    refine lv_bipush (v := (6 : Int32)) hM.1 hM.2.1 dL_areThermometers_257 (by decide) ?_
    refine lv_iadd hM.1 hM.2.1 dL_areThermometers_259 ?_
    have c_45 := hq.1
    replace hq := hq.2
    refine r_iald hM hK hX hI.2.1 (a15 0 0) c_45 dL_areThermometers_260 ?_
    refine lv_iload hM.1 hM.2.1 dL_areThermometers_261 (lv_at hl 10 rfl) ?_
    refine lv_ishl hM.1 hM.2.1 dL_areThermometers_263 ?_
    refine lv_ior hM.1 hM.2.1 dL_areThermometers_264 ?_
    refine lv_istore (lv' := [(6, .int (y6 ||| ((S 15 0 0 (y11 + (6 : Int32)).toNatClampNeg) <<< (y10 &&& 31)))), (5, .int (w0 ||| w1)), (0, .ref (ad 14 0 0)), (1, .ref (ad 15 0 0)), (2, .ref (ad 16 0 0)), (3, .ref (ad 17 0 0)), (4, .ref (ad 18 0 0)), (7, .int y7), (8, .int y8), (9, .int y9), (10, .int y10), (11, .int y11)]) hM.1 hM.2.1 dL_areThermometers_265 hl (by decide) rfl (fun ls hl => ?_)
    refine lv_iload hM.1 hM.2.1 dL_areThermometers_267 (lv_at hl 7 rfl) ?_
    refine lv_aload_n hM.1 hM.2.1 dL_areThermometers_269 rfl (lv_at hl 3 rfl) ?_
    refine lv_iload hM.1 hM.2.1 dL_areThermometers_270 (lv_at hl 11 rfl) ?_
    refine lv_bipush (v := (7 : Int32)) hM.1 hM.2.1 dL_areThermometers_272 (by decide) ?_
    refine lv_iadd hM.1 hM.2.1 dL_areThermometers_274 ?_
    have c_46 := hq.1
    replace hq := hq.2
    refine r_iald hM hK hX hI.2.1 (a15 0 0) c_46 dL_areThermometers_275 ?_
    refine lv_if_le (tgt := 298) hM.1 hM.2.1 dL_areThermometers_276 (by decide) (fun c_47 => ?_) (fun c_47 => ?_)
    · replace hq := hq.1 c_47
      refine lv_iconst (v := (0 : Int32)) hM.1 hM.2.1 dL_areThermometers_298 (by decide) ?_
      exact J299 hk0 hk1 S (w0 ||| w1) (y6 ||| ((S 15 0 0 (y11 + (6 : Int32)).toNatClampNeg) <<< (y10 &&& 31))) y8 y9 y10 y11 y7 (0 : Int32) hq _ _ _ hX (lv_sub hl [2, 3, 4, 5, 6, 1, 0, 8, 9, 10, 11] rfl)
    replace hq := hq.2 c_47
    refine lv_aload_n hM.1 hM.2.1 dL_areThermometers_279 rfl (lv_at hl 3 rfl) ?_
    refine lv_aload_n hM.1 hM.2.1 dL_areThermometers_280 rfl (lv_at hl 4 rfl) ?_
    refine lv_aload_n hM.1 hM.2.1 dL_areThermometers_281 rfl (lv_at hl 5 rfl) ?_
    refine lv_iload hM.1 hM.2.1 dL_areThermometers_282 (lv_at hl 10 rfl) ?_
    refine cSi (As := [.ref (ad 15 0 0), .ref (ad 16 0 0), .ref (ad 17 0 0), .int y10]) hM hK hX ⟨hI.1, hI.2.1, hI.2.2.1, hI.2.2.2.1, trivial⟩ hA (met_L_own l D ad cy S 0 y10 hq) (kL_own hM.2.2.2.2 ql_RL_20 (Nat.le_of_ble_eq_true rfl) (Nat.le_of_ble_eq_true rfl)) rfl hl.1 rfl (Nat.le_of_ble_eq_true rfl) dL_areThermometers_284 ⟨Nat.zero_le _, Nat.zero_le _⟩ (fun S_50 r_51 hq H locs hX => ?_)
    refine lv_aload hM.1 hM.2.1 dL_areThermometers_287 (lv_at hl 6 rfl) ?_
    refine lv_iconst (v := (1 : Int32)) hM.1 hM.2.1 dL_areThermometers_289 (by decide) ?_
    have c_52 := hq.1
    replace hq := hq.2
    refine r_iald hM hK hX hI.2.2.2.2.1 (a18 0 0) c_52 dL_areThermometers_290 ?_
    refine lv_isub hM.1 hM.2.1 dL_areThermometers_291 ?_
    refine cSi (As := [.int (r_51 - (S_50 18 0 0 (1 : Int32).toNatClampNeg))]) hM hK hX ⟨hI.1, trivial⟩ hA (met_L_size l D ad cy S_50 (r_51 - (S_50 18 0 0 (1 : Int32).toNatClampNeg)) hq) (kL_size hM.2.2.2.2 ql_RL_36 (Nat.le_of_ble_eq_true rfl) (Nat.le_of_ble_eq_true rfl)) rfl hl.1 rfl (Nat.le_of_ble_eq_true rfl) dL_areThermometers_292 ⟨Nat.zero_le _, Nat.zero_le _⟩ (fun S_53 r_54 hq H locs hX => ?_)
    refine lv_goto (tgt := 299) hM.1 hM.2.1 dL_areThermometers_295 (by decide) ?_
    exact J299 hk0 hk1 S_53 (w0 ||| w1) (y6 ||| ((S 15 0 0 (y11 + (6 : Int32)).toNatClampNeg) <<< (y10 &&& 31))) y8 y9 y10 y11 y7 r_54 hq _ _ _ hX (lv_sub hl [2, 3, 4, 5, 6, 1, 0, 8, 9, 10, 11] rfl)
  have J151 : ∀ {K0 : Mem → Int32 → Int32 → Int32 → Int32 → Int32 → Int32 → Prop} (hk0 : ∀ (S : Mem) (y5 : Int32) (y6 : Int32) (y7 : Int32) (y8 : Int32) (y9 : Int32) (y10 : Int32), K0 S y5 y6 y7 y8 y9 y10 → ∀ (H : Heap) (locs : List Loc) (ls : Array Slot), PW D ad cy (AW ad o sz) s.heap o S H locs → lv_has ls 13 [(0, .ref (ad 14 0 0)), (1, .ref (ad 15 0 0)), (2, .ref (ad 16 0 0)), (3, .ref (ad 17 0 0)), (4, .ref (ad 18 0 0)), (5, .int y5), (6, .int y6), (7, .int y7), (8, .int y8), (9, .int y9), (10, .int y10)] → Wi D ad cy o sz Q p l e rmL_areThermometers s m [.ref (ad 14 0 0), .ref (ad 15 0 0), .ref (ad 16 0 0), .ref (ad 17 0 0), .ref (ad 18 0 0)] below meth c H locs (F0 m 35 ls [])), ∀ {K1 : Mem → Int32 → Int32 → Int32 → Int32 → Int32 → Prop} (hk1 : ∀ (S : Mem) (y5 : Int32) (y6 : Int32) (y7 : Int32) (y8 : Int32) (y9 : Int32), K1 S y5 y6 y7 y8 y9 → ∀ (H : Heap) (locs : List Loc) (ls : Array Slot), PW D ad cy (AW ad o sz) s.heap o S H locs → lv_has ls 13 [(0, .ref (ad 14 0 0)), (5, .int y5), (6, .int y6), (7, .int y7), (8, .int y8), (9, .int y9)] → Wi D ad cy o sz Q p l e rmL_areThermometers s m [.ref (ad 14 0 0), .ref (ad 15 0 0), .ref (ad 16 0 0), .ref (ad 17 0 0), .ref (ad 18 0 0)] below meth c H locs (F0 m 328 ls [])), ∀ (S : Mem) (y5 : Int32) (y6 : Int32) (y7 : Int32) (y8 : Int32) (y10 : Int32) (y11 : Int32) (w0 : Int32), vc_L_areThermometers_J151 Q K0 K1 S y5 y6 y7 y8 y10 y11 w0 → ∀ (H : Heap) (locs : List Loc) (ls : Array Slot), PW D ad cy (AW ad o sz) s.heap o S H locs → lv_has ls 13 [(0, .ref (ad 14 0 0)), (1, .ref (ad 15 0 0)), (2, .ref (ad 16 0 0)), (3, .ref (ad 17 0 0)), (4, .ref (ad 18 0 0)), (5, .int y5), (6, .int y6), (7, .int y7), (8, .int y8), (10, .int y10), (11, .int y11)] → Wi D ad cy o sz Q p l e rmL_areThermometers s m [.ref (ad 14 0 0), .ref (ad 15 0 0), .ref (ad 16 0 0), .ref (ad 17 0 0), .ref (ad 18 0 0)] below meth c H locs (F0 m 151 ls [.int w0]) := by
    intro K0 hk0 K1 hk1 S y5 y6 y7 y8 y10 y11 w0 hq H locs ls hX hl
    unfold vc_L_areThermometers_J151 at hq
    refine lv_istore (lv' := [(9, .int w0), (0, .ref (ad 14 0 0)), (1, .ref (ad 15 0 0)), (2, .ref (ad 16 0 0)), (3, .ref (ad 17 0 0)), (4, .ref (ad 18 0 0)), (5, .int y5), (6, .int y6), (7, .int y7), (8, .int y8), (10, .int y10), (11, .int y11)]) hM.1 hM.2.1 dL_areThermometers_151 hl (by decide) rfl (fun ls hl => ?_)
    refine lv_iconst (v := (0 : Int32)) hM.1 hM.2.1 dL_areThermometers_153 (by decide) ?_
    refine lv_istore (lv' := [(12, .int (0 : Int32)), (9, .int w0), (0, .ref (ad 14 0 0)), (1, .ref (ad 15 0 0)), (2, .ref (ad 16 0 0)), (3, .ref (ad 17 0 0)), (4, .ref (ad 18 0 0)), (5, .int y5), (6, .int y6), (7, .int y7), (8, .int y8), (10, .int y10), (11, .int y11)]) hM.1 hM.2.1 dL_areThermometers_154 hl (by decide) rfl (fun ls hl => ?_)
    obtain ⟨k0, hq⟩ := hq
    refine L156 (fun S_34 y5_35 y6_36 y7_37 y8_38 y9_39 y10_40 y11_41 hq H locs ls hX hl => ?_) k0 S y5 y6 y7 y8 w0 y10 y11 (0 : Int32) hq _ _ _ hX (lv_sub hl [2, 3, 4, 5, 6, 7, 8, 9, 10, 1, 11, 12, 0] rfl)
    refine lv_iload hM.1 hM.2.1 dL_areThermometers_230 (lv_at hl 5 rfl) ?_
    refine lv_aload_n hM.1 hM.2.1 dL_areThermometers_232 rfl (lv_at hl 1 rfl) ?_
    refine lv_iload hM.1 hM.2.1 dL_areThermometers_233 (lv_at hl 10 rfl) ?_
    refine cSi (As := [.ref (ad 15 0 0), .int y10_40]) hM hK hX ⟨hI.1, hI.2.1, trivial⟩ hA (met_L_asked l D ad cy S_34 0 y10_40 hq) (kL_asked hM.2.2.2.2 ql_RL_16 (Nat.le_of_ble_eq_true rfl) (Nat.le_of_ble_eq_true rfl)) rfl hl.1 rfl (Nat.le_of_ble_eq_true rfl) dL_areThermometers_235 ⟨Nat.zero_le _, Nat.zero_le _⟩ (fun S_42 r_43 hq H locs hX => ?_)
    refine lv_if_eq (tgt := 248) hM.1 hM.2.1 dL_areThermometers_238 (by decide) (fun c_44 => ?_) (fun c_44 => ?_)
    · replace hq := hq.1 c_44
      refine lv_iconst (v := (0 : Int32)) hM.1 hM.2.1 dL_areThermometers_248 (by decide) ?_
      exact J249 hk0 hk1 S_42 y6_36 y7_37 y8_38 y9_39 y10_40 y11_41 y5_35 (0 : Int32) hq _ _ _ hX (lv_sub hl [0, 1, 2, 3, 4, 6, 7, 8, 9, 10, 11] rfl)
    replace hq := hq.2 c_44
    refine lv_iconst (v := (1 : Int32)) hM.1 hM.2.1 dL_areThermometers_241 (by decide) ?_
    refine lv_iload hM.1 hM.2.1 dL_areThermometers_242 (lv_at hl 10 rfl) ?_
    refine lv_ishl hM.1 hM.2.1 dL_areThermometers_244 ?_
    refine lv_goto (tgt := 249) hM.1 hM.2.1 dL_areThermometers_245 (by decide) ?_
    exact J249 hk0 hk1 S_42 y6_36 y7_37 y8_38 y9_39 y10_40 y11_41 y5_35 ((1 : Int32) <<< (y10_40 &&& 31)) hq _ _ _ hX (lv_sub hl [0, 1, 2, 3, 4, 6, 7, 8, 9, 10, 11] rfl)
  have J150 : ∀ {K0 : Mem → Int32 → Int32 → Int32 → Int32 → Int32 → Int32 → Prop} (hk0 : ∀ (S : Mem) (y5 : Int32) (y6 : Int32) (y7 : Int32) (y8 : Int32) (y9 : Int32) (y10 : Int32), K0 S y5 y6 y7 y8 y9 y10 → ∀ (H : Heap) (locs : List Loc) (ls : Array Slot), PW D ad cy (AW ad o sz) s.heap o S H locs → lv_has ls 13 [(0, .ref (ad 14 0 0)), (1, .ref (ad 15 0 0)), (2, .ref (ad 16 0 0)), (3, .ref (ad 17 0 0)), (4, .ref (ad 18 0 0)), (5, .int y5), (6, .int y6), (7, .int y7), (8, .int y8), (9, .int y9), (10, .int y10)] → Wi D ad cy o sz Q p l e rmL_areThermometers s m [.ref (ad 14 0 0), .ref (ad 15 0 0), .ref (ad 16 0 0), .ref (ad 17 0 0), .ref (ad 18 0 0)] below meth c H locs (F0 m 35 ls [])), ∀ {K1 : Mem → Int32 → Int32 → Int32 → Int32 → Int32 → Prop} (hk1 : ∀ (S : Mem) (y5 : Int32) (y6 : Int32) (y7 : Int32) (y8 : Int32) (y9 : Int32), K1 S y5 y6 y7 y8 y9 → ∀ (H : Heap) (locs : List Loc) (ls : Array Slot), PW D ad cy (AW ad o sz) s.heap o S H locs → lv_has ls 13 [(0, .ref (ad 14 0 0)), (5, .int y5), (6, .int y6), (7, .int y7), (8, .int y8), (9, .int y9)] → Wi D ad cy o sz Q p l e rmL_areThermometers s m [.ref (ad 14 0 0), .ref (ad 15 0 0), .ref (ad 16 0 0), .ref (ad 17 0 0), .ref (ad 18 0 0)] below meth c H locs (F0 m 328 ls [])), ∀ (S : Mem) (y5 : Int32) (y6 : Int32) (y7 : Int32) (y8 : Int32) (y10 : Int32) (y11 : Int32), vc_L_areThermometers_J150 Q K0 K1 S y5 y6 y7 y8 y10 y11 → ∀ (H : Heap) (locs : List Loc) (ls : Array Slot), PW D ad cy (AW ad o sz) s.heap o S H locs → lv_has ls 13 [(0, .ref (ad 14 0 0)), (1, .ref (ad 15 0 0)), (2, .ref (ad 16 0 0)), (3, .ref (ad 17 0 0)), (4, .ref (ad 18 0 0)), (5, .int y5), (6, .int y6), (7, .int y7), (8, .int y8), (10, .int y10), (11, .int y11)] → Wi D ad cy o sz Q p l e rmL_areThermometers s m [.ref (ad 14 0 0), .ref (ad 15 0 0), .ref (ad 16 0 0), .ref (ad 17 0 0), .ref (ad 18 0 0)] below meth c H locs (F0 m 150 ls []) := by
    intro K0 hk0 K1 hk1 S y5 y6 y7 y8 y10 y11 hq H locs ls hX hl
    unfold vc_L_areThermometers_J150 at hq
    refine lv_iconst (v := (0 : Int32)) hM.1 hM.2.1 dL_areThermometers_150 (by decide) ?_
    exact J151 hk0 hk1 S y5 y6 y7 y8 y10 y11 (0 : Int32) hq _ _ _ hX (lv_sub hl [0, 1, 2, 3, 4, 5, 6, 7, 8, 9, 10] rfl)
  have L35 : ∀ {K : Mem → Int32 → Int32 → Int32 → Int32 → Int32 → Prop} (hk : ∀ (S : Mem) (y5 : Int32) (y6 : Int32) (y7 : Int32) (y8 : Int32) (y9 : Int32), K S y5 y6 y7 y8 y9 → ∀ (H : Heap) (locs : List Loc) (ls : Array Slot), PW D ad cy (AW ad o sz) s.heap o S H locs → lv_has ls 13 [(0, .ref (ad 14 0 0)), (5, .int y5), (6, .int y6), (7, .int y7), (8, .int y8), (9, .int y9)] → Wi D ad cy o sz Q p l e rmL_areThermometers s m [.ref (ad 14 0 0), .ref (ad 15 0 0), .ref (ad 16 0 0), .ref (ad 17 0 0), .ref (ad 18 0 0)] below meth c H locs (F0 m 328 ls [])), ∀ (n : Nat) (S : Mem) (y5 : Int32) (y6 : Int32) (y7 : Int32) (y8 : Int32) (y9 : Int32) (y10 : Int32), vc_L_areThermometers_L35 Q K n S y5 y6 y7 y8 y9 y10 → ∀ (H : Heap) (locs : List Loc) (ls : Array Slot), PW D ad cy (AW ad o sz) s.heap o S H locs → lv_has ls 13 [(0, .ref (ad 14 0 0)), (1, .ref (ad 15 0 0)), (2, .ref (ad 16 0 0)), (3, .ref (ad 17 0 0)), (4, .ref (ad 18 0 0)), (5, .int y5), (6, .int y6), (7, .int y7), (8, .int y8), (9, .int y9), (10, .int y10)] → Wi D ad cy o sz Q p l e rmL_areThermometers s m [.ref (ad 14 0 0), .ref (ad 15 0 0), .ref (ad 16 0 0), .ref (ad 17 0 0), .ref (ad 18 0 0)] below meth c H locs (F0 m 35 ls []) := by
    intro K hk n
    induction n with
    | zero =>
      intro S y5 y6 y7 y8 y9 y10 hq
      rw [vc_L_areThermometers_L35] at hq
      exact hq.elim
    | succ n ih =>
      intro S y5 y6 y7 y8 y9 y10 hq H locs ls hX hl
      rw [vc_L_areThermometers_L35] at hq
      refine lv_iload hM.1 hM.2.1 dL_areThermometers_35 (lv_at hl 10 rfl) ?_
      refine lv_aload hM.1 hM.2.1 dL_areThermometers_37 (lv_at hl 4 rfl) ?_
      refine lv_bipush (v := (15 : Int32)) hM.1 hM.2.1 dL_areThermometers_39 (by decide) ?_
      have c_5 := hq.1
      replace hq := hq.2
      refine r_iald hM hK hX hI.2.2.2.2.1 (a18 0 0) c_5 dL_areThermometers_41 ?_
      refine lv_icmp_ge (tgt := 328) hM.1 hM.2.1 dL_areThermometers_42 (by decide) (fun c_6 => ?_) (fun c_6 => ?_)
      · replace hq := hq.1 c_6
        exact hk S y5 y6 y7 y8 y9 hq _ _ _ hX (lv_sub hl [0, 5, 6, 7, 8, 9] rfl)
      replace hq := hq.2 c_6
      refine lv_iload hM.1 hM.2.1 dL_areThermometers_45 (lv_at hl 9 rfl) ?_
      refine lv_if_eq (tgt := 328) hM.1 hM.2.1 dL_areThermometers_47 (by decide) (fun c_7 => ?_) (fun c_7 => ?_)
      · replace hq := hq.1 c_7
        exact hk S y5 y6 y7 y8 y9 hq _ _ _ hX (lv_sub hl [0, 5, 6, 7, 8, 9] rfl)
      replace hq := hq.2 c_7
      refine lv_bipush (v := (10 : Int32)) hM.1 hM.2.1 dL_areThermometers_50 (by decide) ?_
      refine lv_iload hM.1 hM.2.1 dL_areThermometers_52 (lv_at hl 10 rfl) ?_
      refine lv_imul hM.1 hM.2.1 dL_areThermometers_54 ?_
      refine lv_istore (lv' := [(11, .int ((10 : Int32) * y10)), (0, .ref (ad 14 0 0)), (1, .ref (ad 15 0 0)), (2, .ref (ad 16 0 0)), (3, .ref (ad 17 0 0)), (4, .ref (ad 18 0 0)), (5, .int y5), (6, .int y6), (7, .int y7), (8, .int y8), (9, .int y9), (10, .int y10)]) hM.1 hM.2.1 dL_areThermometers_55 hl (by decide) rfl (fun ls hl => ?_)
      refine lv_iconst (v := (0 : Int32)) hM.1 hM.2.1 dL_areThermometers_57 (by decide) ?_
      refine lv_istore (lv' := [(12, .int (0 : Int32)), (11, .int ((10 : Int32) * y10)), (0, .ref (ad 14 0 0)), (1, .ref (ad 15 0 0)), (2, .ref (ad 16 0 0)), (3, .ref (ad 17 0 0)), (4, .ref (ad 18 0 0)), (5, .int y5), (6, .int y6), (7, .int y7), (8, .int y8), (9, .int y9), (10, .int y10)]) hM.1 hM.2.1 dL_areThermometers_58 hl (by decide) rfl (fun ls hl => ?_)
      obtain ⟨k0, hq⟩ := hq
      refine L60 (fun S_14 y5_15 y6_16 y7_17 y8_18 y9_19 y10_20 y11_21 hq H locs ls hX hl => ?_) k0 S y5 y6 y7 y8 y9 y10 ((10 : Int32) * y10) (0 : Int32) hq _ _ _ hX (lv_sub hl [2, 3, 4, 5, 6, 7, 8, 9, 10, 11, 12, 1, 0] rfl)
      refine lv_iload hM.1 hM.2.1 dL_areThermometers_103 (lv_at hl 9 rfl) ?_
      refine lv_if_eq (tgt := 150) hM.1 hM.2.1 dL_areThermometers_105 (by decide) (fun c_22 => ?_) (fun c_22 => ?_)
      · replace hq := hq.1 c_22
        exact J150 ih hk S_14 y5_15 y6_16 y7_17 y8_18 y10_20 y11_21 hq _ _ _ hX (lv_sub hl [0, 1, 2, 3, 4, 5, 6, 7, 8, 10, 11] rfl)
      replace hq := hq.2 c_22
      refine lv_aload_n hM.1 hM.2.1 dL_areThermometers_108 rfl (lv_at hl 0 rfl) ?_
      refine lv_iload hM.1 hM.2.1 dL_areThermometers_109 (lv_at hl 10 rfl) ?_
      refine lv_bipush (v := (9 : Int32)) hM.1 hM.2.1 dL_areThermometers_111 (by decide) ?_
      refine cVi (As := [.int y10_20, .int (9 : Int32)]) hM hK hX ⟨hI.1, trivial⟩ hA (met_X6_ofThermometer l D ad cy S_14 y10_20 (9 : Int32) hq) (kX6_ofThermometer hM.2.2.2.2 ql_RL_45 (Nat.le_of_ble_eq_true rfl) (Nat.le_of_ble_eq_true rfl)) (v14 hK hX (hI.1 _ m14)) rfl hl.1 rfl (Nat.le_of_ble_eq_true rfl) dL_areThermometers_113 ⟨Nat.zero_le _, Nat.zero_le _⟩ (fun S_55 r_56 hq H locs hX => ?_)
      refine lv_aload_n hM.1 hM.2.1 dL_areThermometers_116 rfl (lv_at hl 1 rfl) ?_
      refine lv_aload_n hM.1 hM.2.1 dL_areThermometers_117 rfl (lv_at hl 2 rfl) ?_
      refine lv_aload_n hM.1 hM.2.1 dL_areThermometers_118 rfl (lv_at hl 3 rfl) ?_
      refine lv_iload hM.1 hM.2.1 dL_areThermometers_119 (lv_at hl 10 rfl) ?_
      refine cSi (As := [.ref (ad 15 0 0), .ref (ad 16 0 0), .ref (ad 17 0 0), .int y10_20]) hM hK hX ⟨hI.1, hI.2.1, hI.2.2.1, hI.2.2.2.1, trivial⟩ hA (met_L_own l D ad cy S_55 0 y10_20 hq) (kL_own hM.2.2.2.2 ql_RL_20 (Nat.le_of_ble_eq_true rfl) (Nat.le_of_ble_eq_true rfl)) rfl hl.1 rfl (Nat.le_of_ble_eq_true rfl) dL_areThermometers_121 ⟨Nat.zero_le _, Nat.zero_le _⟩ (fun S_57 r_58 hq H locs hX => ?_)
      refine lv_icmp_ne (tgt := 150) hM.1 hM.2.1 dL_areThermometers_124 (by decide) (fun c_59 => ?_) (fun c_59 => ?_)
      · replace hq := hq.1 c_59
        exact J150 ih hk S_57 y5_15 y6_16 y7_17 y8_18 y10_20 y11_21 hq _ _ _ hX (lv_sub hl [0, 1, 2, 3, 4, 5, 6, 7, 8, 10, 11] rfl)
      replace hq := hq.2 c_59
      refine lv_aload_n hM.1 hM.2.1 dL_areThermometers_127 rfl (lv_at hl 0 rfl) ?_
      refine lv_iload hM.1 hM.2.1 dL_areThermometers_128 (lv_at hl 10 rfl) ?_
      refine lv_aload_n hM.1 hM.2.1 dL_areThermometers_130 rfl (lv_at hl 1 rfl) ?_
      refine lv_iload hM.1 hM.2.1 dL_areThermometers_131 (lv_at hl 11 rfl) ?_
      refine lv_bipush (v := (7 : Int32)) hM.1 hM.2.1 dL_areThermometers_133 (by decide) ?_
      refine lv_iadd hM.1 hM.2.1 dL_areThermometers_135 ?_
      have c_60 := hq.1
      replace hq := hq.2
      refine r_iald hM hK hX hI.2.1 (a15 0 0) c_60 dL_areThermometers_136 ?_
      refine lv_iconst (v := (0 : Int32)) hM.1 hM.2.1 dL_areThermometers_137 (by decide) ?_
      refine cVi (As := [.int y10_20, .int (S_57 15 0 0 (y11_21 + (7 : Int32)).toNatClampNeg), .int (0 : Int32)]) hM hK hX ⟨hI.1, trivial⟩ hA (met_X6_reading l D ad cy S_57 y10_20 (S_57 15 0 0 (y11_21 + (7 : Int32)).toNatClampNeg) (0 : Int32) hq) (kX6_reading hM.2.2.2.2 ql_RL_49 (Nat.le_of_ble_eq_true rfl) (Nat.le_of_ble_eq_true rfl)) (v14 hK hX (hI.1 _ m14)) rfl hl.1 rfl (Nat.le_of_ble_eq_true rfl) dL_areThermometers_138 ⟨Nat.zero_le _, Nat.zero_le _⟩ (fun S_61 r_62 hq H locs hX => ?_)
      refine lv_ldc hM.1 hM.2.1 hM.2.2.2.1 (hM.2.2.2.2 _ qn_RL_11) dL_areThermometers_141 ?_
      refine lv_icmp_ne (tgt := 150) hM.1 hM.2.1 dL_areThermometers_143 (by decide) (fun c_63 => ?_) (fun c_63 => ?_)
      · replace hq := hq.1 c_63
        exact J150 ih hk S_61 y5_15 y6_16 y7_17 y8_18 y10_20 y11_21 hq _ _ _ hX (lv_sub hl [0, 1, 2, 3, 4, 5, 6, 7, 8, 10, 11] rfl)
      replace hq := hq.2 c_63
      refine lv_iconst (v := (1 : Int32)) hM.1 hM.2.1 dL_areThermometers_146 (by decide) ?_
      refine lv_goto (tgt := 151) hM.1 hM.2.1 dL_areThermometers_147 (by decide) ?_
      exact J151 ih hk S_61 y5_15 y6_16 y7_17 y8_18 y10_20 y11_21 (1 : Int32) hq _ _ _ hX (lv_sub hl [0, 1, 2, 3, 4, 5, 6, 7, 8, 10, 11] rfl)
  have J328 : ∀ (S : Mem) (y5 : Int32) (y6 : Int32) (y7 : Int32) (y8 : Int32) (y9 : Int32), vc_L_areThermometers_J328 Q S y5 y6 y7 y8 y9 → ∀ (H : Heap) (locs : List Loc) (ls : Array Slot), PW D ad cy (AW ad o sz) s.heap o S H locs → lv_has ls 13 [(0, .ref (ad 14 0 0)), (5, .int y5), (6, .int y6), (7, .int y7), (8, .int y8), (9, .int y9)] → Wi D ad cy o sz Q p l e rmL_areThermometers s m [.ref (ad 14 0 0), .ref (ad 15 0 0), .ref (ad 16 0 0), .ref (ad 17 0 0), .ref (ad 18 0 0)] below meth c H locs (F0 m 328 ls []) := by
    intro S y5 y6 y7 y8 y9 hq H locs ls hX hl
    unfold vc_L_areThermometers_J328 at hq
    refine lv_iload hM.1 hM.2.1 dL_areThermometers_328 (lv_at hl 5 rfl) ?_
    refine lv_if_eq (tgt := 381) hM.1 hM.2.1 dL_areThermometers_330 (by decide) (fun c_70 => ?_) (fun c_70 => ?_)
    · replace hq := hq.1 c_70
      refine lv_iconst (v := (0 : Int32)) hM.1 hM.2.1 dL_areThermometers_381 (by decide) ?_
      exact e_z hM hX hlocks hret rfl hq dL_areThermometers_382
    replace hq := hq.2 c_70
    refine lv_aload_n hM.1 hM.2.1 dL_areThermometers_333 rfl (lv_at hl 0 rfl) ?_
    refine lv_iconst (v := (3 : Int32)) hM.1 hM.2.1 dL_areThermometers_334 (by decide) ?_
    refine cVi (As := [.int (3 : Int32)]) hM hK hX ⟨hI.1, trivial⟩ hA (met_X6_count l D ad cy S (3 : Int32) hq) (kX6_count hM.2.2.2.2 ql_RL_40 (Nat.le_of_ble_eq_true rfl) (Nat.le_of_ble_eq_true rfl)) (v14 hK hX (hI.1 _ m14)) rfl hl.1 rfl (Nat.le_of_ble_eq_true rfl) dL_areThermometers_335 ⟨Nat.zero_le _, Nat.zero_le _⟩ (fun S_71 r_72 hq H locs hX => ?_)
    refine lv_iload hM.1 hM.2.1 dL_areThermometers_338 (lv_at hl 1 rfl) ?_
    refine lv_icmp_ne (tgt := 381) hM.1 hM.2.1 dL_areThermometers_340 (by decide) (fun c_73 => ?_) (fun c_73 => ?_)
    · replace hq := hq.1 c_73
      refine lv_iconst (v := (0 : Int32)) hM.1 hM.2.1 dL_areThermometers_381 (by decide) ?_
      exact e_z hM hX hlocks hret rfl hq dL_areThermometers_382
    replace hq := hq.2 c_73
    refine lv_aload_n hM.1 hM.2.1 dL_areThermometers_343 rfl (lv_at hl 0 rfl) ?_
    refine lv_iconst (v := (4 : Int32)) hM.1 hM.2.1 dL_areThermometers_344 (by decide) ?_
    refine cVi (As := [.int (4 : Int32)]) hM hK hX ⟨hI.1, trivial⟩ hA (met_X6_count l D ad cy S_71 (4 : Int32) hq) (kX6_count hM.2.2.2.2 ql_RL_40 (Nat.le_of_ble_eq_true rfl) (Nat.le_of_ble_eq_true rfl)) (v14 hK hX (hI.1 _ m14)) rfl hl.1 rfl (Nat.le_of_ble_eq_true rfl) dL_areThermometers_345 ⟨Nat.zero_le _, Nat.zero_le _⟩ (fun S_74 r_75 hq H locs hX => ?_)
    refine lv_iload hM.1 hM.2.1 dL_areThermometers_348 (lv_at hl 2 rfl) ?_
    refine lv_icmp_ne (tgt := 381) hM.1 hM.2.1 dL_areThermometers_350 (by decide) (fun c_76 => ?_) (fun c_76 => ?_)
    · replace hq := hq.1 c_76
      refine lv_iconst (v := (0 : Int32)) hM.1 hM.2.1 dL_areThermometers_381 (by decide) ?_
      exact e_z hM hX hlocks hret rfl hq dL_areThermometers_382
    replace hq := hq.2 c_76
    refine lv_aload_n hM.1 hM.2.1 dL_areThermometers_353 rfl (lv_at hl 0 rfl) ?_
    refine cVd (As := []) hM hK hX ⟨hI.1, trivial⟩ hA (met_X6_meanError l D ad cy S_74 hq) (kX6_meanError hM.2.2.2.2 ql_RL_53 (Nat.le_of_ble_eq_true rfl) (Nat.le_of_ble_eq_true rfl)) (v14 hK hX (hI.1 _ m14)) rfl hl.1 rfl (Nat.le_of_ble_eq_true rfl) dL_areThermometers_354 ⟨Nat.zero_le _, Nat.zero_le _⟩ (fun S_77 r_78 hq H locs hX => ?_)
    refine lv_iload hM.1 hM.2.1 dL_areThermometers_357 (lv_at hl 4 rfl) ?_
    refine lv_if_ne (tgt := 366) hM.1 hM.2.1 dL_areThermometers_359 (by decide) (fun c_79 => ?_) (fun c_79 => ?_)
    · replace hq := hq.1 c_79
      refine lv_iload hM.1 hM.2.1 dL_areThermometers_366 (lv_at hl 3 rfl) ?_
      refine lv_i2d hM.1 hM.2.1 dL_areThermometers_368 ?_
      refine lv_iload hM.1 hM.2.1 dL_areThermometers_369 (lv_at hl 4 rfl) ?_
      refine lv_i2d hM.1 hM.2.1 dL_areThermometers_371 ?_
      have c_80 := hq.1
      replace hq := hq.2
      refine lv_ddiv hM.1 hM.2.1 dL_areThermometers_372 c_80 ?_
      refine lv_dcmp hM.1 hM.2.1 dL_areThermometers_373 ?_
      refine lv_if_ne (tgt := 381) hM.1 hM.2.1 dL_areThermometers_374 (by decide) (fun c_81 => ?_) (fun c_81 => ?_)
      · replace hq := hq.1 c_81
        refine lv_iconst (v := (0 : Int32)) hM.1 hM.2.1 dL_areThermometers_381 (by decide) ?_
        exact e_z hM hX hlocks hret rfl hq dL_areThermometers_382
      replace hq := hq.2 c_81
      refine lv_iconst (v := (1 : Int32)) hM.1 hM.2.1 dL_areThermometers_377 (by decide) ?_
      refine lv_goto (tgt := 382) hM.1 hM.2.1 dL_areThermometers_378 (by decide) ?_
      exact e_z hM hX hlocks hret rfl hq dL_areThermometers_382
    replace hq := hq.2 c_79
    refine lv_dconst0 hM.1 hM.2.1 dL_areThermometers_362 ?_
    refine lv_goto (tgt := 373) hM.1 hM.2.1 dL_areThermometers_363 (by decide) ?_
    refine lv_dcmp hM.1 hM.2.1 dL_areThermometers_373 ?_
    refine lv_if_ne (tgt := 381) hM.1 hM.2.1 dL_areThermometers_374 (by decide) (fun c_82 => ?_) (fun c_82 => ?_)
    · replace hq := hq.1 c_82
      refine lv_iconst (v := (0 : Int32)) hM.1 hM.2.1 dL_areThermometers_381 (by decide) ?_
      exact e_z hM hX hlocks hret rfl hq dL_areThermometers_382
    replace hq := hq.2 c_82
    refine lv_iconst (v := (1 : Int32)) hM.1 hM.2.1 dL_areThermometers_377 (by decide) ?_
    refine lv_goto (tgt := 382) hM.1 hM.2.1 dL_areThermometers_378 (by decide) ?_
    exact e_z hM hX hlocks hret rfl hq dL_areThermometers_382
  have J30 : ∀ (S : Mem) (y5 : Int32) (y6 : Int32) (y7 : Int32) (y8 : Int32) (w0 : Int32), vc_L_areThermometers_J30 Q S y5 y6 y7 y8 w0 → ∀ (H : Heap) (locs : List Loc) (ls : Array Slot), PW D ad cy (AW ad o sz) s.heap o S H locs → lv_has ls 13 [(0, .ref (ad 14 0 0)), (1, .ref (ad 15 0 0)), (2, .ref (ad 16 0 0)), (3, .ref (ad 17 0 0)), (4, .ref (ad 18 0 0)), (5, .int y5), (6, .int y6), (7, .int y7), (8, .int y8)] → Wi D ad cy o sz Q p l e rmL_areThermometers s m [.ref (ad 14 0 0), .ref (ad 15 0 0), .ref (ad 16 0 0), .ref (ad 17 0 0), .ref (ad 18 0 0)] below meth c H locs (F0 m 30 ls [.int w0]) := by
    intro S y5 y6 y7 y8 w0 hq H locs ls hX hl
    unfold vc_L_areThermometers_J30 at hq
    refine lv_istore (lv' := [(9, .int w0), (0, .ref (ad 14 0 0)), (1, .ref (ad 15 0 0)), (2, .ref (ad 16 0 0)), (3, .ref (ad 17 0 0)), (4, .ref (ad 18 0 0)), (5, .int y5), (6, .int y6), (7, .int y7), (8, .int y8)]) hM.1 hM.2.1 dL_areThermometers_30 hl (by decide) rfl (fun ls hl => ?_)
    refine lv_iconst (v := (0 : Int32)) hM.1 hM.2.1 dL_areThermometers_32 (by decide) ?_
    refine lv_istore (lv' := [(10, .int (0 : Int32)), (9, .int w0), (0, .ref (ad 14 0 0)), (1, .ref (ad 15 0 0)), (2, .ref (ad 16 0 0)), (3, .ref (ad 17 0 0)), (4, .ref (ad 18 0 0)), (5, .int y5), (6, .int y6), (7, .int y7), (8, .int y8)]) hM.1 hM.2.1 dL_areThermometers_33 hl (by decide) rfl (fun ls hl => ?_)
    obtain ⟨k0, hq⟩ := hq
    refine L35 (fun S_64 y5_65 y6_66 y7_67 y8_68 y9_69 hq H locs ls hX hl => ?_) k0 S y5 y6 y7 y8 w0 (0 : Int32) hq _ _ _ hX (lv_sub hl [2, 3, 4, 5, 6, 7, 8, 9, 10, 1, 0] rfl)
    exact J328 S_64 y5_65 y6_66 y7_67 y8_68 y9_69 hq _ _ _ hX (lv_sub hl [0, 1, 2, 3, 4, 5] rfl)
  unfold vc_L_areThermometers at hq
  refine lv_iconst (v := (0 : Int32)) hM.1 hM.2.1 dL_areThermometers_0 (by decide) ?_
  refine lv_istore (lv' := [(5, .int (0 : Int32)), (0, .ref (ad 14 0 0)), (1, .ref (ad 15 0 0)), (2, .ref (ad 16 0 0)), (3, .ref (ad 17 0 0)), (4, .ref (ad 18 0 0))]) hM.1 hM.2.1 dL_areThermometers_1 hl (by decide) rfl (fun ls hl => ?_)
  refine lv_iconst (v := (0 : Int32)) hM.1 hM.2.1 dL_areThermometers_3 (by decide) ?_
  refine lv_istore (lv' := [(6, .int (0 : Int32)), (5, .int (0 : Int32)), (0, .ref (ad 14 0 0)), (1, .ref (ad 15 0 0)), (2, .ref (ad 16 0 0)), (3, .ref (ad 17 0 0)), (4, .ref (ad 18 0 0))]) hM.1 hM.2.1 dL_areThermometers_4 hl (by decide) rfl (fun ls hl => ?_)
  refine lv_iconst (v := (0 : Int32)) hM.1 hM.2.1 dL_areThermometers_6 (by decide) ?_
  refine lv_istore (lv' := [(7, .int (0 : Int32)), (6, .int (0 : Int32)), (5, .int (0 : Int32)), (0, .ref (ad 14 0 0)), (1, .ref (ad 15 0 0)), (2, .ref (ad 16 0 0)), (3, .ref (ad 17 0 0)), (4, .ref (ad 18 0 0))]) hM.1 hM.2.1 dL_areThermometers_7 hl (by decide) rfl (fun ls hl => ?_)
  refine lv_iconst (v := (0 : Int32)) hM.1 hM.2.1 dL_areThermometers_9 (by decide) ?_
  refine lv_istore (lv' := [(8, .int (0 : Int32)), (7, .int (0 : Int32)), (6, .int (0 : Int32)), (5, .int (0 : Int32)), (0, .ref (ad 14 0 0)), (1, .ref (ad 15 0 0)), (2, .ref (ad 16 0 0)), (3, .ref (ad 17 0 0)), (4, .ref (ad 18 0 0))]) hM.1 hM.2.1 dL_areThermometers_10 hl (by decide) rfl (fun ls hl => ?_)
  refine lv_aload_n hM.1 hM.2.1 dL_areThermometers_12 rfl (lv_at hl 4 rfl) ?_
  refine lv_iconst (v := (1 : Int32)) hM.1 hM.2.1 dL_areThermometers_13 (by decide) ?_
  refine cVi (As := [.int (1 : Int32)]) hM hK hX ⟨hI.1, trivial⟩ hA (met_X6_count l D ad cy S (1 : Int32) hq) (kX6_count hM.2.2.2.2 ql_RL_40 (Nat.le_of_ble_eq_true rfl) (Nat.le_of_ble_eq_true rfl)) (v14 hK hX (hI.1 _ m14)) rfl hl.1 rfl (Nat.le_of_ble_eq_true rfl) dL_areThermometers_14 ⟨Nat.zero_le _, Nat.zero_le _⟩ (fun S_1 r_2 hq H locs hX => ?_)
  refine lv_aload hM.1 hM.2.1 dL_areThermometers_17 (lv_at hl 8 rfl) ?_
  refine lv_bipush (v := (15 : Int32)) hM.1 hM.2.1 dL_areThermometers_19 (by decide) ?_
  have c_3 := hq.1
  replace hq := hq.2
  refine r_iald hM hK hX hI.2.2.2.2.1 (a18 0 0) c_3 dL_areThermometers_21 ?_
  refine lv_icmp_ne (tgt := 29) hM.1 hM.2.1 dL_areThermometers_22 (by decide) (fun c_4 => ?_) (fun c_4 => ?_)
  · replace hq := hq.1 c_4
    refine lv_iconst (v := (0 : Int32)) hM.1 hM.2.1 dL_areThermometers_29 (by decide) ?_
    exact J30 S_1 (0 : Int32) (0 : Int32) (0 : Int32) (0 : Int32) (0 : Int32) hq _ _ _ hX (lv_sub hl [4, 5, 6, 7, 8, 3, 2, 1, 0] rfl)
  replace hq := hq.2 c_4
  refine lv_iconst (v := (1 : Int32)) hM.1 hM.2.1 dL_areThermometers_25 (by decide) ?_
  refine lv_goto (tgt := 30) hM.1 hM.2.1 dL_areThermometers_26 (by decide) ?_
  exact J30 S_1 (0 : Int32) (0 : Int32) (0 : Int32) (0 : Int32) (1 : Int32) hq _ _ _ hX (lv_sub hl [4, 5, 6, 7, 8, 3, 2, 1, 0] rfl)
def rmL_areNumbers : Room := { frames := 4, cells := 0, slots := 0, locals := 87 }
theorem kL_areNumbers {R : Room} {s : State} {args : Array Value} {own : String} {index : Nat} (ht : ∀ w ∈ lw_all, w.before args s = true) (hl : Cond.methodLink own index yL_areNumbers ∈ lw_all) (hf : rmL_areNumbers.frames + 1 ≤ R.frames) (hlo : 8 + (11 + 11) + rmL_areNumbers.locals ≤ R.locals) : CallB R s args own index yL_areNumbers cL_areNumbers 11 (some Jvm.ClassFile.FieldType.boolean) (wA yL_areNumbers cL_areNumbers 11 (some Jvm.ClassFile.FieldType.boolean)) rmL_areNumbers 0 0 5 ∧ (Cond.static yL_areNumbers).before args s = true := va_cwS 5 ht (good_S hl qt_yL_areNumbers qi_RL qc_yL_areNumbers) rfl rfl rfl (by decide +kernel) ⟨hf, hlo⟩
set_option maxRecDepth 100000 in
set_option maxHeartbeats 4000000 in
theorem met_L_areNumbers (l : Launch) (D : va_G) (ad : Adr) (cy : Nat → ClassId) (S : Mem) {Q : Mem → Int32 → Prop} (hq : vc_L_areNumbers S Q) : Ci l yL_areNumbers (wA yL_areNumbers cL_areNumbers 11 (some Jvm.ClassFile.FieldType.boolean)) rmL_areNumbers D ad cy (IN [(15, 0, 0), (16, 0, 0), (17, 0, 0), (18, 0, 0)]) [.ref (ad 14 0 0), .ref (ad 15 0 0), .ref (ad 16 0 0), .ref (ad 17 0 0), .ref (ad 18 0 0)] S Q := by
  intro o sz hI
  refine mkC (own := RL) (lv := [(0, .ref (ad 14 0 0)), (1, .ref (ad 15 0 0)), (2, .ref (ad 16 0 0)), (3, .ref (ad 17 0 0)), (4, .ref (ad 18 0 0))]) (by decide) rfl (Nat.le_of_ble_eq_true rfl) rfl ?_
  intro p e s m below meth c ls hsz hM hlocks hret hK hA hX hl
  have L177 : ∀ {K : Mem → Int32 → Int32 → Int32 → Int32 → Prop} (hk : ∀ (S : Mem) (y6 : Int32) (y7 : Int32) (y8 : Int32) (y9 : Int32), K S y6 y7 y8 y9 → ∀ (H : Heap) (locs : List Loc) (ls : Array Slot), PW D ad cy (AW ad o sz) s.heap o S H locs → lv_has ls 11 [(0, .ref (ad 14 0 0)), (1, .ref (ad 15 0 0)), (4, .ref (ad 18 0 0)), (6, .int y6), (7, .int y7), (8, .int y8), (9, .int y9)] → Wi D ad cy o sz Q p l e rmL_areNumbers s m [.ref (ad 14 0 0), .ref (ad 15 0 0), .ref (ad 16 0 0), .ref (ad 17 0 0), .ref (ad 18 0 0)] below meth c H locs (F0 m 201 ls [])), ∀ (n : Nat) (S : Mem) (y6 : Int32) (y7 : Int32) (y8 : Int32) (y9 : Int32), vc_L_areNumbers_L177 Q K n S y6 y7 y8 y9 → ∀ (H : Heap) (locs : List Loc) (ls : Array Slot), PW D ad cy (AW ad o sz) s.heap o S H locs → lv_has ls 11 [(0, .ref (ad 14 0 0)), (1, .ref (ad 15 0 0)), (4, .ref (ad 18 0 0)), (6, .int y6), (7, .int y7), (8, .int y8), (9, .int y9)] → Wi D ad cy o sz Q p l e rmL_areNumbers s m [.ref (ad 14 0 0), .ref (ad 15 0 0), .ref (ad 16 0 0), .ref (ad 17 0 0), .ref (ad 18 0 0)] below meth c H locs (F0 m 177 ls []) := by
    intro K hk n
    induction n with
    | zero =>
      intro S y6 y7 y8 y9 hq
      rw [vc_L_areNumbers_L177] at hq
      exact hq.elim
    | succ n ih =>
      intro S y6 y7 y8 y9 hq H locs ls hX hl
      rw [vc_L_areNumbers_L177] at hq
      refine lv_aload hM.1 hM.2.1 dL_areNumbers_177 (lv_at hl 2 rfl) ?_
      refine lv_iconst (v := (0 : Int32)) hM.1 hM.2.1 dL_areNumbers_179 (by decide) ?_
      have c_8 := hq.1
      replace hq := hq.2
      refine r_iald hM hK hX hI.2.2.2.2.1 (a18 0 0) c_8 dL_areNumbers_180 ?_
      refine lv_iload hM.1 hM.2.1 dL_areNumbers_181 (lv_at hl 6 rfl) ?_
      refine lv_iadd hM.1 hM.2.1 dL_areNumbers_183 ?_
      refine lv_aload hM.1 hM.2.1 dL_areNumbers_184 (lv_at hl 2 rfl) ?_
      refine lv_iconst (v := (4 : Int32)) hM.1 hM.2.1 dL_areNumbers_186 (by decide) ?_
      refine lv_iload hM.1 hM.2.1 dL_areNumbers_187 (lv_at hl 4 rfl) ?_
      refine lv_iadd hM.1 hM.2.1 dL_areNumbers_189 ?_
      have c_9 := hq.1
      replace hq := hq.2
      refine r_iald hM hK hX hI.2.2.2.2.1 (a18 0 0) c_9 dL_areNumbers_190 ?_
      have c_10 := hq.1
      replace hq := hq.2
      refine lv_irem hM.1 hM.2.1 dL_areNumbers_191 c_10 ?_
      refine lv_if_le (tgt := 201) hM.1 hM.2.1 dL_areNumbers_192 (by decide) (fun c_11 => ?_) (fun c_11 => ?_)
      · replace hq := hq.1 c_11
        exact hk S y6 y7 y8 y9 hq _ _ _ hX (lv_sub hl [0, 1, 2, 3, 4, 5, 6] rfl)
      replace hq := hq.2 c_11
      refine lv_iinc (v := (y9 + (1 : Int32))) (lv' := [(9, .int (y9 + (1 : Int32))), (0, .ref (ad 14 0 0)), (1, .ref (ad 15 0 0)), (4, .ref (ad 18 0 0)), (6, .int y6), (7, .int y7), (8, .int y8)]) hM.1 hM.2.1 dL_areNumbers_195 hl (k := 6) rfl rfl (by decide) rfl (fun ls hl => ?_)
      refine lv_goto (tgt := 177) hM.1 hM.2.1 dL_areNumbers_198 (by decide) ?_
      exact ih S y6 y7 y8 (y9 + (1 : Int32)) hq _ _ _ hX (lv_sub hl [1, 2, 3, 4, 5, 6, 0] rfl)
  have J233 : ∀ {K0 : Mem → Int32 → Int32 → Int32 → Int32 → Int32 → Prop} (hk0 : ∀ (S : Mem) (y6 : Int32) (y7 : Int32) (y8 : Int32) (y9 : Int32) (y10 : Int32), K0 S y6 y7 y8 y9 y10 → ∀ (H : Heap) (locs : List Loc) (ls : Array Slot), PW D ad cy (AW ad o sz) s.heap o S H locs → lv_has ls 11 [(0, .ref (ad 14 0 0)), (1, .ref (ad 15 0 0)), (4, .ref (ad 18 0 0)), (6, .int y6), (7, .int y7), (8, .int y8), (9, .int y9), (10, .int y10)] → Wi D ad cy o sz Q p l e rmL_areNumbers s m [.ref (ad 14 0 0), .ref (ad 15 0 0), .ref (ad 16 0 0), .ref (ad 17 0 0), .ref (ad 18 0 0)] below meth c H locs (F0 m 204 ls [])), ∀ {K1 : Mem → Int32 → Int32 → Int32 → Int32 → Prop} (hk1 : ∀ (S : Mem) (y6 : Int32) (y7 : Int32) (y8 : Int32) (y9 : Int32), K1 S y6 y7 y8 y9 → ∀ (H : Heap) (locs : List Loc) (ls : Array Slot), PW D ad cy (AW ad o sz) s.heap o S H locs → lv_has ls 11 [(0, .ref (ad 14 0 0)), (1, .ref (ad 15 0 0)), (4, .ref (ad 18 0 0)), (6, .int y6), (7, .int y7), (8, .int y8), (9, .int y9)] → Wi D ad cy o sz Q p l e rmL_areNumbers s m [.ref (ad 14 0 0), .ref (ad 15 0 0), .ref (ad 16 0 0), .ref (ad 17 0 0), .ref (ad 18 0 0)] below meth c H locs (F0 m 242 ls [])), ∀ (S : Mem) (y6 : Int32) (y7 : Int32) (y9 : Int32) (y10 : Int32) (w0 : Int32) (w1 : Int32), vc_L_areNumbers_J233 Q K0 K1 S y6 y7 y9 y10 w0 w1 → ∀ (H : Heap) (locs : List Loc) (ls : Array Slot), PW D ad cy (AW ad o sz) s.heap o S H locs → lv_has ls 11 [(0, .ref (ad 14 0 0)), (1, .ref (ad 15 0 0)), (4, .ref (ad 18 0 0)), (6, .int y6), (7, .int y7), (9, .int y9), (10, .int y10)] → Wi D ad cy o sz Q p l e rmL_areNumbers s m [.ref (ad 14 0 0), .ref (ad 15 0 0), .ref (ad 16 0 0), .ref (ad 17 0 0), .ref (ad 18 0 0)] below meth c H locs (F0 m 233 ls [.int w1, .int w0]) := by
    intro K0 hk0 K1 hk1 S y6 y7 y9 y10 w0 w1 hq H locs ls hX hl
    unfold vc_L_areNumbers_J233 at hq
    refine lv_iadd hM.1 hM.2.1 dL_areNumbers_233 ?_
    refine lv_istore (lv' := [(8, .int (w0 + w1)), (0, .ref (ad 14 0 0)), (1, .ref (ad 15 0 0)), (4, .ref (ad 18 0 0)), (6, .int y6), (7, .int y7), (9, .int y9), (10, .int y10)]) hM.1 hM.2.1 dL_areNumbers_234 hl (by decide) rfl (fun ls hl => ?_)
    refine lv_iinc (v := (y10 + (1 : Int32))) (lv' := [(10, .int (y10 + (1 : Int32))), (8, .int (w0 + w1)), (0, .ref (ad 14 0 0)), (1, .ref (ad 15 0 0)), (4, .ref (ad 18 0 0)), (6, .int y6), (7, .int y7), (9, .int y9)]) hM.1 hM.2.1 dL_areNumbers_236 hl (k := 7) rfl rfl (by decide) rfl (fun ls hl => ?_)
    refine lv_goto (tgt := 204) hM.1 hM.2.1 dL_areNumbers_239 (by decide) ?_
    exact hk0 S y6 y7 (w0 + w1) y9 (y10 + (1 : Int32)) hq _ _ _ hX (lv_sub hl [2, 3, 4, 5, 6, 1, 7, 0] rfl)
  have L204 : ∀ {K : Mem → Int32 → Int32 → Int32 → Int32 → Prop} (hk : ∀ (S : Mem) (y6 : Int32) (y7 : Int32) (y8 : Int32) (y9 : Int32), K S y6 y7 y8 y9 → ∀ (H : Heap) (locs : List Loc) (ls : Array Slot), PW D ad cy (AW ad o sz) s.heap o S H locs → lv_has ls 11 [(0, .ref (ad 14 0 0)), (1, .ref (ad 15 0 0)), (4, .ref (ad 18 0 0)), (6, .int y6), (7, .int y7), (8, .int y8), (9, .int y9)] → Wi D ad cy o sz Q p l e rmL_areNumbers s m [.ref (ad 14 0 0), .ref (ad 15 0 0), .ref (ad 16 0 0), .ref (ad 17 0 0), .ref (ad 18 0 0)] below meth c H locs (F0 m 242 ls [])), ∀ (n : Nat) (S : Mem) (y6 : Int32) (y7 : Int32) (y8 : Int32) (y9 : Int32) (y10 : Int32), vc_L_areNumbers_L204 Q K n S y6 y7 y8 y9 y10 → ∀ (H : Heap) (locs : List Loc) (ls : Array Slot), PW D ad cy (AW ad o sz) s.heap o S H locs → lv_has ls 11 [(0, .ref (ad 14 0 0)), (1, .ref (ad 15 0 0)), (4, .ref (ad 18 0 0)), (6, .int y6), (7, .int y7), (8, .int y8), (9, .int y9), (10, .int y10)] → Wi D ad cy o sz Q p l e rmL_areNumbers s m [.ref (ad 14 0 0), .ref (ad 15 0 0), .ref (ad 16 0 0), .ref (ad 17 0 0), .ref (ad 18 0 0)] below meth c H locs (F0 m 204 ls []) := by
    intro K hk n
    induction n with
    | zero =>
      intro S y6 y7 y8 y9 y10 hq
      rw [vc_L_areNumbers_L204] at hq
      exact hq.elim
    | succ n ih =>
      intro S y6 y7 y8 y9 y10 hq H locs ls hX hl
      rw [vc_L_areNumbers_L204] at hq
      refine lv_iload hM.1 hM.2.1 dL_areNumbers_204 (lv_at hl 7 rfl) ?_
      refine lv_aload hM.1 hM.2.1 dL_areNumbers_206 (lv_at hl 2 rfl) ?_
      refine lv_bipush (v := (15 : Int32)) hM.1 hM.2.1 dL_areNumbers_208 (by decide) ?_
      have c_17 := hq.1
      replace hq := hq.2
      refine r_iald hM hK hX hI.2.2.2.2.1 (a18 0 0) c_17 dL_areNumbers_210 ?_
      refine lv_icmp_ge (tgt := 242) hM.1 hM.2.1 dL_areNumbers_211 (by decide) (fun c_18 => ?_) (fun c_18 => ?_)
      · replace hq := hq.1 c_18
        exact hk S y6 y7 y8 y9 hq _ _ _ hX (lv_sub hl [0, 1, 2, 3, 4, 5, 6] rfl)
      replace hq := hq.2 c_18
      refine lv_iload hM.1 hM.2.1 dL_areNumbers_214 (lv_at hl 5 rfl) ?_
      refine lv_aload_n hM.1 hM.2.1 dL_areNumbers_216 rfl (lv_at hl 1 rfl) ?_
      refine lv_bipush (v := (10 : Int32)) hM.1 hM.2.1 dL_areNumbers_217 (by decide) ?_
      refine lv_iload hM.1 hM.2.1 dL_areNumbers_219 (lv_at hl 7 rfl) ?_
      refine lv_imul hM.1 hM.2.1 dL_areNumbers_221 ?_
      have c_19 := hq.1
      replace hq := hq.2
      refine r_iald hM hK hX hI.2.1 (a15 0 0) c_19 dL_areNumbers_222 ?_
      refine lv_iload hM.1 hM.2.1 dL_areNumbers_223 (lv_at hl 4 rfl) ?_
      refine lv_icmp_ne (tgt := 232) hM.1 hM.2.1 dL_areNumbers_225 (by decide) (fun c_20 => ?_) (fun c_20 => ?_)
      · replace hq := hq.1 c_20
        refine lv_iconst (v := (0 : Int32)) hM.1 hM.2.1 dL_areNumbers_232 (by decide) ?_
        exact J233 ih hk S y6 y7 y9 y10 y8 (0 : Int32) hq _ _ _ hX (lv_sub hl [0, 1, 2, 3, 4, 6, 7] rfl)
      replace hq := hq.2 c_20
      refine lv_iconst (v := (1 : Int32)) hM.1 hM.2.1 dL_areNumbers_228 (by decide) ?_
      refine lv_goto (tgt := 233) hM.1 hM.2.1 dL_areNumbers_229 (by decide) ?_
      exact J233 ih hk S y6 y7 y9 y10 y8 (1 : Int32) hq _ _ _ hX (lv_sub hl [0, 1, 2, 3, 4, 6, 7] rfl)
  have J311 : ∀ {K0 : Mem → Int32 → Int32 → Prop} (hk0 : ∀ (S : Mem) (y6 : Int32) (y7 : Int32), K0 S y6 y7 → ∀ (H : Heap) (locs : List Loc) (ls : Array Slot), PW D ad cy (AW ad o sz) s.heap o S H locs → lv_has ls 11 [(0, .ref (ad 14 0 0)), (1, .ref (ad 15 0 0)), (4, .ref (ad 18 0 0)), (6, .int y6), (7, .int y7)] → Wi D ad cy o sz Q p l e rmL_areNumbers s m [.ref (ad 14 0 0), .ref (ad 15 0 0), .ref (ad 16 0 0), .ref (ad 17 0 0), .ref (ad 18 0 0)] below meth c H locs (F0 m 165 ls [])), ∀ {K1 : Mem → Int32 → Prop} (hk1 : ∀ (S : Mem) (y6 : Int32), K1 S y6 → ∀ (H : Heap) (locs : List Loc) (ls : Array Slot), PW D ad cy (AW ad o sz) s.heap o S H locs → lv_has ls 11 [(6, .int y6)] → Wi D ad cy o sz Q p l e rmL_areNumbers s m [.ref (ad 14 0 0), .ref (ad 15 0 0), .ref (ad 16 0 0), .ref (ad 17 0 0), .ref (ad 18 0 0)] below meth c H locs (F0 m 319 ls [])), ∀ (S : Mem) (y7 : Int32) (w0 : Int32), vc_L_areNumbers_J311 Q K0 K1 S y7 w0 → ∀ (H : Heap) (locs : List Loc) (ls : Array Slot), PW D ad cy (AW ad o sz) s.heap o S H locs → lv_has ls 11 [(0, .ref (ad 14 0 0)), (1, .ref (ad 15 0 0)), (4, .ref (ad 18 0 0)), (7, .int y7)] → Wi D ad cy o sz Q p l e rmL_areNumbers s m [.ref (ad 14 0 0), .ref (ad 15 0 0), .ref (ad 16 0 0), .ref (ad 17 0 0), .ref (ad 18 0 0)] below meth c H locs (F0 m 311 ls [.int w0]) := by
    intro K0 hk0 K1 hk1 S y7 w0 hq H locs ls hX hl
    unfold vc_L_areNumbers_J311 at hq
    refine lv_istore (lv' := [(6, .int w0), (0, .ref (ad 14 0 0)), (1, .ref (ad 15 0 0)), (4, .ref (ad 18 0 0)), (7, .int y7)]) hM.1 hM.2.1 dL_areNumbers_311 hl (by decide) rfl (fun ls hl => ?_)
    refine lv_iinc (v := (y7 + (1 : Int32))) (lv' := [(7, .int (y7 + (1 : Int32))), (6, .int w0), (0, .ref (ad 14 0 0)), (1, .ref (ad 15 0 0)), (4, .ref (ad 18 0 0))]) hM.1 hM.2.1 dL_areNumbers_313 hl (k := 4) rfl rfl (by decide) rfl (fun ls hl => ?_)
    refine lv_goto (tgt := 165) hM.1 hM.2.1 dL_areNumbers_316 (by decide) ?_
    exact hk0 S w0 (y7 + (1 : Int32)) hq _ _ _ hX (lv_sub hl [2, 3, 4, 1, 0] rfl)
  have J310 : ∀ {K0 : Mem → Int32 → Int32 → Prop} (hk0 : ∀ (S : Mem) (y6 : Int32) (y7 : Int32), K0 S y6 y7 → ∀ (H : Heap) (locs : List Loc) (ls : Array Slot), PW D ad cy (AW ad o sz) s.heap o S H locs → lv_has ls 11 [(0, .ref (ad 14 0 0)), (1, .ref (ad 15 0 0)), (4, .ref (ad 18 0 0)), (6, .int y6), (7, .int y7)] → Wi D ad cy o sz Q p l e rmL_areNumbers s m [.ref (ad 14 0 0), .ref (ad 15 0 0), .ref (ad 16 0 0), .ref (ad 17 0 0), .ref (ad 18 0 0)] below meth c H locs (F0 m 165 ls [])), ∀ {K1 : Mem → Int32 → Prop} (hk1 : ∀ (S : Mem) (y6 : Int32), K1 S y6 → ∀ (H : Heap) (locs : List Loc) (ls : Array Slot), PW D ad cy (AW ad o sz) s.heap o S H locs → lv_has ls 11 [(6, .int y6)] → Wi D ad cy o sz Q p l e rmL_areNumbers s m [.ref (ad 14 0 0), .ref (ad 15 0 0), .ref (ad 16 0 0), .ref (ad 17 0 0), .ref (ad 18 0 0)] below meth c H locs (F0 m 319 ls [])), ∀ (S : Mem) (y7 : Int32), vc_L_areNumbers_J310 Q K0 K1 S y7 → ∀ (H : Heap) (locs : List Loc) (ls : Array Slot), PW D ad cy (AW ad o sz) s.heap o S H locs → lv_has ls 11 [(0, .ref (ad 14 0 0)), (1, .ref (ad 15 0 0)), (4, .ref (ad 18 0 0)), (7, .int y7)] → Wi D ad cy o sz Q p l e rmL_areNumbers s m [.ref (ad 14 0 0), .ref (ad 15 0 0), .ref (ad 16 0 0), .ref (ad 17 0 0), .ref (ad 18 0 0)] below meth c H locs (F0 m 310 ls []) := by
    intro K0 hk0 K1 hk1 S y7 hq H locs ls hX hl
    unfold vc_L_areNumbers_J310 at hq
    refine lv_iconst (v := (0 : Int32)) hM.1 hM.2.1 dL_areNumbers_310 (by decide) ?_
    exact J311 hk0 hk1 S y7 (0 : Int32) hq _ _ _ hX (lv_sub hl [0, 1, 2, 3] rfl)
  have L165 : ∀ {K : Mem → Int32 → Prop} (hk : ∀ (S : Mem) (y6 : Int32), K S y6 → ∀ (H : Heap) (locs : List Loc) (ls : Array Slot), PW D ad cy (AW ad o sz) s.heap o S H locs → lv_has ls 11 [(6, .int y6)] → Wi D ad cy o sz Q p l e rmL_areNumbers s m [.ref (ad 14 0 0), .ref (ad 15 0 0), .ref (ad 16 0 0), .ref (ad 17 0 0), .ref (ad 18 0 0)] below meth c H locs (F0 m 319 ls [])), ∀ (n : Nat) (S : Mem) (y6 : Int32) (y7 : Int32), vc_L_areNumbers_L165 Q K n S y6 y7 → ∀ (H : Heap) (locs : List Loc) (ls : Array Slot), PW D ad cy (AW ad o sz) s.heap o S H locs → lv_has ls 11 [(0, .ref (ad 14 0 0)), (1, .ref (ad 15 0 0)), (4, .ref (ad 18 0 0)), (6, .int y6), (7, .int y7)] → Wi D ad cy o sz Q p l e rmL_areNumbers s m [.ref (ad 14 0 0), .ref (ad 15 0 0), .ref (ad 16 0 0), .ref (ad 17 0 0), .ref (ad 18 0 0)] below meth c H locs (F0 m 165 ls []) := by
    intro K hk n
    induction n with
    | zero =>
      intro S y6 y7 hq
      rw [vc_L_areNumbers_L165] at hq
      exact hq.elim
    | succ n ih =>
      intro S y6 y7 hq H locs ls hX hl
      rw [vc_L_areNumbers_L165] at hq
      refine lv_iload hM.1 hM.2.1 dL_areNumbers_165 (lv_at hl 4 rfl) ?_
      refine lv_iconst (v := (4 : Int32)) hM.1 hM.2.1 dL_areNumbers_167 (by decide) ?_
      refine lv_icmp_ge (tgt := 319) hM.1 hM.2.1 dL_areNumbers_168 (by decide) (fun c_7 => ?_) (fun c_7 => ?_)
      · replace hq := hq.1 c_7
        exact hk S y6 hq _ _ _ hX (lv_sub hl [3] rfl)
      replace hq := hq.2 c_7
      refine lv_iconst (v := (0 : Int32)) hM.1 hM.2.1 dL_areNumbers_171 (by decide) ?_
      refine lv_istore (lv' := [(8, .int (0 : Int32)), (0, .ref (ad 14 0 0)), (1, .ref (ad 15 0 0)), (4, .ref (ad 18 0 0)), (6, .int y6), (7, .int y7)]) hM.1 hM.2.1 dL_areNumbers_172 hl (by decide) rfl (fun ls hl => ?_)
      refine lv_iconst (v := (1 : Int32)) hM.1 hM.2.1 dL_areNumbers_174 (by decide) ?_
      refine lv_istore (lv' := [(9, .int (1 : Int32)), (8, .int (0 : Int32)), (0, .ref (ad 14 0 0)), (1, .ref (ad 15 0 0)), (4, .ref (ad 18 0 0)), (6, .int y6), (7, .int y7)]) hM.1 hM.2.1 dL_areNumbers_175 hl (by decide) rfl (fun ls hl => ?_)
      obtain ⟨k0, hq⟩ := hq
      refine L177 (fun S_12 y6_13 y7_14 y8_15 y9_16 hq H locs ls hX hl => ?_) k0 S y6 y7 (0 : Int32) (1 : Int32) hq _ _ _ hX (lv_sub hl [2, 3, 4, 5, 6, 1, 0] rfl)
      refine lv_iconst (v := (0 : Int32)) hM.1 hM.2.1 dL_areNumbers_201 (by decide) ?_
      refine lv_istore (lv' := [(10, .int (0 : Int32)), (0, .ref (ad 14 0 0)), (1, .ref (ad 15 0 0)), (4, .ref (ad 18 0 0)), (6, .int y6_13), (7, .int y7_14), (8, .int y8_15), (9, .int y9_16)]) hM.1 hM.2.1 dL_areNumbers_202 hl (by decide) rfl (fun ls hl => ?_)
      obtain ⟨k0, hq⟩ := hq
      refine L204 (fun S_21 y6_22 y7_23 y8_24 y9_25 hq H locs ls hX hl => ?_) k0 S_12 y6_13 y7_14 y8_15 y9_16 (0 : Int32) hq _ _ _ hX (lv_sub hl [1, 2, 3, 4, 5, 6, 7, 0] rfl)
      refine lv_iload hM.1 hM.2.1 dL_areNumbers_242 (lv_at hl 3 rfl) ?_
      refine lv_if_eq (tgt := 310) hM.1 hM.2.1 dL_areNumbers_244 (by decide) (fun c_26 => ?_) (fun c_26 => ?_)
      · replace hq := hq.1 c_26
        exact J310 ih hk S_21 y7_23 hq _ _ _ hX (lv_sub hl [0, 1, 2, 4] rfl)
      replace hq := hq.2 c_26
      refine lv_aload_n hM.1 hM.2.1 dL_areNumbers_247 rfl (lv_at hl 0 rfl) ?_
      refine lv_iload hM.1 hM.2.1 dL_areNumbers_248 (lv_at hl 4 rfl) ?_
      refine lv_iconst (v := (0 : Int32)) hM.1 hM.2.1 dL_areNumbers_250 (by decide) ?_
      refine cVi (As := [.int y7_23, .int (0 : Int32)]) hM hK hX ⟨hI.1, trivial⟩ hA (met_X6_row l D ad cy S_21 y7_23 (0 : Int32) hq) (kX6_row hM.2.2.2.2 ql_RL_57 (Nat.le_of_ble_eq_true rfl) (Nat.le_of_ble_eq_true rfl)) (v14 hK hX (hI.1 _ m14)) rfl hl.1 rfl (Nat.le_of_ble_eq_true rfl) dL_areNumbers_251 ⟨Nat.zero_le _, Nat.zero_le _⟩ (fun S_27 r_28 hq H locs hX => ?_)
      refine lv_aload hM.1 hM.2.1 dL_areNumbers_254 (lv_at hl 2 rfl) ?_
      refine lv_iconst (v := (4 : Int32)) hM.1 hM.2.1 dL_areNumbers_256 (by decide) ?_
      refine lv_iload hM.1 hM.2.1 dL_areNumbers_257 (lv_at hl 4 rfl) ?_
      refine lv_iadd hM.1 hM.2.1 dL_areNumbers_259 ?_
      have c_29 := hq.1
      replace hq := hq.2
      refine r_iald hM hK hX hI.2.2.2.2.1 (a18 0 0) c_29 dL_areNumbers_260 ?_
      refine lv_icmp_ne (tgt := 310) hM.1 hM.2.1 dL_areNumbers_261 (by decide) (fun c_30 => ?_) (fun c_30 => ?_)
      · replace hq := hq.1 c_30
        exact J310 ih hk S_27 y7_23 hq _ _ _ hX (lv_sub hl [0, 1, 2, 4] rfl)
      replace hq := hq.2 c_30
      refine lv_aload_n hM.1 hM.2.1 dL_areNumbers_264 rfl (lv_at hl 0 rfl) ?_
      refine lv_iload hM.1 hM.2.1 dL_areNumbers_265 (lv_at hl 4 rfl) ?_
      refine lv_iconst (v := (1 : Int32)) hM.1 hM.2.1 dL_areNumbers_267 (by decide) ?_
      refine cVi (As := [.int y7_23, .int (1 : Int32)]) hM hK hX ⟨hI.1, trivial⟩ hA (met_X6_row l D ad cy S_27 y7_23 (1 : Int32) hq) (kX6_row hM.2.2.2.2 ql_RL_57 (Nat.le_of_ble_eq_true rfl) (Nat.le_of_ble_eq_true rfl)) (v14 hK hX (hI.1 _ m14)) rfl hl.1 rfl (Nat.le_of_ble_eq_true rfl) dL_areNumbers_268 ⟨Nat.zero_le _, Nat.zero_le _⟩ (fun S_31 r_32 hq H locs hX => ?_)
      refine lv_iload hM.1 hM.2.1 dL_areNumbers_271 (lv_at hl 5 rfl) ?_
      refine lv_icmp_ne (tgt := 310) hM.1 hM.2.1 dL_areNumbers_273 (by decide) (fun c_33 => ?_) (fun c_33 => ?_)
      · replace hq := hq.1 c_33
        exact J310 ih hk S_31 y7_23 hq _ _ _ hX (lv_sub hl [0, 1, 2, 4] rfl)
      replace hq := hq.2 c_33
      refine lv_aload_n hM.1 hM.2.1 dL_areNumbers_276 rfl (lv_at hl 0 rfl) ?_
      refine lv_iload hM.1 hM.2.1 dL_areNumbers_277 (lv_at hl 4 rfl) ?_
      refine lv_iconst (v := (2 : Int32)) hM.1 hM.2.1 dL_areNumbers_279 (by decide) ?_
      refine cVi (As := [.int y7_23, .int (2 : Int32)]) hM hK hX ⟨hI.1, trivial⟩ hA (met_X6_row l D ad cy S_31 y7_23 (2 : Int32) hq) (kX6_row hM.2.2.2.2 ql_RL_57 (Nat.le_of_ble_eq_true rfl) (Nat.le_of_ble_eq_true rfl)) (v14 hK hX (hI.1 _ m14)) rfl hl.1 rfl (Nat.le_of_ble_eq_true rfl) dL_areNumbers_280 ⟨Nat.zero_le _, Nat.zero_le _⟩ (fun S_34 r_35 hq H locs hX => ?_)
      refine lv_iload hM.1 hM.2.1 dL_areNumbers_283 (lv_at hl 6 rfl) ?_
      refine lv_icmp_ne (tgt := 310) hM.1 hM.2.1 dL_areNumbers_285 (by decide) (fun c_36 => ?_) (fun c_36 => ?_)
      · replace hq := hq.1 c_36
        exact J310 ih hk S_34 y7_23 hq _ _ _ hX (lv_sub hl [0, 1, 2, 4] rfl)
      replace hq := hq.2 c_36
      refine lv_aload_n hM.1 hM.2.1 dL_areNumbers_288 rfl (lv_at hl 0 rfl) ?_
      refine lv_iload hM.1 hM.2.1 dL_areNumbers_289 (lv_at hl 4 rfl) ?_
      refine lv_iconst (v := (3 : Int32)) hM.1 hM.2.1 dL_areNumbers_291 (by decide) ?_
      refine cVi (As := [.int y7_23, .int (3 : Int32)]) hM hK hX ⟨hI.1, trivial⟩ hA (met_X6_row l D ad cy S_34 y7_23 (3 : Int32) hq) (kX6_row hM.2.2.2.2 ql_RL_57 (Nat.le_of_ble_eq_true rfl) (Nat.le_of_ble_eq_true rfl)) (v14 hK hX (hI.1 _ m14)) rfl hl.1 rfl (Nat.le_of_ble_eq_true rfl) dL_areNumbers_292 ⟨Nat.zero_le _, Nat.zero_le _⟩ (fun S_37 r_38 hq H locs hX => ?_)
      refine lv_aload hM.1 hM.2.1 dL_areNumbers_295 (lv_at hl 2 rfl) ?_
      refine lv_bipush (v := (8 : Int32)) hM.1 hM.2.1 dL_areNumbers_297 (by decide) ?_
      refine lv_iload hM.1 hM.2.1 dL_areNumbers_299 (lv_at hl 4 rfl) ?_
      refine lv_iadd hM.1 hM.2.1 dL_areNumbers_301 ?_
      have c_39 := hq.1
      replace hq := hq.2
      refine r_iald hM hK hX hI.2.2.2.2.1 (a18 0 0) c_39 dL_areNumbers_302 ?_
      refine lv_icmp_ne (tgt := 310) hM.1 hM.2.1 dL_areNumbers_303 (by decide) (fun c_40 => ?_) (fun c_40 => ?_)
      · replace hq := hq.1 c_40
        exact J310 ih hk S_37 y7_23 hq _ _ _ hX (lv_sub hl [0, 1, 2, 4] rfl)
      replace hq := hq.2 c_40
      refine lv_iconst (v := (1 : Int32)) hM.1 hM.2.1 dL_areNumbers_306 (by decide) ?_
      refine lv_goto (tgt := 311) hM.1 hM.2.1 dL_areNumbers_307 (by decide) ?_
      exact J311 ih hk S_37 y7_23 (1 : Int32) hq _ _ _ hX (lv_sub hl [0, 1, 2, 4] rfl)
  have J160 : ∀ (S : Mem) (w0 : Int32), vc_L_areNumbers_J160 Q S w0 → ∀ (H : Heap) (locs : List Loc) (ls : Array Slot), PW D ad cy (AW ad o sz) s.heap o S H locs → lv_has ls 11 [(0, .ref (ad 14 0 0)), (1, .ref (ad 15 0 0)), (4, .ref (ad 18 0 0))] → Wi D ad cy o sz Q p l e rmL_areNumbers s m [.ref (ad 14 0 0), .ref (ad 15 0 0), .ref (ad 16 0 0), .ref (ad 17 0 0), .ref (ad 18 0 0)] below meth c H locs (F0 m 160 ls [.int w0]) := by
    intro S w0 hq H locs ls hX hl
    unfold vc_L_areNumbers_J160 at hq
    refine lv_istore (lv' := [(6, .int w0), (0, .ref (ad 14 0 0)), (1, .ref (ad 15 0 0)), (4, .ref (ad 18 0 0))]) hM.1 hM.2.1 dL_areNumbers_160 hl (by decide) rfl (fun ls hl => ?_)
    refine lv_iconst (v := (0 : Int32)) hM.1 hM.2.1 dL_areNumbers_162 (by decide) ?_
    refine lv_istore (lv' := [(7, .int (0 : Int32)), (6, .int w0), (0, .ref (ad 14 0 0)), (1, .ref (ad 15 0 0)), (4, .ref (ad 18 0 0))]) hM.1 hM.2.1 dL_areNumbers_163 hl (by decide) rfl (fun ls hl => ?_)
    obtain ⟨k0, hq⟩ := hq
    refine L165 (fun S_41 y6_42 hq H locs ls hX hl => ?_) k0 S w0 (0 : Int32) hq _ _ _ hX (lv_sub hl [2, 3, 4, 1, 0] rfl)
    refine lv_iload hM.1 hM.2.1 dL_areNumbers_319 (lv_at hl 0 rfl) ?_
    exact e_z hM hX hlocks hret (nar_z hq.1).1 hq.2 dL_areNumbers_321
  have J159 : ∀ (S : Mem), vc_L_areNumbers_J159 Q S → ∀ (H : Heap) (locs : List Loc) (ls : Array Slot), PW D ad cy (AW ad o sz) s.heap o S H locs → lv_has ls 11 [(0, .ref (ad 14 0 0)), (1, .ref (ad 15 0 0)), (4, .ref (ad 18 0 0))] → Wi D ad cy o sz Q p l e rmL_areNumbers s m [.ref (ad 14 0 0), .ref (ad 15 0 0), .ref (ad 16 0 0), .ref (ad 17 0 0), .ref (ad 18 0 0)] below meth c H locs (F0 m 159 ls []) := by
    intro S hq H locs ls hX hl
    unfold vc_L_areNumbers_J159 at hq
    refine lv_iconst (v := (0 : Int32)) hM.1 hM.2.1 dL_areNumbers_159 (by decide) ?_
    exact J160 S (0 : Int32) hq _ _ _ hX (lv_sub hl [0, 1, 2] rfl)
  have J80 : ∀ (S : Mem) (w0 : Int32) (w1 : Int32), vc_L_areNumbers_J80 Q S w0 w1 → ∀ (H : Heap) (locs : List Loc) (ls : Array Slot), PW D ad cy (AW ad o sz) s.heap o S H locs → lv_has ls 11 [(0, .ref (ad 14 0 0)), (1, .ref (ad 15 0 0)), (2, .ref (ad 16 0 0)), (3, .ref (ad 17 0 0)), (4, .ref (ad 18 0 0))] → Wi D ad cy o sz Q p l e rmL_areNumbers s m [.ref (ad 14 0 0), .ref (ad 15 0 0), .ref (ad 16 0 0), .ref (ad 17 0 0), .ref (ad 18 0 0)] below meth c H locs (F0 m 80 ls [.int w1, .int w0]) := by
    intro S w0 w1 hq H locs ls hX hl
    unfold vc_L_areNumbers_J80 at hq
    refine lv_icmp_ne (tgt := 159) hM.1 hM.2.1 dL_areNumbers_80 (by decide) (fun c_53 => ?_) (fun c_53 => ?_)
    · replace hq := hq.1 c_53
      exact J159 S hq _ _ _ hX (lv_sub hl [0, 1, 4] rfl)
    replace hq := hq.2 c_53
    refine lv_aload_n hM.1 hM.2.1 dL_areNumbers_83 rfl (lv_at hl 0 rfl) ?_
    refine lv_bipush (v := (7 : Int32)) hM.1 hM.2.1 dL_areNumbers_84 (by decide) ?_
    refine cVi (As := [.int (7 : Int32)]) hM hK hX ⟨hI.1, trivial⟩ hA (met_X6_count l D ad cy S (7 : Int32) hq) (kX6_count hM.2.2.2.2 ql_RL_40 (Nat.le_of_ble_eq_true rfl) (Nat.le_of_ble_eq_true rfl)) (v14 hK hX (hI.1 _ m14)) rfl hl.1 rfl (Nat.le_of_ble_eq_true rfl) dL_areNumbers_86 ⟨Nat.zero_le _, Nat.zero_le _⟩ (fun S_54 r_55 hq H locs hX => ?_)
    refine lv_aload_n hM.1 hM.2.1 dL_areNumbers_89 rfl (lv_at hl 1 rfl) ?_
    refine lv_aload_n hM.1 hM.2.1 dL_areNumbers_90 rfl (lv_at hl 2 rfl) ?_
    refine lv_aload_n hM.1 hM.2.1 dL_areNumbers_91 rfl (lv_at hl 3 rfl) ?_
    refine lv_aload hM.1 hM.2.1 dL_areNumbers_92 (lv_at hl 4 rfl) ?_
    refine lv_iconst (v := (-1 : Int32)) hM.1 hM.2.1 dL_areNumbers_94 (by decide) ?_
    refine cSi (As := [.ref (ad 15 0 0), .ref (ad 16 0 0), .ref (ad 17 0 0), .ref (ad 18 0 0), .int (-1 : Int32)]) hM hK hX ⟨hI.1, hI.2.1, hI.2.2.1, hI.2.2.2.1, hI.2.2.2.2.1, trivial⟩ hA (met_L_middle l D ad cy S_54 0 (-1 : Int32) hq) (kL_middle hM.2.2.2.2 ql_RL_32 (Nat.le_of_ble_eq_true rfl) (Nat.le_of_ble_eq_true rfl)) rfl hl.1 rfl (Nat.le_of_ble_eq_true rfl) dL_areNumbers_95 ⟨Nat.zero_le _, Nat.zero_le _⟩ (fun S_56 r_57 hq H locs hX => ?_)
    refine lv_icmp_ne (tgt := 159) hM.1 hM.2.1 dL_areNumbers_98 (by decide) (fun c_58 => ?_) (fun c_58 => ?_)
    · replace hq := hq.1 c_58
      exact J159 S_56 hq _ _ _ hX (lv_sub hl [0, 1, 4] rfl)
    replace hq := hq.2 c_58
    refine lv_aload_n hM.1 hM.2.1 dL_areNumbers_101 rfl (lv_at hl 0 rfl) ?_
    refine lv_bipush (v := (8 : Int32)) hM.1 hM.2.1 dL_areNumbers_102 (by decide) ?_
    refine cVi (As := [.int (8 : Int32)]) hM hK hX ⟨hI.1, trivial⟩ hA (met_X6_count l D ad cy S_56 (8 : Int32) hq) (kX6_count hM.2.2.2.2 ql_RL_40 (Nat.le_of_ble_eq_true rfl) (Nat.le_of_ble_eq_true rfl)) (v14 hK hX (hI.1 _ m14)) rfl hl.1 rfl (Nat.le_of_ble_eq_true rfl) dL_areNumbers_104 ⟨Nat.zero_le _, Nat.zero_le _⟩ (fun S_59 r_60 hq H locs hX => ?_)
    refine lv_aload hM.1 hM.2.1 dL_areNumbers_107 (lv_at hl 4 rfl) ?_
    refine lv_bipush (v := (12 : Int32)) hM.1 hM.2.1 dL_areNumbers_109 (by decide) ?_
    have c_61 := hq.1
    replace hq := hq.2
    refine r_iald hM hK hX hI.2.2.2.2.1 (a18 0 0) c_61 dL_areNumbers_111 ?_
    refine lv_icmp_ne (tgt := 159) hM.1 hM.2.1 dL_areNumbers_112 (by decide) (fun c_62 => ?_) (fun c_62 => ?_)
    · replace hq := hq.1 c_62
      exact J159 S_59 hq _ _ _ hX (lv_sub hl [0, 1, 4] rfl)
    replace hq := hq.2 c_62
    refine lv_aload_n hM.1 hM.2.1 dL_areNumbers_115 rfl (lv_at hl 0 rfl) ?_
    refine lv_bipush (v := (9 : Int32)) hM.1 hM.2.1 dL_areNumbers_116 (by decide) ?_
    refine cVi (As := [.int (9 : Int32)]) hM hK hX ⟨hI.1, trivial⟩ hA (met_X6_count l D ad cy S_59 (9 : Int32) hq) (kX6_count hM.2.2.2.2 ql_RL_40 (Nat.le_of_ble_eq_true rfl) (Nat.le_of_ble_eq_true rfl)) (v14 hK hX (hI.1 _ m14)) rfl hl.1 rfl (Nat.le_of_ble_eq_true rfl) dL_areNumbers_118 ⟨Nat.zero_le _, Nat.zero_le _⟩ (fun S_63 r_64 hq H locs hX => ?_)
    refine lv_aload hM.1 hM.2.1 dL_areNumbers_121 (lv_at hl 4 rfl) ?_
    refine lv_bipush (v := (13 : Int32)) hM.1 hM.2.1 dL_areNumbers_123 (by decide) ?_
    have c_65 := hq.1
    replace hq := hq.2
    refine r_iald hM hK hX hI.2.2.2.2.1 (a18 0 0) c_65 dL_areNumbers_125 ?_
    refine lv_icmp_ne (tgt := 159) hM.1 hM.2.1 dL_areNumbers_126 (by decide) (fun c_66 => ?_) (fun c_66 => ?_)
    · replace hq := hq.1 c_66
      exact J159 S_63 hq _ _ _ hX (lv_sub hl [0, 1, 4] rfl)
    replace hq := hq.2 c_66
    refine lv_aload_n hM.1 hM.2.1 dL_areNumbers_129 rfl (lv_at hl 0 rfl) ?_
    refine lv_bipush (v := (12 : Int32)) hM.1 hM.2.1 dL_areNumbers_130 (by decide) ?_
    refine cVi (As := [.int (12 : Int32)]) hM hK hX ⟨hI.1, trivial⟩ hA (met_X6_count l D ad cy S_63 (12 : Int32) hq) (kX6_count hM.2.2.2.2 ql_RL_40 (Nat.le_of_ble_eq_true rfl) (Nat.le_of_ble_eq_true rfl)) (v14 hK hX (hI.1 _ m14)) rfl hl.1 rfl (Nat.le_of_ble_eq_true rfl) dL_areNumbers_132 ⟨Nat.zero_le _, Nat.zero_le _⟩ (fun S_67 r_68 hq H locs hX => ?_)
    refine lv_aload hM.1 hM.2.1 dL_areNumbers_135 (lv_at hl 4 rfl) ?_
    refine lv_iconst (v := (2 : Int32)) hM.1 hM.2.1 dL_areNumbers_137 (by decide) ?_
    have c_69 := hq.1
    replace hq := hq.2
    refine r_iald hM hK hX hI.2.2.2.2.1 (a18 0 0) c_69 dL_areNumbers_138 ?_
    refine lv_icmp_ne (tgt := 159) hM.1 hM.2.1 dL_areNumbers_139 (by decide) (fun c_70 => ?_) (fun c_70 => ?_)
    · replace hq := hq.1 c_70
      exact J159 S_67 hq _ _ _ hX (lv_sub hl [0, 1, 4] rfl)
    replace hq := hq.2 c_70
    refine lv_aload_n hM.1 hM.2.1 dL_areNumbers_142 rfl (lv_at hl 0 rfl) ?_
    refine lv_bipush (v := (13 : Int32)) hM.1 hM.2.1 dL_areNumbers_143 (by decide) ?_
    refine cVi (As := [.int (13 : Int32)]) hM hK hX ⟨hI.1, trivial⟩ hA (met_X6_count l D ad cy S_67 (13 : Int32) hq) (kX6_count hM.2.2.2.2 ql_RL_40 (Nat.le_of_ble_eq_true rfl) (Nat.le_of_ble_eq_true rfl)) (v14 hK hX (hI.1 _ m14)) rfl hl.1 rfl (Nat.le_of_ble_eq_true rfl) dL_areNumbers_145 ⟨Nat.zero_le _, Nat.zero_le _⟩ (fun S_71 r_72 hq H locs hX => ?_)
    refine lv_aload hM.1 hM.2.1 dL_areNumbers_148 (lv_at hl 4 rfl) ?_
    refine lv_iconst (v := (3 : Int32)) hM.1 hM.2.1 dL_areNumbers_150 (by decide) ?_
    have c_73 := hq.1
    replace hq := hq.2
    refine r_iald hM hK hX hI.2.2.2.2.1 (a18 0 0) c_73 dL_areNumbers_151 ?_
    refine lv_icmp_ne (tgt := 159) hM.1 hM.2.1 dL_areNumbers_152 (by decide) (fun c_74 => ?_) (fun c_74 => ?_)
    · replace hq := hq.1 c_74
      exact J159 S_71 hq _ _ _ hX (lv_sub hl [0, 1, 4] rfl)
    replace hq := hq.2 c_74
    refine lv_iconst (v := (1 : Int32)) hM.1 hM.2.1 dL_areNumbers_155 (by decide) ?_
    refine lv_goto (tgt := 160) hM.1 hM.2.1 dL_areNumbers_156 (by decide) ?_
    exact J160 S_71 (1 : Int32) hq _ _ _ hX (lv_sub hl [0, 1, 4] rfl)
  have J67 : ∀ (S : Mem) (w0 : Int32), vc_L_areNumbers_J67 Q S w0 → ∀ (H : Heap) (locs : List Loc) (ls : Array Slot), PW D ad cy (AW ad o sz) s.heap o S H locs → lv_has ls 11 [(0, .ref (ad 14 0 0)), (1, .ref (ad 15 0 0)), (2, .ref (ad 16 0 0)), (3, .ref (ad 17 0 0)), (4, .ref (ad 18 0 0))] → Wi D ad cy o sz Q p l e rmL_areNumbers s m [.ref (ad 14 0 0), .ref (ad 15 0 0), .ref (ad 16 0 0), .ref (ad 17 0 0), .ref (ad 18 0 0)] below meth c H locs (F0 m 67 ls [.int w0]) := by
    intro S w0 hq H locs ls hX hl
    unfold vc_L_areNumbers_J67 at hq
    refine lv_ldc hM.1 hM.2.1 hM.2.2.2.1 (hM.2.2.2.2 _ qn_RL_11) dL_areNumbers_67 ?_
    refine lv_goto (tgt := 80) hM.1 hM.2.1 dL_areNumbers_69 (by decide) ?_
    exact J80 S w0 (-999999 : Int32) hq _ _ _ hX (lv_sub hl [0, 1, 2, 3, 4] rfl)
  unfold vc_L_areNumbers at hq
  refine lv_aload_n hM.1 hM.2.1 dL_areNumbers_0 rfl (lv_at hl 1 rfl) ?_
  refine lv_aload_n hM.1 hM.2.1 dL_areNumbers_1 rfl (lv_at hl 2 rfl) ?_
  refine lv_aload_n hM.1 hM.2.1 dL_areNumbers_2 rfl (lv_at hl 3 rfl) ?_
  refine lv_aload hM.1 hM.2.1 dL_areNumbers_3 (lv_at hl 4 rfl) ?_
  refine cSi (As := [.ref (ad 15 0 0), .ref (ad 16 0 0), .ref (ad 17 0 0), .ref (ad 18 0 0)]) hM hK hX ⟨hI.1, hI.2.1, hI.2.2.1, hI.2.2.2.1, hI.2.2.2.2.1, trivial⟩ hA (met_L_mean l D ad cy S 0 hq) (kL_mean hM.2.2.2.2 ql_RL_24 (Nat.le_of_ble_eq_true rfl) (Nat.le_of_ble_eq_true rfl)) rfl hl.1 rfl (Nat.le_of_ble_eq_true rfl) dL_areNumbers_5 ⟨Nat.zero_le _, Nat.zero_le _⟩ (fun S_1 r_2 hq H locs hX => ?_)
  refine lv_istore (lv' := [(5, .int r_2), (0, .ref (ad 14 0 0)), (1, .ref (ad 15 0 0)), (2, .ref (ad 16 0 0)), (3, .ref (ad 17 0 0)), (4, .ref (ad 18 0 0))]) hM.1 hM.2.1 dL_areNumbers_8 hl (by decide) rfl (fun ls hl => ?_)
  refine lv_aload_n hM.1 hM.2.1 dL_areNumbers_10 rfl (lv_at hl 1 rfl) ?_
  refine lv_iconst (v := (0 : Int32)) hM.1 hM.2.1 dL_areNumbers_11 (by decide) ?_
  refine cVi (As := [.int (0 : Int32)]) hM hK hX ⟨hI.1, trivial⟩ hA (met_X6_count l D ad cy S_1 (0 : Int32) hq) (kX6_count hM.2.2.2.2 ql_RL_40 (Nat.le_of_ble_eq_true rfl) (Nat.le_of_ble_eq_true rfl)) (v14 hK hX (hI.1 _ m14)) rfl hl.1 rfl (Nat.le_of_ble_eq_true rfl) dL_areNumbers_12 ⟨Nat.zero_le _, Nat.zero_le _⟩ (fun S_3 r_4 hq H locs hX => ?_)
  refine lv_aload hM.1 hM.2.1 dL_areNumbers_15 (lv_at hl 5 rfl) ?_
  refine lv_iconst (v := (0 : Int32)) hM.1 hM.2.1 dL_areNumbers_17 (by decide) ?_
  have c_5 := hq.1
  replace hq := hq.2
  refine r_iald hM hK hX hI.2.2.2.2.1 (a18 0 0) c_5 dL_areNumbers_18 ?_
  refine lv_icmp_ne (tgt := 159) hM.1 hM.2.1 dL_areNumbers_19 (by decide) (fun c_6 => ?_) (fun c_6 => ?_)
  · replace hq := hq.1 c_6
    exact J159 S_3 hq _ _ _ hX (lv_sub hl [1, 2, 5] rfl)
  replace hq := hq.2 c_6
  refine lv_aload_n hM.1 hM.2.1 dL_areNumbers_22 rfl (lv_at hl 1 rfl) ?_
  refine lv_iconst (v := (2 : Int32)) hM.1 hM.2.1 dL_areNumbers_23 (by decide) ?_
  refine cVi (As := [.int (2 : Int32)]) hM hK hX ⟨hI.1, trivial⟩ hA (met_X6_count l D ad cy S_3 (2 : Int32) hq) (kX6_count hM.2.2.2.2 ql_RL_40 (Nat.le_of_ble_eq_true rfl) (Nat.le_of_ble_eq_true rfl)) (v14 hK hX (hI.1 _ m14)) rfl hl.1 rfl (Nat.le_of_ble_eq_true rfl) dL_areNumbers_24 ⟨Nat.zero_le _, Nat.zero_le _⟩ (fun S_43 r_44 hq H locs hX => ?_)
  refine lv_aload hM.1 hM.2.1 dL_areNumbers_27 (lv_at hl 5 rfl) ?_
  refine lv_iconst (v := (1 : Int32)) hM.1 hM.2.1 dL_areNumbers_29 (by decide) ?_
  have c_45 := hq.1
  replace hq := hq.2
  refine r_iald hM hK hX hI.2.2.2.2.1 (a18 0 0) c_45 dL_areNumbers_30 ?_
  refine lv_icmp_ne (tgt := 159) hM.1 hM.2.1 dL_areNumbers_31 (by decide) (fun c_46 => ?_) (fun c_46 => ?_)
  · replace hq := hq.1 c_46
    exact J159 S_43 hq _ _ _ hX (lv_sub hl [1, 2, 5] rfl)
  replace hq := hq.2 c_46
  refine lv_aload_n hM.1 hM.2.1 dL_areNumbers_34 rfl (lv_at hl 1 rfl) ?_
  refine lv_iconst (v := (5 : Int32)) hM.1 hM.2.1 dL_areNumbers_35 (by decide) ?_
  refine cVi (As := [.int (5 : Int32)]) hM hK hX ⟨hI.1, trivial⟩ hA (met_X6_count l D ad cy S_43 (5 : Int32) hq) (kX6_count hM.2.2.2.2 ql_RL_40 (Nat.le_of_ble_eq_true rfl) (Nat.le_of_ble_eq_true rfl)) (v14 hK hX (hI.1 _ m14)) rfl hl.1 rfl (Nat.le_of_ble_eq_true rfl) dL_areNumbers_36 ⟨Nat.zero_le _, Nat.zero_le _⟩ (fun S_47 r_48 hq H locs hX => ?_)
  refine lv_iload hM.1 hM.2.1 dL_areNumbers_39 (lv_at hl 0 rfl) ?_
  refine lv_icmp_ne (tgt := 159) hM.1 hM.2.1 dL_areNumbers_41 (by decide) (fun c_49 => ?_) (fun c_49 => ?_)
  · replace hq := hq.1 c_49
    exact J159 S_47 hq _ _ _ hX (lv_sub hl [1, 2, 5] rfl)
  replace hq := hq.2 c_49
  refine lv_aload_n hM.1 hM.2.1 dL_areNumbers_44 rfl (lv_at hl 1 rfl) ?_
  refine lv_bipush (v := (6 : Int32)) hM.1 hM.2.1 dL_areNumbers_45 (by decide) ?_
  refine cVi (As := [.int (6 : Int32)]) hM hK hX ⟨hI.1, trivial⟩ hA (met_X6_count l D ad cy S_47 (6 : Int32) hq) (kX6_count hM.2.2.2.2 ql_RL_40 (Nat.le_of_ble_eq_true rfl) (Nat.le_of_ble_eq_true rfl)) (v14 hK hX (hI.1 _ m14)) rfl hl.1 rfl (Nat.le_of_ble_eq_true rfl) dL_areNumbers_47 ⟨Nat.zero_le _, Nat.zero_le _⟩ (fun S_50 r_51 hq H locs hX => ?_)
  refine lv_iload hM.1 hM.2.1 dL_areNumbers_50 (lv_at hl 0 rfl) ?_
  refine lv_ldc hM.1 hM.2.1 hM.2.2.2.1 (hM.2.2.2.2 _ qn_RL_11) dL_areNumbers_52 ?_
  refine lv_icmp_eq (tgt := 67) hM.1 hM.2.1 dL_areNumbers_54 (by decide) (fun c_52 => ?_) (fun c_52 => ?_)
  · replace hq := hq.1 c_52
    exact J67 S_50 r_51 hq _ _ _ hX (lv_sub hl [1, 2, 3, 4, 5] rfl)
  replace hq := hq.2 c_52
  refine lv_aload hM.1 hM.2.1 dL_areNumbers_57 (lv_at hl 5 rfl) ?_
  refine lv_bipush (v := (14 : Int32)) hM.1 hM.2.1 dL_areNumbers_59 (by decide) ?_
  have c_75 := hq.1
  replace hq := hq.2
  refine r_iald hM hK hX hI.2.2.2.2.1 (a18 0 0) c_75 dL_areNumbers_61 ?_
  refine lv_ldc hM.1 hM.2.1 hM.2.2.2.1 (hM.2.2.2.2 _ qn_RL_11) dL_areNumbers_62 ?_
  refine lv_icmp_ne (tgt := 72) hM.1 hM.2.1 dL_areNumbers_64 (by decide) (fun c_76 => ?_) (fun c_76 => ?_)
  · replace hq := hq.1 c_76
    refine lv_iload hM.1 hM.2.1 dL_areNumbers_72 (lv_at hl 0 rfl) ?_
    refine lv_aload hM.1 hM.2.1 dL_areNumbers_74 (lv_at hl 5 rfl) ?_
    refine lv_bipush (v := (14 : Int32)) hM.1 hM.2.1 dL_areNumbers_76 (by decide) ?_
    have c_77 := hq.1
    replace hq := hq.2
    refine r_iald hM hK hX hI.2.2.2.2.1 (a18 0 0) c_77 dL_areNumbers_78 ?_
    refine lv_isub hM.1 hM.2.1 dL_areNumbers_79 ?_
    exact J80 S_50 r_51 (r_2 - (S_50 18 0 0 (14 : Int32).toNatClampNeg)) hq _ _ _ hX (lv_sub hl [1, 2, 3, 4, 5] rfl)
  replace hq := hq.2 c_76
  exact J67 S_50 r_51 hq _ _ _ hX (lv_sub hl [1, 2, 3, 4, 5] rfl)
