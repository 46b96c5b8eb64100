/-! THE CLAIM OUT OF ONE WALK OF THE LAW'S BODY. Your part is whole_start (and what it stands on); all else here is the same for every law, but numbers. -/
def R_law : String := "LateThermometersLaw"
def lw_P (b : Addr) (xs : List Int32) (args : Array Value) (s : State) : Prop := args = #[.ref b] ∧ s.IntsAt b xs ∧ xs.length ≤ 260 ∧ (Jvm.Cond.and given_1 narrow_1).before args s = true
/-- what a walk over the start with the record d0 says of its end, said of the start itself -/
theorem lw_closed {s t : State} {o : Outcome} {d0 : Drawn} {L : List Loc} {k n : Nat} (hd0 : s.drawn.sameBut d0 lw_cs) (hv : ∃ v, o = .returned v) (hW : (s.setDrawn d0).WarmedH t.vm) (hs : (s.setDrawn d0).sameButNew ({ t with vm := s.vm } : State) L k n) : State.butDraws s t lw_cs (fun t1 => Framed s o t1 L k n) := by
  have h2 : t.drawn = d0 := congrArg State.drawn hs.1
  refine ⟨⟨hv, hW, State.sameButNew.setDrawn hs s.drawn⟩, ?_, by decide⟩
  rw [h2]
  exact hd0
def lw_Q (_ : Array Value) (s : State) (o : Outcome) (t : State) : Prop := o = .returned (some (.int 1)) ∧ State.butDraws s t lw_cs (fun t1 => Framed s o t1 [] 600104 7301314)
def lw_Z (below : List Frame) (a : Array Value) (s : State) : State → Prop := fun t => ∃ o, t.status = .running ∧ Ended t below o ∧ lw_Q a s o t
/-- the law's own end, with 1 on the stack, nothing written that was there before, its room as the claim has it; d0: the record of draws at this point (at the entry s.drawn: begin with 'refine W.base ?_' and 'have hd0 := Drawn.sameBut.refl s.drawn lw_cs') -/
theorem lw_ret {p : Program} {l : Launch} {e : Env} {s : State} {m : MethodId} {below : List Frame} {meth : Method} {c : Code} {b : Nat} {d0 : Drawn} (hd0 : s.drawn.sameBut d0 lw_cs) (hx : p.tables.exec = Jvm.exec) (hb : c.code = code) (hr : meth.sig.returnType = ret) (hlocks : meth.locks = false) {pc : Nat} {H : Heap} {ls : Array Slot} (hdg : decode code pc = .ok (.ireturn, 1)) : W p l e room_1 (s.setDrawn d0) m #[Value.ref b] below meth c H [] 600104 7301314 (lw_Z below #[Value.ref b] s) (F0 m pc ls [.int 1]) := by
  intro T hT X
  obtain ⟨fs, hret, hrun, hended, hW, hframe⟩ := X.leave (v := some (.int 1)) (hlocks := hlocks) (fun h => by rw [hr] at h; cases h)
  have hmeth' : T.vm.method? m = some meth := X.method'
  refine ⟨T.setFrames fs, ?_, .returned (some (.int 1)), hrun, hended, rfl, lw_closed hd0 ⟨_, rfl⟩ hW hframe⟩
  jvm_step X.here [X.here.top, hx, hb, hdg, hmeth', hr, ret, narrow_b1]
  (try refine ⟨rfl, ?_⟩); (try refine ⟨rfl, ?_⟩)
  first | (intro acts; rw [hret _ acts rfl rfl rfl]) | rw [hret _ _ rfl rfl rfl]
  exact Steps.refl _
/-- what holds at the law's entry: the machine, the code, the tables' words (any of lw_tbl by 'hts w (by decide +kernel)'), the script of L ints xs at the cell b, what the Statement gives of the start (any of its parts by flat_of_before) -/
def lw_At (p : Program) (s : State) (m : MethodId) (meth : Method) (c : Code) (b L : Nat) (xs : Nat → Int32) : Prop :=
  p.tables.exec = Jvm.exec ∧ c.code = code ∧ meth.sig.returnType = ret ∧ c.maxLocals = 9 ∧ s.vm.findClass R_law = some m.cls ∧ (∀ w ∈ lw_tbl, w.before #[Value.ref b] s = true) ∧ va_X b L xs s s.heap ∧ b < s.heap.size ∧ meth.locks = false ∧ (Jvm.Cond.and given_1 narrow_1).before #[Value.ref b] s = true
set_option maxRecDepth 100000 in
set_option maxHeartbeats 4000000 in
theorem law_walk {p : Program} {l : Launch} {e : Env} {s : State} {m : MethodId} {args : Array Value} {below : List Frame} {meth : Method} {c : Code} {D : va_G} {ad : Adr} {cy : Nat → ClassId} {A : Nat → Prop} {b L : Nat} {xs : Nat → Int32} {Z : State → Prop} (hret : ∀ (H : Heap) (ls : Array Slot), W p l e room_1 s m args below meth c H [] 600104 7301314 Z (F0 m 335 ls [.int 1])) (hL : L ≤ 260) (hM : CallFix p m c cL_law 9 s args lw_all RL) (hK : KW D cy s) (hA : ∀ q, s.heap.size ≤ q → A q) (hAr : ∀ q, A q → s.heap.size ≤ q) (hXs : va_X b L xs s s.heap) (hbl : b < s.heap.size) (hbA : ¬ A b) (hI : IN [(15, 0, 0), (16, 0, 0), (17, 0, 0), (18, 0, 0)] oL) {cf : Int32 → Int32} (hcf : cf = cellF L xs) (S : Mem) (hq : vc_L_law cf S) (H : Heap) (locs : List Loc) (ls : Array Slot) (hX : PW D ad cy A s.heap oL S H locs) (hl : lv_has ls 9 [(5, .ref (ad 18 0 0)), (4, .ref (ad 17 0 0)), (3, .ref (ad 16 0 0)), (2, .ref (ad 15 0 0)), (1, .ref (ad 14 0 0)), (0, .ref b)]) : W p l e room_1 s m args below meth c H locs 500 4000 Z (F0 m 30 ls []) := by
  have L59 : ∀ {K : Mem → Prop} (hk : ∀ (S : Mem), K S → ∀ (H : Heap) (locs : List Loc) (ls : Array Slot), PW D ad cy A s.heap oL S H locs → lv_has ls 9 [(0, .ref b), (1, .ref (ad 14 0 0)), (2, .ref (ad 15 0 0)), (3, .ref (ad 16 0 0)), (4, .ref (ad 17 0 0)), (5, .ref (ad 18 0 0))] → W p l e room_1 s m args below meth c H locs 500 4000 Z (F0 m 79 ls [])), ∀ (n : Nat) (S : Mem) (y6 : Int32), vc_L_law_L59 K cf n S y6 → ∀ (H : Heap) (locs : List Loc) (ls : Array Slot), PW D ad cy A s.heap oL S H locs → lv_has ls 9 [(0, .ref b), (1, .ref (ad 14 0 0)), (2, .ref (ad 15 0 0)), (3, .ref (ad 16 0 0)), (4, .ref (ad 17 0 0)), (5, .ref (ad 18 0 0)), (6, .int y6)] → W p l e room_1 s m args below meth c H locs 500 4000 Z (F0 m 59 ls []) := by
    intro K hk n
    induction n with
    | zero =>
      intro S y6 hq
      rw [vc_L_law_L59] at hq
      exact hq.elim
    | succ n ih =>
      intro S y6 hq H locs ls hX hl
      rw [vc_L_law_L59] at hq
      refine lv_iload hM.1 hM.2.1 dL_law_59 (lv_at hl 6 rfl) ?_
      refine lv_iconst (v := (4 : Int32)) hM.1 hM.2.1 dL_law_61 (by decide) ?_
      refine lv_icmp_ge (tgt := 79) hM.1 hM.2.1 dL_law_62 (by decide) (fun c_13 => ?_) (fun c_13 => ?_)
      · replace hq := hq.1 c_13
        exact hk S hq _ _ _ hX (lv_sub hl [0, 1, 2, 3, 4, 5] rfl)
      replace hq := hq.2 c_13
      refine lv_aload hM.1 hM.2.1 dL_law_65 (lv_at hl 5 rfl) ?_
      refine lv_iconst (v := (4 : Int32)) hM.1 hM.2.1 dL_law_67 (by decide) ?_
      refine lv_iload hM.1 hM.2.1 dL_law_68 (lv_at hl 6 rfl) ?_
      refine lv_iadd hM.1 hM.2.1 dL_law_70 ?_
      refine lv_iconst (v := (1 : Int32)) hM.1 hM.2.1 dL_law_71 (by decide) ?_
      have c_15 := hq.1
      replace hq := hq.2
      refine r_iast hM hK hX hI.2.2.2.2.1 (a18 0 0) c_15 dL_law_72 (fun S_14 e_16 H locs hX => ?_)
      replace hq := hq S_14 e_16
      refine lv_iinc (v := (y6 + (1 : Int32))) (lv' := [(6, .int (y6 + (1 : Int32))), (0, .ref b), (1, .ref (ad 14 0 0)), (2, .ref (ad 15 0 0)), (3, .ref (ad 16 0 0)), (4, .ref (ad 17 0 0)), (5, .ref (ad 18 0 0))]) hM.1 hM.2.1 dL_law_73 hl (k := 6) rfl rfl (by decide) rfl (fun ls hl => ?_)
      refine lv_goto (tgt := 59) hM.1 hM.2.1 dL_law_76 (by decide) ?_
      exact ih S_14 (y6 + (1 : Int32)) hq _ _ _ hX (lv_sub hl [1, 2, 3, 4, 5, 6, 0] rfl)
  have L130 : ∀ (n k0 n0 : Nat), k0 + 4 * n ≤ 600104 → n0 + 148 * n ≤ 7301314 → ∀ (S : Mem) (y6 : Int32) (y7 : Int32), vc_L_law_L130 cf n S y6 y7 → ∀ (H : Heap) (locs : List Loc) (ls : Array Slot), PW D ad cy A s.heap oL S H locs → lv_has ls 9 [(0, .ref b), (1, .ref (ad 14 0 0)), (2, .ref (ad 15 0 0)), (3, .ref (ad 16 0 0)), (4, .ref (ad 17 0 0)), (5, .ref (ad 18 0 0)), (6, .int y6), (7, .int y7)] → W p l e room_1 s m args below meth c H locs k0 n0 Z (F0 m 130 ls []) := by
    intro n
    induction n with
    | zero =>
      intro k0 n0 hk0 hn0 S y6 y7 hq
      rw [vc_L_law_L130] at hq
      exact hq.elim
    | succ n ih =>
      intro k0 n0 hk0 hn0 S y6 y7 hq H locs ls hX hl
      rw [vc_L_law_L130] at hq
      refine lv_iload hM.1 hM.2.1 dL_law_130 (lv_at hl 7 rfl) ?_
      refine lv_bipush (v := (40 : Int32)) hM.1 hM.2.1 dL_law_132 (by decide) ?_
      refine lv_icmp_ge (tgt := 333) hM.1 hM.2.1 dL_law_134 (by decide) (fun c_21 => ?_) (fun c_21 => ?_)
      · replace hq := hq.1 c_21
        refine lv_iload hM.1 hM.2.1 dL_law_333 (lv_at hl 6 rfl) ?_
        refine va_forget (fun q hq => hAr _ (hX.2.2.2.2 q hq)) ?_
        refine W.widen (k := 600104) (n := 7301314) (by omega) (by omega) ?_
        rw [hq]
        exact hret _ _
      replace hq := hq.2 c_21
      refine lv_iload hM.1 hM.2.1 dL_law_137 (lv_at hl 6 rfl) ?_
      refine lv_if_eq (tgt := 333) hM.1 hM.2.1 dL_law_139 (by decide) (fun c_22 => ?_) (fun c_22 => ?_)
      · replace hq := hq.1 c_22
        refine lv_iload hM.1 hM.2.1 dL_law_333 (lv_at hl 6 rfl) ?_
        refine va_forget (fun q hq => hAr _ (hX.2.2.2.2 q hq)) ?_
        refine W.widen (k := 600104) (n := 7301314) (by omega) (by omega) ?_
        rw [hq]
        exact hret _ _
      replace hq := hq.2 c_22
      refine lv_aload_n hM.1 hM.2.1 dL_law_142 rfl (lv_at hl 0 rfl) ?_
      refine lv_iconst (v := (1 : Int32)) hM.1 hM.2.1 dL_law_143 (by decide) ?_
      refine lv_iload hM.1 hM.2.1 dL_law_144 (lv_at hl 7 rfl) ?_
      refine lv_iadd hM.1 hM.2.1 dL_law_146 ?_
      have c_88 := hq.1
      replace hq := hq.2
      refine c_cell hM hX hA hXs hbl hbA hL hcf (met_L_cell l c_88 hL) (kL_cell hM.2.2.2.2 ql_RL_123 (Nat.le_of_ble_eq_true rfl) (Nat.le_of_ble_eq_true rfl)) hl.1 rfl (Nat.le_of_ble_eq_true rfl) dL_law_147 ⟨by show _ ≤ 600104; omega, by show _ ≤ 7301314; omega⟩ (fun H locs hX => ?_)
      refine lv_istore (lv' := [(8, .int (cf ((1 : Int32) + y7))), (0, .ref b), (1, .ref (ad 14 0 0)), (2, .ref (ad 15 0 0)), (3, .ref (ad 16 0 0)), (4, .ref (ad 17 0 0)), (5, .ref (ad 18 0 0)), (6, .int y6), (7, .int y7)]) hM.1 hM.2.1 dL_law_150 hl (by decide) rfl (fun ls hl => ?_)
      refine lv_aload_n hM.1 hM.2.1 dL_law_152 rfl (lv_at hl 2 rfl) ?_
      refine lv_aload_n hM.1 hM.2.1 dL_law_153 rfl (lv_at hl 3 rfl) ?_
      refine lv_aload_n hM.1 hM.2.1 dL_law_154 rfl (lv_at hl 4 rfl) ?_
      refine lv_aload hM.1 hM.2.1 dL_law_155 (lv_at hl 5 rfl) ?_
      refine lv_aload hM.1 hM.2.1 dL_law_157 (lv_at hl 6 rfl) ?_
      refine lv_iload hM.1 hM.2.1 dL_law_159 (lv_at hl 8 rfl) ?_
      refine lv_iconst (v := (4 : Int32)) hM.1 hM.2.1 dL_law_161 (by decide) ?_
      refine lv_icmp_ge (tgt := 169) hM.1 hM.2.1 dL_law_162 (by decide) (fun c_23 => ?_) (fun c_23 => ?_)
      · replace hq := hq.1 c_23
        refine lv_iload hM.1 hM.2.1 dL_law_169 (lv_at hl 0 rfl) ?_
        refine lv_bipush (v := (18 : Int32)) hM.1 hM.2.1 dL_law_171 (by decide) ?_
        refine lv_ishr hM.1 hM.2.1 dL_law_173 ?_
        refine lv_bipush (v := (15 : Int32)) hM.1 hM.2.1 dL_law_174 (by decide) ?_
        refine cSi (As := [.int ((cf ((1 : Int32) + y7)) >>> ((18 : Int32) &&& 31)), .int (15 : Int32)]) hM hK hX ⟨hI.1, trivial⟩ hA (met_L_low l D ad cy S ((cf ((1 : Int32) + y7)) >>> ((18 : Int32) &&& 31)) (15 : Int32) hq) (kL_low hM.2.2.2.2 ql_RL_86 (Nat.le_of_ble_eq_true rfl) (Nat.le_of_ble_eq_true rfl)) rfl hl.1 rfl (Nat.le_of_ble_eq_true rfl) dL_law_176 ⟨by show _ ≤ 600104; omega, by show _ ≤ 7301314; omega⟩ (fun S_24 r_25 hq H locs hX => ?_)
        refine lv_iload hM.1 hM.2.1 dL_law_179 (lv_at hl 0 rfl) ?_
        refine cSi (As := [.ref (ad 14 0 0), .ref (ad 15 0 0), .ref (ad 16 0 0), .ref (ad 17 0 0), .ref (ad 18 0 0), .int r_25, .int (cf ((1 : Int32) + y7))]) hM hK hX ⟨hI.1, hI.2.1, hI.2.2.1, hI.2.2.2.1, hI.2.2.2.2.1, trivial⟩ hA (met_L_acts l D ad cy S_24 r_25 (cf ((1 : Int32) + y7)) hq) (kL_acts hM.2.2.2.2 ql_RL_127 (Nat.le_of_ble_eq_true rfl) (Nat.le_of_ble_eq_true rfl)) rfl hl.1 rfl (Nat.le_of_ble_eq_true rfl) dL_law_181 ⟨by show _ ≤ 600104; omega, by show _ ≤ 7301314; omega⟩ (fun S_26 r_27 hq H locs hX => ?_)
        refine lv_if_eq (tgt := 324) hM.1 hM.2.1 dL_law_184 (by decide) (fun c_28 => ?_) (fun c_28 => ?_)
        · replace hq := hq.1 c_28
          refine lv_iconst (v := (0 : Int32)) hM.1 hM.2.1 dL_law_324 (by decide) ?_
          refine lv_istore (lv' := [(6, .int (0 : Int32)), (8, .int (cf ((1 : Int32) + y7))), (0, .ref b), (1, .ref (ad 14 0 0)), (2, .ref (ad 15 0 0)), (3, .ref (ad 16 0 0)), (4, .ref (ad 17 0 0)), (5, .ref (ad 18 0 0)), (7, .int y7)]) hM.1 hM.2.1 dL_law_325 hl (by decide) rfl (fun ls hl => ?_)
          refine lv_iinc (v := (y7 + (1 : Int32))) (lv' := [(7, .int (y7 + (1 : Int32))), (6, .int (0 : Int32)), (8, .int (cf ((1 : Int32) + y7))), (0, .ref b), (1, .ref (ad 14 0 0)), (2, .ref (ad 15 0 0)), (3, .ref (ad 16 0 0)), (4, .ref (ad 17 0 0)), (5, .ref (ad 18 0 0))]) hM.1 hM.2.1 dL_law_327 hl (k := 8) rfl rfl (by decide) rfl (fun ls hl => ?_)
          refine lv_goto (tgt := 130) hM.1 hM.2.1 dL_law_330 (by decide) ?_
          refine W.widen (k := k0 + 4) (n := n0 + 148) (by omega) (by omega) ?_
          exact ih (k0 + 4) (n0 + 148) (by omega) (by omega) S_26 (0 : Int32) (y7 + (1 : Int32)) hq _ _ _ hX (lv_sub hl [3, 4, 5, 6, 7, 8, 1, 0] rfl)
        replace hq := hq.2 c_28
        refine lv_aload_n hM.1 hM.2.1 dL_law_187 rfl (lv_at hl 2 rfl) ?_
        refine lv_aload_n hM.1 hM.2.1 dL_law_188 rfl (lv_at hl 3 rfl) ?_
        refine lv_aload_n hM.1 hM.2.1 dL_law_189 rfl (lv_at hl 4 rfl) ?_
        refine lv_aload hM.1 hM.2.1 dL_law_190 (lv_at hl 5 rfl) ?_
        refine lv_aload hM.1 hM.2.1 dL_law_192 (lv_at hl 6 rfl) ?_
        refine cSi (As := [.ref (ad 14 0 0), .ref (ad 15 0 0), .ref (ad 16 0 0), .ref (ad 17 0 0), .ref (ad 18 0 0)]) hM hK hX ⟨hI.1, hI.2.1, hI.2.2.1, hI.2.2.2.1, hI.2.2.2.2.1, trivial⟩ hA (met_L_areThermometers l D ad cy S_26 hq) (kL_areThermometers hM.2.2.2.2 ql_RL_116 (Nat.le_of_ble_eq_true rfl) (Nat.le_of_ble_eq_true rfl)) rfl hl.1 rfl (Nat.le_of_ble_eq_true rfl) dL_law_194 ⟨by show _ ≤ 600104; omega, by show _ ≤ 7301314; omega⟩ (fun S_29 r_30 hq H locs hX => ?_)
        refine lv_if_eq (tgt := 324) hM.1 hM.2.1 dL_law_197 (by decide) (fun c_31 => ?_) (fun c_31 => ?_)
        · replace hq := hq.1 c_31
          refine lv_iconst (v := (0 : Int32)) hM.1 hM.2.1 dL_law_324 (by decide) ?_
          refine lv_istore (lv' := [(6, .int (0 : Int32)), (8, .int (cf ((1 : Int32) + y7))), (0, .ref b), (1, .ref (ad 14 0 0)), (2, .ref (ad 15 0 0)), (3, .ref (ad 16 0 0)), (4, .ref (ad 17 0 0)), (5, .ref (ad 18 0 0)), (7, .int y7)]) hM.1 hM.2.1 dL_law_325 hl (by decide) rfl (fun ls hl => ?_)
          refine lv_iinc (v := (y7 + (1 : Int32))) (lv' := [(7, .int (y7 + (1 : Int32))), (6, .int (0 : Int32)), (8, .int (cf ((1 : Int32) + y7))), (0, .ref b), (1, .ref (ad 14 0 0)), (2, .ref (ad 15 0 0)), (3, .ref (ad 16 0 0)), (4, .ref (ad 17 0 0)), (5, .ref (ad 18 0 0))]) hM.1 hM.2.1 dL_law_327 hl (k := 8) rfl rfl (by decide) rfl (fun ls hl => ?_)
          refine lv_goto (tgt := 130) hM.1 hM.2.1 dL_law_330 (by decide) ?_
          refine W.widen (k := k0 + 4) (n := n0 + 148) (by omega) (by omega) ?_
          exact ih (k0 + 4) (n0 + 148) (by omega) (by omega) S_29 (0 : Int32) (y7 + (1 : Int32)) hq _ _ _ hX (lv_sub hl [3, 4, 5, 6, 7, 8, 1, 0] rfl)
        replace hq := hq.2 c_31
        refine lv_aload_n hM.1 hM.2.1 dL_law_200 rfl (lv_at hl 2 rfl) ?_
        refine lv_aload_n hM.1 hM.2.1 dL_law_201 rfl (lv_at hl 3 rfl) ?_
        refine lv_aload_n hM.1 hM.2.1 dL_law_202 rfl (lv_at hl 4 rfl) ?_
        refine lv_aload hM.1 hM.2.1 dL_law_203 (lv_at hl 5 rfl) ?_
        refine lv_aload hM.1 hM.2.1 dL_law_205 (lv_at hl 6 rfl) ?_
        refine cSi (As := [.ref (ad 14 0 0), .ref (ad 15 0 0), .ref (ad 16 0 0), .ref (ad 17 0 0), .ref (ad 18 0 0)]) hM hK hX ⟨hI.1, hI.2.1, hI.2.2.1, hI.2.2.2.1, hI.2.2.2.2.1, trivial⟩ hA (met_L_areNumbers l D ad cy S_29 hq) (kL_areNumbers hM.2.2.2.2 ql_RL_120 (Nat.le_of_ble_eq_true rfl) (Nat.le_of_ble_eq_true rfl)) rfl hl.1 rfl (Nat.le_of_ble_eq_true rfl) dL_law_207 ⟨by show _ ≤ 600104; omega, by show _ ≤ 7301314; omega⟩ (fun S_32 r_33 hq H locs hX => ?_)
        refine lv_if_eq (tgt := 324) hM.1 hM.2.1 dL_law_210 (by decide) (fun c_34 => ?_) (fun c_34 => ?_)
        · replace hq := hq.1 c_34
          refine lv_iconst (v := (0 : Int32)) hM.1 hM.2.1 dL_law_324 (by decide) ?_
          refine lv_istore (lv' := [(6, .int (0 : Int32)), (8, .int (cf ((1 : Int32) + y7))), (0, .ref b), (1, .ref (ad 14 0 0)), (2, .ref (ad 15 0 0)), (3, .ref (ad 16 0 0)), (4, .ref (ad 17 0 0)), (5, .ref (ad 18 0 0)), (7, .int y7)]) hM.1 hM.2.1 dL_law_325 hl (by decide) rfl (fun ls hl => ?_)
          refine lv_iinc (v := (y7 + (1 : Int32))) (lv' := [(7, .int (y7 + (1 : Int32))), (6, .int (0 : Int32)), (8, .int (cf ((1 : Int32) + y7))), (0, .ref b), (1, .ref (ad 14 0 0)), (2, .ref (ad 15 0 0)), (3, .ref (ad 16 0 0)), (4, .ref (ad 17 0 0)), (5, .ref (ad 18 0 0))]) hM.1 hM.2.1 dL_law_327 hl (k := 8) rfl rfl (by decide) rfl (fun ls hl => ?_)
          refine lv_goto (tgt := 130) hM.1 hM.2.1 dL_law_330 (by decide) ?_
          refine W.widen (k := k0 + 4) (n := n0 + 148) (by omega) (by omega) ?_
          exact ih (k0 + 4) (n0 + 148) (by omega) (by omega) S_32 (0 : Int32) (y7 + (1 : Int32)) hq _ _ _ hX (lv_sub hl [3, 4, 5, 6, 7, 8, 1, 0] rfl)
        replace hq := hq.2 c_34
        refine lv_aload_n hM.1 hM.2.1 dL_law_213 rfl (lv_at hl 2 rfl) ?_
        refine lv_aload_n hM.1 hM.2.1 dL_law_214 rfl (lv_at hl 3 rfl) ?_
        refine lv_aload_n hM.1 hM.2.1 dL_law_215 rfl (lv_at hl 4 rfl) ?_
        refine lv_aload hM.1 hM.2.1 dL_law_216 (lv_at hl 5 rfl) ?_
        refine lv_aload hM.1 hM.2.1 dL_law_218 (lv_at hl 6 rfl) ?_
        refine lv_iload hM.1 hM.2.1 dL_law_220 (lv_at hl 0 rfl) ?_
        refine lv_iconst (v := (3 : Int32)) hM.1 hM.2.1 dL_law_222 (by decide) ?_
        refine lv_ishr hM.1 hM.2.1 dL_law_223 ?_
        refine lv_iconst (v := (2 : Int32)) hM.1 hM.2.1 dL_law_224 (by decide) ?_
        refine cSi (As := [.int ((cf ((1 : Int32) + y7)) >>> ((3 : Int32) &&& 31)), .int (2 : Int32)]) hM hK hX ⟨hI.1, trivial⟩ hA (met_L_low l D ad cy S_32 ((cf ((1 : Int32) + y7)) >>> ((3 : Int32) &&& 31)) (2 : Int32) hq) (kL_low hM.2.2.2.2 ql_RL_86 (Nat.le_of_ble_eq_true rfl) (Nat.le_of_ble_eq_true rfl)) rfl hl.1 rfl (Nat.le_of_ble_eq_true rfl) dL_law_225 ⟨by show _ ≤ 600104; omega, by show _ ≤ 7301314; omega⟩ (fun S_35 r_36 hq H locs hX => ?_)
        refine lv_iload hM.1 hM.2.1 dL_law_228 (lv_at hl 0 rfl) ?_
        refine lv_iconst (v := (5 : Int32)) hM.1 hM.2.1 dL_law_230 (by decide) ?_
        refine lv_ishr hM.1 hM.2.1 dL_law_231 ?_
        refine lv_sipush (v := (6000 : Int32)) hM.1 hM.2.1 dL_law_232 (by decide) ?_
        refine cSi (As := [.int ((cf ((1 : Int32) + y7)) >>> ((5 : Int32) &&& 31)), .int (6000 : Int32)]) hM hK hX ⟨hI.1, trivial⟩ hA (met_L_low l D ad cy S_35 ((cf ((1 : Int32) + y7)) >>> ((5 : Int32) &&& 31)) (6000 : Int32) hq) (kL_low hM.2.2.2.2 ql_RL_86 (Nat.le_of_ble_eq_true rfl) (Nat.le_of_ble_eq_true rfl)) rfl hl.1 rfl (Nat.le_of_ble_eq_true rfl) dL_law_235 ⟨by show _ ≤ 600104; omega, by show _ ≤ 7301314; omega⟩ (fun S_37 r_38 hq H locs hX => ?_)
        refine lv_sipush (v := (3000 : Int32)) hM.1 hM.2.1 dL_law_238 (by decide) ?_
        refine lv_isub hM.1 hM.2.1 dL_law_241 ?_
        refine lv_iload hM.1 hM.2.1 dL_law_242 (lv_at hl 0 rfl) ?_
        refine lv_bipush (v := (8 : Int32)) hM.1 hM.2.1 dL_law_244 (by decide) ?_
        refine lv_ishr hM.1 hM.2.1 dL_law_246 ?_
        refine lv_sipush (v := (6000 : Int32)) hM.1 hM.2.1 dL_law_247 (by decide) ?_
        refine cSi (As := [.int ((cf ((1 : Int32) + y7)) >>> ((8 : Int32) &&& 31)), .int (6000 : Int32)]) hM hK hX ⟨hI.1, trivial⟩ hA (met_L_low l D ad cy S_37 ((cf ((1 : Int32) + y7)) >>> ((8 : Int32) &&& 31)) (6000 : Int32) hq) (kL_low hM.2.2.2.2 ql_RL_86 (Nat.le_of_ble_eq_true rfl) (Nat.le_of_ble_eq_true rfl)) rfl hl.1 rfl (Nat.le_of_ble_eq_true rfl) dL_law_250 ⟨by show _ ≤ 600104; omega, by show _ ≤ 7301314; omega⟩ (fun S_39 r_40 hq H locs hX => ?_)
        refine lv_sipush (v := (1000 : Int32)) hM.1 hM.2.1 dL_law_253 (by decide) ?_
        refine lv_isub hM.1 hM.2.1 dL_law_256 ?_
        refine cSi (As := [.ref (ad 14 0 0), .ref (ad 15 0 0), .ref (ad 16 0 0), .ref (ad 17 0 0), .ref (ad 18 0 0), .int r_36, .int (r_38 - (3000 : Int32)), .int (r_40 - (1000 : Int32))]) hM hK hX ⟨hI.1, hI.2.1, hI.2.2.1, hI.2.2.2.1, hI.2.2.2.2.1, trivial⟩ hA (met_L_areRanked l D ad cy S_39 r_36 (r_38 - (3000 : Int32)) (r_40 - (1000 : Int32)) hq) (kL_areRanked hM.2.2.2.2 ql_RL_131 (Nat.le_of_ble_eq_true rfl) (Nat.le_of_ble_eq_true rfl)) rfl hl.1 rfl (Nat.le_of_ble_eq_true rfl) dL_law_257 ⟨by show _ ≤ 600104; omega, by show _ ≤ 7301314; omega⟩ (fun S_41 r_42 hq H locs hX => ?_)
        refine lv_if_eq (tgt := 324) hM.1 hM.2.1 dL_law_260 (by decide) (fun c_43 => ?_) (fun c_43 => ?_)
        · replace hq := hq.1 c_43
          refine lv_iconst (v := (0 : Int32)) hM.1 hM.2.1 dL_law_324 (by decide) ?_
          refine lv_istore (lv' := [(6, .int (0 : Int32)), (8, .int (cf ((1 : Int32) + y7))), (0, .ref b), (1, .ref (ad 14 0 0)), (2, .ref (ad 15 0 0)), (3, .ref (ad 16 0 0)), (4, .ref (ad 17 0 0)), (5, .ref (ad 18 0 0)), (7, .int y7)]) hM.1 hM.2.1 dL_law_325 hl (by decide) rfl (fun ls hl => ?_)
          refine lv_iinc (v := (y7 + (1 : Int32))) (lv' := [(7, .int (y7 + (1 : Int32))), (6, .int (0 : Int32)), (8, .int (cf ((1 : Int32) + y7))), (0, .ref b), (1, .ref (ad 14 0 0)), (2, .ref (ad 15 0 0)), (3, .ref (ad 16 0 0)), (4, .ref (ad 17 0 0)), (5, .ref (ad 18 0 0))]) hM.1 hM.2.1 dL_law_327 hl (k := 8) rfl rfl (by decide) rfl (fun ls hl => ?_)
          refine lv_goto (tgt := 130) hM.1 hM.2.1 dL_law_330 (by decide) ?_
          refine W.widen (k := k0 + 4) (n := n0 + 148) (by omega) (by omega) ?_
          exact ih (k0 + 4) (n0 + 148) (by omega) (by omega) S_41 (0 : Int32) (y7 + (1 : Int32)) hq _ _ _ hX (lv_sub hl [3, 4, 5, 6, 7, 8, 1, 0] rfl)
        replace hq := hq.2 c_43
        refine lv_aload_n hM.1 hM.2.1 dL_law_263 rfl (lv_at hl 2 rfl) ?_
        refine lv_aload_n hM.1 hM.2.1 dL_law_264 rfl (lv_at hl 3 rfl) ?_
        refine lv_aload_n hM.1 hM.2.1 dL_law_265 rfl (lv_at hl 4 rfl) ?_
        refine lv_aload hM.1 hM.2.1 dL_law_266 (lv_at hl 5 rfl) ?_
        refine lv_aload hM.1 hM.2.1 dL_law_268 (lv_at hl 6 rfl) ?_
        refine lv_iload hM.1 hM.2.1 dL_law_270 (lv_at hl 0 rfl) ?_
        refine lv_iconst (v := (4 : Int32)) hM.1 hM.2.1 dL_law_272 (by decide) ?_
        refine lv_ishr hM.1 hM.2.1 dL_law_273 ?_
        refine lv_aload hM.1 hM.2.1 dL_law_274 (lv_at hl 6 rfl) ?_
        refine lv_bipush (v := (15 : Int32)) hM.1 hM.2.1 dL_law_276 (by decide) ?_
        have c_44 := hq.1
        replace hq := hq.2
        refine r_iald hM hK hX hI.2.2.2.2.1 (a18 0 0) c_44 dL_law_278 ?_
        refine cSi (As := [.int ((cf ((1 : Int32) + y7)) >>> ((4 : Int32) &&& 31)), .int (S_41 18 0 0 (15 : Int32).toNatClampNeg)]) hM hK hX ⟨hI.1, trivial⟩ hA (met_L_low l D ad cy S_41 ((cf ((1 : Int32) + y7)) >>> ((4 : Int32) &&& 31)) (S_41 18 0 0 (15 : Int32).toNatClampNeg) hq) (kL_low hM.2.2.2.2 ql_RL_86 (Nat.le_of_ble_eq_true rfl) (Nat.le_of_ble_eq_true rfl)) rfl hl.1 rfl (Nat.le_of_ble_eq_true rfl) dL_law_279 ⟨by show _ ≤ 600104; omega, by show _ ≤ 7301314; omega⟩ (fun S_45 r_46 hq H locs hX => ?_)
        refine cSi (As := [.ref (ad 14 0 0), .ref (ad 15 0 0), .ref (ad 16 0 0), .ref (ad 17 0 0), .ref (ad 18 0 0), .int r_46]) hM hK hX ⟨hI.1, hI.2.1, hI.2.2.1, hI.2.2.2.1, hI.2.2.2.2.1, trivial⟩ hA (met_L_wouldOne l D ad cy S_45 r_46 hq) (kL_wouldOne hM.2.2.2.2 ql_RL_135 (Nat.le_of_ble_eq_true rfl) (Nat.le_of_ble_eq_true rfl)) rfl hl.1 rfl (Nat.le_of_ble_eq_true rfl) dL_law_282 ⟨by show _ ≤ 600104; omega, by show _ ≤ 7301314; omega⟩ (fun S_47 r_48 hq H locs hX => ?_)
        refine lv_if_eq (tgt := 324) hM.1 hM.2.1 dL_law_285 (by decide) (fun c_49 => ?_) (fun c_49 => ?_)
        · replace hq := hq.1 c_49
          refine lv_iconst (v := (0 : Int32)) hM.1 hM.2.1 dL_law_324 (by decide) ?_
          refine lv_istore (lv' := [(6, .int (0 : Int32)), (8, .int (cf ((1 : Int32) + y7))), (0, .ref b), (1, .ref (ad 14 0 0)), (2, .ref (ad 15 0 0)), (3, .ref (ad 16 0 0)), (4, .ref (ad 17 0 0)), (5, .ref (ad 18 0 0)), (7, .int y7)]) hM.1 hM.2.1 dL_law_325 hl (by decide) rfl (fun ls hl => ?_)
          refine lv_iinc (v := (y7 + (1 : Int32))) (lv' := [(7, .int (y7 + (1 : Int32))), (6, .int (0 : Int32)), (8, .int (cf ((1 : Int32) + y7))), (0, .ref b), (1, .ref (ad 14 0 0)), (2, .ref (ad 15 0 0)), (3, .ref (ad 16 0 0)), (4, .ref (ad 17 0 0)), (5, .ref (ad 18 0 0))]) hM.1 hM.2.1 dL_law_327 hl (k := 8) rfl rfl (by decide) rfl (fun ls hl => ?_)
          refine lv_goto (tgt := 130) hM.1 hM.2.1 dL_law_330 (by decide) ?_
          refine W.widen (k := k0 + 4) (n := n0 + 148) (by omega) (by omega) ?_
          exact ih (k0 + 4) (n0 + 148) (by omega) (by omega) S_47 (0 : Int32) (y7 + (1 : Int32)) hq _ _ _ hX (lv_sub hl [3, 4, 5, 6, 7, 8, 1, 0] rfl)
        replace hq := hq.2 c_49
        refine lv_iload hM.1 hM.2.1 dL_law_288 (lv_at hl 8 rfl) ?_
        refine lv_iconst (v := (2 : Int32)) hM.1 hM.2.1 dL_law_290 (by decide) ?_
        have c_50 := hq.1
        replace hq := hq.2
        refine lv_irem hM.1 hM.2.1 dL_law_291 c_50 ?_
        refine lv_if_eq (tgt := 320) hM.1 hM.2.1 dL_law_292 (by decide) (fun c_51 => ?_) (fun c_51 => ?_)
        · replace hq := hq.1 c_51
          refine lv_iconst (v := (1 : Int32)) hM.1 hM.2.1 dL_law_320 (by decide) ?_
          refine lv_goto (tgt := 325) hM.1 hM.2.1 dL_law_321 (by decide) ?_
          refine lv_istore (lv' := [(6, .int (1 : Int32)), (8, .int (cf ((1 : Int32) + y7))), (0, .ref b), (1, .ref (ad 14 0 0)), (2, .ref (ad 15 0 0)), (3, .ref (ad 16 0 0)), (4, .ref (ad 17 0 0)), (5, .ref (ad 18 0 0)), (7, .int y7)]) hM.1 hM.2.1 dL_law_325 hl (by decide) rfl (fun ls hl => ?_)
          refine lv_iinc (v := (y7 + (1 : Int32))) (lv' := [(7, .int (y7 + (1 : Int32))), (6, .int (1 : Int32)), (8, .int (cf ((1 : Int32) + y7))), (0, .ref b), (1, .ref (ad 14 0 0)), (2, .ref (ad 15 0 0)), (3, .ref (ad 16 0 0)), (4, .ref (ad 17 0 0)), (5, .ref (ad 18 0 0))]) hM.1 hM.2.1 dL_law_327 hl (k := 8) rfl rfl (by decide) rfl (fun ls hl => ?_)
          refine lv_goto (tgt := 130) hM.1 hM.2.1 dL_law_330 (by decide) ?_
          refine W.widen (k := k0 + 4) (n := n0 + 148) (by omega) (by omega) ?_
          exact ih (k0 + 4) (n0 + 148) (by omega) (by omega) S_47 (1 : Int32) (y7 + (1 : Int32)) hq _ _ _ hX (lv_sub hl [3, 4, 5, 6, 7, 8, 1, 0] rfl)
        replace hq := hq.2 c_51
        refine lv_aload_n hM.1 hM.2.1 dL_law_295 rfl (lv_at hl 2 rfl) ?_
        refine lv_aload_n hM.1 hM.2.1 dL_law_296 rfl (lv_at hl 3 rfl) ?_
        refine lv_aload_n hM.1 hM.2.1 dL_law_297 rfl (lv_at hl 4 rfl) ?_
        refine lv_aload hM.1 hM.2.1 dL_law_298 (lv_at hl 5 rfl) ?_
        refine lv_aload hM.1 hM.2.1 dL_law_300 (lv_at hl 6 rfl) ?_
        refine lv_iconst (v := (1 : Int32)) hM.1 hM.2.1 dL_law_302 (by decide) ?_
        refine lv_iload hM.1 hM.2.1 dL_law_303 (lv_at hl 0 rfl) ?_
        refine lv_bipush (v := (7 : Int32)) hM.1 hM.2.1 dL_law_305 (by decide) ?_
        refine lv_ishr hM.1 hM.2.1 dL_law_307 ?_
        refine lv_bipush (v := (48 : Int32)) hM.1 hM.2.1 dL_law_308 (by decide) ?_
        refine cSi (As := [.int ((cf ((1 : Int32) + y7)) >>> ((7 : Int32) &&& 31)), .int (48 : Int32)]) hM hK hX ⟨hI.1, trivial⟩ hA (met_L_low l D ad cy S_47 ((cf ((1 : Int32) + y7)) >>> ((7 : Int32) &&& 31)) (48 : Int32) hq) (kL_low hM.2.2.2.2 ql_RL_86 (Nat.le_of_ble_eq_true rfl) (Nat.le_of_ble_eq_true rfl)) rfl hl.1 rfl (Nat.le_of_ble_eq_true rfl) dL_law_310 ⟨by show _ ≤ 600104; omega, by show _ ≤ 7301314; omega⟩ (fun S_52 r_53 hq H locs hX => ?_)
        refine lv_iadd hM.1 hM.2.1 dL_law_313 ?_
        refine cSw (As := [.ref (ad 14 0 0), .ref (ad 15 0 0), .ref (ad 16 0 0), .ref (ad 17 0 0), .ref (ad 18 0 0), .int ((1 : Int32) + r_53)]) hM hK hX hA (met_L_would l D ad cy S_52 ((1 : Int32) + r_53) hq) (kL_would hM.2.2.2.2 ql_RL_139 (Nat.le_of_ble_eq_true rfl) (Nat.le_of_ble_eq_true rfl)) rfl hl.1 rfl (Nat.le_of_ble_eq_true rfl) dL_law_314 ⟨by show _ ≤ 600104; omega, by show _ ≤ 7301314; omega⟩ (fun S_54 r_55 hq H locs hX => ?_)
        refine lv_if_eq (tgt := 324) hM.1 hM.2.1 dL_law_317 (by decide) (fun c_56 => ?_) (fun c_56 => ?_)
        · replace hq := hq.1 c_56
          refine lv_iconst (v := (0 : Int32)) hM.1 hM.2.1 dL_law_324 (by decide) ?_
          refine lv_istore (lv' := [(6, .int (0 : Int32)), (8, .int (cf ((1 : Int32) + y7))), (0, .ref b), (1, .ref (ad 14 0 0)), (2, .ref (ad 15 0 0)), (3, .ref (ad 16 0 0)), (4, .ref (ad 17 0 0)), (5, .ref (ad 18 0 0)), (7, .int y7)]) hM.1 hM.2.1 dL_law_325 hl (by decide) rfl (fun ls hl => ?_)
          refine lv_iinc (v := (y7 + (1 : Int32))) (lv' := [(7, .int (y7 + (1 : Int32))), (6, .int (0 : Int32)), (8, .int (cf ((1 : Int32) + y7))), (0, .ref b), (1, .ref (ad 14 0 0)), (2, .ref (ad 15 0 0)), (3, .ref (ad 16 0 0)), (4, .ref (ad 17 0 0)), (5, .ref (ad 18 0 0))]) hM.1 hM.2.1 dL_law_327 hl (k := 8) rfl rfl (by decide) rfl (fun ls hl => ?_)
          refine lv_goto (tgt := 130) hM.1 hM.2.1 dL_law_330 (by decide) ?_
          refine W.widen (k := k0 + 4) (n := n0 + 148) (by omega) (by omega) ?_
          exact ih (k0 + 4) (n0 + 148) (by omega) (by omega) S_54 (0 : Int32) (y7 + (1 : Int32)) hq _ _ _ hX (lv_sub hl [3, 4, 5, 6, 7, 8, 1, 0] rfl)
        replace hq := hq.2 c_56
        refine lv_iconst (v := (1 : Int32)) hM.1 hM.2.1 dL_law_320 (by decide) ?_
        refine lv_goto (tgt := 325) hM.1 hM.2.1 dL_law_321 (by decide) ?_
        refine lv_istore (lv' := [(6, .int (1 : Int32)), (8, .int (cf ((1 : Int32) + y7))), (0, .ref b), (1, .ref (ad 14 0 0)), (2, .ref (ad 15 0 0)), (3, .ref (ad 16 0 0)), (4, .ref (ad 17 0 0)), (5, .ref (ad 18 0 0)), (7, .int y7)]) hM.1 hM.2.1 dL_law_325 hl (by decide) rfl (fun ls hl => ?_)
        refine lv_iinc (v := (y7 + (1 : Int32))) (lv' := [(7, .int (y7 + (1 : Int32))), (6, .int (1 : Int32)), (8, .int (cf ((1 : Int32) + y7))), (0, .ref b), (1, .ref (ad 14 0 0)), (2, .ref (ad 15 0 0)), (3, .ref (ad 16 0 0)), (4, .ref (ad 17 0 0)), (5, .ref (ad 18 0 0))]) hM.1 hM.2.1 dL_law_327 hl (k := 8) rfl rfl (by decide) rfl (fun ls hl => ?_)
        refine lv_goto (tgt := 130) hM.1 hM.2.1 dL_law_330 (by decide) ?_
        refine W.widen (k := k0 + 4) (n := n0 + 148) (by omega) (by omega) ?_
        exact ih (k0 + 4) (n0 + 148) (by omega) (by omega) S_54 (1 : Int32) (y7 + (1 : Int32)) hq _ _ _ hX (lv_sub hl [3, 4, 5, 6, 7, 8, 1, 0] rfl)
      replace hq := hq.2 c_23
      refine lv_iconst (v := (0 : Int32)) hM.1 hM.2.1 dL_law_165 (by decide) ?_
      refine lv_goto (tgt := 179) hM.1 hM.2.1 dL_law_166 (by decide) ?_
      refine lv_iload hM.1 hM.2.1 dL_law_179 (lv_at hl 0 rfl) ?_
      refine cSi (As := [.ref (ad 14 0 0), .ref (ad 15 0 0), .ref (ad 16 0 0), .ref (ad 17 0 0), .ref (ad 18 0 0), .int (0 : Int32), .int (cf ((1 : Int32) + y7))]) hM hK hX ⟨hI.1, hI.2.1, hI.2.2.1, hI.2.2.2.1, hI.2.2.2.2.1, trivial⟩ hA (met_L_acts l D ad cy S (0 : Int32) (cf ((1 : Int32) + y7)) hq) (kL_acts hM.2.2.2.2 ql_RL_127 (Nat.le_of_ble_eq_true rfl) (Nat.le_of_ble_eq_true rfl)) rfl hl.1 rfl (Nat.le_of_ble_eq_true rfl) dL_law_181 ⟨by show _ ≤ 600104; omega, by show _ ≤ 7301314; omega⟩ (fun S_57 r_58 hq H locs hX => ?_)
      refine lv_if_eq (tgt := 324) hM.1 hM.2.1 dL_law_184 (by decide) (fun c_59 => ?_) (fun c_59 => ?_)
      · replace hq := hq.1 c_59
        refine lv_iconst (v := (0 : Int32)) hM.1 hM.2.1 dL_law_324 (by decide) ?_
        refine lv_istore (lv' := [(6, .int (0 : Int32)), (8, .int (cf ((1 : Int32) + y7))), (0, .ref b), (1, .ref (ad 14 0 0)), (2, .ref (ad 15 0 0)), (3, .ref (ad 16 0 0)), (4, .ref (ad 17 0 0)), (5, .ref (ad 18 0 0)), (7, .int y7)]) hM.1 hM.2.1 dL_law_325 hl (by decide) rfl (fun ls hl => ?_)
        refine lv_iinc (v := (y7 + (1 : Int32))) (lv' := [(7, .int (y7 + (1 : Int32))), (6, .int (0 : Int32)), (8, .int (cf ((1 : Int32) + y7))), (0, .ref b), (1, .ref (ad 14 0 0)), (2, .ref (ad 15 0 0)), (3, .ref (ad 16 0 0)), (4, .ref (ad 17 0 0)), (5, .ref (ad 18 0 0))]) hM.1 hM.2.1 dL_law_327 hl (k := 8) rfl rfl (by decide) rfl (fun ls hl => ?_)
        refine lv_goto (tgt := 130) hM.1 hM.2.1 dL_law_330 (by decide) ?_
        refine W.widen (k := k0 + 4) (n := n0 + 148) (by omega) (by omega) ?_
        exact ih (k0 + 4) (n0 + 148) (by omega) (by omega) S_57 (0 : Int32) (y7 + (1 : Int32)) hq _ _ _ hX (lv_sub hl [3, 4, 5, 6, 7, 8, 1, 0] rfl)
      replace hq := hq.2 c_59
      refine lv_aload_n hM.1 hM.2.1 dL_law_187 rfl (lv_at hl 2 rfl) ?_
      refine lv_aload_n hM.1 hM.2.1 dL_law_188 rfl (lv_at hl 3 rfl) ?_
      refine lv_aload_n hM.1 hM.2.1 dL_law_189 rfl (lv_at hl 4 rfl) ?_
      refine lv_aload hM.1 hM.2.1 dL_law_190 (lv_at hl 5 rfl) ?_
      refine lv_aload hM.1 hM.2.1 dL_law_192 (lv_at hl 6 rfl) ?_
      refine cSi (As := [.ref (ad 14 0 0), .ref (ad 15 0 0), .ref (ad 16 0 0), .ref (ad 17 0 0), .ref (ad 18 0 0)]) hM hK hX ⟨hI.1, hI.2.1, hI.2.2.1, hI.2.2.2.1, hI.2.2.2.2.1, trivial⟩ hA (met_L_areThermometers l D ad cy S_57 hq) (kL_areThermometers hM.2.2.2.2 ql_RL_116 (Nat.le_of_ble_eq_true rfl) (Nat.le_of_ble_eq_true rfl)) rfl hl.1 rfl (Nat.le_of_ble_eq_true rfl) dL_law_194 ⟨by show _ ≤ 600104; omega, by show _ ≤ 7301314; omega⟩ (fun S_60 r_61 hq H locs hX => ?_)
      refine lv_if_eq (tgt := 324) hM.1 hM.2.1 dL_law_197 (by decide) (fun c_62 => ?_) (fun c_62 => ?_)
      · replace hq := hq.1 c_62
        refine lv_iconst (v := (0 : Int32)) hM.1 hM.2.1 dL_law_324 (by decide) ?_
        refine lv_istore (lv' := [(6, .int (0 : Int32)), (8, .int (cf ((1 : Int32) + y7))), (0, .ref b), (1, .ref (ad 14 0 0)), (2, .ref (ad 15 0 0)), (3, .ref (ad 16 0 0)), (4, .ref (ad 17 0 0)), (5, .ref (ad 18 0 0)), (7, .int y7)]) hM.1 hM.2.1 dL_law_325 hl (by decide) rfl (fun ls hl => ?_)
        refine lv_iinc (v := (y7 + (1 : Int32))) (lv' := [(7, .int (y7 + (1 : Int32))), (6, .int (0 : Int32)), (8, .int (cf ((1 : Int32) + y7))), (0, .ref b), (1, .ref (ad 14 0 0)), (2, .ref (ad 15 0 0)), (3, .ref (ad 16 0 0)), (4, .ref (ad 17 0 0)), (5, .ref (ad 18 0 0))]) hM.1 hM.2.1 dL_law_327 hl (k := 8) rfl rfl (by decide) rfl (fun ls hl => ?_)
        refine lv_goto (tgt := 130) hM.1 hM.2.1 dL_law_330 (by decide) ?_
        refine W.widen (k := k0 + 4) (n := n0 + 148) (by omega) (by omega) ?_
        exact ih (k0 + 4) (n0 + 148) (by omega) (by omega) S_60 (0 : Int32) (y7 + (1 : Int32)) hq _ _ _ hX (lv_sub hl [3, 4, 5, 6, 7, 8, 1, 0] rfl)
      replace hq := hq.2 c_62
      refine lv_aload_n hM.1 hM.2.1 dL_law_200 rfl (lv_at hl 2 rfl) ?_
      refine lv_aload_n hM.1 hM.2.1 dL_law_201 rfl (lv_at hl 3 rfl) ?_
      refine lv_aload_n hM.1 hM.2.1 dL_law_202 rfl (lv_at hl 4 rfl) ?_
      refine lv_aload hM.1 hM.2.1 dL_law_203 (lv_at hl 5 rfl) ?_
      refine lv_aload hM.1 hM.2.1 dL_law_205 (lv_at hl 6 rfl) ?_
      refine cSi (As := [.ref (ad 14 0 0), .ref (ad 15 0 0), .ref (ad 16 0 0), .ref (ad 17 0 0), .ref (ad 18 0 0)]) hM hK hX ⟨hI.1, hI.2.1, hI.2.2.1, hI.2.2.2.1, hI.2.2.2.2.1, trivial⟩ hA (met_L_areNumbers l D ad cy S_60 hq) (kL_areNumbers hM.2.2.2.2 ql_RL_120 (Nat.le_of_ble_eq_true rfl) (Nat.le_of_ble_eq_true rfl)) rfl hl.1 rfl (Nat.le_of_ble_eq_true rfl) dL_law_207 ⟨by show _ ≤ 600104; omega, by show _ ≤ 7301314; omega⟩ (fun S_63 r_64 hq H locs hX => ?_)
      refine lv_if_eq (tgt := 324) hM.1 hM.2.1 dL_law_210 (by decide) (fun c_65 => ?_) (fun c_65 => ?_)
      · replace hq := hq.1 c_65
        refine lv_iconst (v := (0 : Int32)) hM.1 hM.2.1 dL_law_324 (by decide) ?_
        refine lv_istore (lv' := [(6, .int (0 : Int32)), (8, .int (cf ((1 : Int32) + y7))), (0, .ref b), (1, .ref (ad 14 0 0)), (2, .ref (ad 15 0 0)), (3, .ref (ad 16 0 0)), (4, .ref (ad 17 0 0)), (5, .ref (ad 18 0 0)), (7, .int y7)]) hM.1 hM.2.1 dL_law_325 hl (by decide) rfl (fun ls hl => ?_)
        refine lv_iinc (v := (y7 + (1 : Int32))) (lv' := [(7, .int (y7 + (1 : Int32))), (6, .int (0 : Int32)), (8, .int (cf ((1 : Int32) + y7))), (0, .ref b), (1, .ref (ad 14 0 0)), (2, .ref (ad 15 0 0)), (3, .ref (ad 16 0 0)), (4, .ref (ad 17 0 0)), (5, .ref (ad 18 0 0))]) hM.1 hM.2.1 dL_law_327 hl (k := 8) rfl rfl (by decide) rfl (fun ls hl => ?_)
        refine lv_goto (tgt := 130) hM.1 hM.2.1 dL_law_330 (by decide) ?_
        refine W.widen (k := k0 + 4) (n := n0 + 148) (by omega) (by omega) ?_
        exact ih (k0 + 4) (n0 + 148) (by omega) (by omega) S_63 (0 : Int32) (y7 + (1 : Int32)) hq _ _ _ hX (lv_sub hl [3, 4, 5, 6, 7, 8, 1, 0] rfl)
      replace hq := hq.2 c_65
      refine lv_aload_n hM.1 hM.2.1 dL_law_213 rfl (lv_at hl 2 rfl) ?_
      refine lv_aload_n hM.1 hM.2.1 dL_law_214 rfl (lv_at hl 3 rfl) ?_
      refine lv_aload_n hM.1 hM.2.1 dL_law_215 rfl (lv_at hl 4 rfl) ?_
      refine lv_aload hM.1 hM.2.1 dL_law_216 (lv_at hl 5 rfl) ?_
      refine lv_aload hM.1 hM.2.1 dL_law_218 (lv_at hl 6 rfl) ?_
      refine lv_iload hM.1 hM.2.1 dL_law_220 (lv_at hl 0 rfl) ?_
      refine lv_iconst (v := (3 : Int32)) hM.1 hM.2.1 dL_law_222 (by decide) ?_
      refine lv_ishr hM.1 hM.2.1 dL_law_223 ?_
      refine lv_iconst (v := (2 : Int32)) hM.1 hM.2.1 dL_law_224 (by decide) ?_
      refine cSi (As := [.int ((cf ((1 : Int32) + y7)) >>> ((3 : Int32) &&& 31)), .int (2 : Int32)]) hM hK hX ⟨hI.1, trivial⟩ hA (met_L_low l D ad cy S_63 ((cf ((1 : Int32) + y7)) >>> ((3 : Int32) &&& 31)) (2 : Int32) hq) (kL_low hM.2.2.2.2 ql_RL_86 (Nat.le_of_ble_eq_true rfl) (Nat.le_of_ble_eq_true rfl)) rfl hl.1 rfl (Nat.le_of_ble_eq_true rfl) dL_law_225 ⟨by show _ ≤ 600104; omega, by show _ ≤ 7301314; omega⟩ (fun S_66 r_67 hq H locs hX => ?_)
      refine lv_iload hM.1 hM.2.1 dL_law_228 (lv_at hl 0 rfl) ?_
      refine lv_iconst (v := (5 : Int32)) hM.1 hM.2.1 dL_law_230 (by decide) ?_
      refine lv_ishr hM.1 hM.2.1 dL_law_231 ?_
      refine lv_sipush (v := (6000 : Int32)) hM.1 hM.2.1 dL_law_232 (by decide) ?_
      refine cSi (As := [.int ((cf ((1 : Int32) + y7)) >>> ((5 : Int32) &&& 31)), .int (6000 : Int32)]) hM hK hX ⟨hI.1, trivial⟩ hA (met_L_low l D ad cy S_66 ((cf ((1 : Int32) + y7)) >>> ((5 : Int32) &&& 31)) (6000 : Int32) hq) (kL_low hM.2.2.2.2 ql_RL_86 (Nat.le_of_ble_eq_true rfl) (Nat.le_of_ble_eq_true rfl)) rfl hl.1 rfl (Nat.le_of_ble_eq_true rfl) dL_law_235 ⟨by show _ ≤ 600104; omega, by show _ ≤ 7301314; omega⟩ (fun S_68 r_69 hq H locs hX => ?_)
      refine lv_sipush (v := (3000 : Int32)) hM.1 hM.2.1 dL_law_238 (by decide) ?_
      refine lv_isub hM.1 hM.2.1 dL_law_241 ?_
      refine lv_iload hM.1 hM.2.1 dL_law_242 (lv_at hl 0 rfl) ?_
      refine lv_bipush (v := (8 : Int32)) hM.1 hM.2.1 dL_law_244 (by decide) ?_
      refine lv_ishr hM.1 hM.2.1 dL_law_246 ?_
      refine lv_sipush (v := (6000 : Int32)) hM.1 hM.2.1 dL_law_247 (by decide) ?_
      refine cSi (As := [.int ((cf ((1 : Int32) + y7)) >>> ((8 : Int32) &&& 31)), .int (6000 : Int32)]) hM hK hX ⟨hI.1, trivial⟩ hA (met_L_low l D ad cy S_68 ((cf ((1 : Int32) + y7)) >>> ((8 : Int32) &&& 31)) (6000 : Int32) hq) (kL_low hM.2.2.2.2 ql_RL_86 (Nat.le_of_ble_eq_true rfl) (Nat.le_of_ble_eq_true rfl)) rfl hl.1 rfl (Nat.le_of_ble_eq_true rfl) dL_law_250 ⟨by show _ ≤ 600104; omega, by show _ ≤ 7301314; omega⟩ (fun S_70 r_71 hq H locs hX => ?_)
      refine lv_sipush (v := (1000 : Int32)) hM.1 hM.2.1 dL_law_253 (by decide) ?_
      refine lv_isub hM.1 hM.2.1 dL_law_256 ?_
      refine cSi (As := [.ref (ad 14 0 0), .ref (ad 15 0 0), .ref (ad 16 0 0), .ref (ad 17 0 0), .ref (ad 18 0 0), .int r_67, .int (r_69 - (3000 : Int32)), .int (r_71 - (1000 : Int32))]) hM hK hX ⟨hI.1, hI.2.1, hI.2.2.1, hI.2.2.2.1, hI.2.2.2.2.1, trivial⟩ hA (met_L_areRanked l D ad cy S_70 r_67 (r_69 - (3000 : Int32)) (r_71 - (1000 : Int32)) hq) (kL_areRanked hM.2.2.2.2 ql_RL_131 (Nat.le_of_ble_eq_true rfl) (Nat.le_of_ble_eq_true rfl)) rfl hl.1 rfl (Nat.le_of_ble_eq_true rfl) dL_law_257 ⟨by show _ ≤ 600104; omega, by show _ ≤ 7301314; omega⟩ (fun S_72 r_73 hq H locs hX => ?_)
      refine lv_if_eq (tgt := 324) hM.1 hM.2.1 dL_law_260 (by decide) (fun c_74 => ?_) (fun c_74 => ?_)
      · replace hq := hq.1 c_74
        refine lv_iconst (v := (0 : Int32)) hM.1 hM.2.1 dL_law_324 (by decide) ?_
        refine lv_istore (lv' := [(6, .int (0 : Int32)), (8, .int (cf ((1 : Int32) + y7))), (0, .ref b), (1, .ref (ad 14 0 0)), (2, .ref (ad 15 0 0)), (3, .ref (ad 16 0 0)), (4, .ref (ad 17 0 0)), (5, .ref (ad 18 0 0)), (7, .int y7)]) hM.1 hM.2.1 dL_law_325 hl (by decide) rfl (fun ls hl => ?_)
        refine lv_iinc (v := (y7 + (1 : Int32))) (lv' := [(7, .int (y7 + (1 : Int32))), (6, .int (0 : Int32)), (8, .int (cf ((1 : Int32) + y7))), (0, .ref b), (1, .ref (ad 14 0 0)), (2, .ref (ad 15 0 0)), (3, .ref (ad 16 0 0)), (4, .ref (ad 17 0 0)), (5, .ref (ad 18 0 0))]) hM.1 hM.2.1 dL_law_327 hl (k := 8) rfl rfl (by decide) rfl (fun ls hl => ?_)
        refine lv_goto (tgt := 130) hM.1 hM.2.1 dL_law_330 (by decide) ?_
        refine W.widen (k := k0 + 4) (n := n0 + 148) (by omega) (by omega) ?_
        exact ih (k0 + 4) (n0 + 148) (by omega) (by omega) S_72 (0 : Int32) (y7 + (1 : Int32)) hq _ _ _ hX (lv_sub hl [3, 4, 5, 6, 7, 8, 1, 0] rfl)
      replace hq := hq.2 c_74
      refine lv_aload_n hM.1 hM.2.1 dL_law_263 rfl (lv_at hl 2 rfl) ?_
      refine lv_aload_n hM.1 hM.2.1 dL_law_264 rfl (lv_at hl 3 rfl) ?_
      refine lv_aload_n hM.1 hM.2.1 dL_law_265 rfl (lv_at hl 4 rfl) ?_
      refine lv_aload hM.1 hM.2.1 dL_law_266 (lv_at hl 5 rfl) ?_
      refine lv_aload hM.1 hM.2.1 dL_law_268 (lv_at hl 6 rfl) ?_
      refine lv_iload hM.1 hM.2.1 dL_law_270 (lv_at hl 0 rfl) ?_
      refine lv_iconst (v := (4 : Int32)) hM.1 hM.2.1 dL_law_272 (by decide) ?_
      refine lv_ishr hM.1 hM.2.1 dL_law_273 ?_
      refine lv_aload hM.1 hM.2.1 dL_law_274 (lv_at hl 6 rfl) ?_
      refine lv_bipush (v := (15 : Int32)) hM.1 hM.2.1 dL_law_276 (by decide) ?_
      have c_75 := hq.1
      replace hq := hq.2
      refine r_iald hM hK hX hI.2.2.2.2.1 (a18 0 0) c_75 dL_law_278 ?_
      refine cSi (As := [.int ((cf ((1 : Int32) + y7)) >>> ((4 : Int32) &&& 31)), .int (S_72 18 0 0 (15 : Int32).toNatClampNeg)]) hM hK hX ⟨hI.1, trivial⟩ hA (met_L_low l D ad cy S_72 ((cf ((1 : Int32) + y7)) >>> ((4 : Int32) &&& 31)) (S_72 18 0 0 (15 : Int32).toNatClampNeg) hq) (kL_low hM.2.2.2.2 ql_RL_86 (Nat.le_of_ble_eq_true rfl) (Nat.le_of_ble_eq_true rfl)) rfl hl.1 rfl (Nat.le_of_ble_eq_true rfl) dL_law_279 ⟨by show _ ≤ 600104; omega, by show _ ≤ 7301314; omega⟩ (fun S_76 r_77 hq H locs hX => ?_)
      refine cSi (As := [.ref (ad 14 0 0), .ref (ad 15 0 0), .ref (ad 16 0 0), .ref (ad 17 0 0), .ref (ad 18 0 0), .int r_77]) hM hK hX ⟨hI.1, hI.2.1, hI.2.2.1, hI.2.2.2.1, hI.2.2.2.2.1, trivial⟩ hA (met_L_wouldOne l D ad cy S_76 r_77 hq) (kL_wouldOne hM.2.2.2.2 ql_RL_135 (Nat.le_of_ble_eq_true rfl) (Nat.le_of_ble_eq_true rfl)) rfl hl.1 rfl (Nat.le_of_ble_eq_true rfl) dL_law_282 ⟨by show _ ≤ 600104; omega, by show _ ≤ 7301314; omega⟩ (fun S_78 r_79 hq H locs hX => ?_)
      refine lv_if_eq (tgt := 324) hM.1 hM.2.1 dL_law_285 (by decide) (fun c_80 => ?_) (fun c_80 => ?_)
      · replace hq := hq.1 c_80
        refine lv_iconst (v := (0 : Int32)) hM.1 hM.2.1 dL_law_324 (by decide) ?_
        refine lv_istore (lv' := [(6, .int (0 : Int32)), (8, .int (cf ((1 : Int32) + y7))), (0, .ref b), (1, .ref (ad 14 0 0)), (2, .ref (ad 15 0 0)), (3, .ref (ad 16 0 0)), (4, .ref (ad 17 0 0)), (5, .ref (ad 18 0 0)), (7, .int y7)]) hM.1 hM.2.1 dL_law_325 hl (by decide) rfl (fun ls hl => ?_)
        refine lv_iinc (v := (y7 + (1 : Int32))) (lv' := [(7, .int (y7 + (1 : Int32))), (6, .int (0 : Int32)), (8, .int (cf ((1 : Int32) + y7))), (0, .ref b), (1, .ref (ad 14 0 0)), (2, .ref (ad 15 0 0)), (3, .ref (ad 16 0 0)), (4, .ref (ad 17 0 0)), (5, .ref (ad 18 0 0))]) hM.1 hM.2.1 dL_law_327 hl (k := 8) rfl rfl (by decide) rfl (fun ls hl => ?_)
        refine lv_goto (tgt := 130) hM.1 hM.2.1 dL_law_330 (by decide) ?_
        refine W.widen (k := k0 + 4) (n := n0 + 148) (by omega) (by omega) ?_
        exact ih (k0 + 4) (n0 + 148) (by omega) (by omega) S_78 (0 : Int32) (y7 + (1 : Int32)) hq _ _ _ hX (lv_sub hl [3, 4, 5, 6, 7, 8, 1, 0] rfl)
      replace hq := hq.2 c_80
      refine lv_iload hM.1 hM.2.1 dL_law_288 (lv_at hl 8 rfl) ?_
      refine lv_iconst (v := (2 : Int32)) hM.1 hM.2.1 dL_law_290 (by decide) ?_
      have c_81 := hq.1
      replace hq := hq.2
      refine lv_irem hM.1 hM.2.1 dL_law_291 c_81 ?_
      refine lv_if_eq (tgt := 320) hM.1 hM.2.1 dL_law_292 (by decide) (fun c_82 => ?_) (fun c_82 => ?_)
      · replace hq := hq.1 c_82
        refine lv_iconst (v := (1 : Int32)) hM.1 hM.2.1 dL_law_320 (by decide) ?_
        refine lv_goto (tgt := 325) hM.1 hM.2.1 dL_law_321 (by decide) ?_
        refine lv_istore (lv' := [(6, .int (1 : Int32)), (8, .int (cf ((1 : Int32) + y7))), (0, .ref b), (1, .ref (ad 14 0 0)), (2, .ref (ad 15 0 0)), (3, .ref (ad 16 0 0)), (4, .ref (ad 17 0 0)), (5, .ref (ad 18 0 0)), (7, .int y7)]) hM.1 hM.2.1 dL_law_325 hl (by decide) rfl (fun ls hl => ?_)
        refine lv_iinc (v := (y7 + (1 : Int32))) (lv' := [(7, .int (y7 + (1 : Int32))), (6, .int (1 : Int32)), (8, .int (cf ((1 : Int32) + y7))), (0, .ref b), (1, .ref (ad 14 0 0)), (2, .ref (ad 15 0 0)), (3, .ref (ad 16 0 0)), (4, .ref (ad 17 0 0)), (5, .ref (ad 18 0 0))]) hM.1 hM.2.1 dL_law_327 hl (k := 8) rfl rfl (by decide) rfl (fun ls hl => ?_)
        refine lv_goto (tgt := 130) hM.1 hM.2.1 dL_law_330 (by decide) ?_
        refine W.widen (k := k0 + 4) (n := n0 + 148) (by omega) (by omega) ?_
        exact ih (k0 + 4) (n0 + 148) (by omega) (by omega) S_78 (1 : Int32) (y7 + (1 : Int32)) hq _ _ _ hX (lv_sub hl [3, 4, 5, 6, 7, 8, 1, 0] rfl)
      replace hq := hq.2 c_82
      refine lv_aload_n hM.1 hM.2.1 dL_law_295 rfl (lv_at hl 2 rfl) ?_
      refine lv_aload_n hM.1 hM.2.1 dL_law_296 rfl (lv_at hl 3 rfl) ?_
      refine lv_aload_n hM.1 hM.2.1 dL_law_297 rfl (lv_at hl 4 rfl) ?_
      refine lv_aload hM.1 hM.2.1 dL_law_298 (lv_at hl 5 rfl) ?_
      refine lv_aload hM.1 hM.2.1 dL_law_300 (lv_at hl 6 rfl) ?_
      refine lv_iconst (v := (1 : Int32)) hM.1 hM.2.1 dL_law_302 (by decide) ?_
      refine lv_iload hM.1 hM.2.1 dL_law_303 (lv_at hl 0 rfl) ?_
      refine lv_bipush (v := (7 : Int32)) hM.1 hM.2.1 dL_law_305 (by decide) ?_
      refine lv_ishr hM.1 hM.2.1 dL_law_307 ?_
      refine lv_bipush (v := (48 : Int32)) hM.1 hM.2.1 dL_law_308 (by decide) ?_
      refine cSi (As := [.int ((cf ((1 : Int32) + y7)) >>> ((7 : Int32) &&& 31)), .int (48 : Int32)]) hM hK hX ⟨hI.1, trivial⟩ hA (met_L_low l D ad cy S_78 ((cf ((1 : Int32) + y7)) >>> ((7 : Int32) &&& 31)) (48 : Int32) hq) (kL_low hM.2.2.2.2 ql_RL_86 (Nat.le_of_ble_eq_true rfl) (Nat.le_of_ble_eq_true rfl)) rfl hl.1 rfl (Nat.le_of_ble_eq_true rfl) dL_law_310 ⟨by show _ ≤ 600104; omega, by show _ ≤ 7301314; omega⟩ (fun S_83 r_84 hq H locs hX => ?_)
      refine lv_iadd hM.1 hM.2.1 dL_law_313 ?_
      refine cSw (As := [.ref (ad 14 0 0), .ref (ad 15 0 0), .ref (ad 16 0 0), .ref (ad 17 0 0), .ref (ad 18 0 0), .int ((1 : Int32) + r_84)]) hM hK hX hA (met_L_would l D ad cy S_83 ((1 : Int32) + r_84) hq) (kL_would hM.2.2.2.2 ql_RL_139 (Nat.le_of_ble_eq_true rfl) (Nat.le_of_ble_eq_true rfl)) rfl hl.1 rfl (Nat.le_of_ble_eq_true rfl) dL_law_314 ⟨by show _ ≤ 600104; omega, by show _ ≤ 7301314; omega⟩ (fun S_85 r_86 hq H locs hX => ?_)
      refine lv_if_eq (tgt := 324) hM.1 hM.2.1 dL_law_317 (by decide) (fun c_87 => ?_) (fun c_87 => ?_)
      · replace hq := hq.1 c_87
        refine lv_iconst (v := (0 : Int32)) hM.1 hM.2.1 dL_law_324 (by decide) ?_
        refine lv_istore (lv' := [(6, .int (0 : Int32)), (8, .int (cf ((1 : Int32) + y7))), (0, .ref b), (1, .ref (ad 14 0 0)), (2, .ref (ad 15 0 0)), (3, .ref (ad 16 0 0)), (4, .ref (ad 17 0 0)), (5, .ref (ad 18 0 0)), (7, .int y7)]) hM.1 hM.2.1 dL_law_325 hl (by decide) rfl (fun ls hl => ?_)
        refine lv_iinc (v := (y7 + (1 : Int32))) (lv' := [(7, .int (y7 + (1 : Int32))), (6, .int (0 : Int32)), (8, .int (cf ((1 : Int32) + y7))), (0, .ref b), (1, .ref (ad 14 0 0)), (2, .ref (ad 15 0 0)), (3, .ref (ad 16 0 0)), (4, .ref (ad 17 0 0)), (5, .ref (ad 18 0 0))]) hM.1 hM.2.1 dL_law_327 hl (k := 8) rfl rfl (by decide) rfl (fun ls hl => ?_)
        refine lv_goto (tgt := 130) hM.1 hM.2.1 dL_law_330 (by decide) ?_
        refine W.widen (k := k0 + 4) (n := n0 + 148) (by omega) (by omega) ?_
        exact ih (k0 + 4) (n0 + 148) (by omega) (by omega) S_85 (0 : Int32) (y7 + (1 : Int32)) hq _ _ _ hX (lv_sub hl [3, 4, 5, 6, 7, 8, 1, 0] rfl)
      replace hq := hq.2 c_87
      refine lv_iconst (v := (1 : Int32)) hM.1 hM.2.1 dL_law_320 (by decide) ?_
      refine lv_goto (tgt := 325) hM.1 hM.2.1 dL_law_321 (by decide) ?_
      refine lv_istore (lv' := [(6, .int (1 : Int32)), (8, .int (cf ((1 : Int32) + y7))), (0, .ref b), (1, .ref (ad 14 0 0)), (2, .ref (ad 15 0 0)), (3, .ref (ad 16 0 0)), (4, .ref (ad 17 0 0)), (5, .ref (ad 18 0 0)), (7, .int y7)]) hM.1 hM.2.1 dL_law_325 hl (by decide) rfl (fun ls hl => ?_)
      refine lv_iinc (v := (y7 + (1 : Int32))) (lv' := [(7, .int (y7 + (1 : Int32))), (6, .int (1 : Int32)), (8, .int (cf ((1 : Int32) + y7))), (0, .ref b), (1, .ref (ad 14 0 0)), (2, .ref (ad 15 0 0)), (3, .ref (ad 16 0 0)), (4, .ref (ad 17 0 0)), (5, .ref (ad 18 0 0))]) hM.1 hM.2.1 dL_law_327 hl (k := 8) rfl rfl (by decide) rfl (fun ls hl => ?_)
      refine lv_goto (tgt := 130) hM.1 hM.2.1 dL_law_330 (by decide) ?_
      refine W.widen (k := k0 + 4) (n := n0 + 148) (by omega) (by omega) ?_
      exact ih (k0 + 4) (n0 + 148) (by omega) (by omega) S_85 (1 : Int32) (y7 + (1 : Int32)) hq _ _ _ hX (lv_sub hl [3, 4, 5, 6, 7, 8, 1, 0] rfl)
  unfold vc_L_law at hq
  refine lv_aload hM.1 hM.2.1 dL_law_30 (lv_at hl 0 rfl) ?_
  refine lv_iconst (v := (1 : Int32)) hM.1 hM.2.1 dL_law_32 (by decide) ?_
  refine lv_sipush (v := (1000 : Int32)) hM.1 hM.2.1 dL_law_33 (by decide) ?_
  have c_2 := hq.1
  replace hq := hq.2
  refine r_iast hM hK hX hI.2.2.2.2.1 (a18 0 0) c_2 dL_law_36 (fun S_1 e_3 H locs hX => ?_)
  replace hq := hq S_1 e_3
  refine lv_aload hM.1 hM.2.1 dL_law_37 (lv_at hl 0 rfl) ?_
  refine lv_iconst (v := (2 : Int32)) hM.1 hM.2.1 dL_law_39 (by decide) ?_
  refine lv_sipush (v := (300 : Int32)) hM.1 hM.2.1 dL_law_40 (by decide) ?_
  have c_5 := hq.1
  replace hq := hq.2
  refine r_iast hM hK hX hI.2.2.2.2.1 (a18 0 0) c_5 dL_law_43 (fun S_4 e_6 H locs hX => ?_)
  replace hq := hq S_4 e_6
  refine lv_aload hM.1 hM.2.1 dL_law_44 (lv_at hl 0 rfl) ?_
  refine lv_iconst (v := (3 : Int32)) hM.1 hM.2.1 dL_law_46 (by decide) ?_
  refine lv_iconst (v := (2 : Int32)) hM.1 hM.2.1 dL_law_47 (by decide) ?_
  have c_8 := hq.1
  replace hq := hq.2
  refine r_iast hM hK hX hI.2.2.2.2.1 (a18 0 0) c_8 dL_law_48 (fun S_7 e_9 H locs hX => ?_)
  replace hq := hq S_7 e_9
  refine lv_aload hM.1 hM.2.1 dL_law_49 (lv_at hl 0 rfl) ?_
  refine lv_bipush (v := (14 : Int32)) hM.1 hM.2.1 dL_law_51 (by decide) ?_
  refine lv_ldc hM.1 hM.2.1 hM.2.2.2.1 (hM.2.2.2.2 _ qn_RL_11) dL_law_53 ?_
  have c_11 := hq.1
  replace hq := hq.2
  refine r_iast hM hK hX hI.2.2.2.2.1 (a18 0 0) c_11 dL_law_55 (fun S_10 e_12 H locs hX => ?_)
  replace hq := hq S_10 e_12
  refine lv_iconst (v := (0 : Int32)) hM.1 hM.2.1 dL_law_56 (by decide) ?_
  refine lv_istore (lv' := [(6, .int (0 : Int32)), (5, .ref (ad 18 0 0)), (4, .ref (ad 17 0 0)), (3, .ref (ad 16 0 0)), (2, .ref (ad 15 0 0)), (1, .ref (ad 14 0 0)), (0, .ref b)]) hM.1 hM.2.1 dL_law_57 hl (by decide) rfl (fun ls hl => ?_)
  obtain ⟨k0, hq⟩ := hq
  refine L59 (fun S_17 hq H locs ls hX hl => ?_) k0 S_10 (0 : Int32) hq _ _ _ hX (lv_sub hl [6, 5, 4, 3, 2, 1, 0] rfl)
  refine lv_aload_n hM.1 hM.2.1 dL_law_79 rfl (lv_at hl 1 rfl) ?_
  refine lv_aload_n hM.1 hM.2.1 dL_law_80 rfl (lv_at hl 2 rfl) ?_
  refine lv_aload_n hM.1 hM.2.1 dL_law_81 rfl (lv_at hl 3 rfl) ?_
  refine lv_aload hM.1 hM.2.1 dL_law_82 (lv_at hl 4 rfl) ?_
  refine lv_aload hM.1 hM.2.1 dL_law_84 (lv_at hl 5 rfl) ?_
  refine cSi (As := [.ref (ad 14 0 0), .ref (ad 15 0 0), .ref (ad 16 0 0), .ref (ad 17 0 0), .ref (ad 18 0 0)]) hM hK hX ⟨hI.1, hI.2.1, hI.2.2.1, hI.2.2.2.1, hI.2.2.2.2.1, trivial⟩ hA (met_L_areThermometers l D ad cy S_17 hq) (kL_areThermometers hM.2.2.2.2 ql_RL_116 (Nat.le_of_ble_eq_true rfl) (Nat.le_of_ble_eq_true rfl)) rfl hl.1 rfl (Nat.le_of_ble_eq_true rfl) dL_law_86 ⟨by show _ ≤ 600104; omega, by show _ ≤ 7301314; omega⟩ (fun S_18 r_19 hq H locs hX => ?_)
  refine lv_if_eq (tgt := 124) hM.1 hM.2.1 dL_law_89 (by decide) (fun c_20 => ?_) (fun c_20 => ?_)
  · replace hq := hq.1 c_20
    refine lv_iconst (v := (0 : Int32)) hM.1 hM.2.1 dL_law_124 (by decide) ?_
    refine lv_istore (lv' := [(6, .int (0 : Int32)), (0, .ref b), (1, .ref (ad 14 0 0)), (2, .ref (ad 15 0 0)), (3, .ref (ad 16 0 0)), (4, .ref (ad 17 0 0)), (5, .ref (ad 18 0 0))]) hM.1 hM.2.1 dL_law_125 hl (by decide) rfl (fun ls hl => ?_)
    refine lv_iconst (v := (0 : Int32)) hM.1 hM.2.1 dL_law_127 (by decide) ?_
    refine lv_istore (lv' := [(7, .int (0 : Int32)), (6, .int (0 : Int32)), (0, .ref b), (1, .ref (ad 14 0 0)), (2, .ref (ad 15 0 0)), (3, .ref (ad 16 0 0)), (4, .ref (ad 17 0 0)), (5, .ref (ad 18 0 0))]) hM.1 hM.2.1 dL_law_128 hl (by decide) rfl (fun ls hl => ?_)
    obtain ⟨j0, hj0, hq⟩ := hq
    exact L130 j0 500 4000 (by omega) (by omega) S_18 (0 : Int32) (0 : Int32) hq _ _ _ hX (lv_sub hl [2, 3, 4, 5, 6, 7, 1, 0] rfl)
  replace hq := hq.2 c_20
  refine lv_aload_n hM.1 hM.2.1 dL_law_92 rfl (lv_at hl 1 rfl) ?_
  refine lv_aload_n hM.1 hM.2.1 dL_law_93 rfl (lv_at hl 2 rfl) ?_
  refine lv_aload_n hM.1 hM.2.1 dL_law_94 rfl (lv_at hl 3 rfl) ?_
  refine lv_aload hM.1 hM.2.1 dL_law_95 (lv_at hl 4 rfl) ?_
  refine lv_aload hM.1 hM.2.1 dL_law_97 (lv_at hl 5 rfl) ?_
  refine cSi (As := [.ref (ad 14 0 0), .ref (ad 15 0 0), .ref (ad 16 0 0), .ref (ad 17 0 0), .ref (ad 18 0 0)]) hM hK hX ⟨hI.1, hI.2.1, hI.2.2.1, hI.2.2.2.1, hI.2.2.2.2.1, trivial⟩ hA (met_L_areNumbers l D ad cy S_18 hq) (kL_areNumbers hM.2.2.2.2 ql_RL_120 (Nat.le_of_ble_eq_true rfl) (Nat.le_of_ble_eq_true rfl)) rfl hl.1 rfl (Nat.le_of_ble_eq_true rfl) dL_law_99 ⟨by show _ ≤ 600104; omega, by show _ ≤ 7301314; omega⟩ (fun S_89 r_90 hq H locs hX => ?_)
  refine lv_if_eq (tgt := 124) hM.1 hM.2.1 dL_law_102 (by decide) (fun c_91 => ?_) (fun c_91 => ?_)
  · replace hq := hq.1 c_91
    refine lv_iconst (v := (0 : Int32)) hM.1 hM.2.1 dL_law_124 (by decide) ?_
    refine lv_istore (lv' := [(6, .int (0 : Int32)), (0, .ref b), (1, .ref (ad 14 0 0)), (2, .ref (ad 15 0 0)), (3, .ref (ad 16 0 0)), (4, .ref (ad 17 0 0)), (5, .ref (ad 18 0 0))]) hM.1 hM.2.1 dL_law_125 hl (by decide) rfl (fun ls hl => ?_)
    refine lv_iconst (v := (0 : Int32)) hM.1 hM.2.1 dL_law_127 (by decide) ?_
    refine lv_istore (lv' := [(7, .int (0 : Int32)), (6, .int (0 : Int32)), (0, .ref b), (1, .ref (ad 14 0 0)), (2, .ref (ad 15 0 0)), (3, .ref (ad 16 0 0)), (4, .ref (ad 17 0 0)), (5, .ref (ad 18 0 0))]) hM.1 hM.2.1 dL_law_128 hl (by decide) rfl (fun ls hl => ?_)
    obtain ⟨j0, hj0, hq⟩ := hq
    exact L130 j0 500 4000 (by omega) (by omega) S_89 (0 : Int32) (0 : Int32) hq _ _ _ hX (lv_sub hl [2, 3, 4, 5, 6, 7, 1, 0] rfl)
  replace hq := hq.2 c_91
  refine lv_aload_n hM.1 hM.2.1 dL_law_105 rfl (lv_at hl 1 rfl) ?_
  refine lv_aload_n hM.1 hM.2.1 dL_law_106 rfl (lv_at hl 2 rfl) ?_
  refine lv_aload hM.1 hM.2.1 dL_law_107 (lv_at hl 5 rfl) ?_
  refine lv_aload_n hM.1 hM.2.1 dL_law_109 rfl (lv_at hl 0 rfl) ?_
  refine lv_iconst (v := (0 : Int32)) hM.1 hM.2.1 dL_law_110 (by decide) ?_
  have c_95 := hq.1
  replace hq := hq.2
  refine c_cell hM hX hA hXs hbl hbA hL hcf (met_L_cell l c_95 hL) (kL_cell hM.2.2.2.2 ql_RL_123 (Nat.le_of_ble_eq_true rfl) (Nat.le_of_ble_eq_true rfl)) hl.1 rfl (Nat.le_of_ble_eq_true rfl) dL_law_111 ⟨by show _ ≤ 600104; omega, by show _ ≤ 7301314; omega⟩ (fun H locs hX => ?_)
  refine cSi (As := [.ref (ad 14 0 0), .ref (ad 15 0 0), .ref (ad 18 0 0), .int (cf (0 : Int32))]) hM hK hX ⟨hI.1, hI.2.1, hI.2.2.2.2.1, trivial⟩ hA (met_L_adds l D ad cy S_89 (cf (0 : Int32)) hq) (kL_adds hM.2.2.2.2 ql_RL_93 (Nat.le_of_ble_eq_true rfl) (Nat.le_of_ble_eq_true rfl)) rfl hl.1 rfl (Nat.le_of_ble_eq_true rfl) dL_law_114 ⟨by show _ ≤ 600104; omega, by show _ ≤ 7301314; omega⟩ (fun S_92 r_93 hq H locs hX => ?_)
  refine lv_if_eq (tgt := 124) hM.1 hM.2.1 dL_law_117 (by decide) (fun c_94 => ?_) (fun c_94 => ?_)
  · replace hq := hq.1 c_94
    refine lv_iconst (v := (0 : Int32)) hM.1 hM.2.1 dL_law_124 (by decide) ?_
    refine lv_istore (lv' := [(6, .int (0 : Int32)), (0, .ref b), (1, .ref (ad 14 0 0)), (2, .ref (ad 15 0 0)), (3, .ref (ad 16 0 0)), (4, .ref (ad 17 0 0)), (5, .ref (ad 18 0 0))]) hM.1 hM.2.1 dL_law_125 hl (by decide) rfl (fun ls hl => ?_)
    refine lv_iconst (v := (0 : Int32)) hM.1 hM.2.1 dL_law_127 (by decide) ?_
    refine lv_istore (lv' := [(7, .int (0 : Int32)), (6, .int (0 : Int32)), (0, .ref b), (1, .ref (ad 14 0 0)), (2, .ref (ad 15 0 0)), (3, .ref (ad 16 0 0)), (4, .ref (ad 17 0 0)), (5, .ref (ad 18 0 0))]) hM.1 hM.2.1 dL_law_128 hl (by decide) rfl (fun ls hl => ?_)
    obtain ⟨j0, hj0, hq⟩ := hq
    exact L130 j0 500 4000 (by omega) (by omega) S_92 (0 : Int32) (0 : Int32) hq _ _ _ hX (lv_sub hl [2, 3, 4, 5, 6, 7, 1, 0] rfl)
  replace hq := hq.2 c_94
  refine lv_iconst (v := (1 : Int32)) hM.1 hM.2.1 dL_law_120 (by decide) ?_
  refine lv_goto (tgt := 125) hM.1 hM.2.1 dL_law_121 (by decide) ?_
  refine lv_istore (lv' := [(6, .int (1 : Int32)), (0, .ref b), (1, .ref (ad 14 0 0)), (2, .ref (ad 15 0 0)), (3, .ref (ad 16 0 0)), (4, .ref (ad 17 0 0)), (5, .ref (ad 18 0 0))]) hM.1 hM.2.1 dL_law_125 hl (by decide) rfl (fun ls hl => ?_)
  refine lv_iconst (v := (0 : Int32)) hM.1 hM.2.1 dL_law_127 (by decide) ?_
  refine lv_istore (lv' := [(7, .int (0 : Int32)), (6, .int (1 : Int32)), (0, .ref b), (1, .ref (ad 14 0 0)), (2, .ref (ad 15 0 0)), (3, .ref (ad 16 0 0)), (4, .ref (ad 17 0 0)), (5, .ref (ad 18 0 0))]) hM.1 hM.2.1 dL_law_128 hl (by decide) rfl (fun ls hl => ?_)
  obtain ⟨j0, hj0, hq⟩ := hq
  exact L130 j0 500 4000 (by omega) (by omega) S_92 (1 : Int32) (0 : Int32) hq _ _ _ hX (lv_sub hl [2, 3, 4, 5, 6, 7, 1, 0] rfl)
