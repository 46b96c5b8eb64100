/-! THE CLAIM OUT OF ONE WALK OF THE LAW'S BODY. Your part is whole_start (and what it stands on); all else here is the same for every law, but numbers. -/
def R_law : String := "LateThermometersLaw"
def lw_P (b : Addr) (xs : List Int32) (args : Array Value) (s : State) : Prop := args = #[.ref b] ∧ s.IntsAt b xs ∧ xs.length ≤ 2560 ∧ (Jvm.Cond.and given_1 narrow_1).before args s = true
/-- what a walk over the start with the record d0 says of its end, said of the start itself -/
theorem lw_closed {s t : State} {o : Outcome} {d0 : Drawn} {L : List Loc} {k n : Nat} (hd0 : s.drawn.sameBut d0 lw_cs) (hv : ∃ v, o = .returned v) (hW : (s.setDrawn d0).WarmedH t.vm) (hs : (s.setDrawn d0).sameButNew ({ t with vm := s.vm } : State) L k n) : State.butDraws s t lw_cs (fun t1 => Framed s o t1 L k n) := by
  have h2 : t.drawn = d0 := congrArg State.drawn hs.1
  refine ⟨⟨hv, hW, State.sameButNew.setDrawn hs s.drawn⟩, ?_, by decide⟩
  rw [h2]
  exact hd0
def lw_Q (_ : Array Value) (s : State) (o : Outcome) (t : State) : Prop := o = .returned (some (.int 1)) ∧ State.butDraws s t lw_cs (fun t1 => Framed s o t1 [] 601024 7293034)
def lw_Z (below : List Frame) (a : Array Value) (s : State) : State → Prop := fun t => ∃ o, t.status = .running ∧ Ended t below o ∧ lw_Q a s o t
/-- the law's own end, with 1 on the stack, nothing written that was there before, its room as the claim has it; d0: the record of draws at this point (at the entry s.drawn: begin with 'refine W.base ?_' and 'have hd0 := Drawn.sameBut.refl s.drawn lw_cs') -/
theorem lw_ret {p : Program} {l : Launch} {e : Env} {s : State} {m : MethodId} {below : List Frame} {meth : Method} {c : Code} {b : Nat} {d0 : Drawn} (hd0 : s.drawn.sameBut d0 lw_cs) (hx : p.tables.exec = Jvm.exec) (hb : c.code = code) (hr : meth.sig.returnType = ret) (hlocks : meth.locks = false) {pc : Nat} {H : Heap} {ls : Array Slot} (hdg : decode code pc = .ok (.ireturn, 1)) : W p l e room_1 (s.setDrawn d0) m #[Value.ref b] below meth c H [] 601024 7293034 (lw_Z below #[Value.ref b] s) (F0 m pc ls [.int 1]) := by
  intro T hT X
  obtain ⟨fs, hret, hrun, hended, hW, hframe⟩ := X.leave (v := some (.int 1)) (hlocks := hlocks) (fun h => by rw [hr] at h; cases h)
  have hmeth' : T.vm.method? m = some meth := X.method'
  refine ⟨T.setFrames fs, ?_, .returned (some (.int 1)), hrun, hended, rfl, lw_closed hd0 ⟨_, rfl⟩ hW hframe⟩
  jvm_step X.here [X.here.top, hx, hb, hdg, hmeth', hr, ret, narrow_b1]
  (try refine ⟨rfl, ?_⟩); (try refine ⟨rfl, ?_⟩)
  first | (intro acts; rw [hret _ acts rfl rfl rfl]) | rw [hret _ _ rfl rfl rfl]
  exact Steps.refl _
/-- what holds at the law's entry: the machine, the code, the tables' words (any of lw_tbl by 'hts w (by decide +kernel)'), the script of L ints xs at the cell b, what the Statement gives of the start (any of its parts by flat_of_before) -/
def lw_At (p : Program) (s : State) (m : MethodId) (meth : Method) (c : Code) (b L : Nat) (xs : Nat → Int32) : Prop :=
  p.tables.exec = Jvm.exec ∧ c.code = code ∧ meth.sig.returnType = ret ∧ c.maxLocals = 9 ∧ s.vm.findClass R_law = some m.cls ∧ (∀ w ∈ lw_tbl, w.before #[Value.ref b] s = true) ∧ va_X b L xs s s.heap ∧ b < s.heap.size ∧ meth.locks = false ∧ (Jvm.Cond.and given_1 narrow_1).before #[Value.ref b] s = true
section RowsM
variable {p : Program} {l : Launch} {e : Env} {R : Room} {s : State} {m : MethodId} {args : Array Value} {below : List Frame} {meth : Method} {c : Code} {cells slots : Nat} {Q : State → Prop} {ls : Array Slot} {pc : Nat} {rest : List Value} {cc : ByteArray} {nL : Nat} {own : String} {D : va_G} {ad : Adr} {cy : Nat → ClassId} {A : Nat → Prop} {H0 : Heap} {o : Nat → Int64} {S : Mem} {H : Heap} {locs : List Loc}
theorem hSi {y : MethodName} {ws : List Cond} {rm : Room} {index maxL n mc ms : Nat} {bytes : ByteArray} {rt : Option FieldType} {hh : List (Nat × Nat × Nat × Nat)} {As st0 : List Value} {Q1 : Mem → (Nat → Int64) → Int32 → Prop} (hM : CallFix p m c cc nL s args lw_all own) (hK : KW D cy s) (hX : PW D ad cy A H0 o S H locs) (hA : ∀ q, H0.size ≤ q → A q) (hT : TX s) (hZ : TZ A s H0) (hN : NC s) (hC : Li l y ws rm D ad cy As S o Q1 mc ms) (cw : vx_CSW R s args own index y bytes maxL rt hh ws rm mc ms n) (hn : As.length = n) (hsz : ls.size = nL) (hst : st0 = As.reverse ++ rest) (hW : (rest.map fun v => v.category).sum ≤ 8) (hdg : decode cc pc = .ok (.invokestatic index, 3)) (hf : cells + mc ≤ R.cells ∧ slots + ms ≤ R.slots)
    (kk : ∀ (S1 : Mem) (o1 : Nat → Int64) (r1 : Int32), Q1 S1 o1 r1 → ∀ (H1 : Heap) (locs1 : List Loc), PW D ad cy A H0 o1 S1 H1 locs1 → W p l e R s m args below meth c H1 locs1 (cells + mc) (slots + ms) Q (F0 m (pc + 3) ls (.int r1 :: rest))) : W p l e R s m args below meth c H locs cells slots Q (F0 m pc ls st0) := by
  have hF := AW_le hX.2.1 hX.2.2 hA
  refine va_calli (vx_runSW (As := As) (rest := rest) hM (hC H.size) cw ⟨PreL_blind, fun U hU hW => ⟨rfl, ⟨⟨by rw [hU], by rw [hU]; exact hX.1, hK.warm hW, hX.2.1.weaken (fun _ _ _ _ => trivial)⟩, hT.warm hW, by rw [hU]; exact ((hZ.kept (fun a h h9 => hX.2.2.2.1 a h h9)).narrow hF).moved hW.alike⟩, hN.moved hW.alike⟩⟩ rfl hn hsz hst (lv_room hW) hdg hf) hX.2.2 (fun q _ h => hF q h) hF (fun r1 u t H1 locs1 ht hvm hw hB hz1 hk1 hS1 => ?_)
  rw [ht] at hB
  exact kk u.1 u.2 r1 hw H1 locs1 ⟨hB, wd_D hX.2.1, hS1⟩
theorem cVd {y : MethodName} {ws : List Cond} {rm : Room} {index maxL n : Nat} {bytes : ByteArray} {rt : Option FieldType} {C : String} {b : Nat} {As st0 : List Value} {Q1 : Mem → UInt64 → Prop} {d0 : Drawn} (hd0 : s.drawn.sameBut d0 lw_cs) (hM : CallFix p m c cc nL (s.setDrawn d0) args lw_all own) (hK : KW D cy (s.setDrawn d0)) (hX : PW D ad cy A H0 o S H locs) (hA : ∀ q, H0.size ≤ q → A q) (hC : Cd l y ws rm D ad cy (.ref b :: As) S Q1) (cw : CallW R (s.setDrawn d0) args own C index y bytes maxL rt ws rm 0 0 n) (hr : ∃ cell : Cell, H[b]? = some cell ∧ cell.vm.isStatics = false ∧ (s.setDrawn d0).vm.findClass C = some cell.cls) (hn : As.length = n) (hsz : ls.size = nL) (hst : st0 = As.reverse ++ .ref b :: rest) (hW : (rest.map fun v => v.category).sum ≤ 8) (hdg : decode cc pc = .ok (.invokevirtual index, 3)) (hf : cells ≤ R.cells ∧ slots ≤ R.slots)
    (kk : ∀ (S1 : Mem) (r1 : UInt64), Q1 S1 r1 → ∀ (H1 : Heap) (locs1 : List Loc), PW D ad cy A H0 o S1 H1 locs1 → ∀ d1 : Drawn, s.drawn.sameBut d1 lw_cs → W p l e R (s.setDrawn d1) m args below meth c H1 locs1 cells slots Q (F0 m (pc + 3) ls (.double r1 :: rest))) : W p l e R (s.setDrawn d0) m args below meth c H locs cells slots Q (F0 m pc ls st0) := by
  have hF := AW_le hX.2.1 hX.2.2 hA
  refine va_calldD hd0 (va_runV_D (As := As) (rest := rest) hM (hC o H.size) cw ⟨PreW_blind, hr, fun U hU hW => ⟨rfl, by rw [hU], by rw [hU]; exact hX.1, hK.warm hW, hX.2.1.weaken (fun _ _ _ _ => trivial)⟩⟩ rfl hn hsz hst (lv_room hW) hdg hf) hX.2.2 (fun q _ h => hF q h) hF (fun r1 u t H1 locs1 ht hvm hw hB hz1 hk1 hS1 d1 hd1 => ?_)
  rw [ht] at hB
  exact kk u r1 hw H1 locs1 ⟨hB, wd_D hX.2.1, hS1⟩ d1 hd1
theorem r_sld {b L i j : Nat} {xs : Nat → Int32} {x : Int32} (hM : CallFix p m c cc nL s args lw_all own) (hXs : va_X b L xs s H0) (hbl : b < H0.size) (hbA : ¬ A b) (hX : PW D ad cy A H0 o S H locs) (hL : L ≤ 2560) (hj : i + j < L) (hx : x = nI (i + j)) (hdg : decode cc pc = .ok (.iaload, 1)) (kk : W p l e R s m args below meth c H locs cells slots Q (F0 m (pc + 1) ls (.int (xs (i + j)) :: rest))) : W p l e R s m args below meth c H locs cells slots Q (F0 m pc ls (.int x :: .ref b :: rest)) := by
  subst hx
  refine va_sld hM.1 hM.2.1 hXs hbl hbA hX.2.2 (vp_in_nI hj (by omega)) hdg ?_
  rw [nI_clamp (by omega)]
  exact kk
end RowsM
theorem ni_1 (i : Nat) : nI i + (1 : Int32) = nI (i + 1) := nI_add i 1
theorem ni_2 (i : Nat) : nI i + (2 : Int32) = nI (i + 2) := nI_add i 2
theorem ni_3 (i : Nat) : nI i + (3 : Int32) = nI (i + 3) := nI_add i 3
theorem ni_4 (i : Nat) : nI i + (4 : Int32) = nI (i + 4) := nI_add i 4
theorem ni_5 (i : Nat) : nI i + (5 : Int32) = nI (i + 5) := nI_add i 5
theorem lt_ge0 {x : Int32} (h : x < 0) (i : Nat) (hi : i < 2 ^ 31) : x < nI i := by
  have h0 : (0 : Int32) ≤ nI i := nI_pos' hi
  exact Int32.lt_of_lt_of_le h h0
set_option maxRecDepth 100000 in
set_option maxHeartbeats 4000000 in
theorem law_c0 {p : Program} {l : Launch} {e : Env} {s : State} {m : MethodId} {below : List Frame} {meth : Method} {c : Code} {D : va_G} {ad : Adr} {cy : Nat → ClassId} {b L : Nat} {xs : Nat → Int32} (hl9 : l.stackTraces = false) (hL : L ≤ 2560) (hMM : ∀ d : Drawn, CallFix p m c cL_law 9 (s.setDrawn d) #[Value.ref b] lw_all RL) (hKK : KW D cy s) (hT0 : TX s) (hZ0 : TZ (fun q : Nat => s.heap.size ≤ q) s s.heap) (hN0 : NC s) (hXs0 : va_X b L xs s s.heap) (hbl : b < s.heap.size) {i : Nat} (hi : i + 5 ≤ L) {K : Mem → (Nat → Int64) → Prop} (J : ∀ (S : Mem) (o : Nat → Int64), K S o → ∀ (H : Heap) (locs : List Loc) (ls : Array Slot) (d0 : Drawn), s.drawn.sameBut d0 lw_cs → PW D ad cy (fun q : Nat => s.heap.size ≤ q) s.heap o S H locs → lv_has ls 9 [(4, .int (nI i)), (0, .ref b), (1, .ref (ad 14 0 0)), (2, .ref (ad 15 0 0)), (3, .ref (ad 28 0 0))] → W p l e room_1 (s.setDrawn d0) m #[Value.ref b] below meth c H locs (500 + (i + 5)) (8000 + 6 * (i + 5)) (lw_Z below #[Value.ref b] s) (F0 m 1576 ls [])) (S : Mem) (o : Nat → Int64) (hq : vc_call0 xs i S o K) (H : Heap) (locs : List Loc) (ls : Array Slot) (d0 : Drawn) (hd0 : s.drawn.sameBut d0 lw_cs) (hX : PW D ad cy (fun q : Nat => s.heap.size ≤ q) s.heap o S H locs) (hl : lv_has ls 9 [(4, .int (nI i)), (0, .ref b), (1, .ref (ad 14 0 0)), (2, .ref (ad 15 0 0)), (3, .ref (ad 28 0 0))]) : W p l e room_1 (s.setDrawn d0) m #[Value.ref b] below meth c H locs (500 + i) (8000 + 6 * i) (lw_Z below #[Value.ref b] s) (F0 m 152 ls []) := by
  have hA : ∀ q : Nat, s.heap.size ≤ q → (fun q : Nat => s.heap.size ≤ q) q := fun _ h => h
  have hbA : ¬ (fun q : Nat => s.heap.size ≤ q) b := Nat.not_le.mpr hbl
  have hM := hMM d0
  have hK : KW D cy (s.setDrawn d0) := hKK
  have hT : TX (s.setDrawn d0) := TX.same (u := s) (U := s.setDrawn d0) rfl hT0
  have hZ : TZ (fun q : Nat => s.heap.size ≤ q) (s.setDrawn d0) s.heap := hZ0
  have hN : NC (s.setDrawn d0) := hN0
  have hXs : va_X b L xs (s.setDrawn d0) s.heap := hXs0
  unfold vc_call0 at hq
  refine lv_aload_n hM.1 hM.2.1 dL_law_152 rfl (lv_at hl 2 rfl) ?_
  refine lv_aload_n hM.1 hM.2.1 dL_law_153 rfl (lv_at hl 1 rfl) ?_
  refine lv_iload hM.1 hM.2.1 dL_law_154 (lv_at hl 0 rfl) ?_
  refine lv_iconst (v := (1 : Int32)) hM.1 hM.2.1 dL_law_156 (by decide) ?_
  refine lv_iadd hM.1 hM.2.1 dL_law_157 ?_
  refine r_sld (j := 1) hM hXs hbl hbA hX hL (by omega) (ni_1 i) dL_law_158 ?_
  refine lv_aload_n hM.1 hM.2.1 dL_law_159 rfl (lv_at hl 1 rfl) ?_
  refine lv_iload hM.1 hM.2.1 dL_law_160 (lv_at hl 0 rfl) ?_
  refine lv_iconst (v := (2 : Int32)) hM.1 hM.2.1 dL_law_162 (by decide) ?_
  refine lv_iadd hM.1 hM.2.1 dL_law_163 ?_
  refine r_sld (j := 2) hM hXs hbl hbA hX hL (by omega) (ni_2 i) dL_law_164 ?_
  refine lv_aload_n hM.1 hM.2.1 dL_law_165 rfl (lv_at hl 1 rfl) ?_
  refine lv_iload hM.1 hM.2.1 dL_law_166 (lv_at hl 0 rfl) ?_
  refine lv_iconst (v := (3 : Int32)) hM.1 hM.2.1 dL_law_168 (by decide) ?_
  refine lv_iadd hM.1 hM.2.1 dL_law_169 ?_
  refine r_sld (j := 3) hM hXs hbl hbA hX hL (by omega) (ni_3 i) dL_law_170 ?_
  refine lv_aload_n hM.1 hM.2.1 dL_law_171 rfl (lv_at hl 1 rfl) ?_
  refine lv_iload hM.1 hM.2.1 dL_law_172 (lv_at hl 0 rfl) ?_
  refine lv_iconst (v := (4 : Int32)) hM.1 hM.2.1 dL_law_174 (by decide) ?_
  refine lv_iadd hM.1 hM.2.1 dL_law_175 ?_
  refine r_sld (j := 4) hM hXs hbl hbA hX hL (by omega) (ni_4 i) dL_law_176 ?_
  refine lv_aload_n hM.1 hM.2.1 dL_law_177 rfl (lv_at hl 4 rfl) ?_
  refine hSi (As := [.ref (ad 14 0 0), .int (xs (i + 1)), .int (xs (i + 2)), .int (xs (i + 3)), .int (xs (i + 4)), .ref (ad 28 0 0)]) hM hK hX hA hT hZ hN (met_L_thermometer l hl9 D ad cy S o (xs (i + 1)) (xs (i + 2)) (xs (i + 3)) (xs (i + 4)) hq) (kL_thermometer hM.2.2.2.2 ql_RL_87 (Nat.le_of_ble_eq_true rfl) (Nat.le_of_ble_eq_true rfl)) rfl hl.1 rfl (Nat.le_of_ble_eq_true rfl) dL_law_178 ⟨by show _ ≤ 601024; omega, by show _ ≤ 7293034; omega⟩ (fun S_1 o_2 r_3 hq H locs hX => ?_)
  refine lv_istore (lv' := [(5, .int r_3), (4, .int (nI i)), (0, .ref b), (1, .ref (ad 14 0 0)), (2, .ref (ad 15 0 0)), (3, .ref (ad 28 0 0))]) hM.1 hM.2.1 dL_law_181 hl (by decide) rfl (fun ls hl => ?_)
  refine lv_aload_n hM.1 hM.2.1 dL_law_183 rfl (lv_at hl 4 rfl) ?_
  refine lv_aload_n hM.1 hM.2.1 dL_law_184 rfl (lv_at hl 2 rfl) ?_
  refine lv_iload hM.1 hM.2.1 dL_law_185 (lv_at hl 1 rfl) ?_
  refine lv_iconst (v := (1 : Int32)) hM.1 hM.2.1 dL_law_187 (by decide) ?_
  refine lv_iadd hM.1 hM.2.1 dL_law_188 ?_
  refine r_sld (j := 1) hM hXs hbl hbA hX hL (by omega) (ni_1 i) dL_law_189 ?_
  refine lv_aload_n hM.1 hM.2.1 dL_law_190 rfl (lv_at hl 2 rfl) ?_
  refine lv_iload hM.1 hM.2.1 dL_law_191 (lv_at hl 1 rfl) ?_
  refine lv_iconst (v := (2 : Int32)) hM.1 hM.2.1 dL_law_193 (by decide) ?_
  refine lv_iadd hM.1 hM.2.1 dL_law_194 ?_
  refine r_sld (j := 2) hM hXs hbl hbA hX hL (by omega) (ni_2 i) dL_law_195 ?_
  refine lv_aload_n hM.1 hM.2.1 dL_law_196 rfl (lv_at hl 2 rfl) ?_
  refine lv_iload hM.1 hM.2.1 dL_law_197 (lv_at hl 1 rfl) ?_
  refine lv_iconst (v := (3 : Int32)) hM.1 hM.2.1 dL_law_199 (by decide) ?_
  refine lv_iadd hM.1 hM.2.1 dL_law_200 ?_
  refine r_sld (j := 3) hM hXs hbl hbA hX hL (by omega) (ni_3 i) dL_law_201 ?_
  refine lv_aload_n hM.1 hM.2.1 dL_law_202 rfl (lv_at hl 2 rfl) ?_
  refine lv_iload hM.1 hM.2.1 dL_law_203 (lv_at hl 1 rfl) ?_
  refine lv_iconst (v := (4 : Int32)) hM.1 hM.2.1 dL_law_205 (by decide) ?_
  refine lv_iadd hM.1 hM.2.1 dL_law_206 ?_
  refine r_sld (j := 4) hM hXs hbl hbA hX hL (by omega) (ni_4 i) dL_law_207 ?_
  refine cVi (As := [.int (xs (i + 1)), .int (xs (i + 2)), .int (xs (i + 3)), .int (xs (i + 4))]) hM hK hX hA (met_X7_thermometer l D ad cy S_1 (xs (i + 1)) (xs (i + 2)) (xs (i + 3)) (xs (i + 4)) hq) (kX7_thermometer hM.2.2.2.2 ql_RL_92 (Nat.le_of_ble_eq_true rfl) (Nat.le_of_ble_eq_true rfl)) (v15 hK hX m15) rfl hl.1 rfl (Nat.le_of_ble_eq_true rfl) dL_law_208 ⟨by show _ ≤ 601024; omega, by show _ ≤ 7293034; omega⟩ (fun S_4 r_5 hq H locs hX => ?_)
  refine lv_istore (lv' := [(6, .int r_5), (5, .int r_3), (4, .int (nI i)), (0, .ref b), (1, .ref (ad 14 0 0)), (2, .ref (ad 15 0 0)), (3, .ref (ad 28 0 0))]) hM.1 hM.2.1 dL_law_211 hl (by decide) rfl (fun ls hl => ?_)
  refine lv_aload_n hM.1 hM.2.1 dL_law_213 rfl (lv_at hl 5 rfl) ?_
  refine cVi (As := []) hM hK hX hA (met_X7_thrown l D ad cy S_4 hq) (kX7_thrown hM.2.2.2.2 ql_RL_93 (Nat.le_of_ble_eq_true rfl) (Nat.le_of_ble_eq_true rfl)) (v15 hK hX m15) rfl hl.1 rfl (Nat.le_of_ble_eq_true rfl) dL_law_214 ⟨by show _ ≤ 601024; omega, by show _ ≤ 7293034; omega⟩ (fun S_6 r_7 hq H locs hX => ?_)
  refine lv_iload hM.1 hM.2.1 dL_law_217 (lv_at hl 1 rfl) ?_
  refine lv_icmp_eq (tgt := 224) hM.1 hM.2.1 dL_law_219 (by decide) (fun c_8 => ?_) (fun c_8 => ?_)
  · replace hq := hq.1 c_8
    refine lv_iload hM.1 hM.2.1 dL_law_224 (lv_at hl 1 rfl) ?_
    refine lv_if_ne (tgt := 241) hM.1 hM.2.1 dL_law_226 (by decide) (fun c_9 => ?_) (fun c_9 => ?_)
    · replace hq := hq.1 c_9
      refine lv_goto (tgt := 1576) hM.1 hM.2.1 dL_law_241 (by decide) ?_
      refine W.widen (k := 500 + (i + 5)) (n := 8000 + 6 * (i + 5)) (by omega) (by omega) ?_
      exact J S_6 o_2 hq H locs ls d0 hd0 hX (lv_sub hl [2, 3, 4, 5, 6] rfl)
    replace hq := hq.2 c_9
    refine lv_aload_n hM.1 hM.2.1 dL_law_229 rfl (lv_at hl 6 rfl) ?_
    refine lv_iconst (v := (0 : Int32)) hM.1 hM.2.1 dL_law_230 (by decide) ?_
    refine r_lald hM hK hX dL_law_231 ?_
    refine lv_iload hM.1 hM.2.1 dL_law_232 (lv_at hl 0 rfl) ?_
    refine lv_i2l hM.1 hM.2.1 dL_law_234 rfl ?_
    refine W.lcmp hM.1 hM.2.1 dL_law_235 ?_
    refine lv_if_eq (tgt := 241) hM.1 hM.2.1 dL_law_236 (by decide) (fun c_11 => ?_) (fun c_11 => ?_)
    · replace hq := hq.1 c_11
      refine lv_goto (tgt := 1576) hM.1 hM.2.1 dL_law_241 (by decide) ?_
      refine W.widen (k := 500 + (i + 5)) (n := 8000 + 6 * (i + 5)) (by omega) (by omega) ?_
      exact J S_6 o_2 hq H locs ls d0 hd0 hX (lv_sub hl [2, 3, 4, 5, 6] rfl)
    replace hq := hq.2 c_11
    exact hq.elim
  replace hq := hq.2 c_8
  exact hq.elim
set_option maxRecDepth 100000 in
set_option maxHeartbeats 4000000 in
theorem law_c1 {p : Program} {l : Launch} {e : Env} {s : State} {m : MethodId} {below : List Frame} {meth : Method} {c : Code} {D : va_G} {ad : Adr} {cy : Nat → ClassId} {b L : Nat} {xs : Nat → Int32} (hl9 : l.stackTraces = false) (hL : L ≤ 2560) (hMM : ∀ d : Drawn, CallFix p m c cL_law 9 (s.setDrawn d) #[Value.ref b] lw_all RL) (hKK : KW D cy s) (hT0 : TX s) (hZ0 : TZ (fun q : Nat => s.heap.size ≤ q) s s.heap) (hN0 : NC s) (hXs0 : va_X b L xs s s.heap) (hbl : b < s.heap.size) {i : Nat} (hi : i + 5 ≤ L) {K : Mem → (Nat → Int64) → Prop} (J : ∀ (S : Mem) (o : Nat → Int64), K S o → ∀ (H : Heap) (locs : List Loc) (ls : Array Slot) (d0 : Drawn), s.drawn.sameBut d0 lw_cs → PW D ad cy (fun q : Nat => s.heap.size ≤ q) s.heap o S H locs → lv_has ls 9 [(4, .int (nI i)), (0, .ref b), (1, .ref (ad 14 0 0)), (2, .ref (ad 15 0 0)), (3, .ref (ad 28 0 0))] → W p l e room_1 (s.setDrawn d0) m #[Value.ref b] below meth c H locs (500 + (i + 5)) (8000 + 6 * (i + 5)) (lw_Z below #[Value.ref b] s) (F0 m 1576 ls [])) (S : Mem) (o : Nat → Int64) (hq : vc_call1 xs i S o K) (H : Heap) (locs : List Loc) (ls : Array Slot) (d0 : Drawn) (hd0 : s.drawn.sameBut d0 lw_cs) (hX : PW D ad cy (fun q : Nat => s.heap.size ≤ q) s.heap o S H locs) (hl : lv_has ls 9 [(4, .int (nI i)), (0, .ref b), (1, .ref (ad 14 0 0)), (2, .ref (ad 15 0 0)), (3, .ref (ad 28 0 0))]) : W p l e room_1 (s.setDrawn d0) m #[Value.ref b] below meth c H locs (500 + i) (8000 + 6 * i) (lw_Z below #[Value.ref b] s) (F0 m 244 ls []) := by
  have hA : ∀ q : Nat, s.heap.size ≤ q → (fun q : Nat => s.heap.size ≤ q) q := fun _ h => h
  have hbA : ¬ (fun q : Nat => s.heap.size ≤ q) b := Nat.not_le.mpr hbl
  have hM := hMM d0
  have hK : KW D cy (s.setDrawn d0) := hKK
  have hT : TX (s.setDrawn d0) := TX.same (u := s) (U := s.setDrawn d0) rfl hT0
  have hZ : TZ (fun q : Nat => s.heap.size ≤ q) (s.setDrawn d0) s.heap := hZ0
  have hN : NC (s.setDrawn d0) := hN0
  have hXs : va_X b L xs (s.setDrawn d0) s.heap := hXs0
  unfold vc_call1 at hq
  refine lv_aload_n hM.1 hM.2.1 dL_law_244 rfl (lv_at hl 2 rfl) ?_
  refine lv_aload_n hM.1 hM.2.1 dL_law_245 rfl (lv_at hl 1 rfl) ?_
  refine lv_iload hM.1 hM.2.1 dL_law_246 (lv_at hl 0 rfl) ?_
  refine lv_iconst (v := (1 : Int32)) hM.1 hM.2.1 dL_law_248 (by decide) ?_
  refine lv_iadd hM.1 hM.2.1 dL_law_249 ?_
  refine r_sld (j := 1) hM hXs hbl hbA hX hL (by omega) (ni_1 i) dL_law_250 ?_
  refine lv_aload_n hM.1 hM.2.1 dL_law_251 rfl (lv_at hl 4 rfl) ?_
  refine hSi (As := [.ref (ad 14 0 0), .int (xs (i + 1)), .ref (ad 28 0 0)]) hM hK hX hA hT hZ hN (met_L_hour l hl9 D ad cy S o (xs (i + 1)) hq) (kL_hour hM.2.2.2.2 ql_RL_96 (Nat.le_of_ble_eq_true rfl) (Nat.le_of_ble_eq_true rfl)) rfl hl.1 rfl (Nat.le_of_ble_eq_true rfl) dL_law_252 ⟨by show _ ≤ 601024; omega, by show _ ≤ 7293034; omega⟩ (fun S_12 o_13 r_14 hq H locs hX => ?_)
  refine lv_istore (lv' := [(5, .int r_14), (4, .int (nI i)), (0, .ref b), (1, .ref (ad 14 0 0)), (2, .ref (ad 15 0 0)), (3, .ref (ad 28 0 0))]) hM.1 hM.2.1 dL_law_255 hl (by decide) rfl (fun ls hl => ?_)
  refine lv_aload_n hM.1 hM.2.1 dL_law_257 rfl (lv_at hl 4 rfl) ?_
  refine lv_aload_n hM.1 hM.2.1 dL_law_258 rfl (lv_at hl 2 rfl) ?_
  refine lv_iload hM.1 hM.2.1 dL_law_259 (lv_at hl 1 rfl) ?_
  refine lv_iconst (v := (1 : Int32)) hM.1 hM.2.1 dL_law_261 (by decide) ?_
  refine lv_iadd hM.1 hM.2.1 dL_law_262 ?_
  refine r_sld (j := 1) hM hXs hbl hbA hX hL (by omega) (ni_1 i) dL_law_263 ?_
  refine cVi (As := [.int (xs (i + 1))]) hM hK hX hA (met_X7_hour l D ad cy S_12 (xs (i + 1)) hq) (kX7_hour hM.2.2.2.2 ql_RL_99 (Nat.le_of_ble_eq_true rfl) (Nat.le_of_ble_eq_true rfl)) (v15 hK hX m15) rfl hl.1 rfl (Nat.le_of_ble_eq_true rfl) dL_law_264 ⟨by show _ ≤ 601024; omega, by show _ ≤ 7293034; omega⟩ (fun S_15 r_16 hq H locs hX => ?_)
  refine lv_istore (lv' := [(6, .int r_16), (5, .int r_14), (4, .int (nI i)), (0, .ref b), (1, .ref (ad 14 0 0)), (2, .ref (ad 15 0 0)), (3, .ref (ad 28 0 0))]) hM.1 hM.2.1 dL_law_267 hl (by decide) rfl (fun ls hl => ?_)
  refine lv_aload_n hM.1 hM.2.1 dL_law_269 rfl (lv_at hl 5 rfl) ?_
  refine cVi (As := []) hM hK hX hA (met_X7_thrown l D ad cy S_15 hq) (kX7_thrown hM.2.2.2.2 ql_RL_93 (Nat.le_of_ble_eq_true rfl) (Nat.le_of_ble_eq_true rfl)) (v15 hK hX m15) rfl hl.1 rfl (Nat.le_of_ble_eq_true rfl) dL_law_270 ⟨by show _ ≤ 601024; omega, by show _ ≤ 7293034; omega⟩ (fun S_17 r_18 hq H locs hX => ?_)
  refine lv_iload hM.1 hM.2.1 dL_law_273 (lv_at hl 1 rfl) ?_
  refine lv_icmp_eq (tgt := 280) hM.1 hM.2.1 dL_law_275 (by decide) (fun c_19 => ?_) (fun c_19 => ?_)
  · replace hq := hq.1 c_19
    refine lv_iload hM.1 hM.2.1 dL_law_280 (lv_at hl 1 rfl) ?_
    refine lv_if_ne (tgt := 297) hM.1 hM.2.1 dL_law_282 (by decide) (fun c_20 => ?_) (fun c_20 => ?_)
    · replace hq := hq.1 c_20
      refine lv_goto (tgt := 1576) hM.1 hM.2.1 dL_law_297 (by decide) ?_
      refine W.widen (k := 500 + (i + 5)) (n := 8000 + 6 * (i + 5)) (by omega) (by omega) ?_
      exact J S_17 o_13 hq H locs ls d0 hd0 hX (lv_sub hl [2, 3, 4, 5, 6] rfl)
    replace hq := hq.2 c_20
    refine lv_aload_n hM.1 hM.2.1 dL_law_285 rfl (lv_at hl 6 rfl) ?_
    refine lv_iconst (v := (0 : Int32)) hM.1 hM.2.1 dL_law_286 (by decide) ?_
    refine r_lald hM hK hX dL_law_287 ?_
    refine lv_iload hM.1 hM.2.1 dL_law_288 (lv_at hl 0 rfl) ?_
    refine lv_i2l hM.1 hM.2.1 dL_law_290 rfl ?_
    refine W.lcmp hM.1 hM.2.1 dL_law_291 ?_
    refine lv_if_eq (tgt := 297) hM.1 hM.2.1 dL_law_292 (by decide) (fun c_22 => ?_) (fun c_22 => ?_)
    · replace hq := hq.1 c_22
      refine lv_goto (tgt := 1576) hM.1 hM.2.1 dL_law_297 (by decide) ?_
      refine W.widen (k := 500 + (i + 5)) (n := 8000 + 6 * (i + 5)) (by omega) (by omega) ?_
      exact J S_17 o_13 hq H locs ls d0 hd0 hX (lv_sub hl [2, 3, 4, 5, 6] rfl)
    replace hq := hq.2 c_22
    exact hq.elim
  replace hq := hq.2 c_19
  exact hq.elim
set_option maxRecDepth 100000 in
set_option maxHeartbeats 4000000 in
theorem law_c2 {p : Program} {l : Launch} {e : Env} {s : State} {m : MethodId} {below : List Frame} {meth : Method} {c : Code} {D : va_G} {ad : Adr} {cy : Nat → ClassId} {b L : Nat} {xs : Nat → Int32} (hl9 : l.stackTraces = false) (hL : L ≤ 2560) (hMM : ∀ d : Drawn, CallFix p m c cL_law 9 (s.setDrawn d) #[Value.ref b] lw_all RL) (hKK : KW D cy s) (hT0 : TX s) (hZ0 : TZ (fun q : Nat => s.heap.size ≤ q) s s.heap) (hN0 : NC s) (hXs0 : va_X b L xs s s.heap) (hbl : b < s.heap.size) {i : Nat} (hi : i + 5 ≤ L) {K : Mem → (Nat → Int64) → Prop} (J : ∀ (S : Mem) (o : Nat → Int64), K S o → ∀ (H : Heap) (locs : List Loc) (ls : Array Slot) (d0 : Drawn), s.drawn.sameBut d0 lw_cs → PW D ad cy (fun q : Nat => s.heap.size ≤ q) s.heap o S H locs → lv_has ls 9 [(4, .int (nI i)), (0, .ref b), (1, .ref (ad 14 0 0)), (2, .ref (ad 15 0 0)), (3, .ref (ad 28 0 0))] → W p l e room_1 (s.setDrawn d0) m #[Value.ref b] below meth c H locs (500 + (i + 5)) (8000 + 6 * (i + 5)) (lw_Z below #[Value.ref b] s) (F0 m 1576 ls [])) (S : Mem) (o : Nat → Int64) (hq : vc_call2 xs i S o K) (H : Heap) (locs : List Loc) (ls : Array Slot) (d0 : Drawn) (hd0 : s.drawn.sameBut d0 lw_cs) (hX : PW D ad cy (fun q : Nat => s.heap.size ≤ q) s.heap o S H locs) (hl : lv_has ls 9 [(4, .int (nI i)), (0, .ref b), (1, .ref (ad 14 0 0)), (2, .ref (ad 15 0 0)), (3, .ref (ad 28 0 0))]) : W p l e room_1 (s.setDrawn d0) m #[Value.ref b] below meth c H locs (500 + i) (8000 + 6 * i) (lw_Z below #[Value.ref b] s) (F0 m 300 ls []) := by
  have hA : ∀ q : Nat, s.heap.size ≤ q → (fun q : Nat => s.heap.size ≤ q) q := fun _ h => h
  have hbA : ¬ (fun q : Nat => s.heap.size ≤ q) b := Nat.not_le.mpr hbl
  have hM := hMM d0
  have hK : KW D cy (s.setDrawn d0) := hKK
  have hT : TX (s.setDrawn d0) := TX.same (u := s) (U := s.setDrawn d0) rfl hT0
  have hZ : TZ (fun q : Nat => s.heap.size ≤ q) (s.setDrawn d0) s.heap := hZ0
  have hN : NC (s.setDrawn d0) := hN0
  have hXs : va_X b L xs (s.setDrawn d0) s.heap := hXs0
  unfold vc_call2 at hq
  refine lv_aload_n hM.1 hM.2.1 dL_law_300 rfl (lv_at hl 2 rfl) ?_
  refine lv_aload_n hM.1 hM.2.1 dL_law_301 rfl (lv_at hl 1 rfl) ?_
  refine lv_iload hM.1 hM.2.1 dL_law_302 (lv_at hl 0 rfl) ?_
  refine lv_iconst (v := (1 : Int32)) hM.1 hM.2.1 dL_law_304 (by decide) ?_
  refine lv_iadd hM.1 hM.2.1 dL_law_305 ?_
  refine r_sld (j := 1) hM hXs hbl hbA hX hL (by omega) (ni_1 i) dL_law_306 ?_
  refine lv_aload_n hM.1 hM.2.1 dL_law_307 rfl (lv_at hl 1 rfl) ?_
  refine lv_iload hM.1 hM.2.1 dL_law_308 (lv_at hl 0 rfl) ?_
  refine lv_iconst (v := (2 : Int32)) hM.1 hM.2.1 dL_law_310 (by decide) ?_
  refine lv_iadd hM.1 hM.2.1 dL_law_311 ?_
  refine r_sld (j := 2) hM hXs hbl hbA hX hL (by omega) (ni_2 i) dL_law_312 ?_
  refine lv_aload_n hM.1 hM.2.1 dL_law_313 rfl (lv_at hl 4 rfl) ?_
  refine hSi (As := [.ref (ad 14 0 0), .int (xs (i + 1)), .int (xs (i + 2)), .ref (ad 28 0 0)]) hM hK hX hA hT hZ hN (met_L_hours l hl9 D ad cy S o (xs (i + 1)) (xs (i + 2)) hq) (kL_hours hM.2.2.2.2 ql_RL_100 (Nat.le_of_ble_eq_true rfl) (Nat.le_of_ble_eq_true rfl)) rfl hl.1 rfl (Nat.le_of_ble_eq_true rfl) dL_law_314 ⟨by show _ ≤ 601024; omega, by show _ ≤ 7293034; omega⟩ (fun S_23 o_24 r_25 hq H locs hX => ?_)
  refine lv_istore (lv' := [(5, .int r_25), (4, .int (nI i)), (0, .ref b), (1, .ref (ad 14 0 0)), (2, .ref (ad 15 0 0)), (3, .ref (ad 28 0 0))]) hM.1 hM.2.1 dL_law_317 hl (by decide) rfl (fun ls hl => ?_)
  refine lv_aload_n hM.1 hM.2.1 dL_law_319 rfl (lv_at hl 4 rfl) ?_
  refine lv_aload_n hM.1 hM.2.1 dL_law_320 rfl (lv_at hl 2 rfl) ?_
  refine lv_iload hM.1 hM.2.1 dL_law_321 (lv_at hl 1 rfl) ?_
  refine lv_iconst (v := (1 : Int32)) hM.1 hM.2.1 dL_law_323 (by decide) ?_
  refine lv_iadd hM.1 hM.2.1 dL_law_324 ?_
  refine r_sld (j := 1) hM hXs hbl hbA hX hL (by omega) (ni_1 i) dL_law_325 ?_
  refine lv_aload_n hM.1 hM.2.1 dL_law_326 rfl (lv_at hl 2 rfl) ?_
  refine lv_iload hM.1 hM.2.1 dL_law_327 (lv_at hl 1 rfl) ?_
  refine lv_iconst (v := (2 : Int32)) hM.1 hM.2.1 dL_law_329 (by decide) ?_
  refine lv_iadd hM.1 hM.2.1 dL_law_330 ?_
  refine r_sld (j := 2) hM hXs hbl hbA hX hL (by omega) (ni_2 i) dL_law_331 ?_
  refine cVi (As := [.int (xs (i + 1)), .int (xs (i + 2))]) hM hK hX hA (met_X7_hours l D ad cy S_23 (xs (i + 1)) (xs (i + 2)) hq) (kX7_hours hM.2.2.2.2 ql_RL_103 (Nat.le_of_ble_eq_true rfl) (Nat.le_of_ble_eq_true rfl)) (v15 hK hX m15) rfl hl.1 rfl (Nat.le_of_ble_eq_true rfl) dL_law_332 ⟨by show _ ≤ 601024; omega, by show _ ≤ 7293034; omega⟩ (fun S_26 r_27 hq H locs hX => ?_)
  refine lv_istore (lv' := [(6, .int r_27), (5, .int r_25), (4, .int (nI i)), (0, .ref b), (1, .ref (ad 14 0 0)), (2, .ref (ad 15 0 0)), (3, .ref (ad 28 0 0))]) hM.1 hM.2.1 dL_law_335 hl (by decide) rfl (fun ls hl => ?_)
  refine lv_aload_n hM.1 hM.2.1 dL_law_337 rfl (lv_at hl 5 rfl) ?_
  refine cVi (As := []) hM hK hX hA (met_X7_thrown l D ad cy S_26 hq) (kX7_thrown hM.2.2.2.2 ql_RL_93 (Nat.le_of_ble_eq_true rfl) (Nat.le_of_ble_eq_true rfl)) (v15 hK hX m15) rfl hl.1 rfl (Nat.le_of_ble_eq_true rfl) dL_law_338 ⟨by show _ ≤ 601024; omega, by show _ ≤ 7293034; omega⟩ (fun S_28 r_29 hq H locs hX => ?_)
  refine lv_iload hM.1 hM.2.1 dL_law_341 (lv_at hl 1 rfl) ?_
  refine lv_icmp_eq (tgt := 348) hM.1 hM.2.1 dL_law_343 (by decide) (fun c_30 => ?_) (fun c_30 => ?_)
  · replace hq := hq.1 c_30
    refine lv_iload hM.1 hM.2.1 dL_law_348 (lv_at hl 1 rfl) ?_
    refine lv_if_ne (tgt := 365) hM.1 hM.2.1 dL_law_350 (by decide) (fun c_31 => ?_) (fun c_31 => ?_)
    · replace hq := hq.1 c_31
      refine lv_goto (tgt := 1576) hM.1 hM.2.1 dL_law_365 (by decide) ?_
      refine W.widen (k := 500 + (i + 5)) (n := 8000 + 6 * (i + 5)) (by omega) (by omega) ?_
      exact J S_28 o_24 hq H locs ls d0 hd0 hX (lv_sub hl [2, 3, 4, 5, 6] rfl)
    replace hq := hq.2 c_31
    refine lv_aload_n hM.1 hM.2.1 dL_law_353 rfl (lv_at hl 6 rfl) ?_
    refine lv_iconst (v := (0 : Int32)) hM.1 hM.2.1 dL_law_354 (by decide) ?_
    refine r_lald hM hK hX dL_law_355 ?_
    refine lv_iload hM.1 hM.2.1 dL_law_356 (lv_at hl 0 rfl) ?_
    refine lv_i2l hM.1 hM.2.1 dL_law_358 rfl ?_
    refine W.lcmp hM.1 hM.2.1 dL_law_359 ?_
    refine lv_if_eq (tgt := 365) hM.1 hM.2.1 dL_law_360 (by decide) (fun c_33 => ?_) (fun c_33 => ?_)
    · replace hq := hq.1 c_33
      refine lv_goto (tgt := 1576) hM.1 hM.2.1 dL_law_365 (by decide) ?_
      refine W.widen (k := 500 + (i + 5)) (n := 8000 + 6 * (i + 5)) (by omega) (by omega) ?_
      exact J S_28 o_24 hq H locs ls d0 hd0 hX (lv_sub hl [2, 3, 4, 5, 6] rfl)
    replace hq := hq.2 c_33
    exact hq.elim
  replace hq := hq.2 c_30
  exact hq.elim
set_option maxRecDepth 100000 in
set_option maxHeartbeats 4000000 in
theorem law_c3 {p : Program} {l : Launch} {e : Env} {s : State} {m : MethodId} {below : List Frame} {meth : Method} {c : Code} {D : va_G} {ad : Adr} {cy : Nat → ClassId} {b L : Nat} {xs : Nat → Int32} (hl9 : l.stackTraces = false) (hL : L ≤ 2560) (hMM : ∀ d : Drawn, CallFix p m c cL_law 9 (s.setDrawn d) #[Value.ref b] lw_all RL) (hKK : KW D cy s) (hT0 : TX s) (hZ0 : TZ (fun q : Nat => s.heap.size ≤ q) s s.heap) (hN0 : NC s) (hXs0 : va_X b L xs s s.heap) (hbl : b < s.heap.size) {i : Nat} (hi : i + 5 ≤ L) {K : Mem → (Nat → Int64) → Prop} (J : ∀ (S : Mem) (o : Nat → Int64), K S o → ∀ (H : Heap) (locs : List Loc) (ls : Array Slot) (d0 : Drawn), s.drawn.sameBut d0 lw_cs → PW D ad cy (fun q : Nat => s.heap.size ≤ q) s.heap o S H locs → lv_has ls 9 [(4, .int (nI i)), (0, .ref b), (1, .ref (ad 14 0 0)), (2, .ref (ad 15 0 0)), (3, .ref (ad 28 0 0))] → W p l e room_1 (s.setDrawn d0) m #[Value.ref b] below meth c H locs (500 + (i + 5)) (8000 + 6 * (i + 5)) (lw_Z below #[Value.ref b] s) (F0 m 1576 ls [])) (S : Mem) (o : Nat → Int64) (hq : vc_call3 xs i S o K) (H : Heap) (locs : List Loc) (ls : Array Slot) (d0 : Drawn) (hd0 : s.drawn.sameBut d0 lw_cs) (hX : PW D ad cy (fun q : Nat => s.heap.size ≤ q) s.heap o S H locs) (hl : lv_has ls 9 [(4, .int (nI i)), (0, .ref b), (1, .ref (ad 14 0 0)), (2, .ref (ad 15 0 0)), (3, .ref (ad 28 0 0))]) : W p l e room_1 (s.setDrawn d0) m #[Value.ref b] below meth c H locs (500 + i) (8000 + 6 * i) (lw_Z below #[Value.ref b] s) (F0 m 368 ls []) := by
  have hA : ∀ q : Nat, s.heap.size ≤ q → (fun q : Nat => s.heap.size ≤ q) q := fun _ h => h
  have hbA : ¬ (fun q : Nat => s.heap.size ≤ q) b := Nat.not_le.mpr hbl
  have hM := hMM d0
  have hK : KW D cy (s.setDrawn d0) := hKK
  have hT : TX (s.setDrawn d0) := TX.same (u := s) (U := s.setDrawn d0) rfl hT0
  have hZ : TZ (fun q : Nat => s.heap.size ≤ q) (s.setDrawn d0) s.heap := hZ0
  have hN : NC (s.setDrawn d0) := hN0
  have hXs : va_X b L xs (s.setDrawn d0) s.heap := hXs0
  unfold vc_call3 at hq
  refine lv_aload_n hM.1 hM.2.1 dL_law_368 rfl (lv_at hl 2 rfl) ?_
  refine lv_aload_n hM.1 hM.2.1 dL_law_369 rfl (lv_at hl 1 rfl) ?_
  refine lv_iload hM.1 hM.2.1 dL_law_370 (lv_at hl 0 rfl) ?_
  refine lv_iconst (v := (1 : Int32)) hM.1 hM.2.1 dL_law_372 (by decide) ?_
  refine lv_iadd hM.1 hM.2.1 dL_law_373 ?_
  refine r_sld (j := 1) hM hXs hbl hbA hX hL (by omega) (ni_1 i) dL_law_374 ?_
  refine lv_aload_n hM.1 hM.2.1 dL_law_375 rfl (lv_at hl 1 rfl) ?_
  refine lv_iload hM.1 hM.2.1 dL_law_376 (lv_at hl 0 rfl) ?_
  refine lv_iconst (v := (2 : Int32)) hM.1 hM.2.1 dL_law_378 (by decide) ?_
  refine lv_iadd hM.1 hM.2.1 dL_law_379 ?_
  refine r_sld (j := 2) hM hXs hbl hbA hX hL (by omega) (ni_2 i) dL_law_380 ?_
  refine lv_aload_n hM.1 hM.2.1 dL_law_381 rfl (lv_at hl 4 rfl) ?_
  refine hSi (As := [.ref (ad 14 0 0), .int (xs (i + 1)), .int (xs (i + 2)), .ref (ad 28 0 0)]) hM hK hX hA hT hZ hN (met_L_period l hl9 D ad cy S o (xs (i + 1)) (xs (i + 2)) hq) (kL_period hM.2.2.2.2 ql_RL_104 (Nat.le_of_ble_eq_true rfl) (Nat.le_of_ble_eq_true rfl)) rfl hl.1 rfl (Nat.le_of_ble_eq_true rfl) dL_law_382 ⟨by show _ ≤ 601024; omega, by show _ ≤ 7293034; omega⟩ (fun S_34 o_35 r_36 hq H locs hX => ?_)
  refine lv_istore (lv' := [(5, .int r_36), (4, .int (nI i)), (0, .ref b), (1, .ref (ad 14 0 0)), (2, .ref (ad 15 0 0)), (3, .ref (ad 28 0 0))]) hM.1 hM.2.1 dL_law_385 hl (by decide) rfl (fun ls hl => ?_)
  refine lv_aload_n hM.1 hM.2.1 dL_law_387 rfl (lv_at hl 4 rfl) ?_
  refine lv_aload_n hM.1 hM.2.1 dL_law_388 rfl (lv_at hl 2 rfl) ?_
  refine lv_iload hM.1 hM.2.1 dL_law_389 (lv_at hl 1 rfl) ?_
  refine lv_iconst (v := (1 : Int32)) hM.1 hM.2.1 dL_law_391 (by decide) ?_
  refine lv_iadd hM.1 hM.2.1 dL_law_392 ?_
  refine r_sld (j := 1) hM hXs hbl hbA hX hL (by omega) (ni_1 i) dL_law_393 ?_
  refine lv_aload_n hM.1 hM.2.1 dL_law_394 rfl (lv_at hl 2 rfl) ?_
  refine lv_iload hM.1 hM.2.1 dL_law_395 (lv_at hl 1 rfl) ?_
  refine lv_iconst (v := (2 : Int32)) hM.1 hM.2.1 dL_law_397 (by decide) ?_
  refine lv_iadd hM.1 hM.2.1 dL_law_398 ?_
  refine r_sld (j := 2) hM hXs hbl hbA hX hL (by omega) (ni_2 i) dL_law_399 ?_
  refine cVi (As := [.int (xs (i + 1)), .int (xs (i + 2))]) hM hK hX hA (met_X7_period l D ad cy S_34 (xs (i + 1)) (xs (i + 2)) hq) (kX7_period hM.2.2.2.2 ql_RL_106 (Nat.le_of_ble_eq_true rfl) (Nat.le_of_ble_eq_true rfl)) (v15 hK hX m15) rfl hl.1 rfl (Nat.le_of_ble_eq_true rfl) dL_law_400 ⟨by show _ ≤ 601024; omega, by show _ ≤ 7293034; omega⟩ (fun S_37 r_38 hq H locs hX => ?_)
  refine lv_istore (lv' := [(6, .int r_38), (5, .int r_36), (4, .int (nI i)), (0, .ref b), (1, .ref (ad 14 0 0)), (2, .ref (ad 15 0 0)), (3, .ref (ad 28 0 0))]) hM.1 hM.2.1 dL_law_403 hl (by decide) rfl (fun ls hl => ?_)
  refine lv_aload_n hM.1 hM.2.1 dL_law_405 rfl (lv_at hl 5 rfl) ?_
  refine cVi (As := []) hM hK hX hA (met_X7_thrown l D ad cy S_37 hq) (kX7_thrown hM.2.2.2.2 ql_RL_93 (Nat.le_of_ble_eq_true rfl) (Nat.le_of_ble_eq_true rfl)) (v15 hK hX m15) rfl hl.1 rfl (Nat.le_of_ble_eq_true rfl) dL_law_406 ⟨by show _ ≤ 601024; omega, by show _ ≤ 7293034; omega⟩ (fun S_39 r_40 hq H locs hX => ?_)
  refine lv_iload hM.1 hM.2.1 dL_law_409 (lv_at hl 1 rfl) ?_
  refine lv_icmp_eq (tgt := 416) hM.1 hM.2.1 dL_law_411 (by decide) (fun c_41 => ?_) (fun c_41 => ?_)
  · replace hq := hq.1 c_41
    refine lv_iload hM.1 hM.2.1 dL_law_416 (lv_at hl 1 rfl) ?_
    refine lv_if_ne (tgt := 433) hM.1 hM.2.1 dL_law_418 (by decide) (fun c_42 => ?_) (fun c_42 => ?_)
    · replace hq := hq.1 c_42
      refine lv_goto (tgt := 1576) hM.1 hM.2.1 dL_law_433 (by decide) ?_
      refine W.widen (k := 500 + (i + 5)) (n := 8000 + 6 * (i + 5)) (by omega) (by omega) ?_
      exact J S_39 o_35 hq H locs ls d0 hd0 hX (lv_sub hl [2, 3, 4, 5, 6] rfl)
    replace hq := hq.2 c_42
    refine lv_aload_n hM.1 hM.2.1 dL_law_421 rfl (lv_at hl 6 rfl) ?_
    refine lv_iconst (v := (0 : Int32)) hM.1 hM.2.1 dL_law_422 (by decide) ?_
    refine r_lald hM hK hX dL_law_423 ?_
    refine lv_iload hM.1 hM.2.1 dL_law_424 (lv_at hl 0 rfl) ?_
    refine lv_i2l hM.1 hM.2.1 dL_law_426 rfl ?_
    refine W.lcmp hM.1 hM.2.1 dL_law_427 ?_
    refine lv_if_eq (tgt := 433) hM.1 hM.2.1 dL_law_428 (by decide) (fun c_44 => ?_) (fun c_44 => ?_)
    · replace hq := hq.1 c_44
      refine lv_goto (tgt := 1576) hM.1 hM.2.1 dL_law_433 (by decide) ?_
      refine W.widen (k := 500 + (i + 5)) (n := 8000 + 6 * (i + 5)) (by omega) (by omega) ?_
      exact J S_39 o_35 hq H locs ls d0 hd0 hX (lv_sub hl [2, 3, 4, 5, 6] rfl)
    replace hq := hq.2 c_44
    exact hq.elim
  replace hq := hq.2 c_41
  exact hq.elim
set_option maxRecDepth 100000 in
set_option maxHeartbeats 4000000 in
theorem law_c4 {p : Program} {l : Launch} {e : Env} {s : State} {m : MethodId} {below : List Frame} {meth : Method} {c : Code} {D : va_G} {ad : Adr} {cy : Nat → ClassId} {b L : Nat} {xs : Nat → Int32} (hl9 : l.stackTraces = false) (hL : L ≤ 2560) (hMM : ∀ d : Drawn, CallFix p m c cL_law 9 (s.setDrawn d) #[Value.ref b] lw_all RL) (hKK : KW D cy s) (hT0 : TX s) (hZ0 : TZ (fun q : Nat => s.heap.size ≤ q) s s.heap) (hN0 : NC s) (hXs0 : va_X b L xs s s.heap) (hbl : b < s.heap.size) {i : Nat} (hi : i + 5 ≤ L) {K : Mem → (Nat → Int64) → Prop} (J : ∀ (S : Mem) (o : Nat → Int64), K S o → ∀ (H : Heap) (locs : List Loc) (ls : Array Slot) (d0 : Drawn), s.drawn.sameBut d0 lw_cs → PW D ad cy (fun q : Nat => s.heap.size ≤ q) s.heap o S H locs → lv_has ls 9 [(4, .int (nI i)), (0, .ref b), (1, .ref (ad 14 0 0)), (2, .ref (ad 15 0 0)), (3, .ref (ad 28 0 0))] → W p l e room_1 (s.setDrawn d0) m #[Value.ref b] below meth c H locs (500 + (i + 5)) (8000 + 6 * (i + 5)) (lw_Z below #[Value.ref b] s) (F0 m 1576 ls [])) (S : Mem) (o : Nat → Int64) (hq : vc_call4 xs i S o K) (H : Heap) (locs : List Loc) (ls : Array Slot) (d0 : Drawn) (hd0 : s.drawn.sameBut d0 lw_cs) (hX : PW D ad cy (fun q : Nat => s.heap.size ≤ q) s.heap o S H locs) (hl : lv_has ls 9 [(4, .int (nI i)), (0, .ref b), (1, .ref (ad 14 0 0)), (2, .ref (ad 15 0 0)), (3, .ref (ad 28 0 0))]) : W p l e room_1 (s.setDrawn d0) m #[Value.ref b] below meth c H locs (500 + i) (8000 + 6 * i) (lw_Z below #[Value.ref b] s) (F0 m 436 ls []) := by
  have hA : ∀ q : Nat, s.heap.size ≤ q → (fun q : Nat => s.heap.size ≤ q) q := fun _ h => h
  have hbA : ¬ (fun q : Nat => s.heap.size ≤ q) b := Nat.not_le.mpr hbl
  have hM := hMM d0
  have hK : KW D cy (s.setDrawn d0) := hKK
  have hT : TX (s.setDrawn d0) := TX.same (u := s) (U := s.setDrawn d0) rfl hT0
  have hZ : TZ (fun q : Nat => s.heap.size ≤ q) (s.setDrawn d0) s.heap := hZ0
  have hN : NC (s.setDrawn d0) := hN0
  have hXs : va_X b L xs (s.setDrawn d0) s.heap := hXs0
  unfold vc_call4 at hq
  refine lv_aload_n hM.1 hM.2.1 dL_law_436 rfl (lv_at hl 2 rfl) ?_
  refine lv_aload_n hM.1 hM.2.1 dL_law_437 rfl (lv_at hl 1 rfl) ?_
  refine lv_iload hM.1 hM.2.1 dL_law_438 (lv_at hl 0 rfl) ?_
  refine lv_iconst (v := (1 : Int32)) hM.1 hM.2.1 dL_law_440 (by decide) ?_
  refine lv_iadd hM.1 hM.2.1 dL_law_441 ?_
  refine r_sld (j := 1) hM hXs hbl hbA hX hL (by omega) (ni_1 i) dL_law_442 ?_
  refine lv_aload_n hM.1 hM.2.1 dL_law_443 rfl (lv_at hl 4 rfl) ?_
  refine hSi (As := [.ref (ad 14 0 0), .int (xs (i + 1)), .ref (ad 28 0 0)]) hM hK hX hA hT hZ hN (met_L_calibrate l hl9 D ad cy S o (xs (i + 1)) hq) (kL_calibrate hM.2.2.2.2 ql_RL_107 (Nat.le_of_ble_eq_true rfl) (Nat.le_of_ble_eq_true rfl)) rfl hl.1 rfl (Nat.le_of_ble_eq_true rfl) dL_law_444 ⟨by show _ ≤ 601024; omega, by show _ ≤ 7293034; omega⟩ (fun S_45 o_46 r_47 hq H locs hX => ?_)
  refine lv_istore (lv' := [(5, .int r_47), (4, .int (nI i)), (0, .ref b), (1, .ref (ad 14 0 0)), (2, .ref (ad 15 0 0)), (3, .ref (ad 28 0 0))]) hM.1 hM.2.1 dL_law_447 hl (by decide) rfl (fun ls hl => ?_)
  refine lv_aload_n hM.1 hM.2.1 dL_law_449 rfl (lv_at hl 4 rfl) ?_
  refine lv_aload_n hM.1 hM.2.1 dL_law_450 rfl (lv_at hl 2 rfl) ?_
  refine lv_iload hM.1 hM.2.1 dL_law_451 (lv_at hl 1 rfl) ?_
  refine lv_iconst (v := (1 : Int32)) hM.1 hM.2.1 dL_law_453 (by decide) ?_
  refine lv_iadd hM.1 hM.2.1 dL_law_454 ?_
  refine r_sld (j := 1) hM hXs hbl hbA hX hL (by omega) (ni_1 i) dL_law_455 ?_
  refine cVi (As := [.int (xs (i + 1))]) hM hK hX hA (met_X7_calibrate l D ad cy S_45 (xs (i + 1)) hq) (kX7_calibrate hM.2.2.2.2 ql_RL_109 (Nat.le_of_ble_eq_true rfl) (Nat.le_of_ble_eq_true rfl)) (v15 hK hX m15) rfl hl.1 rfl (Nat.le_of_ble_eq_true rfl) dL_law_456 ⟨by show _ ≤ 601024; omega, by show _ ≤ 7293034; omega⟩ (fun S_48 r_49 hq H locs hX => ?_)
  refine lv_istore (lv' := [(6, .int r_49), (5, .int r_47), (4, .int (nI i)), (0, .ref b), (1, .ref (ad 14 0 0)), (2, .ref (ad 15 0 0)), (3, .ref (ad 28 0 0))]) hM.1 hM.2.1 dL_law_459 hl (by decide) rfl (fun ls hl => ?_)
  refine lv_aload_n hM.1 hM.2.1 dL_law_461 rfl (lv_at hl 5 rfl) ?_
  refine cVi (As := []) hM hK hX hA (met_X7_thrown l D ad cy S_48 hq) (kX7_thrown hM.2.2.2.2 ql_RL_93 (Nat.le_of_ble_eq_true rfl) (Nat.le_of_ble_eq_true rfl)) (v15 hK hX m15) rfl hl.1 rfl (Nat.le_of_ble_eq_true rfl) dL_law_462 ⟨by show _ ≤ 601024; omega, by show _ ≤ 7293034; omega⟩ (fun S_50 r_51 hq H locs hX => ?_)
  refine lv_iload hM.1 hM.2.1 dL_law_465 (lv_at hl 1 rfl) ?_
  refine lv_icmp_eq (tgt := 472) hM.1 hM.2.1 dL_law_467 (by decide) (fun c_52 => ?_) (fun c_52 => ?_)
  · replace hq := hq.1 c_52
    refine lv_iload hM.1 hM.2.1 dL_law_472 (lv_at hl 1 rfl) ?_
    refine lv_if_ne (tgt := 489) hM.1 hM.2.1 dL_law_474 (by decide) (fun c_53 => ?_) (fun c_53 => ?_)
    · replace hq := hq.1 c_53
      refine lv_goto (tgt := 1576) hM.1 hM.2.1 dL_law_489 (by decide) ?_
      refine W.widen (k := 500 + (i + 5)) (n := 8000 + 6 * (i + 5)) (by omega) (by omega) ?_
      exact J S_50 o_46 hq H locs ls d0 hd0 hX (lv_sub hl [2, 3, 4, 5, 6] rfl)
    replace hq := hq.2 c_53
    refine lv_aload_n hM.1 hM.2.1 dL_law_477 rfl (lv_at hl 6 rfl) ?_
    refine lv_iconst (v := (0 : Int32)) hM.1 hM.2.1 dL_law_478 (by decide) ?_
    refine r_lald hM hK hX dL_law_479 ?_
    refine lv_iload hM.1 hM.2.1 dL_law_480 (lv_at hl 0 rfl) ?_
    refine lv_i2l hM.1 hM.2.1 dL_law_482 rfl ?_
    refine W.lcmp hM.1 hM.2.1 dL_law_483 ?_
    refine lv_if_eq (tgt := 489) hM.1 hM.2.1 dL_law_484 (by decide) (fun c_55 => ?_) (fun c_55 => ?_)
    · replace hq := hq.1 c_55
      refine lv_goto (tgt := 1576) hM.1 hM.2.1 dL_law_489 (by decide) ?_
      refine W.widen (k := 500 + (i + 5)) (n := 8000 + 6 * (i + 5)) (by omega) (by omega) ?_
      exact J S_50 o_46 hq H locs ls d0 hd0 hX (lv_sub hl [2, 3, 4, 5, 6] rfl)
    replace hq := hq.2 c_55
    exact hq.elim
  replace hq := hq.2 c_52
  exact hq.elim
set_option maxRecDepth 100000 in
set_option maxHeartbeats 4000000 in
theorem law_c5 {p : Program} {l : Launch} {e : Env} {s : State} {m : MethodId} {below : List Frame} {meth : Method} {c : Code} {D : va_G} {ad : Adr} {cy : Nat → ClassId} {b L : Nat} {xs : Nat → Int32} (hl9 : l.stackTraces = false) (hL : L ≤ 2560) (hMM : ∀ d : Drawn, CallFix p m c cL_law 9 (s.setDrawn d) #[Value.ref b] lw_all RL) (hKK : KW D cy s) (hT0 : TX s) (hZ0 : TZ (fun q : Nat => s.heap.size ≤ q) s s.heap) (hN0 : NC s) (hXs0 : va_X b L xs s s.heap) (hbl : b < s.heap.size) {i : Nat} (hi : i + 5 ≤ L) {K : Mem → (Nat → Int64) → Prop} (J : ∀ (S : Mem) (o : Nat → Int64), K S o → ∀ (H : Heap) (locs : List Loc) (ls : Array Slot) (d0 : Drawn), s.drawn.sameBut d0 lw_cs → PW D ad cy (fun q : Nat => s.heap.size ≤ q) s.heap o S H locs → lv_has ls 9 [(4, .int (nI i)), (0, .ref b), (1, .ref (ad 14 0 0)), (2, .ref (ad 15 0 0)), (3, .ref (ad 28 0 0))] → W p l e room_1 (s.setDrawn d0) m #[Value.ref b] below meth c H locs (500 + (i + 5)) (8000 + 6 * (i + 5)) (lw_Z below #[Value.ref b] s) (F0 m 1576 ls [])) (S : Mem) (o : Nat → Int64) (hq : vc_call5 xs i S o K) (H : Heap) (locs : List Loc) (ls : Array Slot) (d0 : Drawn) (hd0 : s.drawn.sameBut d0 lw_cs) (hX : PW D ad cy (fun q : Nat => s.heap.size ≤ q) s.heap o S H locs) (hl : lv_has ls 9 [(4, .int (nI i)), (0, .ref b), (1, .ref (ad 14 0 0)), (2, .ref (ad 15 0 0)), (3, .ref (ad 28 0 0))]) : W p l e room_1 (s.setDrawn d0) m #[Value.ref b] below meth c H locs (500 + i) (8000 + 6 * i) (lw_Z below #[Value.ref b] s) (F0 m 492 ls []) := by
  have hA : ∀ q : Nat, s.heap.size ≤ q → (fun q : Nat => s.heap.size ≤ q) q := fun _ h => h
  have hbA : ¬ (fun q : Nat => s.heap.size ≤ q) b := Nat.not_le.mpr hbl
  have hM := hMM d0
  have hK : KW D cy (s.setDrawn d0) := hKK
  have hT : TX (s.setDrawn d0) := TX.same (u := s) (U := s.setDrawn d0) rfl hT0
  have hZ : TZ (fun q : Nat => s.heap.size ≤ q) (s.setDrawn d0) s.heap := hZ0
  have hN : NC (s.setDrawn d0) := hN0
  have hXs : va_X b L xs (s.setDrawn d0) s.heap := hXs0
  unfold vc_call5 at hq
  refine lv_aload_n hM.1 hM.2.1 dL_law_492 rfl (lv_at hl 2 rfl) ?_
  refine lv_aload_n hM.1 hM.2.1 dL_law_493 rfl (lv_at hl 1 rfl) ?_
  refine lv_iload hM.1 hM.2.1 dL_law_494 (lv_at hl 0 rfl) ?_
  refine lv_iconst (v := (1 : Int32)) hM.1 hM.2.1 dL_law_496 (by decide) ?_
  refine lv_iadd hM.1 hM.2.1 dL_law_497 ?_
  refine r_sld (j := 1) hM hXs hbl hbA hX hL (by omega) (ni_1 i) dL_law_498 ?_
  refine lv_aload_n hM.1 hM.2.1 dL_law_499 rfl (lv_at hl 1 rfl) ?_
  refine lv_iload hM.1 hM.2.1 dL_law_500 (lv_at hl 0 rfl) ?_
  refine lv_iconst (v := (2 : Int32)) hM.1 hM.2.1 dL_law_502 (by decide) ?_
  refine lv_iadd hM.1 hM.2.1 dL_law_503 ?_
  refine r_sld (j := 2) hM hXs hbl hbA hX hL (by omega) (ni_2 i) dL_law_504 ?_
  refine lv_aload_n hM.1 hM.2.1 dL_law_505 rfl (lv_at hl 4 rfl) ?_
  refine hSi (As := [.ref (ad 14 0 0), .int (xs (i + 1)), .int (xs (i + 2)), .ref (ad 28 0 0)]) hM hK hX hA hT hZ hN (met_L_knock l hl9 D ad cy S o (xs (i + 1)) (xs (i + 2)) hq) (kL_knock hM.2.2.2.2 ql_RL_110 (Nat.le_of_ble_eq_true rfl) (Nat.le_of_ble_eq_true rfl)) rfl hl.1 rfl (Nat.le_of_ble_eq_true rfl) dL_law_506 ⟨by show _ ≤ 601024; omega, by show _ ≤ 7293034; omega⟩ (fun S_56 o_57 r_58 hq H locs hX => ?_)
  refine lv_istore (lv' := [(5, .int r_58), (4, .int (nI i)), (0, .ref b), (1, .ref (ad 14 0 0)), (2, .ref (ad 15 0 0)), (3, .ref (ad 28 0 0))]) hM.1 hM.2.1 dL_law_509 hl (by decide) rfl (fun ls hl => ?_)
  refine lv_aload_n hM.1 hM.2.1 dL_law_511 rfl (lv_at hl 4 rfl) ?_
  refine lv_aload_n hM.1 hM.2.1 dL_law_512 rfl (lv_at hl 2 rfl) ?_
  refine lv_iload hM.1 hM.2.1 dL_law_513 (lv_at hl 1 rfl) ?_
  refine lv_iconst (v := (1 : Int32)) hM.1 hM.2.1 dL_law_515 (by decide) ?_
  refine lv_iadd hM.1 hM.2.1 dL_law_516 ?_
  refine r_sld (j := 1) hM hXs hbl hbA hX hL (by omega) (ni_1 i) dL_law_517 ?_
  refine lv_aload_n hM.1 hM.2.1 dL_law_518 rfl (lv_at hl 2 rfl) ?_
  refine lv_iload hM.1 hM.2.1 dL_law_519 (lv_at hl 1 rfl) ?_
  refine lv_iconst (v := (2 : Int32)) hM.1 hM.2.1 dL_law_521 (by decide) ?_
  refine lv_iadd hM.1 hM.2.1 dL_law_522 ?_
  refine r_sld (j := 2) hM hXs hbl hbA hX hL (by omega) (ni_2 i) dL_law_523 ?_
  refine cVi (As := [.int (xs (i + 1)), .int (xs (i + 2))]) hM hK hX hA (met_X7_knock l D ad cy S_56 (xs (i + 1)) (xs (i + 2)) hq) (kX7_knock hM.2.2.2.2 ql_RL_112 (Nat.le_of_ble_eq_true rfl) (Nat.le_of_ble_eq_true rfl)) (v15 hK hX m15) rfl hl.1 rfl (Nat.le_of_ble_eq_true rfl) dL_law_524 ⟨by show _ ≤ 601024; omega, by show _ ≤ 7293034; omega⟩ (fun S_59 r_60 hq H locs hX => ?_)
  refine lv_istore (lv' := [(6, .int r_60), (5, .int r_58), (4, .int (nI i)), (0, .ref b), (1, .ref (ad 14 0 0)), (2, .ref (ad 15 0 0)), (3, .ref (ad 28 0 0))]) hM.1 hM.2.1 dL_law_527 hl (by decide) rfl (fun ls hl => ?_)
  refine lv_aload_n hM.1 hM.2.1 dL_law_529 rfl (lv_at hl 5 rfl) ?_
  refine cVi (As := []) hM hK hX hA (met_X7_thrown l D ad cy S_59 hq) (kX7_thrown hM.2.2.2.2 ql_RL_93 (Nat.le_of_ble_eq_true rfl) (Nat.le_of_ble_eq_true rfl)) (v15 hK hX m15) rfl hl.1 rfl (Nat.le_of_ble_eq_true rfl) dL_law_530 ⟨by show _ ≤ 601024; omega, by show _ ≤ 7293034; omega⟩ (fun S_61 r_62 hq H locs hX => ?_)
  refine lv_iload hM.1 hM.2.1 dL_law_533 (lv_at hl 1 rfl) ?_
  refine lv_icmp_eq (tgt := 540) hM.1 hM.2.1 dL_law_535 (by decide) (fun c_63 => ?_) (fun c_63 => ?_)
  · replace hq := hq.1 c_63
    refine lv_iload hM.1 hM.2.1 dL_law_540 (lv_at hl 1 rfl) ?_
    refine lv_if_ne (tgt := 557) hM.1 hM.2.1 dL_law_542 (by decide) (fun c_64 => ?_) (fun c_64 => ?_)
    · replace hq := hq.1 c_64
      refine lv_goto (tgt := 1576) hM.1 hM.2.1 dL_law_557 (by decide) ?_
      refine W.widen (k := 500 + (i + 5)) (n := 8000 + 6 * (i + 5)) (by omega) (by omega) ?_
      exact J S_61 o_57 hq H locs ls d0 hd0 hX (lv_sub hl [2, 3, 4, 5, 6] rfl)
    replace hq := hq.2 c_64
    refine lv_aload_n hM.1 hM.2.1 dL_law_545 rfl (lv_at hl 6 rfl) ?_
    refine lv_iconst (v := (0 : Int32)) hM.1 hM.2.1 dL_law_546 (by decide) ?_
    refine r_lald hM hK hX dL_law_547 ?_
    refine lv_iload hM.1 hM.2.1 dL_law_548 (lv_at hl 0 rfl) ?_
    refine lv_i2l hM.1 hM.2.1 dL_law_550 rfl ?_
    refine W.lcmp hM.1 hM.2.1 dL_law_551 ?_
    refine lv_if_eq (tgt := 557) hM.1 hM.2.1 dL_law_552 (by decide) (fun c_66 => ?_) (fun c_66 => ?_)
    · replace hq := hq.1 c_66
      refine lv_goto (tgt := 1576) hM.1 hM.2.1 dL_law_557 (by decide) ?_
      refine W.widen (k := 500 + (i + 5)) (n := 8000 + 6 * (i + 5)) (by omega) (by omega) ?_
      exact J S_61 o_57 hq H locs ls d0 hd0 hX (lv_sub hl [2, 3, 4, 5, 6] rfl)
    replace hq := hq.2 c_66
    exact hq.elim
  replace hq := hq.2 c_63
  exact hq.elim
set_option maxRecDepth 100000 in
set_option maxHeartbeats 4000000 in
theorem law_c6 {p : Program} {l : Launch} {e : Env} {s : State} {m : MethodId} {below : List Frame} {meth : Method} {c : Code} {D : va_G} {ad : Adr} {cy : Nat → ClassId} {b L : Nat} {xs : Nat → Int32} (hl9 : l.stackTraces = false) (hL : L ≤ 2560) (hMM : ∀ d : Drawn, CallFix p m c cL_law 9 (s.setDrawn d) #[Value.ref b] lw_all RL) (hKK : KW D cy s) (hT0 : TX s) (hZ0 : TZ (fun q : Nat => s.heap.size ≤ q) s s.heap) (hN0 : NC s) (hXs0 : va_X b L xs s s.heap) (hbl : b < s.heap.size) {i : Nat} (hi : i + 5 ≤ L) {K : Mem → (Nat → Int64) → Prop} (J : ∀ (S : Mem) (o : Nat → Int64), K S o → ∀ (H : Heap) (locs : List Loc) (ls : Array Slot) (d0 : Drawn), s.drawn.sameBut d0 lw_cs → PW D ad cy (fun q : Nat => s.heap.size ≤ q) s.heap o S H locs → lv_has ls 9 [(4, .int (nI i)), (0, .ref b), (1, .ref (ad 14 0 0)), (2, .ref (ad 15 0 0)), (3, .ref (ad 28 0 0))] → W p l e room_1 (s.setDrawn d0) m #[Value.ref b] below meth c H locs (500 + (i + 5)) (8000 + 6 * (i + 5)) (lw_Z below #[Value.ref b] s) (F0 m 1576 ls [])) (S : Mem) (o : Nat → Int64) (hq : vc_call6 xs i S o K) (H : Heap) (locs : List Loc) (ls : Array Slot) (d0 : Drawn) (hd0 : s.drawn.sameBut d0 lw_cs) (hX : PW D ad cy (fun q : Nat => s.heap.size ≤ q) s.heap o S H locs) (hl : lv_has ls 9 [(4, .int (nI i)), (0, .ref b), (1, .ref (ad 14 0 0)), (2, .ref (ad 15 0 0)), (3, .ref (ad 28 0 0))]) : W p l e room_1 (s.setDrawn d0) m #[Value.ref b] below meth c H locs (500 + i) (8000 + 6 * i) (lw_Z below #[Value.ref b] s) (F0 m 560 ls []) := by
  have hA : ∀ q : Nat, s.heap.size ≤ q → (fun q : Nat => s.heap.size ≤ q) q := fun _ h => h
  have hbA : ¬ (fun q : Nat => s.heap.size ≤ q) b := Nat.not_le.mpr hbl
  have hM := hMM d0
  have hK : KW D cy (s.setDrawn d0) := hKK
  have hT : TX (s.setDrawn d0) := TX.same (u := s) (U := s.setDrawn d0) rfl hT0
  have hZ : TZ (fun q : Nat => s.heap.size ≤ q) (s.setDrawn d0) s.heap := hZ0
  have hN : NC (s.setDrawn d0) := hN0
  have hXs : va_X b L xs (s.setDrawn d0) s.heap := hXs0
  unfold vc_call6 at hq
  refine lv_aload_n hM.1 hM.2.1 dL_law_560 rfl (lv_at hl 2 rfl) ?_
  refine lv_aload_n hM.1 hM.2.1 dL_law_561 rfl (lv_at hl 1 rfl) ?_
  refine lv_iload hM.1 hM.2.1 dL_law_562 (lv_at hl 0 rfl) ?_
  refine lv_iconst (v := (1 : Int32)) hM.1 hM.2.1 dL_law_564 (by decide) ?_
  refine lv_iadd hM.1 hM.2.1 dL_law_565 ?_
  refine r_sld (j := 1) hM hXs hbl hbA hX hL (by omega) (ni_1 i) dL_law_566 ?_
  refine lv_aload_n hM.1 hM.2.1 dL_law_567 rfl (lv_at hl 1 rfl) ?_
  refine lv_iload hM.1 hM.2.1 dL_law_568 (lv_at hl 0 rfl) ?_
  refine lv_iconst (v := (2 : Int32)) hM.1 hM.2.1 dL_law_570 (by decide) ?_
  refine lv_iadd hM.1 hM.2.1 dL_law_571 ?_
  refine r_sld (j := 2) hM hXs hbl hbA hX hL (by omega) (ni_2 i) dL_law_572 ?_
  refine lv_aload_n hM.1 hM.2.1 dL_law_573 rfl (lv_at hl 4 rfl) ?_
  refine hSi (As := [.ref (ad 14 0 0), .int (xs (i + 1)), .int (xs (i + 2)), .ref (ad 28 0 0)]) hM hK hX hA hT hZ hN (met_L_set l hl9 D ad cy S o (xs (i + 1)) (xs (i + 2)) hq) (kL_set hM.2.2.2.2 ql_RL_113 (Nat.le_of_ble_eq_true rfl) (Nat.le_of_ble_eq_true rfl)) rfl hl.1 rfl (Nat.le_of_ble_eq_true rfl) dL_law_574 ⟨by show _ ≤ 601024; omega, by show _ ≤ 7293034; omega⟩ (fun S_67 o_68 r_69 hq H locs hX => ?_)
  refine lv_istore (lv' := [(5, .int r_69), (4, .int (nI i)), (0, .ref b), (1, .ref (ad 14 0 0)), (2, .ref (ad 15 0 0)), (3, .ref (ad 28 0 0))]) hM.1 hM.2.1 dL_law_577 hl (by decide) rfl (fun ls hl => ?_)
  refine lv_aload_n hM.1 hM.2.1 dL_law_579 rfl (lv_at hl 4 rfl) ?_
  refine lv_aload_n hM.1 hM.2.1 dL_law_580 rfl (lv_at hl 2 rfl) ?_
  refine lv_iload hM.1 hM.2.1 dL_law_581 (lv_at hl 1 rfl) ?_
  refine lv_iconst (v := (1 : Int32)) hM.1 hM.2.1 dL_law_583 (by decide) ?_
  refine lv_iadd hM.1 hM.2.1 dL_law_584 ?_
  refine r_sld (j := 1) hM hXs hbl hbA hX hL (by omega) (ni_1 i) dL_law_585 ?_
  refine lv_aload_n hM.1 hM.2.1 dL_law_586 rfl (lv_at hl 2 rfl) ?_
  refine lv_iload hM.1 hM.2.1 dL_law_587 (lv_at hl 1 rfl) ?_
  refine lv_iconst (v := (2 : Int32)) hM.1 hM.2.1 dL_law_589 (by decide) ?_
  refine lv_iadd hM.1 hM.2.1 dL_law_590 ?_
  refine r_sld (j := 2) hM hXs hbl hbA hX hL (by omega) (ni_2 i) dL_law_591 ?_
  refine cVi (As := [.int (xs (i + 1)), .int (xs (i + 2))]) hM hK hX hA (met_X7_set l D ad cy S_67 (xs (i + 1)) (xs (i + 2)) hq) (kX7_set hM.2.2.2.2 ql_RL_115 (Nat.le_of_ble_eq_true rfl) (Nat.le_of_ble_eq_true rfl)) (v15 hK hX m15) rfl hl.1 rfl (Nat.le_of_ble_eq_true rfl) dL_law_592 ⟨by show _ ≤ 601024; omega, by show _ ≤ 7293034; omega⟩ (fun S_70 r_71 hq H locs hX => ?_)
  refine lv_istore (lv' := [(6, .int r_71), (5, .int r_69), (4, .int (nI i)), (0, .ref b), (1, .ref (ad 14 0 0)), (2, .ref (ad 15 0 0)), (3, .ref (ad 28 0 0))]) hM.1 hM.2.1 dL_law_595 hl (by decide) rfl (fun ls hl => ?_)
  refine lv_aload_n hM.1 hM.2.1 dL_law_597 rfl (lv_at hl 5 rfl) ?_
  refine cVi (As := []) hM hK hX hA (met_X7_thrown l D ad cy S_70 hq) (kX7_thrown hM.2.2.2.2 ql_RL_93 (Nat.le_of_ble_eq_true rfl) (Nat.le_of_ble_eq_true rfl)) (v15 hK hX m15) rfl hl.1 rfl (Nat.le_of_ble_eq_true rfl) dL_law_598 ⟨by show _ ≤ 601024; omega, by show _ ≤ 7293034; omega⟩ (fun S_72 r_73 hq H locs hX => ?_)
  refine lv_iload hM.1 hM.2.1 dL_law_601 (lv_at hl 1 rfl) ?_
  refine lv_icmp_eq (tgt := 608) hM.1 hM.2.1 dL_law_603 (by decide) (fun c_74 => ?_) (fun c_74 => ?_)
  · replace hq := hq.1 c_74
    refine lv_iload hM.1 hM.2.1 dL_law_608 (lv_at hl 1 rfl) ?_
    refine lv_if_ne (tgt := 625) hM.1 hM.2.1 dL_law_610 (by decide) (fun c_75 => ?_) (fun c_75 => ?_)
    · replace hq := hq.1 c_75
      refine lv_goto (tgt := 1576) hM.1 hM.2.1 dL_law_625 (by decide) ?_
      refine W.widen (k := 500 + (i + 5)) (n := 8000 + 6 * (i + 5)) (by omega) (by omega) ?_
      exact J S_72 o_68 hq H locs ls d0 hd0 hX (lv_sub hl [2, 3, 4, 5, 6] rfl)
    replace hq := hq.2 c_75
    refine lv_aload_n hM.1 hM.2.1 dL_law_613 rfl (lv_at hl 6 rfl) ?_
    refine lv_iconst (v := (0 : Int32)) hM.1 hM.2.1 dL_law_614 (by decide) ?_
    refine r_lald hM hK hX dL_law_615 ?_
    refine lv_iload hM.1 hM.2.1 dL_law_616 (lv_at hl 0 rfl) ?_
    refine lv_i2l hM.1 hM.2.1 dL_law_618 rfl ?_
    refine W.lcmp hM.1 hM.2.1 dL_law_619 ?_
    refine lv_if_eq (tgt := 625) hM.1 hM.2.1 dL_law_620 (by decide) (fun c_77 => ?_) (fun c_77 => ?_)
    · replace hq := hq.1 c_77
      refine lv_goto (tgt := 1576) hM.1 hM.2.1 dL_law_625 (by decide) ?_
      refine W.widen (k := 500 + (i + 5)) (n := 8000 + 6 * (i + 5)) (by omega) (by omega) ?_
      exact J S_72 o_68 hq H locs ls d0 hd0 hX (lv_sub hl [2, 3, 4, 5, 6] rfl)
    replace hq := hq.2 c_77
    exact hq.elim
  replace hq := hq.2 c_74
  exact hq.elim
set_option maxRecDepth 100000 in
set_option maxHeartbeats 4000000 in
theorem law_c7 {p : Program} {l : Launch} {e : Env} {s : State} {m : MethodId} {below : List Frame} {meth : Method} {c : Code} {D : va_G} {ad : Adr} {cy : Nat → ClassId} {b L : Nat} {xs : Nat → Int32} (hl9 : l.stackTraces = false) (hL : L ≤ 2560) (hMM : ∀ d : Drawn, CallFix p m c cL_law 9 (s.setDrawn d) #[Value.ref b] lw_all RL) (hKK : KW D cy s) (hT0 : TX s) (hZ0 : TZ (fun q : Nat => s.heap.size ≤ q) s s.heap) (hN0 : NC s) (hXs0 : va_X b L xs s s.heap) (hbl : b < s.heap.size) {i : Nat} (hi : i + 5 ≤ L) {K : Mem → (Nat → Int64) → Prop} (J : ∀ (S : Mem) (o : Nat → Int64), K S o → ∀ (H : Heap) (locs : List Loc) (ls : Array Slot) (d0 : Drawn), s.drawn.sameBut d0 lw_cs → PW D ad cy (fun q : Nat => s.heap.size ≤ q) s.heap o S H locs → lv_has ls 9 [(4, .int (nI i)), (0, .ref b), (1, .ref (ad 14 0 0)), (2, .ref (ad 15 0 0)), (3, .ref (ad 28 0 0))] → W p l e room_1 (s.setDrawn d0) m #[Value.ref b] below meth c H locs (500 + (i + 5)) (8000 + 6 * (i + 5)) (lw_Z below #[Value.ref b] s) (F0 m 1576 ls [])) (S : Mem) (o : Nat → Int64) (hq : vc_call7 xs i S o K) (H : Heap) (locs : List Loc) (ls : Array Slot) (d0 : Drawn) (hd0 : s.drawn.sameBut d0 lw_cs) (hX : PW D ad cy (fun q : Nat => s.heap.size ≤ q) s.heap o S H locs) (hl : lv_has ls 9 [(4, .int (nI i)), (0, .ref b), (1, .ref (ad 14 0 0)), (2, .ref (ad 15 0 0)), (3, .ref (ad 28 0 0))]) : W p l e room_1 (s.setDrawn d0) m #[Value.ref b] below meth c H locs (500 + i) (8000 + 6 * i) (lw_Z below #[Value.ref b] s) (F0 m 628 ls []) := by
  have hA : ∀ q : Nat, s.heap.size ≤ q → (fun q : Nat => s.heap.size ≤ q) q := fun _ h => h
  have hbA : ¬ (fun q : Nat => s.heap.size ≤ q) b := Nat.not_le.mpr hbl
  have hM := hMM d0
  have hK : KW D cy (s.setDrawn d0) := hKK
  have hT : TX (s.setDrawn d0) := TX.same (u := s) (U := s.setDrawn d0) rfl hT0
  have hZ : TZ (fun q : Nat => s.heap.size ≤ q) (s.setDrawn d0) s.heap := hZ0
  have hN : NC (s.setDrawn d0) := hN0
  have hXs : va_X b L xs (s.setDrawn d0) s.heap := hXs0
  unfold vc_call7 at hq
  refine lv_aload_n hM.1 hM.2.1 dL_law_628 rfl (lv_at hl 2 rfl) ?_
  refine lv_aload_n hM.1 hM.2.1 dL_law_629 rfl (lv_at hl 1 rfl) ?_
  refine lv_iload hM.1 hM.2.1 dL_law_630 (lv_at hl 0 rfl) ?_
  refine lv_iconst (v := (1 : Int32)) hM.1 hM.2.1 dL_law_632 (by decide) ?_
  refine lv_iadd hM.1 hM.2.1 dL_law_633 ?_
  refine r_sld (j := 1) hM hXs hbl hbA hX hL (by omega) (ni_1 i) dL_law_634 ?_
  refine lv_aload_n hM.1 hM.2.1 dL_law_635 rfl (lv_at hl 4 rfl) ?_
  refine hSi (As := [.ref (ad 14 0 0), .int (xs (i + 1)), .ref (ad 28 0 0)]) hM hK hX hA hT hZ hN (met_L_append l hl9 D ad cy S o (xs (i + 1)) hq) (kL_append hM.2.2.2.2 ql_RL_116 (Nat.le_of_ble_eq_true rfl) (Nat.le_of_ble_eq_true rfl)) rfl hl.1 rfl (Nat.le_of_ble_eq_true rfl) dL_law_636 ⟨by show _ ≤ 601024; omega, by show _ ≤ 7293034; omega⟩ (fun S_78 o_79 r_80 hq H locs hX => ?_)
  refine lv_istore (lv' := [(5, .int r_80), (4, .int (nI i)), (0, .ref b), (1, .ref (ad 14 0 0)), (2, .ref (ad 15 0 0)), (3, .ref (ad 28 0 0))]) hM.1 hM.2.1 dL_law_639 hl (by decide) rfl (fun ls hl => ?_)
  refine lv_aload_n hM.1 hM.2.1 dL_law_641 rfl (lv_at hl 4 rfl) ?_
  refine lv_aload_n hM.1 hM.2.1 dL_law_642 rfl (lv_at hl 2 rfl) ?_
  refine lv_iload hM.1 hM.2.1 dL_law_643 (lv_at hl 1 rfl) ?_
  refine lv_iconst (v := (1 : Int32)) hM.1 hM.2.1 dL_law_645 (by decide) ?_
  refine lv_iadd hM.1 hM.2.1 dL_law_646 ?_
  refine r_sld (j := 1) hM hXs hbl hbA hX hL (by omega) (ni_1 i) dL_law_647 ?_
  refine cVi (As := [.int (xs (i + 1))]) hM hK hX hA (met_X7_append l D ad cy S_78 (xs (i + 1)) hq) (kX7_append hM.2.2.2.2 ql_RL_118 (Nat.le_of_ble_eq_true rfl) (Nat.le_of_ble_eq_true rfl)) (v15 hK hX m15) rfl hl.1 rfl (Nat.le_of_ble_eq_true rfl) dL_law_648 ⟨by show _ ≤ 601024; omega, by show _ ≤ 7293034; omega⟩ (fun S_81 r_82 hq H locs hX => ?_)
  refine lv_istore (lv' := [(6, .int r_82), (5, .int r_80), (4, .int (nI i)), (0, .ref b), (1, .ref (ad 14 0 0)), (2, .ref (ad 15 0 0)), (3, .ref (ad 28 0 0))]) hM.1 hM.2.1 dL_law_651 hl (by decide) rfl (fun ls hl => ?_)
  refine lv_aload_n hM.1 hM.2.1 dL_law_653 rfl (lv_at hl 5 rfl) ?_
  refine cVi (As := []) hM hK hX hA (met_X7_thrown l D ad cy S_81 hq) (kX7_thrown hM.2.2.2.2 ql_RL_93 (Nat.le_of_ble_eq_true rfl) (Nat.le_of_ble_eq_true rfl)) (v15 hK hX m15) rfl hl.1 rfl (Nat.le_of_ble_eq_true rfl) dL_law_654 ⟨by show _ ≤ 601024; omega, by show _ ≤ 7293034; omega⟩ (fun S_83 r_84 hq H locs hX => ?_)
  refine lv_iload hM.1 hM.2.1 dL_law_657 (lv_at hl 1 rfl) ?_
  refine lv_icmp_eq (tgt := 664) hM.1 hM.2.1 dL_law_659 (by decide) (fun c_85 => ?_) (fun c_85 => ?_)
  · replace hq := hq.1 c_85
    refine lv_iload hM.1 hM.2.1 dL_law_664 (lv_at hl 1 rfl) ?_
    refine lv_if_ne (tgt := 681) hM.1 hM.2.1 dL_law_666 (by decide) (fun c_86 => ?_) (fun c_86 => ?_)
    · replace hq := hq.1 c_86
      refine lv_goto (tgt := 1576) hM.1 hM.2.1 dL_law_681 (by decide) ?_
      refine W.widen (k := 500 + (i + 5)) (n := 8000 + 6 * (i + 5)) (by omega) (by omega) ?_
      exact J S_83 o_79 hq H locs ls d0 hd0 hX (lv_sub hl [2, 3, 4, 5, 6] rfl)
    replace hq := hq.2 c_86
    refine lv_aload_n hM.1 hM.2.1 dL_law_669 rfl (lv_at hl 6 rfl) ?_
    refine lv_iconst (v := (0 : Int32)) hM.1 hM.2.1 dL_law_670 (by decide) ?_
    refine r_lald hM hK hX dL_law_671 ?_
    refine lv_iload hM.1 hM.2.1 dL_law_672 (lv_at hl 0 rfl) ?_
    refine lv_i2l hM.1 hM.2.1 dL_law_674 rfl ?_
    refine W.lcmp hM.1 hM.2.1 dL_law_675 ?_
    refine lv_if_eq (tgt := 681) hM.1 hM.2.1 dL_law_676 (by decide) (fun c_88 => ?_) (fun c_88 => ?_)
    · replace hq := hq.1 c_88
      refine lv_goto (tgt := 1576) hM.1 hM.2.1 dL_law_681 (by decide) ?_
      refine W.widen (k := 500 + (i + 5)) (n := 8000 + 6 * (i + 5)) (by omega) (by omega) ?_
      exact J S_83 o_79 hq H locs ls d0 hd0 hX (lv_sub hl [2, 3, 4, 5, 6] rfl)
    replace hq := hq.2 c_88
    exact hq.elim
  replace hq := hq.2 c_85
  exact hq.elim
set_option maxRecDepth 100000 in
set_option maxHeartbeats 4000000 in
theorem law_c8 {p : Program} {l : Launch} {e : Env} {s : State} {m : MethodId} {below : List Frame} {meth : Method} {c : Code} {D : va_G} {ad : Adr} {cy : Nat → ClassId} {b L : Nat} {xs : Nat → Int32} (hl9 : l.stackTraces = false) (hL : L ≤ 2560) (hMM : ∀ d : Drawn, CallFix p m c cL_law 9 (s.setDrawn d) #[Value.ref b] lw_all RL) (hKK : KW D cy s) (hT0 : TX s) (hZ0 : TZ (fun q : Nat => s.heap.size ≤ q) s s.heap) (hN0 : NC s) (hXs0 : va_X b L xs s s.heap) (hbl : b < s.heap.size) {i : Nat} (hi : i + 5 ≤ L) {K : Mem → (Nat → Int64) → Prop} (J : ∀ (S : Mem) (o : Nat → Int64), K S o → ∀ (H : Heap) (locs : List Loc) (ls : Array Slot) (d0 : Drawn), s.drawn.sameBut d0 lw_cs → PW D ad cy (fun q : Nat => s.heap.size ≤ q) s.heap o S H locs → lv_has ls 9 [(4, .int (nI i)), (0, .ref b), (1, .ref (ad 14 0 0)), (2, .ref (ad 15 0 0)), (3, .ref (ad 28 0 0))] → W p l e room_1 (s.setDrawn d0) m #[Value.ref b] below meth c H locs (500 + (i + 5)) (8000 + 6 * (i + 5)) (lw_Z below #[Value.ref b] s) (F0 m 1576 ls [])) (S : Mem) (o : Nat → Int64) (hq : vc_call8 xs i S o K) (H : Heap) (locs : List Loc) (ls : Array Slot) (d0 : Drawn) (hd0 : s.drawn.sameBut d0 lw_cs) (hX : PW D ad cy (fun q : Nat => s.heap.size ≤ q) s.heap o S H locs) (hl : lv_has ls 9 [(4, .int (nI i)), (0, .ref b), (1, .ref (ad 14 0 0)), (2, .ref (ad 15 0 0)), (3, .ref (ad 28 0 0))]) : W p l e room_1 (s.setDrawn d0) m #[Value.ref b] below meth c H locs (500 + i) (8000 + 6 * i) (lw_Z below #[Value.ref b] s) (F0 m 684 ls []) := by
  have hA : ∀ q : Nat, s.heap.size ≤ q → (fun q : Nat => s.heap.size ≤ q) q := fun _ h => h
  have hbA : ¬ (fun q : Nat => s.heap.size ≤ q) b := Nat.not_le.mpr hbl
  have hM := hMM d0
  have hK : KW D cy (s.setDrawn d0) := hKK
  have hT : TX (s.setDrawn d0) := TX.same (u := s) (U := s.setDrawn d0) rfl hT0
  have hZ : TZ (fun q : Nat => s.heap.size ≤ q) (s.setDrawn d0) s.heap := hZ0
  have hN : NC (s.setDrawn d0) := hN0
  have hXs : va_X b L xs (s.setDrawn d0) s.heap := hXs0
  unfold vc_call8 at hq
  refine lv_aload_n hM.1 hM.2.1 dL_law_684 rfl (lv_at hl 2 rfl) ?_
  refine cVi (As := []) hM hK hX hA (met_X6_clearBuffer l D ad cy S hq) (kX6_clearBuffer hM.2.2.2.2 ql_RL_119 (Nat.le_of_ble_eq_true rfl) (Nat.le_of_ble_eq_true rfl)) (v14 hK hX m14) rfl hl.1 rfl (Nat.le_of_ble_eq_true rfl) dL_law_685 ⟨by show _ ≤ 601024; omega, by show _ ≤ 7293034; omega⟩ (fun S_89 r_90 hq H locs hX => ?_)
  refine lv_aload_n hM.1 hM.2.1 dL_law_688 rfl (lv_at hl 3 rfl) ?_
  refine cVi (As := []) hM hK hX hA (met_X7_clearBuffer l D ad cy S_89 hq) (kX7_clearBuffer hM.2.2.2.2 ql_RL_122 (Nat.le_of_ble_eq_true rfl) (Nat.le_of_ble_eq_true rfl)) (v15 hK hX m15) rfl hl.1 rfl (Nat.le_of_ble_eq_true rfl) dL_law_689 ⟨by show _ ≤ 601024; omega, by show _ ≤ 7293034; omega⟩ (fun S_91 r_92 hq H locs hX => ?_)
  refine lv_icmp_eq (tgt := 1576) hM.1 hM.2.1 dL_law_692 (by decide) (fun c_93 => ?_) (fun c_93 => ?_)
  · replace hq := hq.1 c_93
    refine W.widen (k := 500 + (i + 5)) (n := 8000 + 6 * (i + 5)) (by omega) (by omega) ?_
    exact J S_91 o hq H locs ls d0 hd0 hX (lv_sub hl [0, 1, 2, 3, 4] rfl)
  replace hq := hq.2 c_93
  exact hq.elim
set_option maxRecDepth 100000 in
set_option maxHeartbeats 4000000 in
theorem law_c9 {p : Program} {l : Launch} {e : Env} {s : State} {m : MethodId} {below : List Frame} {meth : Method} {c : Code} {D : va_G} {ad : Adr} {cy : Nat → ClassId} {b L : Nat} {xs : Nat → Int32} (hl9 : l.stackTraces = false) (hL : L ≤ 2560) (hMM : ∀ d : Drawn, CallFix p m c cL_law 9 (s.setDrawn d) #[Value.ref b] lw_all RL) (hKK : KW D cy s) (hT0 : TX s) (hZ0 : TZ (fun q : Nat => s.heap.size ≤ q) s s.heap) (hN0 : NC s) (hXs0 : va_X b L xs s s.heap) (hbl : b < s.heap.size) {i : Nat} (hi : i + 5 ≤ L) {K : Mem → (Nat → Int64) → Prop} (J : ∀ (S : Mem) (o : Nat → Int64), K S o → ∀ (H : Heap) (locs : List Loc) (ls : Array Slot) (d0 : Drawn), s.drawn.sameBut d0 lw_cs → PW D ad cy (fun q : Nat => s.heap.size ≤ q) s.heap o S H locs → lv_has ls 9 [(4, .int (nI i)), (0, .ref b), (1, .ref (ad 14 0 0)), (2, .ref (ad 15 0 0)), (3, .ref (ad 28 0 0))] → W p l e room_1 (s.setDrawn d0) m #[Value.ref b] below meth c H locs (500 + (i + 5)) (8000 + 6 * (i + 5)) (lw_Z below #[Value.ref b] s) (F0 m 1576 ls [])) (S : Mem) (o : Nat → Int64) (hq : vc_call9 xs i S o K) (H : Heap) (locs : List Loc) (ls : Array Slot) (d0 : Drawn) (hd0 : s.drawn.sameBut d0 lw_cs) (hX : PW D ad cy (fun q : Nat => s.heap.size ≤ q) s.heap o S H locs) (hl : lv_has ls 9 [(4, .int (nI i)), (0, .ref b), (1, .ref (ad 14 0 0)), (2, .ref (ad 15 0 0)), (3, .ref (ad 28 0 0))]) : W p l e room_1 (s.setDrawn d0) m #[Value.ref b] below meth c H locs (500 + i) (8000 + 6 * i) (lw_Z below #[Value.ref b] s) (F0 m 697 ls []) := by
  have hA : ∀ q : Nat, s.heap.size ≤ q → (fun q : Nat => s.heap.size ≤ q) q := fun _ h => h
  have hbA : ¬ (fun q : Nat => s.heap.size ≤ q) b := Nat.not_le.mpr hbl
  have hM := hMM d0
  have hK : KW D cy (s.setDrawn d0) := hKK
  have hT : TX (s.setDrawn d0) := TX.same (u := s) (U := s.setDrawn d0) rfl hT0
  have hZ : TZ (fun q : Nat => s.heap.size ≤ q) (s.setDrawn d0) s.heap := hZ0
  have hN : NC (s.setDrawn d0) := hN0
  have hXs : va_X b L xs (s.setDrawn d0) s.heap := hXs0
  unfold vc_call9 at hq
  refine lv_aload_n hM.1 hM.2.1 dL_law_697 rfl (lv_at hl 2 rfl) ?_
  refine cVi (As := []) hM hK hX hA (met_X6_firstError l D ad cy S hq) (kX6_firstError hM.2.2.2.2 ql_RL_123 (Nat.le_of_ble_eq_true rfl) (Nat.le_of_ble_eq_true rfl)) (v14 hK hX m14) rfl hl.1 rfl (Nat.le_of_ble_eq_true rfl) dL_law_698 ⟨by show _ ≤ 601024; omega, by show _ ≤ 7293034; omega⟩ (fun S_94 r_95 hq H locs hX => ?_)
  refine lv_aload_n hM.1 hM.2.1 dL_law_701 rfl (lv_at hl 3 rfl) ?_
  refine cVi (As := []) hM hK hX hA (met_X7_firstError l D ad cy S_94 hq) (kX7_firstError hM.2.2.2.2 ql_RL_126 (Nat.le_of_ble_eq_true rfl) (Nat.le_of_ble_eq_true rfl)) (v15 hK hX m15) rfl hl.1 rfl (Nat.le_of_ble_eq_true rfl) dL_law_702 ⟨by show _ ≤ 601024; omega, by show _ ≤ 7293034; omega⟩ (fun S_96 r_97 hq H locs hX => ?_)
  refine lv_icmp_eq (tgt := 1576) hM.1 hM.2.1 dL_law_705 (by decide) (fun c_98 => ?_) (fun c_98 => ?_)
  · replace hq := hq.1 c_98
    refine W.widen (k := 500 + (i + 5)) (n := 8000 + 6 * (i + 5)) (by omega) (by omega) ?_
    exact J S_96 o hq H locs ls d0 hd0 hX (lv_sub hl [0, 1, 2, 3, 4] rfl)
  replace hq := hq.2 c_98
  exact hq.elim
set_option maxRecDepth 100000 in
set_option maxHeartbeats 4000000 in
theorem law_c10 {p : Program} {l : Launch} {e : Env} {s : State} {m : MethodId} {below : List Frame} {meth : Method} {c : Code} {D : va_G} {ad : Adr} {cy : Nat → ClassId} {b L : Nat} {xs : Nat → Int32} (hl9 : l.stackTraces = false) (hL : L ≤ 2560) (hMM : ∀ d : Drawn, CallFix p m c cL_law 9 (s.setDrawn d) #[Value.ref b] lw_all RL) (hKK : KW D cy s) (hT0 : TX s) (hZ0 : TZ (fun q : Nat => s.heap.size ≤ q) s s.heap) (hN0 : NC s) (hXs0 : va_X b L xs s s.heap) (hbl : b < s.heap.size) {i : Nat} (hi : i + 5 ≤ L) {K : Mem → (Nat → Int64) → Prop} (J : ∀ (S : Mem) (o : Nat → Int64), K S o → ∀ (H : Heap) (locs : List Loc) (ls : Array Slot) (d0 : Drawn), s.drawn.sameBut d0 lw_cs → PW D ad cy (fun q : Nat => s.heap.size ≤ q) s.heap o S H locs → lv_has ls 9 [(4, .int (nI i)), (0, .ref b), (1, .ref (ad 14 0 0)), (2, .ref (ad 15 0 0)), (3, .ref (ad 28 0 0))] → W p l e room_1 (s.setDrawn d0) m #[Value.ref b] below meth c H locs (500 + (i + 5)) (8000 + 6 * (i + 5)) (lw_Z below #[Value.ref b] s) (F0 m 1576 ls [])) (S : Mem) (o : Nat → Int64) (hq : vc_call10 xs i S o K) (H : Heap) (locs : List Loc) (ls : Array Slot) (d0 : Drawn) (hd0 : s.drawn.sameBut d0 lw_cs) (hX : PW D ad cy (fun q : Nat => s.heap.size ≤ q) s.heap o S H locs) (hl : lv_has ls 9 [(4, .int (nI i)), (0, .ref b), (1, .ref (ad 14 0 0)), (2, .ref (ad 15 0 0)), (3, .ref (ad 28 0 0))]) : W p l e room_1 (s.setDrawn d0) m #[Value.ref b] below meth c H locs (500 + i) (8000 + 6 * i) (lw_Z below #[Value.ref b] s) (F0 m 710 ls []) := by
  have hA : ∀ q : Nat, s.heap.size ≤ q → (fun q : Nat => s.heap.size ≤ q) q := fun _ h => h
  have hbA : ¬ (fun q : Nat => s.heap.size ≤ q) b := Nat.not_le.mpr hbl
  have hM := hMM d0
  have hK : KW D cy (s.setDrawn d0) := hKK
  have hT : TX (s.setDrawn d0) := TX.same (u := s) (U := s.setDrawn d0) rfl hT0
  have hZ : TZ (fun q : Nat => s.heap.size ≤ q) (s.setDrawn d0) s.heap := hZ0
  have hN : NC (s.setDrawn d0) := hN0
  have hXs : va_X b L xs (s.setDrawn d0) s.heap := hXs0
  unfold vc_call10 at hq
  refine lv_aload_n hM.1 hM.2.1 dL_law_710 rfl (lv_at hl 2 rfl) ?_
  refine lv_aload_n hM.1 hM.2.1 dL_law_711 rfl (lv_at hl 4 rfl) ?_
  refine hSi (As := [.ref (ad 14 0 0), .ref (ad 28 0 0)]) hM hK hX hA hT hZ hN (met_L_execute l hl9 D ad cy S o hq) (kL_execute hM.2.2.2.2 ql_RL_127 (Nat.le_of_ble_eq_true rfl) (Nat.le_of_ble_eq_true rfl)) rfl hl.1 rfl (Nat.le_of_ble_eq_true rfl) dL_law_712 ⟨by show _ ≤ 601024; omega, by show _ ≤ 7293034; omega⟩ (fun S_99 o_100 r_101 hq H locs hX => ?_)
  refine lv_istore (lv' := [(5, .int r_101), (4, .int (nI i)), (0, .ref b), (1, .ref (ad 14 0 0)), (2, .ref (ad 15 0 0)), (3, .ref (ad 28 0 0))]) hM.1 hM.2.1 dL_law_715 hl (by decide) rfl (fun ls hl => ?_)
  refine lv_aload_n hM.1 hM.2.1 dL_law_717 rfl (lv_at hl 4 rfl) ?_
  refine cVi (As := []) hM hK hX hA (met_X7_execute l D ad cy S_99 hq) (kX7_execute hM.2.2.2.2 ql_RL_130 (Nat.le_of_ble_eq_true rfl) (Nat.le_of_ble_eq_true rfl)) (v15 hK hX m15) rfl hl.1 rfl (Nat.le_of_ble_eq_true rfl) dL_law_718 ⟨by show _ ≤ 601024; omega, by show _ ≤ 7293034; omega⟩ (fun S_102 r_103 hq H locs hX => ?_)
  refine lv_istore (lv' := [(6, .int r_103), (5, .int r_101), (4, .int (nI i)), (0, .ref b), (1, .ref (ad 14 0 0)), (2, .ref (ad 15 0 0)), (3, .ref (ad 28 0 0))]) hM.1 hM.2.1 dL_law_721 hl (by decide) rfl (fun ls hl => ?_)
  refine lv_aload_n hM.1 hM.2.1 dL_law_723 rfl (lv_at hl 5 rfl) ?_
  refine cVi (As := []) hM hK hX hA (met_X7_thrown l D ad cy S_102 hq) (kX7_thrown hM.2.2.2.2 ql_RL_93 (Nat.le_of_ble_eq_true rfl) (Nat.le_of_ble_eq_true rfl)) (v15 hK hX m15) rfl hl.1 rfl (Nat.le_of_ble_eq_true rfl) dL_law_724 ⟨by show _ ≤ 601024; omega, by show _ ≤ 7293034; omega⟩ (fun S_104 r_105 hq H locs hX => ?_)
  refine lv_iload hM.1 hM.2.1 dL_law_727 (lv_at hl 1 rfl) ?_
  refine lv_icmp_eq (tgt := 734) hM.1 hM.2.1 dL_law_729 (by decide) (fun c_106 => ?_) (fun c_106 => ?_)
  · replace hq := hq.1 c_106
    refine lv_iload hM.1 hM.2.1 dL_law_734 (lv_at hl 1 rfl) ?_
    refine lv_if_ne (tgt := 751) hM.1 hM.2.1 dL_law_736 (by decide) (fun c_107 => ?_) (fun c_107 => ?_)
    · replace hq := hq.1 c_107
      refine lv_goto (tgt := 1576) hM.1 hM.2.1 dL_law_751 (by decide) ?_
      refine W.widen (k := 500 + (i + 5)) (n := 8000 + 6 * (i + 5)) (by omega) (by omega) ?_
      exact J S_104 o_100 hq H locs ls d0 hd0 hX (lv_sub hl [2, 3, 4, 5, 6] rfl)
    replace hq := hq.2 c_107
    refine lv_aload_n hM.1 hM.2.1 dL_law_739 rfl (lv_at hl 6 rfl) ?_
    refine lv_iconst (v := (0 : Int32)) hM.1 hM.2.1 dL_law_740 (by decide) ?_
    refine r_lald hM hK hX dL_law_741 ?_
    refine lv_iload hM.1 hM.2.1 dL_law_742 (lv_at hl 0 rfl) ?_
    refine lv_i2l hM.1 hM.2.1 dL_law_744 rfl ?_
    refine W.lcmp hM.1 hM.2.1 dL_law_745 ?_
    refine lv_if_eq (tgt := 751) hM.1 hM.2.1 dL_law_746 (by decide) (fun c_109 => ?_) (fun c_109 => ?_)
    · replace hq := hq.1 c_109
      refine lv_goto (tgt := 1576) hM.1 hM.2.1 dL_law_751 (by decide) ?_
      refine W.widen (k := 500 + (i + 5)) (n := 8000 + 6 * (i + 5)) (by omega) (by omega) ?_
      exact J S_104 o_100 hq H locs ls d0 hd0 hX (lv_sub hl [2, 3, 4, 5, 6] rfl)
    replace hq := hq.2 c_109
    exact hq.elim
  replace hq := hq.2 c_106
  exact hq.elim
set_option maxRecDepth 100000 in
set_option maxHeartbeats 4000000 in
theorem law_c11 {p : Program} {l : Launch} {e : Env} {s : State} {m : MethodId} {below : List Frame} {meth : Method} {c : Code} {D : va_G} {ad : Adr} {cy : Nat → ClassId} {b L : Nat} {xs : Nat → Int32} (hl9 : l.stackTraces = false) (hL : L ≤ 2560) (hMM : ∀ d : Drawn, CallFix p m c cL_law 9 (s.setDrawn d) #[Value.ref b] lw_all RL) (hKK : KW D cy s) (hT0 : TX s) (hZ0 : TZ (fun q : Nat => s.heap.size ≤ q) s s.heap) (hN0 : NC s) (hXs0 : va_X b L xs s s.heap) (hbl : b < s.heap.size) {i : Nat} (hi : i + 5 ≤ L) {K : Mem → (Nat → Int64) → Prop} (J : ∀ (S : Mem) (o : Nat → Int64), K S o → ∀ (H : Heap) (locs : List Loc) (ls : Array Slot) (d0 : Drawn), s.drawn.sameBut d0 lw_cs → PW D ad cy (fun q : Nat => s.heap.size ≤ q) s.heap o S H locs → lv_has ls 9 [(4, .int (nI i)), (0, .ref b), (1, .ref (ad 14 0 0)), (2, .ref (ad 15 0 0)), (3, .ref (ad 28 0 0))] → W p l e room_1 (s.setDrawn d0) m #[Value.ref b] below meth c H locs (500 + (i + 5)) (8000 + 6 * (i + 5)) (lw_Z below #[Value.ref b] s) (F0 m 1576 ls [])) (S : Mem) (o : Nat → Int64) (hq : vc_call11 xs i S o K) (H : Heap) (locs : List Loc) (ls : Array Slot) (d0 : Drawn) (hd0 : s.drawn.sameBut d0 lw_cs) (hX : PW D ad cy (fun q : Nat => s.heap.size ≤ q) s.heap o S H locs) (hl : lv_has ls 9 [(4, .int (nI i)), (0, .ref b), (1, .ref (ad 14 0 0)), (2, .ref (ad 15 0 0)), (3, .ref (ad 28 0 0))]) : W p l e room_1 (s.setDrawn d0) m #[Value.ref b] below meth c H locs (500 + i) (8000 + 6 * i) (lw_Z below #[Value.ref b] s) (F0 m 754 ls []) := by
  have hA : ∀ q : Nat, s.heap.size ≤ q → (fun q : Nat => s.heap.size ≤ q) q := fun _ h => h
  have hbA : ¬ (fun q : Nat => s.heap.size ≤ q) b := Nat.not_le.mpr hbl
  have hM := hMM d0
  have hK : KW D cy (s.setDrawn d0) := hKK
  have hT : TX (s.setDrawn d0) := TX.same (u := s) (U := s.setDrawn d0) rfl hT0
  have hZ : TZ (fun q : Nat => s.heap.size ≤ q) (s.setDrawn d0) s.heap := hZ0
  have hN : NC (s.setDrawn d0) := hN0
  have hXs : va_X b L xs (s.setDrawn d0) s.heap := hXs0
  unfold vc_call11 at hq
  refine lv_aload_n hM.1 hM.2.1 dL_law_754 rfl (lv_at hl 2 rfl) ?_
  refine lv_aload_n hM.1 hM.2.1 dL_law_755 rfl (lv_at hl 4 rfl) ?_
  refine hSi (As := [.ref (ad 14 0 0), .ref (ad 28 0 0)]) hM hK hX hA hT hZ hN (met_L_undo l hl9 D ad cy S o hq) (kL_undo hM.2.2.2.2 ql_RL_131 (Nat.le_of_ble_eq_true rfl) (Nat.le_of_ble_eq_true rfl)) rfl hl.1 rfl (Nat.le_of_ble_eq_true rfl) dL_law_756 ⟨by show _ ≤ 601024; omega, by show _ ≤ 7293034; omega⟩ (fun S_110 o_111 r_112 hq H locs hX => ?_)
  refine lv_istore (lv' := [(5, .int r_112), (4, .int (nI i)), (0, .ref b), (1, .ref (ad 14 0 0)), (2, .ref (ad 15 0 0)), (3, .ref (ad 28 0 0))]) hM.1 hM.2.1 dL_law_759 hl (by decide) rfl (fun ls hl => ?_)
  refine lv_aload_n hM.1 hM.2.1 dL_law_761 rfl (lv_at hl 4 rfl) ?_
  refine cVi (As := []) hM hK hX hA (met_X7_undo l D ad cy S_110 hq) (kX7_undo hM.2.2.2.2 ql_RL_133 (Nat.le_of_ble_eq_true rfl) (Nat.le_of_ble_eq_true rfl)) (v15 hK hX m15) rfl hl.1 rfl (Nat.le_of_ble_eq_true rfl) dL_law_762 ⟨by show _ ≤ 601024; omega, by show _ ≤ 7293034; omega⟩ (fun S_113 r_114 hq H locs hX => ?_)
  refine lv_istore (lv' := [(6, .int r_114), (5, .int r_112), (4, .int (nI i)), (0, .ref b), (1, .ref (ad 14 0 0)), (2, .ref (ad 15 0 0)), (3, .ref (ad 28 0 0))]) hM.1 hM.2.1 dL_law_765 hl (by decide) rfl (fun ls hl => ?_)
  refine lv_aload_n hM.1 hM.2.1 dL_law_767 rfl (lv_at hl 5 rfl) ?_
  refine cVi (As := []) hM hK hX hA (met_X7_thrown l D ad cy S_113 hq) (kX7_thrown hM.2.2.2.2 ql_RL_93 (Nat.le_of_ble_eq_true rfl) (Nat.le_of_ble_eq_true rfl)) (v15 hK hX m15) rfl hl.1 rfl (Nat.le_of_ble_eq_true rfl) dL_law_768 ⟨by show _ ≤ 601024; omega, by show _ ≤ 7293034; omega⟩ (fun S_115 r_116 hq H locs hX => ?_)
  refine lv_iload hM.1 hM.2.1 dL_law_771 (lv_at hl 1 rfl) ?_
  refine lv_icmp_eq (tgt := 778) hM.1 hM.2.1 dL_law_773 (by decide) (fun c_117 => ?_) (fun c_117 => ?_)
  · replace hq := hq.1 c_117
    refine lv_iload hM.1 hM.2.1 dL_law_778 (lv_at hl 1 rfl) ?_
    refine lv_if_ne (tgt := 795) hM.1 hM.2.1 dL_law_780 (by decide) (fun c_118 => ?_) (fun c_118 => ?_)
    · replace hq := hq.1 c_118
      refine lv_goto (tgt := 1576) hM.1 hM.2.1 dL_law_795 (by decide) ?_
      refine W.widen (k := 500 + (i + 5)) (n := 8000 + 6 * (i + 5)) (by omega) (by omega) ?_
      exact J S_115 o_111 hq H locs ls d0 hd0 hX (lv_sub hl [2, 3, 4, 5, 6] rfl)
    replace hq := hq.2 c_118
    refine lv_aload_n hM.1 hM.2.1 dL_law_783 rfl (lv_at hl 6 rfl) ?_
    refine lv_iconst (v := (0 : Int32)) hM.1 hM.2.1 dL_law_784 (by decide) ?_
    refine r_lald hM hK hX dL_law_785 ?_
    refine lv_iload hM.1 hM.2.1 dL_law_786 (lv_at hl 0 rfl) ?_
    refine lv_i2l hM.1 hM.2.1 dL_law_788 rfl ?_
    refine W.lcmp hM.1 hM.2.1 dL_law_789 ?_
    refine lv_if_eq (tgt := 795) hM.1 hM.2.1 dL_law_790 (by decide) (fun c_120 => ?_) (fun c_120 => ?_)
    · replace hq := hq.1 c_120
      refine lv_goto (tgt := 1576) hM.1 hM.2.1 dL_law_795 (by decide) ?_
      refine W.widen (k := 500 + (i + 5)) (n := 8000 + 6 * (i + 5)) (by omega) (by omega) ?_
      exact J S_115 o_111 hq H locs ls d0 hd0 hX (lv_sub hl [2, 3, 4, 5, 6] rfl)
    replace hq := hq.2 c_120
    exact hq.elim
  replace hq := hq.2 c_117
  exact hq.elim
set_option maxRecDepth 100000 in
set_option maxHeartbeats 4000000 in
theorem law_c12 {p : Program} {l : Launch} {e : Env} {s : State} {m : MethodId} {below : List Frame} {meth : Method} {c : Code} {D : va_G} {ad : Adr} {cy : Nat → ClassId} {b L : Nat} {xs : Nat → Int32} (hl9 : l.stackTraces = false) (hL : L ≤ 2560) (hMM : ∀ d : Drawn, CallFix p m c cL_law 9 (s.setDrawn d) #[Value.ref b] lw_all RL) (hKK : KW D cy s) (hT0 : TX s) (hZ0 : TZ (fun q : Nat => s.heap.size ≤ q) s s.heap) (hN0 : NC s) (hXs0 : va_X b L xs s s.heap) (hbl : b < s.heap.size) {i : Nat} (hi : i + 5 ≤ L) {K : Mem → (Nat → Int64) → Prop} (J : ∀ (S : Mem) (o : Nat → Int64), K S o → ∀ (H : Heap) (locs : List Loc) (ls : Array Slot) (d0 : Drawn), s.drawn.sameBut d0 lw_cs → PW D ad cy (fun q : Nat => s.heap.size ≤ q) s.heap o S H locs → lv_has ls 9 [(4, .int (nI i)), (0, .ref b), (1, .ref (ad 14 0 0)), (2, .ref (ad 15 0 0)), (3, .ref (ad 28 0 0))] → W p l e room_1 (s.setDrawn d0) m #[Value.ref b] below meth c H locs (500 + (i + 5)) (8000 + 6 * (i + 5)) (lw_Z below #[Value.ref b] s) (F0 m 1576 ls [])) (S : Mem) (o : Nat → Int64) (hq : vc_call12 xs i S o K) (H : Heap) (locs : List Loc) (ls : Array Slot) (d0 : Drawn) (hd0 : s.drawn.sameBut d0 lw_cs) (hX : PW D ad cy (fun q : Nat => s.heap.size ≤ q) s.heap o S H locs) (hl : lv_has ls 9 [(4, .int (nI i)), (0, .ref b), (1, .ref (ad 14 0 0)), (2, .ref (ad 15 0 0)), (3, .ref (ad 28 0 0))]) : W p l e room_1 (s.setDrawn d0) m #[Value.ref b] below meth c H locs (500 + i) (8000 + 6 * i) (lw_Z below #[Value.ref b] s) (F0 m 798 ls []) := by
  have hA : ∀ q : Nat, s.heap.size ≤ q → (fun q : Nat => s.heap.size ≤ q) q := fun _ h => h
  have hbA : ¬ (fun q : Nat => s.heap.size ≤ q) b := Nat.not_le.mpr hbl
  have hM := hMM d0
  have hK : KW D cy (s.setDrawn d0) := hKK
  have hT : TX (s.setDrawn d0) := TX.same (u := s) (U := s.setDrawn d0) rfl hT0
  have hZ : TZ (fun q : Nat => s.heap.size ≤ q) (s.setDrawn d0) s.heap := hZ0
  have hN : NC (s.setDrawn d0) := hN0
  have hXs : va_X b L xs (s.setDrawn d0) s.heap := hXs0
  unfold vc_call12 at hq
  refine lv_aload_n hM.1 hM.2.1 dL_law_798 rfl (lv_at hl 2 rfl) ?_
  refine lv_aload_n hM.1 hM.2.1 dL_law_799 rfl (lv_at hl 1 rfl) ?_
  refine lv_iload hM.1 hM.2.1 dL_law_800 (lv_at hl 0 rfl) ?_
  refine lv_iconst (v := (1 : Int32)) hM.1 hM.2.1 dL_law_802 (by decide) ?_
  refine lv_iadd hM.1 hM.2.1 dL_law_803 ?_
  refine r_sld (j := 1) hM hXs hbl hbA hX hL (by omega) (ni_1 i) dL_law_804 ?_
  refine lv_aload_n hM.1 hM.2.1 dL_law_805 rfl (lv_at hl 4 rfl) ?_
  refine hSi (As := [.ref (ad 14 0 0), .int (xs (i + 1)), .ref (ad 28 0 0)]) hM hK hX hA hT hZ hN (met_L_keep l hl9 D ad cy S o (xs (i + 1)) hq) (kL_keep hM.2.2.2.2 ql_RL_134 (Nat.le_of_ble_eq_true rfl) (Nat.le_of_ble_eq_true rfl)) rfl hl.1 rfl (Nat.le_of_ble_eq_true rfl) dL_law_806 ⟨by show _ ≤ 601024; omega, by show _ ≤ 7293034; omega⟩ (fun S_121 o_122 r_123 hq H locs hX => ?_)
  refine lv_istore (lv' := [(5, .int r_123), (4, .int (nI i)), (0, .ref b), (1, .ref (ad 14 0 0)), (2, .ref (ad 15 0 0)), (3, .ref (ad 28 0 0))]) hM.1 hM.2.1 dL_law_809 hl (by decide) rfl (fun ls hl => ?_)
  refine lv_aload_n hM.1 hM.2.1 dL_law_811 rfl (lv_at hl 4 rfl) ?_
  refine lv_aload_n hM.1 hM.2.1 dL_law_812 rfl (lv_at hl 2 rfl) ?_
  refine lv_iload hM.1 hM.2.1 dL_law_813 (lv_at hl 1 rfl) ?_
  refine lv_iconst (v := (1 : Int32)) hM.1 hM.2.1 dL_law_815 (by decide) ?_
  refine lv_iadd hM.1 hM.2.1 dL_law_816 ?_
  refine r_sld (j := 1) hM hXs hbl hbA hX hL (by omega) (ni_1 i) dL_law_817 ?_
  refine cVi (As := [.int (xs (i + 1))]) hM hK hX hA (met_X7_keep l D ad cy S_121 (xs (i + 1)) hq) (kX7_keep hM.2.2.2.2 ql_RL_136 (Nat.le_of_ble_eq_true rfl) (Nat.le_of_ble_eq_true rfl)) (v15 hK hX m15) rfl hl.1 rfl (Nat.le_of_ble_eq_true rfl) dL_law_818 ⟨by show _ ≤ 601024; omega, by show _ ≤ 7293034; omega⟩ (fun S_124 r_125 hq H locs hX => ?_)
  refine lv_istore (lv' := [(6, .int r_125), (5, .int r_123), (4, .int (nI i)), (0, .ref b), (1, .ref (ad 14 0 0)), (2, .ref (ad 15 0 0)), (3, .ref (ad 28 0 0))]) hM.1 hM.2.1 dL_law_821 hl (by decide) rfl (fun ls hl => ?_)
  refine lv_aload_n hM.1 hM.2.1 dL_law_823 rfl (lv_at hl 5 rfl) ?_
  refine cVi (As := []) hM hK hX hA (met_X7_thrown l D ad cy S_124 hq) (kX7_thrown hM.2.2.2.2 ql_RL_93 (Nat.le_of_ble_eq_true rfl) (Nat.le_of_ble_eq_true rfl)) (v15 hK hX m15) rfl hl.1 rfl (Nat.le_of_ble_eq_true rfl) dL_law_824 ⟨by show _ ≤ 601024; omega, by show _ ≤ 7293034; omega⟩ (fun S_126 r_127 hq H locs hX => ?_)
  refine lv_iload hM.1 hM.2.1 dL_law_827 (lv_at hl 1 rfl) ?_
  refine lv_icmp_eq (tgt := 834) hM.1 hM.2.1 dL_law_829 (by decide) (fun c_128 => ?_) (fun c_128 => ?_)
  · replace hq := hq.1 c_128
    refine lv_iload hM.1 hM.2.1 dL_law_834 (lv_at hl 1 rfl) ?_
    refine lv_if_ne (tgt := 851) hM.1 hM.2.1 dL_law_836 (by decide) (fun c_129 => ?_) (fun c_129 => ?_)
    · replace hq := hq.1 c_129
      refine lv_goto (tgt := 1576) hM.1 hM.2.1 dL_law_851 (by decide) ?_
      refine W.widen (k := 500 + (i + 5)) (n := 8000 + 6 * (i + 5)) (by omega) (by omega) ?_
      exact J S_126 o_122 hq H locs ls d0 hd0 hX (lv_sub hl [2, 3, 4, 5, 6] rfl)
    replace hq := hq.2 c_129
    refine lv_aload_n hM.1 hM.2.1 dL_law_839 rfl (lv_at hl 6 rfl) ?_
    refine lv_iconst (v := (0 : Int32)) hM.1 hM.2.1 dL_law_840 (by decide) ?_
    refine r_lald hM hK hX dL_law_841 ?_
    refine lv_iload hM.1 hM.2.1 dL_law_842 (lv_at hl 0 rfl) ?_
    refine lv_i2l hM.1 hM.2.1 dL_law_844 rfl ?_
    refine W.lcmp hM.1 hM.2.1 dL_law_845 ?_
    refine lv_if_eq (tgt := 851) hM.1 hM.2.1 dL_law_846 (by decide) (fun c_131 => ?_) (fun c_131 => ?_)
    · replace hq := hq.1 c_131
      refine lv_goto (tgt := 1576) hM.1 hM.2.1 dL_law_851 (by decide) ?_
      refine W.widen (k := 500 + (i + 5)) (n := 8000 + 6 * (i + 5)) (by omega) (by omega) ?_
      exact J S_126 o_122 hq H locs ls d0 hd0 hX (lv_sub hl [2, 3, 4, 5, 6] rfl)
    replace hq := hq.2 c_131
    exact hq.elim
  replace hq := hq.2 c_128
  exact hq.elim
set_option maxRecDepth 100000 in
set_option maxHeartbeats 4000000 in
theorem law_c13 {p : Program} {l : Launch} {e : Env} {s : State} {m : MethodId} {below : List Frame} {meth : Method} {c : Code} {D : va_G} {ad : Adr} {cy : Nat → ClassId} {b L : Nat} {xs : Nat → Int32} (hl9 : l.stackTraces = false) (hL : L ≤ 2560) (hMM : ∀ d : Drawn, CallFix p m c cL_law 9 (s.setDrawn d) #[Value.ref b] lw_all RL) (hKK : KW D cy s) (hT0 : TX s) (hZ0 : TZ (fun q : Nat => s.heap.size ≤ q) s s.heap) (hN0 : NC s) (hXs0 : va_X b L xs s s.heap) (hbl : b < s.heap.size) {i : Nat} (hi : i + 5 ≤ L) {K : Mem → (Nat → Int64) → Prop} (J : ∀ (S : Mem) (o : Nat → Int64), K S o → ∀ (H : Heap) (locs : List Loc) (ls : Array Slot) (d0 : Drawn), s.drawn.sameBut d0 lw_cs → PW D ad cy (fun q : Nat => s.heap.size ≤ q) s.heap o S H locs → lv_has ls 9 [(4, .int (nI i)), (0, .ref b), (1, .ref (ad 14 0 0)), (2, .ref (ad 15 0 0)), (3, .ref (ad 28 0 0))] → W p l e room_1 (s.setDrawn d0) m #[Value.ref b] below meth c H locs (500 + (i + 5)) (8000 + 6 * (i + 5)) (lw_Z below #[Value.ref b] s) (F0 m 1576 ls [])) (S : Mem) (o : Nat → Int64) (hq : vc_call13 xs i S o K) (H : Heap) (locs : List Loc) (ls : Array Slot) (d0 : Drawn) (hd0 : s.drawn.sameBut d0 lw_cs) (hX : PW D ad cy (fun q : Nat => s.heap.size ≤ q) s.heap o S H locs) (hl : lv_has ls 9 [(4, .int (nI i)), (0, .ref b), (1, .ref (ad 14 0 0)), (2, .ref (ad 15 0 0)), (3, .ref (ad 28 0 0))]) : W p l e room_1 (s.setDrawn d0) m #[Value.ref b] below meth c H locs (500 + i) (8000 + 6 * i) (lw_Z below #[Value.ref b] s) (F0 m 854 ls []) := by
  have hA : ∀ q : Nat, s.heap.size ≤ q → (fun q : Nat => s.heap.size ≤ q) q := fun _ h => h
  have hbA : ¬ (fun q : Nat => s.heap.size ≤ q) b := Nat.not_le.mpr hbl
  have hM := hMM d0
  have hK : KW D cy (s.setDrawn d0) := hKK
  have hT : TX (s.setDrawn d0) := TX.same (u := s) (U := s.setDrawn d0) rfl hT0
  have hZ : TZ (fun q : Nat => s.heap.size ≤ q) (s.setDrawn d0) s.heap := hZ0
  have hN : NC (s.setDrawn d0) := hN0
  have hXs : va_X b L xs (s.setDrawn d0) s.heap := hXs0
  unfold vc_call13 at hq
  refine lv_aload_n hM.1 hM.2.1 dL_law_854 rfl (lv_at hl 2 rfl) ?_
  refine lv_aload_n hM.1 hM.2.1 dL_law_855 rfl (lv_at hl 1 rfl) ?_
  refine lv_iload hM.1 hM.2.1 dL_law_856 (lv_at hl 0 rfl) ?_
  refine lv_iconst (v := (1 : Int32)) hM.1 hM.2.1 dL_law_858 (by decide) ?_
  refine lv_iadd hM.1 hM.2.1 dL_law_859 ?_
  refine r_sld (j := 1) hM hXs hbl hbA hX hL (by omega) (ni_1 i) dL_law_860 ?_
  refine lv_aload_n hM.1 hM.2.1 dL_law_861 rfl (lv_at hl 4 rfl) ?_
  refine hSi (As := [.ref (ad 14 0 0), .int (xs (i + 1)), .ref (ad 28 0 0)]) hM hK hX hA hT hZ hN (met_L_goBack l hl9 D ad cy S o (xs (i + 1)) hq) (kL_goBack hM.2.2.2.2 ql_RL_137 (Nat.le_of_ble_eq_true rfl) (Nat.le_of_ble_eq_true rfl)) rfl hl.1 rfl (Nat.le_of_ble_eq_true rfl) dL_law_862 ⟨by show _ ≤ 601024; omega, by show _ ≤ 7293034; omega⟩ (fun S_132 o_133 r_134 hq H locs hX => ?_)
  refine lv_istore (lv' := [(5, .int r_134), (4, .int (nI i)), (0, .ref b), (1, .ref (ad 14 0 0)), (2, .ref (ad 15 0 0)), (3, .ref (ad 28 0 0))]) hM.1 hM.2.1 dL_law_865 hl (by decide) rfl (fun ls hl => ?_)
  refine lv_aload_n hM.1 hM.2.1 dL_law_867 rfl (lv_at hl 4 rfl) ?_
  refine lv_aload_n hM.1 hM.2.1 dL_law_868 rfl (lv_at hl 2 rfl) ?_
  refine lv_iload hM.1 hM.2.1 dL_law_869 (lv_at hl 1 rfl) ?_
  refine lv_iconst (v := (1 : Int32)) hM.1 hM.2.1 dL_law_871 (by decide) ?_
  refine lv_iadd hM.1 hM.2.1 dL_law_872 ?_
  refine r_sld (j := 1) hM hXs hbl hbA hX hL (by omega) (ni_1 i) dL_law_873 ?_
  refine cVi (As := [.int (xs (i + 1))]) hM hK hX hA (met_X7_goBack l D ad cy S_132 (xs (i + 1)) hq) (kX7_goBack hM.2.2.2.2 ql_RL_139 (Nat.le_of_ble_eq_true rfl) (Nat.le_of_ble_eq_true rfl)) (v15 hK hX m15) rfl hl.1 rfl (Nat.le_of_ble_eq_true rfl) dL_law_874 ⟨by show _ ≤ 601024; omega, by show _ ≤ 7293034; omega⟩ (fun S_135 r_136 hq H locs hX => ?_)
  refine lv_istore (lv' := [(6, .int r_136), (5, .int r_134), (4, .int (nI i)), (0, .ref b), (1, .ref (ad 14 0 0)), (2, .ref (ad 15 0 0)), (3, .ref (ad 28 0 0))]) hM.1 hM.2.1 dL_law_877 hl (by decide) rfl (fun ls hl => ?_)
  refine lv_aload_n hM.1 hM.2.1 dL_law_879 rfl (lv_at hl 5 rfl) ?_
  refine cVi (As := []) hM hK hX hA (met_X7_thrown l D ad cy S_135 hq) (kX7_thrown hM.2.2.2.2 ql_RL_93 (Nat.le_of_ble_eq_true rfl) (Nat.le_of_ble_eq_true rfl)) (v15 hK hX m15) rfl hl.1 rfl (Nat.le_of_ble_eq_true rfl) dL_law_880 ⟨by show _ ≤ 601024; omega, by show _ ≤ 7293034; omega⟩ (fun S_137 r_138 hq H locs hX => ?_)
  refine lv_iload hM.1 hM.2.1 dL_law_883 (lv_at hl 1 rfl) ?_
  refine lv_icmp_eq (tgt := 890) hM.1 hM.2.1 dL_law_885 (by decide) (fun c_139 => ?_) (fun c_139 => ?_)
  · replace hq := hq.1 c_139
    refine lv_iload hM.1 hM.2.1 dL_law_890 (lv_at hl 1 rfl) ?_
    refine lv_if_ne (tgt := 907) hM.1 hM.2.1 dL_law_892 (by decide) (fun c_140 => ?_) (fun c_140 => ?_)
    · replace hq := hq.1 c_140
      refine lv_goto (tgt := 1576) hM.1 hM.2.1 dL_law_907 (by decide) ?_
      refine W.widen (k := 500 + (i + 5)) (n := 8000 + 6 * (i + 5)) (by omega) (by omega) ?_
      exact J S_137 o_133 hq H locs ls d0 hd0 hX (lv_sub hl [2, 3, 4, 5, 6] rfl)
    replace hq := hq.2 c_140
    refine lv_aload_n hM.1 hM.2.1 dL_law_895 rfl (lv_at hl 6 rfl) ?_
    refine lv_iconst (v := (0 : Int32)) hM.1 hM.2.1 dL_law_896 (by decide) ?_
    refine r_lald hM hK hX dL_law_897 ?_
    refine lv_iload hM.1 hM.2.1 dL_law_898 (lv_at hl 0 rfl) ?_
    refine lv_i2l hM.1 hM.2.1 dL_law_900 rfl ?_
    refine W.lcmp hM.1 hM.2.1 dL_law_901 ?_
    refine lv_if_eq (tgt := 907) hM.1 hM.2.1 dL_law_902 (by decide) (fun c_142 => ?_) (fun c_142 => ?_)
    · replace hq := hq.1 c_142
      refine lv_goto (tgt := 1576) hM.1 hM.2.1 dL_law_907 (by decide) ?_
      refine W.widen (k := 500 + (i + 5)) (n := 8000 + 6 * (i + 5)) (by omega) (by omega) ?_
      exact J S_137 o_133 hq H locs ls d0 hd0 hX (lv_sub hl [2, 3, 4, 5, 6] rfl)
    replace hq := hq.2 c_142
    exact hq.elim
  replace hq := hq.2 c_139
  exact hq.elim
set_option maxRecDepth 100000 in
set_option maxHeartbeats 4000000 in
theorem law_c14 {p : Program} {l : Launch} {e : Env} {s : State} {m : MethodId} {below : List Frame} {meth : Method} {c : Code} {D : va_G} {ad : Adr} {cy : Nat → ClassId} {b L : Nat} {xs : Nat → Int32} (hl9 : l.stackTraces = false) (hL : L ≤ 2560) (hMM : ∀ d : Drawn, CallFix p m c cL_law 9 (s.setDrawn d) #[Value.ref b] lw_all RL) (hKK : KW D cy s) (hT0 : TX s) (hZ0 : TZ (fun q : Nat => s.heap.size ≤ q) s s.heap) (hN0 : NC s) (hXs0 : va_X b L xs s s.heap) (hbl : b < s.heap.size) {i : Nat} (hi : i + 5 ≤ L) {K : Mem → (Nat → Int64) → Prop} (J : ∀ (S : Mem) (o : Nat → Int64), K S o → ∀ (H : Heap) (locs : List Loc) (ls : Array Slot) (d0 : Drawn), s.drawn.sameBut d0 lw_cs → PW D ad cy (fun q : Nat => s.heap.size ≤ q) s.heap o S H locs → lv_has ls 9 [(4, .int (nI i)), (0, .ref b), (1, .ref (ad 14 0 0)), (2, .ref (ad 15 0 0)), (3, .ref (ad 28 0 0))] → W p l e room_1 (s.setDrawn d0) m #[Value.ref b] below meth c H locs (500 + (i + 5)) (8000 + 6 * (i + 5)) (lw_Z below #[Value.ref b] s) (F0 m 1576 ls [])) (S : Mem) (o : Nat → Int64) (hq : vc_call14 xs i S o K) (H : Heap) (locs : List Loc) (ls : Array Slot) (d0 : Drawn) (hd0 : s.drawn.sameBut d0 lw_cs) (hX : PW D ad cy (fun q : Nat => s.heap.size ≤ q) s.heap o S H locs) (hl : lv_has ls 9 [(4, .int (nI i)), (0, .ref b), (1, .ref (ad 14 0 0)), (2, .ref (ad 15 0 0)), (3, .ref (ad 28 0 0))]) : W p l e room_1 (s.setDrawn d0) m #[Value.ref b] below meth c H locs (500 + i) (8000 + 6 * i) (lw_Z below #[Value.ref b] s) (F0 m 910 ls []) := by
  have hA : ∀ q : Nat, s.heap.size ≤ q → (fun q : Nat => s.heap.size ≤ q) q := fun _ h => h
  have hbA : ¬ (fun q : Nat => s.heap.size ≤ q) b := Nat.not_le.mpr hbl
  have hM := hMM d0
  have hK : KW D cy (s.setDrawn d0) := hKK
  have hT : TX (s.setDrawn d0) := TX.same (u := s) (U := s.setDrawn d0) rfl hT0
  have hZ : TZ (fun q : Nat => s.heap.size ≤ q) (s.setDrawn d0) s.heap := hZ0
  have hN : NC (s.setDrawn d0) := hN0
  have hXs : va_X b L xs (s.setDrawn d0) s.heap := hXs0
  unfold vc_call14 at hq
  refine lv_aload_n hM.1 hM.2.1 dL_law_910 rfl (lv_at hl 2 rfl) ?_
  refine lv_aload_n hM.1 hM.2.1 dL_law_911 rfl (lv_at hl 1 rfl) ?_
  refine lv_iload hM.1 hM.2.1 dL_law_912 (lv_at hl 0 rfl) ?_
  refine lv_iconst (v := (1 : Int32)) hM.1 hM.2.1 dL_law_914 (by decide) ?_
  refine lv_iadd hM.1 hM.2.1 dL_law_915 ?_
  refine r_sld (j := 1) hM hXs hbl hbA hX hL (by omega) (ni_1 i) dL_law_916 ?_
  refine lv_aload_n hM.1 hM.2.1 dL_law_917 rfl (lv_at hl 1 rfl) ?_
  refine lv_iload hM.1 hM.2.1 dL_law_918 (lv_at hl 0 rfl) ?_
  refine lv_iconst (v := (2 : Int32)) hM.1 hM.2.1 dL_law_920 (by decide) ?_
  refine lv_iadd hM.1 hM.2.1 dL_law_921 ?_
  refine r_sld (j := 2) hM hXs hbl hbA hX hL (by omega) (ni_2 i) dL_law_922 ?_
  refine lv_aload_n hM.1 hM.2.1 dL_law_923 rfl (lv_at hl 4 rfl) ?_
  refine hSi (As := [.ref (ad 14 0 0), .int (xs (i + 1)), .int (xs (i + 2)), .ref (ad 28 0 0)]) hM hK hX hA hT hZ hN (met_L_ofThermometer l hl9 D ad cy S o (xs (i + 1)) (xs (i + 2)) hq) (kL_ofThermometer hM.2.2.2.2 ql_RL_140 (Nat.le_of_ble_eq_true rfl) (Nat.le_of_ble_eq_true rfl)) rfl hl.1 rfl (Nat.le_of_ble_eq_true rfl) dL_law_924 ⟨by show _ ≤ 601024; omega, by show _ ≤ 7293034; omega⟩ (fun S_143 o_144 r_145 hq H locs hX => ?_)
  refine lv_istore (lv' := [(5, .int r_145), (4, .int (nI i)), (0, .ref b), (1, .ref (ad 14 0 0)), (2, .ref (ad 15 0 0)), (3, .ref (ad 28 0 0))]) hM.1 hM.2.1 dL_law_927 hl (by decide) rfl (fun ls hl => ?_)
  refine lv_aload_n hM.1 hM.2.1 dL_law_929 rfl (lv_at hl 4 rfl) ?_
  refine lv_aload_n hM.1 hM.2.1 dL_law_930 rfl (lv_at hl 2 rfl) ?_
  refine lv_iload hM.1 hM.2.1 dL_law_931 (lv_at hl 1 rfl) ?_
  refine lv_iconst (v := (1 : Int32)) hM.1 hM.2.1 dL_law_933 (by decide) ?_
  refine lv_iadd hM.1 hM.2.1 dL_law_934 ?_
  refine r_sld (j := 1) hM hXs hbl hbA hX hL (by omega) (ni_1 i) dL_law_935 ?_
  refine lv_aload_n hM.1 hM.2.1 dL_law_936 rfl (lv_at hl 2 rfl) ?_
  refine lv_iload hM.1 hM.2.1 dL_law_937 (lv_at hl 1 rfl) ?_
  refine lv_iconst (v := (2 : Int32)) hM.1 hM.2.1 dL_law_939 (by decide) ?_
  refine lv_iadd hM.1 hM.2.1 dL_law_940 ?_
  refine r_sld (j := 2) hM hXs hbl hbA hX hL (by omega) (ni_2 i) dL_law_941 ?_
  refine cVi (As := [.int (xs (i + 1)), .int (xs (i + 2))]) hM hK hX hA (met_X7_ofThermometer l D ad cy S_143 (xs (i + 1)) (xs (i + 2)) hq) (kX7_ofThermometer hM.2.2.2.2 ql_RL_142 (Nat.le_of_ble_eq_true rfl) (Nat.le_of_ble_eq_true rfl)) (v15 hK hX m15) rfl hl.1 rfl (Nat.le_of_ble_eq_true rfl) dL_law_942 ⟨by show _ ≤ 601024; omega, by show _ ≤ 7293034; omega⟩ (fun S_146 r_147 hq H locs hX => ?_)
  refine lv_istore (lv' := [(6, .int r_147), (5, .int r_145), (4, .int (nI i)), (0, .ref b), (1, .ref (ad 14 0 0)), (2, .ref (ad 15 0 0)), (3, .ref (ad 28 0 0))]) hM.1 hM.2.1 dL_law_945 hl (by decide) rfl (fun ls hl => ?_)
  refine lv_aload_n hM.1 hM.2.1 dL_law_947 rfl (lv_at hl 5 rfl) ?_
  refine cVi (As := []) hM hK hX hA (met_X7_thrown l D ad cy S_146 hq) (kX7_thrown hM.2.2.2.2 ql_RL_93 (Nat.le_of_ble_eq_true rfl) (Nat.le_of_ble_eq_true rfl)) (v15 hK hX m15) rfl hl.1 rfl (Nat.le_of_ble_eq_true rfl) dL_law_948 ⟨by show _ ≤ 601024; omega, by show _ ≤ 7293034; omega⟩ (fun S_148 r_149 hq H locs hX => ?_)
  refine lv_iload hM.1 hM.2.1 dL_law_951 (lv_at hl 1 rfl) ?_
  refine lv_icmp_eq (tgt := 958) hM.1 hM.2.1 dL_law_953 (by decide) (fun c_150 => ?_) (fun c_150 => ?_)
  · replace hq := hq.1 c_150
    refine lv_iload hM.1 hM.2.1 dL_law_958 (lv_at hl 1 rfl) ?_
    refine lv_if_ne (tgt := 975) hM.1 hM.2.1 dL_law_960 (by decide) (fun c_151 => ?_) (fun c_151 => ?_)
    · replace hq := hq.1 c_151
      refine lv_goto (tgt := 1576) hM.1 hM.2.1 dL_law_975 (by decide) ?_
      refine W.widen (k := 500 + (i + 5)) (n := 8000 + 6 * (i + 5)) (by omega) (by omega) ?_
      exact J S_148 o_144 hq H locs ls d0 hd0 hX (lv_sub hl [2, 3, 4, 5, 6] rfl)
    replace hq := hq.2 c_151
    refine lv_aload_n hM.1 hM.2.1 dL_law_963 rfl (lv_at hl 6 rfl) ?_
    refine lv_iconst (v := (0 : Int32)) hM.1 hM.2.1 dL_law_964 (by decide) ?_
    refine r_lald hM hK hX dL_law_965 ?_
    refine lv_iload hM.1 hM.2.1 dL_law_966 (lv_at hl 0 rfl) ?_
    refine lv_i2l hM.1 hM.2.1 dL_law_968 rfl ?_
    refine W.lcmp hM.1 hM.2.1 dL_law_969 ?_
    refine lv_if_eq (tgt := 975) hM.1 hM.2.1 dL_law_970 (by decide) (fun c_153 => ?_) (fun c_153 => ?_)
    · replace hq := hq.1 c_153
      refine lv_goto (tgt := 1576) hM.1 hM.2.1 dL_law_975 (by decide) ?_
      refine W.widen (k := 500 + (i + 5)) (n := 8000 + 6 * (i + 5)) (by omega) (by omega) ?_
      exact J S_148 o_144 hq H locs ls d0 hd0 hX (lv_sub hl [2, 3, 4, 5, 6] rfl)
    replace hq := hq.2 c_153
    exact hq.elim
  replace hq := hq.2 c_150
  exact hq.elim
set_option maxRecDepth 100000 in
set_option maxHeartbeats 4000000 in
theorem law_c15 {p : Program} {l : Launch} {e : Env} {s : State} {m : MethodId} {below : List Frame} {meth : Method} {c : Code} {D : va_G} {ad : Adr} {cy : Nat → ClassId} {b L : Nat} {xs : Nat → Int32} (hl9 : l.stackTraces = false) (hL : L ≤ 2560) (hMM : ∀ d : Drawn, CallFix p m c cL_law 9 (s.setDrawn d) #[Value.ref b] lw_all RL) (hKK : KW D cy s) (hT0 : TX s) (hZ0 : TZ (fun q : Nat => s.heap.size ≤ q) s s.heap) (hN0 : NC s) (hXs0 : va_X b L xs s s.heap) (hbl : b < s.heap.size) {i : Nat} (hi : i + 5 ≤ L) {K : Mem → (Nat → Int64) → Prop} (J : ∀ (S : Mem) (o : Nat → Int64), K S o → ∀ (H : Heap) (locs : List Loc) (ls : Array Slot) (d0 : Drawn), s.drawn.sameBut d0 lw_cs → PW D ad cy (fun q : Nat => s.heap.size ≤ q) s.heap o S H locs → lv_has ls 9 [(4, .int (nI i)), (0, .ref b), (1, .ref (ad 14 0 0)), (2, .ref (ad 15 0 0)), (3, .ref (ad 28 0 0))] → W p l e room_1 (s.setDrawn d0) m #[Value.ref b] below meth c H locs (500 + (i + 5)) (8000 + 6 * (i + 5)) (lw_Z below #[Value.ref b] s) (F0 m 1576 ls [])) (S : Mem) (o : Nat → Int64) (hq : vc_call15 xs i S o K) (H : Heap) (locs : List Loc) (ls : Array Slot) (d0 : Drawn) (hd0 : s.drawn.sameBut d0 lw_cs) (hX : PW D ad cy (fun q : Nat => s.heap.size ≤ q) s.heap o S H locs) (hl : lv_has ls 9 [(4, .int (nI i)), (0, .ref b), (1, .ref (ad 14 0 0)), (2, .ref (ad 15 0 0)), (3, .ref (ad 28 0 0))]) : W p l e room_1 (s.setDrawn d0) m #[Value.ref b] below meth c H locs (500 + i) (8000 + 6 * i) (lw_Z below #[Value.ref b] s) (F0 m 978 ls []) := by
  have hA : ∀ q : Nat, s.heap.size ≤ q → (fun q : Nat => s.heap.size ≤ q) q := fun _ h => h
  have hbA : ¬ (fun q : Nat => s.heap.size ≤ q) b := Nat.not_le.mpr hbl
  have hM := hMM d0
  have hK : KW D cy (s.setDrawn d0) := hKK
  have hT : TX (s.setDrawn d0) := TX.same (u := s) (U := s.setDrawn d0) rfl hT0
  have hZ : TZ (fun q : Nat => s.heap.size ≤ q) (s.setDrawn d0) s.heap := hZ0
  have hN : NC (s.setDrawn d0) := hN0
  have hXs : va_X b L xs (s.setDrawn d0) s.heap := hXs0
  unfold vc_call15 at hq
  refine lv_aload_n hM.1 hM.2.1 dL_law_978 rfl (lv_at hl 2 rfl) ?_
  refine lv_aload_n hM.1 hM.2.1 dL_law_979 rfl (lv_at hl 1 rfl) ?_
  refine lv_iload hM.1 hM.2.1 dL_law_980 (lv_at hl 0 rfl) ?_
  refine lv_iconst (v := (1 : Int32)) hM.1 hM.2.1 dL_law_982 (by decide) ?_
  refine lv_iadd hM.1 hM.2.1 dL_law_983 ?_
  refine r_sld (j := 1) hM hXs hbl hbA hX hL (by omega) (ni_1 i) dL_law_984 ?_
  refine lv_aload_n hM.1 hM.2.1 dL_law_985 rfl (lv_at hl 1 rfl) ?_
  refine lv_iload hM.1 hM.2.1 dL_law_986 (lv_at hl 0 rfl) ?_
  refine lv_iconst (v := (2 : Int32)) hM.1 hM.2.1 dL_law_988 (by decide) ?_
  refine lv_iadd hM.1 hM.2.1 dL_law_989 ?_
  refine r_sld (j := 2) hM hXs hbl hbA hX hL (by omega) (ni_2 i) dL_law_990 ?_
  refine lv_aload_n hM.1 hM.2.1 dL_law_991 rfl (lv_at hl 1 rfl) ?_
  refine lv_iload hM.1 hM.2.1 dL_law_992 (lv_at hl 0 rfl) ?_
  refine lv_iconst (v := (3 : Int32)) hM.1 hM.2.1 dL_law_994 (by decide) ?_
  refine lv_iadd hM.1 hM.2.1 dL_law_995 ?_
  refine r_sld (j := 3) hM hXs hbl hbA hX hL (by omega) (ni_3 i) dL_law_996 ?_
  refine lv_aload_n hM.1 hM.2.1 dL_law_997 rfl (lv_at hl 4 rfl) ?_
  refine hSi (As := [.ref (ad 14 0 0), .int (xs (i + 1)), .int (xs (i + 2)), .int (xs (i + 3)), .ref (ad 28 0 0)]) hM hK hX hA hT hZ hN (met_L_reading l hl9 D ad cy S o (xs (i + 1)) (xs (i + 2)) (xs (i + 3)) hq) (kL_reading hM.2.2.2.2 ql_RL_143 (Nat.le_of_ble_eq_true rfl) (Nat.le_of_ble_eq_true rfl)) rfl hl.1 rfl (Nat.le_of_ble_eq_true rfl) dL_law_998 ⟨by show _ ≤ 601024; omega, by show _ ≤ 7293034; omega⟩ (fun S_154 o_155 r_156 hq H locs hX => ?_)
  refine lv_istore (lv' := [(5, .int r_156), (4, .int (nI i)), (0, .ref b), (1, .ref (ad 14 0 0)), (2, .ref (ad 15 0 0)), (3, .ref (ad 28 0 0))]) hM.1 hM.2.1 dL_law_1001 hl (by decide) rfl (fun ls hl => ?_)
  refine lv_aload_n hM.1 hM.2.1 dL_law_1003 rfl (lv_at hl 4 rfl) ?_
  refine lv_aload_n hM.1 hM.2.1 dL_law_1004 rfl (lv_at hl 2 rfl) ?_
  refine lv_iload hM.1 hM.2.1 dL_law_1005 (lv_at hl 1 rfl) ?_
  refine lv_iconst (v := (1 : Int32)) hM.1 hM.2.1 dL_law_1007 (by decide) ?_
  refine lv_iadd hM.1 hM.2.1 dL_law_1008 ?_
  refine r_sld (j := 1) hM hXs hbl hbA hX hL (by omega) (ni_1 i) dL_law_1009 ?_
  refine lv_aload_n hM.1 hM.2.1 dL_law_1010 rfl (lv_at hl 2 rfl) ?_
  refine lv_iload hM.1 hM.2.1 dL_law_1011 (lv_at hl 1 rfl) ?_
  refine lv_iconst (v := (2 : Int32)) hM.1 hM.2.1 dL_law_1013 (by decide) ?_
  refine lv_iadd hM.1 hM.2.1 dL_law_1014 ?_
  refine r_sld (j := 2) hM hXs hbl hbA hX hL (by omega) (ni_2 i) dL_law_1015 ?_
  refine lv_aload_n hM.1 hM.2.1 dL_law_1016 rfl (lv_at hl 2 rfl) ?_
  refine lv_iload hM.1 hM.2.1 dL_law_1017 (lv_at hl 1 rfl) ?_
  refine lv_iconst (v := (3 : Int32)) hM.1 hM.2.1 dL_law_1019 (by decide) ?_
  refine lv_iadd hM.1 hM.2.1 dL_law_1020 ?_
  refine r_sld (j := 3) hM hXs hbl hbA hX hL (by omega) (ni_3 i) dL_law_1021 ?_
  refine cVi (As := [.int (xs (i + 1)), .int (xs (i + 2)), .int (xs (i + 3))]) hM hK hX hA (met_X7_reading l D ad cy S_154 (xs (i + 1)) (xs (i + 2)) (xs (i + 3)) hq) (kX7_reading hM.2.2.2.2 ql_RL_146 (Nat.le_of_ble_eq_true rfl) (Nat.le_of_ble_eq_true rfl)) (v15 hK hX m15) rfl hl.1 rfl (Nat.le_of_ble_eq_true rfl) dL_law_1022 ⟨by show _ ≤ 601024; omega, by show _ ≤ 7293034; omega⟩ (fun S_157 r_158 hq H locs hX => ?_)
  refine lv_istore (lv' := [(6, .int r_158), (5, .int r_156), (4, .int (nI i)), (0, .ref b), (1, .ref (ad 14 0 0)), (2, .ref (ad 15 0 0)), (3, .ref (ad 28 0 0))]) hM.1 hM.2.1 dL_law_1025 hl (by decide) rfl (fun ls hl => ?_)
  refine lv_aload_n hM.1 hM.2.1 dL_law_1027 rfl (lv_at hl 5 rfl) ?_
  refine cVi (As := []) hM hK hX hA (met_X7_thrown l D ad cy S_157 hq) (kX7_thrown hM.2.2.2.2 ql_RL_93 (Nat.le_of_ble_eq_true rfl) (Nat.le_of_ble_eq_true rfl)) (v15 hK hX m15) rfl hl.1 rfl (Nat.le_of_ble_eq_true rfl) dL_law_1028 ⟨by show _ ≤ 601024; omega, by show _ ≤ 7293034; omega⟩ (fun S_159 r_160 hq H locs hX => ?_)
  refine lv_iload hM.1 hM.2.1 dL_law_1031 (lv_at hl 1 rfl) ?_
  refine lv_icmp_eq (tgt := 1038) hM.1 hM.2.1 dL_law_1033 (by decide) (fun c_161 => ?_) (fun c_161 => ?_)
  · replace hq := hq.1 c_161
    refine lv_iload hM.1 hM.2.1 dL_law_1038 (lv_at hl 1 rfl) ?_
    refine lv_if_ne (tgt := 1055) hM.1 hM.2.1 dL_law_1040 (by decide) (fun c_162 => ?_) (fun c_162 => ?_)
    · replace hq := hq.1 c_162
      refine lv_goto (tgt := 1576) hM.1 hM.2.1 dL_law_1055 (by decide) ?_
      refine W.widen (k := 500 + (i + 5)) (n := 8000 + 6 * (i + 5)) (by omega) (by omega) ?_
      exact J S_159 o_155 hq H locs ls d0 hd0 hX (lv_sub hl [2, 3, 4, 5, 6] rfl)
    replace hq := hq.2 c_162
    refine lv_aload_n hM.1 hM.2.1 dL_law_1043 rfl (lv_at hl 6 rfl) ?_
    refine lv_iconst (v := (0 : Int32)) hM.1 hM.2.1 dL_law_1044 (by decide) ?_
    refine r_lald hM hK hX dL_law_1045 ?_
    refine lv_iload hM.1 hM.2.1 dL_law_1046 (lv_at hl 0 rfl) ?_
    refine lv_i2l hM.1 hM.2.1 dL_law_1048 rfl ?_
    refine W.lcmp hM.1 hM.2.1 dL_law_1049 ?_
    refine lv_if_eq (tgt := 1055) hM.1 hM.2.1 dL_law_1050 (by decide) (fun c_164 => ?_) (fun c_164 => ?_)
    · replace hq := hq.1 c_164
      refine lv_goto (tgt := 1576) hM.1 hM.2.1 dL_law_1055 (by decide) ?_
      refine W.widen (k := 500 + (i + 5)) (n := 8000 + 6 * (i + 5)) (by omega) (by omega) ?_
      exact J S_159 o_155 hq H locs ls d0 hd0 hX (lv_sub hl [2, 3, 4, 5, 6] rfl)
    replace hq := hq.2 c_164
    exact hq.elim
  replace hq := hq.2 c_161
  exact hq.elim
set_option maxRecDepth 100000 in
set_option maxHeartbeats 4000000 in
theorem law_c16 {p : Program} {l : Launch} {e : Env} {s : State} {m : MethodId} {below : List Frame} {meth : Method} {c : Code} {D : va_G} {ad : Adr} {cy : Nat → ClassId} {b L : Nat} {xs : Nat → Int32} (hl9 : l.stackTraces = false) (hL : L ≤ 2560) (hMM : ∀ d : Drawn, CallFix p m c cL_law 9 (s.setDrawn d) #[Value.ref b] lw_all RL) (hKK : KW D cy s) (hT0 : TX s) (hZ0 : TZ (fun q : Nat => s.heap.size ≤ q) s s.heap) (hN0 : NC s) (hXs0 : va_X b L xs s s.heap) (hbl : b < s.heap.size) {i : Nat} (hi : i + 5 ≤ L) {K : Mem → (Nat → Int64) → Prop} (J : ∀ (S : Mem) (o : Nat → Int64), K S o → ∀ (H : Heap) (locs : List Loc) (ls : Array Slot) (d0 : Drawn), s.drawn.sameBut d0 lw_cs → PW D ad cy (fun q : Nat => s.heap.size ≤ q) s.heap o S H locs → lv_has ls 9 [(4, .int (nI i)), (0, .ref b), (1, .ref (ad 14 0 0)), (2, .ref (ad 15 0 0)), (3, .ref (ad 28 0 0))] → W p l e room_1 (s.setDrawn d0) m #[Value.ref b] below meth c H locs (500 + (i + 5)) (8000 + 6 * (i + 5)) (lw_Z below #[Value.ref b] s) (F0 m 1576 ls [])) (S : Mem) (o : Nat → Int64) (hq : vc_call16 xs i S o K) (H : Heap) (locs : List Loc) (ls : Array Slot) (d0 : Drawn) (hd0 : s.drawn.sameBut d0 lw_cs) (hX : PW D ad cy (fun q : Nat => s.heap.size ≤ q) s.heap o S H locs) (hl : lv_has ls 9 [(4, .int (nI i)), (0, .ref b), (1, .ref (ad 14 0 0)), (2, .ref (ad 15 0 0)), (3, .ref (ad 28 0 0))]) : W p l e room_1 (s.setDrawn d0) m #[Value.ref b] below meth c H locs (500 + i) (8000 + 6 * i) (lw_Z below #[Value.ref b] s) (F0 m 1058 ls []) := by
  have hA : ∀ q : Nat, s.heap.size ≤ q → (fun q : Nat => s.heap.size ≤ q) q := fun _ h => h
  have hbA : ¬ (fun q : Nat => s.heap.size ≤ q) b := Nat.not_le.mpr hbl
  have hM := hMM d0
  have hK : KW D cy (s.setDrawn d0) := hKK
  have hT : TX (s.setDrawn d0) := TX.same (u := s) (U := s.setDrawn d0) rfl hT0
  have hZ : TZ (fun q : Nat => s.heap.size ≤ q) (s.setDrawn d0) s.heap := hZ0
  have hN : NC (s.setDrawn d0) := hN0
  have hXs : va_X b L xs (s.setDrawn d0) s.heap := hXs0
  unfold vc_call16 at hq
  refine lv_aload_n hM.1 hM.2.1 dL_law_1058 rfl (lv_at hl 2 rfl) ?_
  refine lv_aload_n hM.1 hM.2.1 dL_law_1059 rfl (lv_at hl 1 rfl) ?_
  refine lv_iload hM.1 hM.2.1 dL_law_1060 (lv_at hl 0 rfl) ?_
  refine lv_iconst (v := (1 : Int32)) hM.1 hM.2.1 dL_law_1062 (by decide) ?_
  refine lv_iadd hM.1 hM.2.1 dL_law_1063 ?_
  refine r_sld (j := 1) hM hXs hbl hbA hX hL (by omega) (ni_1 i) dL_law_1064 ?_
  refine lv_aload_n hM.1 hM.2.1 dL_law_1065 rfl (lv_at hl 1 rfl) ?_
  refine lv_iload hM.1 hM.2.1 dL_law_1066 (lv_at hl 0 rfl) ?_
  refine lv_iconst (v := (2 : Int32)) hM.1 hM.2.1 dL_law_1068 (by decide) ?_
  refine lv_iadd hM.1 hM.2.1 dL_law_1069 ?_
  refine r_sld (j := 2) hM hXs hbl hbA hX hL (by omega) (ni_2 i) dL_law_1070 ?_
  refine lv_aload_n hM.1 hM.2.1 dL_law_1071 rfl (lv_at hl 4 rfl) ?_
  refine hSi (As := [.ref (ad 14 0 0), .int (xs (i + 1)), .int (xs (i + 2)), .ref (ad 28 0 0)]) hM hK hX hA hT hZ hN (met_L_row l hl9 D ad cy S o (xs (i + 1)) (xs (i + 2)) hq) (kL_row hM.2.2.2.2 ql_RL_147 (Nat.le_of_ble_eq_true rfl) (Nat.le_of_ble_eq_true rfl)) rfl hl.1 rfl (Nat.le_of_ble_eq_true rfl) dL_law_1072 ⟨by show _ ≤ 601024; omega, by show _ ≤ 7293034; omega⟩ (fun S_165 o_166 r_167 hq H locs hX => ?_)
  refine lv_istore (lv' := [(5, .int r_167), (4, .int (nI i)), (0, .ref b), (1, .ref (ad 14 0 0)), (2, .ref (ad 15 0 0)), (3, .ref (ad 28 0 0))]) hM.1 hM.2.1 dL_law_1075 hl (by decide) rfl (fun ls hl => ?_)
  refine lv_aload_n hM.1 hM.2.1 dL_law_1077 rfl (lv_at hl 4 rfl) ?_
  refine lv_aload_n hM.1 hM.2.1 dL_law_1078 rfl (lv_at hl 2 rfl) ?_
  refine lv_iload hM.1 hM.2.1 dL_law_1079 (lv_at hl 1 rfl) ?_
  refine lv_iconst (v := (1 : Int32)) hM.1 hM.2.1 dL_law_1081 (by decide) ?_
  refine lv_iadd hM.1 hM.2.1 dL_law_1082 ?_
  refine r_sld (j := 1) hM hXs hbl hbA hX hL (by omega) (ni_1 i) dL_law_1083 ?_
  refine lv_aload_n hM.1 hM.2.1 dL_law_1084 rfl (lv_at hl 2 rfl) ?_
  refine lv_iload hM.1 hM.2.1 dL_law_1085 (lv_at hl 1 rfl) ?_
  refine lv_iconst (v := (2 : Int32)) hM.1 hM.2.1 dL_law_1087 (by decide) ?_
  refine lv_iadd hM.1 hM.2.1 dL_law_1088 ?_
  refine r_sld (j := 2) hM hXs hbl hbA hX hL (by omega) (ni_2 i) dL_law_1089 ?_
  refine cVi (As := [.int (xs (i + 1)), .int (xs (i + 2))]) hM hK hX hA (met_X7_row l D ad cy S_165 (xs (i + 1)) (xs (i + 2)) hq) (kX7_row hM.2.2.2.2 ql_RL_149 (Nat.le_of_ble_eq_true rfl) (Nat.le_of_ble_eq_true rfl)) (v15 hK hX m15) rfl hl.1 rfl (Nat.le_of_ble_eq_true rfl) dL_law_1090 ⟨by show _ ≤ 601024; omega, by show _ ≤ 7293034; omega⟩ (fun S_168 r_169 hq H locs hX => ?_)
  refine lv_istore (lv' := [(6, .int r_169), (5, .int r_167), (4, .int (nI i)), (0, .ref b), (1, .ref (ad 14 0 0)), (2, .ref (ad 15 0 0)), (3, .ref (ad 28 0 0))]) hM.1 hM.2.1 dL_law_1093 hl (by decide) rfl (fun ls hl => ?_)
  refine lv_aload_n hM.1 hM.2.1 dL_law_1095 rfl (lv_at hl 5 rfl) ?_
  refine cVi (As := []) hM hK hX hA (met_X7_thrown l D ad cy S_168 hq) (kX7_thrown hM.2.2.2.2 ql_RL_93 (Nat.le_of_ble_eq_true rfl) (Nat.le_of_ble_eq_true rfl)) (v15 hK hX m15) rfl hl.1 rfl (Nat.le_of_ble_eq_true rfl) dL_law_1096 ⟨by show _ ≤ 601024; omega, by show _ ≤ 7293034; omega⟩ (fun S_170 r_171 hq H locs hX => ?_)
  refine lv_iload hM.1 hM.2.1 dL_law_1099 (lv_at hl 1 rfl) ?_
  refine lv_icmp_eq (tgt := 1106) hM.1 hM.2.1 dL_law_1101 (by decide) (fun c_172 => ?_) (fun c_172 => ?_)
  · replace hq := hq.1 c_172
    refine lv_iload hM.1 hM.2.1 dL_law_1106 (lv_at hl 1 rfl) ?_
    refine lv_if_ne (tgt := 1123) hM.1 hM.2.1 dL_law_1108 (by decide) (fun c_173 => ?_) (fun c_173 => ?_)
    · replace hq := hq.1 c_173
      refine lv_goto (tgt := 1576) hM.1 hM.2.1 dL_law_1123 (by decide) ?_
      refine W.widen (k := 500 + (i + 5)) (n := 8000 + 6 * (i + 5)) (by omega) (by omega) ?_
      exact J S_170 o_166 hq H locs ls d0 hd0 hX (lv_sub hl [2, 3, 4, 5, 6] rfl)
    replace hq := hq.2 c_173
    refine lv_aload_n hM.1 hM.2.1 dL_law_1111 rfl (lv_at hl 6 rfl) ?_
    refine lv_iconst (v := (0 : Int32)) hM.1 hM.2.1 dL_law_1112 (by decide) ?_
    refine r_lald hM hK hX dL_law_1113 ?_
    refine lv_iload hM.1 hM.2.1 dL_law_1114 (lv_at hl 0 rfl) ?_
    refine lv_i2l hM.1 hM.2.1 dL_law_1116 rfl ?_
    refine W.lcmp hM.1 hM.2.1 dL_law_1117 ?_
    refine lv_if_eq (tgt := 1123) hM.1 hM.2.1 dL_law_1118 (by decide) (fun c_175 => ?_) (fun c_175 => ?_)
    · replace hq := hq.1 c_175
      refine lv_goto (tgt := 1576) hM.1 hM.2.1 dL_law_1123 (by decide) ?_
      refine W.widen (k := 500 + (i + 5)) (n := 8000 + 6 * (i + 5)) (by omega) (by omega) ?_
      exact J S_170 o_166 hq H locs ls d0 hd0 hX (lv_sub hl [2, 3, 4, 5, 6] rfl)
    replace hq := hq.2 c_175
    exact hq.elim
  replace hq := hq.2 c_172
  exact hq.elim
set_option maxRecDepth 100000 in
set_option maxHeartbeats 4000000 in
theorem law_c17 {p : Program} {l : Launch} {e : Env} {s : State} {m : MethodId} {below : List Frame} {meth : Method} {c : Code} {D : va_G} {ad : Adr} {cy : Nat → ClassId} {b L : Nat} {xs : Nat → Int32} (hl9 : l.stackTraces = false) (hL : L ≤ 2560) (hMM : ∀ d : Drawn, CallFix p m c cL_law 9 (s.setDrawn d) #[Value.ref b] lw_all RL) (hKK : KW D cy s) (hT0 : TX s) (hZ0 : TZ (fun q : Nat => s.heap.size ≤ q) s s.heap) (hN0 : NC s) (hXs0 : va_X b L xs s s.heap) (hbl : b < s.heap.size) {i : Nat} (hi : i + 5 ≤ L) {K : Mem → (Nat → Int64) → Prop} (J : ∀ (S : Mem) (o : Nat → Int64), K S o → ∀ (H : Heap) (locs : List Loc) (ls : Array Slot) (d0 : Drawn), s.drawn.sameBut d0 lw_cs → PW D ad cy (fun q : Nat => s.heap.size ≤ q) s.heap o S H locs → lv_has ls 9 [(4, .int (nI i)), (0, .ref b), (1, .ref (ad 14 0 0)), (2, .ref (ad 15 0 0)), (3, .ref (ad 28 0 0))] → W p l e room_1 (s.setDrawn d0) m #[Value.ref b] below meth c H locs (500 + (i + 5)) (8000 + 6 * (i + 5)) (lw_Z below #[Value.ref b] s) (F0 m 1576 ls [])) (S : Mem) (o : Nat → Int64) (hq : vc_call17 xs i S o K) (H : Heap) (locs : List Loc) (ls : Array Slot) (d0 : Drawn) (hd0 : s.drawn.sameBut d0 lw_cs) (hX : PW D ad cy (fun q : Nat => s.heap.size ≤ q) s.heap o S H locs) (hl : lv_has ls 9 [(4, .int (nI i)), (0, .ref b), (1, .ref (ad 14 0 0)), (2, .ref (ad 15 0 0)), (3, .ref (ad 28 0 0))]) : W p l e room_1 (s.setDrawn d0) m #[Value.ref b] below meth c H locs (500 + i) (8000 + 6 * i) (lw_Z below #[Value.ref b] s) (F0 m 1126 ls []) := by
  have hA : ∀ q : Nat, s.heap.size ≤ q → (fun q : Nat => s.heap.size ≤ q) q := fun _ h => h
  have hbA : ¬ (fun q : Nat => s.heap.size ≤ q) b := Nat.not_le.mpr hbl
  have hM := hMM d0
  have hK : KW D cy (s.setDrawn d0) := hKK
  have hT : TX (s.setDrawn d0) := TX.same (u := s) (U := s.setDrawn d0) rfl hT0
  have hZ : TZ (fun q : Nat => s.heap.size ≤ q) (s.setDrawn d0) s.heap := hZ0
  have hN : NC (s.setDrawn d0) := hN0
  have hXs : va_X b L xs (s.setDrawn d0) s.heap := hXs0
  unfold vc_call17 at hq
  refine lv_aload_n hM.1 hM.2.1 dL_law_1126 rfl (lv_at hl 2 rfl) ?_
  refine lv_aload_n hM.1 hM.2.1 dL_law_1127 rfl (lv_at hl 1 rfl) ?_
  refine lv_iload hM.1 hM.2.1 dL_law_1128 (lv_at hl 0 rfl) ?_
  refine lv_iconst (v := (1 : Int32)) hM.1 hM.2.1 dL_law_1130 (by decide) ?_
  refine lv_iadd hM.1 hM.2.1 dL_law_1131 ?_
  refine r_sld (j := 1) hM hXs hbl hbA hX hL (by omega) (ni_1 i) dL_law_1132 ?_
  refine lv_aload_n hM.1 hM.2.1 dL_law_1133 rfl (lv_at hl 4 rfl) ?_
  refine hSi (As := [.ref (ad 14 0 0), .int (xs (i + 1)), .ref (ad 28 0 0)]) hM hK hX hA hT hZ hN (met_L_count l hl9 D ad cy S o (xs (i + 1)) hq) (kL_count hM.2.2.2.2 ql_RL_150 (Nat.le_of_ble_eq_true rfl) (Nat.le_of_ble_eq_true rfl)) rfl hl.1 rfl (Nat.le_of_ble_eq_true rfl) dL_law_1134 ⟨by show _ ≤ 601024; omega, by show _ ≤ 7293034; omega⟩ (fun S_176 o_177 r_178 hq H locs hX => ?_)
  refine lv_istore (lv' := [(5, .int r_178), (4, .int (nI i)), (0, .ref b), (1, .ref (ad 14 0 0)), (2, .ref (ad 15 0 0)), (3, .ref (ad 28 0 0))]) hM.1 hM.2.1 dL_law_1137 hl (by decide) rfl (fun ls hl => ?_)
  refine lv_aload_n hM.1 hM.2.1 dL_law_1139 rfl (lv_at hl 4 rfl) ?_
  refine lv_aload_n hM.1 hM.2.1 dL_law_1140 rfl (lv_at hl 2 rfl) ?_
  refine lv_iload hM.1 hM.2.1 dL_law_1141 (lv_at hl 1 rfl) ?_
  refine lv_iconst (v := (1 : Int32)) hM.1 hM.2.1 dL_law_1143 (by decide) ?_
  refine lv_iadd hM.1 hM.2.1 dL_law_1144 ?_
  refine r_sld (j := 1) hM hXs hbl hbA hX hL (by omega) (ni_1 i) dL_law_1145 ?_
  refine cVi (As := [.int (xs (i + 1))]) hM hK hX hA (met_X7_count l D ad cy S_176 (xs (i + 1)) hq) (kX7_count hM.2.2.2.2 ql_RL_152 (Nat.le_of_ble_eq_true rfl) (Nat.le_of_ble_eq_true rfl)) (v15 hK hX m15) rfl hl.1 rfl (Nat.le_of_ble_eq_true rfl) dL_law_1146 ⟨by show _ ≤ 601024; omega, by show _ ≤ 7293034; omega⟩ (fun S_179 r_180 hq H locs hX => ?_)
  refine lv_istore (lv' := [(6, .int r_180), (5, .int r_178), (4, .int (nI i)), (0, .ref b), (1, .ref (ad 14 0 0)), (2, .ref (ad 15 0 0)), (3, .ref (ad 28 0 0))]) hM.1 hM.2.1 dL_law_1149 hl (by decide) rfl (fun ls hl => ?_)
  refine lv_aload_n hM.1 hM.2.1 dL_law_1151 rfl (lv_at hl 5 rfl) ?_
  refine cVi (As := []) hM hK hX hA (met_X7_thrown l D ad cy S_179 hq) (kX7_thrown hM.2.2.2.2 ql_RL_93 (Nat.le_of_ble_eq_true rfl) (Nat.le_of_ble_eq_true rfl)) (v15 hK hX m15) rfl hl.1 rfl (Nat.le_of_ble_eq_true rfl) dL_law_1152 ⟨by show _ ≤ 601024; omega, by show _ ≤ 7293034; omega⟩ (fun S_181 r_182 hq H locs hX => ?_)
  refine lv_iload hM.1 hM.2.1 dL_law_1155 (lv_at hl 1 rfl) ?_
  refine lv_icmp_eq (tgt := 1162) hM.1 hM.2.1 dL_law_1157 (by decide) (fun c_183 => ?_) (fun c_183 => ?_)
  · replace hq := hq.1 c_183
    refine lv_iload hM.1 hM.2.1 dL_law_1162 (lv_at hl 1 rfl) ?_
    refine lv_if_ne (tgt := 1179) hM.1 hM.2.1 dL_law_1164 (by decide) (fun c_184 => ?_) (fun c_184 => ?_)
    · replace hq := hq.1 c_184
      refine lv_goto (tgt := 1576) hM.1 hM.2.1 dL_law_1179 (by decide) ?_
      refine W.widen (k := 500 + (i + 5)) (n := 8000 + 6 * (i + 5)) (by omega) (by omega) ?_
      exact J S_181 o_177 hq H locs ls d0 hd0 hX (lv_sub hl [2, 3, 4, 5, 6] rfl)
    replace hq := hq.2 c_184
    refine lv_aload_n hM.1 hM.2.1 dL_law_1167 rfl (lv_at hl 6 rfl) ?_
    refine lv_iconst (v := (0 : Int32)) hM.1 hM.2.1 dL_law_1168 (by decide) ?_
    refine r_lald hM hK hX dL_law_1169 ?_
    refine lv_iload hM.1 hM.2.1 dL_law_1170 (lv_at hl 0 rfl) ?_
    refine lv_i2l hM.1 hM.2.1 dL_law_1172 rfl ?_
    refine W.lcmp hM.1 hM.2.1 dL_law_1173 ?_
    refine lv_if_eq (tgt := 1179) hM.1 hM.2.1 dL_law_1174 (by decide) (fun c_186 => ?_) (fun c_186 => ?_)
    · replace hq := hq.1 c_186
      refine lv_goto (tgt := 1576) hM.1 hM.2.1 dL_law_1179 (by decide) ?_
      refine W.widen (k := 500 + (i + 5)) (n := 8000 + 6 * (i + 5)) (by omega) (by omega) ?_
      exact J S_181 o_177 hq H locs ls d0 hd0 hX (lv_sub hl [2, 3, 4, 5, 6] rfl)
    replace hq := hq.2 c_186
    exact hq.elim
  replace hq := hq.2 c_183
  exact hq.elim
set_option maxRecDepth 100000 in
set_option maxHeartbeats 4000000 in
theorem law_c18 {p : Program} {l : Launch} {e : Env} {s : State} {m : MethodId} {below : List Frame} {meth : Method} {c : Code} {D : va_G} {ad : Adr} {cy : Nat → ClassId} {b L : Nat} {xs : Nat → Int32} (hl9 : l.stackTraces = false) (hL : L ≤ 2560) (hMM : ∀ d : Drawn, CallFix p m c cL_law 9 (s.setDrawn d) #[Value.ref b] lw_all RL) (hKK : KW D cy s) (hT0 : TX s) (hZ0 : TZ (fun q : Nat => s.heap.size ≤ q) s s.heap) (hN0 : NC s) (hXs0 : va_X b L xs s s.heap) (hbl : b < s.heap.size) {i : Nat} (hi : i + 5 ≤ L) {K : Mem → (Nat → Int64) → Prop} (J : ∀ (S : Mem) (o : Nat → Int64), K S o → ∀ (H : Heap) (locs : List Loc) (ls : Array Slot) (d0 : Drawn), s.drawn.sameBut d0 lw_cs → PW D ad cy (fun q : Nat => s.heap.size ≤ q) s.heap o S H locs → lv_has ls 9 [(4, .int (nI i)), (0, .ref b), (1, .ref (ad 14 0 0)), (2, .ref (ad 15 0 0)), (3, .ref (ad 28 0 0))] → W p l e room_1 (s.setDrawn d0) m #[Value.ref b] below meth c H locs (500 + (i + 5)) (8000 + 6 * (i + 5)) (lw_Z below #[Value.ref b] s) (F0 m 1576 ls [])) (S : Mem) (o : Nat → Int64) (hq : vc_call18 xs i S o K) (H : Heap) (locs : List Loc) (ls : Array Slot) (d0 : Drawn) (hd0 : s.drawn.sameBut d0 lw_cs) (hX : PW D ad cy (fun q : Nat => s.heap.size ≤ q) s.heap o S H locs) (hl : lv_has ls 9 [(4, .int (nI i)), (0, .ref b), (1, .ref (ad 14 0 0)), (2, .ref (ad 15 0 0)), (3, .ref (ad 28 0 0))]) : W p l e room_1 (s.setDrawn d0) m #[Value.ref b] below meth c H locs (500 + i) (8000 + 6 * i) (lw_Z below #[Value.ref b] s) (F0 m 1182 ls []) := by
  have hA : ∀ q : Nat, s.heap.size ≤ q → (fun q : Nat => s.heap.size ≤ q) q := fun _ h => h
  have hbA : ¬ (fun q : Nat => s.heap.size ≤ q) b := Nat.not_le.mpr hbl
  have hM := hMM d0
  have hK : KW D cy (s.setDrawn d0) := hKK
  have hT : TX (s.setDrawn d0) := TX.same (u := s) (U := s.setDrawn d0) rfl hT0
  have hZ : TZ (fun q : Nat => s.heap.size ≤ q) (s.setDrawn d0) s.heap := hZ0
  have hN : NC (s.setDrawn d0) := hN0
  have hXs : va_X b L xs (s.setDrawn d0) s.heap := hXs0
  unfold vc_call18 at hq
  refine lv_aload_n hM.1 hM.2.1 dL_law_1182 rfl (lv_at hl 2 rfl) ?_
  refine lv_aload_n hM.1 hM.2.1 dL_law_1183 rfl (lv_at hl 1 rfl) ?_
  refine lv_iload hM.1 hM.2.1 dL_law_1184 (lv_at hl 0 rfl) ?_
  refine lv_iconst (v := (1 : Int32)) hM.1 hM.2.1 dL_law_1186 (by decide) ?_
  refine lv_iadd hM.1 hM.2.1 dL_law_1187 ?_
  refine r_sld (j := 1) hM hXs hbl hbA hX hL (by omega) (ni_1 i) dL_law_1188 ?_
  refine lv_aload_n hM.1 hM.2.1 dL_law_1189 rfl (lv_at hl 1 rfl) ?_
  refine lv_iload hM.1 hM.2.1 dL_law_1190 (lv_at hl 0 rfl) ?_
  refine lv_iconst (v := (2 : Int32)) hM.1 hM.2.1 dL_law_1192 (by decide) ?_
  refine lv_iadd hM.1 hM.2.1 dL_law_1193 ?_
  refine r_sld (j := 2) hM hXs hbl hbA hX hL (by omega) (ni_2 i) dL_law_1194 ?_
  refine lv_aload_n hM.1 hM.2.1 dL_law_1195 rfl (lv_at hl 4 rfl) ?_
  refine hSi (As := [.ref (ad 14 0 0), .int (xs (i + 1)), .int (xs (i + 2)), .ref (ad 28 0 0)]) hM hK hX hA hT hZ hN (met_L_ranked l hl9 D ad cy S o (xs (i + 1)) (xs (i + 2)) hq) (kL_ranked hM.2.2.2.2 ql_RL_153 (Nat.le_of_ble_eq_true rfl) (Nat.le_of_ble_eq_true rfl)) rfl hl.1 rfl (Nat.le_of_ble_eq_true rfl) dL_law_1196 ⟨by show _ ≤ 601024; omega, by show _ ≤ 7293034; omega⟩ (fun S_187 o_188 r_189 hq H locs hX => ?_)
  refine lv_istore (lv' := [(5, .int r_189), (4, .int (nI i)), (0, .ref b), (1, .ref (ad 14 0 0)), (2, .ref (ad 15 0 0)), (3, .ref (ad 28 0 0))]) hM.1 hM.2.1 dL_law_1199 hl (by decide) rfl (fun ls hl => ?_)
  refine lv_aload_n hM.1 hM.2.1 dL_law_1201 rfl (lv_at hl 4 rfl) ?_
  refine lv_aload_n hM.1 hM.2.1 dL_law_1202 rfl (lv_at hl 2 rfl) ?_
  refine lv_iload hM.1 hM.2.1 dL_law_1203 (lv_at hl 1 rfl) ?_
  refine lv_iconst (v := (1 : Int32)) hM.1 hM.2.1 dL_law_1205 (by decide) ?_
  refine lv_iadd hM.1 hM.2.1 dL_law_1206 ?_
  refine r_sld (j := 1) hM hXs hbl hbA hX hL (by omega) (ni_1 i) dL_law_1207 ?_
  refine lv_aload_n hM.1 hM.2.1 dL_law_1208 rfl (lv_at hl 2 rfl) ?_
  refine lv_iload hM.1 hM.2.1 dL_law_1209 (lv_at hl 1 rfl) ?_
  refine lv_iconst (v := (2 : Int32)) hM.1 hM.2.1 dL_law_1211 (by decide) ?_
  refine lv_iadd hM.1 hM.2.1 dL_law_1212 ?_
  refine r_sld (j := 2) hM hXs hbl hbA hX hL (by omega) (ni_2 i) dL_law_1213 ?_
  refine cVi (As := [.int (xs (i + 1)), .int (xs (i + 2))]) hM hK hX hA (met_X7_ranked l D ad cy S_187 (xs (i + 1)) (xs (i + 2)) hq) (kX7_ranked hM.2.2.2.2 ql_RL_155 (Nat.le_of_ble_eq_true rfl) (Nat.le_of_ble_eq_true rfl)) (v15 hK hX m15) rfl hl.1 rfl (Nat.le_of_ble_eq_true rfl) dL_law_1214 ⟨by show _ ≤ 601024; omega, by show _ ≤ 7293034; omega⟩ (fun S_190 r_191 hq H locs hX => ?_)
  refine lv_istore (lv' := [(6, .int r_191), (5, .int r_189), (4, .int (nI i)), (0, .ref b), (1, .ref (ad 14 0 0)), (2, .ref (ad 15 0 0)), (3, .ref (ad 28 0 0))]) hM.1 hM.2.1 dL_law_1217 hl (by decide) rfl (fun ls hl => ?_)
  refine lv_aload_n hM.1 hM.2.1 dL_law_1219 rfl (lv_at hl 5 rfl) ?_
  refine cVi (As := []) hM hK hX hA (met_X7_thrown l D ad cy S_190 hq) (kX7_thrown hM.2.2.2.2 ql_RL_93 (Nat.le_of_ble_eq_true rfl) (Nat.le_of_ble_eq_true rfl)) (v15 hK hX m15) rfl hl.1 rfl (Nat.le_of_ble_eq_true rfl) dL_law_1220 ⟨by show _ ≤ 601024; omega, by show _ ≤ 7293034; omega⟩ (fun S_192 r_193 hq H locs hX => ?_)
  refine lv_iload hM.1 hM.2.1 dL_law_1223 (lv_at hl 1 rfl) ?_
  refine lv_icmp_eq (tgt := 1230) hM.1 hM.2.1 dL_law_1225 (by decide) (fun c_194 => ?_) (fun c_194 => ?_)
  · replace hq := hq.1 c_194
    refine lv_iload hM.1 hM.2.1 dL_law_1230 (lv_at hl 1 rfl) ?_
    refine lv_if_ne (tgt := 1247) hM.1 hM.2.1 dL_law_1232 (by decide) (fun c_195 => ?_) (fun c_195 => ?_)
    · replace hq := hq.1 c_195
      refine lv_goto (tgt := 1576) hM.1 hM.2.1 dL_law_1247 (by decide) ?_
      refine W.widen (k := 500 + (i + 5)) (n := 8000 + 6 * (i + 5)) (by omega) (by omega) ?_
      exact J S_192 o_188 hq H locs ls d0 hd0 hX (lv_sub hl [2, 3, 4, 5, 6] rfl)
    replace hq := hq.2 c_195
    refine lv_aload_n hM.1 hM.2.1 dL_law_1235 rfl (lv_at hl 6 rfl) ?_
    refine lv_iconst (v := (0 : Int32)) hM.1 hM.2.1 dL_law_1236 (by decide) ?_
    refine r_lald hM hK hX dL_law_1237 ?_
    refine lv_iload hM.1 hM.2.1 dL_law_1238 (lv_at hl 0 rfl) ?_
    refine lv_i2l hM.1 hM.2.1 dL_law_1240 rfl ?_
    refine W.lcmp hM.1 hM.2.1 dL_law_1241 ?_
    refine lv_if_eq (tgt := 1247) hM.1 hM.2.1 dL_law_1242 (by decide) (fun c_197 => ?_) (fun c_197 => ?_)
    · replace hq := hq.1 c_197
      refine lv_goto (tgt := 1576) hM.1 hM.2.1 dL_law_1247 (by decide) ?_
      refine W.widen (k := 500 + (i + 5)) (n := 8000 + 6 * (i + 5)) (by omega) (by omega) ?_
      exact J S_192 o_188 hq H locs ls d0 hd0 hX (lv_sub hl [2, 3, 4, 5, 6] rfl)
    replace hq := hq.2 c_197
    exact hq.elim
  replace hq := hq.2 c_194
  exact hq.elim
set_option maxRecDepth 100000 in
set_option maxHeartbeats 4000000 in
theorem law_c19 {p : Program} {l : Launch} {e : Env} {s : State} {m : MethodId} {below : List Frame} {meth : Method} {c : Code} {D : va_G} {ad : Adr} {cy : Nat → ClassId} {b L : Nat} {xs : Nat → Int32} (hl9 : l.stackTraces = false) (hL : L ≤ 2560) (hMM : ∀ d : Drawn, CallFix p m c cL_law 9 (s.setDrawn d) #[Value.ref b] lw_all RL) (hKK : KW D cy s) (hT0 : TX s) (hZ0 : TZ (fun q : Nat => s.heap.size ≤ q) s s.heap) (hN0 : NC s) (hXs0 : va_X b L xs s s.heap) (hbl : b < s.heap.size) {i : Nat} (hi : i + 5 ≤ L) {K : Mem → (Nat → Int64) → Prop} (J : ∀ (S : Mem) (o : Nat → Int64), K S o → ∀ (H : Heap) (locs : List Loc) (ls : Array Slot) (d0 : Drawn), s.drawn.sameBut d0 lw_cs → PW D ad cy (fun q : Nat => s.heap.size ≤ q) s.heap o S H locs → lv_has ls 9 [(4, .int (nI i)), (0, .ref b), (1, .ref (ad 14 0 0)), (2, .ref (ad 15 0 0)), (3, .ref (ad 28 0 0))] → W p l e room_1 (s.setDrawn d0) m #[Value.ref b] below meth c H locs (500 + (i + 5)) (8000 + 6 * (i + 5)) (lw_Z below #[Value.ref b] s) (F0 m 1576 ls [])) (S : Mem) (o : Nat → Int64) (hq : vc_call19 xs i S o K) (H : Heap) (locs : List Loc) (ls : Array Slot) (d0 : Drawn) (hd0 : s.drawn.sameBut d0 lw_cs) (hX : PW D ad cy (fun q : Nat => s.heap.size ≤ q) s.heap o S H locs) (hl : lv_has ls 9 [(4, .int (nI i)), (0, .ref b), (1, .ref (ad 14 0 0)), (2, .ref (ad 15 0 0)), (3, .ref (ad 28 0 0))]) : W p l e room_1 (s.setDrawn d0) m #[Value.ref b] below meth c H locs (500 + i) (8000 + 6 * i) (lw_Z below #[Value.ref b] s) (F0 m 1250 ls []) := by
  have hA : ∀ q : Nat, s.heap.size ≤ q → (fun q : Nat => s.heap.size ≤ q) q := fun _ h => h
  have hbA : ¬ (fun q : Nat => s.heap.size ≤ q) b := Nat.not_le.mpr hbl
  have hM := hMM d0
  have hK : KW D cy (s.setDrawn d0) := hKK
  have hT : TX (s.setDrawn d0) := TX.same (u := s) (U := s.setDrawn d0) rfl hT0
  have hZ : TZ (fun q : Nat => s.heap.size ≤ q) (s.setDrawn d0) s.heap := hZ0
  have hN : NC (s.setDrawn d0) := hN0
  have hXs : va_X b L xs (s.setDrawn d0) s.heap := hXs0
  unfold vc_call19 at hq
  refine lv_aload_n hM.1 hM.2.1 dL_law_1250 rfl (lv_at hl 2 rfl) ?_
  refine lv_aload_n hM.1 hM.2.1 dL_law_1251 rfl (lv_at hl 1 rfl) ?_
  refine lv_iload hM.1 hM.2.1 dL_law_1252 (lv_at hl 0 rfl) ?_
  refine lv_iconst (v := (1 : Int32)) hM.1 hM.2.1 dL_law_1254 (by decide) ?_
  refine lv_iadd hM.1 hM.2.1 dL_law_1255 ?_
  refine r_sld (j := 1) hM hXs hbl hbA hX hL (by omega) (ni_1 i) dL_law_1256 ?_
  refine lv_aload_n hM.1 hM.2.1 dL_law_1257 rfl (lv_at hl 1 rfl) ?_
  refine lv_iload hM.1 hM.2.1 dL_law_1258 (lv_at hl 0 rfl) ?_
  refine lv_iconst (v := (2 : Int32)) hM.1 hM.2.1 dL_law_1260 (by decide) ?_
  refine lv_iadd hM.1 hM.2.1 dL_law_1261 ?_
  refine r_sld (j := 2) hM hXs hbl hbA hX hL (by omega) (ni_2 i) dL_law_1262 ?_
  refine cVi (As := [.int (xs (i + 1)), .int (xs (i + 2))]) hM hK hX hA (met_X6_between l D ad cy S (xs (i + 1)) (xs (i + 2)) hq) (kX6_between hM.2.2.2.2 ql_RL_156 (Nat.le_of_ble_eq_true rfl) (Nat.le_of_ble_eq_true rfl)) (v14 hK hX m14) rfl hl.1 rfl (Nat.le_of_ble_eq_true rfl) dL_law_1263 ⟨by show _ ≤ 601024; omega, by show _ ≤ 7293034; omega⟩ (fun S_198 r_199 hq H locs hX => ?_)
  refine lv_aload_n hM.1 hM.2.1 dL_law_1266 rfl (lv_at hl 3 rfl) ?_
  refine lv_aload_n hM.1 hM.2.1 dL_law_1267 rfl (lv_at hl 1 rfl) ?_
  refine lv_iload hM.1 hM.2.1 dL_law_1268 (lv_at hl 0 rfl) ?_
  refine lv_iconst (v := (1 : Int32)) hM.1 hM.2.1 dL_law_1270 (by decide) ?_
  refine lv_iadd hM.1 hM.2.1 dL_law_1271 ?_
  refine r_sld (j := 1) hM hXs hbl hbA hX hL (by omega) (ni_1 i) dL_law_1272 ?_
  refine lv_aload_n hM.1 hM.2.1 dL_law_1273 rfl (lv_at hl 1 rfl) ?_
  refine lv_iload hM.1 hM.2.1 dL_law_1274 (lv_at hl 0 rfl) ?_
  refine lv_iconst (v := (2 : Int32)) hM.1 hM.2.1 dL_law_1276 (by decide) ?_
  refine lv_iadd hM.1 hM.2.1 dL_law_1277 ?_
  refine r_sld (j := 2) hM hXs hbl hbA hX hL (by omega) (ni_2 i) dL_law_1278 ?_
  refine cVi (As := [.int (xs (i + 1)), .int (xs (i + 2))]) hM hK hX hA (met_X7_between l D ad cy S_198 (xs (i + 1)) (xs (i + 2)) hq) (kX7_between hM.2.2.2.2 ql_RL_159 (Nat.le_of_ble_eq_true rfl) (Nat.le_of_ble_eq_true rfl)) (v15 hK hX m15) rfl hl.1 rfl (Nat.le_of_ble_eq_true rfl) dL_law_1279 ⟨by show _ ≤ 601024; omega, by show _ ≤ 7293034; omega⟩ (fun S_200 r_201 hq H locs hX => ?_)
  refine lv_icmp_eq (tgt := 1576) hM.1 hM.2.1 dL_law_1282 (by decide) (fun c_202 => ?_) (fun c_202 => ?_)
  · replace hq := hq.1 c_202
    refine W.widen (k := 500 + (i + 5)) (n := 8000 + 6 * (i + 5)) (by omega) (by omega) ?_
    exact J S_200 o hq H locs ls d0 hd0 hX (lv_sub hl [0, 1, 2, 3, 4] rfl)
  replace hq := hq.2 c_202
  exact hq.elim
set_option maxRecDepth 100000 in
set_option maxHeartbeats 4000000 in
theorem law_c20 {p : Program} {l : Launch} {e : Env} {s : State} {m : MethodId} {below : List Frame} {meth : Method} {c : Code} {D : va_G} {ad : Adr} {cy : Nat → ClassId} {b L : Nat} {xs : Nat → Int32} (hl9 : l.stackTraces = false) (hL : L ≤ 2560) (hMM : ∀ d : Drawn, CallFix p m c cL_law 9 (s.setDrawn d) #[Value.ref b] lw_all RL) (hKK : KW D cy s) (hT0 : TX s) (hZ0 : TZ (fun q : Nat => s.heap.size ≤ q) s s.heap) (hN0 : NC s) (hXs0 : va_X b L xs s s.heap) (hbl : b < s.heap.size) {i : Nat} (hi : i + 5 ≤ L) {K : Mem → (Nat → Int64) → Prop} (J : ∀ (S : Mem) (o : Nat → Int64), K S o → ∀ (H : Heap) (locs : List Loc) (ls : Array Slot) (d0 : Drawn), s.drawn.sameBut d0 lw_cs → PW D ad cy (fun q : Nat => s.heap.size ≤ q) s.heap o S H locs → lv_has ls 9 [(4, .int (nI i)), (0, .ref b), (1, .ref (ad 14 0 0)), (2, .ref (ad 15 0 0)), (3, .ref (ad 28 0 0))] → W p l e room_1 (s.setDrawn d0) m #[Value.ref b] below meth c H locs (500 + (i + 5)) (8000 + 6 * (i + 5)) (lw_Z below #[Value.ref b] s) (F0 m 1576 ls [])) (S : Mem) (o : Nat → Int64) (hq : vc_call20 xs i S o K) (H : Heap) (locs : List Loc) (ls : Array Slot) (d0 : Drawn) (hd0 : s.drawn.sameBut d0 lw_cs) (hX : PW D ad cy (fun q : Nat => s.heap.size ≤ q) s.heap o S H locs) (hl : lv_has ls 9 [(4, .int (nI i)), (0, .ref b), (1, .ref (ad 14 0 0)), (2, .ref (ad 15 0 0)), (3, .ref (ad 28 0 0))]) : W p l e room_1 (s.setDrawn d0) m #[Value.ref b] below meth c H locs (500 + i) (8000 + 6 * i) (lw_Z below #[Value.ref b] s) (F0 m 1287 ls []) := by
  have hA : ∀ q : Nat, s.heap.size ≤ q → (fun q : Nat => s.heap.size ≤ q) q := fun _ h => h
  have hbA : ¬ (fun q : Nat => s.heap.size ≤ q) b := Nat.not_le.mpr hbl
  have hM := hMM d0
  have hK : KW D cy (s.setDrawn d0) := hKK
  have hT : TX (s.setDrawn d0) := TX.same (u := s) (U := s.setDrawn d0) rfl hT0
  have hZ : TZ (fun q : Nat => s.heap.size ≤ q) (s.setDrawn d0) s.heap := hZ0
  have hN : NC (s.setDrawn d0) := hN0
  have hXs : va_X b L xs (s.setDrawn d0) s.heap := hXs0
  unfold vc_call20 at hq
  refine lv_aload_n hM.1 hM.2.1 dL_law_1287 rfl (lv_at hl 2 rfl) ?_
  refine lv_aload_n hM.1 hM.2.1 dL_law_1288 rfl (lv_at hl 1 rfl) ?_
  refine lv_iload hM.1 hM.2.1 dL_law_1289 (lv_at hl 0 rfl) ?_
  refine lv_iconst (v := (1 : Int32)) hM.1 hM.2.1 dL_law_1291 (by decide) ?_
  refine lv_iadd hM.1 hM.2.1 dL_law_1292 ?_
  refine r_sld (j := 1) hM hXs hbl hbA hX hL (by omega) (ni_1 i) dL_law_1293 ?_
  refine lv_aload_n hM.1 hM.2.1 dL_law_1294 rfl (lv_at hl 1 rfl) ?_
  refine lv_iload hM.1 hM.2.1 dL_law_1295 (lv_at hl 0 rfl) ?_
  refine lv_iconst (v := (2 : Int32)) hM.1 hM.2.1 dL_law_1297 (by decide) ?_
  refine lv_iadd hM.1 hM.2.1 dL_law_1298 ?_
  refine r_sld (j := 2) hM hXs hbl hbA hX hL (by omega) (ni_2 i) dL_law_1299 ?_
  refine lv_aload_n hM.1 hM.2.1 dL_law_1300 rfl (lv_at hl 4 rfl) ?_
  refine hSi (As := [.ref (ad 14 0 0), .int (xs (i + 1)), .int (xs (i + 2)), .ref (ad 28 0 0)]) hM hK hX hA hT hZ hN (met_L_ifLag l hl9 D ad cy S o (xs (i + 1)) (xs (i + 2)) hq) (kL_ifLag hM.2.2.2.2 ql_RL_160 (Nat.le_of_ble_eq_true rfl) (Nat.le_of_ble_eq_true rfl)) rfl hl.1 rfl (Nat.le_of_ble_eq_true rfl) dL_law_1301 ⟨by show _ ≤ 601024; omega, by show _ ≤ 7293034; omega⟩ (fun S_203 o_204 r_205 hq H locs hX => ?_)
  refine lv_istore (lv' := [(5, .int r_205), (4, .int (nI i)), (0, .ref b), (1, .ref (ad 14 0 0)), (2, .ref (ad 15 0 0)), (3, .ref (ad 28 0 0))]) hM.1 hM.2.1 dL_law_1304 hl (by decide) rfl (fun ls hl => ?_)
  refine lv_aload_n hM.1 hM.2.1 dL_law_1306 rfl (lv_at hl 4 rfl) ?_
  refine lv_aload_n hM.1 hM.2.1 dL_law_1307 rfl (lv_at hl 2 rfl) ?_
  refine lv_iload hM.1 hM.2.1 dL_law_1308 (lv_at hl 1 rfl) ?_
  refine lv_iconst (v := (1 : Int32)) hM.1 hM.2.1 dL_law_1310 (by decide) ?_
  refine lv_iadd hM.1 hM.2.1 dL_law_1311 ?_
  refine r_sld (j := 1) hM hXs hbl hbA hX hL (by omega) (ni_1 i) dL_law_1312 ?_
  refine lv_aload_n hM.1 hM.2.1 dL_law_1313 rfl (lv_at hl 2 rfl) ?_
  refine lv_iload hM.1 hM.2.1 dL_law_1314 (lv_at hl 1 rfl) ?_
  refine lv_iconst (v := (2 : Int32)) hM.1 hM.2.1 dL_law_1316 (by decide) ?_
  refine lv_iadd hM.1 hM.2.1 dL_law_1317 ?_
  refine r_sld (j := 2) hM hXs hbl hbA hX hL (by omega) (ni_2 i) dL_law_1318 ?_
  refine cVi (As := [.int (xs (i + 1)), .int (xs (i + 2))]) hM hK hX hA (met_X7_ifLag l D ad cy S_203 (xs (i + 1)) (xs (i + 2)) hq) (kX7_ifLag hM.2.2.2.2 ql_RL_162 (Nat.le_of_ble_eq_true rfl) (Nat.le_of_ble_eq_true rfl)) (v15 hK hX m15) rfl hl.1 rfl (Nat.le_of_ble_eq_true rfl) dL_law_1319 ⟨by show _ ≤ 601024; omega, by show _ ≤ 7293034; omega⟩ (fun S_206 r_207 hq H locs hX => ?_)
  refine lv_istore (lv' := [(6, .int r_207), (5, .int r_205), (4, .int (nI i)), (0, .ref b), (1, .ref (ad 14 0 0)), (2, .ref (ad 15 0 0)), (3, .ref (ad 28 0 0))]) hM.1 hM.2.1 dL_law_1322 hl (by decide) rfl (fun ls hl => ?_)
  refine lv_aload_n hM.1 hM.2.1 dL_law_1324 rfl (lv_at hl 5 rfl) ?_
  refine cVi (As := []) hM hK hX hA (met_X7_thrown l D ad cy S_206 hq) (kX7_thrown hM.2.2.2.2 ql_RL_93 (Nat.le_of_ble_eq_true rfl) (Nat.le_of_ble_eq_true rfl)) (v15 hK hX m15) rfl hl.1 rfl (Nat.le_of_ble_eq_true rfl) dL_law_1325 ⟨by show _ ≤ 601024; omega, by show _ ≤ 7293034; omega⟩ (fun S_208 r_209 hq H locs hX => ?_)
  refine lv_iload hM.1 hM.2.1 dL_law_1328 (lv_at hl 1 rfl) ?_
  refine lv_icmp_eq (tgt := 1335) hM.1 hM.2.1 dL_law_1330 (by decide) (fun c_210 => ?_) (fun c_210 => ?_)
  · replace hq := hq.1 c_210
    refine lv_iload hM.1 hM.2.1 dL_law_1335 (lv_at hl 1 rfl) ?_
    refine lv_if_ne (tgt := 1352) hM.1 hM.2.1 dL_law_1337 (by decide) (fun c_211 => ?_) (fun c_211 => ?_)
    · replace hq := hq.1 c_211
      refine lv_goto (tgt := 1576) hM.1 hM.2.1 dL_law_1352 (by decide) ?_
      refine W.widen (k := 500 + (i + 5)) (n := 8000 + 6 * (i + 5)) (by omega) (by omega) ?_
      exact J S_208 o_204 hq H locs ls d0 hd0 hX (lv_sub hl [2, 3, 4, 5, 6] rfl)
    replace hq := hq.2 c_211
    refine lv_aload_n hM.1 hM.2.1 dL_law_1340 rfl (lv_at hl 6 rfl) ?_
    refine lv_iconst (v := (0 : Int32)) hM.1 hM.2.1 dL_law_1341 (by decide) ?_
    refine r_lald hM hK hX dL_law_1342 ?_
    refine lv_iload hM.1 hM.2.1 dL_law_1343 (lv_at hl 0 rfl) ?_
    refine lv_i2l hM.1 hM.2.1 dL_law_1345 rfl ?_
    refine W.lcmp hM.1 hM.2.1 dL_law_1346 ?_
    refine lv_if_eq (tgt := 1352) hM.1 hM.2.1 dL_law_1347 (by decide) (fun c_213 => ?_) (fun c_213 => ?_)
    · replace hq := hq.1 c_213
      refine lv_goto (tgt := 1576) hM.1 hM.2.1 dL_law_1352 (by decide) ?_
      refine W.widen (k := 500 + (i + 5)) (n := 8000 + 6 * (i + 5)) (by omega) (by omega) ?_
      exact J S_208 o_204 hq H locs ls d0 hd0 hX (lv_sub hl [2, 3, 4, 5, 6] rfl)
    replace hq := hq.2 c_213
    exact hq.elim
  replace hq := hq.2 c_210
  exact hq.elim
set_option maxRecDepth 100000 in
set_option maxHeartbeats 4000000 in
theorem law_c21 {p : Program} {l : Launch} {e : Env} {s : State} {m : MethodId} {below : List Frame} {meth : Method} {c : Code} {D : va_G} {ad : Adr} {cy : Nat → ClassId} {b L : Nat} {xs : Nat → Int32} (hl9 : l.stackTraces = false) (hL : L ≤ 2560) (hMM : ∀ d : Drawn, CallFix p m c cL_law 9 (s.setDrawn d) #[Value.ref b] lw_all RL) (hKK : KW D cy s) (hT0 : TX s) (hZ0 : TZ (fun q : Nat => s.heap.size ≤ q) s s.heap) (hN0 : NC s) (hXs0 : va_X b L xs s s.heap) (hbl : b < s.heap.size) {i : Nat} (hi : i + 5 ≤ L) {K : Mem → (Nat → Int64) → Prop} (J : ∀ (S : Mem) (o : Nat → Int64), K S o → ∀ (H : Heap) (locs : List Loc) (ls : Array Slot) (d0 : Drawn), s.drawn.sameBut d0 lw_cs → PW D ad cy (fun q : Nat => s.heap.size ≤ q) s.heap o S H locs → lv_has ls 9 [(4, .int (nI i)), (0, .ref b), (1, .ref (ad 14 0 0)), (2, .ref (ad 15 0 0)), (3, .ref (ad 28 0 0))] → W p l e room_1 (s.setDrawn d0) m #[Value.ref b] below meth c H locs (500 + (i + 5)) (8000 + 6 * (i + 5)) (lw_Z below #[Value.ref b] s) (F0 m 1576 ls [])) (S : Mem) (o : Nat → Int64) (hq : vc_call21 xs i S o K) (H : Heap) (locs : List Loc) (ls : Array Slot) (d0 : Drawn) (hd0 : s.drawn.sameBut d0 lw_cs) (hX : PW D ad cy (fun q : Nat => s.heap.size ≤ q) s.heap o S H locs) (hl : lv_has ls 9 [(4, .int (nI i)), (0, .ref b), (1, .ref (ad 14 0 0)), (2, .ref (ad 15 0 0)), (3, .ref (ad 28 0 0))]) : W p l e room_1 (s.setDrawn d0) m #[Value.ref b] below meth c H locs (500 + i) (8000 + 6 * i) (lw_Z below #[Value.ref b] s) (F0 m 1355 ls []) := by
  have hA : ∀ q : Nat, s.heap.size ≤ q → (fun q : Nat => s.heap.size ≤ q) q := fun _ h => h
  have hbA : ¬ (fun q : Nat => s.heap.size ≤ q) b := Nat.not_le.mpr hbl
  have hM := hMM d0
  have hK : KW D cy (s.setDrawn d0) := hKK
  have hT : TX (s.setDrawn d0) := TX.same (u := s) (U := s.setDrawn d0) rfl hT0
  have hZ : TZ (fun q : Nat => s.heap.size ≤ q) (s.setDrawn d0) s.heap := hZ0
  have hN : NC (s.setDrawn d0) := hN0
  have hXs : va_X b L xs (s.setDrawn d0) s.heap := hXs0
  unfold vc_call21 at hq
  refine lv_aload_n hM.1 hM.2.1 dL_law_1355 rfl (lv_at hl 2 rfl) ?_
  refine lv_aload_n hM.1 hM.2.1 dL_law_1356 rfl (lv_at hl 1 rfl) ?_
  refine lv_iload hM.1 hM.2.1 dL_law_1357 (lv_at hl 0 rfl) ?_
  refine lv_iconst (v := (1 : Int32)) hM.1 hM.2.1 dL_law_1359 (by decide) ?_
  refine lv_iadd hM.1 hM.2.1 dL_law_1360 ?_
  refine r_sld (j := 1) hM hXs hbl hbA hX hL (by omega) (ni_1 i) dL_law_1361 ?_
  refine lv_aload_n hM.1 hM.2.1 dL_law_1362 rfl (lv_at hl 4 rfl) ?_
  refine hSi (As := [.ref (ad 14 0 0), .int (xs (i + 1)), .ref (ad 28 0 0)]) hM hK hX hA hT hZ hN (met_L_bestLag l hl9 D ad cy S o (xs (i + 1)) hq) (kL_bestLag hM.2.2.2.2 ql_RL_163 (Nat.le_of_ble_eq_true rfl) (Nat.le_of_ble_eq_true rfl)) rfl hl.1 rfl (Nat.le_of_ble_eq_true rfl) dL_law_1363 ⟨by show _ ≤ 601024; omega, by show _ ≤ 7293034; omega⟩ (fun S_214 o_215 r_216 hq H locs hX => ?_)
  refine lv_istore (lv' := [(5, .int r_216), (4, .int (nI i)), (0, .ref b), (1, .ref (ad 14 0 0)), (2, .ref (ad 15 0 0)), (3, .ref (ad 28 0 0))]) hM.1 hM.2.1 dL_law_1366 hl (by decide) rfl (fun ls hl => ?_)
  refine lv_aload_n hM.1 hM.2.1 dL_law_1368 rfl (lv_at hl 4 rfl) ?_
  refine lv_aload_n hM.1 hM.2.1 dL_law_1369 rfl (lv_at hl 2 rfl) ?_
  refine lv_iload hM.1 hM.2.1 dL_law_1370 (lv_at hl 1 rfl) ?_
  refine lv_iconst (v := (1 : Int32)) hM.1 hM.2.1 dL_law_1372 (by decide) ?_
  refine lv_iadd hM.1 hM.2.1 dL_law_1373 ?_
  refine r_sld (j := 1) hM hXs hbl hbA hX hL (by omega) (ni_1 i) dL_law_1374 ?_
  refine cVi (As := [.int (xs (i + 1))]) hM hK hX hA (met_X7_bestLag l D ad cy S_214 (xs (i + 1)) hq) (kX7_bestLag hM.2.2.2.2 ql_RL_165 (Nat.le_of_ble_eq_true rfl) (Nat.le_of_ble_eq_true rfl)) (v15 hK hX m15) rfl hl.1 rfl (Nat.le_of_ble_eq_true rfl) dL_law_1375 ⟨by show _ ≤ 601024; omega, by show _ ≤ 7293034; omega⟩ (fun S_217 r_218 hq H locs hX => ?_)
  refine lv_istore (lv' := [(6, .int r_218), (5, .int r_216), (4, .int (nI i)), (0, .ref b), (1, .ref (ad 14 0 0)), (2, .ref (ad 15 0 0)), (3, .ref (ad 28 0 0))]) hM.1 hM.2.1 dL_law_1378 hl (by decide) rfl (fun ls hl => ?_)
  refine lv_aload_n hM.1 hM.2.1 dL_law_1380 rfl (lv_at hl 5 rfl) ?_
  refine cVi (As := []) hM hK hX hA (met_X7_thrown l D ad cy S_217 hq) (kX7_thrown hM.2.2.2.2 ql_RL_93 (Nat.le_of_ble_eq_true rfl) (Nat.le_of_ble_eq_true rfl)) (v15 hK hX m15) rfl hl.1 rfl (Nat.le_of_ble_eq_true rfl) dL_law_1381 ⟨by show _ ≤ 601024; omega, by show _ ≤ 7293034; omega⟩ (fun S_219 r_220 hq H locs hX => ?_)
  refine lv_iload hM.1 hM.2.1 dL_law_1384 (lv_at hl 1 rfl) ?_
  refine lv_icmp_eq (tgt := 1391) hM.1 hM.2.1 dL_law_1386 (by decide) (fun c_221 => ?_) (fun c_221 => ?_)
  · replace hq := hq.1 c_221
    refine lv_iload hM.1 hM.2.1 dL_law_1391 (lv_at hl 1 rfl) ?_
    refine lv_if_ne (tgt := 1408) hM.1 hM.2.1 dL_law_1393 (by decide) (fun c_222 => ?_) (fun c_222 => ?_)
    · replace hq := hq.1 c_222
      refine lv_goto (tgt := 1576) hM.1 hM.2.1 dL_law_1408 (by decide) ?_
      refine W.widen (k := 500 + (i + 5)) (n := 8000 + 6 * (i + 5)) (by omega) (by omega) ?_
      exact J S_219 o_215 hq H locs ls d0 hd0 hX (lv_sub hl [2, 3, 4, 5, 6] rfl)
    replace hq := hq.2 c_222
    refine lv_aload_n hM.1 hM.2.1 dL_law_1396 rfl (lv_at hl 6 rfl) ?_
    refine lv_iconst (v := (0 : Int32)) hM.1 hM.2.1 dL_law_1397 (by decide) ?_
    refine r_lald hM hK hX dL_law_1398 ?_
    refine lv_iload hM.1 hM.2.1 dL_law_1399 (lv_at hl 0 rfl) ?_
    refine lv_i2l hM.1 hM.2.1 dL_law_1401 rfl ?_
    refine W.lcmp hM.1 hM.2.1 dL_law_1402 ?_
    refine lv_if_eq (tgt := 1408) hM.1 hM.2.1 dL_law_1403 (by decide) (fun c_224 => ?_) (fun c_224 => ?_)
    · replace hq := hq.1 c_224
      refine lv_goto (tgt := 1576) hM.1 hM.2.1 dL_law_1408 (by decide) ?_
      refine W.widen (k := 500 + (i + 5)) (n := 8000 + 6 * (i + 5)) (by omega) (by omega) ?_
      exact J S_219 o_215 hq H locs ls d0 hd0 hX (lv_sub hl [2, 3, 4, 5, 6] rfl)
    replace hq := hq.2 c_224
    exact hq.elim
  replace hq := hq.2 c_221
  exact hq.elim
set_option maxRecDepth 100000 in
set_option maxHeartbeats 4000000 in
theorem law_c22 {p : Program} {l : Launch} {e : Env} {s : State} {m : MethodId} {below : List Frame} {meth : Method} {c : Code} {D : va_G} {ad : Adr} {cy : Nat → ClassId} {b L : Nat} {xs : Nat → Int32} (hl9 : l.stackTraces = false) (hL : L ≤ 2560) (hMM : ∀ d : Drawn, CallFix p m c cL_law 9 (s.setDrawn d) #[Value.ref b] lw_all RL) (hKK : KW D cy s) (hT0 : TX s) (hZ0 : TZ (fun q : Nat => s.heap.size ≤ q) s s.heap) (hN0 : NC s) (hXs0 : va_X b L xs s s.heap) (hbl : b < s.heap.size) {i : Nat} (hi : i + 5 ≤ L) {K : Mem → (Nat → Int64) → Prop} (J : ∀ (S : Mem) (o : Nat → Int64), K S o → ∀ (H : Heap) (locs : List Loc) (ls : Array Slot) (d0 : Drawn), s.drawn.sameBut d0 lw_cs → PW D ad cy (fun q : Nat => s.heap.size ≤ q) s.heap o S H locs → lv_has ls 9 [(4, .int (nI i)), (0, .ref b), (1, .ref (ad 14 0 0)), (2, .ref (ad 15 0 0)), (3, .ref (ad 28 0 0))] → W p l e room_1 (s.setDrawn d0) m #[Value.ref b] below meth c H locs (500 + (i + 5)) (8000 + 6 * (i + 5)) (lw_Z below #[Value.ref b] s) (F0 m 1576 ls [])) (S : Mem) (o : Nat → Int64) (hq : vc_call22 xs i S o K) (H : Heap) (locs : List Loc) (ls : Array Slot) (d0 : Drawn) (hd0 : s.drawn.sameBut d0 lw_cs) (hX : PW D ad cy (fun q : Nat => s.heap.size ≤ q) s.heap o S H locs) (hl : lv_has ls 9 [(4, .int (nI i)), (0, .ref b), (1, .ref (ad 14 0 0)), (2, .ref (ad 15 0 0)), (3, .ref (ad 28 0 0))]) : W p l e room_1 (s.setDrawn d0) m #[Value.ref b] below meth c H locs (500 + i) (8000 + 6 * i) (lw_Z below #[Value.ref b] s) (F0 m 1411 ls []) := by
  have hA : ∀ q : Nat, s.heap.size ≤ q → (fun q : Nat => s.heap.size ≤ q) q := fun _ h => h
  have hbA : ¬ (fun q : Nat => s.heap.size ≤ q) b := Nat.not_le.mpr hbl
  have hM := hMM d0
  have hK : KW D cy (s.setDrawn d0) := hKK
  have hT : TX (s.setDrawn d0) := TX.same (u := s) (U := s.setDrawn d0) rfl hT0
  have hZ : TZ (fun q : Nat => s.heap.size ≤ q) (s.setDrawn d0) s.heap := hZ0
  have hN : NC (s.setDrawn d0) := hN0
  have hXs : va_X b L xs (s.setDrawn d0) s.heap := hXs0
  unfold vc_call22 at hq
  refine lv_aload_n hM.1 hM.2.1 dL_law_1411 rfl (lv_at hl 2 rfl) ?_
  refine lv_aload_n hM.1 hM.2.1 dL_law_1412 rfl (lv_at hl 1 rfl) ?_
  refine lv_iload hM.1 hM.2.1 dL_law_1413 (lv_at hl 0 rfl) ?_
  refine lv_iconst (v := (1 : Int32)) hM.1 hM.2.1 dL_law_1415 (by decide) ?_
  refine lv_iadd hM.1 hM.2.1 dL_law_1416 ?_
  refine r_sld (j := 1) hM hXs hbl hbA hX hL (by omega) (ni_1 i) dL_law_1417 ?_
  refine lv_aload_n hM.1 hM.2.1 dL_law_1418 rfl (lv_at hl 1 rfl) ?_
  refine lv_iload hM.1 hM.2.1 dL_law_1419 (lv_at hl 0 rfl) ?_
  refine lv_iconst (v := (2 : Int32)) hM.1 hM.2.1 dL_law_1421 (by decide) ?_
  refine lv_iadd hM.1 hM.2.1 dL_law_1422 ?_
  refine r_sld (j := 2) hM hXs hbl hbA hX hL (by omega) (ni_2 i) dL_law_1423 ?_
  refine lv_aload_n hM.1 hM.2.1 dL_law_1424 rfl (lv_at hl 4 rfl) ?_
  refine hSi (As := [.ref (ad 14 0 0), .int (xs (i + 1)), .int (xs (i + 2)), .ref (ad 28 0 0)]) hM hK hX hA hT hZ hN (met_L_ifStill l hl9 D ad cy S o (xs (i + 1)) (xs (i + 2)) hq) (kL_ifStill hM.2.2.2.2 ql_RL_166 (Nat.le_of_ble_eq_true rfl) (Nat.le_of_ble_eq_true rfl)) rfl hl.1 rfl (Nat.le_of_ble_eq_true rfl) dL_law_1425 ⟨by show _ ≤ 601024; omega, by show _ ≤ 7293034; omega⟩ (fun S_225 o_226 r_227 hq H locs hX => ?_)
  refine lv_istore (lv' := [(5, .int r_227), (4, .int (nI i)), (0, .ref b), (1, .ref (ad 14 0 0)), (2, .ref (ad 15 0 0)), (3, .ref (ad 28 0 0))]) hM.1 hM.2.1 dL_law_1428 hl (by decide) rfl (fun ls hl => ?_)
  refine lv_aload_n hM.1 hM.2.1 dL_law_1430 rfl (lv_at hl 4 rfl) ?_
  refine lv_aload_n hM.1 hM.2.1 dL_law_1431 rfl (lv_at hl 2 rfl) ?_
  refine lv_iload hM.1 hM.2.1 dL_law_1432 (lv_at hl 1 rfl) ?_
  refine lv_iconst (v := (1 : Int32)) hM.1 hM.2.1 dL_law_1434 (by decide) ?_
  refine lv_iadd hM.1 hM.2.1 dL_law_1435 ?_
  refine r_sld (j := 1) hM hXs hbl hbA hX hL (by omega) (ni_1 i) dL_law_1436 ?_
  refine lv_aload_n hM.1 hM.2.1 dL_law_1437 rfl (lv_at hl 2 rfl) ?_
  refine lv_iload hM.1 hM.2.1 dL_law_1438 (lv_at hl 1 rfl) ?_
  refine lv_iconst (v := (2 : Int32)) hM.1 hM.2.1 dL_law_1440 (by decide) ?_
  refine lv_iadd hM.1 hM.2.1 dL_law_1441 ?_
  refine r_sld (j := 2) hM hXs hbl hbA hX hL (by omega) (ni_2 i) dL_law_1442 ?_
  refine cVi (As := [.int (xs (i + 1)), .int (xs (i + 2))]) hM hK hX hA (met_X7_ifStill l D ad cy S_225 (xs (i + 1)) (xs (i + 2)) hq) (kX7_ifStill hM.2.2.2.2 ql_RL_168 (Nat.le_of_ble_eq_true rfl) (Nat.le_of_ble_eq_true rfl)) (v15 hK hX m15) rfl hl.1 rfl (Nat.le_of_ble_eq_true rfl) dL_law_1443 ⟨by show _ ≤ 601024; omega, by show _ ≤ 7293034; omega⟩ (fun S_228 r_229 hq H locs hX => ?_)
  refine lv_istore (lv' := [(6, .int r_229), (5, .int r_227), (4, .int (nI i)), (0, .ref b), (1, .ref (ad 14 0 0)), (2, .ref (ad 15 0 0)), (3, .ref (ad 28 0 0))]) hM.1 hM.2.1 dL_law_1446 hl (by decide) rfl (fun ls hl => ?_)
  refine lv_aload_n hM.1 hM.2.1 dL_law_1448 rfl (lv_at hl 5 rfl) ?_
  refine cVi (As := []) hM hK hX hA (met_X7_thrown l D ad cy S_228 hq) (kX7_thrown hM.2.2.2.2 ql_RL_93 (Nat.le_of_ble_eq_true rfl) (Nat.le_of_ble_eq_true rfl)) (v15 hK hX m15) rfl hl.1 rfl (Nat.le_of_ble_eq_true rfl) dL_law_1449 ⟨by show _ ≤ 601024; omega, by show _ ≤ 7293034; omega⟩ (fun S_230 r_231 hq H locs hX => ?_)
  refine lv_iload hM.1 hM.2.1 dL_law_1452 (lv_at hl 1 rfl) ?_
  refine lv_icmp_eq (tgt := 1459) hM.1 hM.2.1 dL_law_1454 (by decide) (fun c_232 => ?_) (fun c_232 => ?_)
  · replace hq := hq.1 c_232
    refine lv_iload hM.1 hM.2.1 dL_law_1459 (lv_at hl 1 rfl) ?_
    refine lv_if_ne (tgt := 1476) hM.1 hM.2.1 dL_law_1461 (by decide) (fun c_233 => ?_) (fun c_233 => ?_)
    · replace hq := hq.1 c_233
      refine lv_goto (tgt := 1576) hM.1 hM.2.1 dL_law_1476 (by decide) ?_
      refine W.widen (k := 500 + (i + 5)) (n := 8000 + 6 * (i + 5)) (by omega) (by omega) ?_
      exact J S_230 o_226 hq H locs ls d0 hd0 hX (lv_sub hl [2, 3, 4, 5, 6] rfl)
    replace hq := hq.2 c_233
    refine lv_aload_n hM.1 hM.2.1 dL_law_1464 rfl (lv_at hl 6 rfl) ?_
    refine lv_iconst (v := (0 : Int32)) hM.1 hM.2.1 dL_law_1465 (by decide) ?_
    refine r_lald hM hK hX dL_law_1466 ?_
    refine lv_iload hM.1 hM.2.1 dL_law_1467 (lv_at hl 0 rfl) ?_
    refine lv_i2l hM.1 hM.2.1 dL_law_1469 rfl ?_
    refine W.lcmp hM.1 hM.2.1 dL_law_1470 ?_
    refine lv_if_eq (tgt := 1476) hM.1 hM.2.1 dL_law_1471 (by decide) (fun c_235 => ?_) (fun c_235 => ?_)
    · replace hq := hq.1 c_235
      refine lv_goto (tgt := 1576) hM.1 hM.2.1 dL_law_1476 (by decide) ?_
      refine W.widen (k := 500 + (i + 5)) (n := 8000 + 6 * (i + 5)) (by omega) (by omega) ?_
      exact J S_230 o_226 hq H locs ls d0 hd0 hX (lv_sub hl [2, 3, 4, 5, 6] rfl)
    replace hq := hq.2 c_235
    exact hq.elim
  replace hq := hq.2 c_232
  exact hq.elim
set_option maxRecDepth 100000 in
set_option maxHeartbeats 4000000 in
theorem law_c23 {p : Program} {l : Launch} {e : Env} {s : State} {m : MethodId} {below : List Frame} {meth : Method} {c : Code} {D : va_G} {ad : Adr} {cy : Nat → ClassId} {b L : Nat} {xs : Nat → Int32} (hl9 : l.stackTraces = false) (hL : L ≤ 2560) (hMM : ∀ d : Drawn, CallFix p m c cL_law 9 (s.setDrawn d) #[Value.ref b] lw_all RL) (hKK : KW D cy s) (hT0 : TX s) (hZ0 : TZ (fun q : Nat => s.heap.size ≤ q) s s.heap) (hN0 : NC s) (hXs0 : va_X b L xs s s.heap) (hbl : b < s.heap.size) {i : Nat} (hi : i + 5 ≤ L) {K : Mem → (Nat → Int64) → Prop} (J : ∀ (S : Mem) (o : Nat → Int64), K S o → ∀ (H : Heap) (locs : List Loc) (ls : Array Slot) (d0 : Drawn), s.drawn.sameBut d0 lw_cs → PW D ad cy (fun q : Nat => s.heap.size ≤ q) s.heap o S H locs → lv_has ls 9 [(4, .int (nI i)), (0, .ref b), (1, .ref (ad 14 0 0)), (2, .ref (ad 15 0 0)), (3, .ref (ad 28 0 0))] → W p l e room_1 (s.setDrawn d0) m #[Value.ref b] below meth c H locs (500 + (i + 5)) (8000 + 6 * (i + 5)) (lw_Z below #[Value.ref b] s) (F0 m 1576 ls [])) (S : Mem) (o : Nat → Int64) (hq : vc_call23 xs i S o K) (H : Heap) (locs : List Loc) (ls : Array Slot) (d0 : Drawn) (hd0 : s.drawn.sameBut d0 lw_cs) (hX : PW D ad cy (fun q : Nat => s.heap.size ≤ q) s.heap o S H locs) (hl : lv_has ls 9 [(4, .int (nI i)), (0, .ref b), (1, .ref (ad 14 0 0)), (2, .ref (ad 15 0 0)), (3, .ref (ad 28 0 0))]) : W p l e room_1 (s.setDrawn d0) m #[Value.ref b] below meth c H locs (500 + i) (8000 + 6 * i) (lw_Z below #[Value.ref b] s) (F0 m 1479 ls []) := by
  have hA : ∀ q : Nat, s.heap.size ≤ q → (fun q : Nat => s.heap.size ≤ q) q := fun _ h => h
  have hbA : ¬ (fun q : Nat => s.heap.size ≤ q) b := Nat.not_le.mpr hbl
  have hM := hMM d0
  have hK : KW D cy (s.setDrawn d0) := hKK
  have hT : TX (s.setDrawn d0) := TX.same (u := s) (U := s.setDrawn d0) rfl hT0
  have hZ : TZ (fun q : Nat => s.heap.size ≤ q) (s.setDrawn d0) s.heap := hZ0
  have hN : NC (s.setDrawn d0) := hN0
  have hXs : va_X b L xs (s.setDrawn d0) s.heap := hXs0
  unfold vc_call23 at hq
  refine lv_aload_n hM.1 hM.2.1 dL_law_1479 rfl (lv_at hl 2 rfl) ?_
  refine lv_aload_n hM.1 hM.2.1 dL_law_1480 rfl (lv_at hl 1 rfl) ?_
  refine lv_iload hM.1 hM.2.1 dL_law_1481 (lv_at hl 0 rfl) ?_
  refine lv_iconst (v := (1 : Int32)) hM.1 hM.2.1 dL_law_1483 (by decide) ?_
  refine lv_iadd hM.1 hM.2.1 dL_law_1484 ?_
  refine r_sld (j := 1) hM hXs hbl hbA hX hL (by omega) (ni_1 i) dL_law_1485 ?_
  refine lv_aload_n hM.1 hM.2.1 dL_law_1486 rfl (lv_at hl 4 rfl) ?_
  refine hSi (As := [.ref (ad 14 0 0), .int (xs (i + 1)), .ref (ad 28 0 0)]) hM hK hX hA hT hZ hN (met_L_stillIn l hl9 D ad cy S o (xs (i + 1)) hq) (kL_stillIn hM.2.2.2.2 ql_RL_169 (Nat.le_of_ble_eq_true rfl) (Nat.le_of_ble_eq_true rfl)) rfl hl.1 rfl (Nat.le_of_ble_eq_true rfl) dL_law_1487 ⟨by show _ ≤ 601024; omega, by show _ ≤ 7293034; omega⟩ (fun S_236 o_237 r_238 hq H locs hX => ?_)
  refine lv_istore (lv' := [(5, .int r_238), (4, .int (nI i)), (0, .ref b), (1, .ref (ad 14 0 0)), (2, .ref (ad 15 0 0)), (3, .ref (ad 28 0 0))]) hM.1 hM.2.1 dL_law_1490 hl (by decide) rfl (fun ls hl => ?_)
  refine lv_aload_n hM.1 hM.2.1 dL_law_1492 rfl (lv_at hl 4 rfl) ?_
  refine lv_aload_n hM.1 hM.2.1 dL_law_1493 rfl (lv_at hl 2 rfl) ?_
  refine lv_iload hM.1 hM.2.1 dL_law_1494 (lv_at hl 1 rfl) ?_
  refine lv_iconst (v := (1 : Int32)) hM.1 hM.2.1 dL_law_1496 (by decide) ?_
  refine lv_iadd hM.1 hM.2.1 dL_law_1497 ?_
  refine r_sld (j := 1) hM hXs hbl hbA hX hL (by omega) (ni_1 i) dL_law_1498 ?_
  refine cVi (As := [.int (xs (i + 1))]) hM hK hX hA (met_X7_stillIn l D ad cy S_236 (xs (i + 1)) hq) (kX7_stillIn hM.2.2.2.2 ql_RL_171 (Nat.le_of_ble_eq_true rfl) (Nat.le_of_ble_eq_true rfl)) (v15 hK hX m15) rfl hl.1 rfl (Nat.le_of_ble_eq_true rfl) dL_law_1499 ⟨by show _ ≤ 601024; omega, by show _ ≤ 7293034; omega⟩ (fun S_239 r_240 hq H locs hX => ?_)
  refine lv_istore (lv' := [(6, .int r_240), (5, .int r_238), (4, .int (nI i)), (0, .ref b), (1, .ref (ad 14 0 0)), (2, .ref (ad 15 0 0)), (3, .ref (ad 28 0 0))]) hM.1 hM.2.1 dL_law_1502 hl (by decide) rfl (fun ls hl => ?_)
  refine lv_aload_n hM.1 hM.2.1 dL_law_1504 rfl (lv_at hl 5 rfl) ?_
  refine cVi (As := []) hM hK hX hA (met_X7_thrown l D ad cy S_239 hq) (kX7_thrown hM.2.2.2.2 ql_RL_93 (Nat.le_of_ble_eq_true rfl) (Nat.le_of_ble_eq_true rfl)) (v15 hK hX m15) rfl hl.1 rfl (Nat.le_of_ble_eq_true rfl) dL_law_1505 ⟨by show _ ≤ 601024; omega, by show _ ≤ 7293034; omega⟩ (fun S_241 r_242 hq H locs hX => ?_)
  refine lv_iload hM.1 hM.2.1 dL_law_1508 (lv_at hl 1 rfl) ?_
  refine lv_icmp_eq (tgt := 1515) hM.1 hM.2.1 dL_law_1510 (by decide) (fun c_243 => ?_) (fun c_243 => ?_)
  · replace hq := hq.1 c_243
    refine lv_iload hM.1 hM.2.1 dL_law_1515 (lv_at hl 1 rfl) ?_
    refine lv_if_ne (tgt := 1532) hM.1 hM.2.1 dL_law_1517 (by decide) (fun c_244 => ?_) (fun c_244 => ?_)
    · replace hq := hq.1 c_244
      refine lv_goto (tgt := 1576) hM.1 hM.2.1 dL_law_1532 (by decide) ?_
      refine W.widen (k := 500 + (i + 5)) (n := 8000 + 6 * (i + 5)) (by omega) (by omega) ?_
      exact J S_241 o_237 hq H locs ls d0 hd0 hX (lv_sub hl [2, 3, 4, 5, 6] rfl)
    replace hq := hq.2 c_244
    refine lv_aload_n hM.1 hM.2.1 dL_law_1520 rfl (lv_at hl 6 rfl) ?_
    refine lv_iconst (v := (0 : Int32)) hM.1 hM.2.1 dL_law_1521 (by decide) ?_
    refine r_lald hM hK hX dL_law_1522 ?_
    refine lv_iload hM.1 hM.2.1 dL_law_1523 (lv_at hl 0 rfl) ?_
    refine lv_i2l hM.1 hM.2.1 dL_law_1525 rfl ?_
    refine W.lcmp hM.1 hM.2.1 dL_law_1526 ?_
    refine lv_if_eq (tgt := 1532) hM.1 hM.2.1 dL_law_1527 (by decide) (fun c_246 => ?_) (fun c_246 => ?_)
    · replace hq := hq.1 c_246
      refine lv_goto (tgt := 1576) hM.1 hM.2.1 dL_law_1532 (by decide) ?_
      refine W.widen (k := 500 + (i + 5)) (n := 8000 + 6 * (i + 5)) (by omega) (by omega) ?_
      exact J S_241 o_237 hq H locs ls d0 hd0 hX (lv_sub hl [2, 3, 4, 5, 6] rfl)
    replace hq := hq.2 c_246
    exact hq.elim
  replace hq := hq.2 c_243
  exact hq.elim
set_option maxRecDepth 100000 in
set_option maxHeartbeats 4000000 in
theorem law_c24 {p : Program} {l : Launch} {e : Env} {s : State} {m : MethodId} {below : List Frame} {meth : Method} {c : Code} {D : va_G} {ad : Adr} {cy : Nat → ClassId} {b L : Nat} {xs : Nat → Int32} (hl9 : l.stackTraces = false) (hL : L ≤ 2560) (hMM : ∀ d : Drawn, CallFix p m c cL_law 9 (s.setDrawn d) #[Value.ref b] lw_all RL) (hKK : KW D cy s) (hT0 : TX s) (hZ0 : TZ (fun q : Nat => s.heap.size ≤ q) s s.heap) (hN0 : NC s) (hXs0 : va_X b L xs s s.heap) (hbl : b < s.heap.size) {i : Nat} (hi : i + 5 ≤ L) {K : Mem → (Nat → Int64) → Prop} (J : ∀ (S : Mem) (o : Nat → Int64), K S o → ∀ (H : Heap) (locs : List Loc) (ls : Array Slot) (d0 : Drawn), s.drawn.sameBut d0 lw_cs → PW D ad cy (fun q : Nat => s.heap.size ≤ q) s.heap o S H locs → lv_has ls 9 [(4, .int (nI i)), (0, .ref b), (1, .ref (ad 14 0 0)), (2, .ref (ad 15 0 0)), (3, .ref (ad 28 0 0))] → W p l e room_1 (s.setDrawn d0) m #[Value.ref b] below meth c H locs (500 + (i + 5)) (8000 + 6 * (i + 5)) (lw_Z below #[Value.ref b] s) (F0 m 1576 ls [])) (S : Mem) (o : Nat → Int64) (hq : vc_call24 xs i S o K) (H : Heap) (locs : List Loc) (ls : Array Slot) (d0 : Drawn) (hd0 : s.drawn.sameBut d0 lw_cs) (hX : PW D ad cy (fun q : Nat => s.heap.size ≤ q) s.heap o S H locs) (hl : lv_has ls 9 [(4, .int (nI i)), (0, .ref b), (1, .ref (ad 14 0 0)), (2, .ref (ad 15 0 0)), (3, .ref (ad 28 0 0))]) : W p l e room_1 (s.setDrawn d0) m #[Value.ref b] below meth c H locs (500 + i) (8000 + 6 * i) (lw_Z below #[Value.ref b] s) (F0 m 1535 ls []) := by
  have hA : ∀ q : Nat, s.heap.size ≤ q → (fun q : Nat => s.heap.size ≤ q) q := fun _ h => h
  have hbA : ¬ (fun q : Nat => s.heap.size ≤ q) b := Nat.not_le.mpr hbl
  have hM := hMM d0
  have hK : KW D cy (s.setDrawn d0) := hKK
  have hT : TX (s.setDrawn d0) := TX.same (u := s) (U := s.setDrawn d0) rfl hT0
  have hZ : TZ (fun q : Nat => s.heap.size ≤ q) (s.setDrawn d0) s.heap := hZ0
  have hN : NC (s.setDrawn d0) := hN0
  have hXs : va_X b L xs (s.setDrawn d0) s.heap := hXs0
  unfold vc_call24 at hq
  refine lv_aload_n hM.1 hM.2.1 dL_law_1535 rfl (lv_at hl 2 rfl) ?_
  refine cVd (As := []) hd0 hM hK hX hA (met_X6_meanError l D ad cy S hq) (kX6_meanError hM.2.2.2.2 ql_RL_172 (Nat.le_of_ble_eq_true rfl) (Nat.le_of_ble_eq_true rfl)) (v14 hK hX m14) rfl hl.1 rfl (Nat.le_of_ble_eq_true rfl) dL_law_1536 ⟨by show _ ≤ 601024; omega, by show _ ≤ 7293034; omega⟩ (fun S_247 r_248 hq H locs hX d0 hd0 => ?_)
  have hM := hMM d0
  have hK : KW D cy (s.setDrawn d0) := hKK
  refine lv_dstore (lv' := [(5, .double r_248), (4, .int (nI i)), (0, .ref b), (1, .ref (ad 14 0 0)), (2, .ref (ad 15 0 0)), (3, .ref (ad 28 0 0))]) hM.1 hM.2.1 dL_law_1539 hl (by decide) rfl (fun ls hl => ?_)
  refine lv_aload_n hM.1 hM.2.1 dL_law_1541 rfl (lv_at hl 4 rfl) ?_
  refine cVd (As := []) hd0 hM hK hX hA (met_X7_meanError l D ad cy S_247 hq) (kX7_meanError hM.2.2.2.2 ql_RL_176 (Nat.le_of_ble_eq_true rfl) (Nat.le_of_ble_eq_true rfl)) (v15 hK hX m15) rfl hl.1 rfl (Nat.le_of_ble_eq_true rfl) dL_law_1542 ⟨by show _ ≤ 601024; omega, by show _ ≤ 7293034; omega⟩ (fun S_249 r_250 hq H locs hX d0 hd0 => ?_)
  have hM := hMM d0
  have hK : KW D cy (s.setDrawn d0) := hKK
  refine lv_dstore (lv' := [(7, .double r_250), (5, .double r_248), (4, .int (nI i)), (0, .ref b), (1, .ref (ad 14 0 0)), (2, .ref (ad 15 0 0)), (3, .ref (ad 28 0 0))]) hM.1 hM.2.1 dL_law_1545 hl (by decide) rfl (fun ls hl => ?_)
  refine lv_dload hM.1 hM.2.1 dL_law_1547 (lv_at hl 1 rfl) ?_
  refine lv_dload hM.1 hM.2.1 dL_law_1549 (lv_at hl 0 rfl) ?_
  refine lv_dcmp hM.1 hM.2.1 dL_law_1551 ?_
  refine lv_if_eq (tgt := 1573) hM.1 hM.2.1 dL_law_1552 (by decide) (fun c_251 => ?_) (fun c_251 => ?_)
  · replace hq := hq.1 c_251
    refine lv_goto (tgt := 1576) hM.1 hM.2.1 dL_law_1573 (by decide) ?_
    refine W.widen (k := 500 + (i + 5)) (n := 8000 + 6 * (i + 5)) (by omega) (by omega) ?_
    exact J S_249 o hq H locs ls d0 hd0 hX (lv_sub hl [2, 3, 4, 5, 6] rfl)
  replace hq := hq.2 c_251
  refine lv_dload hM.1 hM.2.1 dL_law_1555 (lv_at hl 1 rfl) ?_
  refine lv_dload hM.1 hM.2.1 dL_law_1557 (lv_at hl 1 rfl) ?_
  refine lv_dcmp hM.1 hM.2.1 dL_law_1559 ?_
  refine lv_if_eq (tgt := 1571) hM.1 hM.2.1 dL_law_1560 (by decide) (fun c_252 => ?_) (fun c_252 => ?_)
  · replace hq := hq.1 c_252
    exact hq.elim
  replace hq := hq.2 c_252
  refine lv_dload hM.1 hM.2.1 dL_law_1563 (lv_at hl 0 rfl) ?_
  refine lv_dload hM.1 hM.2.1 dL_law_1565 (lv_at hl 0 rfl) ?_
  refine lv_dcmp hM.1 hM.2.1 dL_law_1567 ?_
  refine lv_if_ne (tgt := 1573) hM.1 hM.2.1 dL_law_1568 (by decide) (fun c_253 => ?_) (fun c_253 => ?_)
  · replace hq := hq.1 c_253
    refine lv_goto (tgt := 1576) hM.1 hM.2.1 dL_law_1573 (by decide) ?_
    refine W.widen (k := 500 + (i + 5)) (n := 8000 + 6 * (i + 5)) (by omega) (by omega) ?_
    exact J S_249 o hq H locs ls d0 hd0 hX (lv_sub hl [2, 3, 4, 5, 6] rfl)
  replace hq := hq.2 c_253
  exact hq.elim
set_option maxRecDepth 100000 in
set_option maxHeartbeats 4000000 in
theorem law_loop {p : Program} {l : Launch} {e : Env} {s : State} {m : MethodId} {below : List Frame} {meth : Method} {c : Code} {D : va_G} {ad : Adr} {cy : Nat → ClassId} {b L : Nat} {xs : Nat → Int32} (hl9 : l.stackTraces = false) (hL : L ≤ 2560) (hMM : ∀ d : Drawn, CallFix p m c cL_law 9 (s.setDrawn d) #[Value.ref b] lw_all RL) (hKK : KW D cy s) (hT0 : TX s) (hZ0 : TZ (fun q : Nat => s.heap.size ≤ q) s s.heap) (hN0 : NC s) (hXs0 : va_X b L xs s s.heap) (hbl : b < s.heap.size) (hlocks : meth.locks = false) (hr : meth.sig.returnType = ret) : ∀ (n i : Nat) (S : Mem) (o : Nat → Int64), i ≤ L → vc_run xs L n i S o → ∀ (H : Heap) (locs : List Loc) (ls : Array Slot) (d0 : Drawn), s.drawn.sameBut d0 lw_cs → PW D ad cy (fun q : Nat => s.heap.size ≤ q) s.heap o S H locs → lv_has ls 9 [(4, .int (nI i)), (0, .ref b), (1, .ref (ad 14 0 0)), (2, .ref (ad 15 0 0)), (3, .ref (ad 28 0 0))] → W p l e room_1 (s.setDrawn d0) m #[Value.ref b] below meth c H locs (500 + i) (8000 + 6 * i) (lw_Z below #[Value.ref b] s) (F0 m 23 ls []) := by
  have hA : ∀ q : Nat, s.heap.size ≤ q → (fun q : Nat => s.heap.size ≤ q) q := fun _ h => h
  have hbA : ¬ (fun q : Nat => s.heap.size ≤ q) b := Nat.not_le.mpr hbl
  intro n
  induction n with
  | zero => intro i S o hi hq; rw [vc_run] at hq; exact hq.elim
  | succ n ih =>
    intro i S o hi hq H locs ls d0 hd0 hX hl
    rw [vc_run] at hq
    have hM := hMM d0
    have hXs : va_X b L xs (s.setDrawn d0) s.heap := hXs0
    refine lv_iload hM.1 hM.2.1 dL_law_23 (lv_at hl 0 rfl) ?_
    refine lv_aload_n hM.1 hM.2.1 dL_law_25 rfl (lv_at hl 1 rfl) ?_
    refine va_slen hM.1 hM.2.1 hXs hbl hbA hX.2.2 dL_law_26 ?_
    refine lv_iconst (v := (5 : Int32)) hM.1 hM.2.1 dL_law_27 (by decide) ?_
    refine lv_isub hM.1 hM.2.1 dL_law_28 ?_
    by_cases h5 : i + 5 ≤ L
    · replace hq := hq h5
      refine lv_icmp_gt (tgt := 1582) hM.1 hM.2.1 dL_law_29 (by decide) (fun cc => absurd cc (by
        rw [show Int32.ofNat L - (5 : Int32) = nI (L - 5) from pk_sub (a := L) (b := 5) (by omega)]
        exact nI_nlt (by omega) (by omega))) (fun _ => ?_)
      have J : ∀ (S : Mem) (o : Nat → Int64), vc_run xs L n (i + 5) S o → ∀ (H : Heap) (locs : List Loc) (ls : Array Slot) (d0 : Drawn), s.drawn.sameBut d0 lw_cs → PW D ad cy (fun q : Nat => s.heap.size ≤ q) s.heap o S H locs → lv_has ls 9 [(4, .int (nI i)), (0, .ref b), (1, .ref (ad 14 0 0)), (2, .ref (ad 15 0 0)), (3, .ref (ad 28 0 0))] → W p l e room_1 (s.setDrawn d0) m #[Value.ref b] below meth c H locs (500 + (i + 5)) (8000 + 6 * (i + 5)) (lw_Z below #[Value.ref b] s) (F0 m 1576 ls []) := by
        intro S o hq H locs ls d0 hd0 hX hl
        have hM := hMM d0
        refine lv_iinc (v := nI (i + 5)) (lv' := [(4, .int (nI (i + 5))), (0, .ref b), (1, .ref (ad 14 0 0)), (2, .ref (ad 15 0 0)), (3, .ref (ad 28 0 0))]) hM.1 hM.2.1 dL_law_1576 hl (k := 0) rfl (ni_5 i) (by decide) rfl (fun ls hl => ?_)
        refine lv_goto (tgt := 23) hM.1 hM.2.1 dL_law_1579 (by decide) ?_
        exact ih (i + 5) S o h5 hq H locs ls d0 hd0 hX hl
      refine lv_aload_n hM.1 hM.2.1 dL_law_32 rfl (lv_at hl 1 rfl) ?_
      refine lv_iload hM.1 hM.2.1 dL_law_33 (lv_at hl 0 rfl) ?_
      refine r_sld (j := 0) hM hXs hbl hbA hX hL (by omega) rfl dL_law_35 ?_
      refine lv_bipush (v := (31 : Int32)) hM.1 hM.2.1 dL_law_36 (by decide) ?_
      refine lv_iand hM.1 hM.2.1 dL_law_38 ?_
      unfold vc_call at hq
      refine r_case (x := (xs i &&& 31)) (v := (0 : Int32)) (fun c0 => ?_) (fun c0 => ?_)
      · refine r_tsw (v := (0 : Int32)) (tgt := 152) hM c0 dL_law_39 (by decide) (by decide) (by rfl) (by decide) ?_
        exact law_c0 hl9 hL hMM hKK hT0 hZ0 hN0 hXs0 hbl h5 J S o (hq.1 c0) H locs ls d0 hd0 hX hl
      replace hq := hq.2 c0
      refine r_case (x := (xs i &&& 31)) (v := (1 : Int32)) (fun c1 => ?_) (fun c1 => ?_)
      · refine r_tsw (v := (1 : Int32)) (tgt := 244) hM c1 dL_law_39 (by decide) (by decide) (by rfl) (by decide) ?_
        exact law_c1 hl9 hL hMM hKK hT0 hZ0 hN0 hXs0 hbl h5 J S o (hq.1 c1) H locs ls d0 hd0 hX hl
      replace hq := hq.2 c1
      refine r_case (x := (xs i &&& 31)) (v := (2 : Int32)) (fun c2 => ?_) (fun c2 => ?_)
      · refine r_tsw (v := (2 : Int32)) (tgt := 300) hM c2 dL_law_39 (by decide) (by decide) (by rfl) (by decide) ?_
        exact law_c2 hl9 hL hMM hKK hT0 hZ0 hN0 hXs0 hbl h5 J S o (hq.1 c2) H locs ls d0 hd0 hX hl
      replace hq := hq.2 c2
      refine r_case (x := (xs i &&& 31)) (v := (3 : Int32)) (fun c3 => ?_) (fun c3 => ?_)
      · refine r_tsw (v := (3 : Int32)) (tgt := 368) hM c3 dL_law_39 (by decide) (by decide) (by rfl) (by decide) ?_
        exact law_c3 hl9 hL hMM hKK hT0 hZ0 hN0 hXs0 hbl h5 J S o (hq.1 c3) H locs ls d0 hd0 hX hl
      replace hq := hq.2 c3
      refine r_case (x := (xs i &&& 31)) (v := (4 : Int32)) (fun c4 => ?_) (fun c4 => ?_)
      · refine r_tsw (v := (4 : Int32)) (tgt := 436) hM c4 dL_law_39 (by decide) (by decide) (by rfl) (by decide) ?_
        exact law_c4 hl9 hL hMM hKK hT0 hZ0 hN0 hXs0 hbl h5 J S o (hq.1 c4) H locs ls d0 hd0 hX hl
      replace hq := hq.2 c4
      refine r_case (x := (xs i &&& 31)) (v := (5 : Int32)) (fun c5 => ?_) (fun c5 => ?_)
      · refine r_tsw (v := (5 : Int32)) (tgt := 492) hM c5 dL_law_39 (by decide) (by decide) (by rfl) (by decide) ?_
        exact law_c5 hl9 hL hMM hKK hT0 hZ0 hN0 hXs0 hbl h5 J S o (hq.1 c5) H locs ls d0 hd0 hX hl
      replace hq := hq.2 c5
      refine r_case (x := (xs i &&& 31)) (v := (6 : Int32)) (fun c6 => ?_) (fun c6 => ?_)
      · refine r_tsw (v := (6 : Int32)) (tgt := 560) hM c6 dL_law_39 (by decide) (by decide) (by rfl) (by decide) ?_
        exact law_c6 hl9 hL hMM hKK hT0 hZ0 hN0 hXs0 hbl h5 J S o (hq.1 c6) H locs ls d0 hd0 hX hl
      replace hq := hq.2 c6
      refine r_case (x := (xs i &&& 31)) (v := (7 : Int32)) (fun c7 => ?_) (fun c7 => ?_)
      · refine r_tsw (v := (7 : Int32)) (tgt := 628) hM c7 dL_law_39 (by decide) (by decide) (by rfl) (by decide) ?_
        exact law_c7 hl9 hL hMM hKK hT0 hZ0 hN0 hXs0 hbl h5 J S o (hq.1 c7) H locs ls d0 hd0 hX hl
      replace hq := hq.2 c7
      refine r_case (x := (xs i &&& 31)) (v := (8 : Int32)) (fun c8 => ?_) (fun c8 => ?_)
      · refine r_tsw (v := (8 : Int32)) (tgt := 684) hM c8 dL_law_39 (by decide) (by decide) (by rfl) (by decide) ?_
        exact law_c8 hl9 hL hMM hKK hT0 hZ0 hN0 hXs0 hbl h5 J S o (hq.1 c8) H locs ls d0 hd0 hX hl
      replace hq := hq.2 c8
      refine r_case (x := (xs i &&& 31)) (v := (9 : Int32)) (fun c9 => ?_) (fun c9 => ?_)
      · refine r_tsw (v := (9 : Int32)) (tgt := 697) hM c9 dL_law_39 (by decide) (by decide) (by rfl) (by decide) ?_
        exact law_c9 hl9 hL hMM hKK hT0 hZ0 hN0 hXs0 hbl h5 J S o (hq.1 c9) H locs ls d0 hd0 hX hl
      replace hq := hq.2 c9
      refine r_case (x := (xs i &&& 31)) (v := (10 : Int32)) (fun c10 => ?_) (fun c10 => ?_)
      · refine r_tsw (v := (10 : Int32)) (tgt := 710) hM c10 dL_law_39 (by decide) (by decide) (by rfl) (by decide) ?_
        exact law_c10 hl9 hL hMM hKK hT0 hZ0 hN0 hXs0 hbl h5 J S o (hq.1 c10) H locs ls d0 hd0 hX hl
      replace hq := hq.2 c10
      refine r_case (x := (xs i &&& 31)) (v := (11 : Int32)) (fun c11 => ?_) (fun c11 => ?_)
      · refine r_tsw (v := (11 : Int32)) (tgt := 754) hM c11 dL_law_39 (by decide) (by decide) (by rfl) (by decide) ?_
        exact law_c11 hl9 hL hMM hKK hT0 hZ0 hN0 hXs0 hbl h5 J S o (hq.1 c11) H locs ls d0 hd0 hX hl
      replace hq := hq.2 c11
      refine r_case (x := (xs i &&& 31)) (v := (12 : Int32)) (fun c12 => ?_) (fun c12 => ?_)
      · refine r_tsw (v := (12 : Int32)) (tgt := 798) hM c12 dL_law_39 (by decide) (by decide) (by rfl) (by decide) ?_
        exact law_c12 hl9 hL hMM hKK hT0 hZ0 hN0 hXs0 hbl h5 J S o (hq.1 c12) H locs ls d0 hd0 hX hl
      replace hq := hq.2 c12
      refine r_case (x := (xs i &&& 31)) (v := (13 : Int32)) (fun c13 => ?_) (fun c13 => ?_)
      · refine r_tsw (v := (13 : Int32)) (tgt := 854) hM c13 dL_law_39 (by decide) (by decide) (by rfl) (by decide) ?_
        exact law_c13 hl9 hL hMM hKK hT0 hZ0 hN0 hXs0 hbl h5 J S o (hq.1 c13) H locs ls d0 hd0 hX hl
      replace hq := hq.2 c13
      refine r_case (x := (xs i &&& 31)) (v := (14 : Int32)) (fun c14 => ?_) (fun c14 => ?_)
      · refine r_tsw (v := (14 : Int32)) (tgt := 910) hM c14 dL_law_39 (by decide) (by decide) (by rfl) (by decide) ?_
        exact law_c14 hl9 hL hMM hKK hT0 hZ0 hN0 hXs0 hbl h5 J S o (hq.1 c14) H locs ls d0 hd0 hX hl
      replace hq := hq.2 c14
      refine r_case (x := (xs i &&& 31)) (v := (15 : Int32)) (fun c15 => ?_) (fun c15 => ?_)
      · refine r_tsw (v := (15 : Int32)) (tgt := 978) hM c15 dL_law_39 (by decide) (by decide) (by rfl) (by decide) ?_
        exact law_c15 hl9 hL hMM hKK hT0 hZ0 hN0 hXs0 hbl h5 J S o (hq.1 c15) H locs ls d0 hd0 hX hl
      replace hq := hq.2 c15
      refine r_case (x := (xs i &&& 31)) (v := (16 : Int32)) (fun c16 => ?_) (fun c16 => ?_)
      · refine r_tsw (v := (16 : Int32)) (tgt := 1058) hM c16 dL_law_39 (by decide) (by decide) (by rfl) (by decide) ?_
        exact law_c16 hl9 hL hMM hKK hT0 hZ0 hN0 hXs0 hbl h5 J S o (hq.1 c16) H locs ls d0 hd0 hX hl
      replace hq := hq.2 c16
      refine r_case (x := (xs i &&& 31)) (v := (17 : Int32)) (fun c17 => ?_) (fun c17 => ?_)
      · refine r_tsw (v := (17 : Int32)) (tgt := 1126) hM c17 dL_law_39 (by decide) (by decide) (by rfl) (by decide) ?_
        exact law_c17 hl9 hL hMM hKK hT0 hZ0 hN0 hXs0 hbl h5 J S o (hq.1 c17) H locs ls d0 hd0 hX hl
      replace hq := hq.2 c17
      refine r_case (x := (xs i &&& 31)) (v := (18 : Int32)) (fun c18 => ?_) (fun c18 => ?_)
      · refine r_tsw (v := (18 : Int32)) (tgt := 1182) hM c18 dL_law_39 (by decide) (by decide) (by rfl) (by decide) ?_
        exact law_c18 hl9 hL hMM hKK hT0 hZ0 hN0 hXs0 hbl h5 J S o (hq.1 c18) H locs ls d0 hd0 hX hl
      replace hq := hq.2 c18
      refine r_case (x := (xs i &&& 31)) (v := (19 : Int32)) (fun c19 => ?_) (fun c19 => ?_)
      · refine r_tsw (v := (19 : Int32)) (tgt := 1250) hM c19 dL_law_39 (by decide) (by decide) (by rfl) (by decide) ?_
        exact law_c19 hl9 hL hMM hKK hT0 hZ0 hN0 hXs0 hbl h5 J S o (hq.1 c19) H locs ls d0 hd0 hX hl
      replace hq := hq.2 c19
      refine r_case (x := (xs i &&& 31)) (v := (20 : Int32)) (fun c20 => ?_) (fun c20 => ?_)
      · refine r_tsw (v := (20 : Int32)) (tgt := 1287) hM c20 dL_law_39 (by decide) (by decide) (by rfl) (by decide) ?_
        exact law_c20 hl9 hL hMM hKK hT0 hZ0 hN0 hXs0 hbl h5 J S o (hq.1 c20) H locs ls d0 hd0 hX hl
      replace hq := hq.2 c20
      refine r_case (x := (xs i &&& 31)) (v := (21 : Int32)) (fun c21 => ?_) (fun c21 => ?_)
      · refine r_tsw (v := (21 : Int32)) (tgt := 1355) hM c21 dL_law_39 (by decide) (by decide) (by rfl) (by decide) ?_
        exact law_c21 hl9 hL hMM hKK hT0 hZ0 hN0 hXs0 hbl h5 J S o (hq.1 c21) H locs ls d0 hd0 hX hl
      replace hq := hq.2 c21
      refine r_case (x := (xs i &&& 31)) (v := (22 : Int32)) (fun c22 => ?_) (fun c22 => ?_)
      · refine r_tsw (v := (22 : Int32)) (tgt := 1411) hM c22 dL_law_39 (by decide) (by decide) (by rfl) (by decide) ?_
        exact law_c22 hl9 hL hMM hKK hT0 hZ0 hN0 hXs0 hbl h5 J S o (hq.1 c22) H locs ls d0 hd0 hX hl
      replace hq := hq.2 c22
      refine r_case (x := (xs i &&& 31)) (v := (23 : Int32)) (fun c23 => ?_) (fun c23 => ?_)
      · refine r_tsw (v := (23 : Int32)) (tgt := 1479) hM c23 dL_law_39 (by decide) (by decide) (by rfl) (by decide) ?_
        exact law_c23 hl9 hL hMM hKK hT0 hZ0 hN0 hXs0 hbl h5 J S o (hq.1 c23) H locs ls d0 hd0 hX hl
      replace hq := hq.2 c23
      refine r_case (x := (xs i &&& 31)) (v := (24 : Int32)) (fun c24 => ?_) (fun c24 => ?_)
      · refine r_tsw (v := (24 : Int32)) (tgt := 1535) hM c24 dL_law_39 (by decide) (by decide) (by rfl) (by decide) ?_
        exact law_c24 hl9 hL hMM hKK hT0 hZ0 hN0 hXs0 hbl h5 J S o (hq.1 c24) H locs ls d0 hd0 hX hl
      replace hq := hq.2 c24
      refine r_tswD (tgt := 1576) 25 hM (by decide) (by decide) (fun k hk => ?_) dL_law_39 (by decide) ?_
      · match k, hk with
        | 0, _ => exact c0
        | 1, _ => exact c1
        | 2, _ => exact c2
        | 3, _ => exact c3
        | 4, _ => exact c4
        | 5, _ => exact c5
        | 6, _ => exact c6
        | 7, _ => exact c7
        | 8, _ => exact c8
        | 9, _ => exact c9
        | 10, _ => exact c10
        | 11, _ => exact c11
        | 12, _ => exact c12
        | 13, _ => exact c13
        | 14, _ => exact c14
        | 15, _ => exact c15
        | 16, _ => exact c16
        | 17, _ => exact c17
        | 18, _ => exact c18
        | 19, _ => exact c19
        | 20, _ => exact c20
        | 21, _ => exact c21
        | 22, _ => exact c22
        | 23, _ => exact c23
        | 24, _ => exact c24
        | k + 25, h => exact absurd h (by omega)
      refine W.widen (k := 500 + (i + 5)) (n := 8000 + 6 * (i + 5)) (by omega) (by omega) ?_
      exact J S o hq H locs ls d0 hd0 hX hl
    · refine lv_icmp_gt (tgt := 1582) hM.1 hM.2.1 dL_law_29 (by decide) (fun _ => ?_) (fun cc => absurd ?_ cc)
      · refine lv_iconst (v := 1) hM.1 hM.2.1 dL_law_1582 (by decide) ?_
        refine va_forget (fun q hq => hX.2.2.2.2 q hq) ?_
        refine W.widen (k := 601024) (n := 7293034) (by omega) (by omega) ?_
        exact lw_ret hd0 hM.1 hM.2.1 hr hlocks dL_law_1583
      · rcases Nat.lt_or_ge L 5 with h | h
        · have e : Int32.ofNat L - (5 : Int32) < 0 := by
            have := pk_sneg (a := L) (b := 5) (by omega) h
            exact this
          exact lt_ge0 e i (by omega)
        · rw [show Int32.ofNat L - (5 : Int32) = nI (L - 5) from pk_sub (a := L) (b := 5) h]
          exact nI_lt (by omega) (by omega)
