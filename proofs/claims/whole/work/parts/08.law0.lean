def NC (U : State) : Prop := ∀ j k : Nat, 1 ≤ j ∧ j ≤ 3 → 1 ≤ k ∧ k ≤ 3 → j ≠ k → va_Nc (exN j) (exN k) U
theorem NC.moved {u U : State} (hv : u.vm.Alike U.vm) (h : NC u) : NC U := fun j k hj hk hn => va_Nc.moved hv (h j k hj hk hn)
def PreL (D : va_G) (ad : Adr) (cy : Nat → ClassId) (o : Nat → Int64) (S : Mem) (sz : Nat) (U : State) : Prop := PreT D ad cy o S sz U ∧ NC U
theorem PreL_blind {D : va_G} {ad : Adr} {cy : Nat → ClassId} {o : Nat → Int64} {S : Mem} {sz : Nat} {av : List Value} : FrameBlind (va_Pc av (PreL D ad cy o S sz)) := fun a U g mk h => ⟨h.1, (PreT_blind (av := av) a U g mk ⟨h.1, h.2.1⟩).2, NC.moved (u := U) (U := U.calling g mk a) (Vm.Alike.refl U.vm) h.2.2⟩
abbrev QL (D : va_G) (ad : Adr) (cy : Nat → ClassId) (sz : Nat) (Q : Mem → (Nat → Int64) → Int32 → Prop) : Array Value → State → Outcome → State → Prop := va_Qi (fun (r' : Int32) (u : Mem × (Nat → Int64)) => Q u.1 u.2 r') (fun u t => va_P D vwCl (wd ad cy u.2 u.1) t.heap) (AW ad sz)
def Li (l : Launch) (y : MethodName) (ws : List Cond) (rm : Room) (D : va_G) (ad : Adr) (cy : Nat → ClassId) (av : List Value) (S : Mem) (o : Nat → Int64) (Q : Mem → (Nat → Int64) → Int32 → Prop) (mc ms : Nat) : Prop := ∀ sz : Nat, Met l y ws rm (va_Pc av (PreL D ad cy o S sz)) (QL D ad cy sz Q) mc ms (AW ad sz)
abbrev wB (y : MethodName) (cc : ByteArray) (n : Nat) (ret : Option FieldType) (hh : List (Nat × Nat × Nat × Nat)) : List Cond := Cond.codeWith y cc n ret hh :: lw_all
theorem mkL {l : Launch} {y : MethodName} {cc : ByteArray} {maxL mc ms : Nat} {ret : Option FieldType} {hh : List (Nat × Nat × Nat × Nat)} {rm : Room} {D : va_G} {ad : Adr} {cy : Nat → ClassId} {o : Nat → Int64} {S : Mem} {sz : Nat} {av : List Value} {lv : List (Nat × Value)} {Qc : Array Value → State → Outcome → State → Prop} {own : String} (hy : plainName y.cls = true) (hcl : y.cls = own) (hlv : (lg_sl av).length ≤ maxL) (hl0 : lv_args 0 av = lv)
    (body : ∀ (p : Program) (e : Env) (s : State) (m : MethodId) (below : List Frame) (meth : Method) (c : Code) (ls : Array Slot), s.heap.size = sz → CallFix p m c cc maxL s av.toArray lw_all own → meth.locks = false → meth.sig.returnType = ret → KW D cy s → (∀ q, s.heap.size ≤ q → AW ad sz q) → PW D ad cy (AW ad sz) s.heap o S s.heap [] → lv_has ls maxL lv → c.exceptionTable.toList = tableOf hh → TX s → TZ (AW ad sz) s s.heap → NC s → W p l e rm s m av.toArray below meth c s.heap [] 0 0 (MQ below Qc av.toArray s mc ms (AW ad sz)) (F0 m 0 ls [])) : Met l y (wB y cc maxL ret hh) rm (va_Pc av (PreL D ad cy o S sz)) Qc mc ms (AW ad sz) := by
  refine va_MetW (cc := cc) (maxL := maxL) (ret := ret) (hh := hh) hy rfl ?_
  intro p e s m args below meth c s₁ B hml hv
  obtain ⟨rfl, ⟨⟨hsz, hP, hK, hD⟩, hT, hZ⟩, hN⟩ := hv
  have hpre := atoms_spec (ws := wB y cc maxL ret hh) B.pre
  have hts : ∀ w ∈ lw_all, w.before av.toArray s = true := fun w hw => hpre w (List.mem_cons_of_mem _ hw)
  have htab := vx_table (x := y) B (hpre _ List.mem_cons_self)
  have hown : s.vm.findClass own = some m.cls := by rw [← hcl]; exact findClass_of_methodNamed B.named
  have hl := lv_entry av (n := maxL) hlv
  rw [hl0] at hl
  rw [lg_entry_eq]
  exact body p e s m below meth c _ hsz ⟨B.exec, B.bytes, hml, hown, hts⟩ B.notSynchronized B.returns hK (fun q h => Or.inr (by rw [← hsz]; exact h)) ⟨hP, AW_D hD, va_S.rf⟩ hl htab hT hZ hN
section RowsL
variable {p : Program} {l : Launch} {e : Env} {R : Room} {s : State} {m : MethodId} {args : Array Value} {below : List Frame} {meth : Method} {c : Code} {cells slots : Nat} {Q : State → Prop} {ls : Array Slot} {pc : Nat} {rest : List Value} {cc : ByteArray} {nL : Nat} {own : String} {D : va_G} {ad : Adr} {cy : Nat → ClassId} {A : Nat → Prop} {H0 : Heap} {o : Nat → Int64} {S : Mem} {H : Heap} {locs : List Loc}
theorem e_iL {sz : Nat} {Q : Mem → (Nat → Int64) → Int32 → Prop} {r1 : Int32} (hM : CallFix p m c cc nL s args lw_all own) (hX : PW D ad cy (AW ad sz) s.heap o S H locs) (hlocks : meth.locks = false) (hret : meth.sig.returnType = some .int) (hq : Q S o r1) (hdg : decode cc pc = .ok (.ireturn, 1)) : W p l e R s m args below meth c H locs cells slots (MQ below (QL D ad cy sz Q) args s cells slots (AW ad sz)) (F0 m pc ls [.int r1]) :=
  W.iret hM.1 hM.2.1 hret (fun t ht hW => ⟨⟨r1, (S, o), rfl, hq, by show va_P D vwCl (wd ad cy o S) t.heap; rw [ht]; exact hX.1⟩, hX.2.2.F ht⟩) hX.2.2.2.2 hdg hlocks
theorem r_last {x : Int64} (hM : CallFix p m c cc nL s args lw_all own) (hK : KW D cy s) (hX : PW D ad cy A H0 o S H locs) (hdg : decode cc pc = .ok (.lastore, 1)) (kk : ∀ (H1 : Heap) (locs1 : List Loc), PW D ad cy A H0 (vp_updL o 0 x) S H1 locs1 → W p l e R s m args below meth c H1 locs1 cells slots Q (F0 m (pc + 1) ls rest)) : W p l e R s m args below meth c H locs cells slots Q (F0 m pc ls (.long x :: .int 0 :: .ref (ad 28 0 0) :: rest)) := by
  have hj : (wd ad cy o S)[0]? = some (ad 28 0 0, .inl (cy 5, 1, .inr (.inl o))) := rfl
  refine va_last hM.1 hM.2.1 hK.1 hX.1 hX.2.1 hX.2.2 0 5 hj rfl (by rw [← nI_0]; exact vp_in_nI (by decide) (by decide)) hdg (fun H1 locs1 hP1 hD1 hS1 => ?_)
  rw [sb_cl0] at hP1 hD1
  exact kk H1 locs1 ⟨hP1, hD1, hS1⟩
theorem r_lald (hM : CallFix p m c cc nL s args lw_all own) (hK : KW D cy s) (hX : PW D ad cy A H0 o S H locs) (hdg : decode cc pc = .ok (.laload, 1)) (kk : W p l e R s m args below meth c H locs cells slots Q (F0 m (pc + 1) ls (.long (o 0) :: rest))) : W p l e R s m args below meth c H locs cells slots Q (F0 m pc ls (.int 0 :: .ref (ad 28 0 0) :: rest)) := by
  have hj : (wd ad cy o S)[0]? = some (ad 28 0 0, .inl (cy 5, 1, .inr (.inl o))) := rfl
  refine va_lald hM.1 hM.2.1 hK.1 hX.1 0 5 hj rfl (by rw [← nI_0]; exact vp_in_nI (by decide) (by decide)) hdg ?_
  rw [sb_cl0]
  exact kk
theorem hVi {y : MethodName} {ws : List Cond} {rm : Room} {index maxL n mc ms : Nat} {bytes : ByteArray} {rt : Option FieldType} {C : String} {b : Nat} {As st0 : List Value} {Q1 : Mem → Int32 → Prop} {X1 : Mem → Nat → Prop} (hM : CallFix p m c cc nL s args lw_all own) (hK : KW D cy s) (hX : PW D ad cy A H0 o S H locs) (hA : ∀ q, H0.size ≤ q → A q) (hT : TX s) (hZ : TZ A s H0) (hC : Ti l y ws rm D ad cy (.ref b :: As) S Q1 X1 mc ms) (cw : CallW R s args own C index y bytes maxL rt ws rm mc ms n) (hr : ∃ cell : Cell, H[b]? = some cell ∧ cell.vm.isStatics = false ∧ s.vm.findClass C = some cell.cls) (hn : As.length = n) (hsz : ls.size = nL) (hst : st0 = As.reverse ++ .ref b :: rest) (hW : (rest.map fun v => v.category).sum ≤ 8) (hdg : decode cc pc = .ok (.invokevirtual index, 3)) (hf : cells + mc ≤ R.cells ∧ slots + ms ≤ R.slots)
    (kx : ∀ (S1 : Mem) (k : Nat) (ce : Cell) (q9 : Addr) (H1 : Heap) (locs1 : List Loc), X1 S1 k → PW D ad cy A H0 o S1 H1 locs1 → H1[q9]? = some ce → ce.vm = .none → s.vm.findClass (exN k) = some ce.cls → vx_W p l e R s m args below meth c H1 locs1 (cells + mc) (slots + ms) Q (F0 m pc ls rest) q9)
    (kk : ∀ (S1 : Mem) (r1 : Int32), Q1 S1 r1 → ∀ (H1 : Heap) (locs1 : List Loc), PW D ad cy A H0 o S1 H1 locs1 → W p l e R s m args below meth c H1 locs1 (cells + mc) (slots + ms) Q (F0 m (pc + 3) ls (.int r1 :: rest))) : W p l e R s m args below meth c H locs cells slots Q (F0 m pc ls st0) := by
  have hF := AW_le hX.2.1 hX.2.2 hA
  refine vx_calli (vx_runV (As := As) (rest := rest) hM (hC o H.size) cw ⟨PreT_blind, hr, fun U hU hW => ⟨rfl, ⟨by rw [hU], by rw [hU]; exact hX.1, hK.warm hW, hX.2.1.weaken (fun _ _ _ _ => trivial)⟩, hT.warm hW, by rw [hU]; exact ((hZ.kept (fun a h h9 => hX.2.2.2.1 a h h9)).narrow hF).moved hW.alike⟩⟩ rfl hn hsz hst (lv_room hW) hdg hf) hX.2.2 (fun q _ h => hF q h) hF (fun q _ h => hF q h) (fun E ce q9 u t H1 locs1 ht hvm hpx hBX hz1 hk1 hS1 hc9 hv9 hcl9 => ?_) (fun r1 u t H1 locs1 ht hvm hw hB hz1 hk1 hS1 => ?_)
  · obtain ⟨rfl, hB⟩ := hBX
    rw [ht] at hB
    exact kx u.1 u.2 ce q9 H1 locs1 hpx ⟨hB, wd_D hX.2.1, hS1⟩ hc9 hv9 hcl9
  · rw [ht] at hB
    exact kk u r1 hw H1 locs1 ⟨hB, wd_D hX.2.1, hS1⟩
theorem r_catch {k : Nat} {pre suf : List ExceptionTableEntry} {x : ExceptionTableEntry} {ce : Cell} {q9 : Addr} (hM : CallFix p m c cc nL s args lw_all RL) (hT : TX s) (htab : c.exceptionTable.toList = pre ++ x :: suf) (hpass : ∀ z ∈ pre, z.catchType ≠ 0 ∧ ∃ nm : String, Cond.classLink RL z.catchType nm ∈ lw_all ∧ va_Nc (exN k) nm s) (hcov : covers x pc = true) (h0 : x.catchType ≠ 0) (hlink : Cond.classLink RL x.catchType (exN k) ∈ lw_all) (hcast : Cond.castable (exN k) (exN k) ∈ thL) (hcell : H[q9]? = some ce) (hv : ce.vm = .none) (hcl : s.vm.findClass (exN k) = some ce.cls) (kk : W p l e R s m args below meth c H locs cells slots Q (F0 m x.handlerPc ls [.ref q9])) : vx_W p l e R s m args below meth c H locs cells slots Q (F0 m pc ls rest) q9 :=
  vx_catch (name := exN k) hM.2.2.2.1 pre x suf htab (fun z hz => Or.inr ⟨(hpass z hz).1, (hpass z hz).2.choose, hM.2.2.2.2 _ (hpass z hz).2.choose_spec.1, (hpass z hz).2.choose_spec.2⟩) hcov h0 (hM.2.2.2.2 _ hlink) (va_Nw.use (thL_tab _ hcast) (hT.1 _ hcast)) hcell hv hcl kk
end RowsL
theorem cast_1 : Cond.castable (exN 1) (exN 1) ∈ thL := List.mem_of_getElem? (i := 0) rfl
theorem cast_2 : Cond.castable (exN 2) (exN 2) ∈ thL := List.mem_of_getElem? (i := 1) rfl
theorem cast_3 : Cond.castable (exN 3) (exN 3) ∈ thL := List.mem_of_getElem? (i := 2) rfl
abbrev Qd (D : va_G) (ad : Adr) (cy : Nat → ClassId) (o : Nat → Int64) (sz : Nat) (Q : Mem → UInt64 → Prop) : Array Value → State → Outcome → State → Prop := va_Qd (fun (r' : UInt64) (S1 : Mem) => Q S1 r') (fun S1 t => va_P D vwCl (wd ad cy o S1) t.heap) (AW ad sz)
def Cd (l : Launch) (y : MethodName) (ws : List Cond) (rm : Room) (D : va_G) (ad : Adr) (cy : Nat → ClassId) (av : List Value) (S : Mem) (Q : Mem → UInt64 → Prop) : Prop := ∀ (o : Nat → Int64) (sz : Nat), MetD lw_cs l y ws rm (va_Pc av (PreW D ad cy o S sz)) (Qd D ad cy o sz Q) 0 0 (AW ad sz)
theorem mkD {l : Launch} {y : MethodName} {cc : ByteArray} {maxL : Nat} {ret : Option FieldType} {rm : Room} {D : va_G} {ad : Adr} {cy : Nat → ClassId} {o : Nat → Int64} {S : Mem} {sz : Nat} {av : List Value} {lv : List (Nat × Value)} {Qc : Array Value → State → Outcome → State → Prop} {own : String} (hy : plainName y.cls = true) (hcl : y.cls = own) (hlv : (lg_sl av).length ≤ maxL) (hl0 : lv_args 0 av = lv)
    (body : ∀ (p : Program) (e : Env) (s : State) (m : MethodId) (below : List Frame) (meth : Method) (c : Code) (ls : Array Slot), s.heap.size = sz → CallFix p m c cc maxL (s.setDrawn s.drawn) av.toArray lw_all own → meth.locks = false → meth.sig.returnType = ret → KW D cy (s.setDrawn s.drawn) → (∀ q, s.heap.size ≤ q → AW ad sz q) → PW D ad cy (AW ad sz) s.heap o S s.heap [] → lv_has ls maxL lv → s.drawn.sameBut s.drawn lw_cs → W p l e rm (s.setDrawn s.drawn) m av.toArray below meth c s.heap [] 0 0 (MQD lw_cs below Qc av.toArray s 0 0 (AW ad sz)) (F0 m 0 ls [])) : MetD lw_cs l y (wA y cc maxL ret) rm (va_Pc av (PreW D ad cy o S sz)) Qc 0 0 (AW ad sz) := by
  refine MetD.ofW (cc := cc) (maxL := maxL) (ret := ret) hy rfl ?_
  intro p e s m args below meth c s₁ B hml hv hd0
  obtain ⟨rfl, hsz, hP, hK, hD⟩ := hv
  have hts : ∀ w ∈ lw_all, w.before av.toArray s = true := fun w hw => atoms_spec (ws := wA y cc maxL ret) B.pre w (List.mem_cons_of_mem _ hw)
  have hown : s.vm.findClass own = some m.cls := by rw [← hcl]; exact findClass_of_methodNamed B.named
  have hl := lv_entry av (n := maxL) hlv
  rw [hl0] at hl
  rw [lg_entry_eq]
  exact body p e s m below meth c _ hsz ⟨B.exec, B.bytes, hml, hown, dr_words hts _⟩ B.notSynchronized B.returns hK (fun q h => Or.inr (by rw [← hsz]; exact h)) ⟨hP, AW_D hD, va_S.rf⟩ hl hd0
theorem e_d {p : Program} {l : Launch} {e : Env} {R : Room} {s : State} {m : MethodId} {args : Array Value} {below : List Frame} {meth : Method} {c : Code} {cells slots : Nat} {ls : Array Slot} {pc : Nat} {cc : ByteArray} {nL : Nat} {own : String} {D : va_G} {ad : Adr} {cy : Nat → ClassId} {o : Nat → Int64} {S : Mem} {H : Heap} {locs : List Loc} {s0 : State} {d0 : Drawn} {sz : Nat} {Q : Mem → UInt64 → Prop} {r1 : UInt64} (hM : CallFix p m c cc nL s0 args lw_all own) (hd0 : s.drawn.sameBut d0 lw_cs) (hX : PW D ad cy (AW ad sz) s.heap o S H locs) (hlocks : meth.locks = false) (hret : meth.sig.returnType = some .double) (hq : Q S r1) (hdg : decode cc pc = .ok (.dreturn, 1)) : W p l e R (s.setDrawn d0) m args below meth c H locs cells slots (MQD lw_cs below (Qd D ad cy o sz Q) args s cells slots (AW ad sz)) (F0 m pc ls [.double r1]) := by
  refine W.endD hd0 ?_
  exact W.dret hM.1 hM.2.1 hret (fun t ht hW => ⟨⟨r1, S, rfl, hq, by show va_P D vwCl (wd ad cy o S) t.heap; rw [ht]; exact hX.1⟩, hX.2.2.F ht⟩) hX.2.2.2.2 hdg hlocks
