def exN (k : Nat) : String := match k with
  | 1 => "java/lang/IndexOutOfBoundsException"
  | 2 => "java/lang/IllegalArgumentException"
  | _ => "java/lang/IllegalStateException"
abbrev exL : List String := ["java/lang/RuntimeException", "java/lang/Exception"]
def thL : List Cond := [.castable "java/lang/IndexOutOfBoundsException" "java/lang/IndexOutOfBoundsException", .castable "java/lang/IllegalArgumentException" "java/lang/IllegalArgumentException", .castable "java/lang/IllegalStateException" "java/lang/IllegalStateException", .declares ⟨"java/lang/Exception", "<init>", "()V"⟩, .declares ⟨"java/lang/Exception", "<init>", "(Ljava/lang/String;)V"⟩, .declares ⟨"java/lang/RuntimeException", "<init>", "()V"⟩, .declares ⟨"java/lang/RuntimeException", "<init>", "(Ljava/lang/String;)V"⟩, .declares ⟨"java/lang/Throwable", "<init>", "()V"⟩, .declares ⟨"java/lang/Throwable", "<init>", "(Ljava/lang/String;)V"⟩]
theorem thL_tab : ∀ w ∈ thL, w.onTables = true := by decide +kernel
theorem thL_warm {s U : State} (hW : s.WarmedH U.vm) : ∀ w ∈ thL, va_Nw w s → va_Nw w U := by
  intro w hw h
  simp only [thL, List.mem_cons, List.not_mem_nil, or_false] at hw
  rcases hw with rfl | rfl | rfl | rfl | rfl | rfl | rfl | rfl | rfl
  · exact va_Nw.warmC hW h
  · exact va_Nw.warmC hW h
  · exact va_Nw.warmC hW h
  · exact va_Nw.warmD hW h
  · exact va_Nw.warmD hW h
  · exact va_Nw.warmD hW h
  · exact va_Nw.warmD hW h
  · exact va_Nw.warmD hW h
  · exact va_Nw.warmD hW h
def strL : List (Nat × String) := [(109, "no thermometer shows this"), (114, "there is no such setting"), (126, "the buffer holds 60 characters"), (144, "the buffer is not a complete order text"), (159, "no state is saved"), (178, "the slot is empty"), (254, "there is no such row"), (256, "an argument is out of range"), (258, "an argument is negative"), (264, "there is no such thermometer"), (269, "the hour would be greater than 9999"), (57, "there are 10 thermometers")]
theorem st_109 : (109, "no thermometer shows this") ∈ strL := List.mem_of_getElem? (i := 0) rfl
theorem st_114 : (114, "there is no such setting") ∈ strL := List.mem_of_getElem? (i := 1) rfl
theorem st_126 : (126, "the buffer holds 60 characters") ∈ strL := List.mem_of_getElem? (i := 2) rfl
theorem st_144 : (144, "the buffer is not a complete order text") ∈ strL := List.mem_of_getElem? (i := 3) rfl
theorem st_159 : (159, "no state is saved") ∈ strL := List.mem_of_getElem? (i := 4) rfl
theorem st_178 : (178, "the slot is empty") ∈ strL := List.mem_of_getElem? (i := 5) rfl
theorem st_254 : (254, "there is no such row") ∈ strL := List.mem_of_getElem? (i := 6) rfl
theorem st_256 : (256, "an argument is out of range") ∈ strL := List.mem_of_getElem? (i := 7) rfl
theorem st_258 : (258, "an argument is negative") ∈ strL := List.mem_of_getElem? (i := 8) rfl
theorem st_264 : (264, "there is no such thermometer") ∈ strL := List.mem_of_getElem? (i := 9) rfl
theorem st_269 : (269, "the hour would be greater than 9999") ∈ strL := List.mem_of_getElem? (i := 10) rfl
theorem st_57 : (57, "there are 10 thermometers") ∈ strL := List.mem_of_getElem? (i := 11) rfl
def TX (U : State) : Prop := (∀ w ∈ thL, va_Nw w U) ∧ ∀ q ∈ strL, ∃ sa : Nat, vk_R RX6 q.1 q.2 sa U
theorem TX.warm {s U : State} (hW : s.WarmedH U.vm) (h : TX s) : TX U := ⟨fun w hw => thL_warm hW w hw (h.1 w hw), fun q hq => by obtain ⟨sa, hs⟩ := h.2 q hq; exact ⟨sa, vk_R.warm hW hs⟩⟩
theorem TX.same {u U : State} (hv : U.vm = u.vm) (h : TX u) : TX U := ⟨fun w hw => va_Nw.same (thL_tab w hw) hv.symm (h.1 w hw), fun q hq => by obtain ⟨sa, hs⟩ := h.2 q hq; exact ⟨sa, vk_R.same hv hs⟩⟩
def TZ (A : Nat → Prop) (U : State) (H : Heap) : Prop := vx_Zq Bundle.tN "UNASSIGNED_STACK" Bundle.steD A U H ∧ vx_Zq Bundle.tN "SUPPRESSED_SENTINEL" Bundle.listD A U H
theorem TZ.moved {A : Nat → Prop} {u U : State} {H : Heap} (hv : u.vm.Alike U.vm) (h : TZ A u H) : TZ A U H := ⟨h.1.moved hv, h.2.moved hv⟩
theorem TZ.kept {A : Nat → Prop} {U : State} {H H1 : Heap} (h : TZ A U H) (hq : ∀ a : Nat, a < H.size → ¬ A a → H1[a]? = H[a]?) : TZ A U H1 := ⟨h.1.kept hq, h.2.kept hq⟩
theorem TZ.narrow {A B : Nat → Prop} {U : State} {H : Heap} (h : TZ A U H) (hAB : ∀ q, B q → A q) : TZ B U H := ⟨h.1.narrow hAB, h.2.narrow hAB⟩
def PreT (D : va_G) (ad : Adr) (cy : Nat → ClassId) (o : Nat → Int64) (S : Mem) (sz : Nat) (U : State) : Prop := PreW D ad cy o S sz U ∧ TX U ∧ TZ (AW ad sz) U U.heap
theorem PreT_blind {D : va_G} {ad : Adr} {cy : Nat → ClassId} {o : Nat → Int64} {S : Mem} {sz : Nat} {av : List Value} : FrameBlind (va_Pc av (PreT D ad cy o S sz)) := fun a U g mk h => ⟨h.1, (PreW_blind (av := av) a U g mk ⟨h.1, h.2.1⟩).2, TX.same (u := U) (U := U.calling g mk a) rfl h.2.2.1, TZ.moved (u := U) (U := U.calling g mk a) (Vm.Alike.refl U.vm) h.2.2.2⟩
abbrev QX (D : va_G) (ad : Adr) (cy : Nat → ClassId) (o : Nat → Int64) (sz : Nat) (X : Mem → Nat → Prop) : String → State → State → Prop := vx_X (fun u : Mem × Nat => X u.1 u.2) (fun E u t => E = exN u.2 ∧ va_P D vwCl (wd ad cy o u.1) t.heap) (AW ad sz)
def Ti (l : Launch) (y : MethodName) (ws : List Cond) (rm : Room) (D : va_G) (ad : Adr) (cy : Nat → ClassId) (av : List Value) (S : Mem) (Q : Mem → Int32 → Prop) (X : Mem → Nat → Prop) (mc ms : Nat) : Prop := ∀ (o : Nat → Int64) (sz : Nat), vx_Met l y ws rm (va_Pc av (PreT D ad cy o S sz)) (Qi D ad cy o sz Q) (QX D ad cy o sz X) mc ms (AW ad sz)
def Tv (l : Launch) (y : MethodName) (ws : List Cond) (rm : Room) (D : va_G) (ad : Adr) (cy : Nat → ClassId) (av : List Value) (S : Mem) (Q : Mem → Prop) (X : Mem → Nat → Prop) (mc ms : Nat) : Prop := ∀ (o : Nat → Int64) (sz : Nat), vx_Met l y ws rm (va_Pc av (PreT D ad cy o S sz)) (Qv D ad cy o sz Q) (QX D ad cy o sz X) mc ms (AW ad sz)
theorem at_of {X : String} {ic : Nat} (h1 : ((vx_atS RX6 ic X exL).filter goodWord).all (fun w => decide (w ∈ lw_tbl)) = true) (h2 : ((vx_atS RX6 ic X exL).filter (fun w => !goodWord w)).all (fun w => decide (w ∈ thL)) = true) {args : Array Value} {s : State} (hts : ∀ w ∈ lw_all, w.before args s = true) (hT : TX s) : ∀ w ∈ vx_atS RX6 ic X exL, w.before args s = true := by
  refine vx_hat (B := thL) (fun w hw => ?_) (fun w hw => ?_) (fun w hw => va_Nw.use (thL_tab w hw) (hT.1 w hw))
  · have h := List.all_eq_true.mp h1 w hw
    exact hts w (lw_mem (of_decide_eq_true h) (List.mem_filter.mp hw).2)
  · exact of_decide_eq_true (List.all_eq_true.mp h2 w hw)
theorem at1_1 : ((vx_atS RX6 116 (exN 1) exL).filter goodWord).all (fun w => decide (w ∈ lw_tbl)) = true := by decide +kernel
theorem at2_1 : ((vx_atS RX6 116 (exN 1) exL).filter (fun w => !goodWord w)).all (fun w => decide (w ∈ thL)) = true := by decide +kernel
theorem at3_1 : ∀ w ∈ Cond.classLink RX6 112 (exN 1) :: Cond.initialized (exN 1) :: vx_atS RX6 116 (exN 1) exL, vx_ot w = true := by decide +kernel
theorem at4_1 : Bundle.fit (exN 1) = true ∧ ∀ n ∈ exL, Bundle.fit n = true := by decide +kernel
theorem at1_2 : ((vx_atS RX6 146 (exN 2) exL).filter goodWord).all (fun w => decide (w ∈ lw_tbl)) = true := by decide +kernel
theorem at2_2 : ((vx_atS RX6 146 (exN 2) exL).filter (fun w => !goodWord w)).all (fun w => decide (w ∈ thL)) = true := by decide +kernel
theorem at3_2 : ∀ w ∈ Cond.classLink RX6 142 (exN 2) :: Cond.initialized (exN 2) :: vx_atS RX6 146 (exN 2) exL, vx_ot w = true := by decide +kernel
theorem at4_2 : Bundle.fit (exN 2) = true ∧ ∀ n ∈ exL, Bundle.fit n = true := by decide +kernel
theorem at1_3 : ((vx_atS RX6 59 (exN 3) exL).filter goodWord).all (fun w => decide (w ∈ lw_tbl)) = true := by decide +kernel
theorem at2_3 : ((vx_atS RX6 59 (exN 3) exL).filter (fun w => !goodWord w)).all (fun w => decide (w ∈ thL)) = true := by decide +kernel
theorem at3_3 : ∀ w ∈ Cond.classLink RX6 55 (exN 3) :: Cond.initialized (exN 3) :: vx_atS RX6 59 (exN 3) exL, vx_ot w = true := by decide +kernel
theorem at4_3 : Bundle.fit (exN 3) = true ∧ ∀ n ∈ exL, Bundle.fit n = true := by decide +kernel
theorem mkT {l : Launch} {y : MethodName} {cc : ByteArray} {maxL mc ms : Nat} {ret : Option FieldType} {rm : Room} {D : va_G} {ad : Adr} {cy : Nat → ClassId} {o : Nat → Int64} {S : Mem} {sz : Nat} {av : List Value} {lv : List (Nat × Value)} {Qc : Array Value → State → Outcome → State → Prop} {XC : String → State → State → Prop} {own : String} (hy : plainName y.cls = true) (hcl : y.cls = own) (hlv : (lg_sl av).length ≤ maxL) (hl0 : lv_args 0 av = lv)
    (body : ∀ (p : Program) (e : Env) (s : State) (m : MethodId) (below : List Frame) (meth : Method) (c : Code) (ls : Array Slot), s.heap.size = sz → CallFix p m c cc maxL s av.toArray lw_all own → meth.locks = false → meth.sig.returnType = ret → KW D cy s → (∀ q, s.heap.size ≤ q → AW ad sz q) → PW D ad cy (AW ad sz) s.heap o S s.heap [] → lv_has ls maxL lv → (∀ x ∈ c.exceptionTable.toList, False) → TX s → TZ (AW ad sz) s s.heap → W p l e rm s m av.toArray below meth c s.heap [] 0 0 (vx_MQ below Qc XC av.toArray s mc ms (AW ad sz)) (F0 m 0 ls [])) : vx_Met l y (wA y cc maxL ret) rm (va_Pc av (PreT D ad cy o S sz)) Qc XC mc ms (AW ad sz) := by
  refine vx_ofW (cc := cc) (maxL := maxL) (ret := ret) hy rfl ?_
  intro p e s m args below meth c s₁ B hml hno hv
  obtain ⟨rfl, ⟨hsz, hP, hK, hD⟩, hT, hZ⟩ := hv
  have hts : ∀ w ∈ lw_all, w.before av.toArray s = true := fun w hw => atoms_spec (ws := wA y cc maxL ret) B.pre w (List.mem_cons_of_mem _ hw)
  have hown : s.vm.findClass own = some m.cls := by rw [← hcl]; exact findClass_of_methodNamed B.named
  have hl := lv_entry av (n := maxL) hlv
  rw [hl0] at hl
  rw [lg_entry_eq]
  exact body p e s m below meth c _ hsz ⟨B.exec, B.bytes, hml, hown, hts⟩ B.notSynchronized B.returns hK (fun q h => Or.inr (by rw [← hsz]; exact h)) ⟨hP, AW_D hD, va_S.rf⟩ hl hno hT hZ
section RowsT
variable {p : Program} {l : Launch} {e : Env} {R : Room} {s : State} {m : MethodId} {args : Array Value} {below : List Frame} {meth : Method} {c : Code} {cells slots : Nat} {ls : Array Slot} {pc : Nat} {rest : List Value} {cc : ByteArray} {nL : Nat} {own : String} {D : va_G} {ad : Adr} {cy : Nat → ClassId} {o : Nat → Int64} {S : Mem} {H : Heap} {locs : List Loc}
theorem r_thr {sz k ik ic is mc ms : Nat} {tx : String} {Qc : Array Value → State → Outcome → State → Prop} {X : Mem → Nat → Prop} (hl9 : l.stackTraces = false) (hM : CallFix p m c cc nL s args lw_all RX6) (hX : PW D ad cy (AW ad sz) s.heap o S H locs) (hT : TX s) (hZ : TZ (AW ad sz) s s.heap) (hno : ∀ x ∈ c.exceptionTable.toList, False) (hlocks : meth.locks = false) (hls : ls.size = nL) (hk : Cond.classLink RX6 ik (exN k) ∈ lw_all) (hini : Cond.initialized (exN k) ∈ lw_all) (hst : (is, tx) ∈ strL) (h1 : ((vx_atS RX6 ic (exN k) exL).filter goodWord).all (fun w => decide (w ∈ lw_tbl)) = true) (h2 : ((vx_atS RX6 ic (exN k) exL).filter (fun w => !goodWord w)).all (fun w => decide (w ∈ thL)) = true) (h3 : ∀ w ∈ Cond.classLink RX6 ik (exN k) :: Cond.initialized (exN k) :: vx_atS RX6 ic (exN k) exL, vx_ot w = true) (h4 : Bundle.fit (exN k) = true ∧ ∀ n ∈ exL, Bundle.fit n = true)
    (d0 : decode cc pc = .ok (.new ik, 3)) (d3 : decode cc (pc + 3) = .ok (.dup, 1)) (d4 : decode cc (pc + 4) = .ok (.ldc is, 2)) (d6 : decode cc (pc + 6) = .ok (.invokespecial ic, 3)) (d9 : decode cc (pc + 9) = .ok (.athrow, 1)) (hRf : 5 < R.frames) (hRl : (rest.map fun v => v.category).sum + 82 ≤ R.locals) (hRc : cells + 1 ≤ R.cells) (hRs : slots + 6 ≤ R.slots) (hc : cells + 1 ≤ mc) (hs : slots + 6 ≤ ms) (hq : X S k) : W p l e R s m args below meth c H locs cells slots (vx_MQ below Qc (QX D ad cy o sz X) args s mc ms (AW ad sz)) (F0 m pc ls rest) := by
  obtain ⟨sa, hsa⟩ := hT.2 _ hst
  refine vx_throwS (names := exL) hM.1 hM.2.1 hl9 hM.2.2.2.1 h4.1 h4.2 (hM.2.2.2.2 _ hk) (hM.2.2.2.2 _ hini) hsa (at_of h1 h2 hM.2.2.2.2 hT) h3 hZ.1 hZ.2 hX.2.2 (hls.trans hM.2.2.1.symm) d0 d3 d4 d6 d9 (fun x hx => (hno x hx).elim) hRf hRl hRc hRs hlocks (fun t ht1 ht2 ht3 => ?_) hX.2.2.2.2 hc hs
  have hkeep : ∀ (k : Nat) (q : Nat × va_E), (wd ad cy o S)[k]? = some q → t.heap[q.1]? = H[q.1]? := fun k q hk => ht3 q.1 ((hX.1 k q hk).lt)
  exact ⟨(S, k), hq, ⟨rfl, hX.1.kept hkeep⟩, Nat.le_trans hX.2.2.1 ht2, fun q h5 h6 => by rw [ht3 q (Nat.lt_of_lt_of_le h5 hX.2.2.1)]; exact hX.2.2.2.1 q h5 h6⟩
theorem r_thrW {sz k ik ic is mc ms : Nat} {tx : String} {Qc : Array Value → State → Outcome → State → Prop} {X : Mem → Nat → Prop} (hl9 : l.stackTraces = false) (hM : CallFix p m c cc nL s args lw_all RX6) (hX : PW D ad cy (AW ad sz) s.heap o S H locs) (hT : TX s) (hZ : TZ (AW ad sz) s s.heap) (hno : ∀ x ∈ c.exceptionTable.toList, False) (hlocks : meth.locks = false) (hls : ls.size = nL) (hk : Cond.classLink RX6 ik (exN k) ∈ lw_all) (hini : Cond.initialized (exN k) ∈ lw_all) (hst : (is, tx) ∈ strL) (h1 : ((vx_atS RX6 ic (exN k) exL).filter goodWord).all (fun w => decide (w ∈ lw_tbl)) = true) (h2 : ((vx_atS RX6 ic (exN k) exL).filter (fun w => !goodWord w)).all (fun w => decide (w ∈ thL)) = true) (h3 : ∀ w ∈ Cond.classLink RX6 ik (exN k) :: Cond.initialized (exN k) :: vx_atS RX6 ic (exN k) exL, vx_ot w = true) (h4 : Bundle.fit (exN k) = true ∧ ∀ n ∈ exL, Bundle.fit n = true)
    (d0 : decode cc pc = .ok (.new ik, 3)) (d3 : decode cc (pc + 3) = .ok (.dup, 1)) (d4 : decode cc (pc + 4) = .ok (.ldc_w is, 3)) (d6 : decode cc (pc + 7) = .ok (.invokespecial ic, 3)) (d9 : decode cc (pc + 10) = .ok (.athrow, 1)) (hRf : 5 < R.frames) (hRl : (rest.map fun v => v.category).sum + 82 ≤ R.locals) (hRc : cells + 1 ≤ R.cells) (hRs : slots + 6 ≤ R.slots) (hc : cells + 1 ≤ mc) (hs : slots + 6 ≤ ms) (hq : X S k) : W p l e R s m args below meth c H locs cells slots (vx_MQ below Qc (QX D ad cy o sz X) args s mc ms (AW ad sz)) (F0 m pc ls rest) := by
  obtain ⟨sa, hsa⟩ := hT.2 _ hst
  refine vx_throwSW (names := exL) hM.1 hM.2.1 hl9 hM.2.2.2.1 h4.1 h4.2 (hM.2.2.2.2 _ hk) (hM.2.2.2.2 _ hini) hsa (at_of h1 h2 hM.2.2.2.2 hT) h3 hZ.1 hZ.2 hX.2.2 (hls.trans hM.2.2.1.symm) d0 d3 d4 d6 d9 (fun x hx => (hno x hx).elim) hRf hRl hRc hRs hlocks (fun t ht1 ht2 ht3 => ?_) hX.2.2.2.2 hc hs
  have hkeep : ∀ (k : Nat) (q : Nat × va_E), (wd ad cy o S)[k]? = some q → t.heap[q.1]? = H[q.1]? := fun k q hk => ht3 q.1 ((hX.1 k q hk).lt)
  exact ⟨(S, k), hq, ⟨rfl, hX.1.kept hkeep⟩, Nat.le_trans hX.2.2.1 ht2, fun q h5 h6 => by rw [ht3 q (Nat.lt_of_lt_of_le h5 hX.2.2.1)]; exact hX.2.2.2.1 q h5 h6⟩
theorem e_iT {sz mc ms : Nat} {Q : Mem → Int32 → Prop} {XC : String → State → State → Prop} {r1 : Int32} (hM : CallFix p m c cc nL s args lw_all own) (hX : PW D ad cy (AW ad sz) s.heap o S H locs) (hlocks : meth.locks = false) (hret : meth.sig.returnType = some .int) (hc : cells ≤ mc) (hs : slots ≤ ms) (hq : Q S r1) (hdg : decode cc pc = .ok (.ireturn, 1)) : W p l e R s m args below meth c H locs cells slots (vx_MQ below (Qi D ad cy o sz Q) XC args s mc ms (AW ad sz)) (F0 m pc ls [.int r1]) := vx_ret (W.widen hc hs (e_i hM hX hlocks hret hq hdg))
theorem e_vT {sz mc ms : Nat} {Q : Mem → Prop} {XC : String → State → State → Prop} (hM : CallFix p m c cc nL s args lw_all own) (hX : PW D ad cy (AW ad sz) s.heap o S H locs) (hlocks : meth.locks = false) (hret : meth.sig.returnType = none) (hc : cells ≤ mc) (hs : slots ≤ ms) (hq : Q S) (hdg : decode cc pc = .ok (.return_, 1)) : W p l e R s m args below meth c H locs cells slots (vx_MQ below (Qv D ad cy o sz Q) XC args s mc ms (AW ad sz)) (F0 m pc ls []) := vx_ret (W.widen hc hs (e_v hM hX hlocks hret hq hdg))
theorem tSi {y : MethodName} {ws : List Cond} {rm : Room} {index maxL n sz mc ms mcA msA : Nat} {bytes : ByteArray} {rt : Option FieldType} {As st0 : List Value} {Q1 : Mem → Int32 → Prop} {X : Mem → Nat → Prop} {Qc : Array Value → State → Outcome → State → Prop} (hM : CallFix p m c cc nL s args lw_all own) (hK : KW D cy s) (hX : PW D ad cy (AW ad sz) s.heap o S H locs) (hA : ∀ q, s.heap.size ≤ q → AW ad sz q) (hT : TX s) (hZ : TZ (AW ad sz) s s.heap) (hno : ∀ x ∈ c.exceptionTable.toList, False) (hlocks : meth.locks = false) (hC : Ti l y ws rm D ad cy As S Q1 X mc ms) (cw : CallB R s args own index y bytes maxL rt ws rm mc ms n ∧ (Cond.static y).before args s = true) (hn : As.length = n) (hsz : ls.size = nL) (hst : st0 = As.reverse ++ rest) (hW : (rest.map fun v => v.category).sum ≤ 8) (hdg : decode cc pc = .ok (.invokestatic index, 3)) (hf : cells + mc ≤ R.cells ∧ slots + ms ≤ R.slots) (hm : cells + mc ≤ mcA ∧ slots + ms ≤ msA)
    (kk : ∀ (S1 : Mem) (r1 : Int32), Q1 S1 r1 → ∀ (H1 : Heap) (locs1 : List Loc), PW D ad cy (AW ad sz) s.heap o S1 H1 locs1 → W p l e R s m args below meth c H1 locs1 (cells + mc) (slots + ms) (vx_MQ below Qc (QX D ad cy o sz X) args s mcA msA (AW ad sz)) (F0 m (pc + 3) ls (.int r1 :: rest))) : W p l e R s m args below meth c H locs cells slots (vx_MQ below Qc (QX D ad cy o sz X) args s mcA msA (AW ad sz)) (F0 m pc ls st0) := by
  have hF := AW_le hX.2.1 hX.2.2 hA
  refine vx_calli (vx_runS (As := As) (rest := rest) hM (hC o H.size) cw ⟨PreT_blind, fun U hU hW => ⟨rfl, ⟨by rw [hU], by rw [hU]; exact hX.1, hK.warm hW, hX.2.1.weaken (fun _ _ _ _ => trivial)⟩, hT.warm hW, by rw [hU]; exact ((hZ.kept (fun a h h9 => hX.2.2.2.1 a h h9)).narrow hF).moved hW.alike⟩⟩ rfl hn hsz hst (lv_room hW) hdg hf) hX.2.2 (fun q _ h => hF q h) hF (fun q _ h => hF q h) (fun E ce q9 u t H1 locs1 ht hvm hpx hBX hz1 hk1 hS1 hc9 hv9 hcl9 => ?_) (fun r1 u t H1 locs1 ht hvm hw hB hz1 hk1 hS1 => ?_)
  · obtain ⟨rfl, hB⟩ := hBX
    rw [ht] at hB
    exact vx_out (fun x hx => (hno x hx).elim) hlocks hc9 hv9 hcl9 (fun t2 ht2 hvm2 => ⟨u, hpx, ⟨rfl, by rw [ht2]; exact hB⟩, hS1.F ht2⟩) hS1.2.2 hm.1 hm.2
  · rw [ht] at hB
    exact kk u r1 hw H1 locs1 ⟨hB, wd_D hX.2.1, hS1⟩
theorem tSv {y : MethodName} {ws : List Cond} {rm : Room} {index maxL n sz mc ms mcA msA : Nat} {bytes : ByteArray} {rt : Option FieldType} {As st0 : List Value} {Q1 : Mem → Prop} {X : Mem → Nat → Prop} {Qc : Array Value → State → Outcome → State → Prop} (hM : CallFix p m c cc nL s args lw_all own) (hK : KW D cy s) (hX : PW D ad cy (AW ad sz) s.heap o S H locs) (hA : ∀ q, s.heap.size ≤ q → AW ad sz q) (hT : TX s) (hZ : TZ (AW ad sz) s s.heap) (hno : ∀ x ∈ c.exceptionTable.toList, False) (hlocks : meth.locks = false) (hC : Tv l y ws rm D ad cy As S Q1 X mc ms) (cw : CallB R s args own index y bytes maxL rt ws rm mc ms n ∧ (Cond.static y).before args s = true) (hn : As.length = n) (hsz : ls.size = nL) (hst : st0 = As.reverse ++ rest) (hW : (rest.map fun v => v.category).sum ≤ 8) (hdg : decode cc pc = .ok (.invokestatic index, 3)) (hf : cells + mc ≤ R.cells ∧ slots + ms ≤ R.slots) (hm : cells + mc ≤ mcA ∧ slots + ms ≤ msA)
    (kk : ∀ S1 : Mem, Q1 S1 → ∀ (H1 : Heap) (locs1 : List Loc), PW D ad cy (AW ad sz) s.heap o S1 H1 locs1 → W p l e R s m args below meth c H1 locs1 (cells + mc) (slots + ms) (vx_MQ below Qc (QX D ad cy o sz X) args s mcA msA (AW ad sz)) (F0 m (pc + 3) ls rest)) : W p l e R s m args below meth c H locs cells slots (vx_MQ below Qc (QX D ad cy o sz X) args s mcA msA (AW ad sz)) (F0 m pc ls st0) := by
  have hF := AW_le hX.2.1 hX.2.2 hA
  refine vx_callv (vx_runS (As := As) (rest := rest) hM (hC o H.size) cw ⟨PreT_blind, fun U hU hW => ⟨rfl, ⟨by rw [hU], by rw [hU]; exact hX.1, hK.warm hW, hX.2.1.weaken (fun _ _ _ _ => trivial)⟩, hT.warm hW, by rw [hU]; exact ((hZ.kept (fun a h h9 => hX.2.2.2.1 a h h9)).narrow hF).moved hW.alike⟩⟩ rfl hn hsz hst (lv_room hW) hdg hf) hX.2.2 (fun q _ h => hF q h) hF (fun q _ h => hF q h) (fun E ce q9 u t H1 locs1 ht hvm hpx hBX hz1 hk1 hS1 hc9 hv9 hcl9 => ?_) (fun u t H1 locs1 ht hvm hw hB hz1 hk1 hS1 => ?_)
  · obtain ⟨rfl, hB⟩ := hBX
    rw [ht] at hB
    exact vx_out (fun x hx => (hno x hx).elim) hlocks hc9 hv9 hcl9 (fun t2 ht2 hvm2 => ⟨u, hpx, ⟨rfl, by rw [ht2]; exact hB⟩, hS1.F ht2⟩) hS1.2.2 hm.1 hm.2
  · rw [ht] at hB
    exact kk u hw H1 locs1 ⟨hB, wd_D hX.2.1, hS1⟩
theorem tVi {y : MethodName} {ws : List Cond} {rm : Room} {index maxL n sz mc ms mcA msA : Nat} {bytes : ByteArray} {rt : Option FieldType} {C : String} {b : Nat} {As st0 : List Value} {Q1 : Mem → Int32 → Prop} {X : Mem → Nat → Prop} {Qc : Array Value → State → Outcome → State → Prop} (hM : CallFix p m c cc nL s args lw_all own) (hK : KW D cy s) (hX : PW D ad cy (AW ad sz) s.heap o S H locs) (hA : ∀ q, s.heap.size ≤ q → AW ad sz q) (hT : TX s) (hZ : TZ (AW ad sz) s s.heap) (hno : ∀ x ∈ c.exceptionTable.toList, False) (hlocks : meth.locks = false) (hC : Ti l y ws rm D ad cy (.ref b :: As) S Q1 X mc ms) (cw : CallW R s args own C index y bytes maxL rt ws rm mc ms n) (hr : ∃ cell : Cell, H[b]? = some cell ∧ cell.vm.isStatics = false ∧ s.vm.findClass C = some cell.cls) (hn : As.length = n) (hsz : ls.size = nL) (hst : st0 = As.reverse ++ .ref b :: rest) (hW : (rest.map fun v => v.category).sum ≤ 8) (hdg : decode cc pc = .ok (.invokevirtual index, 3)) (hf : cells + mc ≤ R.cells ∧ slots + ms ≤ R.slots) (hm : cells + mc ≤ mcA ∧ slots + ms ≤ msA)
    (kk : ∀ (S1 : Mem) (r1 : Int32), Q1 S1 r1 → ∀ (H1 : Heap) (locs1 : List Loc), PW D ad cy (AW ad sz) s.heap o S1 H1 locs1 → W p l e R s m args below meth c H1 locs1 (cells + mc) (slots + ms) (vx_MQ below Qc (QX D ad cy o sz X) args s mcA msA (AW ad sz)) (F0 m (pc + 3) ls (.int r1 :: rest))) : W p l e R s m args below meth c H locs cells slots (vx_MQ below Qc (QX D ad cy o sz X) args s mcA msA (AW ad sz)) (F0 m pc ls st0) := by
  have hF := AW_le hX.2.1 hX.2.2 hA
  refine vx_calli (vx_runV (As := As) (rest := rest) hM (hC o H.size) cw ⟨PreT_blind, hr, fun U hU hW => ⟨rfl, ⟨by rw [hU], by rw [hU]; exact hX.1, hK.warm hW, hX.2.1.weaken (fun _ _ _ _ => trivial)⟩, hT.warm hW, by rw [hU]; exact ((hZ.kept (fun a h h9 => hX.2.2.2.1 a h h9)).narrow hF).moved hW.alike⟩⟩ rfl hn hsz hst (lv_room hW) hdg hf) hX.2.2 (fun q _ h => hF q h) hF (fun q _ h => hF q h) (fun E ce q9 u t H1 locs1 ht hvm hpx hBX hz1 hk1 hS1 hc9 hv9 hcl9 => ?_) (fun r1 u t H1 locs1 ht hvm hw hB hz1 hk1 hS1 => ?_)
  · obtain ⟨rfl, hB⟩ := hBX
    rw [ht] at hB
    exact vx_out (fun x hx => (hno x hx).elim) hlocks hc9 hv9 hcl9 (fun t2 ht2 hvm2 => ⟨u, hpx, ⟨rfl, by rw [ht2]; exact hB⟩, hS1.F ht2⟩) hS1.2.2 hm.1 hm.2
  · rw [ht] at hB
    exact kk u r1 hw H1 locs1 ⟨hB, wd_D hX.2.1, hS1⟩
theorem tVv {y : MethodName} {ws : List Cond} {rm : Room} {index maxL n sz mc ms mcA msA : Nat} {bytes : ByteArray} {rt : Option FieldType} {C : String} {b : Nat} {As st0 : List Value} {Q1 : Mem → Prop} {X : Mem → Nat → Prop} {Qc : Array Value → State → Outcome → State → Prop} (hM : CallFix p m c cc nL s args lw_all own) (hK : KW D cy s) (hX : PW D ad cy (AW ad sz) s.heap o S H locs) (hA : ∀ q, s.heap.size ≤ q → AW ad sz q) (hT : TX s) (hZ : TZ (AW ad sz) s s.heap) (hno : ∀ x ∈ c.exceptionTable.toList, False) (hlocks : meth.locks = false) (hC : Tv l y ws rm D ad cy (.ref b :: As) S Q1 X mc ms) (cw : CallW R s args own C index y bytes maxL rt ws rm mc ms n) (hr : ∃ cell : Cell, H[b]? = some cell ∧ cell.vm.isStatics = false ∧ s.vm.findClass C = some cell.cls) (hn : As.length = n) (hsz : ls.size = nL) (hst : st0 = As.reverse ++ .ref b :: rest) (hW : (rest.map fun v => v.category).sum ≤ 8) (hdg : decode cc pc = .ok (.invokevirtual index, 3)) (hf : cells + mc ≤ R.cells ∧ slots + ms ≤ R.slots) (hm : cells + mc ≤ mcA ∧ slots + ms ≤ msA)
    (kk : ∀ S1 : Mem, Q1 S1 → ∀ (H1 : Heap) (locs1 : List Loc), PW D ad cy (AW ad sz) s.heap o S1 H1 locs1 → W p l e R s m args below meth c H1 locs1 (cells + mc) (slots + ms) (vx_MQ below Qc (QX D ad cy o sz X) args s mcA msA (AW ad sz)) (F0 m (pc + 3) ls rest)) : W p l e R s m args below meth c H locs cells slots (vx_MQ below Qc (QX D ad cy o sz X) args s mcA msA (AW ad sz)) (F0 m pc ls st0) := by
  have hF := AW_le hX.2.1 hX.2.2 hA
  refine vx_callv (vx_runV (As := As) (rest := rest) hM (hC o H.size) cw ⟨PreT_blind, hr, fun U hU hW => ⟨rfl, ⟨by rw [hU], by rw [hU]; exact hX.1, hK.warm hW, hX.2.1.weaken (fun _ _ _ _ => trivial)⟩, hT.warm hW, by rw [hU]; exact ((hZ.kept (fun a h h9 => hX.2.2.2.1 a h h9)).narrow hF).moved hW.alike⟩⟩ rfl hn hsz hst (lv_room hW) hdg hf) hX.2.2 (fun q _ h => hF q h) hF (fun q _ h => hF q h) (fun E ce q9 u t H1 locs1 ht hvm hpx hBX hz1 hk1 hS1 hc9 hv9 hcl9 => ?_) (fun u t H1 locs1 ht hvm hw hB hz1 hk1 hS1 => ?_)
  · obtain ⟨rfl, hB⟩ := hBX
    rw [ht] at hB
    exact vx_out (fun x hx => (hno x hx).elim) hlocks hc9 hv9 hcl9 (fun t2 ht2 hvm2 => ⟨u, hpx, ⟨rfl, by rw [ht2]; exact hB⟩, hS1.F ht2⟩) hS1.2.2 hm.1 hm.2
  · rw [ht] at hB
    exact kk u hw H1 locs1 ⟨hB, wd_D hX.2.1, hS1⟩
end RowsT
