/-! CONSTRUCTORS: worlds as lists; a callee's own cell goes in, its block comes out, the rest stays. -/
def AO (U : State) : Prop := va_AO "LateThermometers$Place" U ∧ va_AO "LateThermometers$Thermometer" U
theorem AO.moved {u U : State} (hv : u.vm.Alike U.vm) (h : AO u) : AO U := ⟨va_AO.moved hv h.1, va_AO.moved hv h.2⟩
def PreN (D : va_G) (cy : Nat → ClassId) (w0 : va_W) (sz : Nat) (U : State) : Prop := U.heap.size = sz ∧ va_P D vwCl w0 U.heap ∧ KW D cy U ∧ AO U ∧ va_D (fun _ => True) w0
theorem PreN_blind {D : va_G} {cy : Nat → ClassId} {w0 : va_W} {sz : Nat} {av : List Value} : FrameBlind (va_Pc av (PreN D cy w0 sz)) := fun a U g mk h => ⟨h.1, h.2.1, h.2.2.1, ⟨va_K.moved (u := U) (U := U.calling g mk a) (Vm.Alike.refl U.vm) h.2.2.2.1.1, NX.same (u := U) (U := U.calling g mk a) rfl h.2.2.2.1.2⟩, AO.moved (u := U) (U := U.calling g mk a) (Vm.Alike.refl U.vm) h.2.2.2.2.1, h.2.2.2.2.2⟩
def NI (l : Launch) (y : MethodName) (ws : List Cond) (rm : Room) (D : va_G) (cy : Nat → ClassId) (b : Nat) (w0 : va_W) (Q : va_W → Prop) (mc ms : Nat) : Prop := ∀ sz : Nat, Met l y ws rm (va_Pc [.ref b] (PreN D cy w0 sz)) (va_Qv (fun w1 : va_W => Q w1) (fun w1 t => va_P D vwCl w1 t.heap ∧ va_D (va_A w0 sz) w1) (va_A w0 sz)) mc ms (va_A w0 sz)
theorem join_P {D : va_G} {A : Nat → Prop} {wr w0 w1 : va_W} {H H1 : Heap} (hP : va_P D vwCl (wr ++ w0) H) (hD : va_D A (wr ++ w0)) (hAle : ∀ q, va_A w0 H.size q → A q) (hk : ∀ q : Nat, q < H.size → ¬ va_A w0 H.size q → H1[q]? = H[q]?) (hP1 : va_P D vwCl w1 H1) (hD1 : va_D (va_A w0 H.size) w1) : va_P D vwCl (wr ++ w1) H1 ∧ va_D A (wr ++ w1) := by
  have key : ∀ (k : Nat) (q : Nat × va_E), wr[k]? = some q → q.1 < H.size ∧ ¬ va_A w0 H.size q.1 := by
    intro k q hq
    have hkl : k < wr.length := (List.getElem?_eq_some_iff.mp hq).1
    have hq' : (wr ++ w0)[k]? = some q := by rw [List.getElem?_append_left hkl]; exact hq
    refine ⟨(hP k q hq').lt, ?_⟩
    rintro (⟨j, e, hj⟩ | hj)
    · have hj' : (wr ++ w0)[wr.length + j]? = some (q.1, e) := by rw [List.getElem?_append_right (by omega)]; rw [show wr.length + j - wr.length = j by omega]; exact hj
      have := hD.1 k (wr.length + j) q (q.1, e) hq' hj' rfl
      omega
    · exact absurd (hP k q hq').lt (by omega)
  have split : ∀ (k : Nat) (q : Nat × va_E), (wr ++ w1)[k]? = some q → (k < wr.length ∧ wr[k]? = some q) ∨ (wr.length ≤ k ∧ w1[k - wr.length]? = some q) := by
    intro k q hq
    rcases Nat.lt_or_ge k wr.length with h | h
    · rw [List.getElem?_append_left h] at hq; exact Or.inl ⟨h, hq⟩
    · rw [List.getElem?_append_right h] at hq; exact Or.inr ⟨h, hq⟩
  refine ⟨fun k q hq => ?_, ⟨fun i j p q hp hq e => ?_, fun k q hq => ?_⟩⟩
  · rcases split k q hq with ⟨h, h'⟩ | ⟨h, h'⟩
    · have h1 := key k q h'
      exact (hP k q (by rw [List.getElem?_append_left h]; exact h')).kept (hk q.1 h1.1 h1.2)
    · exact hP1 _ q h'
  · rcases split i p hp with ⟨hi, hi'⟩ | ⟨hi, hi'⟩ <;> rcases split j q hq with ⟨hj, hj'⟩ | ⟨hj, hj'⟩
    · exact hD.1 i j p q (by rw [List.getElem?_append_left hi]; exact hi') (by rw [List.getElem?_append_left hj]; exact hj') e
    · exact absurd (hD1.2 _ q hj') (by rw [← e]; exact (key i p hi').2)
    · exact absurd (hD1.2 _ p hi') (by rw [e]; exact (key j q hj').2)
    · have := hD1.1 _ _ p q hi' hj' e
      omega
  · rcases split k q hq with ⟨h, h'⟩ | ⟨h, h'⟩
    · exact hD.2 k q (by rw [List.getElem?_append_left h]; exact h')
    · exact hAle _ (hD1.2 _ q h')
theorem free_N {A : Nat → Prop} {wr w0 : va_W} {H0 H : Heap} {locs : List Loc} (hD : va_D A (wr ++ w0)) (hS : va_S A H0 H locs) (hA : ∀ q, H0.size ≤ q → A q) : ∀ q, va_A w0 H.size q → A q := by
  rintro q (⟨k, e, hk⟩ | h)
  · exact hD.2 (wr.length + k) (q, e) (by rw [List.getElem?_append_right (by omega), show wr.length + k - wr.length = k by omega]; exact hk)
  · exact hA q (Nat.le_trans hS.1 h)
theorem last_D {A : Nat → Prop} {wr w0 : va_W} (hD : va_D A (wr ++ w0)) : va_D (fun _ => True) w0 := by
  refine ⟨fun i j p q hp hq e => ?_, fun _ _ _ => trivial⟩
  have := hD.1 (wr.length + i) (wr.length + j) p q (by rw [List.getElem?_append_right (by omega), show wr.length + i - wr.length = i by omega]; exact hp) (by rw [List.getElem?_append_right (by omega), show wr.length + j - wr.length = j by omega]; exact hq) e
  omega
theorem last_P {D : va_G} {wr w0 : va_W} {H : Heap} (hP : va_P D vwCl (wr ++ w0) H) : va_P D vwCl w0 H := fun k q hk => hP (wr.length + k) q (by rw [List.getElem?_append_right (by omega), show wr.length + k - wr.length = k by omega]; exact hk)
section RowsN
variable {p : Program} {l : Launch} {e : Env} {R : Room} {s : State} {m : MethodId} {args : Array Value} {below : List Frame} {meth : Method} {c : Code} {cells slots : Nat} {Q : State → Prop} {ls : Array Slot} {pc : Nat} {rest : List Value} {cc : ByteArray} {nL : Nat} {own : String} {D : va_G} {cy : Nat → ClassId} {A : Nat → Prop} {H0 : Heap} {H : Heap} {locs : List Loc}
theorem c_new {y : MethodName} {ws : List Cond} {rm : Room} {index maxL mc ms b : Nat} {bytes : ByteArray} {st0 : List Value} {wr w0 : va_W} {Q1 : va_W → Prop} (hM : CallFix p m c cc nL s args lw_all own) (hK : KW D cy s) (hO : AO s) (hP : va_P D vwCl (wr ++ w0) H) (hD : va_D A (wr ++ w0)) (hS : va_S A H0 H locs) (hA : ∀ q, H0.size ≤ q → A q) (hC : NI l y ws rm D cy b w0 Q1 mc ms) (cw : CallB R s args own index y bytes maxL none ws rm mc ms 0 ∧ y.name = "<init>" ∧ (Cond.instanceMethod y).before args s = true) (hsz : ls.size = nL) (hst : st0 = .ref b :: rest) (hW : (rest.map fun v => v.category).sum ≤ 8) (hdg : decode cc pc = .ok (.invokespecial index, 3)) (hf : cells + mc ≤ R.cells ∧ slots + ms ≤ R.slots)
    (kk : ∀ w1 : va_W, Q1 w1 → ∀ (H1 : Heap) (locs1 : List Loc), va_P D vwCl (wr ++ w1) H1 → va_D A (wr ++ w1) → va_S A H0 H1 locs1 → W p l e R s m args below meth c H1 locs1 (cells + mc) (slots + ms) Q (F0 m (pc + 3) ls rest)) : W p l e R s m args below meth c H locs cells slots Q (F0 m pc ls st0) := by
  have hF := free_N hD hS hA
  refine va_callv (va_runI (As := []) (rest := rest) hM (hC H.size) cw ⟨PreN_blind, fun U hU hW => ⟨rfl, by rw [hU], by rw [hU]; exact last_P hP, hK.warm hW, hO.moved hW.alike, last_D hD⟩⟩ rfl rfl hsz hst (lv_room hW) hdg hf) hS (fun q _ h => hF q h) hF (fun u t H1 locs1 ht hvm hw hB hz1 hk1 hS1 => ?_)
  rw [ht] at hB
  obtain ⟨h1, h2⟩ := join_P hP hD hF hk1 hB.1 hB.2
  exact kk u hw H1 locs1 h1 h2 hS1
theorem c_newN {y : MethodName} {ws : List Cond} {rm : Room} {index maxL mc ms b : Nat} {bytes : ByteArray} {host : String} {st0 : List Value} {wr w0 : va_W} {Q1 : va_W → Prop} (hM : CallFix p m c cc nL s args lw_all own) (hK : KW D cy s) (hO : AO s) (hP : va_P D vwCl (wr ++ w0) H) (hD : va_D A (wr ++ w0)) (hS : va_S A H0 H locs) (hA : ∀ q, H0.size ≤ q → A q) (hC : NI l y ws rm D cy b w0 Q1 mc ms) (cw : va_CN R s args own index y host bytes maxL none ws rm mc ms 0 ∧ y.name = "<init>" ∧ (Cond.instanceMethod y).before args s = true) (hsz : ls.size = nL) (hst : st0 = .ref b :: rest) (hW : (rest.map fun v => v.category).sum ≤ 8) (hdg : decode cc pc = .ok (.invokespecial index, 3)) (hf : cells + mc ≤ R.cells ∧ slots + ms ≤ R.slots)
    (kk : ∀ w1 : va_W, Q1 w1 → ∀ (H1 : Heap) (locs1 : List Loc), va_P D vwCl (wr ++ w1) H1 → va_D A (wr ++ w1) → va_S A H0 H1 locs1 → W p l e R s m args below meth c H1 locs1 (cells + mc) (slots + ms) Q (F0 m (pc + 3) ls rest)) : W p l e R s m args below meth c H locs cells slots Q (F0 m pc ls st0) := by
  have hF := free_N hD hS hA
  refine va_callv (va_runIN (As := []) (rest := rest) hM (hC H.size) cw ⟨PreN_blind, fun U hU hW => ⟨rfl, by rw [hU], by rw [hU]; exact last_P hP, hK.warm hW, hO.moved hW.alike, last_D hD⟩⟩ rfl rfl hsz hst (lv_room hW) hdg hf) hS (fun q _ h => hF q h) hF (fun u t H1 locs1 ht hvm hw hB hz1 hk1 hS1 => ?_)
  rw [ht] at hB
  obtain ⟨h1, h2⟩ := join_P hP hD hF hk1 hB.1 hB.2
  exact kk u hw H1 locs1 h1 h2 hS1
theorem r_newI {ws : va_W} {n : Int32} {N' : Nat} (hM : CallFix p m c cc nL s args lw_all own) (hK : KW D cy s) (hP : va_P D vwCl ws H) (hD : va_D A ws) (hS : va_S A H0 H locs) (hA : ∀ q, H0.size ≤ q → A q) (harr : Cond.arrayClass .int ∈ lw_all) (hn : ¬ n < 0) (hN : n.toNatClampNeg = N') (hb : N' ≤ 100000) (hcells : cells + 1 ≤ R.cells) (hslots : slots + N' ≤ R.slots) (hdg : decode cc pc = .ok (.newarray .int, 2))
    (kk : ∀ (q : Nat) (H1 : Heap), va_P D vwCl (ws ++ [(q, .inl (cy 0, N', .inl (fun _ => 0)))]) H1 → va_D A (ws ++ [(q, .inl (cy 0, N', .inl (fun _ => 0)))]) → va_S A H0 H1 locs → W p l e R s m args below meth c H1 locs (cells + 1) (slots + N') Q (F0 m (pc + 2) ls (.ref q :: rest))) : W p l e R s m args below meth c H locs cells slots Q (F0 m pc ls (.int n :: rest)) := by
  refine va_newa (a0 := (N', .inl (fun _ => 0))) (atype := .int) (ty := .int) hM.1 hM.2.1 (hM.2.2.2.2 _ harr) rfl hK.1 hP hD hS hA (fun cA => rfl) hn hN (by show N' * 4 ≤ _; omega) hcells hslots hdg (fun q cA H1 hK1 hP1 hD1 hS1 => ?_)
  have e1 := (hK1.2 0 (cy 0, .int) rfl).2
  have e2 := (hK1.2 4 (cA, .int) rfl).2
  have e3 : cA = cy 0 := Option.some.inj (Eq.trans (Eq.symm e2) e1)
  subst e3
  exact kk q H1 hP1 hD1 hS1
theorem r_newC {ws : va_W} {n : Int32} {N' : Nat} (hM : CallFix p m c cc nL s args lw_all own) (hK : KW D cy s) (hP : va_P D vwCl ws H) (hD : va_D A ws) (hS : va_S A H0 H locs) (hA : ∀ q, H0.size ≤ q → A q) (harr : Cond.arrayClass .char ∈ lw_all) (hn : ¬ n < 0) (hN : n.toNatClampNeg = N') (hb : N' ≤ 100000) (hcells : cells + 1 ≤ R.cells) (hslots : slots + N' ≤ R.slots) (hdg : decode cc pc = .ok (.newarray .char, 2))
    (kk : ∀ (q : Nat) (H1 : Heap), va_P D vwCl (ws ++ [(q, .inl (cy 1, N', .inl (fun _ => 0)))]) H1 → va_D A (ws ++ [(q, .inl (cy 1, N', .inl (fun _ => 0)))]) → va_S A H0 H1 locs → W p l e R s m args below meth c H1 locs (cells + 1) (slots + N') Q (F0 m (pc + 2) ls (.ref q :: rest))) : W p l e R s m args below meth c H locs cells slots Q (F0 m pc ls (.int n :: rest)) := by
  refine va_newa (a0 := (N', .inl (fun _ => 0))) (atype := .char) (ty := .char) hM.1 hM.2.1 (hM.2.2.2.2 _ harr) rfl hK.1 hP hD hS hA (fun cA => rfl) hn hN (by show N' * 2 ≤ _; omega) hcells hslots hdg (fun q cA H1 hK1 hP1 hD1 hS1 => ?_)
  have e1 := (hK1.2 1 (cy 1, .char) rfl).2
  have e2 := (hK1.2 4 (cA, .char) rfl).2
  have e3 : cA = cy 1 := Option.some.inj (Eq.trans (Eq.symm e2) e1)
  subst e3
  exact kk q H1 hP1 hD1 hS1
theorem r_newQ {ws : va_W} {n : Int32} {N' index t0 : Nat} {C : String} (hM : CallFix p m c cc nL s args lw_all own) (hK : KW D cy s) (hP : va_P D vwCl ws H) (hD : va_D A ws) (hS : va_S A H0 H locs) (hA : ∀ q, H0.size ≤ q → A q) (hlink : Cond.classLink own index C ∈ lw_all) (ho : va_AO C s) (ht : (tyK cy)[t0]? = some (cy t0, .object C)) (hn : ¬ n < 0) (hN : n.toNatClampNeg = N') (hb : N' ≤ 100000) (hcells : cells + 1 ≤ R.cells) (hslots : slots + N' ≤ R.slots) (hdg : decode cc pc = .ok (.anewarray index, 3))
    (kk : ∀ (q : Nat) (H1 : Heap), va_P D vwCl (ws ++ [(q, .inl (cy t0, N', .inr (.inr (.inr (.inr (fun _ => none))))))]) H1 → va_D A (ws ++ [(q, .inl (cy t0, N', .inr (.inr (.inr (.inr (fun _ => none))))))]) → va_S A H0 H1 locs → W p l e R s m args below meth c H1 locs (cells + 1) (slots + N') Q (F0 m (pc + 3) ls (.ref q :: rest))) : W p l e R s m args below meth c H locs cells slots Q (F0 m pc ls (.int n :: rest)) := by
  refine va_newq hM.1 hM.2.1 hM.2.2.2.1 (hM.2.2.2.2 _ hlink) ho hK.1 hP hD hS hA hn hN (by omega) hcells hslots hdg (fun q cA H1 hK1 hP1 hD1 hS1 => ?_)
  have hlt : t0 < (tyK cy).length := (List.getElem?_eq_some_iff.mp ht).1
  obtain ⟨-, -, -, -, -, e1⟩ := (hK1.2 t0 (cy t0, .object C) (by rw [List.getElem?_append_left hlt]; exact ht)).2
  obtain ⟨-, -, -, -, -, e2⟩ := (hK1.2 4 (cA, .object C) rfl).2
  have e3 : cA = cy t0 := Option.some.inj (Eq.trans (Eq.symm e2) e1)
  subst e3
  exact kk q H1 hP1 hD1 hS1
theorem e_N {w0 w1 : va_W} {sz : Nat} {Qn : va_W → Prop} (hM : CallFix p m c cc nL s args lw_all own) (hP : va_P D vwCl w1 H) (hD : va_D (va_A w0 sz) w1) (hS : va_S (va_A w0 sz) s.heap H locs) (hlocks : meth.locks = false) (hret : meth.sig.returnType = none) (hq : Qn w1) (hdg : decode cc pc = .ok (.return_, 1)) : W p l e R s m args below meth c H locs cells slots (MQ below (va_Qv (fun w1 : va_W => Qn w1) (fun w1 t => va_P D vwCl w1 t.heap ∧ va_D (va_A w0 sz) w1) (va_A w0 sz)) args s cells slots (va_A w0 sz)) (F0 m pc ls []) :=
  W.vret hM.1 hM.2.1 hret (fun t ht hW => ⟨⟨w1, rfl, hq, by show va_P D vwCl w1 t.heap ∧ _; rw [ht]; exact ⟨hP, hD⟩⟩, hS.F ht⟩) hS.2.2 hdg hlocks
end RowsN
theorem mkN {l : Launch} {y : MethodName} {cc : ByteArray} {maxL mc ms : Nat} {rm : Room} {D : va_G} {cy : Nat → ClassId} {w0 : va_W} {b sz : Nat} {Qc : Array Value → State → Outcome → State → Prop} {own : String} (hy : plainName y.cls = true) (hcl : y.cls = own) (hlv : 1 ≤ maxL)
    (body : ∀ (p : Program) (e : Env) (s : State) (m : MethodId) (below : List Frame) (meth : Method) (c : Code) (ls : Array Slot), s.heap.size = sz → CallFix p m c cc maxL s #[.ref b] lw_all own → meth.locks = false → meth.sig.returnType = none → meth.name = y.name → KW D cy s → AO s → (∀ q, s.heap.size ≤ q → va_A w0 sz q) → va_P D vwCl w0 s.heap → va_D (va_A w0 sz) w0 → va_S (va_A w0 sz) s.heap s.heap [] → lv_has ls maxL [(0, .ref b)] → W p l e rm s m #[.ref b] below meth c s.heap [] 0 0 (MQ below Qc #[.ref b] s mc ms (va_A w0 sz)) (F0 m 0 ls [])) : Met l y (wA y cc maxL none) rm (va_Pc [.ref b] (PreN D cy w0 sz)) Qc mc ms (va_A w0 sz) := by
  refine Met.ofW (cc := cc) (maxL := maxL) (ret := none) hy rfl ?_
  intro p e s m args below meth c s₁ B hml hv
  obtain ⟨rfl, hsz, hP, hK, hO, hD⟩ := hv
  have hts : ∀ w ∈ lw_all, w.before #[.ref b] s = true := fun w hw => atoms_spec (ws := wA y cc maxL none) B.pre w (List.mem_cons_of_mem _ hw)
  have hown : s.vm.findClass own = some m.cls := by rw [← hcl]; exact findClass_of_methodNamed B.named
  have hl := lv_entry [.ref b] (n := maxL) hlv
  have hl : lv_has _ maxL [(0, .ref b)] := hl
  show W p l e rm s m ([.ref b] : List Value).toArray below meth c s.heap [] 0 0 _ (entryFrame m ([.ref b] : List Value).toArray maxL)
  rw [lg_entry_eq]
  exact body p e s m below meth c _ hsz ⟨B.exec, B.bytes, hml, hown, hts⟩ B.notSynchronized B.returns (name_of_methodNamed B.named B.method).1 hK hO (fun q h => Or.inr (by rw [← hsz]; exact h)) hP hD.self va_S.rf hl
