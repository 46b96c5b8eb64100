section
/-! ===== BEGIN words of one list among another's, by their places ===== -/
theorem goodIn_r {big : List Cond} (ws : List Cond) (ps : List Nat) (hp : ws = ps.filterMap (fun i => big[i]?)) (h : ws.all goodWord = true) : GoodIn big ws := by
  intro w hw
  have h1 := List.all_eq_true.mp h w hw
  rw [hp] at hw
  obtain ⟨i, -, hi⟩ := List.mem_filterMap.mp hw
  have hm : w ∈ big := by first | exact List.mem_of_getElem? hi | exact List.getElem?_mem hi
  exact ⟨hm, good_of_word h1⟩
theorem goodIn_app {big a b : List Cond} (ha : GoodIn big a) (hb : GoodIn big b) : GoodIn big (a ++ b) := fun w h => (List.mem_append.mp h).elim (ha w) (hb w)
theorem goodIn_ca {big a b : List Cond} {c : Cond} (ha : GoodIn big (c :: a)) (hb : GoodIn big b) : GoodIn big (c :: (a ++ b)) := fun w h => (List.mem_cons.mp h).elim (fun e => ha w (List.mem_cons.mpr (Or.inl e))) (fun h => (List.mem_append.mp h).elim (fun h => ha w (List.mem_cons.mpr (Or.inr h))) (hb w))
theorem goodIn_sub {big ws : List Cond} (hm : ∀ w ∈ ws, w ∈ big) (h : ws.all goodWord = true) : GoodIn big ws := fun w hw => ⟨hm w hw, good_of_word (List.all_eq_true.mp h w hw)⟩
/-! ===== END ===== -/

/-! ===== BEGIN exceptions that leave a method, and their catching by the caller (launches without stack traces) ===== -/
section VXA
/-! The laws vx_back, vx_callV, vx_callS, vx_callSW, vx_throw0, vx_throwS follow proofs of the library, with one case more: JvmDerived/Free/Laws.lean (Back.of_free), Shelf42/LK1.lean (callV, callS), Shelf/KitTraced.lean (throwNew0V, throwNewS). -/
/-- where a method has thrown q: the class by its name, the cell, what was written, the world -/
def vx_T (XC : String → State → State → Prop) (st : State) (q : Addr) (t : State) (mc ms : Nat) (free : Addr → Prop) : Prop :=
  ∃ (E : String) (ce : Cell) (L : List Loc), XC E st t ∧ t.heap[q]? = some ce ∧ ce.vm = .none ∧ st.vm.findClass E = some ce.cls ∧ st.WarmedH t.vm ∧ st.sameButNew ({ t with vm := st.vm } : State) L mc ms ∧ ∀ z ∈ L, free z.base
def vx_Q (Qc : Array Value → State → Outcome → State → Prop) (XC : String → State → State → Prop) (mc ms : Nat) (free : Addr → Prop) : Array Value → State → Outcome → State → Prop := fun a st o t =>
  (Qc a st o t ∧ ∃ L, FrameEnd st o t L mc ms ∧ ∀ q ∈ L, free q.base) ∨ ∃ q, o = .threw q ∧ vx_T XC st q t mc ms free
/-- a callee that returns or throws -/
def vx_Met (l : Launch) (y : MethodName) (ws : List Cond) (rm : Room) (Pc : Array Value → State → Prop) (Qc : Array Value → State → Outcome → State → Prop) (XC : String → State → State → Prop) (mc ms : Nat) (free : Addr → Prop) : Prop :=
  MetFree l y (headSpec ws rm) Pc (fun _ _ _ _ _ => True) (vx_Q Qc XC mc ms free)
def vx_Post (XC : String → State → State → Prop) (mc ms : Nat) (free : Addr → Prop) : Pt → Array Value → Addr → Pt → Prop := fun A a q B =>
  ∃ (g : JFrame) (mk : MethodId) (t : State) (L : List Loc) (E : String) (ce : Cell), B.U.heap = t.heap ∧ B.U.vm = t.vm ∧ XC E (A.U.calling g mk a) t ∧ t.heap[q]? = some ce ∧ ce.vm = .none ∧ A.U.vm.findClass E = some ce.cls ∧ B.locs = A.locs ++ L ∧ (∀ z ∈ L, free z.base) ∧ B.cells = A.cells + mc ∧ B.slots = A.slots + ms
def vx_Back (l : Launch) (R : Room) (p : Program) (e : Env) (below : List Frame) (s : State) (sargs : Array Value) (y : MethodName) (len W9 : Nat)
    (Pre : Pt → Array Value → Prop) (Post : Pt → Array Value → Option Value → Pt → Prop) (PostX : Pt → Array Value → Addr → Pt → Prop) : Prop :=
  ∀ (m : MethodId) (meth : Method) (c : Code) (A : Pt) (g : JFrame) (ig : Instr) (mk : MethodId) (a : Array Value),
    Stand p l e R s m sargs below meth c A.U A.locs A.cells A.slots → g.method = m → g.locals.size = c.maxLocals → decode c.code g.pc = .ok (ig, len) →
    2 * g.monitorRoom + (g.stack.map fun v => v.category).sum ≤ W9 → A.U.methodNamed? y = some mk → Pre A a →
    (∃ (v : Option Value) (B : Pt), Stand p l e R s m sargs below meth c B.U B.locs B.cells B.slots ∧ Post A a v B ∧
      Steps p.tables e below (doInvoke e (A.U.setTop g) [] mk a).1 (B.U.setTop { g with pc := g.pc + len, stack := v.toList ++ g.stack })) ∨
    (∃ (q : Addr) (B : Pt), Stand p l e R s m sargs below meth c B.U B.locs B.cells B.slots ∧ PostX A a q B ∧
      Steps p.tables e below (doInvoke e (A.U.setTop g) [] mk a).1 ((B.U.setTop g).pushFrame (.throwing q)))
section Payer
variable {l : Launch} {R : Room} {p : Program} {e : Env} {below : List Frame} {s : State} {sargs : Array Value} {y : MethodName} {len W9 : Nat}
theorem vx_back {ws : List Cond} {rm : Room} {Pc : Array Value → State → Prop} {Qc : Array Value → State → Outcome → State → Prop} {XC : String → State → State → Prop} {mc ms : Nat} {free : Addr → Prop} {bytes : ByteArray} {maxL : Nat} {ret : Option FieldType}
    (hM : vx_Met l y ws rm Pc Qc XC mc ms free) (hblind : FrameBlind Pc) (hrc : rm.cells = mc) (hrs : rm.slots = ms)
    (hframes : rm.frames + 1 ≤ R.frames) (hlocals : W9 + (maxL + 11) + rm.locals ≤ R.locals)
    (hws : ∀ w ∈ ws, ∀ a' U, s.WarmedH U.vm → w.before a' U = true) (hcode : Cond.code y bytes maxL ret ∈ ws) (hinit : ∀ a' U, s.WarmedH U.vm → (Cond.initialized y.cls).before a' U = true) :
    vx_Back l R p e below s sargs y len W9 (PreOf R mc ms Pc) (PostOf Qc mc ms free) (vx_Post XC mc ms free) := by
  intro m meth c A g ig mk a X hg hsize hdg hW hn hp
  have h1 : (headSpec ws rm).pre.before a A.U = true := atoms_intro fun w hw => hws w hw _ _ X.warmed
  have h2 : (Cond.code y bytes maxL ret).before a A.U = true := hws _ hcode _ _ X.warmed
  have h3 : (Cond.initialized y.cls).before a A.U = true := hinit _ _ X.warmed
  have h4 : A.cells + (headSpec ws rm).room.cells ≤ R.cells := by rw [show (headSpec ws rm).room.cells = mc from hrc]; exact hp.1
  have h5 : A.slots + (headSpec ws rm).room.slots ≤ R.slots := by rw [show (headSpec ws rm).room.slots = ms from hrs]; exact hp.2.1
  have hPc : Pc a (A.U.calling g mk a) := hblind _ _ _ _ hp.2.2
  obtain ⟨U, Ls, c0, s0⟩ := A
  dsimp only [Pt.U, Pt.locs, Pt.cells, Pt.slots] at h1 h2 h3 h4 h5 X hn hPc ⊢
  obtain ⟨methY, cY, hmY, hcY, -, hlY, -, -, -, -⟩ := Cond.code_spec hn h2
  obtain ⟨kY, hkY, -⟩ := className_of_methodNamed hn
  have hinitY : kY.init = .initialized := Cond.initialized_spec (findClass_of_methodNamed hn) hkY h3
  have h : At U g.method c below := by rw [hg]; exact X.here
  have hlocals9 : W9 + (maxL + 11) + (headSpec ws rm).room.locals ≤ R.locals := hlocals
  have happ : (headSpec ws rm).appliesLoose y e.platform (U.calling g mk a) = true :=
    Spec.appliesLoose_calling (g := g) h hdg hn hkY hinitY
      (X.room_calling (g := g) (R' := (headSpec ws rm).room) hsize hmY hcY hframes (by rw [hlY]; omega) h4 h5) h1
  obtain ⟨mid, hmid⟩ := h.above
  have hfr : (U.setTop g).frames = (.java g :: mid) ++ below := by rw [State.frames_setTop' g h.top, hmid]; rfl
  obtain ⟨o, s₂, hsteps, -, hend, hq⟩ := Steps.callFree hM p X.admits X.cas X.clock (acts := []) hfr happ hPc trivial
  have hq' : vx_Q Qc XC mc ms free a (U.calling g mk a) o s₂ := hq
  rw [State.frames_setTop' g h.top] at hend
  obtain ⟨g₀, hg0⟩ := Option.isSome_iff_exists.mp h.top
  obtain ⟨r, hr⟩ := State.topJava?_eq_some.mp hg0
  have hr' : (({ U with heap := s₂.heap, slotsUsed := s₂.slotsUsed } : State).setVm s₂.vm).frames = .java g₀ :: r := hr
  rcases hq' with ⟨hqc, L, hfe, hL⟩ | ⟨q, rfl, E, ce, L, hx, hce, hcv, hcl, hW₂, hsm, hL⟩
  · obtain ⟨⟨v, rfl⟩, hW₂, e2, q2, q3, q4, q5, q6⟩ := id hfe
    have e3 : s₂ = ({ (U.calling g mk a).setFrames s₂.frames with heap := s₂.heap, slotsUsed := s₂.slotsUsed } : State).setVm s₂.vm := by
      have : s₂ = ({ s₂ with vm := (U.calling g mk a).vm } : State).setVm s₂.vm := rfl
      rw [e2] at this
      exact this
    obtain ⟨c₂, i₂, len₂, hc₂, hd₂, hf₂⟩ := hend
    have hW' : U.WarmedH s₂.vm := hW₂
    have hcc : c₂ = c := by
      have h1 : s₂.code? g.method = U.code? g.method := by
        rw [State.code?_eq, State.code?_eq, hW'.alike.method?]
      exact Option.some.inj (hc₂.symm.trans (h1.trans h.code))
    subst hcc
    have hlen : len₂ = len := by rw [hdg] at hd₂; cases hd₂; rfl
    subst hlen
    have hs₂ : s₂ = (({ U with heap := s₂.heap, slotsUsed := s₂.slotsUsed } : State).setVm s₂.vm).setTop { g with pc := g.pc + len₂, stack := v.toList ++ g.stack } := by
      refine e3.trans ?_
      rw [hf₂, State.calling_eq h.top, State.setFrames_setFrames, State.setTop_of_frames _ hr', hr]
      rfl
    have hsame : U.sameButNew ({ U with heap := s₂.heap, slotsUsed := s₂.slotsUsed } : State) L mc ms := by
      refine ⟨?_, q2, q3, q4, q5, q6⟩
      obtain ⟨t, ht, -⟩ := State.frames_cons hr
      show ({ U with heap := s₂.heap, slotsUsed := s₂.slotsUsed } : State) = { U.setFrames U.frames with heap := s₂.heap, slotsUsed := s₂.slotsUsed }
      rw [State.setFrames_self ht]
    subst hg
    refine Or.inl ⟨v, ⟨(({ U with heap := s₂.heap, slotsUsed := s₂.slotsUsed } : State).setVm s₂.vm), Ls ++ L, c0 + mc, s0 + ms⟩,
      ⟨X.admits, X.cas, X.clock, X.frames, X.room, X.hears, X.method, X.code, (X.here.setHeapUsed s₂.heap s₂.slotsUsed).setVm hW'.alike, X.tail, State.WarmedH.trans X.warmed hW', X.limits, X.bytes, X.same.trans (hsame.setVm s.vm)⟩,
      ⟨g, mk, s₂, L, rfl, rfl, hqc, rfl, hL, rfl, rfl⟩, ?_⟩
    show Steps p.tables e below _ ((({ U with heap := s₂.heap, slotsUsed := s₂.slotsUsed } : State).setVm s₂.vm).setTop { g with pc := g.pc + len₂, stack := v.toList ++ g.stack })
    rw [← hs₂]
    exact hsteps
  · obtain ⟨e2, q2, q3, q4, q5, q6⟩ := id hsm
    have e3 : s₂ = ({ (U.calling g mk a).setFrames s₂.frames with heap := s₂.heap, slotsUsed := s₂.slotsUsed } : State).setVm s₂.vm := by
      have : s₂ = ({ s₂ with vm := (U.calling g mk a).vm } : State).setVm s₂.vm := rfl
      rw [e2] at this
      exact this
    have hf₂ : s₂.frames = .throwing q :: .java g :: U.frames.tail := hend
    have hW' : U.WarmedH s₂.vm := hW₂
    have hs₂ : s₂ = ((({ U with heap := s₂.heap, slotsUsed := s₂.slotsUsed } : State).setVm s₂.vm).setTop g).pushFrame (.throwing q) := by
      refine e3.trans ?_
      rw [hf₂, State.calling_eq h.top, State.setFrames_setFrames, State.pushFrame, State.frames_setTop _ hr', State.setTop_of_frames _ hr', State.setFrames_setFrames, hr]
      rfl
    have hsame : U.sameButNew ({ U with heap := s₂.heap, slotsUsed := s₂.slotsUsed } : State) L mc ms := by
      refine ⟨?_, q2, q3, q4, q5, q6⟩
      obtain ⟨t, ht, -⟩ := State.frames_cons hr
      show ({ U with heap := s₂.heap, slotsUsed := s₂.slotsUsed } : State) = { U.setFrames U.frames with heap := s₂.heap, slotsUsed := s₂.slotsUsed }
      rw [State.setFrames_self ht]
    subst hg
    refine Or.inr ⟨q, ⟨(({ U with heap := s₂.heap, slotsUsed := s₂.slotsUsed } : State).setVm s₂.vm), Ls ++ L, c0 + mc, s0 + ms⟩,
      ⟨X.admits, X.cas, X.clock, X.frames, X.room, X.hears, X.method, X.code, (X.here.setHeapUsed s₂.heap s₂.slotsUsed).setVm hW'.alike, X.tail, State.WarmedH.trans X.warmed hW', X.limits, X.bytes, X.same.trans (hsame.setVm s.vm)⟩,
      ⟨g, mk, s₂, L, E, ce, rfl, rfl, hx, hce, hcv, hcl, rfl, hL, rfl, rfl⟩, ?_⟩
    show Steps p.tables e below _ (((({ U with heap := s₂.heap, slotsUsed := s₂.slotsUsed } : State).setVm s₂.vm).setTop g).pushFrame (.throwing q))
    rw [← hs₂]
    exact hsteps
end Payer
section Calls
variable {p : Program} {l : Launch} {e : Env} {R : Room} {s : State} {m : MethodId} {args : Array Value} {below : List Frame} {meth : Method} {c : Code} {T : State} {locs : List Loc} {cells slots : Nat}
theorem vx_callV (X : Stand p l e R s m args below meth c T locs cells slots) (hexec : p.tables.exec = Jvm.exec) {own C : String} {index : Nat} {y : MethodName} {bytes : ByteArray} {maxL : Nat} {ret : Option FieldType}
    (hown : s.vm.findClass own = some m.cls) (hlink : (Cond.methodLink own index y).before args s = true) (hinst : (Cond.instanceMethod y).before args s = true) (hsel : (Cond.selects C y y).before args s = true)
    (hcode : (Cond.code y bytes maxL ret).before args s = true) (hy : y.cls ≠ "java/lang/invoke/MethodHandle" ∧ y.cls ≠ "java/lang/invoke/VarHandle")
    {W9 : Nat} {Pre : Pt → Array Value → Prop} {Post : Pt → Array Value → Option Value → Pt → Prop} {PostX : Pt → Array Value → Addr → Pt → Prop} (hK : vx_Back l R p e below s args y 3 W9 Pre Post PostX)
    {b : Addr} {cellB : Cell} (hcell : T.heap[b]? = some cellB) (hobj : cellB.vm.isStatics = false) (hcls : s.vm.findClass C = some cellB.cls)
    {g : JFrame} (hg : g.method = m) (hsize : g.locals.size = c.maxLocals) {argsL rest : List Value} (hlen : ∀ sig, parseMethodDescriptor y.desc = some sig → argsL.length = sig.parameters.length)
    (hstack : g.stack = argsL.reverse ++ .ref b :: rest) (hW : 2 * g.monitorRoom + (rest.map fun v => v.category).sum ≤ W9) (hdg : decode c.code g.pc = .ok (.invokevirtual index, 3))
    (hpre : ∀ vm₁, s.WarmedH vm₁ → Pre ⟨T.setVm vm₁, locs, cells, slots⟩ (Value.ref b :: argsL).toArray) :
    (∃ (v : Option Value) (vm₁ : Vm) (B : Pt), s.WarmedH vm₁ ∧ Stand p l e R s m args below meth c B.U B.locs B.cells B.slots ∧ Post ⟨T.setVm vm₁, locs, cells, slots⟩ (Value.ref b :: argsL).toArray v B ∧
      ∀ target, Steps p.tables e below (B.U.setTop { g with pc := g.pc + 3, stack := v.toList ++ rest }) target → Steps p.tables e below (T.setTop g) target) ∨
    (∃ (q : Addr) (vm₁ : Vm) (B : Pt), s.WarmedH vm₁ ∧ Stand p l e R s m args below meth c B.U B.locs B.cells B.slots ∧ PostX ⟨T.setVm vm₁, locs, cells, slots⟩ (Value.ref b :: argsL).toArray q B ∧
      Steps p.tables e below (T.setTop g) ((B.U.setTop { g with stack := rest }).pushFrame (.throwing q))) := by
  obtain ⟨mk, methM, hnamed, hmethM, hstM, habM⟩ := Cond.instanceMethod_spec hinst
  obtain ⟨methM', cM, hmethM', -, -, -, -, -, -, hsigM⟩ := Cond.code_spec hnamed hcode
  cases hmethM.symm.trans hmethM'
  obtain ⟨c2, r2, m2, q1, q2, q3, q4, kP, hkP, hkPi⟩ := Cond.selects_spec hsel
  cases hcls.symm.trans q1
  cases (State.methodFound?_of_named hnamed hy).symm.trans q2
  cases hnamed.symm.trans q3
  have hselP : selectMethod e.platform s.vm cellB.cls mk = .method mk := by rw [Launch.admits_selectMethod X.admits]; exact q4
  obtain ⟨vm₁, X₁, hstep₁⟩ := X.invokevirtual hexec hown hlink hnamed hmethM hstM hkP hkPi hy (a := b) (cell := cellB) hcell
    (fun z h => by rw [h] at hobj; cases hobj) hselP hmethM habM hkP hkPi (g := g) hg (argsL := argsL) (rest := rest) (hlen _ hsigM) hstack hdg
  rcases hK m meth c ⟨T.setVm vm₁, locs, cells, slots⟩ { g with stack := rest } (.invokevirtual index) mk (Value.ref b :: argsL).toArray X₁ hg hsize hdg hW (X₁.named hnamed) (hpre vm₁ X₁.warmed) with ⟨v, B, X', hpost, hsteps⟩ | ⟨q, B, X', hpost, hsteps⟩
  · exact Or.inl ⟨v, vm₁, B, X₁.warmed, X', hpost, fun target h => hstep₁ _ fun acts => by rw [doInvoke_state]; exact hsteps.trans h⟩
  · exact Or.inr ⟨q, vm₁, B, X₁.warmed, X', hpost, hstep₁ _ fun acts => by rw [doInvoke_state]; exact hsteps⟩
theorem vx_callS (X : Stand p l e R s m args below meth c T locs cells slots) (hexec : p.tables.exec = Jvm.exec) {own : String} {index : Nat} {y : MethodName} {bytes : ByteArray} {maxL : Nat} {ret : Option FieldType}
    (hown : s.vm.findClass own = some m.cls) (hlink : (Cond.methodLink own index y).before args s = true) (hstat : (Cond.static y).before args s = true) (hinit : (Cond.initialized y.cls).before args s = true)
    (hcode : (Cond.code y bytes maxL ret).before args s = true) (hy : y.cls ≠ "java/lang/invoke/MethodHandle" ∧ y.cls ≠ "java/lang/invoke/VarHandle")
    {W9 : Nat} {Pre : Pt → Array Value → Prop} {Post : Pt → Array Value → Option Value → Pt → Prop} {PostX : Pt → Array Value → Addr → Pt → Prop} (hK : vx_Back l R p e below s args y 3 W9 Pre Post PostX)
    {g : JFrame} (hg : g.method = m) (hsize : g.locals.size = c.maxLocals) {argsL rest : List Value} (hlen : ∀ sig, parseMethodDescriptor y.desc = some sig → argsL.length = sig.parameters.length)
    (hstack : g.stack = argsL.reverse ++ rest) (hW : 2 * g.monitorRoom + (rest.map fun v => v.category).sum ≤ W9) (hdg : decode c.code g.pc = .ok (.invokestatic index, 3))
    (hpre : ∀ vm₁, s.WarmedH vm₁ → Pre ⟨T.setVm vm₁, locs, cells, slots⟩ argsL.toArray) :
    (∃ (v : Option Value) (vm₁ : Vm) (B : Pt), s.WarmedH vm₁ ∧ Stand p l e R s m args below meth c B.U B.locs B.cells B.slots ∧ Post ⟨T.setVm vm₁, locs, cells, slots⟩ argsL.toArray v B ∧
      ∀ target, Steps p.tables e below (B.U.setTop { g with pc := g.pc + 3, stack := v.toList ++ rest }) target → Steps p.tables e below (T.setTop g) target) ∨
    (∃ (q : Addr) (vm₁ : Vm) (B : Pt), s.WarmedH vm₁ ∧ Stand p l e R s m args below meth c B.U B.locs B.cells B.slots ∧ PostX ⟨T.setVm vm₁, locs, cells, slots⟩ argsL.toArray q B ∧
      Steps p.tables e below (T.setTop g) ((B.U.setTop { g with stack := rest }).pushFrame (.throwing q))) := by
  obtain ⟨mk, hnamed⟩ := Cond.code_named hcode
  obtain ⟨methM, cM, hmethM, -, -, -, -, -, -, hsigM⟩ := Cond.code_spec hnamed hcode
  have hstatic : methM.isStatic = true := Cond.static_spec hnamed hmethM hstat
  obtain ⟨kP, hkP, -⟩ := className_of_methodNamed hnamed
  have hinitP : kP.init = .initialized := Cond.initialized_spec (findClass_of_methodNamed hnamed) hkP hinit
  obtain ⟨vm₁, X₁, hstep₁⟩ := X.invokestatic hexec hown hlink hnamed hmethM hstatic hkP hinitP hy (g := g) hg (argsL := argsL) (rest := rest) (hlen _ hsigM) hstack hdg
  rcases hK m meth c ⟨T.setVm vm₁, locs, cells, slots⟩ { g with stack := rest } (.invokestatic index) mk argsL.toArray X₁ hg hsize hdg hW (X₁.named hnamed) (hpre vm₁ X₁.warmed) with ⟨v, B, X', hpost, hsteps⟩ | ⟨q, B, X', hpost, hsteps⟩
  · exact Or.inl ⟨v, vm₁, B, X₁.warmed, X', hpost, fun target h => hstep₁ _ fun acts => by rw [doInvoke_state]; exact hsteps.trans h⟩
  · exact Or.inr ⟨q, vm₁, B, X₁.warmed, X', hpost, hstep₁ _ fun acts => by rw [doInvoke_state]; exact hsteps⟩
end Calls
theorem vx_cls {s : State} {T : State} {vm₁ : Vm} {E : String} {k : ClassId} (hW : s.WarmedH vm₁) (h : (T.setVm vm₁).vm.findClass E = some k) : s.vm.findClass E = some k := by
  have h1 : vm₁.findClass E = some k := h
  rw [hW.alike.findClass] at h1
  exact h1
/-- the method's frame g, with q thrown over it -/
def vx_W (p : Program) (l : Launch) (e : Env) (R : Room) (s : State) (m : MethodId) (args : Array Value) (below : List Frame) (meth : Method) (c : Code) (H : Heap) (locs : List Loc) (cells slots : Nat) (Q : State → Prop) (g : JFrame) (q : Addr) : Prop :=
  ∀ T : State, T.heap = H → Stand p l e R s m args below meth c T locs cells slots → ∃ t, Steps p.tables e below ((T.setTop g).pushFrame (.throwing q)) t ∧ Q t
def vx_Run (p : Program) (l : Launch) (e : Env) (R : Room) (s : State) (m : MethodId) (args : Array Value) (below : List Frame) (meth : Method) (c : Code) (H : Heap) (locs : List Loc) (cells slots mc ms : Nat) (g : JFrame) (rest : List Value) (Qa : State → Outcome → State → Prop) (XC : String → State → State → Prop) (free : Addr → Prop) : Prop :=
  ∀ T : State, T.heap = H → Stand p l e R s m args below meth c T locs cells slots →
    (∃ (v : Option Value) (st₀ t T' : State) (L : List Loc), st₀.heap = H ∧ Stand p l e R s m args below meth c T' (locs ++ L) (cells + mc) (slots + ms) ∧ (∀ q ∈ L, free q.base) ∧ T'.heap = t.heap ∧ T'.vm = t.vm ∧ Qa st₀ (.returned v) t ∧
      Goes p e below T g T' { g with pc := g.pc + 3, stack := v.toList ++ rest }) ∨
    (∃ (q : Addr) (st₀ t T' : State) (L : List Loc) (E : String) (ce : Cell), st₀.heap = H ∧ Stand p l e R s m args below meth c T' (locs ++ L) (cells + mc) (slots + ms) ∧ (∀ z ∈ L, free z.base) ∧ T'.heap = t.heap ∧ T'.vm = t.vm ∧ XC E st₀ t ∧ t.heap[q]? = some ce ∧ ce.vm = .none ∧ s.vm.findClass E = some ce.cls ∧
      Steps p.tables e below (T.setTop g) ((T'.setTop { g with stack := rest }).pushFrame (.throwing q)))
def vx_X {S : Type} (px : S → Prop) (B : String → S → State → Prop) (A : Nat → Prop) : String → State → State → Prop := fun E st t => ∃ u : S, px u ∧ B E u t ∧ va_F A st t
section Runs
variable {p : Program} {l : Launch} {e : Env} {R : Room} {s : State} {m : MethodId} {args : Array Value} {below : List Frame} {meth : Method} {c : Code} {H : Heap} {locs : List Loc} {cells slots : Nat}
variable {y : MethodName} {bytes cc : ByteArray} {maxL nL mc ms n index : Nat} {ret : Option FieldType} {ws : List Cond} {rm : Room} {Pc : Array Value → State → Prop} {Qc : Array Value → State → Outcome → State → Prop} {XC : String → State → State → Prop} {free : Addr → Prop} {Ts : List Cond} {own C : String} {b : Addr} {As rest : List Value} {g : JFrame}
theorem vx_callBack (cb : CallB R s args own index y bytes maxL ret ws rm mc ms n) (hM : vx_Met l y ws rm Pc Qc XC mc ms free) (hbl : FrameBlind Pc) : vx_Back l R p e below s args y 3 8 (PreOf R mc ms Pc) (PostOf Qc mc ms free) (vx_Post XC mc ms free) := by
  obtain ⟨hrc, hrs, hfr, hlo, hws, hcw, -, hini, -⟩ := cb
  exact vx_back (bytes := bytes) (maxL := maxL) (ret := ret) hM hbl hrc hrs hfr hlo hws hcw (fun a' U hW => word_at hW (Or.inl (by first | rfl | simp [Cond.onTables, Cond.keeps, Cond.steady])) hini)
theorem vx_runV (S : CallFix p m c cc nL s args Ts own) (hM : vx_Met l y ws rm Pc Qc XC mc ms free) (cw : CallW R s args own C index y bytes maxL ret ws rm mc ms n) (hp : PreV s H C b Pc As)
    (hg : g.method = m) (hn : As.length = n) (hsize : g.locals.size = nL) (hstack : g.stack = As.reverse ++ .ref b :: rest) (hW : 2 * g.monitorRoom + (rest.map fun v => v.category).sum ≤ 8) (hdg : decode cc g.pc = .ok (.invokevirtual index, 3)) (hf : cells + mc ≤ R.cells ∧ slots + ms ≤ R.slots) :
    vx_Run p l e R s m args below meth c H locs cells slots mc ms g rest (Qc (Value.ref b :: As).toArray) XC free := by
  have hK : vx_Back l R p e below s args y 3 8 (PreOf R mc ms Pc) (PostOf Qc mc ms free) (vx_Post XC mc ms free) := vx_callBack cw.1 hM hp.1
  obtain ⟨⟨-, -, -, -, -, -, hcode, -, hy, hlen, hl⟩, hin, hse⟩ := cw
  obtain ⟨hx, hb, hml, ho, -⟩ := S
  obtain ⟨-, ⟨cellB, hcB, hoB, hclB⟩, hPc⟩ := hp
  intro T hT X
  rcases vx_callV X hx (C := C) (bytes := bytes) (maxL := maxL) (ret := ret) ho hl hin hse hcode hy hK (by rw [hT]; exact hcB) hoB hclB hg (hsize.trans hml.symm) (argsL := As) (rest := rest) (fun sig h => hn.trans (hlen sig h)) hstack hW (by rw [hb]; exact hdg)
    (fun vm₁ hW₁ => ⟨hf.1, hf.2, hPc (T.setVm vm₁) hT hW₁⟩) with ⟨v, vm₁, ⟨U', l2, c2, s2⟩, hW₁, X', ⟨g', mk, t, L, e1, e2, hq, h1, hL, h2, h3⟩, st⟩ | ⟨q, vm₁, ⟨U', l2, c2, s2⟩, hW₁, X', ⟨g', mk, t, L, E, ce, e1, e2, hq, hce, hcv, hcl, h1, hL, h2, h3⟩, st⟩
  · dsimp only [Pt.U, Pt.locs, Pt.cells, Pt.slots] at X' e1 e2 h1 h2 h3 st
    subst h1; subst h2; subst h3
    exact Or.inl ⟨v, (T.setVm vm₁).calling g' mk (Value.ref b :: As).toArray, t, U', L, hT, X', hL, e1, e2, hq, st⟩
  · dsimp only [Pt.U, Pt.locs, Pt.cells, Pt.slots] at X' e1 e2 h1 h2 h3 st hcl
    subst h1; subst h2; subst h3
    exact Or.inr ⟨q, (T.setVm vm₁).calling g' mk (Value.ref b :: As).toArray, t, U', L, E, ce, hT, X', hL, e1, e2, hq, hce, hcv, vx_cls hW₁ hcl, st⟩
theorem vx_runS (S : CallFix p m c cc nL s args Ts own) (hM : vx_Met l y ws rm Pc Qc XC mc ms free) (cw : CallB R s args own index y bytes maxL ret ws rm mc ms n ∧ (Cond.static y).before args s = true) (hp : PreS s H Pc As)
    (hg : g.method = m) (hn : As.length = n) (hsize : g.locals.size = nL) (hstack : g.stack = As.reverse ++ rest) (hW : 2 * g.monitorRoom + (rest.map fun v => v.category).sum ≤ 8) (hdg : decode cc g.pc = .ok (.invokestatic index, 3)) (hf : cells + mc ≤ R.cells ∧ slots + ms ≤ R.slots) :
    vx_Run p l e R s m args below meth c H locs cells slots mc ms g rest (Qc As.toArray) XC free := by
  have hK : vx_Back l R p e below s args y 3 8 (PreOf R mc ms Pc) (PostOf Qc mc ms free) (vx_Post XC mc ms free) := vx_callBack cw.1 hM hp.1
  obtain ⟨⟨-, -, -, -, -, -, hcode, hini, hy, hlen, hl⟩, hstt⟩ := cw
  obtain ⟨hx, hb, hml, ho, -⟩ := S
  intro T hT X
  rcases vx_callS X hx (bytes := bytes) (maxL := maxL) (ret := ret) ho hl hstt hini hcode hy hK hg (hsize.trans hml.symm) (argsL := As) (rest := rest) (fun sig h => hn.trans (hlen sig h)) hstack hW (by rw [hb]; exact hdg)
    (fun vm₁ hW₁ => ⟨hf.1, hf.2, hp.2 (T.setVm vm₁) hT hW₁⟩) with ⟨v, vm₁, ⟨U', l2, c2, s2⟩, hW₁, X', ⟨g', mk, t, L, e1, e2, hq, h1, hL, h2, h3⟩, st⟩ | ⟨q, vm₁, ⟨U', l2, c2, s2⟩, hW₁, X', ⟨g', mk, t, L, E, ce, e1, e2, hq, hce, hcv, hcl, h1, hL, h2, h3⟩, st⟩
  · dsimp only [Pt.U, Pt.locs, Pt.cells, Pt.slots] at X' e1 e2 h1 h2 h3 st
    subst h1; subst h2; subst h3
    exact Or.inl ⟨v, (T.setVm vm₁).calling g' mk As.toArray, t, U', L, hT, X', hL, e1, e2, hq, st⟩
  · dsimp only [Pt.U, Pt.locs, Pt.cells, Pt.slots] at X' e1 e2 h1 h2 h3 st hcl
    subst h1; subst h2; subst h3
    exact Or.inr ⟨q, (T.setVm vm₁).calling g' mk As.toArray, t, U', L, E, ce, hT, X', hL, e1, e2, hq, hce, hcv, vx_cls hW₁ hcl, st⟩
end Runs
section Rows
variable {p : Program} {l : Launch} {e : Env} {R : Room} {s : State} {m : MethodId} {args : Array Value} {below : List Frame} {meth : Method} {c : Code} {H : Heap} {locs : List Loc} {cells slots : Nat} {Q : State → Prop}
variable {mc ms : Nat} {free : Addr → Prop} {A0 A1 : Nat → Prop} {H0 : Heap} {a : Array Value} {pc : Nat} {ls : Array Slot} {st0 rest : List Value}
theorem vx_keep {st₀ t T' : State} {L : List Loc} (h0 : st₀.heap = H) (e1 : T'.heap = t.heap) (hS : va_S A0 H0 H locs) (hA : ∀ q, q < H.size → A1 q → A0 q) (hf : ∀ q, free q → A0 q) (hL : ∀ q ∈ L, free q.base) (hF : va_F A1 st₀ t) :
    H.size ≤ T'.heap.size ∧ (∀ q : Nat, q < H.size → ¬ A1 q → T'.heap[q]? = H[q]?) ∧ va_S A0 H0 T'.heap (locs ++ L) := by
  obtain ⟨hz, hk⟩ := hF
  rw [h0] at hz hk
  exact ⟨by rw [e1]; exact hz, fun q h1 h2 => by rw [e1]; exact hk q h1 h2,
    ⟨Nat.le_trans hS.1 (by rw [e1]; exact hz), fun q h1 h2 => by rw [e1, hk q (Nat.lt_of_lt_of_le h1 hS.1) (fun z => h2 (hA q (Nat.lt_of_lt_of_le h1 hS.1) z))]; exact hS.2.1 q h1 h2, fun q hq => by
      rcases List.mem_append.mp hq with h | h
      · exact hS.2.2 q h
      · exact hf _ (hL q h)⟩⟩
theorem vx_calli {S SX : Type} {post : Int32 → S → Prop} {px : SX → Prop} {B : S → State → Prop} {BX : String → SX → State → Prop} {AX : Nat → Prop} (hr : vx_Run p l e R s m args below meth c H locs cells slots mc ms (F0 m pc ls st0) rest (va_Qi post B A1 a) (vx_X px BX AX) free) (hS : va_S A0 H0 H locs) (hA : ∀ q, q < H.size → A1 q → A0 q) (hf : ∀ q, free q → A0 q) (hAX : ∀ q, q < H.size → AX q → A0 q)
    (kx : ∀ (E : String) (ce : Cell) (q9 : Addr) (u : SX) (t : State) (H1 : Heap) (locs1 : List Loc), t.heap = H1 → s.vm.Alike t.vm → px u → BX E u t → H.size ≤ H1.size → (∀ q : Nat, q < H.size → ¬ AX q → H1[q]? = H[q]?) → va_S A0 H0 H1 locs1 → H1[q9]? = some ce → ce.vm = .none → s.vm.findClass E = some ce.cls → vx_W p l e R s m args below meth c H1 locs1 (cells + mc) (slots + ms) Q (F0 m pc ls rest) q9)
    (kk : ∀ (r : Int32) (u : S) (t : State) (H1 : Heap) (locs1 : List Loc), t.heap = H1 → s.vm.Alike t.vm → post r u → B u t → H.size ≤ H1.size → (∀ q : Nat, q < H.size → ¬ A1 q → H1[q]? = H[q]?) → va_S A0 H0 H1 locs1 → W p l e R s m args below meth c H1 locs1 (cells + mc) (slots + ms) Q (F0 m (pc + 3) ls (.int r :: rest))) : W p l e R s m args below meth c H locs cells slots Q (F0 m pc ls st0) := by
  intro T hT X
  rcases hr T hT X with ⟨v, st₀, t, T', L, h0, X', hL, e1, e2, ⟨⟨r, u, hv, hp, hb⟩, hF⟩, st⟩ | ⟨q, st₀, t, T', L, E, ce, h0, X', hL, e1, e2, ⟨u, hp, hb, hF⟩, hce, hcv, hcl, st⟩
  · cases hv
    obtain ⟨k1, k2, k3⟩ := vx_keep h0 e1 hS hA hf hL hF
    obtain ⟨t2, a1, b1⟩ := kk r u t T'.heap (locs ++ L) e1.symm (by rw [← e2]; exact X'.warmed.alike) hp hb k1 k2 k3 T' rfl X'
    exact ⟨t2, st t2 a1, b1⟩
  · obtain ⟨k1, k2, k3⟩ := vx_keep h0 e1 hS hAX hf hL hF
    obtain ⟨t2, a1, b1⟩ := kx E ce q u t T'.heap (locs ++ L) e1.symm (by rw [← e2]; exact X'.warmed.alike) hp hb k1 k2 k3 (by rw [e1]; exact hce) hcv hcl T' rfl X'
    exact ⟨t2, st.trans a1, b1⟩
theorem vx_calll {S SX : Type} {post : Int64 → S → Prop} {px : SX → Prop} {B : S → State → Prop} {BX : String → SX → State → Prop} {AX : Nat → Prop} (hr : vx_Run p l e R s m args below meth c H locs cells slots mc ms (F0 m pc ls st0) rest (va_Ql post B A1 a) (vx_X px BX AX) free) (hS : va_S A0 H0 H locs) (hA : ∀ q, q < H.size → A1 q → A0 q) (hf : ∀ q, free q → A0 q) (hAX : ∀ q, q < H.size → AX q → A0 q)
    (kx : ∀ (E : String) (ce : Cell) (q9 : Addr) (u : SX) (t : State) (H1 : Heap) (locs1 : List Loc), t.heap = H1 → s.vm.Alike t.vm → px u → BX E u t → H.size ≤ H1.size → (∀ q : Nat, q < H.size → ¬ AX q → H1[q]? = H[q]?) → va_S A0 H0 H1 locs1 → H1[q9]? = some ce → ce.vm = .none → s.vm.findClass E = some ce.cls → vx_W p l e R s m args below meth c H1 locs1 (cells + mc) (slots + ms) Q (F0 m pc ls rest) q9)
    (kk : ∀ (r : Int64) (u : S) (t : State) (H1 : Heap) (locs1 : List Loc), t.heap = H1 → s.vm.Alike t.vm → post r u → B u t → H.size ≤ H1.size → (∀ q : Nat, q < H.size → ¬ A1 q → H1[q]? = H[q]?) → va_S A0 H0 H1 locs1 → W p l e R s m args below meth c H1 locs1 (cells + mc) (slots + ms) Q (F0 m (pc + 3) ls (.long r :: rest))) : W p l e R s m args below meth c H locs cells slots Q (F0 m pc ls st0) := by
  intro T hT X
  rcases hr T hT X with ⟨v, st₀, t, T', L, h0, X', hL, e1, e2, ⟨⟨r, u, hv, hp, hb⟩, hF⟩, st⟩ | ⟨q, st₀, t, T', L, E, ce, h0, X', hL, e1, e2, ⟨u, hp, hb, hF⟩, hce, hcv, hcl, st⟩
  · cases hv
    obtain ⟨k1, k2, k3⟩ := vx_keep h0 e1 hS hA hf hL hF
    obtain ⟨t2, a1, b1⟩ := kk r u t T'.heap (locs ++ L) e1.symm (by rw [← e2]; exact X'.warmed.alike) hp hb k1 k2 k3 T' rfl X'
    exact ⟨t2, st t2 a1, b1⟩
  · obtain ⟨k1, k2, k3⟩ := vx_keep h0 e1 hS hAX hf hL hF
    obtain ⟨t2, a1, b1⟩ := kx E ce q u t T'.heap (locs ++ L) e1.symm (by rw [← e2]; exact X'.warmed.alike) hp hb k1 k2 k3 (by rw [e1]; exact hce) hcv hcl T' rfl X'
    exact ⟨t2, st.trans a1, b1⟩
theorem vx_callf {S SX : Type} {post : UInt32 → S → Prop} {px : SX → Prop} {B : S → State → Prop} {BX : String → SX → State → Prop} {AX : Nat → Prop} (hr : vx_Run p l e R s m args below meth c H locs cells slots mc ms (F0 m pc ls st0) rest (va_Qf post B A1 a) (vx_X px BX AX) free) (hS : va_S A0 H0 H locs) (hA : ∀ q, q < H.size → A1 q → A0 q) (hf : ∀ q, free q → A0 q) (hAX : ∀ q, q < H.size → AX q → A0 q)
    (kx : ∀ (E : String) (ce : Cell) (q9 : Addr) (u : SX) (t : State) (H1 : Heap) (locs1 : List Loc), t.heap = H1 → s.vm.Alike t.vm → px u → BX E u t → H.size ≤ H1.size → (∀ q : Nat, q < H.size → ¬ AX q → H1[q]? = H[q]?) → va_S A0 H0 H1 locs1 → H1[q9]? = some ce → ce.vm = .none → s.vm.findClass E = some ce.cls → vx_W p l e R s m args below meth c H1 locs1 (cells + mc) (slots + ms) Q (F0 m pc ls rest) q9)
    (kk : ∀ (r : UInt32) (u : S) (t : State) (H1 : Heap) (locs1 : List Loc), t.heap = H1 → s.vm.Alike t.vm → post r u → B u t → H.size ≤ H1.size → (∀ q : Nat, q < H.size → ¬ A1 q → H1[q]? = H[q]?) → va_S A0 H0 H1 locs1 → W p l e R s m args below meth c H1 locs1 (cells + mc) (slots + ms) Q (F0 m (pc + 3) ls (.float r :: rest))) : W p l e R s m args below meth c H locs cells slots Q (F0 m pc ls st0) := by
  intro T hT X
  rcases hr T hT X with ⟨v, st₀, t, T', L, h0, X', hL, e1, e2, ⟨⟨r, u, hv, hp, hb⟩, hF⟩, st⟩ | ⟨q, st₀, t, T', L, E, ce, h0, X', hL, e1, e2, ⟨u, hp, hb, hF⟩, hce, hcv, hcl, st⟩
  · cases hv
    obtain ⟨k1, k2, k3⟩ := vx_keep h0 e1 hS hA hf hL hF
    obtain ⟨t2, a1, b1⟩ := kk r u t T'.heap (locs ++ L) e1.symm (by rw [← e2]; exact X'.warmed.alike) hp hb k1 k2 k3 T' rfl X'
    exact ⟨t2, st t2 a1, b1⟩
  · obtain ⟨k1, k2, k3⟩ := vx_keep h0 e1 hS hAX hf hL hF
    obtain ⟨t2, a1, b1⟩ := kx E ce q u t T'.heap (locs ++ L) e1.symm (by rw [← e2]; exact X'.warmed.alike) hp hb k1 k2 k3 (by rw [e1]; exact hce) hcv hcl T' rfl X'
    exact ⟨t2, st.trans a1, b1⟩
theorem vx_calld {S SX : Type} {post : UInt64 → S → Prop} {px : SX → Prop} {B : S → State → Prop} {BX : String → SX → State → Prop} {AX : Nat → Prop} (hr : vx_Run p l e R s m args below meth c H locs cells slots mc ms (F0 m pc ls st0) rest (va_Qd post B A1 a) (vx_X px BX AX) free) (hS : va_S A0 H0 H locs) (hA : ∀ q, q < H.size → A1 q → A0 q) (hf : ∀ q, free q → A0 q) (hAX : ∀ q, q < H.size → AX q → A0 q)
    (kx : ∀ (E : String) (ce : Cell) (q9 : Addr) (u : SX) (t : State) (H1 : Heap) (locs1 : List Loc), t.heap = H1 → s.vm.Alike t.vm → px u → BX E u t → H.size ≤ H1.size → (∀ q : Nat, q < H.size → ¬ AX q → H1[q]? = H[q]?) → va_S A0 H0 H1 locs1 → H1[q9]? = some ce → ce.vm = .none → s.vm.findClass E = some ce.cls → vx_W p l e R s m args below meth c H1 locs1 (cells + mc) (slots + ms) Q (F0 m pc ls rest) q9)
    (kk : ∀ (r : UInt64) (u : S) (t : State) (H1 : Heap) (locs1 : List Loc), t.heap = H1 → s.vm.Alike t.vm → post r u → B u t → H.size ≤ H1.size → (∀ q : Nat, q < H.size → ¬ A1 q → H1[q]? = H[q]?) → va_S A0 H0 H1 locs1 → W p l e R s m args below meth c H1 locs1 (cells + mc) (slots + ms) Q (F0 m (pc + 3) ls (.double r :: rest))) : W p l e R s m args below meth c H locs cells slots Q (F0 m pc ls st0) := by
  intro T hT X
  rcases hr T hT X with ⟨v, st₀, t, T', L, h0, X', hL, e1, e2, ⟨⟨r, u, hv, hp, hb⟩, hF⟩, st⟩ | ⟨q, st₀, t, T', L, E, ce, h0, X', hL, e1, e2, ⟨u, hp, hb, hF⟩, hce, hcv, hcl, st⟩
  · cases hv
    obtain ⟨k1, k2, k3⟩ := vx_keep h0 e1 hS hA hf hL hF
    obtain ⟨t2, a1, b1⟩ := kk r u t T'.heap (locs ++ L) e1.symm (by rw [← e2]; exact X'.warmed.alike) hp hb k1 k2 k3 T' rfl X'
    exact ⟨t2, st t2 a1, b1⟩
  · obtain ⟨k1, k2, k3⟩ := vx_keep h0 e1 hS hAX hf hL hF
    obtain ⟨t2, a1, b1⟩ := kx E ce q u t T'.heap (locs ++ L) e1.symm (by rw [← e2]; exact X'.warmed.alike) hp hb k1 k2 k3 (by rw [e1]; exact hce) hcv hcl T' rfl X'
    exact ⟨t2, st.trans a1, b1⟩
theorem vx_callv {S SX : Type} {post : S → Prop} {px : SX → Prop} {B : S → State → Prop} {BX : String → SX → State → Prop} {AX : Nat → Prop} (hr : vx_Run p l e R s m args below meth c H locs cells slots mc ms (F0 m pc ls st0) rest (va_Qv post B A1 a) (vx_X px BX AX) free) (hS : va_S A0 H0 H locs) (hA : ∀ q, q < H.size → A1 q → A0 q) (hf : ∀ q, free q → A0 q) (hAX : ∀ q, q < H.size → AX q → A0 q)
    (kx : ∀ (E : String) (ce : Cell) (q9 : Addr) (u : SX) (t : State) (H1 : Heap) (locs1 : List Loc), t.heap = H1 → s.vm.Alike t.vm → px u → BX E u t → H.size ≤ H1.size → (∀ q : Nat, q < H.size → ¬ AX q → H1[q]? = H[q]?) → va_S A0 H0 H1 locs1 → H1[q9]? = some ce → ce.vm = .none → s.vm.findClass E = some ce.cls → vx_W p l e R s m args below meth c H1 locs1 (cells + mc) (slots + ms) Q (F0 m pc ls rest) q9)
    (kk : ∀ (u : S) (t : State) (H1 : Heap) (locs1 : List Loc), t.heap = H1 → s.vm.Alike t.vm → post u → B u t → H.size ≤ H1.size → (∀ q : Nat, q < H.size → ¬ A1 q → H1[q]? = H[q]?) → va_S A0 H0 H1 locs1 → W p l e R s m args below meth c H1 locs1 (cells + mc) (slots + ms) Q (F0 m (pc + 3) ls (rest))) : W p l e R s m args below meth c H locs cells slots Q (F0 m pc ls st0) := by
  intro T hT X
  rcases hr T hT X with ⟨v, st₀, t, T', L, h0, X', hL, e1, e2, ⟨⟨u, hv, hp, hb⟩, hF⟩, st⟩ | ⟨q, st₀, t, T', L, E, ce, h0, X', hL, e1, e2, ⟨u, hp, hb, hF⟩, hce, hcv, hcl, st⟩
  · cases hv
    obtain ⟨k1, k2, k3⟩ := vx_keep h0 e1 hS hA hf hL hF
    obtain ⟨t2, a1, b1⟩ := kk u t T'.heap (locs ++ L) e1.symm (by rw [← e2]; exact X'.warmed.alike) hp hb k1 k2 k3 T' rfl X'
    exact ⟨t2, st t2 a1, b1⟩
  · obtain ⟨k1, k2, k3⟩ := vx_keep h0 e1 hS hAX hf hL hF
    obtain ⟨t2, a1, b1⟩ := kx E ce q u t T'.heap (locs ++ L) e1.symm (by rw [← e2]; exact X'.warmed.alike) hp hb k1 k2 k3 (by rw [e1]; exact hce) hcv hcl T' rfl X'
    exact ⟨t2, st.trans a1, b1⟩
/-- caught by the row x of this method's table; the rows ahead don't take it -/
theorem vx_catch {own name : String} {E : String} {ce : Cell} {q : Addr} (hown : s.vm.findClass own = some m.cls) (pre : List ExceptionTableEntry) (x : ExceptionTableEntry) (suf : List ExceptionTableEntry) (hsplit : c.exceptionTable.toList = pre ++ x :: suf)
    (hpass : ∀ z ∈ pre, covers z pc = false ∨ (z.catchType ≠ 0 ∧ ∃ nm : String, (Cond.classLink own z.catchType nm).before args s = true ∧ va_Nc E nm s)) (hx : covers x pc = true) (h0 : x.catchType ≠ 0)
    (hlink : (Cond.classLink own x.catchType name).before args s = true) (hcast : (Cond.castable E name).before args s = true) (hcell : H[q]? = some ce) (hv : ce.vm = .none) (hcl : s.vm.findClass E = some ce.cls)
    (kk : W p l e R s m args below meth c H locs cells slots Q (F0 m x.handlerPc ls [.ref q])) : vx_W p l e R s m args below meth c H locs cells slots Q (F0 m pc ls rest) q := by
  intro T hT X
  have hpl : e.platform.magicAccessors = ({} : Platform).magicAccessors := by rw [X.admits.platform]
  obtain ⟨c3, c4, hc3, hc4, hasg⟩ := Cond.castable_spec hcast
  cases Option.some.inj (hc3.symm.trans hcl)
  obtain ⟨c5, hc5, hcl5⟩ := Cond.classLink_spec hown hlink e.platform hpl
  cases Option.some.inj (hc4.symm.trans hc5)
  obtain ⟨vm', X', st⟩ := X.thenCaughtThrough q (g := F0 m pc ls rest) rfl (Steps.refl _) (by rw [hT]; exact hcell) (by rw [hv]; rfl) (by obtain ⟨k9, h9, -⟩ := Vm.findClass_spec hcl; exact ⟨k9, h9⟩) pre x suf hsplit
    (fun z hz => by
      rcases hpass z hz with h | ⟨hz0, nm, hl1, hn1⟩
      · exact Or.inl h
      · obtain ⟨c6, hc6, hcl6⟩ := Cond.classLink_spec hown hl1 e.platform hpl
        obtain ⟨a8, b8, h1, h2, h3⟩ := hn1
        cases Option.some.inj (h1.symm.trans hcl)
        cases Option.some.inj (h2.symm.trans hc6)
        exact Or.inr ⟨hz0, _, hcl6, h3⟩) hx (Or.inr ⟨h0, c4, hcl5, hasg⟩)
  obtain ⟨t, a1, b1⟩ := kk (T.setVm vm') hT X'
  exact ⟨t, st.trans a1, b1⟩
end Rows
section Ends
variable {p : Program} {l : Launch} {e : Env} {R : Room} {s : State} {m : MethodId} {args : Array Value} {below : List Frame} {meth : Method} {c : Code} {H : Heap} {locs : List Loc} {cells slots : Nat} {Q : State → Prop}
variable {mc ms : Nat} {free : Addr → Prop} {A0 A1 : Nat → Prop} {H0 : Heap} {a : Array Value} {ls : Array Slot} {st0 rest : List Value}
variable {Qc : Array Value → State → Outcome → State → Prop} {XC : String → State → State → Prop}
/-- what a body that may throw owes at its end -/
def vx_MQ (below : List Frame) (Qc : Array Value → State → Outcome → State → Prop) (XC : String → State → State → Prop) (a : Array Value) (s : State) (mc ms : Nat) (free : Addr → Prop) : State → Prop := fun t =>
  ∃ o, t.status = .running ∧ Ended t below o ∧ vx_Q Qc XC mc ms free a s o t
theorem vx_ret {g : JFrame} {mc ms : Nat} (k : W p l e R s m args below meth c H locs cells slots (MQ below Qc args s mc ms free) g) : W p l e R s m args below meth c H locs cells slots (vx_MQ below Qc XC args s mc ms free) g := by
  intro T hT X
  obtain ⟨t, a1, o, b1, b2, b3, b4⟩ := k T hT X
  exact ⟨t, a1, o, b1, b2, Or.inl ⟨b3, b4⟩⟩
/-- not caught here: it goes on to the caller -/
theorem vx_widen {g : JFrame} {q : Addr} {k n : Nat} (h1 : cells ≤ k) (h2 : slots ≤ n) (kk : vx_W p l e R s m args below meth c H locs k n Q g q) : vx_W p l e R s m args below meth c H locs cells slots Q g q := fun T hT X => kk T hT (stand_widen X h1 h2)
theorem vx_out {pc : Nat} {E : String} {ce : Cell} {q : Addr} {mc ms : Nat} (hout : ∀ x ∈ c.exceptionTable.toList, covers x pc = false) (hlocks : meth.locks = false) (hcell : H[q]? = some ce) (hv : ce.vm = .none) (hcl : s.vm.findClass E = some ce.cls)
    (hx : ∀ t : State, t.heap = H → s.vm.Alike t.vm → XC E s t) (hf : ∀ z ∈ locs, free z.base) (hc : cells ≤ mc) (hs : slots ≤ ms) :
    vx_W p l e R s m args below meth c H locs cells slots (vx_MQ below Qc XC args s mc ms free) (F0 m pc ls rest) q := by
  intro T hT X
  obtain ⟨st1, hrun, hend, hW, hsm⟩ := X.leaveThrown q (g := F0 m pc ls rest) rfl rfl rfl hout hlocks
  have hcell9 : (T.setFrames (.throwing q :: below)).heap[q]? = some ce := by
    show T.heap[q]? = some ce
    rw [hT]; exact hcell
  exact ⟨_, st1, .threw q, hrun, hend, Or.inr ⟨q, rfl, E, ce, locs, hx _ hT hW.alike, hcell9, hv, hcl, hW, hsm.mono hc hs, hf⟩⟩
theorem vx_frame {U : State} {k n : Nat} (h : s.sameButNew ({ U with vm := s.vm } : State) locs k n) : s.heap.size ≤ U.heap.size ∧ ∀ q : Nat, q < s.heap.size → (∀ z ∈ locs, z.base ≠ q) → U.heap[q]? = s.heap[q]? := by
  obtain ⟨-, h2, -, -, -, h6⟩ := h
  refine ⟨h2, fun q hq hz => ?_⟩
  obtain ⟨c9, e1, e2, e3, e4⟩ := h6 q _ (Array.getElem?_eq_getElem hq)
  have hs : c9.slots = (s.heap[q]).slots := Array.ext_getElem? fun i => e4 i fun hm => hz _ hm rfl
  have h9 : c9 = s.heap[q] := by
    rw [hs] at e2
    exact e2
  have e5 : U.heap[q]? = some c9 := e1
  rw [e5, h9, Array.getElem?_eq_getElem hq]
/-- the words of a throw but the four that speak of the heap -/
def vx_no (w : Cond) : Bool := decide (w ≠ .isRef (.static Bundle.tN "UNASSIGNED_STACK" Bundle.steD)) && decide (w ≠ .isRef (.static Bundle.tN "SUPPRESSED_SENTINEL" Bundle.listD)) && decide (w ≠ .laysStatic Bundle.tN "UNASSIGNED_STACK" Bundle.steD) && decide (w ≠ .laysStatic Bundle.tN "SUPPRESSED_SENTINEL" Bundle.listD)
def vx_at0 (own : String) (ic : Nat) (X : String) (names : List String) : List Cond := (Bundle.ownAtoms0 own ic X names).filter vx_no
def vx_atS (own : String) (ic : Nat) (X : String) (names : List String) : List Cond := (Bundle.ownAtoms own ic X names).filter vx_no
/-- a word that the tables alone decide, or a good one -/
def vx_ot (w : Cond) : Bool := w.onTables || goodWord w
theorem vx_ot_at {args a' : Array Value} {s U : State} {w : Cond} (hW : s.WarmedH U.vm) (hvm : s.vm = U.vm) (hg : vx_ot w = true) (h : w.before args s = true) : w.before a' U = true := by
  simp only [vx_ot, Bool.or_eq_true] at hg
  rcases hg with hg | hg
  · exact va_tabs hg hvm h
  · exact word_at hW (good_of_word hg) h
/-- a list's words: the good ones out of the method's own list, the others by premises of their own -/
theorem vx_hat {args : Array Value} {s : State} {L B : List Cond} (h1 : ∀ w ∈ L.filter goodWord, w.before args s = true) (h2 : ∀ w ∈ L.filter (fun w => !goodWord w), w ∈ B) (h3 : ∀ w ∈ B, w.before args s = true) : ∀ w ∈ L, w.before args s = true := by
  intro w hw
  by_cases g : goodWord w = true
  · exact h1 w (List.mem_filter.mpr ⟨hw, g⟩)
  · refine h3 w (h2 w (List.mem_filter.mpr ⟨hw, ?_⟩))
    show (!goodWord w) = true
    cases hgw : goodWord w
    · rfl
    · exact absurd hgw g
theorem vx_c {args : Array Value} {s : State} {w : Cond} {B : List Cond} (h : w.before args s = true) (t : ∀ w ∈ B, w.before args s = true) : ∀ w' ∈ w :: B, w'.before args s = true := fun w' h' => (List.mem_cons.mp h').elim (fun e => by rw [e]; exact h) (t w')
theorem vx_n {args : Array Value} {s : State} : ∀ w ∈ ([] : List Cond), w.before args s = true := fun _ h => nomatch h
theorem vx_own {args : Array Value} {s : State} {L : List Cond} (h1 : ∀ w ∈ L.filter vx_no, w.before args s = true)
    (hU : (Cond.isRef (.static Bundle.tN "UNASSIGNED_STACK" Bundle.steD)).before args s = true) (hN : (Cond.isRef (.static Bundle.tN "SUPPRESSED_SENTINEL" Bundle.listD)).before args s = true)
    (lU : (Cond.laysStatic Bundle.tN "UNASSIGNED_STACK" Bundle.steD).before args s = true) (lN : (Cond.laysStatic Bundle.tN "SUPPRESSED_SENTINEL" Bundle.listD).before args s = true) : ∀ w ∈ L, w.before args s = true := by
  intro w hw
  by_cases e1 : w = .isRef (.static Bundle.tN "UNASSIGNED_STACK" Bundle.steD)
  · rw [e1]; exact hU
  · by_cases e2 : w = .isRef (.static Bundle.tN "SUPPRESSED_SENTINEL" Bundle.listD)
    · rw [e2]; exact hN
    · by_cases e3 : w = .laysStatic Bundle.tN "UNASSIGNED_STACK" Bundle.steD
      · rw [e3]; exact lU
      · by_cases e4 : w = .laysStatic Bundle.tN "SUPPRESSED_SENTINEL" Bundle.listD
        · rw [e4]; exact lN
        · exact h1 w (List.mem_filter.mpr ⟨hw, by unfold vx_no; rw [decide_eq_true e1, decide_eq_true e2, decide_eq_true e3, decide_eq_true e4]; rfl⟩)
/-- where a static field lies, its class's statics cell in H -/
def vx_L (C n d : String) (A : Nat → Prop) (U : State) (H : Heap) : Prop := ∃ (c : ClassId) (k : Class) (i : Nat) (f : Field) (a : Nat) (cell : Cell), U.vm.findClass C = some c ∧ U.fieldFound? C n d = some (c, k, i, f) ∧ f.isStatic = true ∧ k.statics = some a ∧ H[a]? = some cell ∧ cell.vm.isStatics = true ∧ cell.cls = c ∧ f.slot < cell.slots.size ∧ k.staticTypes[f.slot]? = some f.type ∧ ¬ A a
theorem vx_L.moved {C n d : String} {A : Nat → Prop} {u U : State} {H : Heap} (hvm : u.vm.Alike U.vm) (h : vx_L C n d A u H) : vx_L C n d A U H := by
  obtain ⟨c, k, i, f, a, cell, h1, h2, h3, h4, h5, h6, h7, h8, h9, h10⟩ := h
  obtain ⟨k', hi', he⟩ := State.fieldFound?_setVm hvm h2
  exact ⟨c, k', i, f, a, cell, by rw [hvm.findClass]; exact h1, hi', h3, by rw [he]; exact h4, h5, h6, h7, h8, by rw [he]; exact h9, h10⟩
theorem vx_L.kept {C n d : String} {A : Nat → Prop} {U : State} {H H1 : Heap} (h : vx_L C n d A U H) (hq : ∀ a : Nat, a < H.size → ¬ A a → H1[a]? = H[a]?) : vx_L C n d A U H1 := by
  obtain ⟨c, k, i, f, a, cell, h1, h2, h3, h4, h5, h6, h7, h8, h9, h10⟩ := h
  exact ⟨c, k, i, f, a, cell, h1, h2, h3, h4, by rw [hq a (Array.getElem?_eq_some_iff.mp h5).1 h10]; exact h5, h6, h7, h8, h9, h10⟩
theorem vx_L.narrow {C n d : String} {A B : Nat → Prop} {U : State} {H : Heap} (h : vx_L C n d A U H) (hAB : ∀ q, B q → A q) : vx_L C n d B U H := by
  obtain ⟨c, k, i, f, a, cell, h1, h2, h3, h4, h5, h6, h7, h8, h9, h10⟩ := h
  exact ⟨c, k, i, f, a, cell, h1, h2, h3, h4, h5, h6, h7, h8, h9, fun z => h10 (hAB _ z)⟩
theorem vx_L.word {C n d : String} {A : Nat → Prop} {s : State} {args : Array Value} (h : vx_L C n d A s s.heap) : (Cond.laysStatic C n d).before args s = true := by
  obtain ⟨c, k, i, f, a, cell, h1, h2, h3, h4, h5, h6, h7, h8, h9, -⟩ := h
  show (Cond.laysStatic C n d).holds args s none s [] = true
  exact Cond.laysStatic_of h1 h2 h3 h4 h5 h6 h7 h8 h9
/-- .. and what it holds: null or some reference -/
def vx_Zq (C n d : String) (A : Nat → Prop) (U : State) (H : Heap) : Prop := va_Zq C n d A U H ∧ vx_L C n d A U H
theorem vx_Zq.moved {C n d : String} {A : Nat → Prop} {u U : State} {H : Heap} (hvm : u.vm.Alike U.vm) (h : vx_Zq C n d A u H) : vx_Zq C n d A U H := ⟨va_Zq.moved hvm h.1, vx_L.moved hvm h.2⟩
theorem vx_Zq.kept {C n d : String} {A : Nat → Prop} {U : State} {H H1 : Heap} (h : vx_Zq C n d A U H) (hq : ∀ a : Nat, a < H.size → ¬ A a → H1[a]? = H[a]?) : vx_Zq C n d A U H1 := ⟨va_Zq.kept h.1 hq, vx_L.kept h.2 hq⟩
theorem vx_Zq.narrow {C n d : String} {A B : Nat → Prop} {U : State} {H : Heap} (h : vx_Zq C n d A U H) (hAB : ∀ q, B q → A q) : vx_Zq C n d B U H := ⟨va_Zq.narrow h.1 hAB, vx_L.narrow h.2 hAB⟩
theorem vx_Zqof {args : Array Value} {s : State} {C n d : String} {A : Nat → Prop} (hl : (Cond.laysStatic C n d).before args s = true) (hini : (Cond.initialized C).before args s = true) (h : (Cond.isRef (.static C n d)).before args s = true) (hA : ∀ a : Nat, a < s.heap.size → ¬ A a) : vx_Zq C n d A s s.heap := by
  refine ⟨va_Zqof hl hini h hA, ?_⟩
  obtain ⟨c, k, i, f, a, cell, h1, h2, h3, h4, h5, h6, h7, h8, h9⟩ := Cond.laysStatic_spec hl
  exact ⟨c, k, i, f, a, cell, h1, h2, h3, h4, h5, h6, h7, h8, h9, hA a (Array.getElem?_eq_some_iff.mp h5).1⟩
theorem vx_isRef {C n d : String} {v : Value} {A : Nat → Prop} {s : State} {args : Array Value} (h : va_Z C n d v A s s.heap) (hv : v.isRef = true) : (Cond.isRef (.static C n d)).before args s = true := by
  obtain ⟨cf, kf, fi, f, a, cell, h1, h2, h3, h4, h5, h6, h7, -⟩ := h
  have he : (Term.static C n d).eval args s none [] s = some v := by
    simp [Term.eval, State.fieldNamed?, h1, h2, h4, h5, h6, h7]
  simp only [Cond.before, Cond.holds, Cond.value, he]
  cases v <;> simp_all [Value.isRef]
theorem vx_isRefq {C n d : String} {A : Nat → Prop} {s : State} {args : Array Value} (h : va_Zq C n d A s s.heap) : (Cond.isRef (.static C n d)).before args s = true := by
  rcases h with h | ⟨t, h⟩
  · exact vx_isRef h rfl
  · exact vx_isRef h rfl
/-- the same frame, seen from here: as if the method were called anew in this heap -/
theorem vx_rebase {T : State} (X : Stand p l e R s m args below meth c T locs cells slots) {R' : Room} (hf : R'.frames ≤ R.frames) (hl : R'.locals ≤ R.locals) (hc : cells + R'.cells ≤ R.cells) (hs : slots + R'.slots ≤ R.slots) :
    Stand p l e R' ((T.setVm s.vm).setFrames (.invoking m args :: below)) m args below meth c T [] 0 0 := by
  have htop : (T.setVm s.vm).topJava?.isSome := X.here.top
  have hF : ((T.setVm s.vm).setFrames (.invoking m args :: below)).frames = .invoking m args :: below := State.frames_setFrames _ (State.cur_lt_of_top htop)
  obtain ⟨g₀, hg0⟩ := Option.isSome_iff_exists.mp htop
  obtain ⟨r, hr⟩ := State.topJava?_eq_some.mp hg0
  have hl9 : e.platform.stackLimits (T.setVm s.vm).me = e.platform.stackLimits s.me := X.limits
  have hb9 : (T.setVm s.vm).me.stackBytes = s.me.stackBytes := X.bytes
  refine ⟨X.admits, X.cas, X.clock, hF, ?_, X.hears, X.method, X.code, X.here, X.tail, X.warmed, ?_, ?_, ?_⟩
  · have h := X.room
    have hU : ((T.setVm s.vm).setFrames (.invoking m args :: below)).localsInUse = s.localsInUse := by
      rw [State.localsInUse_invoking hF (meth := meth) (c := c) X.method X.code, State.localsInUse_invoking X.frames X.method X.code]
    simp only [State.hasRoom, Bool.and_eq_true, decide_eq_true_eq] at h ⊢
    obtain ⟨⟨⟨⟨h1, h2, h3, h4, h5, h6⟩, h7⟩, h8⟩, h9⟩ := h
    rw [X.frames, List.length_cons] at h2 h3
    have q1 := X.heapSize
    have q2 := X.used
    simp only [hF, hU, List.length_cons, State.stackLimits_setFrames, State.stackBytes_setFrames, hl9, hb9]
    refine ⟨⟨⟨⟨by omega, by omega, by omega, by omega, by omega, h6⟩, ?_⟩, ?_⟩, X.book⟩
    · show T.heap.size + R'.cells ≤ e.platform.maxCells
      omega
    · show T.slotsUsed + R'.slots ≤ e.platform.maxSlots
      omega
  · rw [State.stackLimits_setFrames]; rfl
  · rw [State.stackBytes_setFrames]; rfl
  · refine ⟨?_, Nat.le_refl _, Nat.le_refl _, ?_, ?_, fun a c9 h9 => ⟨c9, h9, rfl, rfl, fun _ _ => rfl⟩⟩
    · obtain ⟨t, ht, -⟩ := State.frames_cons hr
      show T.setVm s.vm = { ((T.setVm s.vm).setFrames (.invoking m args :: below)).setFrames (T.setVm s.vm).frames with heap := T.heap, slotsUsed := T.slotsUsed }
      rw [State.setFrames_setFrames, State.setFrames_self ht]
      rfl
    · show T.slotsUsed = T.slotsUsed + ((T.heap.toList.drop T.heap.size).map (·.slots.size)).sum
      rw [List.drop_eq_nil_of_le (Nat.le_of_eq Array.length_toList)]
      rfl
    · show ((T.heap.toList.drop T.heap.size).map (·.slots.size)).sum ≤ 0
      rw [List.drop_eq_nil_of_le (Nat.le_of_eq Array.length_toList)]
      exact Nat.le_refl _
/-- 'throw new E()': new; dup; invokespecial; athrow -/
theorem vx_throw0 {cc : ByteArray} {pc : Nat} (hexec : p.tables.exec = Jvm.exec) (hb : c.code = cc) (hl : l.stackTraces = false) {own cls : String} {names : List String} {ik ic mc ms : Nat} {A : Nat → Prop}
    (hown : s.vm.findClass own = some m.cls) (hcls : Bundle.fit cls = true) (hnames : ∀ n ∈ names, Bundle.fit n = true)
    (hk : (Cond.classLink own ik cls).before args s = true) (hini : (Cond.initialized cls).before args s = true) (hat : ∀ w ∈ vx_at0 own ic cls names, w.before args s = true)
    (hgood : ∀ w ∈ Cond.classLink own ik cls :: Cond.initialized cls :: vx_at0 own ic cls names, vx_ot w = true)
    (hU : vx_Zq Bundle.tN "UNASSIGNED_STACK" Bundle.steD A s s.heap) (hN : vx_Zq Bundle.tN "SUPPRESSED_SENTINEL" Bundle.listD A s s.heap) (hS : va_S A s.heap H locs) (hsize : ls.size = c.maxLocals)
    (d0 : decode cc pc = .ok (.new ik, 3)) (d3 : decode cc (pc + 3) = .ok (.dup, 1)) (d4 : decode cc (pc + 4) = .ok (.invokespecial ic, 3)) (d7 : decode cc (pc + 7) = .ok (.athrow, 1))
    (hout : ∀ x ∈ c.exceptionTable.toList, covers x (pc + 7) = false)
    (hRframes : names.length + 3 < R.frames) (hRlocals : (rest.map fun v => v.category).sum + (13 * (names.length + 1) + 42) ≤ R.locals) (hRcells : cells + 1 ≤ R.cells) (hRslots : slots + 6 ≤ R.slots) (hlocks : meth.locks = false)
    (hx : ∀ t : State, s.vm.Alike t.vm → H.size ≤ t.heap.size → (∀ q : Nat, q < H.size → t.heap[q]? = H[q]?) → XC cls s t)
    (hf : ∀ z ∈ locs, free z.base) (hc : cells + 1 ≤ mc) (hs : slots + 6 ≤ ms) :
    W p l e R s m args below meth c H locs cells slots (vx_MQ below Qc XC args s mc ms free) (F0 m pc ls rest) := by
  intro T hT X
  have htr : e.platform.stackTraces = false := (show e.platform.stackTraces = l.stackTraces by rw [X.admits.platform]).trans hl
  have Y := vx_rebase X (R' := { frames := R.frames, locals := R.locals, cells := 1, slots := 6 }) (Nat.le_refl _) (Nat.le_refl _) hRcells hRslots
  obtain ⟨s', hA⟩ : ∃ z, z = (T.setVm s.vm).setFrames (.invoking m args :: below) := ⟨_, rfl⟩
  rw [← hA] at Y
  have hvm : s'.vm = s.vm := by rw [hA]; rfl
  have hhp : s'.heap = H := by rw [hA]; exact hT
  have hW0 : s.WarmedH s'.vm := by rw [hvm]; exact State.WarmedH.refl s
  have hat' : ∀ w ∈ vx_at0 own ic cls names, w.before args s' = true := fun w hw => vx_ot_at hW0 hvm.symm (hgood w (List.mem_cons_of_mem _ (List.mem_cons_of_mem _ hw))) (hat w hw)
  have hk' : (Cond.classLink own ik cls).before args s' = true := vx_ot_at hW0 hvm.symm (hgood _ List.mem_cons_self) hk
  have hini' : (Cond.initialized cls).before args s' = true := vx_ot_at hW0 hvm.symm (hgood _ (List.mem_cons_of_mem _ List.mem_cons_self)) hini
  have hU' : vx_Zq Bundle.tN "UNASSIGNED_STACK" Bundle.steD A s' s'.heap := by rw [hhp]; exact vx_Zq.moved hW0.alike (hU.kept hS.2.1)
  have hN' : vx_Zq Bundle.tN "SUPPRESSED_SENTINEL" Bundle.listD A s' s'.heap := by rw [hhp]; exact vx_Zq.moved hW0.alike (hN.kept hS.2.1)
  have h : ∀ w ∈ Bundle.ownAtoms0 own ic cls names, w.before args s' = true := vx_own hat' (vx_isRefq hU'.1) (vx_isRefq hN'.1) hU'.2.word hN'.2.word
  have hown' : s'.vm.findClass own = some m.cls := by rw [hvm]; exact hown
  have hins : (Cond.instantiable cls 6).before args s' = true := h _ (by simp [Bundle.ownAtoms0])
  obtain ⟨vm₁, cX, kX, hfX, hkX, -, -, X₁, st1⟩ := Y.newCold hexec (own := own) (C := cls) (index := ik) (n := 6) hown' hk' hins hini'
    (g := F0 m pc ls rest) rfl (by rw [hb]; exact d0) (Nat.le_refl _) (Nat.le_refl _)
  generalize hT1 : (T.setVm vm₁).pushCell { cls := cX, slots := kX.instanceTypes.map defaultValue, vm := .none } = T1 at X₁ st1
  have hcat : (Value.ref T.heap.size).category = 1 := rfl
  have hcellA : T1.heap[T.heap.size]? = some (freshCell cX kX) := by rw [← hT1]; exact State.heap_pushCell_size _ _
  have d3' : decode c.code (pc + 3) = .ok (.dup, 1) := by rw [hb]; exact d3
  obtain ⟨U, hsteps, hrun, hend, hW, hsame, ce, hce, hO⟩ := X₁.ctorThrow0 hexec htr (own := own) (cls := cls) (names := names) (ic := ic) hown' hcls hnames h (fun x hx => nomatch hx) hfX hkX hcellA (by rw [hhp, hT]; exact Nat.le_refl _)
    (g := { method := m, pc := pc + 4, locals := ls, stack := .ref T.heap.size :: .ref T.heap.size :: rest, locked := none }) rfl hsize rfl rfl (rest := rest) rfl
    (by rw [hb]; exact d4) (by rw [hb]; exact d7) hout hRframes (by simp only [List.map_cons, List.sum_cons, hcat]; omega) hlocks
  obtain ⟨f1, f2⟩ := vx_frame hsame
  rw [hhp] at f1 f2
  have hWs : s.WarmedH U.vm := State.WarmedH.trans hW0 hW
  have hcl : s.vm.findClass cls = some ce.cls := by
    have h9 := hO.cls
    rw [hvm] at h9
    exact h9
  have hall : s.sameButNew ({ U with vm := s.vm } : State) locs mc ms := by
    subst hA
    obtain ⟨e1, e2⟩ := hsame
    rw [State.setFrames_setFrames] at e1
    have h2 : (T.setVm s.vm).sameButNew ({ U with vm := s.vm } : State) [] (0 + 1) (0 + 6) := ⟨e1, e2⟩
    have h3 := X.same.trans h2
    rw [List.append_nil] at h3
    exact h3.mono hc hs
  refine ⟨U, ?_, .threw T.heap.size, hrun, hend, Or.inr ⟨T.heap.size, rfl, cls, ce, locs, hx U hWs.alike f1 (fun q hq => f2 q hq (fun z hz => nomatch hz)), hce, hO.vm, hcl, hWs, hall, hf⟩⟩
  refine st1 _ ?_
  show Steps p.tables e below (T1.setTop { method := m, pc := pc + 3, locals := ls, stack := .ref T.heap.size :: rest, locked := none }) _
  jvm_step X₁.here [X₁.here.top, hexec, d3', Value.category]
  exact hsteps
/-- 'throw new E("text")': new; dup; ldc; invokespecial; athrow -/
theorem vx_throwS {cc : ByteArray} {pc : Nat} (hexec : p.tables.exec = Jvm.exec) (hb : c.code = cc) (hl : l.stackTraces = false) {own cls text : String} {names : List String} {ik is ic mc ms sa : Nat} {A : Nat → Prop}
    (hown : s.vm.findClass own = some m.cls) (hcls : Bundle.fit cls = true) (hnames : ∀ n ∈ names, Bundle.fit n = true)
    (hk : (Cond.classLink own ik cls).before args s = true) (hini : (Cond.initialized cls).before args s = true) (hstr : vk_R own is text sa s) (hat : ∀ w ∈ vx_atS own ic cls names, w.before args s = true)
    (hgood : ∀ w ∈ Cond.classLink own ik cls :: Cond.initialized cls :: vx_atS own ic cls names, vx_ot w = true)
    (hU : vx_Zq Bundle.tN "UNASSIGNED_STACK" Bundle.steD A s s.heap) (hN : vx_Zq Bundle.tN "SUPPRESSED_SENTINEL" Bundle.listD A s s.heap) (hS : va_S A s.heap H locs) (hsize : ls.size = c.maxLocals)
    (d0 : decode cc pc = .ok (.new ik, 3)) (d3 : decode cc (pc + 3) = .ok (.dup, 1)) (d4 : decode cc (pc + 4) = .ok (.ldc is, 2)) (d6 : decode cc (pc + 6) = .ok (.invokespecial ic, 3)) (d9 : decode cc (pc + 9) = .ok (.athrow, 1))
    (hout : ∀ x ∈ c.exceptionTable.toList, covers x (pc + 9) = false)
    (hRframes : names.length + 3 < R.frames) (hRlocals : (rest.map fun v => v.category).sum + (13 * (names.length + 1) + 43) ≤ R.locals) (hRcells : cells + 1 ≤ R.cells) (hRslots : slots + 6 ≤ R.slots) (hlocks : meth.locks = false)
    (hx : ∀ t : State, s.vm.Alike t.vm → H.size ≤ t.heap.size → (∀ q : Nat, q < H.size → t.heap[q]? = H[q]?) → XC cls s t)
    (hf : ∀ z ∈ locs, free z.base) (hc : cells + 1 ≤ mc) (hs : slots + 6 ≤ ms) :
    W p l e R s m args below meth c H locs cells slots (vx_MQ below Qc XC args s mc ms free) (F0 m pc ls rest) := by
  intro T hT X
  have htr : e.platform.stackTraces = false := (show e.platform.stackTraces = l.stackTraces by rw [X.admits.platform]).trans hl
  have Y := vx_rebase X (R' := { frames := R.frames, locals := R.locals, cells := 1, slots := 6 }) (Nat.le_refl _) (Nat.le_refl _) hRcells hRslots
  obtain ⟨s', hA⟩ : ∃ z, z = (T.setVm s.vm).setFrames (.invoking m args :: below) := ⟨_, rfl⟩
  rw [← hA] at Y
  have hvm : s'.vm = s.vm := by rw [hA]; rfl
  have hhp : s'.heap = H := by rw [hA]; exact hT
  have hW0 : s.WarmedH s'.vm := by rw [hvm]; exact State.WarmedH.refl s
  have hat' : ∀ w ∈ vx_atS own ic cls names, w.before args s' = true := fun w hw => vx_ot_at hW0 hvm.symm (hgood w (List.mem_cons_of_mem _ (List.mem_cons_of_mem _ hw))) (hat w hw)
  have hk' : (Cond.classLink own ik cls).before args s' = true := vx_ot_at hW0 hvm.symm (hgood _ List.mem_cons_self) hk
  have hini' : (Cond.initialized cls).before args s' = true := vx_ot_at hW0 hvm.symm (hgood _ (List.mem_cons_of_mem _ List.mem_cons_self)) hini
  have hU' : vx_Zq Bundle.tN "UNASSIGNED_STACK" Bundle.steD A s' s'.heap := by rw [hhp]; exact vx_Zq.moved hW0.alike (hU.kept hS.2.1)
  have hN' : vx_Zq Bundle.tN "SUPPRESSED_SENTINEL" Bundle.listD A s' s'.heap := by rw [hhp]; exact vx_Zq.moved hW0.alike (hN.kept hS.2.1)
  have h : ∀ w ∈ Bundle.ownAtoms own ic cls names, w.before args s' = true := vx_own hat' (vx_isRefq hU'.1) (vx_isRefq hN'.1) hU'.2.word hN'.2.word
  have hown' : s'.vm.findClass own = some m.cls := by rw [hvm]; exact hown
  have hins : (Cond.instantiable cls 6).before args s' = true := h _ (by simp [Bundle.ownAtoms])
  obtain ⟨vm₁, cX, kX, hfX, hkX, -, -, X₁, st1⟩ := Y.newCold hexec (own := own) (C := cls) (index := ik) (n := 6) hown' hk' hins hini'
    (g := F0 m pc ls rest) rfl (by rw [hb]; exact d0) (Nat.le_refl _) (Nat.le_refl _)
  generalize hT1 : (T.setVm vm₁).pushCell { cls := cX, slots := kX.instanceTypes.map defaultValue, vm := .none } = T1 at X₁ st1
  have hcat : (Value.ref T.heap.size).category = 1 := rfl
  have hcellA : T1.heap[T.heap.size]? = some (freshCell cX kX) := by rw [← hT1]; exact State.heap_pushCell_size _ _
  have d3' : decode c.code (pc + 3) = .ok (.dup, 1) := by rw [hb]; exact d3
  have d4' : decode c.code (pc + 4) = .ok (.ldc is, 2) := by rw [hb]; exact d4
  have hstr' : vk_R own is text sa s' := vk_R.warm hW0 hstr
  obtain ⟨U, hsteps, hrun, hend, hW, hsame, ce, hce, hO⟩ := X₁.ctorThrowS hexec htr (own := own) (cls := cls) (names := names) (ic := ic) hown' hcls hnames h (fun x hx => nomatch hx) hfX hkX hcellA (by rw [hhp, hT]; exact Nat.le_refl _) (msg := .ref sa) rfl
    (g := { method := m, pc := pc + 6, locals := ls, stack := .ref sa :: .ref T.heap.size :: .ref T.heap.size :: rest, locked := none }) rfl hsize rfl rfl (rest := rest) rfl
    (by rw [hb]; exact d6) (by rw [hb]; exact d9) hout hRframes (by simp only [List.map_cons, List.sum_cons, hcat]; omega) hlocks
  obtain ⟨f1, f2⟩ := vx_frame hsame
  rw [hhp] at f1 f2
  have hWs : s.WarmedH U.vm := State.WarmedH.trans hW0 hW
  have hcl : s.vm.findClass cls = some ce.cls := by
    have h9 := hO.cls
    rw [hvm] at h9
    exact h9
  have hall : s.sameButNew ({ U with vm := s.vm } : State) locs mc ms := by
    subst hA
    obtain ⟨e1, e2⟩ := hsame
    rw [State.setFrames_setFrames] at e1
    have h2 : (T.setVm s.vm).sameButNew ({ U with vm := s.vm } : State) [] (0 + 1) (0 + 6) := ⟨e1, e2⟩
    have h3 := X.same.trans h2
    rw [List.append_nil] at h3
    exact h3.mono hc hs
  refine ⟨U, ?_, .threw T.heap.size, hrun, hend, Or.inr ⟨T.heap.size, rfl, cls, ce, locs, hx U hWs.alike f1 (fun q hq => f2 q hq (fun z hz => nomatch hz)), hce, hO.vm, hcl, hWs, hall, hf⟩⟩
  refine st1 _ ?_
  show Steps p.tables e below (T1.setTop { method := m, pc := pc + 3, locals := ls, stack := .ref T.heap.size :: rest, locked := none }) _
  jvm_step X₁.here [X₁.here.top, hexec, d3', Value.category]
  exact X₁.ldcString hexec (own := own) (text := text) (index := is) (a := sa) hown' hstr'.1 hstr'.2
    (g := { method := m, pc := pc + 4, locals := ls, stack := .ref T.heap.size :: .ref T.heap.size :: rest, locked := none }) rfl d4' _ hsteps
/-- 'throw new E("text")', the text by a wide index -/
theorem vx_throwSW {cc : ByteArray} {pc : Nat} (hexec : p.tables.exec = Jvm.exec) (hb : c.code = cc) (hl : l.stackTraces = false) {own cls text : String} {names : List String} {ik is ic mc ms sa : Nat} {A : Nat → Prop}
    (hown : s.vm.findClass own = some m.cls) (hcls : Bundle.fit cls = true) (hnames : ∀ n ∈ names, Bundle.fit n = true)
    (hk : (Cond.classLink own ik cls).before args s = true) (hini : (Cond.initialized cls).before args s = true) (hstr : vk_R own is text sa s) (hat : ∀ w ∈ vx_atS own ic cls names, w.before args s = true)
    (hgood : ∀ w ∈ Cond.classLink own ik cls :: Cond.initialized cls :: vx_atS own ic cls names, vx_ot w = true)
    (hU : vx_Zq Bundle.tN "UNASSIGNED_STACK" Bundle.steD A s s.heap) (hN : vx_Zq Bundle.tN "SUPPRESSED_SENTINEL" Bundle.listD A s s.heap) (hS : va_S A s.heap H locs) (hsize : ls.size = c.maxLocals)
    (d0 : decode cc pc = .ok (.new ik, 3)) (d3 : decode cc (pc + 3) = .ok (.dup, 1)) (d4 : decode cc (pc + 4) = .ok (.ldc_w is, 3)) (d7 : decode cc (pc + 7) = .ok (.invokespecial ic, 3)) (d10 : decode cc (pc + 10) = .ok (.athrow, 1))
    (hout : ∀ x ∈ c.exceptionTable.toList, covers x (pc + 10) = false)
    (hRframes : names.length + 3 < R.frames) (hRlocals : (rest.map fun v => v.category).sum + (13 * (names.length + 1) + 43) ≤ R.locals) (hRcells : cells + 1 ≤ R.cells) (hRslots : slots + 6 ≤ R.slots) (hlocks : meth.locks = false)
    (hx : ∀ t : State, s.vm.Alike t.vm → H.size ≤ t.heap.size → (∀ q : Nat, q < H.size → t.heap[q]? = H[q]?) → XC cls s t)
    (hf : ∀ z ∈ locs, free z.base) (hc : cells + 1 ≤ mc) (hs : slots + 6 ≤ ms) :
    W p l e R s m args below meth c H locs cells slots (vx_MQ below Qc XC args s mc ms free) (F0 m pc ls rest) := by
  intro T hT X
  have htr : e.platform.stackTraces = false := (show e.platform.stackTraces = l.stackTraces by rw [X.admits.platform]).trans hl
  have Y := vx_rebase X (R' := { frames := R.frames, locals := R.locals, cells := 1, slots := 6 }) (Nat.le_refl _) (Nat.le_refl _) hRcells hRslots
  obtain ⟨s', hA⟩ : ∃ z, z = (T.setVm s.vm).setFrames (.invoking m args :: below) := ⟨_, rfl⟩
  rw [← hA] at Y
  have hvm : s'.vm = s.vm := by rw [hA]; rfl
  have hhp : s'.heap = H := by rw [hA]; exact hT
  have hW0 : s.WarmedH s'.vm := by rw [hvm]; exact State.WarmedH.refl s
  have hat' : ∀ w ∈ vx_atS own ic cls names, w.before args s' = true := fun w hw => vx_ot_at hW0 hvm.symm (hgood w (List.mem_cons_of_mem _ (List.mem_cons_of_mem _ hw))) (hat w hw)
  have hk' : (Cond.classLink own ik cls).before args s' = true := vx_ot_at hW0 hvm.symm (hgood _ List.mem_cons_self) hk
  have hini' : (Cond.initialized cls).before args s' = true := vx_ot_at hW0 hvm.symm (hgood _ (List.mem_cons_of_mem _ List.mem_cons_self)) hini
  have hU' : vx_Zq Bundle.tN "UNASSIGNED_STACK" Bundle.steD A s' s'.heap := by rw [hhp]; exact vx_Zq.moved hW0.alike (hU.kept hS.2.1)
  have hN' : vx_Zq Bundle.tN "SUPPRESSED_SENTINEL" Bundle.listD A s' s'.heap := by rw [hhp]; exact vx_Zq.moved hW0.alike (hN.kept hS.2.1)
  have h : ∀ w ∈ Bundle.ownAtoms own ic cls names, w.before args s' = true := vx_own hat' (vx_isRefq hU'.1) (vx_isRefq hN'.1) hU'.2.word hN'.2.word
  have hown' : s'.vm.findClass own = some m.cls := by rw [hvm]; exact hown
  have hins : (Cond.instantiable cls 6).before args s' = true := h _ (by simp [Bundle.ownAtoms])
  obtain ⟨vm₁, cX, kX, hfX, hkX, -, -, X₁, st1⟩ := Y.newCold hexec (own := own) (C := cls) (index := ik) (n := 6) hown' hk' hins hini'
    (g := F0 m pc ls rest) rfl (by rw [hb]; exact d0) (Nat.le_refl _) (Nat.le_refl _)
  generalize hT1 : (T.setVm vm₁).pushCell { cls := cX, slots := kX.instanceTypes.map defaultValue, vm := .none } = T1 at X₁ st1
  have hcat : (Value.ref T.heap.size).category = 1 := rfl
  have hcellA : T1.heap[T.heap.size]? = some (freshCell cX kX) := by rw [← hT1]; exact State.heap_pushCell_size _ _
  have d3' : decode c.code (pc + 3) = .ok (.dup, 1) := by rw [hb]; exact d3
  have d4' : decode c.code (pc + 4) = .ok (.ldc_w is, 3) := by rw [hb]; exact d4
  have hstr' : vk_R own is text sa s' := vk_R.warm hW0 hstr
  obtain ⟨U, hsteps, hrun, hend, hW, hsame, ce, hce, hO⟩ := X₁.ctorThrowS hexec htr (own := own) (cls := cls) (names := names) (ic := ic) hown' hcls hnames h (fun x hx => nomatch hx) hfX hkX hcellA (by rw [hhp, hT]; exact Nat.le_refl _) (msg := .ref sa) rfl
    (g := { method := m, pc := pc + 7, locals := ls, stack := .ref sa :: .ref T.heap.size :: .ref T.heap.size :: rest, locked := none }) rfl hsize rfl rfl (rest := rest) rfl
    (by rw [hb]; exact d7) (by rw [hb]; exact d10) hout hRframes (by simp only [List.map_cons, List.sum_cons, hcat]; omega) hlocks
  obtain ⟨f1, f2⟩ := vx_frame hsame
  rw [hhp] at f1 f2
  have hWs : s.WarmedH U.vm := State.WarmedH.trans hW0 hW
  have hcl : s.vm.findClass cls = some ce.cls := by
    have h9 := hO.cls
    rw [hvm] at h9
    exact h9
  have hall : s.sameButNew ({ U with vm := s.vm } : State) locs mc ms := by
    subst hA
    obtain ⟨e1, e2⟩ := hsame
    rw [State.setFrames_setFrames] at e1
    have h2 : (T.setVm s.vm).sameButNew ({ U with vm := s.vm } : State) [] (0 + 1) (0 + 6) := ⟨e1, e2⟩
    have h3 := X.same.trans h2
    rw [List.append_nil] at h3
    exact h3.mono hc hs
  refine ⟨U, ?_, .threw T.heap.size, hrun, hend, Or.inr ⟨T.heap.size, rfl, cls, ce, locs, hx U hWs.alike f1 (fun q hq => f2 q hq (fun z hz => nomatch hz)), hce, hO.vm, hcl, hWs, hall, hf⟩⟩
  refine st1 _ ?_
  show Steps p.tables e below (T1.setTop { method := m, pc := pc + 3, locals := ls, stack := .ref T.heap.size :: rest, locked := none }) _
  jvm_step X₁.here [X₁.here.top, hexec, d3', Value.category]
  exact X₁.ldcStringW hexec (own := own) (text := text) (index := is) (a := sa) hown' hstr'.1 hstr'.2
    (g := { method := m, pc := pc + 4, locals := ls, stack := .ref T.heap.size :: .ref T.heap.size :: rest, locked := none }) rfl d4' _ hsteps
end Ends
section Bodies
variable {l : Launch}
theorem vx_ofW {y : MethodName} {ws ws' : List Cond} {rm : Room} {Pc : Array Value → State → Prop} {Qc : Array Value → State → Outcome → State → Prop} {XC : String → State → State → Prop} {mc ms : Nat} {free : Addr → Prop} {cc : ByteArray} {maxL : Nat} {ret : Option FieldType}
    (hy : plainName y.cls = true) (hw : ws = Cond.code y cc maxL ret :: ws')
    (body : ∀ p e s m args below meth c s₁, BodyLoose p l y (headSpec ws rm) cc maxL ret e s m args below meth c s₁ → c.maxLocals = maxL → (∀ x ∈ c.exceptionTable.toList, False) → Pc args s →
      W p l e (headSpec ws rm).room s m args below meth c s.heap [] 0 0 (vx_MQ below Qc XC args s mc ms free) (entryFrame m args maxL)) : vx_Met l y ws rm Pc Qc XC mc ms free := by
  refine MetFree.of_bodyS (code := cc) (maxLocals := maxL) (ret := ret) hy ?_ ?_
  · intro args s m h hn
    obtain ⟨meth, c, h1, h2, h3, h4, h5, h6, -, -⟩ := Cond.code_spec hn (atoms_spec (ws := ws) h _ (by rw [hw]; exact List.mem_cons_self))
    exact ⟨meth, c, h1, h2, h3, h4, h5, h6⟩
  · intro p e s m args below meth c s₁ B hml hP _
    have hh0 : s₁.heap = s.heap := by rw [B.state]; rfl
    have ht : ∀ x ∈ c.exceptionTable.toList, False := by
      obtain ⟨meth9, c9, h1, h2, -, -, -, -, h7, -⟩ := Cond.code_spec B.named (atoms_spec (ws := ws) B.pre _ (by rw [hw]; exact List.mem_cons_self))
      cases Option.some.inj (h1.symm.trans B.method)
      cases Option.some.inj (h2.symm.trans (Stand.of_body B).code)
      intro x hx
      rw [Array.isEmpty_iff.mp h7] at hx
      cases hx
    obtain ⟨t, a1, o, b1, b2, b3⟩ := body p e s m args below meth c s₁ B hml ht hP s₁ hh0 (Stand.of_body B)
    exact ⟨t, o, a1, b1, b2, b3⟩
/-- the table of a body with handlers -/
theorem vx_table {p : Program} {x y : MethodName} {S : Spec} {cc bytes : ByteArray} {maxL maxL' : Nat} {ret ret' : Option FieldType} {e : Env} {s s₁ : State} {m : MethodId} {args : Array Value} {below : List Frame} {meth : Method} {c : Code} {hh : List (Nat × Nat × Nat × Nat)}
    (B : BodyLoose p l y S cc maxL ret e s m args below meth c s₁) (h : (Cond.codeWith y bytes maxL' ret' hh).before args s = true) : c.exceptionTable.toList = tableOf hh := by
  obtain ⟨m9, meth9, c9, hn9, h1, h2, -, -, h6, -⟩ := Cond.codeWith_spec h
  cases Option.some.inj (hn9.symm.trans B.named)
  cases Option.some.inj (h1.symm.trans B.method)
  cases Option.some.inj (h2.symm.trans (Stand.of_body B).code)
  rw [← h6, table_eq]
end Bodies
end VXA
/-! ===== END ===== -/
/-! ===== BEGIN a static call of a method with an exception table ===== -/
section VXS
variable {p : Program} {l : Launch} {e : Env} {R : Room} {s : State} {m : MethodId} {args : Array Value} {below : List Frame} {meth : Method} {c : Code} {T : State} {H : Heap} {locs : List Loc} {cells slots : Nat}
abbrev vx_CSW (R : Room) (s : State) (args : Array Value) (own : String) (index : Nat) (y : MethodName) (bytes : ByteArray) (maxL : Nat) (ret : Option FieldType) (hh : List (Nat × Nat × Nat × Nat)) (ws : List Cond) (rm : Room) (mc ms n : Nat) : Prop :=
  (rm.cells = mc ∧ rm.slots = ms ∧ rm.frames + 1 ≤ R.frames ∧ 8 + (maxL + 11) + rm.locals ≤ R.locals ∧ (∀ w ∈ ws, ∀ (a' : Array Value) (U : State), s.WarmedH U.vm → w.before a' U = true) ∧ Cond.codeWith y bytes maxL ret hh ∈ ws) ∧
  (Cond.codeWith y bytes maxL ret hh).before args s = true ∧ (Cond.initialized y.cls).before args s = true ∧ (y.cls ≠ "java/lang/invoke/MethodHandle" ∧ y.cls ≠ "java/lang/invoke/VarHandle") ∧
  (∀ sig, parseMethodDescriptor y.desc = some sig → n = sig.parameters.length) ∧ (Cond.methodLink own index y).before args s = true ∧ (Cond.static y).before args s = true
theorem vx_cwSW {own : String} {index maxL mc ms : Nat} {y : MethodName} {bytes : ByteArray} {ret : Option FieldType} {hh : List (Nat × Nat × Nat × Nat)} {Ts ws ws' : List Cond} {rm : Room} (n : Nat) (ht : ∀ w ∈ Ts, w.before args s = true) (hT : GoodIn Ts (va_wsS own index y ws)) (hw : ws = Cond.codeWith y bytes maxL ret hh :: ws') (hrc : rm.cells = mc) (hrs : rm.slots = ms)
    (hd : y.cls ≠ "java/lang/invoke/MethodHandle" ∧ y.cls ≠ "java/lang/invoke/VarHandle" ∧ (parseMethodDescriptor y.desc).map (fun d => d.parameters.length) = some n) (hR : rm.frames + 1 ≤ R.frames ∧ 8 + (maxL + 11) + rm.locals ≤ R.locals) :
    vx_CSW R s args own index y bytes maxL ret hh ws rm mc ms n := by
  have ok : ∀ w ∈ va_wsS own index y ws, w.before args s = true := fun w h => ht w (hT w h).1
  have hG : GoodIn Ts ws := fun w h => hT w (by unfold va_wsS; exact List.mem_append_right _ h)
  have hc : Cond.codeWith y bytes maxL ret hh ∈ ws := by rw [hw]; exact List.mem_cons_self
  refine ⟨⟨hrc, hrs, hR.1, hR.2, pay_in ht hG, hc⟩, ht _ (hG _ hc).1, ok _ (by simp [va_wsS]), ⟨hd.1, hd.2.1⟩, fun sig h => ?_, ok _ (by simp [va_wsS]), ok _ (by simp [va_wsS])⟩
  have h2 := hd.2.2
  rw [h] at h2
  exact (Option.some.inj h2).symm
theorem vx_callSW (X : Stand p l e R s m args below meth c T locs cells slots) (hexec : p.tables.exec = Jvm.exec) {own : String} {index : Nat} {y : MethodName} {bytes : ByteArray} {maxL : Nat} {ret : Option FieldType} {hh : List (Nat × Nat × Nat × Nat)}
    (hown : s.vm.findClass own = some m.cls) (hlink : (Cond.methodLink own index y).before args s = true) (hstat : (Cond.static y).before args s = true) (hinit : (Cond.initialized y.cls).before args s = true)
    (hcode : (Cond.codeWith y bytes maxL ret hh).before args s = true) (hy : y.cls ≠ "java/lang/invoke/MethodHandle" ∧ y.cls ≠ "java/lang/invoke/VarHandle")
    {W9 : Nat} {Pre : Pt → Array Value → Prop} {Post : Pt → Array Value → Option Value → Pt → Prop} (hK : Back l R p e below s args y 3 W9 Pre Post)
    {g : JFrame} (hg : g.method = m) (hsize : g.locals.size = c.maxLocals) {argsL rest : List Value} (hlen : ∀ sig, parseMethodDescriptor y.desc = some sig → argsL.length = sig.parameters.length)
    (hstack : g.stack = argsL.reverse ++ rest) (hW : 2 * g.monitorRoom + (rest.map fun v => v.category).sum ≤ W9) (hdg : decode c.code g.pc = .ok (.invokestatic index, 3))
    (hpre : ∀ vm₁, s.WarmedH vm₁ → Pre ⟨T.setVm vm₁, locs, cells, slots⟩ argsL.toArray) :
    ∃ (v : Option Value) (vm₁ : Vm) (B : Pt), s.WarmedH vm₁ ∧ Stand p l e R s m args below meth c B.U B.locs B.cells B.slots ∧ Post ⟨T.setVm vm₁, locs, cells, slots⟩ argsL.toArray v B ∧
      ∀ target, Steps p.tables e below (B.U.setTop { g with pc := g.pc + 3, stack := v.toList ++ rest }) target → Steps p.tables e below (T.setTop g) target := by
  obtain ⟨mk, methM, cM, hnamed, hmethM, -, -, -, -, -, -, hsigM⟩ := Cond.codeWith_spec hcode
  have hstatic : methM.isStatic = true := Cond.static_spec hnamed hmethM hstat
  obtain ⟨kP, hkP, -⟩ := className_of_methodNamed hnamed
  have hinitP : kP.init = .initialized := Cond.initialized_spec (findClass_of_methodNamed hnamed) hkP hinit
  obtain ⟨vm₁, X₁, hstep₁⟩ := X.invokestatic hexec hown hlink hnamed hmethM hstatic hkP hinitP hy (g := g) hg (argsL := argsL) (rest := rest) (hlen _ hsigM) hstack hdg
  obtain ⟨v, B, X', hpost, hsteps⟩ := hK m meth c ⟨T.setVm vm₁, locs, cells, slots⟩ { g with stack := rest } (.invokestatic index) mk argsL.toArray X₁ hg hsize hdg hW (X₁.named hnamed) (hpre vm₁ X₁.warmed)
  exact ⟨v, vm₁, B, X₁.warmed, X', hpost, fun target h => hstep₁ _ fun acts => by rw [doInvoke_state]; exact hsteps.trans h⟩
theorem vx_runSW {y : MethodName} {bytes cc : ByteArray} {maxL nL mc ms n index : Nat} {ret : Option FieldType} {hh : List (Nat × Nat × Nat × Nat)} {ws : List Cond} {rm : Room} {Pc : Array Value → State → Prop} {Qc : Array Value → State → Outcome → State → Prop} {free : Addr → Prop} {Ts : List Cond} {own : String} {As rest : List Value} {g : JFrame}
    (S : CallFix p m c cc nL s args Ts own) (hM : Met l y ws rm Pc Qc mc ms free) (cw : vx_CSW R s args own index y bytes maxL ret hh ws rm mc ms n) (hp : PreS s H Pc As)
    (hg : g.method = m) (hn : As.length = n) (hsize : g.locals.size = nL) (hstack : g.stack = As.reverse ++ rest) (hW : 2 * g.monitorRoom + (rest.map fun v => v.category).sum ≤ 8) (hdg : decode cc g.pc = .ok (.invokestatic index, 3)) (hf : cells + mc ≤ R.cells ∧ slots + ms ≤ R.slots) :
    va_Run p l e R s m args below meth c H locs cells slots mc ms g rest (Qc As.toArray) (free) := by
  obtain ⟨⟨hrc, hrs, hfr, hlo, hws, hcw⟩, hcode, hini, hy, hlen, hl, hstt⟩ := cw
  have hK : Back l R p e below s args y 3 8 (PreOf R mc ms Pc) (PostOf Qc mc ms free) := va_backW (hh := hh) (bytes := bytes) (maxL := maxL) (ret := ret) hM hp.1 hrc hrs hfr hlo hws hcw (fun a' U hW => word_at hW (Or.inl (by first | rfl | simp [Cond.onTables, Cond.keeps, Cond.steady])) hini)
  obtain ⟨hx, hb, hml, ho, -⟩ := S
  intro T hT X
  obtain ⟨v, vm₁, ⟨U', l2, c2, s2⟩, hW₁, X', ⟨g', mk, t, L, e1, e2, hq, h1, hL, h2, h3⟩, st⟩ := vx_callSW X hx (hh := hh) (bytes := bytes) (maxL := maxL) (ret := ret) ho hl hstt hini hcode hy hK hg (hsize.trans hml.symm) (argsL := As) (rest := rest) (fun sig h => hn.trans (hlen sig h)) hstack hW (by rw [hb]; exact hdg)
    (fun vm₁ hW₁ => ⟨hf.1, hf.2, hp.2 (T.setVm vm₁) hT hW₁⟩)
  dsimp only [Pt.U, Pt.locs, Pt.cells, Pt.slots] at X' e1 e2 h1 h2 h3 st
  subst h1; subst h2; subst h3
  exact ⟨v, (T.setVm vm₁).calling g' mk As.toArray, t, U', L, hT, X', hL, e1, e2, hq, st⟩
/-- not caught here, past rows that name other classes: it goes on to the caller -/
theorem vx_outP {p : Program} {l : Launch} {e : Env} {R : Room} {s : State} {m : MethodId} {args : Array Value} {below : List Frame} {meth : Method} {c : Code} {H : Heap} {locs : List Loc} {cells slots : Nat} {free : Addr → Prop} {ls : Array Slot} {rest : List Value} {Qc : Array Value → State → Outcome → State → Prop} {XC : String → State → State → Prop}
    {pc : Nat} {own E : String} {ce : Cell} {q : Addr} {mc ms : Nat} (hown : s.vm.findClass own = some m.cls) (hlocks : meth.locks = false)
    (hpass : ∀ z ∈ c.exceptionTable.toList, covers z pc = false ∨ (z.catchType ≠ 0 ∧ ∃ nm : String, (Cond.classLink own z.catchType nm).before args s = true ∧ va_Nc E nm s)) (hcell : H[q]? = some ce) (hv : ce.vm = .none) (hcl : s.vm.findClass E = some ce.cls)
    (hx : ∀ t : State, t.heap = H → s.vm.Alike t.vm → XC E s t) (hf : ∀ z ∈ locs, free z.base) (hc : cells ≤ mc) (hs : slots ≤ ms) :
    vx_W p l e R s m args below meth c H locs cells slots (vx_MQ below Qc XC args s mc ms free) (F0 m pc ls rest) q := by
  intro T hT X
  have hpl : e.platform.magicAccessors = ({} : Platform).magicAccessors := by rw [X.admits.platform]
  obtain ⟨vm', hW', X', st⟩ := X.outThrough hlocks q (g := F0 m pc ls rest) rfl rfl rfl (cell := ce) (by rw [hT]; exact hcell) (by rw [hv]; rfl)
    (by obtain ⟨k9, h9, -⟩ := Vm.findClass_spec hcl; exact ⟨k9, h9⟩) (fun z hz => by
      rcases hpass z hz with h | ⟨hz0, nm, hl1, hn1⟩
      · exact Or.inl h
      · obtain ⟨c6, hc6, hcl6⟩ := Cond.classLink_spec hown hl1 e.platform hpl
        obtain ⟨a8, b8, h1, h2, h3⟩ := hn1
        cases Option.some.inj (h1.symm.trans hcl)
        cases Option.some.inj (h2.symm.trans hc6)
        exact Or.inr ⟨hz0, _, hcl6, h3⟩)
  obtain ⟨g₀, hfr⟩ := X'.frames_eq
  have hcell9 : ((T.setVm vm').setFrames (.throwing q :: below)).heap[q]? = some ce := by
    show T.heap[q]? = some ce
    rw [hT]; exact hcell
  have hend : Ended ((T.setVm vm').setFrames (.throwing q :: below)) below (.threw q) := State.frames_setFrames _ (State.cur_lt_of_frames hfr)
  refine ⟨(T.setVm vm').setFrames (.throwing q :: below), ?_, .threw q, X'.here.running, hend, Or.inr ⟨q, rfl, E, ce, locs, hx _ hT (X'.ends _).1.alike, hcell9, hv, hcl, (X'.ends _).1, (X'.ends _).2.mono hc hs, hf⟩⟩
  rw [X.pushThrowing_eq]
  exact st
/-- a thing of a world lies in the heap -/
theorem vx_lt {D : va_G} {cl : List vw_C} {ws : va_W} {H1 : Heap} (h : va_P D cl ws H1) {k : Nat} {q : Nat × va_E} (hk : ws[k]? = some q) : q.1 < H1.size := (h k q hk).lt
end VXS
/-! ===== END ===== -/
/-! ===== BEGIN methods with a table of their own: called by a name, returning or throwing ===== -/
section VXH
/-! vx_backW, vx_callVX, vx_callSX, vx_callVW, vx_runVW, vx_runVX, vx_runSX, vx_ofWH follow the same proofs as their sisters above (Free/Laws.lean, Shelf42/LK1.lean); vx_outP calls Shelf42/NT130.lean (outThrough). -/
section
variable {l : Launch} {R : Room} {p : Program} {e : Env} {below : List Frame} {s : State} {sargs : Array Value} {y : MethodName} {len W9 : Nat}
theorem vx_backW {ws : List Cond} {rm : Room} {Pc : Array Value → State → Prop} {Qc : Array Value → State → Outcome → State → Prop} {XC : String → State → State → Prop} {mc ms : Nat} {free : Addr → Prop} {bytes : ByteArray} {maxL : Nat} {ret : Option FieldType} {hh : List (Nat × Nat × Nat × Nat)}
    (hM : vx_Met l y ws rm Pc Qc XC mc ms free) (hblind : FrameBlind Pc) (hrc : rm.cells = mc) (hrs : rm.slots = ms)
    (hframes : rm.frames + 1 ≤ R.frames) (hlocals : W9 + (maxL + 11) + rm.locals ≤ R.locals)
    (hws : ∀ w ∈ ws, ∀ a' U, s.WarmedH U.vm → w.before a' U = true) (hcode : Cond.codeWith y bytes maxL ret hh ∈ ws) (hinit : ∀ a' U, s.WarmedH U.vm → (Cond.initialized y.cls).before a' U = true) :
    vx_Back l R p e below s sargs y len W9 (PreOf R mc ms Pc) (PostOf Qc mc ms free) (vx_Post XC mc ms free) := by
  intro m meth c A g ig mk a X hg hsize hdg hW hn hp
  have h1 : (headSpec ws rm).pre.before a A.U = true := atoms_intro fun w hw => hws w hw _ _ X.warmed
  have h2 : (Cond.codeWith y bytes maxL ret hh).before a A.U = true := hws _ hcode _ _ X.warmed
  have h3 : (Cond.initialized y.cls).before a A.U = true := hinit _ _ X.warmed
  have h4 : A.cells + (headSpec ws rm).room.cells ≤ R.cells := by rw [show (headSpec ws rm).room.cells = mc from hrc]; exact hp.1
  have h5 : A.slots + (headSpec ws rm).room.slots ≤ R.slots := by rw [show (headSpec ws rm).room.slots = ms from hrs]; exact hp.2.1
  have hPc : Pc a (A.U.calling g mk a) := hblind _ _ _ _ hp.2.2
  obtain ⟨U, Ls, c0, s0⟩ := A
  dsimp only [Pt.U, Pt.locs, Pt.cells, Pt.slots] at h1 h2 h3 h4 h5 X hn hPc ⊢
  obtain ⟨m9, methY, cY, hn9, hmY, hcY, -, hlY, -⟩ := Cond.codeWith_spec h2
  cases Option.some.inj (hn9.symm.trans hn)
  obtain ⟨kY, hkY, -⟩ := className_of_methodNamed hn
  have hinitY : kY.init = .initialized := Cond.initialized_spec (findClass_of_methodNamed hn) hkY h3
  have h : At U g.method c below := by rw [hg]; exact X.here
  have hlocals9 : W9 + (maxL + 11) + (headSpec ws rm).room.locals ≤ R.locals := hlocals
  have happ : (headSpec ws rm).appliesLoose y e.platform (U.calling g mk a) = true :=
    Spec.appliesLoose_calling (g := g) h hdg hn hkY hinitY
      (X.room_calling (g := g) (R' := (headSpec ws rm).room) hsize hmY hcY hframes (by rw [hlY]; omega) h4 h5) h1
  obtain ⟨mid, hmid⟩ := h.above
  have hfr : (U.setTop g).frames = (.java g :: mid) ++ below := by rw [State.frames_setTop' g h.top, hmid]; rfl
  obtain ⟨o, s₂, hsteps, -, hend, hq⟩ := Steps.callFree hM p X.admits X.cas X.clock (acts := []) hfr happ hPc trivial
  have hq' : vx_Q Qc XC mc ms free a (U.calling g mk a) o s₂ := hq
  rw [State.frames_setTop' g h.top] at hend
  obtain ⟨g₀, hg0⟩ := Option.isSome_iff_exists.mp h.top
  obtain ⟨r, hr⟩ := State.topJava?_eq_some.mp hg0
  have hr' : (({ U with heap := s₂.heap, slotsUsed := s₂.slotsUsed } : State).setVm s₂.vm).frames = .java g₀ :: r := hr
  rcases hq' with ⟨hqc, L, hfe, hL⟩ | ⟨q, rfl, E, ce, L, hx, hce, hcv, hcl, hW₂, hsm, hL⟩
  · obtain ⟨⟨v, rfl⟩, hW₂, e2, q2, q3, q4, q5, q6⟩ := id hfe
    have e3 : s₂ = ({ (U.calling g mk a).setFrames s₂.frames with heap := s₂.heap, slotsUsed := s₂.slotsUsed } : State).setVm s₂.vm := by
      have : s₂ = ({ s₂ with vm := (U.calling g mk a).vm } : State).setVm s₂.vm := rfl
      rw [e2] at this
      exact this
    obtain ⟨c₂, i₂, len₂, hc₂, hd₂, hf₂⟩ := hend
    have hW' : U.WarmedH s₂.vm := hW₂
    have hcc : c₂ = c := by
      have h1 : s₂.code? g.method = U.code? g.method := by
        rw [State.code?_eq, State.code?_eq, hW'.alike.method?]
      exact Option.some.inj (hc₂.symm.trans (h1.trans h.code))
    subst hcc
    have hlen : len₂ = len := by rw [hdg] at hd₂; cases hd₂; rfl
    subst hlen
    have hs₂ : s₂ = (({ U with heap := s₂.heap, slotsUsed := s₂.slotsUsed } : State).setVm s₂.vm).setTop { g with pc := g.pc + len₂, stack := v.toList ++ g.stack } := by
      refine e3.trans ?_
      rw [hf₂, State.calling_eq h.top, State.setFrames_setFrames, State.setTop_of_frames _ hr', hr]
      rfl
    have hsame : U.sameButNew ({ U with heap := s₂.heap, slotsUsed := s₂.slotsUsed } : State) L mc ms := by
      refine ⟨?_, q2, q3, q4, q5, q6⟩
      obtain ⟨t, ht, -⟩ := State.frames_cons hr
      show ({ U with heap := s₂.heap, slotsUsed := s₂.slotsUsed } : State) = { U.setFrames U.frames with heap := s₂.heap, slotsUsed := s₂.slotsUsed }
      rw [State.setFrames_self ht]
    subst hg
    refine Or.inl ⟨v, ⟨(({ U with heap := s₂.heap, slotsUsed := s₂.slotsUsed } : State).setVm s₂.vm), Ls ++ L, c0 + mc, s0 + ms⟩,
      ⟨X.admits, X.cas, X.clock, X.frames, X.room, X.hears, X.method, X.code, (X.here.setHeapUsed s₂.heap s₂.slotsUsed).setVm hW'.alike, X.tail, State.WarmedH.trans X.warmed hW', X.limits, X.bytes, X.same.trans (hsame.setVm s.vm)⟩,
      ⟨g, mk, s₂, L, rfl, rfl, hqc, rfl, hL, rfl, rfl⟩, ?_⟩
    show Steps p.tables e below _ ((({ U with heap := s₂.heap, slotsUsed := s₂.slotsUsed } : State).setVm s₂.vm).setTop { g with pc := g.pc + len₂, stack := v.toList ++ g.stack })
    rw [← hs₂]
    exact hsteps
  · obtain ⟨e2, q2, q3, q4, q5, q6⟩ := id hsm
    have e3 : s₂ = ({ (U.calling g mk a).setFrames s₂.frames with heap := s₂.heap, slotsUsed := s₂.slotsUsed } : State).setVm s₂.vm := by
      have : s₂ = ({ s₂ with vm := (U.calling g mk a).vm } : State).setVm s₂.vm := rfl
      rw [e2] at this
      exact this
    have hf₂ : s₂.frames = .throwing q :: .java g :: U.frames.tail := hend
    have hW' : U.WarmedH s₂.vm := hW₂
    have hs₂ : s₂ = ((({ U with heap := s₂.heap, slotsUsed := s₂.slotsUsed } : State).setVm s₂.vm).setTop g).pushFrame (.throwing q) := by
      refine e3.trans ?_
      rw [hf₂, State.calling_eq h.top, State.setFrames_setFrames, State.pushFrame, State.frames_setTop _ hr', State.setTop_of_frames _ hr', State.setFrames_setFrames, hr]
      rfl
    have hsame : U.sameButNew ({ U with heap := s₂.heap, slotsUsed := s₂.slotsUsed } : State) L mc ms := by
      refine ⟨?_, q2, q3, q4, q5, q6⟩
      obtain ⟨t, ht, -⟩ := State.frames_cons hr
      show ({ U with heap := s₂.heap, slotsUsed := s₂.slotsUsed } : State) = { U.setFrames U.frames with heap := s₂.heap, slotsUsed := s₂.slotsUsed }
      rw [State.setFrames_self ht]
    subst hg
    refine Or.inr ⟨q, ⟨(({ U with heap := s₂.heap, slotsUsed := s₂.slotsUsed } : State).setVm s₂.vm), Ls ++ L, c0 + mc, s0 + ms⟩,
      ⟨X.admits, X.cas, X.clock, X.frames, X.room, X.hears, X.method, X.code, (X.here.setHeapUsed s₂.heap s₂.slotsUsed).setVm hW'.alike, X.tail, State.WarmedH.trans X.warmed hW', X.limits, X.bytes, X.same.trans (hsame.setVm s.vm)⟩,
      ⟨g, mk, s₂, L, E, ce, rfl, rfl, hx, hce, hcv, hcl, rfl, hL, rfl, rfl⟩, ?_⟩
    show Steps p.tables e below _ (((({ U with heap := s₂.heap, slotsUsed := s₂.slotsUsed } : State).setVm s₂.vm).setTop g).pushFrame (.throwing q))
    rw [← hs₂]
    exact hsteps
end
variable {p : Program} {l : Launch} {e : Env} {R : Room} {s : State} {m : MethodId} {args : Array Value} {below : List Frame} {meth : Method} {c : Code} {T : State} {H : Heap} {locs : List Loc} {cells slots : Nat}
theorem vx_callVX (X : Stand p l e R s m args below meth c T locs cells slots) (hexec : p.tables.exec = Jvm.exec) {own C : String} {index : Nat} {y : MethodName} {bytes : ByteArray} {maxL : Nat} {ret : Option FieldType} {hh : List (Nat × Nat × Nat × Nat)}
    (hown : s.vm.findClass own = some m.cls) (hlink : (Cond.methodLink own index y).before args s = true) (hinst : (Cond.instanceMethod y).before args s = true) (hsel : (Cond.selects C y y).before args s = true)
    (hcode : (Cond.codeWith y bytes maxL ret hh).before args s = true) (hy : y.cls ≠ "java/lang/invoke/MethodHandle" ∧ y.cls ≠ "java/lang/invoke/VarHandle")
    {W9 : Nat} {Pre : Pt → Array Value → Prop} {Post : Pt → Array Value → Option Value → Pt → Prop} {PostX : Pt → Array Value → Addr → Pt → Prop} (hK : vx_Back l R p e below s args y 3 W9 Pre Post PostX)
    {b : Addr} {cellB : Cell} (hcell : T.heap[b]? = some cellB) (hobj : cellB.vm.isStatics = false) (hcls : s.vm.findClass C = some cellB.cls)
    {g : JFrame} (hg : g.method = m) (hsize : g.locals.size = c.maxLocals) {argsL rest : List Value} (hlen : ∀ sig, parseMethodDescriptor y.desc = some sig → argsL.length = sig.parameters.length)
    (hstack : g.stack = argsL.reverse ++ .ref b :: rest) (hW : 2 * g.monitorRoom + (rest.map fun v => v.category).sum ≤ W9) (hdg : decode c.code g.pc = .ok (.invokevirtual index, 3))
    (hpre : ∀ vm₁, s.WarmedH vm₁ → Pre ⟨T.setVm vm₁, locs, cells, slots⟩ (Value.ref b :: argsL).toArray) :
    (∃ (v : Option Value) (vm₁ : Vm) (B : Pt), s.WarmedH vm₁ ∧ Stand p l e R s m args below meth c B.U B.locs B.cells B.slots ∧ Post ⟨T.setVm vm₁, locs, cells, slots⟩ (Value.ref b :: argsL).toArray v B ∧
      ∀ target, Steps p.tables e below (B.U.setTop { g with pc := g.pc + 3, stack := v.toList ++ rest }) target → Steps p.tables e below (T.setTop g) target) ∨
    (∃ (q : Addr) (vm₁ : Vm) (B : Pt), s.WarmedH vm₁ ∧ Stand p l e R s m args below meth c B.U B.locs B.cells B.slots ∧ PostX ⟨T.setVm vm₁, locs, cells, slots⟩ (Value.ref b :: argsL).toArray q B ∧
      Steps p.tables e below (T.setTop g) ((B.U.setTop { g with stack := rest }).pushFrame (.throwing q))) := by
  obtain ⟨mk, methM, hnamed, hmethM, hstM, habM⟩ := Cond.instanceMethod_spec hinst
  obtain ⟨m8, methM', cM, hn8, hmethM', -, -, -, -, -, -, hsigM⟩ := Cond.codeWith_spec hcode
  cases Option.some.inj (hn8.symm.trans hnamed)
  cases hmethM.symm.trans hmethM'
  obtain ⟨c2, r2, m2, q1, q2, q3, q4, kP, hkP, hkPi⟩ := Cond.selects_spec hsel
  cases hcls.symm.trans q1
  cases (State.methodFound?_of_named hnamed hy).symm.trans q2
  cases hnamed.symm.trans q3
  have hselP : selectMethod e.platform s.vm cellB.cls mk = .method mk := by rw [Launch.admits_selectMethod X.admits]; exact q4
  obtain ⟨vm₁, X₁, hstep₁⟩ := X.invokevirtual hexec hown hlink hnamed hmethM hstM hkP hkPi hy (a := b) (cell := cellB) hcell
    (fun z h => by rw [h] at hobj; cases hobj) hselP hmethM habM hkP hkPi (g := g) hg (argsL := argsL) (rest := rest) (hlen _ hsigM) hstack hdg
  rcases hK m meth c ⟨T.setVm vm₁, locs, cells, slots⟩ { g with stack := rest } (.invokevirtual index) mk (Value.ref b :: argsL).toArray X₁ hg hsize hdg hW (X₁.named hnamed) (hpre vm₁ X₁.warmed) with ⟨v, B, X', hpost, hsteps⟩ | ⟨q, B, X', hpost, hsteps⟩
  · exact Or.inl ⟨v, vm₁, B, X₁.warmed, X', hpost, fun target h => hstep₁ _ fun acts => by rw [doInvoke_state]; exact hsteps.trans h⟩
  · exact Or.inr ⟨q, vm₁, B, X₁.warmed, X', hpost, hstep₁ _ fun acts => by rw [doInvoke_state]; exact hsteps⟩
theorem vx_callSX (X : Stand p l e R s m args below meth c T locs cells slots) (hexec : p.tables.exec = Jvm.exec) {own : String} {index : Nat} {y : MethodName} {bytes : ByteArray} {maxL : Nat} {ret : Option FieldType} {hh : List (Nat × Nat × Nat × Nat)}
    (hown : s.vm.findClass own = some m.cls) (hlink : (Cond.methodLink own index y).before args s = true) (hstat : (Cond.static y).before args s = true) (hinit : (Cond.initialized y.cls).before args s = true)
    (hcode : (Cond.codeWith y bytes maxL ret hh).before args s = true) (hy : y.cls ≠ "java/lang/invoke/MethodHandle" ∧ y.cls ≠ "java/lang/invoke/VarHandle")
    {W9 : Nat} {Pre : Pt → Array Value → Prop} {Post : Pt → Array Value → Option Value → Pt → Prop} {PostX : Pt → Array Value → Addr → Pt → Prop} (hK : vx_Back l R p e below s args y 3 W9 Pre Post PostX)
    {g : JFrame} (hg : g.method = m) (hsize : g.locals.size = c.maxLocals) {argsL rest : List Value} (hlen : ∀ sig, parseMethodDescriptor y.desc = some sig → argsL.length = sig.parameters.length)
    (hstack : g.stack = argsL.reverse ++ rest) (hW : 2 * g.monitorRoom + (rest.map fun v => v.category).sum ≤ W9) (hdg : decode c.code g.pc = .ok (.invokestatic index, 3))
    (hpre : ∀ vm₁, s.WarmedH vm₁ → Pre ⟨T.setVm vm₁, locs, cells, slots⟩ argsL.toArray) :
    (∃ (v : Option Value) (vm₁ : Vm) (B : Pt), s.WarmedH vm₁ ∧ Stand p l e R s m args below meth c B.U B.locs B.cells B.slots ∧ Post ⟨T.setVm vm₁, locs, cells, slots⟩ argsL.toArray v B ∧
      ∀ target, Steps p.tables e below (B.U.setTop { g with pc := g.pc + 3, stack := v.toList ++ rest }) target → Steps p.tables e below (T.setTop g) target) ∨
    (∃ (q : Addr) (vm₁ : Vm) (B : Pt), s.WarmedH vm₁ ∧ Stand p l e R s m args below meth c B.U B.locs B.cells B.slots ∧ PostX ⟨T.setVm vm₁, locs, cells, slots⟩ argsL.toArray q B ∧
      Steps p.tables e below (T.setTop g) ((B.U.setTop { g with stack := rest }).pushFrame (.throwing q))) := by
  obtain ⟨mk, methM, cM, hnamed, hmethM, -, -, -, -, -, -, hsigM⟩ := Cond.codeWith_spec hcode
  have hstatic : methM.isStatic = true := Cond.static_spec hnamed hmethM hstat
  obtain ⟨kP, hkP, -⟩ := className_of_methodNamed hnamed
  have hinitP : kP.init = .initialized := Cond.initialized_spec (findClass_of_methodNamed hnamed) hkP hinit
  obtain ⟨vm₁, X₁, hstep₁⟩ := X.invokestatic hexec hown hlink hnamed hmethM hstatic hkP hinitP hy (g := g) hg (argsL := argsL) (rest := rest) (hlen _ hsigM) hstack hdg
  rcases hK m meth c ⟨T.setVm vm₁, locs, cells, slots⟩ { g with stack := rest } (.invokestatic index) mk argsL.toArray X₁ hg hsize hdg hW (X₁.named hnamed) (hpre vm₁ X₁.warmed) with ⟨v, B, X', hpost, hsteps⟩ | ⟨q, B, X', hpost, hsteps⟩
  · exact Or.inl ⟨v, vm₁, B, X₁.warmed, X', hpost, fun target h => hstep₁ _ fun acts => by rw [doInvoke_state]; exact hsteps.trans h⟩
  · exact Or.inr ⟨q, vm₁, B, X₁.warmed, X', hpost, hstep₁ _ fun acts => by rw [doInvoke_state]; exact hsteps⟩
theorem vx_callVW (X : Stand p l e R s m args below meth c T locs cells slots) (hexec : p.tables.exec = Jvm.exec) {own C : String} {index : Nat} {y : MethodName} {bytes : ByteArray} {maxL : Nat} {ret : Option FieldType} {hh : List (Nat × Nat × Nat × Nat)}
    (hown : s.vm.findClass own = some m.cls) (hlink : (Cond.methodLink own index y).before args s = true) (hinst : (Cond.instanceMethod y).before args s = true) (hsel : (Cond.selects C y y).before args s = true)
    (hcode : (Cond.codeWith y bytes maxL ret hh).before args s = true) (hy : y.cls ≠ "java/lang/invoke/MethodHandle" ∧ y.cls ≠ "java/lang/invoke/VarHandle")
    {W9 : Nat} {Pre : Pt → Array Value → Prop} {Post : Pt → Array Value → Option Value → Pt → Prop} (hK : Back l R p e below s args y 3 W9 Pre Post)
    {b : Addr} {cellB : Cell} (hcell : T.heap[b]? = some cellB) (hobj : cellB.vm.isStatics = false) (hcls : s.vm.findClass C = some cellB.cls)
    {g : JFrame} (hg : g.method = m) (hsize : g.locals.size = c.maxLocals) {argsL rest : List Value} (hlen : ∀ sig, parseMethodDescriptor y.desc = some sig → argsL.length = sig.parameters.length)
    (hstack : g.stack = argsL.reverse ++ .ref b :: rest) (hW : 2 * g.monitorRoom + (rest.map fun v => v.category).sum ≤ W9) (hdg : decode c.code g.pc = .ok (.invokevirtual index, 3))
    (hpre : ∀ vm₁, s.WarmedH vm₁ → Pre ⟨T.setVm vm₁, locs, cells, slots⟩ (Value.ref b :: argsL).toArray) :
    ∃ (v : Option Value) (vm₁ : Vm) (B : Pt), s.WarmedH vm₁ ∧ Stand p l e R s m args below meth c B.U B.locs B.cells B.slots ∧ Post ⟨T.setVm vm₁, locs, cells, slots⟩ (Value.ref b :: argsL).toArray v B ∧
      ∀ target, Steps p.tables e below (B.U.setTop { g with pc := g.pc + 3, stack := v.toList ++ rest }) target → Steps p.tables e below (T.setTop g) target := by
  obtain ⟨mk, methM, hnamed, hmethM, hstM, habM⟩ := Cond.instanceMethod_spec hinst
  obtain ⟨m8, methM', cM, hn8, hmethM', -, -, -, -, -, -, hsigM⟩ := Cond.codeWith_spec hcode
  cases Option.some.inj (hn8.symm.trans hnamed)
  cases hmethM.symm.trans hmethM'
  obtain ⟨c2, r2, m2, q1, q2, q3, q4, kP, hkP, hkPi⟩ := Cond.selects_spec hsel
  cases hcls.symm.trans q1
  cases (State.methodFound?_of_named hnamed hy).symm.trans q2
  cases hnamed.symm.trans q3
  have hselP : selectMethod e.platform s.vm cellB.cls mk = .method mk := by rw [Launch.admits_selectMethod X.admits]; exact q4
  obtain ⟨vm₁, X₁, hstep₁⟩ := X.invokevirtual hexec hown hlink hnamed hmethM hstM hkP hkPi hy (a := b) (cell := cellB) hcell
    (fun z h => by rw [h] at hobj; cases hobj) hselP hmethM habM hkP hkPi (g := g) hg (argsL := argsL) (rest := rest) (hlen _ hsigM) hstack hdg
  obtain ⟨v, B, X', hpost, hsteps⟩ := hK m meth c ⟨T.setVm vm₁, locs, cells, slots⟩ { g with stack := rest } (.invokevirtual index) mk (Value.ref b :: argsL).toArray X₁ hg hsize hdg hW (X₁.named hnamed) (hpre vm₁ X₁.warmed)
  exact ⟨v, vm₁, B, X₁.warmed, X', hpost, fun target h => hstep₁ _ fun acts => by rw [doInvoke_state]; exact hsteps.trans h⟩
abbrev vx_CVW (R : Room) (s : State) (args : Array Value) (own C : String) (index : Nat) (y : MethodName) (bytes : ByteArray) (maxL : Nat) (ret : Option FieldType) (hh : List (Nat × Nat × Nat × Nat)) (ws : List Cond) (rm : Room) (mc ms n : Nat) : Prop :=
  (rm.cells = mc ∧ rm.slots = ms ∧ rm.frames + 1 ≤ R.frames ∧ 8 + (maxL + 11) + rm.locals ≤ R.locals ∧ (∀ w ∈ ws, ∀ (a' : Array Value) (U : State), s.WarmedH U.vm → w.before a' U = true) ∧ Cond.codeWith y bytes maxL ret hh ∈ ws) ∧
  (Cond.codeWith y bytes maxL ret hh).before args s = true ∧ (Cond.initialized y.cls).before args s = true ∧ (y.cls ≠ "java/lang/invoke/MethodHandle" ∧ y.cls ≠ "java/lang/invoke/VarHandle") ∧
  (∀ sig, parseMethodDescriptor y.desc = some sig → n = sig.parameters.length) ∧ (Cond.methodLink own index y).before args s = true ∧ (Cond.instanceMethod y).before args s = true ∧ (Cond.selects C y y).before args s = true
theorem vx_cwVW {own C : String} {index maxL mc ms : Nat} {y : MethodName} {bytes : ByteArray} {ret : Option FieldType} {hh : List (Nat × Nat × Nat × Nat)} {Ts ws ws' : List Cond} {rm : Room} (n : Nat) (ht : ∀ w ∈ Ts, w.before args s = true) (hT : GoodIn Ts (wsV own index C y ws)) (hw : ws = Cond.codeWith y bytes maxL ret hh :: ws') (hrc : rm.cells = mc) (hrs : rm.slots = ms)
    (hd : y.cls = C ∧ y.cls ≠ "java/lang/invoke/MethodHandle" ∧ y.cls ≠ "java/lang/invoke/VarHandle" ∧ (parseMethodDescriptor y.desc).map (fun d => d.parameters.length) = some n) (hR : rm.frames + 1 ≤ R.frames ∧ 8 + (maxL + 11) + rm.locals ≤ R.locals) :
    vx_CVW R s args own C index y bytes maxL ret hh ws rm mc ms n := by
  obtain ⟨hC, hd⟩ := hd
  subst hC
  have ok : ∀ w ∈ wsV own index y.cls y ws, w.before args s = true := fun w h => ht w (hT w h).1
  have hG : GoodIn Ts ws := fun w h => hT w (by unfold wsV; exact List.mem_append_right _ h)
  have hc : Cond.codeWith y bytes maxL ret hh ∈ ws := by rw [hw]; exact List.mem_cons_self
  refine ⟨⟨hrc, hrs, hR.1, hR.2, pay_in ht hG, hc⟩, ht _ (hG _ hc).1, ok _ (by simp [wsV]), ⟨hd.1, hd.2.1⟩, fun sig h => ?_, ok _ (by simp [wsV]), ok _ (by simp [wsV]), ok _ (by simp [wsV])⟩
  have h2 := hd.2.2
  rw [h] at h2
  exact (Option.some.inj h2).symm
theorem vx_runVW {y : MethodName} {bytes cc : ByteArray} {maxL nL mc ms n index : Nat} {ret : Option FieldType} {hh : List (Nat × Nat × Nat × Nat)} {ws : List Cond} {rm : Room} {Pc : Array Value → State → Prop} {Qc : Array Value → State → Outcome → State → Prop} {free : Addr → Prop} {Ts : List Cond} {own C : String} {b : Addr} {As rest : List Value} {g : JFrame}
    (S : CallFix p m c cc nL s args Ts own) (hM : Met l y ws rm Pc Qc mc ms free) (cw : vx_CVW R s args own C index y bytes maxL ret hh ws rm mc ms n) (hp : PreV s H C b Pc As)
    (hg : g.method = m) (hn : As.length = n) (hsize : g.locals.size = nL) (hstack : g.stack = As.reverse ++ .ref b :: rest) (hW : 2 * g.monitorRoom + (rest.map fun v => v.category).sum ≤ 8) (hdg : decode cc g.pc = .ok (.invokevirtual index, 3)) (hf : cells + mc ≤ R.cells ∧ slots + ms ≤ R.slots) :
    va_Run p l e R s m args below meth c H locs cells slots mc ms g rest (Qc (Value.ref b :: As).toArray) free := by
  obtain ⟨⟨hrc, hrs, hfr, hlo, hws, hcw⟩, hcode, hini, hy, hlen, hl, hin, hse⟩ := cw
  have hK : Back l R p e below s args y 3 8 (PreOf R mc ms Pc) (PostOf Qc mc ms free) := va_backW (hh := hh) (bytes := bytes) (maxL := maxL) (ret := ret) hM hp.1 hrc hrs hfr hlo hws hcw (fun a' U hW => word_at hW (Or.inl (by first | rfl | simp [Cond.onTables, Cond.keeps, Cond.steady])) hini)
  obtain ⟨hx, hb, hml, ho, -⟩ := S
  obtain ⟨-, ⟨cellB, hcB, hoB, hclB⟩, hPc⟩ := hp
  intro T hT X
  obtain ⟨v, vm₁, ⟨U', l2, c2, s2⟩, hW₁, X', ⟨g', mk, t, L, e1, e2, hq, h1, hL, h2, h3⟩, st⟩ := vx_callVW X hx (C := C) (hh := hh) (bytes := bytes) (maxL := maxL) (ret := ret) ho hl hin hse hcode hy hK (by rw [hT]; exact hcB) hoB hclB hg (hsize.trans hml.symm) (argsL := As) (rest := rest) (fun sig h => hn.trans (hlen sig h)) hstack hW (by rw [hb]; exact hdg)
    (fun vm₁ hW₁ => ⟨hf.1, hf.2, hPc (T.setVm vm₁) hT hW₁⟩)
  dsimp only [Pt.U, Pt.locs, Pt.cells, Pt.slots] at X' e1 e2 h1 h2 h3 st
  subst h1; subst h2; subst h3
  exact ⟨v, (T.setVm vm₁).calling g' mk (Value.ref b :: As).toArray, t, U', L, hT, X', hL, e1, e2, hq, st⟩
section
variable {y : MethodName} {bytes cc : ByteArray} {maxL nL mc ms n index : Nat} {ret : Option FieldType} {ws : List Cond} {rm : Room} {Pc : Array Value → State → Prop} {Qc : Array Value → State → Outcome → State → Prop} {XC : String → State → State → Prop} {free : Addr → Prop} {Ts : List Cond} {own C : String} {b : Addr} {As rest : List Value} {g : JFrame}
theorem vx_runVX {hh : List (Nat × Nat × Nat × Nat)} (S : CallFix p m c cc nL s args Ts own) (hM : vx_Met l y ws rm Pc Qc XC mc ms free) (cw : vx_CVW R s args own C index y bytes maxL ret hh ws rm mc ms n) (hp : PreV s H C b Pc As)
    (hg : g.method = m) (hn : As.length = n) (hsize : g.locals.size = nL) (hstack : g.stack = As.reverse ++ .ref b :: rest) (hW : 2 * g.monitorRoom + (rest.map fun v => v.category).sum ≤ 8) (hdg : decode cc g.pc = .ok (.invokevirtual index, 3)) (hf : cells + mc ≤ R.cells ∧ slots + ms ≤ R.slots) :
    vx_Run p l e R s m args below meth c H locs cells slots mc ms g rest (Qc (Value.ref b :: As).toArray) XC free := by
  obtain ⟨⟨hrc, hrs, hfr, hlo, hws, hcw⟩, hcode, hini, hy, hlen, hl, hin, hse⟩ := cw
  have hK : vx_Back l R p e below s args y 3 8 (PreOf R mc ms Pc) (PostOf Qc mc ms free) (vx_Post XC mc ms free) := vx_backW (hh := hh) (bytes := bytes) (maxL := maxL) (ret := ret) hM hp.1 hrc hrs hfr hlo hws hcw (fun a' U hW => word_at hW (Or.inl (by first | rfl | simp [Cond.onTables, Cond.keeps, Cond.steady])) hini)
  obtain ⟨hx, hb, hml, ho, -⟩ := S
  obtain ⟨-, ⟨cellB, hcB, hoB, hclB⟩, hPc⟩ := hp
  intro T hT X
  rcases vx_callVX X hx (C := C) (hh := hh) (bytes := bytes) (maxL := maxL) (ret := ret) ho hl hin hse hcode hy hK (by rw [hT]; exact hcB) hoB hclB hg (hsize.trans hml.symm) (argsL := As) (rest := rest) (fun sig h => hn.trans (hlen sig h)) hstack hW (by rw [hb]; exact hdg)
    (fun vm₁ hW₁ => ⟨hf.1, hf.2, hPc (T.setVm vm₁) hT hW₁⟩) with ⟨v, vm₁, ⟨U', l2, c2, s2⟩, hW₁, X', ⟨g', mk, t, L, e1, e2, hq, h1, hL, h2, h3⟩, st⟩ | ⟨q, vm₁, ⟨U', l2, c2, s2⟩, hW₁, X', ⟨g', mk, t, L, E, ce, e1, e2, hq, hce, hcv, hcl, h1, hL, h2, h3⟩, st⟩
  · dsimp only [Pt.U, Pt.locs, Pt.cells, Pt.slots] at X' e1 e2 h1 h2 h3 st
    subst h1; subst h2; subst h3
    exact Or.inl ⟨v, (T.setVm vm₁).calling g' mk (Value.ref b :: As).toArray, t, U', L, hT, X', hL, e1, e2, hq, st⟩
  · dsimp only [Pt.U, Pt.locs, Pt.cells, Pt.slots] at X' e1 e2 h1 h2 h3 st hcl
    subst h1; subst h2; subst h3
    exact Or.inr ⟨q, (T.setVm vm₁).calling g' mk (Value.ref b :: As).toArray, t, U', L, E, ce, hT, X', hL, e1, e2, hq, hce, hcv, vx_cls hW₁ hcl, st⟩
theorem vx_runSX {hh : List (Nat × Nat × Nat × Nat)} (S : CallFix p m c cc nL s args Ts own) (hM : vx_Met l y ws rm Pc Qc XC mc ms free) (cw : vx_CSW R s args own index y bytes maxL ret hh ws rm mc ms n) (hp : PreS s H Pc As)
    (hg : g.method = m) (hn : As.length = n) (hsize : g.locals.size = nL) (hstack : g.stack = As.reverse ++ rest) (hW : 2 * g.monitorRoom + (rest.map fun v => v.category).sum ≤ 8) (hdg : decode cc g.pc = .ok (.invokestatic index, 3)) (hf : cells + mc ≤ R.cells ∧ slots + ms ≤ R.slots) :
    vx_Run p l e R s m args below meth c H locs cells slots mc ms g rest (Qc As.toArray) XC free := by
  obtain ⟨⟨hrc, hrs, hfr, hlo, hws, hcw⟩, hcode, hini, hy, hlen, hl, hstt⟩ := cw
  have hK : vx_Back l R p e below s args y 3 8 (PreOf R mc ms Pc) (PostOf Qc mc ms free) (vx_Post XC mc ms free) := vx_backW (hh := hh) (bytes := bytes) (maxL := maxL) (ret := ret) hM hp.1 hrc hrs hfr hlo hws hcw (fun a' U hW => word_at hW (Or.inl (by first | rfl | simp [Cond.onTables, Cond.keeps, Cond.steady])) hini)
  obtain ⟨hx, hb, hml, ho, -⟩ := S
  intro T hT X
  rcases vx_callSX X hx (hh := hh) (bytes := bytes) (maxL := maxL) (ret := ret) ho hl hstt hini hcode hy hK hg (hsize.trans hml.symm) (argsL := As) (rest := rest) (fun sig h => hn.trans (hlen sig h)) hstack hW (by rw [hb]; exact hdg)
    (fun vm₁ hW₁ => ⟨hf.1, hf.2, hp.2 (T.setVm vm₁) hT hW₁⟩) with ⟨v, vm₁, ⟨U', l2, c2, s2⟩, hW₁, X', ⟨g', mk, t, L, e1, e2, hq, h1, hL, h2, h3⟩, st⟩ | ⟨q, vm₁, ⟨U', l2, c2, s2⟩, hW₁, X', ⟨g', mk, t, L, E, ce, e1, e2, hq, hce, hcv, hcl, h1, hL, h2, h3⟩, st⟩
  · dsimp only [Pt.U, Pt.locs, Pt.cells, Pt.slots] at X' e1 e2 h1 h2 h3 st
    subst h1; subst h2; subst h3
    exact Or.inl ⟨v, (T.setVm vm₁).calling g' mk As.toArray, t, U', L, hT, X', hL, e1, e2, hq, st⟩
  · dsimp only [Pt.U, Pt.locs, Pt.cells, Pt.slots] at X' e1 e2 h1 h2 h3 st hcl
    subst h1; subst h2; subst h3
    exact Or.inr ⟨q, (T.setVm vm₁).calling g' mk As.toArray, t, U', L, E, ce, hT, X', hL, e1, e2, hq, hce, hcv, vx_cls hW₁ hcl, st⟩
end
end VXH
theorem vx_ofWH {l : Launch} {y : MethodName} {ws ws' : List Cond} {rm : Room} {Pc : Array Value → State → Prop} {Qc : Array Value → State → Outcome → State → Prop} {XC : String → State → State → Prop} {mc ms : Nat} {free : Addr → Prop} {cc : ByteArray} {maxL : Nat} {ret : Option FieldType} {hh : List (Nat × Nat × Nat × Nat)}
    (hy : plainName y.cls = true) (hw : ws = Cond.codeWith y cc maxL ret hh :: ws')
    (body : ∀ p e s m args below meth c s₁, BodyLoose p l y (headSpec ws rm) cc maxL ret e s m args below meth c s₁ → c.maxLocals = maxL → Pc args s →
      W p l e (headSpec ws rm).room s m args below meth c s.heap [] 0 0 (vx_MQ below Qc XC args s mc ms free) (entryFrame m args maxL)) : vx_Met l y ws rm Pc Qc XC mc ms free := by
  refine MetFree.of_bodyS (code := cc) (maxLocals := maxL) (ret := ret) hy ?_ ?_
  · intro args s m h hn
    obtain ⟨m9, meth, c, hn9, h1, h2, h3, h4, -, h5, h6, -⟩ := Cond.codeWith_spec (atoms_spec (ws := ws) h _ (by rw [hw]; exact List.mem_cons_self))
    cases hn.symm.trans hn9
    exact ⟨meth, c, h1, h2, h3, h4, h5, h6⟩
  · intro p e s m args below meth c s₁ B hml hP _
    have hh0 : s₁.heap = s.heap := by rw [B.state]; rfl
    obtain ⟨t, a1, o, b1, b2, b3⟩ := body p e s m args below meth c s₁ B hml hP s₁ hh0 (Stand.of_body B)
    exact ⟨t, o, a1, b1, b2, b3⟩
/-! ===== END ===== -/
end
section
-- ===== PART A: goes FIRST, ahead of the names: the tables' words, and 'selects' of the private methods out of them =====
/-- a private method of a class that the tables say can be made, by its rows of tables_1 -/
def lw_okq (q : MethodName × Nat) : Prop := (q.1.cls ≠ "java/lang/invoke/MethodHandle" ∧ q.1.cls ≠ "java/lang/invoke/VarHandle") ∧ Cond.instantiable q.1.cls q.2 ∈ tables_1 ∧ Cond.privateMethod q.1 ∈ tables_1 ∧ Cond.instanceMethod q.1 ∈ tables_1
theorem lw_p0 : lw_okq (⟨"LateThermometers$OrderText", "readsAll", "()Z"⟩, 8) := ⟨⟨by decide +kernel, by decide +kernel⟩, List.mem_of_getElem? (i := 186) (by decide +kernel), List.mem_of_getElem? (i := 254) (by decide +kernel), List.mem_of_getElem? (i := 255) (by decide +kernel)⟩
theorem lw_p1 : lw_okq (⟨"LateThermometers$OrderText", "readsOrder", "()Z"⟩, 8) := ⟨⟨by decide +kernel, by decide +kernel⟩, List.mem_of_getElem? (i := 186) (by decide +kernel), List.mem_of_getElem? (i := 262) (by decide +kernel), List.mem_of_getElem? (i := 263) (by decide +kernel)⟩
theorem lw_p2 : lw_okq (⟨"LateThermometers$OrderText", "takesSign", "(C)Z"⟩, 8) := ⟨⟨by decide +kernel, by decide +kernel⟩, List.mem_of_getElem? (i := 186) (by decide +kernel), List.mem_of_getElem? (i := 266) (by decide +kernel), List.mem_of_getElem? (i := 267) (by decide +kernel)⟩
theorem lw_p3 : lw_okq (⟨"LateThermometers$OrderText", "takes", "(CC)Z"⟩, 8) := ⟨⟨by decide +kernel, by decide +kernel⟩, List.mem_of_getElem? (i := 186) (by decide +kernel), List.mem_of_getElem? (i := 270) (by decide +kernel), List.mem_of_getElem? (i := 271) (by decide +kernel)⟩
theorem lw_p4 : lw_okq (⟨"LateThermometers$OrderText", "readsRow", "()Z"⟩, 8) := ⟨⟨by decide +kernel, by decide +kernel⟩, List.mem_of_getElem? (i := 186) (by decide +kernel), List.mem_of_getElem? (i := 274) (by decide +kernel), List.mem_of_getElem? (i := 275) (by decide +kernel)⟩
theorem lw_p5 : lw_okq (⟨"LateThermometers$OrderText", "readsNumber", "(CC)Z"⟩, 8) := ⟨⟨by decide +kernel, by decide +kernel⟩, List.mem_of_getElem? (i := 186) (by decide +kernel), List.mem_of_getElem? (i := 278) (by decide +kernel), List.mem_of_getElem? (i := 279) (by decide +kernel)⟩
theorem lw_p6 : lw_okq (⟨"LateThermometers$OrderText", "readsWeight", "()Z"⟩, 8) := ⟨⟨by decide +kernel, by decide +kernel⟩, List.mem_of_getElem? (i := 186) (by decide +kernel), List.mem_of_getElem? (i := 282) (by decide +kernel), List.mem_of_getElem? (i := 283) (by decide +kernel)⟩
theorem lw_p7 : lw_okq (⟨"LateThermometers$OrderText", "readsDegrees", "()Z"⟩, 8) := ⟨⟨by decide +kernel, by decide +kernel⟩, List.mem_of_getElem? (i := 186) (by decide +kernel), List.mem_of_getElem? (i := 286) (by decide +kernel), List.mem_of_getElem? (i := 287) (by decide +kernel)⟩
theorem lw_p8 : lw_okq (⟨"java/lang/Throwable", "fillInStackTrace", "(I)Ljava/lang/Throwable;"⟩, 6) := ⟨⟨by decide +kernel, by decide +kernel⟩, List.mem_of_getElem? (i := 374) (by decide +kernel), List.mem_of_getElem? (i := 372) (by decide +kernel), List.mem_of_getElem? (i := 373) (by decide +kernel)⟩
theorem lw_p9 : lw_okq (⟨"LateThermometers$History", "stateAt", "(I)LLateThermometers$Place;"⟩, 4) := ⟨⟨by decide +kernel, by decide +kernel⟩, List.mem_of_getElem? (i := 146) (by decide +kernel), List.mem_of_getElem? (i := 447) (by decide +kernel), List.mem_of_getElem? (i := 448) (by decide +kernel)⟩
theorem lw_p10 : lw_okq (⟨"LateThermometers", "checkHoursLeft", "(I)V"⟩, 6) := ⟨⟨by decide +kernel, by decide +kernel⟩, List.mem_of_getElem? (i := 18) (by decide +kernel), List.mem_of_getElem? (i := 485) (by decide +kernel), List.mem_of_getElem? (i := 486) (by decide +kernel)⟩
theorem lw_p11 : lw_okq (⟨"LateThermometers$Thermometer", "stepFrom", "(II)I"⟩, 12) := ⟨⟨by decide +kernel, by decide +kernel⟩, List.mem_of_getElem? (i := 33) (by decide +kernel), List.mem_of_getElem? (i := 513) (by decide +kernel), List.mem_of_getElem? (i := 514) (by decide +kernel)⟩
theorem lw_p12 : lw_okq (⟨"LateThermometers$Place", "readRows", "()V"⟩, 13) := ⟨⟨by decide +kernel, by decide +kernel⟩, List.mem_of_getElem? (i := 26) (by decide +kernel), List.mem_of_getElem? (i := 518) (by decide +kernel), List.mem_of_getElem? (i := 519) (by decide +kernel)⟩
theorem lw_p13 : lw_okq (⟨"LateThermometers$Place", "isReadNow", "(I)Z"⟩, 13) := ⟨⟨by decide +kernel, by decide +kernel⟩, List.mem_of_getElem? (i := 26) (by decide +kernel), List.mem_of_getElem? (i := 522) (by decide +kernel), List.mem_of_getElem? (i := 523) (by decide +kernel)⟩
theorem lw_p14 : lw_okq (⟨"LateThermometers$Place", "lookForSpikes", "()V"⟩, 13) := ⟨⟨by decide +kernel, by decide +kernel⟩, List.mem_of_getElem? (i := 26) (by decide +kernel), List.mem_of_getElem? (i := 550) (by decide +kernel), List.mem_of_getElem? (i := 551) (by decide +kernel)⟩
theorem lw_p15 : lw_okq (⟨"LateThermometers$Place", "compareWithOthers", "(I)V"⟩, 13) := ⟨⟨by decide +kernel, by decide +kernel⟩, List.mem_of_getElem? (i := 26) (by decide +kernel), List.mem_of_getElem? (i := 573) (by decide +kernel), List.mem_of_getElem? (i := 574) (by decide +kernel)⟩
def lw_privs_1 : List (MethodName × Nat) := [(⟨"LateThermometers$OrderText", "readsAll", "()Z"⟩, 8), (⟨"LateThermometers$OrderText", "readsOrder", "()Z"⟩, 8), (⟨"LateThermometers$OrderText", "takesSign", "(C)Z"⟩, 8), (⟨"LateThermometers$OrderText", "takes", "(CC)Z"⟩, 8), (⟨"LateThermometers$OrderText", "readsRow", "()Z"⟩, 8), (⟨"LateThermometers$OrderText", "readsNumber", "(CC)Z"⟩, 8), (⟨"LateThermometers$OrderText", "readsWeight", "()Z"⟩, 8), (⟨"LateThermometers$OrderText", "readsDegrees", "()Z"⟩, 8), (⟨"java/lang/Throwable", "fillInStackTrace", "(I)Ljava/lang/Throwable;"⟩, 6), (⟨"LateThermometers$History", "stateAt", "(I)LLateThermometers$Place;"⟩, 4), (⟨"LateThermometers", "checkHoursLeft", "(I)V"⟩, 6), (⟨"LateThermometers$Thermometer", "stepFrom", "(II)I"⟩, 12), (⟨"LateThermometers$Place", "readRows", "()V"⟩, 13), (⟨"LateThermometers$Place", "isReadNow", "(I)Z"⟩, 13), (⟨"LateThermometers$Place", "lookForSpikes", "()V"⟩, 13), (⟨"LateThermometers$Place", "compareWithOthers", "(I)V"⟩, 13)]
theorem lw_r1 : ∀ q ∈ lw_privs_1, lw_okq q := List.forall_mem_cons.mpr ⟨lw_p0, List.forall_mem_cons.mpr ⟨lw_p1, List.forall_mem_cons.mpr ⟨lw_p2, List.forall_mem_cons.mpr ⟨lw_p3, List.forall_mem_cons.mpr ⟨lw_p4, List.forall_mem_cons.mpr ⟨lw_p5, List.forall_mem_cons.mpr ⟨lw_p6, List.forall_mem_cons.mpr ⟨lw_p7, List.forall_mem_cons.mpr ⟨lw_p8, List.forall_mem_cons.mpr ⟨lw_p9, List.forall_mem_cons.mpr ⟨lw_p10, List.forall_mem_cons.mpr ⟨lw_p11, List.forall_mem_cons.mpr ⟨lw_p12, List.forall_mem_cons.mpr ⟨lw_p13, List.forall_mem_cons.mpr ⟨lw_p14, List.forall_mem_cons.mpr ⟨lw_p15, fun _ h => absurd h List.not_mem_nil⟩⟩⟩⟩⟩⟩⟩⟩⟩⟩⟩⟩⟩⟩⟩⟩
theorem lw_p16 : lw_okq (⟨"LateThermometers", "checkThermometer", "(I)V"⟩, 6) := ⟨⟨by decide +kernel, by decide +kernel⟩, List.mem_of_getElem? (i := 18) (by decide +kernel), List.mem_of_getElem? (i := 637) (by decide +kernel), List.mem_of_getElem? (i := 638) (by decide +kernel)⟩
theorem lw_p17 : lw_okq (⟨"LateThermometers", "carriesOut", "()Z"⟩, 6) := ⟨⟨by decide +kernel, by decide +kernel⟩, List.mem_of_getElem? (i := 18) (by decide +kernel), List.mem_of_getElem? (i := 698) (by decide +kernel), List.mem_of_getElem? (i := 699) (by decide +kernel)⟩
theorem lw_p18 : lw_okq (⟨"LateThermometers", "snapshotIn", "(I)LLateThermometers$Snapshot;"⟩, 6) := ⟨⟨by decide +kernel, by decide +kernel⟩, List.mem_of_getElem? (i := 18) (by decide +kernel), List.mem_of_getElem? (i := 721) (by decide +kernel), List.mem_of_getElem? (i := 722) (by decide +kernel)⟩
theorem lw_p19 : lw_okq (⟨"LateThermometers$Place", "countAheadOf", "(II)I"⟩, 13) := ⟨⟨by decide +kernel, by decide +kernel⟩, List.mem_of_getElem? (i := 26) (by decide +kernel), List.mem_of_getElem? (i := 810) (by decide +kernel), List.mem_of_getElem? (i := 811) (by decide +kernel)⟩
theorem lw_p20 : lw_okq (⟨"LateThermometers$Place", "sortKey", "(II)I"⟩, 13) := ⟨⟨by decide +kernel, by decide +kernel⟩, List.mem_of_getElem? (i := 26) (by decide +kernel), List.mem_of_getElem? (i := 814) (by decide +kernel), List.mem_of_getElem? (i := 815) (by decide +kernel)⟩
theorem lw_p21 : lw_okq (⟨"LateThermometersModel", "fails", "(I)I"⟩, 18) := ⟨⟨by decide +kernel, by decide +kernel⟩, List.mem_of_getElem? (i := 865) (by decide +kernel), List.mem_of_getElem? (i := 936) (by decide +kernel), List.mem_of_getElem? (i := 937) (by decide +kernel)⟩
theorem lw_p22 : lw_okq (⟨"LateThermometersModel", "save", "()V"⟩, 18) := ⟨⟨by decide +kernel, by decide +kernel⟩, List.mem_of_getElem? (i := 865) (by decide +kernel), List.mem_of_getElem? (i := 951) (by decide +kernel), List.mem_of_getElem? (i := 952) (by decide +kernel)⟩
theorem lw_p23 : lw_okq (⟨"LateThermometersModel", "add", "(IIII)I"⟩, 18) := ⟨⟨by decide +kernel, by decide +kernel⟩, List.mem_of_getElem? (i := 865) (by decide +kernel), List.mem_of_getElem? (i := 965) (by decide +kernel), List.mem_of_getElem? (i := 966) (by decide +kernel)⟩
theorem lw_p24 : lw_okq (⟨"LateThermometersModel", "put", "(III)V"⟩, 18) := ⟨⟨by decide +kernel, by decide +kernel⟩, List.mem_of_getElem? (i := 865) (by decide +kernel), List.mem_of_getElem? (i := 969) (by decide +kernel), List.mem_of_getElem? (i := 970) (by decide +kernel)⟩
theorem lw_p25 : lw_okq (⟨"LateThermometersModel", "pass", "(I)I"⟩, 18) := ⟨⟨by decide +kernel, by decide +kernel⟩, List.mem_of_getElem? (i := 865) (by decide +kernel), List.mem_of_getElem? (i := 980) (by decide +kernel), List.mem_of_getElem? (i := 981) (by decide +kernel)⟩
theorem lw_p26 : lw_okq (⟨"LateThermometersModel", "mean", "()I"⟩, 18) := ⟨⟨by decide +kernel, by decide +kernel⟩, List.mem_of_getElem? (i := 865) (by decide +kernel), List.mem_of_getElem? (i := 984) (by decide +kernel), List.mem_of_getElem? (i := 985) (by decide +kernel)⟩
theorem lw_p27 : lw_okq (⟨"LateThermometersModel", "isAsked", "(I)Z"⟩, 18) := ⟨⟨by decide +kernel, by decide +kernel⟩, List.mem_of_getElem? (i := 865) (by decide +kernel), List.mem_of_getElem? (i := 988) (by decide +kernel), List.mem_of_getElem? (i := 989) (by decide +kernel)⟩
theorem lw_p28 : lw_okq (⟨"LateThermometersModel", "of", "(II)I"⟩, 18) := ⟨⟨by decide +kernel, by decide +kernel⟩, List.mem_of_getElem? (i := 865) (by decide +kernel), List.mem_of_getElem? (i := 992) (by decide +kernel), List.mem_of_getElem? (i := 993) (by decide +kernel)⟩
theorem lw_p29 : lw_okq (⟨"LateThermometersModel", "mended", "(I)I"⟩, 18) := ⟨⟨by decide +kernel, by decide +kernel⟩, List.mem_of_getElem? (i := 865) (by decide +kernel), List.mem_of_getElem? (i := 996) (by decide +kernel), List.mem_of_getElem? (i := 997) (by decide +kernel)⟩
theorem lw_p30 : lw_okq (⟨"LateThermometersModel", "mendedBy", "(II)I"⟩, 18) := ⟨⟨by decide +kernel, by decide +kernel⟩, List.mem_of_getElem? (i := 865) (by decide +kernel), List.mem_of_getElem? (i := 1000) (by decide +kernel), List.mem_of_getElem? (i := 1001) (by decide +kernel)⟩
theorem lw_p31 : lw_okq (⟨"LateThermometersModel", "follow", "(I)V"⟩, 18) := ⟨⟨by decide +kernel, by decide +kernel⟩, List.mem_of_getElem? (i := 865) (by decide +kernel), List.mem_of_getElem? (i := 1004) (by decide +kernel), List.mem_of_getElem? (i := 1005) (by decide +kernel)⟩
def lw_privs_2 : List (MethodName × Nat) := [(⟨"LateThermometers", "checkThermometer", "(I)V"⟩, 6), (⟨"LateThermometers", "carriesOut", "()Z"⟩, 6), (⟨"LateThermometers", "snapshotIn", "(I)LLateThermometers$Snapshot;"⟩, 6), (⟨"LateThermometers$Place", "countAheadOf", "(II)I"⟩, 13), (⟨"LateThermometers$Place", "sortKey", "(II)I"⟩, 13), (⟨"LateThermometersModel", "fails", "(I)I"⟩, 18), (⟨"LateThermometersModel", "save", "()V"⟩, 18), (⟨"LateThermometersModel", "add", "(IIII)I"⟩, 18), (⟨"LateThermometersModel", "put", "(III)V"⟩, 18), (⟨"LateThermometersModel", "pass", "(I)I"⟩, 18), (⟨"LateThermometersModel", "mean", "()I"⟩, 18), (⟨"LateThermometersModel", "isAsked", "(I)Z"⟩, 18), (⟨"LateThermometersModel", "of", "(II)I"⟩, 18), (⟨"LateThermometersModel", "mended", "(I)I"⟩, 18), (⟨"LateThermometersModel", "mendedBy", "(II)I"⟩, 18), (⟨"LateThermometersModel", "follow", "(I)V"⟩, 18)]
theorem lw_r2 : ∀ q ∈ lw_privs_2, lw_okq q := List.forall_mem_cons.mpr ⟨lw_p16, List.forall_mem_cons.mpr ⟨lw_p17, List.forall_mem_cons.mpr ⟨lw_p18, List.forall_mem_cons.mpr ⟨lw_p19, List.forall_mem_cons.mpr ⟨lw_p20, List.forall_mem_cons.mpr ⟨lw_p21, List.forall_mem_cons.mpr ⟨lw_p22, List.forall_mem_cons.mpr ⟨lw_p23, List.forall_mem_cons.mpr ⟨lw_p24, List.forall_mem_cons.mpr ⟨lw_p25, List.forall_mem_cons.mpr ⟨lw_p26, List.forall_mem_cons.mpr ⟨lw_p27, List.forall_mem_cons.mpr ⟨lw_p28, List.forall_mem_cons.mpr ⟨lw_p29, List.forall_mem_cons.mpr ⟨lw_p30, List.forall_mem_cons.mpr ⟨lw_p31, fun _ h => absurd h List.not_mem_nil⟩⟩⟩⟩⟩⟩⟩⟩⟩⟩⟩⟩⟩⟩⟩⟩
theorem lw_p32 : lw_okq (⟨"LateThermometersModel", "changeOf", "(I)I"⟩, 18) := ⟨⟨by decide +kernel, by decide +kernel⟩, List.mem_of_getElem? (i := 865) (by decide +kernel), List.mem_of_getElem? (i := 1008) (by decide +kernel), List.mem_of_getElem? (i := 1009) (by decide +kernel)⟩
theorem lw_p33 : lw_okq (⟨"LateThermometersModel", "readRows", "()I"⟩, 18) := ⟨⟨by decide +kernel, by decide +kernel⟩, List.mem_of_getElem? (i := 865) (by decide +kernel), List.mem_of_getElem? (i := 1012) (by decide +kernel), List.mem_of_getElem? (i := 1013) (by decide +kernel)⟩
theorem lw_p34 : lw_okq (⟨"LateThermometersModel", "isDue", "(I)Z"⟩, 18) := ⟨⟨by decide +kernel, by decide +kernel⟩, List.mem_of_getElem? (i := 865) (by decide +kernel), List.mem_of_getElem? (i := 1016) (by decide +kernel), List.mem_of_getElem? (i := 1017) (by decide +kernel)⟩
theorem lw_p35 : lw_okq (⟨"LateThermometersModel", "read", "(I)V"⟩, 18) := ⟨⟨by decide +kernel, by decide +kernel⟩, List.mem_of_getElem? (i := 865) (by decide +kernel), List.mem_of_getElem? (i := 1020) (by decide +kernel), List.mem_of_getElem? (i := 1021) (by decide +kernel)⟩
theorem lw_p36 : lw_okq (⟨"LateThermometersModel", "lookForSpikes", "()V"⟩, 18) := ⟨⟨by decide +kernel, by decide +kernel⟩, List.mem_of_getElem? (i := 865) (by decide +kernel), List.mem_of_getElem? (i := 1024) (by decide +kernel), List.mem_of_getElem? (i := 1025) (by decide +kernel)⟩
theorem lw_p37 : lw_okq (⟨"LateThermometersModel", "compare", "(I)V"⟩, 18) := ⟨⟨by decide +kernel, by decide +kernel⟩, List.mem_of_getElem? (i := 865) (by decide +kernel), List.mem_of_getElem? (i := 1028) (by decide +kernel), List.mem_of_getElem? (i := 1029) (by decide +kernel)⟩
theorem lw_p38 : lw_okq (⟨"LateThermometersModel", "middleWithout", "(I)I"⟩, 18) := ⟨⟨by decide +kernel, by decide +kernel⟩, List.mem_of_getElem? (i := 865) (by decide +kernel), List.mem_of_getElem? (i := 1032) (by decide +kernel), List.mem_of_getElem? (i := 1033) (by decide +kernel)⟩
theorem lw_p39 : lw_okq (⟨"LateThermometersModel", "sortIn", "(I)V"⟩, 18) := ⟨⟨by decide +kernel, by decide +kernel⟩, List.mem_of_getElem? (i := 865) (by decide +kernel), List.mem_of_getElem? (i := 1036) (by decide +kernel), List.mem_of_getElem? (i := 1037) (by decide +kernel)⟩
theorem lw_p40 : lw_okq (⟨"LateThermometersModel", "periodNow", "(II)I"⟩, 18) := ⟨⟨by decide +kernel, by decide +kernel⟩, List.mem_of_getElem? (i := 865) (by decide +kernel), List.mem_of_getElem? (i := 1051) (by decide +kernel), List.mem_of_getElem? (i := 1052) (by decide +kernel)⟩
theorem lw_p41 : lw_okq (⟨"LateThermometersModel", "is", "(I)Z"⟩, 18) := ⟨⟨by decide +kernel, by decide +kernel⟩, List.mem_of_getElem? (i := 865) (by decide +kernel), List.mem_of_getElem? (i := 1059) (by decide +kernel), List.mem_of_getElem? (i := 1060) (by decide +kernel)⟩
theorem lw_p42 : lw_okq (⟨"LateThermometersModel", "calibrateNow", "(I)I"⟩, 18) := ⟨⟨by decide +kernel, by decide +kernel⟩, List.mem_of_getElem? (i := 865) (by decide +kernel), List.mem_of_getElem? (i := 1063) (by decide +kernel), List.mem_of_getElem? (i := 1064) (by decide +kernel)⟩
theorem lw_p43 : lw_okq (⟨"LateThermometersModel", "isComplete", "()Z"⟩, 18) := ⟨⟨by decide +kernel, by decide +kernel⟩, List.mem_of_getElem? (i := 865) (by decide +kernel), List.mem_of_getElem? (i := 1088) (by decide +kernel), List.mem_of_getElem? (i := 1089) (by decide +kernel)⟩
theorem lw_p44 : lw_okq (⟨"LateThermometersModel", "readOrder", "()Z"⟩, 18) := ⟨⟨by decide +kernel, by decide +kernel⟩, List.mem_of_getElem? (i := 865) (by decide +kernel), List.mem_of_getElem? (i := 1092) (by decide +kernel), List.mem_of_getElem? (i := 1093) (by decide +kernel)⟩
theorem lw_p45 : lw_okq (⟨"LateThermometersModel", "readNew", "()Z"⟩, 18) := ⟨⟨by decide +kernel, by decide +kernel⟩, List.mem_of_getElem? (i := 865) (by decide +kernel), List.mem_of_getElem? (i := 1096) (by decide +kernel), List.mem_of_getElem? (i := 1097) (by decide +kernel)⟩
theorem lw_p46 : lw_okq (⟨"LateThermometersModel", "takes", "(II)Z"⟩, 18) := ⟨⟨by decide +kernel, by decide +kernel⟩, List.mem_of_getElem? (i := 865) (by decide +kernel), List.mem_of_getElem? (i := 1100) (by decide +kernel), List.mem_of_getElem? (i := 1101) (by decide +kernel)⟩
theorem lw_p47 : lw_okq (⟨"LateThermometersModel", "digit", "()I"⟩, 18) := ⟨⟨by decide +kernel, by decide +kernel⟩, List.mem_of_getElem? (i := 865) (by decide +kernel), List.mem_of_getElem? (i := 1104) (by decide +kernel), List.mem_of_getElem? (i := 1105) (by decide +kernel)⟩
def lw_privs_3 : List (MethodName × Nat) := [(⟨"LateThermometersModel", "changeOf", "(I)I"⟩, 18), (⟨"LateThermometersModel", "readRows", "()I"⟩, 18), (⟨"LateThermometersModel", "isDue", "(I)Z"⟩, 18), (⟨"LateThermometersModel", "read", "(I)V"⟩, 18), (⟨"LateThermometersModel", "lookForSpikes", "()V"⟩, 18), (⟨"LateThermometersModel", "compare", "(I)V"⟩, 18), (⟨"LateThermometersModel", "middleWithout", "(I)I"⟩, 18), (⟨"LateThermometersModel", "sortIn", "(I)V"⟩, 18), (⟨"LateThermometersModel", "periodNow", "(II)I"⟩, 18), (⟨"LateThermometersModel", "is", "(I)Z"⟩, 18), (⟨"LateThermometersModel", "calibrateNow", "(I)I"⟩, 18), (⟨"LateThermometersModel", "isComplete", "()Z"⟩, 18), (⟨"LateThermometersModel", "readOrder", "()Z"⟩, 18), (⟨"LateThermometersModel", "readNew", "()Z"⟩, 18), (⟨"LateThermometersModel", "takes", "(II)Z"⟩, 18), (⟨"LateThermometersModel", "digit", "()I"⟩, 18)]
theorem lw_r3 : ∀ q ∈ lw_privs_3, lw_okq q := List.forall_mem_cons.mpr ⟨lw_p32, List.forall_mem_cons.mpr ⟨lw_p33, List.forall_mem_cons.mpr ⟨lw_p34, List.forall_mem_cons.mpr ⟨lw_p35, List.forall_mem_cons.mpr ⟨lw_p36, List.forall_mem_cons.mpr ⟨lw_p37, List.forall_mem_cons.mpr ⟨lw_p38, List.forall_mem_cons.mpr ⟨lw_p39, List.forall_mem_cons.mpr ⟨lw_p40, List.forall_mem_cons.mpr ⟨lw_p41, List.forall_mem_cons.mpr ⟨lw_p42, List.forall_mem_cons.mpr ⟨lw_p43, List.forall_mem_cons.mpr ⟨lw_p44, List.forall_mem_cons.mpr ⟨lw_p45, List.forall_mem_cons.mpr ⟨lw_p46, List.forall_mem_cons.mpr ⟨lw_p47, fun _ h => absurd h List.not_mem_nil⟩⟩⟩⟩⟩⟩⟩⟩⟩⟩⟩⟩⟩⟩⟩⟩
theorem lw_p48 : lw_okq (⟨"LateThermometersModel", "readDegrees", "()Z"⟩, 18) := ⟨⟨by decide +kernel, by decide +kernel⟩, List.mem_of_getElem? (i := 865) (by decide +kernel), List.mem_of_getElem? (i := 1108) (by decide +kernel), List.mem_of_getElem? (i := 1109) (by decide +kernel)⟩
theorem lw_p49 : lw_okq (⟨"LateThermometersModel", "readPeriod", "()Z"⟩, 18) := ⟨⟨by decide +kernel, by decide +kernel⟩, List.mem_of_getElem? (i := 865) (by decide +kernel), List.mem_of_getElem? (i := 1112) (by decide +kernel), List.mem_of_getElem? (i := 1113) (by decide +kernel)⟩
theorem lw_p50 : lw_okq (⟨"LateThermometersModel", "readCalibrated", "()Z"⟩, 18) := ⟨⟨by decide +kernel, by decide +kernel⟩, List.mem_of_getElem? (i := 865) (by decide +kernel), List.mem_of_getElem? (i := 1116) (by decide +kernel), List.mem_of_getElem? (i := 1117) (by decide +kernel)⟩
theorem lw_p51 : lw_okq (⟨"LateThermometersModel", "canDo", "(I)Z"⟩, 18) := ⟨⟨by decide +kernel, by decide +kernel⟩, List.mem_of_getElem? (i := 865) (by decide +kernel), List.mem_of_getElem? (i := 1124) (by decide +kernel), List.mem_of_getElem? (i := 1125) (by decide +kernel)⟩
theorem lw_p52 : lw_okq (⟨"LateThermometersModel", "doOrder", "(I)I"⟩, 18) := ⟨⟨by decide +kernel, by decide +kernel⟩, List.mem_of_getElem? (i := 865) (by decide +kernel), List.mem_of_getElem? (i := 1128) (by decide +kernel), List.mem_of_getElem? (i := 1129) (by decide +kernel)⟩
theorem lw_p53 : lw_okq (⟨"LateThermometersModel", "ofRow", "(II)I"⟩, 18) := ⟨⟨by decide +kernel, by decide +kernel⟩, List.mem_of_getElem? (i := 865) (by decide +kernel), List.mem_of_getElem? (i := 1144) (by decide +kernel), List.mem_of_getElem? (i := 1145) (by decide +kernel)⟩
theorem lw_p54 : lw_okq (⟨"LateThermometersModel", "inRow", "(I)I"⟩, 18) := ⟨⟨by decide +kernel, by decide +kernel⟩, List.mem_of_getElem? (i := 865) (by decide +kernel), List.mem_of_getElem? (i := 1148) (by decide +kernel), List.mem_of_getElem? (i := 1149) (by decide +kernel)⟩
theorem lw_p55 : lw_okq (⟨"LateThermometersModel", "number", "(I)I"⟩, 18) := ⟨⟨by decide +kernel, by decide +kernel⟩, List.mem_of_getElem? (i := 865) (by decide +kernel), List.mem_of_getElem? (i := 1156) (by decide +kernel), List.mem_of_getElem? (i := 1157) (by decide +kernel)⟩
theorem lw_p56 : lw_okq (⟨"LateThermometersModel", "asked", "()I"⟩, 18) := ⟨⟨by decide +kernel, by decide +kernel⟩, List.mem_of_getElem? (i := 865) (by decide +kernel), List.mem_of_getElem? (i := 1160) (by decide +kernel), List.mem_of_getElem? (i := 1161) (by decide +kernel)⟩
theorem lw_p57 : lw_okq (⟨"LateThermometersModel", "shutOut", "()I"⟩, 18) := ⟨⟨by decide +kernel, by decide +kernel⟩, List.mem_of_getElem? (i := 865) (by decide +kernel), List.mem_of_getElem? (i := 1164) (by decide +kernel), List.mem_of_getElem? (i := 1165) (by decide +kernel)⟩
theorem lw_p58 : lw_okq (⟨"LateThermometersModel", "slope", "()I"⟩, 18) := ⟨⟨by decide +kernel, by decide +kernel⟩, List.mem_of_getElem? (i := 865) (by decide +kernel), List.mem_of_getElem? (i := 1168) (by decide +kernel), List.mem_of_getElem? (i := 1169) (by decide +kernel)⟩
theorem lw_p59 : lw_okq (⟨"LateThermometersModel", "ofRank", "(II)I"⟩, 18) := ⟨⟨by decide +kernel, by decide +kernel⟩, List.mem_of_getElem? (i := 865) (by decide +kernel), List.mem_of_getElem? (i := 1176) (by decide +kernel), List.mem_of_getElem? (i := 1177) (by decide +kernel)⟩
theorem lw_p60 : lw_okq (⟨"LateThermometersModel", "key", "(II)I"⟩, 18) := ⟨⟨by decide +kernel, by decide +kernel⟩, List.mem_of_getElem? (i := 865) (by decide +kernel), List.mem_of_getElem? (i := 1180) (by decide +kernel), List.mem_of_getElem? (i := 1181) (by decide +kernel)⟩
theorem lw_p61 : lw_okq (⟨"LateThermometersModel", "off", "(I)I"⟩, 18) := ⟨⟨by decide +kernel, by decide +kernel⟩, List.mem_of_getElem? (i := 865) (by decide +kernel), List.mem_of_getElem? (i := 1184) (by decide +kernel), List.mem_of_getElem? (i := 1185) (by decide +kernel)⟩
theorem lw_p62 : lw_okq (⟨"LateThermometersModel", "best", "(I)I"⟩, 18) := ⟨⟨by decide +kernel, by decide +kernel⟩, List.mem_of_getElem? (i := 865) (by decide +kernel), List.mem_of_getElem? (i := 1200) (by decide +kernel), List.mem_of_getElem? (i := 1201) (by decide +kernel)⟩
theorem lw_p63 : lw_okq (⟨"LateThermometersModel", "behind", "(II)I"⟩, 18) := ⟨⟨by decide +kernel, by decide +kernel⟩, List.mem_of_getElem? (i := 865) (by decide +kernel), List.mem_of_getElem? (i := 1208) (by decide +kernel), List.mem_of_getElem? (i := 1209) (by decide +kernel)⟩
def lw_privs_4 : List (MethodName × Nat) := [(⟨"LateThermometersModel", "readDegrees", "()Z"⟩, 18), (⟨"LateThermometersModel", "readPeriod", "()Z"⟩, 18), (⟨"LateThermometersModel", "readCalibrated", "()Z"⟩, 18), (⟨"LateThermometersModel", "canDo", "(I)Z"⟩, 18), (⟨"LateThermometersModel", "doOrder", "(I)I"⟩, 18), (⟨"LateThermometersModel", "ofRow", "(II)I"⟩, 18), (⟨"LateThermometersModel", "inRow", "(I)I"⟩, 18), (⟨"LateThermometersModel", "number", "(I)I"⟩, 18), (⟨"LateThermometersModel", "asked", "()I"⟩, 18), (⟨"LateThermometersModel", "shutOut", "()I"⟩, 18), (⟨"LateThermometersModel", "slope", "()I"⟩, 18), (⟨"LateThermometersModel", "ofRank", "(II)I"⟩, 18), (⟨"LateThermometersModel", "key", "(II)I"⟩, 18), (⟨"LateThermometersModel", "off", "(I)I"⟩, 18), (⟨"LateThermometersModel", "best", "(I)I"⟩, 18), (⟨"LateThermometersModel", "behind", "(II)I"⟩, 18)]
theorem lw_r4 : ∀ q ∈ lw_privs_4, lw_okq q := List.forall_mem_cons.mpr ⟨lw_p48, List.forall_mem_cons.mpr ⟨lw_p49, List.forall_mem_cons.mpr ⟨lw_p50, List.forall_mem_cons.mpr ⟨lw_p51, List.forall_mem_cons.mpr ⟨lw_p52, List.forall_mem_cons.mpr ⟨lw_p53, List.forall_mem_cons.mpr ⟨lw_p54, List.forall_mem_cons.mpr ⟨lw_p55, List.forall_mem_cons.mpr ⟨lw_p56, List.forall_mem_cons.mpr ⟨lw_p57, List.forall_mem_cons.mpr ⟨lw_p58, List.forall_mem_cons.mpr ⟨lw_p59, List.forall_mem_cons.mpr ⟨lw_p60, List.forall_mem_cons.mpr ⟨lw_p61, List.forall_mem_cons.mpr ⟨lw_p62, List.forall_mem_cons.mpr ⟨lw_p63, fun _ h => absurd h List.not_mem_nil⟩⟩⟩⟩⟩⟩⟩⟩⟩⟩⟩⟩⟩⟩⟩⟩
theorem lw_p64 : lw_okq (⟨"LateThermometersModel", "widest", "()I"⟩, 18) := ⟨⟨by decide +kernel, by decide +kernel⟩, List.mem_of_getElem? (i := 865) (by decide +kernel), List.mem_of_getElem? (i := 1212) (by decide +kernel), List.mem_of_getElem? (i := 1213) (by decide +kernel)⟩
def lw_privs_5 : List (MethodName × Nat) := [(⟨"LateThermometersModel", "widest", "()I"⟩, 18)]
theorem lw_r5 : ∀ q ∈ lw_privs_5, lw_okq q := List.forall_mem_cons.mpr ⟨lw_p64, fun _ h => absurd h List.not_mem_nil⟩
def lw_privs : List (MethodName × Nat) := lw_privs_1 ++ (lw_privs_2 ++ (lw_privs_3 ++ (lw_privs_4 ++ (lw_privs_5))))
def lw_tbl : List Cond := k2_sels lw_privs ++ tables_1
theorem lw_privs_ok : ∀ q ∈ lw_privs, lw_okq q := by
  show ∀ q ∈ lw_privs_1 ++ (lw_privs_2 ++ (lw_privs_3 ++ (lw_privs_4 ++ (lw_privs_5)))), lw_okq q
  exact List.forall_mem_append.mpr ⟨lw_r1, List.forall_mem_append.mpr ⟨lw_r2, List.forall_mem_append.mpr ⟨lw_r3, List.forall_mem_append.mpr ⟨lw_r4, lw_r5⟩⟩⟩⟩
/-- the streams that the claim lets the run draw from -/
abbrev lw_cs : List Choice := [Jvm.Choice.named "NaN.bits"]
theorem lw_bits : nanBits ∈ lw_cs := by first | decide | exact List.mem_cons_self | simp [lw_cs, nanBits]

def RX0 : String := "LateThermometers$Ascending"
def TX0 : u_T := fun k => match k with
  | 0 => ("LateThermometers$Ascending", "numbers", "[I", true)
  | _ => ("LateThermometers$Ascending", "size", "I", false)
def tyX0 : Nat → FieldType := fun k => match k with
  | 0 => .array .int
  | _ => .int
theorem nmX0 : ∀ a, a < 2 → ∀ b, b < 2 → a ≠ b → (TX0 a).2.1 ≠ (TX0 b).2.1 := by decide +kernel
theorem tyX0_ok : ∀ k, k < 2 → parseFieldDescriptor (TX0 k).2.2.1 = some (tyX0 k) := by decide +kernel
abbrev cX0_init : ByteArray := prog_2_method_1_code
def yX0_init : MethodName := ⟨RX0, "<init>", "()V"⟩
abbrev cX0_clear : ByteArray := prog_2_method_2_code
def yX0_clear : MethodName := ⟨RX0, "clear", "()V"⟩
abbrev cX0_insert : ByteArray := prog_2_method_3_code
def yX0_insert : MethodName := ⟨RX0, "insert", "(I)V"⟩
abbrev cX0_middle : ByteArray := prog_2_method_4_code
def yX0_middle : MethodName := ⟨RX0, "middle", "()I"⟩
def RX1 : String := "LateThermometers$History"
def TX1 : u_T := fun k => match k with
  | 0 => ("LateThermometers$History", "states", "[LLateThermometers$Place;", true)
  | 1 => ("LateThermometers$History", "spare", "LLateThermometers$Place;", true)
  | 2 => ("LateThermometers$History", "next", "I", false)
  | _ => ("LateThermometers$History", "size", "I", false)
def tyX1 : Nat → FieldType := fun k => match k with
  | 0 => .array (.object "LateThermometers$Place")
  | 1 => .object "LateThermometers$Place"
  | 2 => .int
  | _ => .int
theorem nmX1 : ∀ a, a < 4 → ∀ b, b < 4 → a ≠ b → (TX1 a).2.1 ≠ (TX1 b).2.1 := by decide +kernel
theorem tyX1_ok : ∀ k, k < 4 → parseFieldDescriptor (TX1 k).2.2.1 = some (tyX1 k) := by decide +kernel
abbrev cX1_init : ByteArray := prog_3_method_1_code
def yX1_init : MethodName := ⟨RX1, "<init>", "()V"⟩
abbrev cX1_save : ByteArray := prog_3_method_2_code
def yX1_save : MethodName := ⟨RX1, "save", "(LLateThermometers$Place;)V"⟩
abbrev cX1_restoreLatest : ByteArray := prog_3_method_3_code
def yX1_restoreLatest : MethodName := ⟨RX1, "restoreLatest", "(LLateThermometers$Place;)V"⟩
abbrev cX1_stateAt : ByteArray := prog_3_method_4_code
def yX1_stateAt : MethodName := ⟨RX1, "stateAt", "(I)LLateThermometers$Place;"⟩
def RX2 : String := "LateThermometers$OrderText"
def TX2 : u_T := fun k => match k with
  | 0 => ("LateThermometers$OrderText", "characters", "[C", true)
  | 1 => ("LateThermometers$OrderText", "position", "I", false)
  | 2 => ("LateThermometers$OrderText", "digit", "I", false)
  | 3 => ("LateThermometers$OrderText", "length", "I", false)
  | 4 => ("LateThermometers$OrderText", "kind", "C", false)
  | 5 => ("LateThermometers$OrderText", "row", "I", false)
  | 6 => ("LateThermometers$OrderText", "number", "I", false)
  | _ => ("LateThermometers$OrderText", "weight", "I", false)
def tyX2 : Nat → FieldType := fun k => match k with
  | 0 => .array .char
  | 1 => .int
  | 2 => .int
  | 3 => .int
  | 4 => .char
  | 5 => .int
  | 6 => .int
  | _ => .int
theorem nmX2 : ∀ a, a < 8 → ∀ b, b < 8 → a ≠ b → (TX2 a).2.1 ≠ (TX2 b).2.1 := by decide +kernel
theorem tyX2_ok : ∀ k, k < 8 → parseFieldDescriptor (TX2 k).2.2.1 = some (tyX2 k) := by decide +kernel
abbrev cX2_init : ByteArray := prog_4_method_1_code
def yX2_init : MethodName := ⟨RX2, "<init>", "()V"⟩
abbrev cX2_isFull : ByteArray := prog_4_method_2_code
def yX2_isFull : MethodName := ⟨RX2, "isFull", "()Z"⟩
abbrev cX2_addCharacter : ByteArray := prog_4_method_3_code
def yX2_addCharacter : MethodName := ⟨RX2, "addCharacter", "(C)V"⟩
abbrev cX2_goToStart : ByteArray := prog_4_method_4_code
def yX2_goToStart : MethodName := ⟨RX2, "goToStart", "()V"⟩
abbrev cX2_isComplete : ByteArray := prog_4_method_5_code
def yX2_isComplete : MethodName := ⟨RX2, "isComplete", "()Z"⟩
abbrev cX2_indexOfError : ByteArray := prog_4_method_6_code
def yX2_indexOfError : MethodName := ⟨RX2, "indexOfError", "()I"⟩
abbrev cX2_readsAll : ByteArray := prog_4_method_7_code
def yX2_readsAll : MethodName := ⟨RX2, "readsAll", "()Z"⟩
abbrev cX2_readNextOrder : ByteArray := prog_4_method_8_code
def yX2_readNextOrder : MethodName := ⟨RX2, "readNextOrder", "()Z"⟩
abbrev cX2_readsOrder : ByteArray := prog_4_method_9_code
def yX2_readsOrder : MethodName := ⟨RX2, "readsOrder", "()Z"⟩
abbrev cX2_readsRow : ByteArray := prog_4_method_10_code
def yX2_readsRow : MethodName := ⟨RX2, "readsRow", "()Z"⟩
abbrev cX2_readsNumber : ByteArray := prog_4_method_11_code
def yX2_readsNumber : MethodName := ⟨RX2, "readsNumber", "(CC)Z"⟩
abbrev cX2_readsWeight : ByteArray := prog_4_method_12_code
def yX2_readsWeight : MethodName := ⟨RX2, "readsWeight", "()Z"⟩
abbrev cX2_readsDegrees : ByteArray := prog_4_method_13_code
def yX2_readsDegrees : MethodName := ⟨RX2, "readsDegrees", "()Z"⟩
abbrev cX2_takesSign : ByteArray := prog_4_method_14_code
def yX2_takesSign : MethodName := ⟨RX2, "takesSign", "(C)Z"⟩
abbrev cX2_takes : ByteArray := prog_4_method_15_code
def yX2_takes : MethodName := ⟨RX2, "takes", "(CC)Z"⟩
def RX3 : String := "LateThermometers$Place"
def TX3 : u_T := fun k => match k with
  | 0 => ("LateThermometers$Place", "thermometers", "[LLateThermometers$Thermometer;", true)
  | 1 => ("LateThermometers$Place", "spare", "LLateThermometers$Thermometer;", true)
  | 2 => ("LateThermometers$Place", "periods", "[I", true)
  | 3 => ("LateThermometers$Place", "timesRead", "[I", true)
  | 4 => ("LateThermometers$Place", "sorted", "LLateThermometers$Ascending;", true)
  | 5 => ("LateThermometers$Place", "meanBefore", "I", false)
  | 6 => ("LateThermometers$Place", "size", "I", false)
  | 7 => ("LateThermometers$Place", "hour", "I", false)
  | 8 => ("LateThermometers$Place", "temperature", "I", false)
  | 9 => ("LateThermometers$Place", "readings", "I", false)
  | 10 => ("LateThermometers$Place", "spikes", "I", false)
  | 11 => ("LateThermometers$Place", "difference", "I", false)
  | _ => ("LateThermometers$Place", "strikesToShutOut", "I", false)
def tyX3 : Nat → FieldType := fun k => match k with
  | 0 => .array (.object "LateThermometers$Thermometer")
  | 1 => .object "LateThermometers$Thermometer"
  | 2 => .array .int
  | 3 => .array .int
  | 4 => .object "LateThermometers$Ascending"
  | 5 => .int
  | 6 => .int
  | 7 => .int
  | 8 => .int
  | 9 => .int
  | 10 => .int
  | 11 => .int
  | _ => .int
theorem nmX3 : ∀ a, a < 13 → ∀ b, b < 13 → a ≠ b → (TX3 a).2.1 ≠ (TX3 b).2.1 := by decide +kernel
theorem tyX3_ok : ∀ k, k < 13 → parseFieldDescriptor (TX3 k).2.2.1 = some (tyX3 k) := by decide +kernel
abbrev cX3_init : ByteArray := prog_5_method_1_code
def yX3_init : MethodName := ⟨RX3, "<init>", "()V"⟩
abbrev cX3_copyFrom : ByteArray := prog_5_method_2_code
def yX3_copyFrom : MethodName := ⟨RX3, "copyFrom", "(LLateThermometers$Place;)V"⟩
abbrev cX3_has : ByteArray := prog_5_method_3_code
def yX3_has : MethodName := ⟨RX3, "has", "(I)Z"⟩
abbrev cX3_hasRoom : ByteArray := prog_5_method_4_code
def yX3_hasRoom : MethodName := ⟨RX3, "hasRoom", "()Z"⟩
abbrev cX3_hasHoursLeft : ByteArray := prog_5_method_5_code
def yX3_hasHoursLeft : MethodName := ⟨RX3, "hasHoursLeft", "(I)Z"⟩
abbrev cX3_at : ByteArray := prog_5_method_6_code
def yX3_at : MethodName := ⟨RX3, "at", "(I)LLateThermometers$Thermometer;"⟩
abbrev cX3_add : ByteArray := prog_5_method_7_code
def yX3_add : MethodName := ⟨RX3, "add", "(IIII)I"⟩
abbrev cX3_changePeriod : ByteArray := prog_5_method_8_code
def yX3_changePeriod : MethodName := ⟨RX3, "changePeriod", "(II)V"⟩
abbrev cX3_periodOf : ByteArray := prog_5_method_9_code
def yX3_periodOf : MethodName := ⟨RX3, "periodOf", "(I)I"⟩
abbrev cX3_timesReadOf : ByteArray := prog_5_method_10_code
def yX3_timesReadOf : MethodName := ⟨RX3, "timesReadOf", "(I)I"⟩
abbrev cX3_hoursUntilRead : ByteArray := prog_5_method_11_code
def yX3_hoursUntilRead : MethodName := ⟨RX3, "hoursUntilRead", "(I)I"⟩
abbrev cX3_countInRow : ByteArray := prog_5_method_12_code
def yX3_countInRow : MethodName := ⟨RX3, "countInRow", "(I)I"⟩
abbrev cX3_passHours : ByteArray := prog_5_method_13_code
def yX3_passHours : MethodName := ⟨RX3, "passHours", "(II)V"⟩
abbrev cX3_passHour : ByteArray := prog_5_method_14_code
def yX3_passHour : MethodName := ⟨RX3, "passHour", "(I)I"⟩
abbrev cX3_readRows : ByteArray := prog_5_method_15_code
def yX3_readRows : MethodName := ⟨RX3, "readRows", "()V"⟩
abbrev cX3_isReadNow : ByteArray := prog_5_method_16_code
def yX3_isReadNow : MethodName := ⟨RX3, "isReadNow", "(I)Z"⟩
abbrev cX3_lookForSpikes : ByteArray := prog_5_method_17_code
def yX3_lookForSpikes : MethodName := ⟨RX3, "lookForSpikes", "()V"⟩
abbrev cX3_compareWithOthers : ByteArray := prog_5_method_18_code
def yX3_compareWithOthers : MethodName := ⟨RX3, "compareWithOthers", "(I)V"⟩
abbrev cX3_middleWithout : ByteArray := prog_5_method_19_code
def yX3_middleWithout : MethodName := ⟨RX3, "middleWithout", "(I)I"⟩
abbrev cX3_maskOfAsked : ByteArray := prog_5_method_20_code
def yX3_maskOfAsked : MethodName := ⟨RX3, "maskOfAsked", "()I"⟩
abbrev cX3_maskOfShutOut : ByteArray := prog_5_method_21_code
def yX3_maskOfShutOut : MethodName := ⟨RX3, "maskOfShutOut", "()I"⟩
abbrev cX3_mean : ByteArray := prog_5_method_22_code
def yX3_mean : MethodName := ⟨RX3, "mean", "()I"⟩
abbrev cX3_slope : ByteArray := prog_5_method_23_code
def yX3_slope : MethodName := ⟨RX3, "slope", "()I"⟩
abbrev cX3_atRank : ByteArray := prog_5_method_24_code
def yX3_atRank : MethodName := ⟨RX3, "atRank", "(II)I"⟩
abbrev cX3_countAheadOf : ByteArray := prog_5_method_25_code
def yX3_countAheadOf : MethodName := ⟨RX3, "countAheadOf", "(II)I"⟩
abbrev cX3_sortKey : ByteArray := prog_5_method_26_code
def yX3_sortKey : MethodName := ⟨RX3, "sortKey", "(II)I"⟩
abbrev cX3_countMended : ByteArray := prog_5_method_27_code
def yX3_countMended : MethodName := ⟨RX3, "countMended", "(II)I"⟩
abbrev cX3_sumOfErrors : ByteArray := prog_5_method_28_code
def yX3_sumOfErrors : MethodName := ⟨RX3, "sumOfErrors", "()I"⟩
abbrev cX3_greatestDistance : ByteArray := prog_5_method_29_code
def yX3_greatestDistance : MethodName := ⟨RX3, "greatestDistance", "()I"⟩
def RX4 : String := "LateThermometers$Snapshot"
def TX4 : u_T := fun k => match k with
  | 0 => ("LateThermometers$Snapshot", "place", "LLateThermometers$Place;", true)
  | _ => ("LateThermometers$Snapshot", "taken", "Z", false)
def tyX4 : Nat → FieldType := fun k => match k with
  | 0 => .object "LateThermometers$Place"
  | _ => .boolean
theorem nmX4 : ∀ a, a < 2 → ∀ b, b < 2 → a ≠ b → (TX4 a).2.1 ≠ (TX4 b).2.1 := by decide +kernel
theorem tyX4_ok : ∀ k, k < 2 → parseFieldDescriptor (TX4 k).2.2.1 = some (tyX4 k) := by decide +kernel
abbrev cX4_init : ByteArray := prog_6_method_1_code
def yX4_init : MethodName := ⟨RX4, "<init>", "()V"⟩
abbrev cX4_take : ByteArray := prog_6_method_2_code
def yX4_take : MethodName := ⟨RX4, "take", "(LLateThermometers$Place;)V"⟩
def RX5 : String := "LateThermometers$Thermometer"
def TX5 : u_T := fun k => match k with
  | 0 => ("LateThermometers$Thermometer", "readingHours", "[I", true)
  | 1 => ("LateThermometers$Thermometer", "readingValues", "[I", true)
  | 2 => ("LateThermometers$Thermometer", "kept", "I", false)
  | 3 => ("LateThermometers$Thermometer", "lag", "I", false)
  | 4 => ("LateThermometers$Thermometer", "offset", "I", false)
  | 5 => ("LateThermometers$Thermometer", "row", "I", false)
  | 6 => ("LateThermometers$Thermometer", "weight", "I", false)
  | 7 => ("LateThermometers$Thermometer", "shown", "I", false)
  | 8 => ("LateThermometers$Thermometer", "strikes", "I", false)
  | 9 => ("LateThermometers$Thermometer", "spikes", "I", false)
  | 10 => ("LateThermometers$Thermometer", "shutOut", "Z", false)
  | _ => ("LateThermometers$Thermometer", "mended", "I", false)
def tyX5 : Nat → FieldType := fun k => match k with
  | 0 => .array .int
  | 1 => .array .int
  | 2 => .int
  | 3 => .int
  | 4 => .int
  | 5 => .int
  | 6 => .int
  | 7 => .int
  | 8 => .int
  | 9 => .int
  | 10 => .boolean
  | _ => .int
theorem nmX5 : ∀ a, a < 12 → ∀ b, b < 12 → a ≠ b → (TX5 a).2.1 ≠ (TX5 b).2.1 := by decide +kernel
theorem tyX5_ok : ∀ k, k < 12 → parseFieldDescriptor (TX5 k).2.2.1 = some (tyX5 k) := by decide +kernel
abbrev cX5_init : ByteArray := prog_7_method_1_code
def yX5_init : MethodName := ⟨RX5, "<init>", "()V"⟩
abbrev cX5_begin : ByteArray := prog_7_method_2_code
def yX5_begin : MethodName := ⟨RX5, "begin", "(IIIII)V"⟩
abbrev cX5_startAfresh : ByteArray := prog_7_method_3_code
def yX5_startAfresh : MethodName := ⟨RX5, "startAfresh", "(I)V"⟩
abbrev cX5_copyFrom : ByteArray := prog_7_method_4_code
def yX5_copyFrom : MethodName := ⟨RX5, "copyFrom", "(LLateThermometers$Thermometer;)V"⟩
abbrev cX5_follow : ByteArray := prog_7_method_5_code
def yX5_follow : MethodName := ⟨RX5, "follow", "(I)V"⟩
abbrev cX5_stepFrom : ByteArray := prog_7_method_6_code
def yX5_stepFrom : MethodName := ⟨RX5, "stepFrom", "(II)I"⟩
abbrev cX5_hoursUntilStill : ByteArray := prog_7_method_7_code
def yX5_hoursUntilStill : MethodName := ⟨RX5, "hoursUntilStill", "(I)I"⟩
abbrev cX5_takeReading : ByteArray := prog_7_method_8_code
def yX5_takeReading : MethodName := ⟨RX5, "takeReading", "(I)V"⟩
abbrev cX5_hourAgo : ByteArray := prog_7_method_9_code
def yX5_hourAgo : MethodName := ⟨RX5, "hourAgo", "(I)I"⟩
abbrev cX5_valueAgo : ByteArray := prog_7_method_10_code
def yX5_valueAgo : MethodName := ⟨RX5, "valueAgo", "(I)I"⟩
abbrev cX5_hasMended : ByteArray := prog_7_method_11_code
def yX5_hasMended : MethodName := ⟨RX5, "hasMended", "()Z"⟩
abbrev cX5_isAsked : ByteArray := prog_7_method_12_code
def yX5_isAsked : MethodName := ⟨RX5, "isAsked", "()Z"⟩
abbrev cX5_isAskedAndReadIn : ByteArray := prog_7_method_13_code
def yX5_isAskedAndReadIn : MethodName := ⟨RX5, "isAskedAndReadIn", "(I)Z"⟩
abbrev cX5_mendedWith : ByteArray := prog_7_method_14_code
def yX5_mendedWith : MethodName := ⟨RX5, "mendedWith", "(I)I"⟩
abbrev cX5_lagNearestTo : ByteArray := prog_7_method_15_code
def yX5_lagNearestTo : MethodName := ⟨RX5, "lagNearestTo", "(I)I"⟩
abbrev cX5_error : ByteArray := prog_7_method_16_code
def yX5_error : MethodName := ⟨RX5, "error", "(I)I"⟩
abbrev cX5_distance : ByteArray := prog_7_method_17_code
def yX5_distance : MethodName := ⟨RX5, "distance", "(I)I"⟩
abbrev cX5_compareWith : ByteArray := prog_7_method_18_code
def yX5_compareWith : MethodName := ⟨RX5, "compareWith", "(II)V"⟩
abbrev cX5_shutOutFrom : ByteArray := prog_7_method_19_code
def yX5_shutOutFrom : MethodName := ⟨RX5, "shutOutFrom", "(I)V"⟩
abbrev cX5_numberOf : ByteArray := prog_7_method_20_code
def yX5_numberOf : MethodName := ⟨RX5, "numberOf", "(I)I"⟩
def RX6 : String := "LateThermometers"
def TX6 : u_T := fun k => match k with
  | 0 => ("LateThermometers", "now", "LLateThermometers$Place;", true)
  | 1 => ("LateThermometers", "trial", "LLateThermometers$Place;", true)
  | 2 => ("LateThermometers", "history", "LLateThermometers$History;", true)
  | 3 => ("LateThermometers", "firstSnapshot", "LLateThermometers$Snapshot;", true)
  | 4 => ("LateThermometers", "secondSnapshot", "LLateThermometers$Snapshot;", true)
  | _ => ("LateThermometers", "text", "LLateThermometers$OrderText;", true)
def tyX6 : Nat → FieldType := fun k => match k with
  | 0 => .object "LateThermometers$Place"
  | 1 => .object "LateThermometers$Place"
  | 2 => .object "LateThermometers$History"
  | 3 => .object "LateThermometers$Snapshot"
  | 4 => .object "LateThermometers$Snapshot"
  | _ => .object "LateThermometers$OrderText"
theorem nmX6 : ∀ a, a < 6 → ∀ b, b < 6 → a ≠ b → (TX6 a).2.1 ≠ (TX6 b).2.1 := by decide +kernel
theorem tyX6_ok : ∀ k, k < 6 → parseFieldDescriptor (TX6 k).2.2.1 = some (tyX6 k) := by decide +kernel
abbrev cX6_init : ByteArray := prog_1_method_1_code
def yX6_init : MethodName := ⟨RX6, "<init>", "()V"⟩
abbrev cX6_thermometer : ByteArray := prog_1_method_2_code
def yX6_thermometer : MethodName := ⟨RX6, "thermometer", "(IIII)I"⟩
abbrev cX6_hour : ByteArray := prog_1_method_3_code
def yX6_hour : MethodName := ⟨RX6, "hour", "(I)I"⟩
abbrev cX6_hours : ByteArray := prog_1_method_4_code
def yX6_hours : MethodName := ⟨RX6, "hours", "(II)I"⟩
abbrev cX6_period : ByteArray := prog_1_method_5_code
def yX6_period : MethodName := ⟨RX6, "period", "(II)I"⟩
abbrev cX6_calibrate : ByteArray := prog_1_method_6_code
def yX6_calibrate : MethodName := ⟨RX6, "calibrate", "(I)I"⟩
abbrev cX6_knock : ByteArray := prog_1_method_7_code
def yX6_knock : MethodName := ⟨RX6, "knock", "(II)I"⟩
abbrev cX6_set : ByteArray := prog_1_method_8_code
def yX6_set : MethodName := ⟨RX6, "set", "(II)I"⟩
abbrev cX6_append : ByteArray := prog_1_method_9_code
def yX6_append : MethodName := ⟨RX6, "append", "(I)I"⟩
abbrev cX6_clearBuffer : ByteArray := prog_1_method_10_code
def yX6_clearBuffer : MethodName := ⟨RX6, "clearBuffer", "()I"⟩
abbrev cX6_firstError : ByteArray := prog_1_method_11_code
def yX6_firstError : MethodName := ⟨RX6, "firstError", "()I"⟩
abbrev cX6_execute : ByteArray := prog_1_method_12_code
def yX6_execute : MethodName := ⟨RX6, "execute", "()I"⟩
abbrev cX6_undo : ByteArray := prog_1_method_13_code
def yX6_undo : MethodName := ⟨RX6, "undo", "()I"⟩
abbrev cX6_keep : ByteArray := prog_1_method_14_code
def yX6_keep : MethodName := ⟨RX6, "keep", "(I)I"⟩
abbrev cX6_goBack : ByteArray := prog_1_method_15_code
def yX6_goBack : MethodName := ⟨RX6, "goBack", "(I)I"⟩
abbrev cX6_ofThermometer : ByteArray := prog_1_method_16_code
def yX6_ofThermometer : MethodName := ⟨RX6, "ofThermometer", "(II)I"⟩
abbrev cX6_reading : ByteArray := prog_1_method_17_code
def yX6_reading : MethodName := ⟨RX6, "reading", "(III)I"⟩
abbrev cX6_row : ByteArray := prog_1_method_18_code
def yX6_row : MethodName := ⟨RX6, "row", "(II)I"⟩
abbrev cX6_count : ByteArray := prog_1_method_19_code
def yX6_count : MethodName := ⟨RX6, "count", "(I)I"⟩
abbrev cX6_ranked : ByteArray := prog_1_method_20_code
def yX6_ranked : MethodName := ⟨RX6, "ranked", "(II)I"⟩
abbrev cX6_between : ByteArray := prog_1_method_21_code
def yX6_between : MethodName := ⟨RX6, "between", "(II)I"⟩
abbrev cX6_ifLag : ByteArray := prog_1_method_22_code
def yX6_ifLag : MethodName := ⟨RX6, "ifLag", "(II)I"⟩
abbrev cX6_bestLag : ByteArray := prog_1_method_23_code
def yX6_bestLag : MethodName := ⟨RX6, "bestLag", "(I)I"⟩
abbrev cX6_ifStill : ByteArray := prog_1_method_24_code
def yX6_ifStill : MethodName := ⟨RX6, "ifStill", "(II)I"⟩
abbrev cX6_stillIn : ByteArray := prog_1_method_25_code
def yX6_stillIn : MethodName := ⟨RX6, "stillIn", "(I)I"⟩
abbrev cX6_meanError : ByteArray := prog_1_method_26_code
def yX6_meanError : MethodName := ⟨RX6, "meanError", "()D"⟩
abbrev cX6_checkRow : ByteArray := prog_1_method_27_code
def yX6_checkRow : MethodName := ⟨RX6, "checkRow", "(I)V"⟩
abbrev cX6_checkRange : ByteArray := prog_1_method_28_code
def yX6_checkRange : MethodName := ⟨RX6, "checkRange", "(III)V"⟩
abbrev cX6_checkThermometer : ByteArray := prog_1_method_29_code
def yX6_checkThermometer : MethodName := ⟨RX6, "checkThermometer", "(I)V"⟩
abbrev cX6_checkHoursLeft : ByteArray := prog_1_method_30_code
def yX6_checkHoursLeft : MethodName := ⟨RX6, "checkHoursLeft", "(I)V"⟩
abbrev cX6_snapshotIn : ByteArray := prog_1_method_31_code
def yX6_snapshotIn : MethodName := ⟨RX6, "snapshotIn", "(I)LLateThermometers$Snapshot;"⟩
abbrev cX6_carriesOut : ByteArray := prog_1_method_32_code
def yX6_carriesOut : MethodName := ⟨RX6, "carriesOut", "()Z"⟩
abbrev cX6_quotient : ByteArray := prog_1_method_33_code
def yX6_quotient : MethodName := ⟨RX6, "quotient", "(II)I"⟩
abbrev cX6_remainder : ByteArray := prog_1_method_34_code
def yX6_remainder : MethodName := ⟨RX6, "remainder", "(II)I"⟩
abbrev cX6_entry : ByteArray := prog_1_method_35_code
def yX6_entry : MethodName := ⟨RX6, "entry", "([II)I"⟩
abbrev cX6_copyInto : ByteArray := prog_1_method_36_code
def yX6_copyInto : MethodName := ⟨RX6, "copyInto", "([I[I)V"⟩
abbrev cX6_putFirst : ByteArray := prog_1_method_37_code
def yX6_putFirst : MethodName := ⟨RX6, "putFirst", "([II)V"⟩
def RX7 : String := "LateThermometersModel"
def TX7 : u_T := fun k => match k with
  | 0 => ("LateThermometersModel", "row", "[I", true)
  | 1 => ("LateThermometersModel", "saved", "[I", true)
  | 2 => ("LateThermometersModel", "savedMany", "I", false)
  | 3 => ("LateThermometersModel", "snapshots", "[I", true)
  | 4 => ("LateThermometersModel", "isKept", "[Z", true)
  | 5 => ("LateThermometersModel", "aside", "[I", true)
  | 6 => ("LateThermometersModel", "thrown", "I", false)
  | 7 => ("LateThermometersModel", "sorted", "[I", true)
  | 8 => ("LateThermometersModel", "sortedMany", "I", false)
  | 9 => ("LateThermometersModel", "isCompared", "[Z", true)
  | 10 => ("LateThermometersModel", "buffer", "[I", true)
  | 11 => ("LateThermometersModel", "length", "I", false)
  | 12 => ("LateThermometersModel", "spot", "I", false)
  | 13 => ("LateThermometersModel", "orders", "I", false)
  | 14 => ("LateThermometersModel", "letter", "[I", true)
  | 15 => ("LateThermometersModel", "one", "[I", true)
  | 16 => ("LateThermometersModel", "two", "[I", true)
  | _ => ("LateThermometersModel", "three", "[I", true)
def tyX7 : Nat → FieldType := fun k => match k with
  | 0 => .array .int
  | 1 => .array .int
  | 2 => .int
  | 3 => .array .int
  | 4 => .array .boolean
  | 5 => .array .int
  | 6 => .int
  | 7 => .array .int
  | 8 => .int
  | 9 => .array .boolean
  | 10 => .array .int
  | 11 => .int
  | 12 => .int
  | 13 => .int
  | 14 => .array .int
  | 15 => .array .int
  | 16 => .array .int
  | _ => .array .int
theorem nmX7 : ∀ a, a < 18 → ∀ b, b < 18 → a ≠ b → (TX7 a).2.1 ≠ (TX7 b).2.1 := by decide +kernel
theorem tyX7_ok : ∀ k, k < 18 → parseFieldDescriptor (TX7 k).2.2.1 = some (tyX7 k) := by decide +kernel
abbrev cX7_init : ByteArray := prog_9_method_1_code
def yX7_init : MethodName := ⟨RX7, "<init>", "()V"⟩
abbrev cX7_thrown : ByteArray := prog_9_method_2_code
def yX7_thrown : MethodName := ⟨RX7, "thrown", "()I"⟩
abbrev cX7_fails : ByteArray := prog_9_method_3_code
def yX7_fails : MethodName := ⟨RX7, "fails", "(I)I"⟩
abbrev cX7_in : ByteArray := prog_9_method_4_code
def yX7_in : MethodName := ⟨RX7, "in", "(III)Z"⟩
abbrev cX7_isRow : ByteArray := prog_9_method_5_code
def yX7_isRow : MethodName := ⟨RX7, "isRow", "(I)Z"⟩
abbrev cX7_is : ByteArray := prog_9_method_6_code
def yX7_is : MethodName := ⟨RX7, "is", "(I)Z"⟩
abbrev cX7_of : ByteArray := prog_9_method_7_code
def yX7_of : MethodName := ⟨RX7, "of", "(II)I"⟩
abbrev cX7_put : ByteArray := prog_9_method_8_code
def yX7_put : MethodName := ⟨RX7, "put", "(III)V"⟩
abbrev cX7_size : ByteArray := prog_9_method_9_code
def yX7_size : MethodName := ⟨RX7, "size", "(I)I"⟩
abbrev cX7_save : ByteArray := prog_9_method_10_code
def yX7_save : MethodName := ⟨RX7, "save", "()V"⟩
abbrev cX7_undo : ByteArray := prog_9_method_11_code
def yX7_undo : MethodName := ⟨RX7, "undo", "()I"⟩
abbrev cX7_keep : ByteArray := prog_9_method_12_code
def yX7_keep : MethodName := ⟨RX7, "keep", "(I)I"⟩
abbrev cX7_goBack : ByteArray := prog_9_method_13_code
def yX7_goBack : MethodName := ⟨RX7, "goBack", "(I)I"⟩
abbrev cX7_mendedBy : ByteArray := prog_9_method_14_code
def yX7_mendedBy : MethodName := ⟨RX7, "mendedBy", "(II)I"⟩
abbrev cX7_mended : ByteArray := prog_9_method_15_code
def yX7_mended : MethodName := ⟨RX7, "mended", "(I)I"⟩
abbrev cX7_isAsked : ByteArray := prog_9_method_16_code
def yX7_isAsked : MethodName := ⟨RX7, "isAsked", "(I)Z"⟩
abbrev cX7_sortIn : ByteArray := prog_9_method_17_code
def yX7_sortIn : MethodName := ⟨RX7, "sortIn", "(I)V"⟩
abbrev cX7_middleWithout : ByteArray := prog_9_method_18_code
def yX7_middleWithout : MethodName := ⟨RX7, "middleWithout", "(I)I"⟩
abbrev cX7_mean : ByteArray := prog_9_method_19_code
def yX7_mean : MethodName := ⟨RX7, "mean", "()I"⟩
abbrev cX7_slope : ByteArray := prog_9_method_20_code
def yX7_slope : MethodName := ⟨RX7, "slope", "()I"⟩
abbrev cX7_follow : ByteArray := prog_9_method_21_code
def yX7_follow : MethodName := ⟨RX7, "follow", "(I)V"⟩
abbrev cX7_changeOf : ByteArray := prog_9_method_22_code
def yX7_changeOf : MethodName := ⟨RX7, "changeOf", "(I)I"⟩
abbrev cX7_read : ByteArray := prog_9_method_23_code
def yX7_read : MethodName := ⟨RX7, "read", "(I)V"⟩
abbrev cX7_isDue : ByteArray := prog_9_method_24_code
def yX7_isDue : MethodName := ⟨RX7, "isDue", "(I)Z"⟩
abbrev cX7_readRows : ByteArray := prog_9_method_25_code
def yX7_readRows : MethodName := ⟨RX7, "readRows", "()I"⟩
abbrev cX7_compare : ByteArray := prog_9_method_26_code
def yX7_compare : MethodName := ⟨RX7, "compare", "(I)V"⟩
abbrev cX7_lookForSpikes : ByteArray := prog_9_method_27_code
def yX7_lookForSpikes : MethodName := ⟨RX7, "lookForSpikes", "()V"⟩
abbrev cX7_pass : ByteArray := prog_9_method_28_code
def yX7_pass : MethodName := ⟨RX7, "pass", "(I)I"⟩
abbrev cX7_areNumbers : ByteArray := prog_9_method_29_code
def yX7_areNumbers : MethodName := ⟨RX7, "areNumbers", "(III)Z"⟩
abbrev cX7_add : ByteArray := prog_9_method_30_code
def yX7_add : MethodName := ⟨RX7, "add", "(IIII)I"⟩
abbrev cX7_thermometer : ByteArray := prog_9_method_31_code
def yX7_thermometer : MethodName := ⟨RX7, "thermometer", "(IIII)I"⟩
abbrev cX7_isTemperature : ByteArray := prog_9_method_32_code
def yX7_isTemperature : MethodName := ⟨RX7, "isTemperature", "(I)Z"⟩
abbrev cX7_hour : ByteArray := prog_9_method_33_code
def yX7_hour : MethodName := ⟨RX7, "hour", "(I)I"⟩
abbrev cX7_hours : ByteArray := prog_9_method_34_code
def yX7_hours : MethodName := ⟨RX7, "hours", "(II)I"⟩
abbrev cX7_periodNow : ByteArray := prog_9_method_35_code
def yX7_periodNow : MethodName := ⟨RX7, "periodNow", "(II)I"⟩
abbrev cX7_period : ByteArray := prog_9_method_36_code
def yX7_period : MethodName := ⟨RX7, "period", "(II)I"⟩
abbrev cX7_calibrateNow : ByteArray := prog_9_method_37_code
def yX7_calibrateNow : MethodName := ⟨RX7, "calibrateNow", "(I)I"⟩
abbrev cX7_calibrate : ByteArray := prog_9_method_38_code
def yX7_calibrate : MethodName := ⟨RX7, "calibrate", "(I)I"⟩
abbrev cX7_knock : ByteArray := prog_9_method_39_code
def yX7_knock : MethodName := ⟨RX7, "knock", "(II)I"⟩
abbrev cX7_set : ByteArray := prog_9_method_40_code
def yX7_set : MethodName := ⟨RX7, "set", "(II)I"⟩
abbrev cX7_append : ByteArray := prog_9_method_41_code
def yX7_append : MethodName := ⟨RX7, "append", "(I)I"⟩
abbrev cX7_clearBuffer : ByteArray := prog_9_method_42_code
def yX7_clearBuffer : MethodName := ⟨RX7, "clearBuffer", "()I"⟩
abbrev cX7_takes : ByteArray := prog_9_method_43_code
def yX7_takes : MethodName := ⟨RX7, "takes", "(II)Z"⟩
abbrev cX7_digit : ByteArray := prog_9_method_44_code
def yX7_digit : MethodName := ⟨RX7, "digit", "()I"⟩
abbrev cX7_readDegrees : ByteArray := prog_9_method_45_code
def yX7_readDegrees : MethodName := ⟨RX7, "readDegrees", "()Z"⟩
abbrev cX7_readNew : ByteArray := prog_9_method_46_code
def yX7_readNew : MethodName := ⟨RX7, "readNew", "()Z"⟩
abbrev cX7_readPeriod : ByteArray := prog_9_method_47_code
def yX7_readPeriod : MethodName := ⟨RX7, "readPeriod", "()Z"⟩
abbrev cX7_readCalibrated : ByteArray := prog_9_method_48_code
def yX7_readCalibrated : MethodName := ⟨RX7, "readCalibrated", "()Z"⟩
abbrev cX7_readOrder : ByteArray := prog_9_method_49_code
def yX7_readOrder : MethodName := ⟨RX7, "readOrder", "()Z"⟩
abbrev cX7_isComplete : ByteArray := prog_9_method_50_code
def yX7_isComplete : MethodName := ⟨RX7, "isComplete", "()Z"⟩
abbrev cX7_firstError : ByteArray := prog_9_method_51_code
def yX7_firstError : MethodName := ⟨RX7, "firstError", "()I"⟩
abbrev cX7_canDo : ByteArray := prog_9_method_52_code
def yX7_canDo : MethodName := ⟨RX7, "canDo", "(I)Z"⟩
abbrev cX7_doOrder : ByteArray := prog_9_method_53_code
def yX7_doOrder : MethodName := ⟨RX7, "doOrder", "(I)I"⟩
abbrev cX7_execute : ByteArray := prog_9_method_54_code
def yX7_execute : MethodName := ⟨RX7, "execute", "()I"⟩
abbrev cX7_ofThermometer : ByteArray := prog_9_method_55_code
def yX7_ofThermometer : MethodName := ⟨RX7, "ofThermometer", "(II)I"⟩
abbrev cX7_reading : ByteArray := prog_9_method_56_code
def yX7_reading : MethodName := ⟨RX7, "reading", "(III)I"⟩
abbrev cX7_inRow : ByteArray := prog_9_method_57_code
def yX7_inRow : MethodName := ⟨RX7, "inRow", "(I)I"⟩
abbrev cX7_ofRow : ByteArray := prog_9_method_58_code
def yX7_ofRow : MethodName := ⟨RX7, "ofRow", "(II)I"⟩
abbrev cX7_row : ByteArray := prog_9_method_59_code
def yX7_row : MethodName := ⟨RX7, "row", "(II)I"⟩
abbrev cX7_asked : ByteArray := prog_9_method_60_code
def yX7_asked : MethodName := ⟨RX7, "asked", "()I"⟩
abbrev cX7_shutOut : ByteArray := prog_9_method_61_code
def yX7_shutOut : MethodName := ⟨RX7, "shutOut", "()I"⟩
abbrev cX7_number : ByteArray := prog_9_method_62_code
def yX7_number : MethodName := ⟨RX7, "number", "(I)I"⟩
abbrev cX7_count : ByteArray := prog_9_method_63_code
def yX7_count : MethodName := ⟨RX7, "count", "(I)I"⟩
abbrev cX7_off : ByteArray := prog_9_method_64_code
def yX7_off : MethodName := ⟨RX7, "off", "(I)I"⟩
abbrev cX7_key : ByteArray := prog_9_method_65_code
def yX7_key : MethodName := ⟨RX7, "key", "(II)I"⟩
abbrev cX7_ofRank : ByteArray := prog_9_method_66_code
def yX7_ofRank : MethodName := ⟨RX7, "ofRank", "(II)I"⟩
abbrev cX7_ranked : ByteArray := prog_9_method_67_code
def yX7_ranked : MethodName := ⟨RX7, "ranked", "(II)I"⟩
abbrev cX7_between : ByteArray := prog_9_method_68_code
def yX7_between : MethodName := ⟨RX7, "between", "(II)I"⟩
abbrev cX7_ifLag : ByteArray := prog_9_method_69_code
def yX7_ifLag : MethodName := ⟨RX7, "ifLag", "(II)I"⟩
abbrev cX7_best : ByteArray := prog_9_method_70_code
def yX7_best : MethodName := ⟨RX7, "best", "(I)I"⟩
abbrev cX7_bestLag : ByteArray := prog_9_method_71_code
def yX7_bestLag : MethodName := ⟨RX7, "bestLag", "(I)I"⟩
abbrev cX7_widest : ByteArray := prog_9_method_72_code
def yX7_widest : MethodName := ⟨RX7, "widest", "()I"⟩
abbrev cX7_behind : ByteArray := prog_9_method_73_code
def yX7_behind : MethodName := ⟨RX7, "behind", "(II)I"⟩
abbrev cX7_ifStill : ByteArray := prog_9_method_74_code
def yX7_ifStill : MethodName := ⟨RX7, "ifStill", "(II)I"⟩
abbrev cX7_stillIn : ByteArray := prog_9_method_75_code
def yX7_stillIn : MethodName := ⟨RX7, "stillIn", "(I)I"⟩
abbrev cX7_meanError : ByteArray := prog_9_method_76_code
def yX7_meanError : MethodName := ⟨RX7, "meanError", "()D"⟩
def RJ6 : String := "java/lang/Integer"
abbrev cJ6_bitCount_0f7a4 : ByteArray := prog_14_method_49_code
def yJ6_bitCount_0f7a4 : MethodName := ⟨RJ6, "bitCount", "(I)I"⟩
def RJ9 : String := "java/lang/Math"
abbrev cJ9_abs_0f7a4 : ByteArray := prog_15_method_59_code
def yJ9_abs_0f7a4 : MethodName := ⟨RJ9, "abs", "(I)I"⟩
abbrev cJ9_max_7cf53 : ByteArray := prog_15_method_65_code
def yJ9_max_7cf53 : MethodName := ⟨RJ9, "max", "(II)I"⟩
abbrev cJ9_min_7cf53 : ByteArray := prog_15_method_69_code
def yJ9_min_7cf53 : MethodName := ⟨RJ9, "min", "(II)I"⟩
def RJ0 : String := "java/lang/String"
def RL : String := "LateThermometersLaw"
abbrev cL_thermometer : ByteArray := method_3_code
def yL_thermometer : MethodName := ⟨RL, "thermometer", "(LLateThermometers;IIII[J)I"⟩
abbrev cL_hour : ByteArray := method_4_code
def yL_hour : MethodName := ⟨RL, "hour", "(LLateThermometers;I[J)I"⟩
abbrev cL_hours : ByteArray := method_5_code
def yL_hours : MethodName := ⟨RL, "hours", "(LLateThermometers;II[J)I"⟩
abbrev cL_period : ByteArray := method_6_code
def yL_period : MethodName := ⟨RL, "period", "(LLateThermometers;II[J)I"⟩
abbrev cL_calibrate : ByteArray := method_7_code
def yL_calibrate : MethodName := ⟨RL, "calibrate", "(LLateThermometers;I[J)I"⟩
abbrev cL_knock : ByteArray := method_8_code
def yL_knock : MethodName := ⟨RL, "knock", "(LLateThermometers;II[J)I"⟩
abbrev cL_set : ByteArray := method_9_code
def yL_set : MethodName := ⟨RL, "set", "(LLateThermometers;II[J)I"⟩
abbrev cL_append : ByteArray := method_10_code
def yL_append : MethodName := ⟨RL, "append", "(LLateThermometers;I[J)I"⟩
abbrev cL_execute : ByteArray := method_11_code
def yL_execute : MethodName := ⟨RL, "execute", "(LLateThermometers;[J)I"⟩
abbrev cL_undo : ByteArray := method_12_code
def yL_undo : MethodName := ⟨RL, "undo", "(LLateThermometers;[J)I"⟩
abbrev cL_keep : ByteArray := method_13_code
def yL_keep : MethodName := ⟨RL, "keep", "(LLateThermometers;I[J)I"⟩
abbrev cL_goBack : ByteArray := method_14_code
def yL_goBack : MethodName := ⟨RL, "goBack", "(LLateThermometers;I[J)I"⟩
abbrev cL_ofThermometer : ByteArray := method_15_code
def yL_ofThermometer : MethodName := ⟨RL, "ofThermometer", "(LLateThermometers;II[J)I"⟩
abbrev cL_reading : ByteArray := method_16_code
def yL_reading : MethodName := ⟨RL, "reading", "(LLateThermometers;III[J)I"⟩
abbrev cL_row : ByteArray := method_17_code
def yL_row : MethodName := ⟨RL, "row", "(LLateThermometers;II[J)I"⟩
abbrev cL_count : ByteArray := method_18_code
def yL_count : MethodName := ⟨RL, "count", "(LLateThermometers;I[J)I"⟩
abbrev cL_ranked : ByteArray := method_19_code
def yL_ranked : MethodName := ⟨RL, "ranked", "(LLateThermometers;II[J)I"⟩
abbrev cL_ifLag : ByteArray := method_20_code
def yL_ifLag : MethodName := ⟨RL, "ifLag", "(LLateThermometers;II[J)I"⟩
abbrev cL_bestLag : ByteArray := method_21_code
def yL_bestLag : MethodName := ⟨RL, "bestLag", "(LLateThermometers;I[J)I"⟩
abbrev cL_ifStill : ByteArray := method_22_code
def yL_ifStill : MethodName := ⟨RL, "ifStill", "(LLateThermometers;II[J)I"⟩
abbrev cL_stillIn : ByteArray := method_23_code
def yL_stillIn : MethodName := ⟨RL, "stillIn", "(LLateThermometers;I[J)I"⟩
abbrev cL_law : ByteArray := code
def yL_law : MethodName := ⟨RL, "law", "([I)Z"⟩
end
section
theorem dX0_init_0 : decode cX0_init 0 = .ok (.aload_n 0, 1) := by decide +kernel
theorem dX0_init_1 : decode cX0_init 1 = .ok (.invokespecial 3, 3) := by decide +kernel
theorem dX0_init_4 : decode cX0_init 4 = .ok (.aload_n 0, 1) := by decide +kernel
theorem dX0_init_5 : decode cX0_init 5 = .ok (.bipush 10, 2) := by decide +kernel
theorem dX0_init_7 : decode cX0_init 7 = .ok (.newarray .int, 2) := by decide +kernel
theorem dX0_init_9 : decode cX0_init 9 = .ok (.putfield 9, 3) := by decide +kernel
theorem dX0_init_12 : decode cX0_init 12 = .ok (.return_, 1) := by decide +kernel
theorem dX0_clear_0 : decode cX0_clear 0 = .ok (.aload_n 0, 1) := by decide +kernel
theorem dX0_clear_1 : decode cX0_clear 1 = .ok (.iconst 0, 1) := by decide +kernel
theorem dX0_clear_2 : decode cX0_clear 2 = .ok (.putfield 15, 3) := by decide +kernel
theorem dX0_clear_5 : decode cX0_clear 5 = .ok (.return_, 1) := by decide +kernel
theorem dX0_insert_0 : decode cX0_insert 0 = .ok (.aload_n 0, 1) := by decide +kernel
theorem dX0_insert_1 : decode cX0_insert 1 = .ok (.getfield 15, 3) := by decide +kernel
theorem dX0_insert_4 : decode cX0_insert 4 = .ok (.aload_n 0, 1) := by decide +kernel
theorem dX0_insert_5 : decode cX0_insert 5 = .ok (.getfield 9, 3) := by decide +kernel
theorem dX0_insert_8 : decode cX0_insert 8 = .ok (.arraylength, 1) := by decide +kernel
theorem dX0_insert_9 : decode cX0_insert 9 = .ok (.if_icmp .lt 4, 3) := by decide +kernel
theorem dX0_insert_12 : decode cX0_insert 12 = .ok (.return_, 1) := by decide +kernel
theorem dX0_insert_13 : decode cX0_insert 13 = .ok (.aload_n 0, 1) := by decide +kernel
theorem dX0_insert_14 : decode cX0_insert 14 = .ok (.getfield 15, 3) := by decide +kernel
theorem dX0_insert_17 : decode cX0_insert 17 = .ok (.istore_n 2, 1) := by decide +kernel
theorem dX0_insert_18 : decode cX0_insert 18 = .ok (.iload_n 2, 1) := by decide +kernel
theorem dX0_insert_19 : decode cX0_insert 19 = .ok (.ifCond .le 35, 3) := by decide +kernel
theorem dX0_insert_22 : decode cX0_insert 22 = .ok (.aload_n 0, 1) := by decide +kernel
theorem dX0_insert_23 : decode cX0_insert 23 = .ok (.getfield 9, 3) := by decide +kernel
theorem dX0_insert_26 : decode cX0_insert 26 = .ok (.iload_n 2, 1) := by decide +kernel
theorem dX0_insert_27 : decode cX0_insert 27 = .ok (.iconst 1, 1) := by decide +kernel
theorem dX0_insert_28 : decode cX0_insert 28 = .ok (.isub, 1) := by decide +kernel
theorem dX0_insert_29 : decode cX0_insert 29 = .ok (.iaload, 1) := by decide +kernel
theorem dX0_insert_30 : decode cX0_insert 30 = .ok (.iload_n 1, 1) := by decide +kernel
theorem dX0_insert_31 : decode cX0_insert 31 = .ok (.if_icmp .le 23, 3) := by decide +kernel
theorem dX0_insert_34 : decode cX0_insert 34 = .ok (.aload_n 0, 1) := by decide +kernel
theorem dX0_insert_35 : decode cX0_insert 35 = .ok (.getfield 9, 3) := by decide +kernel
theorem dX0_insert_38 : decode cX0_insert 38 = .ok (.iload_n 2, 1) := by decide +kernel
theorem dX0_insert_39 : decode cX0_insert 39 = .ok (.aload_n 0, 1) := by decide +kernel
theorem dX0_insert_40 : decode cX0_insert 40 = .ok (.getfield 9, 3) := by decide +kernel
theorem dX0_insert_43 : decode cX0_insert 43 = .ok (.iload_n 2, 1) := by decide +kernel
theorem dX0_insert_44 : decode cX0_insert 44 = .ok (.iconst 1, 1) := by decide +kernel
theorem dX0_insert_45 : decode cX0_insert 45 = .ok (.isub, 1) := by decide +kernel
theorem dX0_insert_46 : decode cX0_insert 46 = .ok (.iaload, 1) := by decide +kernel
theorem dX0_insert_47 : decode cX0_insert 47 = .ok (.iastore, 1) := by decide +kernel
theorem dX0_insert_48 : decode cX0_insert 48 = .ok (.iinc 2 (-1), 3) := by decide +kernel
theorem dX0_insert_51 : decode cX0_insert 51 = .ok (.goto (-33), 3) := by decide +kernel
theorem dX0_insert_54 : decode cX0_insert 54 = .ok (.aload_n 0, 1) := by decide +kernel
theorem dX0_insert_55 : decode cX0_insert 55 = .ok (.getfield 9, 3) := by decide +kernel
theorem dX0_insert_58 : decode cX0_insert 58 = .ok (.iload_n 2, 1) := by decide +kernel
theorem dX0_insert_59 : decode cX0_insert 59 = .ok (.iload_n 1, 1) := by decide +kernel
theorem dX0_insert_60 : decode cX0_insert 60 = .ok (.iastore, 1) := by decide +kernel
theorem dX0_insert_61 : decode cX0_insert 61 = .ok (.aload_n 0, 1) := by decide +kernel
theorem dX0_insert_62 : decode cX0_insert 62 = .ok (.dup, 1) := by decide +kernel
theorem dX0_insert_63 : decode cX0_insert 63 = .ok (.getfield 15, 3) := by decide +kernel
theorem dX0_insert_66 : decode cX0_insert 66 = .ok (.iconst 1, 1) := by decide +kernel
theorem dX0_insert_67 : decode cX0_insert 67 = .ok (.iadd, 1) := by decide +kernel
theorem dX0_insert_68 : decode cX0_insert 68 = .ok (.putfield 15, 3) := by decide +kernel
theorem dX0_insert_71 : decode cX0_insert 71 = .ok (.return_, 1) := by decide +kernel
theorem dX0_middle_0 : decode cX0_middle 0 = .ok (.aload_n 0, 1) := by decide +kernel
theorem dX0_middle_1 : decode cX0_middle 1 = .ok (.getfield 15, 3) := by decide +kernel
theorem dX0_middle_4 : decode cX0_middle 4 = .ok (.iconst 1, 1) := by decide +kernel
theorem dX0_middle_5 : decode cX0_middle 5 = .ok (.isub, 1) := by decide +kernel
theorem dX0_middle_6 : decode cX0_middle 6 = .ok (.iconst 2, 1) := by decide +kernel
theorem dX0_middle_7 : decode cX0_middle 7 = .ok (.idiv, 1) := by decide +kernel
theorem dX0_middle_8 : decode cX0_middle 8 = .ok (.istore_n 1, 1) := by decide +kernel
theorem dX0_middle_9 : decode cX0_middle 9 = .ok (.aload_n 0, 1) := by decide +kernel
theorem dX0_middle_10 : decode cX0_middle 10 = .ok (.getfield 15, 3) := by decide +kernel
theorem dX0_middle_13 : decode cX0_middle 13 = .ok (.ifCond .le 21, 3) := by decide +kernel
theorem dX0_middle_16 : decode cX0_middle 16 = .ok (.iload_n 1, 1) := by decide +kernel
theorem dX0_middle_17 : decode cX0_middle 17 = .ok (.aload_n 0, 1) := by decide +kernel
theorem dX0_middle_18 : decode cX0_middle 18 = .ok (.getfield 9, 3) := by decide +kernel
theorem dX0_middle_21 : decode cX0_middle 21 = .ok (.arraylength, 1) := by decide +kernel
theorem dX0_middle_22 : decode cX0_middle 22 = .ok (.if_icmp .ge 12, 3) := by decide +kernel
theorem dX0_middle_25 : decode cX0_middle 25 = .ok (.aload_n 0, 1) := by decide +kernel
theorem dX0_middle_26 : decode cX0_middle 26 = .ok (.getfield 9, 3) := by decide +kernel
theorem dX0_middle_29 : decode cX0_middle 29 = .ok (.iload_n 1, 1) := by decide +kernel
theorem dX0_middle_30 : decode cX0_middle 30 = .ok (.iaload, 1) := by decide +kernel
theorem dX0_middle_31 : decode cX0_middle 31 = .ok (.goto 5, 3) := by decide +kernel
theorem dX0_middle_34 : decode cX0_middle 34 = .ok (.ldc 19, 2) := by decide +kernel
theorem dX0_middle_36 : decode cX0_middle 36 = .ok (.ireturn, 1) := by decide +kernel
theorem dX1_init_0 : decode cX1_init 0 = .ok (.aload_n 0, 1) := by decide +kernel
theorem dX1_init_1 : decode cX1_init 1 = .ok (.invokespecial 3, 3) := by decide +kernel
theorem dX1_init_4 : decode cX1_init 4 = .ok (.aload_n 0, 1) := by decide +kernel
theorem dX1_init_5 : decode cX1_init 5 = .ok (.bipush 6, 2) := by decide +kernel
theorem dX1_init_7 : decode cX1_init 7 = .ok (.anewarray 9, 3) := by decide +kernel
theorem dX1_init_10 : decode cX1_init 10 = .ok (.putfield 11, 3) := by decide +kernel
theorem dX1_init_13 : decode cX1_init 13 = .ok (.aload_n 0, 1) := by decide +kernel
theorem dX1_init_14 : decode cX1_init 14 = .ok (.new 9, 3) := by decide +kernel
theorem dX1_init_17 : decode cX1_init 17 = .ok (.dup, 1) := by decide +kernel
theorem dX1_init_18 : decode cX1_init 18 = .ok (.invokespecial 17, 3) := by decide +kernel
theorem dX1_init_21 : decode cX1_init 21 = .ok (.putfield 18, 3) := by decide +kernel
theorem dX1_init_24 : decode cX1_init 24 = .ok (.iconst 0, 1) := by decide +kernel
theorem dX1_init_25 : decode cX1_init 25 = .ok (.istore_n 1, 1) := by decide +kernel
theorem dX1_init_26 : decode cX1_init 26 = .ok (.iload_n 1, 1) := by decide +kernel
theorem dX1_init_27 : decode cX1_init 27 = .ok (.aload_n 0, 1) := by decide +kernel
theorem dX1_init_28 : decode cX1_init 28 = .ok (.getfield 11, 3) := by decide +kernel
theorem dX1_init_31 : decode cX1_init 31 = .ok (.arraylength, 1) := by decide +kernel
theorem dX1_init_32 : decode cX1_init 32 = .ok (.if_icmp .ge 22, 3) := by decide +kernel
theorem dX1_init_35 : decode cX1_init 35 = .ok (.aload_n 0, 1) := by decide +kernel
theorem dX1_init_36 : decode cX1_init 36 = .ok (.getfield 11, 3) := by decide +kernel
theorem dX1_init_39 : decode cX1_init 39 = .ok (.iload_n 1, 1) := by decide +kernel
theorem dX1_init_40 : decode cX1_init 40 = .ok (.new 9, 3) := by decide +kernel
theorem dX1_init_43 : decode cX1_init 43 = .ok (.dup, 1) := by decide +kernel
theorem dX1_init_44 : decode cX1_init 44 = .ok (.invokespecial 17, 3) := by decide +kernel
theorem dX1_init_47 : decode cX1_init 47 = .ok (.aastore, 1) := by decide +kernel
theorem dX1_init_48 : decode cX1_init 48 = .ok (.iinc 1 1, 3) := by decide +kernel
theorem dX1_init_51 : decode cX1_init 51 = .ok (.goto (-25), 3) := by decide +kernel
theorem dX1_init_54 : decode cX1_init 54 = .ok (.return_, 1) := by decide +kernel
theorem dX1_save_0 : decode cX1_save 0 = .ok (.aload_n 0, 1) := by decide +kernel
theorem dX1_save_1 : decode cX1_save 1 = .ok (.aload_n 0, 1) := by decide +kernel
theorem dX1_save_2 : decode cX1_save 2 = .ok (.getfield 22, 3) := by decide +kernel
theorem dX1_save_5 : decode cX1_save 5 = .ok (.invokevirtual 26, 3) := by decide +kernel
theorem dX1_save_8 : decode cX1_save 8 = .ok (.aload_n 1, 1) := by decide +kernel
theorem dX1_save_9 : decode cX1_save 9 = .ok (.invokevirtual 30, 3) := by decide +kernel
theorem dX1_save_12 : decode cX1_save 12 = .ok (.aload_n 0, 1) := by decide +kernel
theorem dX1_save_13 : decode cX1_save 13 = .ok (.aload_n 0, 1) := by decide +kernel
theorem dX1_save_14 : decode cX1_save 14 = .ok (.getfield 22, 3) := by decide +kernel
theorem dX1_save_17 : decode cX1_save 17 = .ok (.iconst 1, 1) := by decide +kernel
theorem dX1_save_18 : decode cX1_save 18 = .ok (.iadd, 1) := by decide +kernel
theorem dX1_save_19 : decode cX1_save 19 = .ok (.bipush 6, 2) := by decide +kernel
theorem dX1_save_21 : decode cX1_save 21 = .ok (.irem, 1) := by decide +kernel
theorem dX1_save_22 : decode cX1_save 22 = .ok (.putfield 22, 3) := by decide +kernel
theorem dX1_save_25 : decode cX1_save 25 = .ok (.aload_n 0, 1) := by decide +kernel
theorem dX1_save_26 : decode cX1_save 26 = .ok (.aload_n 0, 1) := by decide +kernel
theorem dX1_save_27 : decode cX1_save 27 = .ok (.getfield 34, 3) := by decide +kernel
theorem dX1_save_30 : decode cX1_save 30 = .ok (.iconst 1, 1) := by decide +kernel
theorem dX1_save_31 : decode cX1_save 31 = .ok (.iadd, 1) := by decide +kernel
theorem dX1_save_32 : decode cX1_save 32 = .ok (.bipush 6, 2) := by decide +kernel
theorem dX1_save_34 : decode cX1_save 34 = .ok (.invokestatic 37, 3) := by decide +kernel
theorem dX1_save_37 : decode cX1_save 37 = .ok (.putfield 34, 3) := by decide +kernel
theorem dX1_save_40 : decode cX1_save 40 = .ok (.return_, 1) := by decide +kernel
theorem dX1_restoreLatest_0 : decode cX1_restoreLatest 0 = .ok (.aload_n 0, 1) := by decide +kernel
theorem dX1_restoreLatest_1 : decode cX1_restoreLatest 1 = .ok (.aload_n 0, 1) := by decide +kernel
theorem dX1_restoreLatest_2 : decode cX1_restoreLatest 2 = .ok (.getfield 22, 3) := by decide +kernel
theorem dX1_restoreLatest_5 : decode cX1_restoreLatest 5 = .ok (.bipush 6, 2) := by decide +kernel
theorem dX1_restoreLatest_7 : decode cX1_restoreLatest 7 = .ok (.iadd, 1) := by decide +kernel
theorem dX1_restoreLatest_8 : decode cX1_restoreLatest 8 = .ok (.iconst 1, 1) := by decide +kernel
theorem dX1_restoreLatest_9 : decode cX1_restoreLatest 9 = .ok (.isub, 1) := by decide +kernel
theorem dX1_restoreLatest_10 : decode cX1_restoreLatest 10 = .ok (.bipush 6, 2) := by decide +kernel
theorem dX1_restoreLatest_12 : decode cX1_restoreLatest 12 = .ok (.irem, 1) := by decide +kernel
theorem dX1_restoreLatest_13 : decode cX1_restoreLatest 13 = .ok (.putfield 22, 3) := by decide +kernel
theorem dX1_restoreLatest_16 : decode cX1_restoreLatest 16 = .ok (.aload_n 1, 1) := by decide +kernel
theorem dX1_restoreLatest_17 : decode cX1_restoreLatest 17 = .ok (.aload_n 0, 1) := by decide +kernel
theorem dX1_restoreLatest_18 : decode cX1_restoreLatest 18 = .ok (.aload_n 0, 1) := by decide +kernel
theorem dX1_restoreLatest_19 : decode cX1_restoreLatest 19 = .ok (.getfield 22, 3) := by decide +kernel
theorem dX1_restoreLatest_22 : decode cX1_restoreLatest 22 = .ok (.invokevirtual 26, 3) := by decide +kernel
theorem dX1_restoreLatest_25 : decode cX1_restoreLatest 25 = .ok (.invokevirtual 30, 3) := by decide +kernel
theorem dX1_restoreLatest_28 : decode cX1_restoreLatest 28 = .ok (.aload_n 0, 1) := by decide +kernel
theorem dX1_restoreLatest_29 : decode cX1_restoreLatest 29 = .ok (.dup, 1) := by decide +kernel
theorem dX1_restoreLatest_30 : decode cX1_restoreLatest 30 = .ok (.getfield 34, 3) := by decide +kernel
theorem dX1_restoreLatest_33 : decode cX1_restoreLatest 33 = .ok (.iconst 1, 1) := by decide +kernel
theorem dX1_restoreLatest_34 : decode cX1_restoreLatest 34 = .ok (.isub, 1) := by decide +kernel
theorem dX1_restoreLatest_35 : decode cX1_restoreLatest 35 = .ok (.putfield 34, 3) := by decide +kernel
theorem dX1_restoreLatest_38 : decode cX1_restoreLatest 38 = .ok (.return_, 1) := by decide +kernel
theorem dX1_stateAt_0 : decode cX1_stateAt 0 = .ok (.iload_n 1, 1) := by decide +kernel
theorem dX1_stateAt_1 : decode cX1_stateAt 1 = .ok (.ifCond .lt 12, 3) := by decide +kernel
theorem dX1_stateAt_4 : decode cX1_stateAt 4 = .ok (.iload_n 1, 1) := by decide +kernel
theorem dX1_stateAt_5 : decode cX1_stateAt 5 = .ok (.aload_n 0, 1) := by decide +kernel
theorem dX1_stateAt_6 : decode cX1_stateAt 6 = .ok (.getfield 11, 3) := by decide +kernel
theorem dX1_stateAt_9 : decode cX1_stateAt 9 = .ok (.arraylength, 1) := by decide +kernel
theorem dX1_stateAt_10 : decode cX1_stateAt 10 = .ok (.if_icmp .lt 8, 3) := by decide +kernel
theorem dX1_stateAt_13 : decode cX1_stateAt 13 = .ok (.aload_n 0, 1) := by decide +kernel
theorem dX1_stateAt_14 : decode cX1_stateAt 14 = .ok (.getfield 18, 3) := by decide +kernel
theorem dX1_stateAt_17 : decode cX1_stateAt 17 = .ok (.areturn, 1) := by decide +kernel
theorem dX1_stateAt_18 : decode cX1_stateAt 18 = .ok (.aload_n 0, 1) := by decide +kernel
theorem dX1_stateAt_19 : decode cX1_stateAt 19 = .ok (.getfield 11, 3) := by decide +kernel
theorem dX1_stateAt_22 : decode cX1_stateAt 22 = .ok (.iload_n 1, 1) := by decide +kernel
theorem dX1_stateAt_23 : decode cX1_stateAt 23 = .ok (.aaload, 1) := by decide +kernel
theorem dX1_stateAt_24 : decode cX1_stateAt 24 = .ok (.astore_n 2, 1) := by decide +kernel
theorem dX1_stateAt_25 : decode cX1_stateAt 25 = .ok (.aload_n 2, 1) := by decide +kernel
theorem dX1_stateAt_26 : decode cX1_stateAt 26 = .ok (.ifnonnull 10, 3) := by decide +kernel
theorem dX1_stateAt_29 : decode cX1_stateAt 29 = .ok (.aload_n 0, 1) := by decide +kernel
theorem dX1_stateAt_30 : decode cX1_stateAt 30 = .ok (.getfield 18, 3) := by decide +kernel
theorem dX1_stateAt_33 : decode cX1_stateAt 33 = .ok (.goto 4, 3) := by decide +kernel
theorem dX1_stateAt_36 : decode cX1_stateAt 36 = .ok (.aload_n 2, 1) := by decide +kernel
theorem dX1_stateAt_37 : decode cX1_stateAt 37 = .ok (.areturn, 1) := by decide +kernel
theorem dX2_init_0 : decode cX2_init 0 = .ok (.aload_n 0, 1) := by decide +kernel
theorem dX2_init_1 : decode cX2_init 1 = .ok (.invokespecial 3, 3) := by decide +kernel
theorem dX2_init_4 : decode cX2_init 4 = .ok (.aload_n 0, 1) := by decide +kernel
theorem dX2_init_5 : decode cX2_init 5 = .ok (.bipush 60, 2) := by decide +kernel
theorem dX2_init_7 : decode cX2_init 7 = .ok (.newarray .char, 2) := by decide +kernel
theorem dX2_init_9 : decode cX2_init 9 = .ok (.putfield 9, 3) := by decide +kernel
theorem dX2_init_12 : decode cX2_init 12 = .ok (.return_, 1) := by decide +kernel
theorem dX2_isFull_0 : decode cX2_isFull 0 = .ok (.aload_n 0, 1) := by decide +kernel
theorem dX2_isFull_1 : decode cX2_isFull 1 = .ok (.getfield 15, 3) := by decide +kernel
theorem dX2_isFull_4 : decode cX2_isFull 4 = .ok (.aload_n 0, 1) := by decide +kernel
theorem dX2_isFull_5 : decode cX2_isFull 5 = .ok (.getfield 9, 3) := by decide +kernel
theorem dX2_isFull_8 : decode cX2_isFull 8 = .ok (.arraylength, 1) := by decide +kernel
theorem dX2_isFull_9 : decode cX2_isFull 9 = .ok (.if_icmp .lt 7, 3) := by decide +kernel
theorem dX2_isFull_12 : decode cX2_isFull 12 = .ok (.iconst 1, 1) := by decide +kernel
theorem dX2_isFull_13 : decode cX2_isFull 13 = .ok (.goto 4, 3) := by decide +kernel
theorem dX2_isFull_16 : decode cX2_isFull 16 = .ok (.iconst 0, 1) := by decide +kernel
theorem dX2_isFull_17 : decode cX2_isFull 17 = .ok (.ireturn, 1) := by decide +kernel
theorem dX2_addCharacter_0 : decode cX2_addCharacter 0 = .ok (.aload_n 0, 1) := by decide +kernel
theorem dX2_addCharacter_1 : decode cX2_addCharacter 1 = .ok (.getfield 15, 3) := by decide +kernel
theorem dX2_addCharacter_4 : decode cX2_addCharacter 4 = .ok (.ifCond .lt 35, 3) := by decide +kernel
theorem dX2_addCharacter_7 : decode cX2_addCharacter 7 = .ok (.aload_n 0, 1) := by decide +kernel
theorem dX2_addCharacter_8 : decode cX2_addCharacter 8 = .ok (.getfield 15, 3) := by decide +kernel
theorem dX2_addCharacter_11 : decode cX2_addCharacter 11 = .ok (.aload_n 0, 1) := by decide +kernel
theorem dX2_addCharacter_12 : decode cX2_addCharacter 12 = .ok (.getfield 9, 3) := by decide +kernel
theorem dX2_addCharacter_15 : decode cX2_addCharacter 15 = .ok (.arraylength, 1) := by decide +kernel
theorem dX2_addCharacter_16 : decode cX2_addCharacter 16 = .ok (.if_icmp .ge 23, 3) := by decide +kernel
theorem dX2_addCharacter_19 : decode cX2_addCharacter 19 = .ok (.aload_n 0, 1) := by decide +kernel
theorem dX2_addCharacter_20 : decode cX2_addCharacter 20 = .ok (.getfield 9, 3) := by decide +kernel
theorem dX2_addCharacter_23 : decode cX2_addCharacter 23 = .ok (.aload_n 0, 1) := by decide +kernel
theorem dX2_addCharacter_24 : decode cX2_addCharacter 24 = .ok (.getfield 15, 3) := by decide +kernel
theorem dX2_addCharacter_27 : decode cX2_addCharacter 27 = .ok (.iload_n 1, 1) := by decide +kernel
theorem dX2_addCharacter_28 : decode cX2_addCharacter 28 = .ok (.castore, 1) := by decide +kernel
theorem dX2_addCharacter_29 : decode cX2_addCharacter 29 = .ok (.aload_n 0, 1) := by decide +kernel
theorem dX2_addCharacter_30 : decode cX2_addCharacter 30 = .ok (.dup, 1) := by decide +kernel
theorem dX2_addCharacter_31 : decode cX2_addCharacter 31 = .ok (.getfield 15, 3) := by decide +kernel
theorem dX2_addCharacter_34 : decode cX2_addCharacter 34 = .ok (.iconst 1, 1) := by decide +kernel
theorem dX2_addCharacter_35 : decode cX2_addCharacter 35 = .ok (.iadd, 1) := by decide +kernel
theorem dX2_addCharacter_36 : decode cX2_addCharacter 36 = .ok (.putfield 15, 3) := by decide +kernel
theorem dX2_addCharacter_39 : decode cX2_addCharacter 39 = .ok (.return_, 1) := by decide +kernel
theorem dX2_goToStart_0 : decode cX2_goToStart 0 = .ok (.aload_n 0, 1) := by decide +kernel
theorem dX2_goToStart_1 : decode cX2_goToStart 1 = .ok (.iconst 0, 1) := by decide +kernel
theorem dX2_goToStart_2 : decode cX2_goToStart 2 = .ok (.putfield 19, 3) := by decide +kernel
theorem dX2_goToStart_5 : decode cX2_goToStart 5 = .ok (.return_, 1) := by decide +kernel
theorem dX2_isComplete_0 : decode cX2_isComplete 0 = .ok (.aload_n 0, 1) := by decide +kernel
theorem dX2_isComplete_1 : decode cX2_isComplete 1 = .ok (.invokevirtual 22, 3) := by decide +kernel
theorem dX2_isComplete_4 : decode cX2_isComplete 4 = .ok (.ireturn, 1) := by decide +kernel
theorem dX2_indexOfError_0 : decode cX2_indexOfError 0 = .ok (.aload_n 0, 1) := by decide +kernel
theorem dX2_indexOfError_1 : decode cX2_indexOfError 1 = .ok (.invokevirtual 22, 3) := by decide +kernel
theorem dX2_indexOfError_4 : decode cX2_indexOfError 4 = .ok (.pop, 1) := by decide +kernel
theorem dX2_indexOfError_5 : decode cX2_indexOfError 5 = .ok (.aload_n 0, 1) := by decide +kernel
theorem dX2_indexOfError_6 : decode cX2_indexOfError 6 = .ok (.getfield 19, 3) := by decide +kernel
theorem dX2_indexOfError_9 : decode cX2_indexOfError 9 = .ok (.ireturn, 1) := by decide +kernel
theorem dX2_readsAll_0 : decode cX2_readsAll 0 = .ok (.aload_n 0, 1) := by decide +kernel
theorem dX2_readsAll_1 : decode cX2_readsAll 1 = .ok (.invokevirtual 26, 3) := by decide +kernel
theorem dX2_readsAll_4 : decode cX2_readsAll 4 = .ok (.iconst 0, 1) := by decide +kernel
theorem dX2_readsAll_5 : decode cX2_readsAll 5 = .ok (.istore_n 1, 1) := by decide +kernel
theorem dX2_readsAll_6 : decode cX2_readsAll 6 = .ok (.iload_n 1, 1) := by decide +kernel
theorem dX2_readsAll_7 : decode cX2_readsAll 7 = .ok (.bipush 60, 2) := by decide +kernel
theorem dX2_readsAll_9 : decode cX2_readsAll 9 = .ok (.if_icmp .ge 42, 3) := by decide +kernel
theorem dX2_readsAll_12 : decode cX2_readsAll 12 = .ok (.aload_n 0, 1) := by decide +kernel
theorem dX2_readsAll_13 : decode cX2_readsAll 13 = .ok (.invokevirtual 29, 3) := by decide +kernel
theorem dX2_readsAll_16 : decode cX2_readsAll 16 = .ok (.ifCond .ne 5, 3) := by decide +kernel
theorem dX2_readsAll_19 : decode cX2_readsAll 19 = .ok (.iconst 0, 1) := by decide +kernel
theorem dX2_readsAll_20 : decode cX2_readsAll 20 = .ok (.ireturn, 1) := by decide +kernel
theorem dX2_readsAll_21 : decode cX2_readsAll 21 = .ok (.aload_n 0, 1) := by decide +kernel
theorem dX2_readsAll_22 : decode cX2_readsAll 22 = .ok (.getfield 19, 3) := by decide +kernel
theorem dX2_readsAll_25 : decode cX2_readsAll 25 = .ok (.aload_n 0, 1) := by decide +kernel
theorem dX2_readsAll_26 : decode cX2_readsAll 26 = .ok (.getfield 15, 3) := by decide +kernel
theorem dX2_readsAll_29 : decode cX2_readsAll 29 = .ok (.if_icmp .ne 5, 3) := by decide +kernel
theorem dX2_readsAll_32 : decode cX2_readsAll 32 = .ok (.iconst 1, 1) := by decide +kernel
theorem dX2_readsAll_33 : decode cX2_readsAll 33 = .ok (.ireturn, 1) := by decide +kernel
theorem dX2_readsAll_34 : decode cX2_readsAll 34 = .ok (.aload_n 0, 1) := by decide +kernel
theorem dX2_readsAll_35 : decode cX2_readsAll 35 = .ok (.bipush 59, 2) := by decide +kernel
theorem dX2_readsAll_37 : decode cX2_readsAll 37 = .ok (.invokevirtual 32, 3) := by decide +kernel
theorem dX2_readsAll_40 : decode cX2_readsAll 40 = .ok (.ifCond .ne 5, 3) := by decide +kernel
theorem dX2_readsAll_43 : decode cX2_readsAll 43 = .ok (.iconst 0, 1) := by decide +kernel
theorem dX2_readsAll_44 : decode cX2_readsAll 44 = .ok (.ireturn, 1) := by decide +kernel
theorem dX2_readsAll_45 : decode cX2_readsAll 45 = .ok (.iinc 1 1, 3) := by decide +kernel
theorem dX2_readsAll_48 : decode cX2_readsAll 48 = .ok (.goto (-42), 3) := by decide +kernel
theorem dX2_readsAll_51 : decode cX2_readsAll 51 = .ok (.iconst 0, 1) := by decide +kernel
theorem dX2_readsAll_52 : decode cX2_readsAll 52 = .ok (.ireturn, 1) := by decide +kernel
theorem dX2_readNextOrder_0 : decode cX2_readNextOrder 0 = .ok (.aload_n 0, 1) := by decide +kernel
theorem dX2_readNextOrder_1 : decode cX2_readNextOrder 1 = .ok (.invokevirtual 29, 3) := by decide +kernel
theorem dX2_readNextOrder_4 : decode cX2_readNextOrder 4 = .ok (.istore_n 1, 1) := by decide +kernel
theorem dX2_readNextOrder_5 : decode cX2_readNextOrder 5 = .ok (.aload_n 0, 1) := by decide +kernel
theorem dX2_readNextOrder_6 : decode cX2_readNextOrder 6 = .ok (.bipush 59, 2) := by decide +kernel
theorem dX2_readNextOrder_8 : decode cX2_readNextOrder 8 = .ok (.invokevirtual 32, 3) := by decide +kernel
theorem dX2_readNextOrder_11 : decode cX2_readNextOrder 11 = .ok (.pop, 1) := by decide +kernel
theorem dX2_readNextOrder_12 : decode cX2_readNextOrder 12 = .ok (.iload_n 1, 1) := by decide +kernel
theorem dX2_readNextOrder_13 : decode cX2_readNextOrder 13 = .ok (.ireturn, 1) := by decide +kernel
theorem dX2_readsOrder_0 : decode cX2_readsOrder 0 = .ok (.aload_n 0, 1) := by decide +kernel
theorem dX2_readsOrder_1 : decode cX2_readsOrder 1 = .ok (.bipush 116, 2) := by decide +kernel
theorem dX2_readsOrder_3 : decode cX2_readsOrder 3 = .ok (.invokevirtual 32, 3) := by decide +kernel
theorem dX2_readsOrder_6 : decode cX2_readsOrder 6 = .ok (.ifCond .eq 49, 3) := by decide +kernel
theorem dX2_readsOrder_9 : decode cX2_readsOrder 9 = .ok (.aload_n 0, 1) := by decide +kernel
theorem dX2_readsOrder_10 : decode cX2_readsOrder 10 = .ok (.bipush 116, 2) := by decide +kernel
theorem dX2_readsOrder_12 : decode cX2_readsOrder 12 = .ok (.putfield 36, 3) := by decide +kernel
theorem dX2_readsOrder_15 : decode cX2_readsOrder 15 = .ok (.aload_n 0, 1) := by decide +kernel
theorem dX2_readsOrder_16 : decode cX2_readsOrder 16 = .ok (.invokevirtual 40, 3) := by decide +kernel
theorem dX2_readsOrder_19 : decode cX2_readsOrder 19 = .ok (.ifCond .eq 34, 3) := by decide +kernel
theorem dX2_readsOrder_22 : decode cX2_readsOrder 22 = .ok (.aload_n 0, 1) := by decide +kernel
theorem dX2_readsOrder_23 : decode cX2_readsOrder 23 = .ok (.bipush 44, 2) := by decide +kernel
theorem dX2_readsOrder_25 : decode cX2_readsOrder 25 = .ok (.invokevirtual 32, 3) := by decide +kernel
theorem dX2_readsOrder_28 : decode cX2_readsOrder 28 = .ok (.ifCond .eq 25, 3) := by decide +kernel
theorem dX2_readsOrder_31 : decode cX2_readsOrder 31 = .ok (.aload_n 0, 1) := by decide +kernel
theorem dX2_readsOrder_32 : decode cX2_readsOrder 32 = .ok (.bipush 49, 2) := by decide +kernel
theorem dX2_readsOrder_34 : decode cX2_readsOrder 34 = .ok (.bipush 57, 2) := by decide +kernel
theorem dX2_readsOrder_36 : decode cX2_readsOrder 36 = .ok (.invokevirtual 43, 3) := by decide +kernel
theorem dX2_readsOrder_39 : decode cX2_readsOrder 39 = .ok (.ifCond .eq 14, 3) := by decide +kernel
theorem dX2_readsOrder_42 : decode cX2_readsOrder 42 = .ok (.aload_n 0, 1) := by decide +kernel
theorem dX2_readsOrder_43 : decode cX2_readsOrder 43 = .ok (.invokevirtual 47, 3) := by decide +kernel
theorem dX2_readsOrder_46 : decode cX2_readsOrder 46 = .ok (.ifCond .eq 7, 3) := by decide +kernel
theorem dX2_readsOrder_49 : decode cX2_readsOrder 49 = .ok (.iconst 1, 1) := by decide +kernel
theorem dX2_readsOrder_50 : decode cX2_readsOrder 50 = .ok (.goto 4, 3) := by decide +kernel
theorem dX2_readsOrder_53 : decode cX2_readsOrder 53 = .ok (.iconst 0, 1) := by decide +kernel
theorem dX2_readsOrder_54 : decode cX2_readsOrder 54 = .ok (.ireturn, 1) := by decide +kernel
theorem dX2_readsOrder_55 : decode cX2_readsOrder 55 = .ok (.aload_n 0, 1) := by decide +kernel
theorem dX2_readsOrder_56 : decode cX2_readsOrder 56 = .ok (.bipush 104, 2) := by decide +kernel
theorem dX2_readsOrder_58 : decode cX2_readsOrder 58 = .ok (.invokevirtual 32, 3) := by decide +kernel
theorem dX2_readsOrder_61 : decode cX2_readsOrder 61 = .ok (.ifCond .eq 14, 3) := by decide +kernel
theorem dX2_readsOrder_64 : decode cX2_readsOrder 64 = .ok (.aload_n 0, 1) := by decide +kernel
theorem dX2_readsOrder_65 : decode cX2_readsOrder 65 = .ok (.bipush 104, 2) := by decide +kernel
theorem dX2_readsOrder_67 : decode cX2_readsOrder 67 = .ok (.putfield 36, 3) := by decide +kernel
theorem dX2_readsOrder_70 : decode cX2_readsOrder 70 = .ok (.aload_n 0, 1) := by decide +kernel
theorem dX2_readsOrder_71 : decode cX2_readsOrder 71 = .ok (.invokevirtual 50, 3) := by decide +kernel
theorem dX2_readsOrder_74 : decode cX2_readsOrder 74 = .ok (.ireturn, 1) := by decide +kernel
theorem dX2_readsOrder_75 : decode cX2_readsOrder 75 = .ok (.aload_n 0, 1) := by decide +kernel
theorem dX2_readsOrder_76 : decode cX2_readsOrder 76 = .ok (.bipush 112, 2) := by decide +kernel
theorem dX2_readsOrder_78 : decode cX2_readsOrder 78 = .ok (.invokevirtual 32, 3) := by decide +kernel
theorem dX2_readsOrder_81 : decode cX2_readsOrder 81 = .ok (.ifCond .eq 42, 3) := by decide +kernel
theorem dX2_readsOrder_84 : decode cX2_readsOrder 84 = .ok (.aload_n 0, 1) := by decide +kernel
theorem dX2_readsOrder_85 : decode cX2_readsOrder 85 = .ok (.bipush 112, 2) := by decide +kernel
theorem dX2_readsOrder_87 : decode cX2_readsOrder 87 = .ok (.putfield 36, 3) := by decide +kernel
theorem dX2_readsOrder_90 : decode cX2_readsOrder 90 = .ok (.aload_n 0, 1) := by decide +kernel
theorem dX2_readsOrder_91 : decode cX2_readsOrder 91 = .ok (.invokevirtual 40, 3) := by decide +kernel
theorem dX2_readsOrder_94 : decode cX2_readsOrder 94 = .ok (.ifCond .eq 27, 3) := by decide +kernel
theorem dX2_readsOrder_97 : decode cX2_readsOrder 97 = .ok (.aload_n 0, 1) := by decide +kernel
theorem dX2_readsOrder_98 : decode cX2_readsOrder 98 = .ok (.bipush 47, 2) := by decide +kernel
theorem dX2_readsOrder_100 : decode cX2_readsOrder 100 = .ok (.invokevirtual 32, 3) := by decide +kernel
theorem dX2_readsOrder_103 : decode cX2_readsOrder 103 = .ok (.ifCond .eq 18, 3) := by decide +kernel
theorem dX2_readsOrder_106 : decode cX2_readsOrder 106 = .ok (.aload_n 0, 1) := by decide +kernel
theorem dX2_readsOrder_107 : decode cX2_readsOrder 107 = .ok (.bipush 49, 2) := by decide +kernel
theorem dX2_readsOrder_109 : decode cX2_readsOrder 109 = .ok (.bipush 54, 2) := by decide +kernel
theorem dX2_readsOrder_111 : decode cX2_readsOrder 111 = .ok (.invokevirtual 43, 3) := by decide +kernel
theorem dX2_readsOrder_114 : decode cX2_readsOrder 114 = .ok (.ifCond .eq 7, 3) := by decide +kernel
theorem dX2_readsOrder_117 : decode cX2_readsOrder 117 = .ok (.iconst 1, 1) := by decide +kernel
theorem dX2_readsOrder_118 : decode cX2_readsOrder 118 = .ok (.goto 4, 3) := by decide +kernel
theorem dX2_readsOrder_121 : decode cX2_readsOrder 121 = .ok (.iconst 0, 1) := by decide +kernel
theorem dX2_readsOrder_122 : decode cX2_readsOrder 122 = .ok (.ireturn, 1) := by decide +kernel
theorem dX2_readsOrder_123 : decode cX2_readsOrder 123 = .ok (.aload_n 0, 1) := by decide +kernel
theorem dX2_readsOrder_124 : decode cX2_readsOrder 124 = .ok (.bipush 99, 2) := by decide +kernel
theorem dX2_readsOrder_126 : decode cX2_readsOrder 126 = .ok (.putfield 36, 3) := by decide +kernel
theorem dX2_readsOrder_129 : decode cX2_readsOrder 129 = .ok (.aload_n 0, 1) := by decide +kernel
theorem dX2_readsOrder_130 : decode cX2_readsOrder 130 = .ok (.bipush 99, 2) := by decide +kernel
theorem dX2_readsOrder_132 : decode cX2_readsOrder 132 = .ok (.invokevirtual 32, 3) := by decide +kernel
theorem dX2_readsOrder_135 : decode cX2_readsOrder 135 = .ok (.ifCond .eq 18, 3) := by decide +kernel
theorem dX2_readsOrder_138 : decode cX2_readsOrder 138 = .ok (.aload_n 0, 1) := by decide +kernel
theorem dX2_readsOrder_139 : decode cX2_readsOrder 139 = .ok (.bipush 48, 2) := by decide +kernel
theorem dX2_readsOrder_141 : decode cX2_readsOrder 141 = .ok (.bipush 57, 2) := by decide +kernel
theorem dX2_readsOrder_143 : decode cX2_readsOrder 143 = .ok (.invokevirtual 43, 3) := by decide +kernel
theorem dX2_readsOrder_146 : decode cX2_readsOrder 146 = .ok (.ifCond .eq 7, 3) := by decide +kernel
theorem dX2_readsOrder_149 : decode cX2_readsOrder 149 = .ok (.iconst 1, 1) := by decide +kernel
theorem dX2_readsOrder_150 : decode cX2_readsOrder 150 = .ok (.goto 4, 3) := by decide +kernel
theorem dX2_readsOrder_153 : decode cX2_readsOrder 153 = .ok (.iconst 0, 1) := by decide +kernel
theorem dX2_readsOrder_154 : decode cX2_readsOrder 154 = .ok (.ireturn, 1) := by decide +kernel
theorem dX2_readsRow_0 : decode cX2_readsRow 0 = .ok (.aload_n 0, 1) := by decide +kernel
theorem dX2_readsRow_1 : decode cX2_readsRow 1 = .ok (.bipush 48, 2) := by decide +kernel
theorem dX2_readsRow_3 : decode cX2_readsRow 3 = .ok (.bipush 51, 2) := by decide +kernel
theorem dX2_readsRow_5 : decode cX2_readsRow 5 = .ok (.invokevirtual 53, 3) := by decide +kernel
theorem dX2_readsRow_8 : decode cX2_readsRow 8 = .ok (.istore_n 1, 1) := by decide +kernel
theorem dX2_readsRow_9 : decode cX2_readsRow 9 = .ok (.aload_n 0, 1) := by decide +kernel
theorem dX2_readsRow_10 : decode cX2_readsRow 10 = .ok (.aload_n 0, 1) := by decide +kernel
theorem dX2_readsRow_11 : decode cX2_readsRow 11 = .ok (.getfield 56, 3) := by decide +kernel
theorem dX2_readsRow_14 : decode cX2_readsRow 14 = .ok (.putfield 59, 3) := by decide +kernel
theorem dX2_readsRow_17 : decode cX2_readsRow 17 = .ok (.iload_n 1, 1) := by decide +kernel
theorem dX2_readsRow_18 : decode cX2_readsRow 18 = .ok (.ireturn, 1) := by decide +kernel
theorem dX2_readsNumber_0 : decode cX2_readsNumber 0 = .ok (.aload_n 0, 1) := by decide +kernel
theorem dX2_readsNumber_1 : decode cX2_readsNumber 1 = .ok (.iload_n 1, 1) := by decide +kernel
theorem dX2_readsNumber_2 : decode cX2_readsNumber 2 = .ok (.iload_n 2, 1) := by decide +kernel
theorem dX2_readsNumber_3 : decode cX2_readsNumber 3 = .ok (.invokevirtual 53, 3) := by decide +kernel
theorem dX2_readsNumber_6 : decode cX2_readsNumber 6 = .ok (.istore_n 3, 1) := by decide +kernel
theorem dX2_readsNumber_7 : decode cX2_readsNumber 7 = .ok (.aload_n 0, 1) := by decide +kernel
theorem dX2_readsNumber_8 : decode cX2_readsNumber 8 = .ok (.aload_n 0, 1) := by decide +kernel
theorem dX2_readsNumber_9 : decode cX2_readsNumber 9 = .ok (.getfield 56, 3) := by decide +kernel
theorem dX2_readsNumber_12 : decode cX2_readsNumber 12 = .ok (.putfield 62, 3) := by decide +kernel
theorem dX2_readsNumber_15 : decode cX2_readsNumber 15 = .ok (.iload_n 3, 1) := by decide +kernel
theorem dX2_readsNumber_16 : decode cX2_readsNumber 16 = .ok (.ireturn, 1) := by decide +kernel
theorem dX2_readsWeight_0 : decode cX2_readsWeight 0 = .ok (.aload_n 0, 1) := by decide +kernel
theorem dX2_readsWeight_1 : decode cX2_readsWeight 1 = .ok (.iconst 1, 1) := by decide +kernel
theorem dX2_readsWeight_2 : decode cX2_readsWeight 2 = .ok (.putfield 65, 3) := by decide +kernel
theorem dX2_readsWeight_5 : decode cX2_readsWeight 5 = .ok (.aload_n 0, 1) := by decide +kernel
theorem dX2_readsWeight_6 : decode cX2_readsWeight 6 = .ok (.bipush 42, 2) := by decide +kernel
theorem dX2_readsWeight_8 : decode cX2_readsWeight 8 = .ok (.invokevirtual 32, 3) := by decide +kernel
theorem dX2_readsWeight_11 : decode cX2_readsWeight 11 = .ok (.ifCond .ne 5, 3) := by decide +kernel
theorem dX2_readsWeight_14 : decode cX2_readsWeight 14 = .ok (.iconst 1, 1) := by decide +kernel
theorem dX2_readsWeight_15 : decode cX2_readsWeight 15 = .ok (.ireturn, 1) := by decide +kernel
theorem dX2_readsWeight_16 : decode cX2_readsWeight 16 = .ok (.aload_n 0, 1) := by decide +kernel
theorem dX2_readsWeight_17 : decode cX2_readsWeight 17 = .ok (.bipush 49, 2) := by decide +kernel
theorem dX2_readsWeight_19 : decode cX2_readsWeight 19 = .ok (.bipush 53, 2) := by decide +kernel
theorem dX2_readsWeight_21 : decode cX2_readsWeight 21 = .ok (.invokevirtual 53, 3) := by decide +kernel
theorem dX2_readsWeight_24 : decode cX2_readsWeight 24 = .ok (.istore_n 1, 1) := by decide +kernel
theorem dX2_readsWeight_25 : decode cX2_readsWeight 25 = .ok (.aload_n 0, 1) := by decide +kernel
theorem dX2_readsWeight_26 : decode cX2_readsWeight 26 = .ok (.aload_n 0, 1) := by decide +kernel
theorem dX2_readsWeight_27 : decode cX2_readsWeight 27 = .ok (.getfield 56, 3) := by decide +kernel
theorem dX2_readsWeight_30 : decode cX2_readsWeight 30 = .ok (.putfield 65, 3) := by decide +kernel
theorem dX2_readsWeight_33 : decode cX2_readsWeight 33 = .ok (.iload_n 1, 1) := by decide +kernel
theorem dX2_readsWeight_34 : decode cX2_readsWeight 34 = .ok (.ireturn, 1) := by decide +kernel
theorem dX2_readsDegrees_0 : decode cX2_readsDegrees 0 = .ok (.aload_n 0, 1) := by decide +kernel
theorem dX2_readsDegrees_1 : decode cX2_readsDegrees 1 = .ok (.bipush 45, 2) := by decide +kernel
theorem dX2_readsDegrees_3 : decode cX2_readsDegrees 3 = .ok (.invokevirtual 32, 3) := by decide +kernel
theorem dX2_readsDegrees_6 : decode cX2_readsDegrees 6 = .ok (.ifCond .eq 7, 3) := by decide +kernel
theorem dX2_readsDegrees_9 : decode cX2_readsDegrees 9 = .ok (.iconst (-1), 1) := by decide +kernel
theorem dX2_readsDegrees_10 : decode cX2_readsDegrees 10 = .ok (.goto 4, 3) := by decide +kernel
theorem dX2_readsDegrees_13 : decode cX2_readsDegrees 13 = .ok (.iconst 1, 1) := by decide +kernel
theorem dX2_readsDegrees_14 : decode cX2_readsDegrees 14 = .ok (.istore_n 1, 1) := by decide +kernel
theorem dX2_readsDegrees_15 : decode cX2_readsDegrees 15 = .ok (.aload_n 0, 1) := by decide +kernel
theorem dX2_readsDegrees_16 : decode cX2_readsDegrees 16 = .ok (.bipush 48, 2) := by decide +kernel
theorem dX2_readsDegrees_18 : decode cX2_readsDegrees 18 = .ok (.bipush 57, 2) := by decide +kernel
theorem dX2_readsDegrees_20 : decode cX2_readsDegrees 20 = .ok (.invokevirtual 53, 3) := by decide +kernel
theorem dX2_readsDegrees_23 : decode cX2_readsDegrees 23 = .ok (.ifCond .ne 5, 3) := by decide +kernel
theorem dX2_readsDegrees_26 : decode cX2_readsDegrees 26 = .ok (.iconst 0, 1) := by decide +kernel
theorem dX2_readsDegrees_27 : decode cX2_readsDegrees 27 = .ok (.ireturn, 1) := by decide +kernel
theorem dX2_readsDegrees_28 : decode cX2_readsDegrees 28 = .ok (.aload_n 0, 1) := by decide +kernel
theorem dX2_readsDegrees_29 : decode cX2_readsDegrees 29 = .ok (.getfield 56, 3) := by decide +kernel
theorem dX2_readsDegrees_32 : decode cX2_readsDegrees 32 = .ok (.istore_n 2, 1) := by decide +kernel
theorem dX2_readsDegrees_33 : decode cX2_readsDegrees 33 = .ok (.iload_n 2, 1) := by decide +kernel
theorem dX2_readsDegrees_34 : decode cX2_readsDegrees 34 = .ok (.iconst 1, 1) := by decide +kernel
theorem dX2_readsDegrees_35 : decode cX2_readsDegrees 35 = .ok (.if_icmp .lt 12, 3) := by decide +kernel
theorem dX2_readsDegrees_38 : decode cX2_readsDegrees 38 = .ok (.iload_n 2, 1) := by decide +kernel
theorem dX2_readsDegrees_39 : decode cX2_readsDegrees 39 = .ok (.iconst 5, 1) := by decide +kernel
theorem dX2_readsDegrees_40 : decode cX2_readsDegrees 40 = .ok (.if_icmp .gt 7, 3) := by decide +kernel
theorem dX2_readsDegrees_43 : decode cX2_readsDegrees 43 = .ok (.iconst 1, 1) := by decide +kernel
theorem dX2_readsDegrees_44 : decode cX2_readsDegrees 44 = .ok (.goto 4, 3) := by decide +kernel
theorem dX2_readsDegrees_47 : decode cX2_readsDegrees 47 = .ok (.iconst 0, 1) := by decide +kernel
theorem dX2_readsDegrees_48 : decode cX2_readsDegrees 48 = .ok (.istore_n 3, 1) := by decide +kernel
theorem dX2_readsDegrees_49 : decode cX2_readsDegrees 49 = .ok (.iload_n 3, 1) := by decide +kernel
theorem dX2_readsDegrees_50 : decode cX2_readsDegrees 50 = .ok (.ifCond .eq 34, 3) := by decide +kernel
theorem dX2_readsDegrees_53 : decode cX2_readsDegrees 53 = .ok (.aload_n 0, 1) := by decide +kernel
theorem dX2_readsDegrees_54 : decode cX2_readsDegrees 54 = .ok (.bipush 48, 2) := by decide +kernel
theorem dX2_readsDegrees_56 : decode cX2_readsDegrees 56 = .ok (.iload_n 2, 1) := by decide +kernel
theorem dX2_readsDegrees_57 : decode cX2_readsDegrees 57 = .ok (.iconst 5, 1) := by decide +kernel
theorem dX2_readsDegrees_58 : decode cX2_readsDegrees 58 = .ok (.if_icmp .ne 8, 3) := by decide +kernel
theorem dX2_readsDegrees_61 : decode cX2_readsDegrees 61 = .ok (.bipush 48, 2) := by decide +kernel
theorem dX2_readsDegrees_63 : decode cX2_readsDegrees 63 = .ok (.goto 5, 3) := by decide +kernel
theorem dX2_readsDegrees_66 : decode cX2_readsDegrees 66 = .ok (.bipush 57, 2) := by decide +kernel
theorem dX2_readsDegrees_68 : decode cX2_readsDegrees 68 = .ok (.invokevirtual 53, 3) := by decide +kernel
theorem dX2_readsDegrees_71 : decode cX2_readsDegrees 71 = .ok (.ifCond .eq 13, 3) := by decide +kernel
theorem dX2_readsDegrees_74 : decode cX2_readsDegrees 74 = .ok (.iload_n 2, 1) := by decide +kernel
theorem dX2_readsDegrees_75 : decode cX2_readsDegrees 75 = .ok (.bipush 10, 2) := by decide +kernel
theorem dX2_readsDegrees_77 : decode cX2_readsDegrees 77 = .ok (.imul, 1) := by decide +kernel
theorem dX2_readsDegrees_78 : decode cX2_readsDegrees 78 = .ok (.aload_n 0, 1) := by decide +kernel
theorem dX2_readsDegrees_79 : decode cX2_readsDegrees 79 = .ok (.getfield 56, 3) := by decide +kernel
theorem dX2_readsDegrees_82 : decode cX2_readsDegrees 82 = .ok (.iadd, 1) := by decide +kernel
theorem dX2_readsDegrees_83 : decode cX2_readsDegrees 83 = .ok (.istore_n 2, 1) := by decide +kernel
theorem dX2_readsDegrees_84 : decode cX2_readsDegrees 84 = .ok (.aload_n 0, 1) := by decide +kernel
theorem dX2_readsDegrees_85 : decode cX2_readsDegrees 85 = .ok (.iload_n 1, 1) := by decide +kernel
theorem dX2_readsDegrees_86 : decode cX2_readsDegrees 86 = .ok (.iload_n 2, 1) := by decide +kernel
theorem dX2_readsDegrees_87 : decode cX2_readsDegrees 87 = .ok (.imul, 1) := by decide +kernel
theorem dX2_readsDegrees_88 : decode cX2_readsDegrees 88 = .ok (.putfield 62, 3) := by decide +kernel
theorem dX2_readsDegrees_91 : decode cX2_readsDegrees 91 = .ok (.iconst 1, 1) := by decide +kernel
theorem dX2_readsDegrees_92 : decode cX2_readsDegrees 92 = .ok (.ireturn, 1) := by decide +kernel
theorem dX2_takesSign_0 : decode cX2_takesSign 0 = .ok (.aload_n 0, 1) := by decide +kernel
theorem dX2_takesSign_1 : decode cX2_takesSign 1 = .ok (.iload_n 1, 1) := by decide +kernel
theorem dX2_takesSign_2 : decode cX2_takesSign 2 = .ok (.iload_n 1, 1) := by decide +kernel
theorem dX2_takesSign_3 : decode cX2_takesSign 3 = .ok (.invokevirtual 53, 3) := by decide +kernel
theorem dX2_takesSign_6 : decode cX2_takesSign 6 = .ok (.ireturn, 1) := by decide +kernel
theorem dX2_takes_0 : decode cX2_takes 0 = .ok (.aload_n 0, 1) := by decide +kernel
theorem dX2_takes_1 : decode cX2_takes 1 = .ok (.getfield 19, 3) := by decide +kernel
theorem dX2_takes_4 : decode cX2_takes 4 = .ok (.ifCond .lt 26, 3) := by decide +kernel
theorem dX2_takes_7 : decode cX2_takes 7 = .ok (.aload_n 0, 1) := by decide +kernel
theorem dX2_takes_8 : decode cX2_takes 8 = .ok (.getfield 19, 3) := by decide +kernel
theorem dX2_takes_11 : decode cX2_takes 11 = .ok (.aload_n 0, 1) := by decide +kernel
theorem dX2_takes_12 : decode cX2_takes 12 = .ok (.getfield 15, 3) := by decide +kernel
theorem dX2_takes_15 : decode cX2_takes 15 = .ok (.if_icmp .ge 15, 3) := by decide +kernel
theorem dX2_takes_18 : decode cX2_takes 18 = .ok (.aload_n 0, 1) := by decide +kernel
theorem dX2_takes_19 : decode cX2_takes 19 = .ok (.getfield 19, 3) := by decide +kernel
theorem dX2_takes_22 : decode cX2_takes 22 = .ok (.aload_n 0, 1) := by decide +kernel
theorem dX2_takes_23 : decode cX2_takes 23 = .ok (.getfield 9, 3) := by decide +kernel
theorem dX2_takes_26 : decode cX2_takes 26 = .ok (.arraylength, 1) := by decide +kernel
theorem dX2_takes_27 : decode cX2_takes 27 = .ok (.if_icmp .lt 5, 3) := by decide +kernel
theorem dX2_takes_30 : decode cX2_takes 30 = .ok (.iconst 0, 1) := by decide +kernel
theorem dX2_takes_31 : decode cX2_takes 31 = .ok (.ireturn, 1) := by decide +kernel
theorem dX2_takes_32 : decode cX2_takes 32 = .ok (.aload_n 0, 1) := by decide +kernel
theorem dX2_takes_33 : decode cX2_takes 33 = .ok (.getfield 9, 3) := by decide +kernel
theorem dX2_takes_36 : decode cX2_takes 36 = .ok (.aload_n 0, 1) := by decide +kernel
theorem dX2_takes_37 : decode cX2_takes 37 = .ok (.getfield 19, 3) := by decide +kernel
theorem dX2_takes_40 : decode cX2_takes 40 = .ok (.caload, 1) := by decide +kernel
theorem dX2_takes_41 : decode cX2_takes 41 = .ok (.istore_n 3, 1) := by decide +kernel
theorem dX2_takes_42 : decode cX2_takes 42 = .ok (.iload_n 3, 1) := by decide +kernel
theorem dX2_takes_43 : decode cX2_takes 43 = .ok (.iload_n 1, 1) := by decide +kernel
theorem dX2_takes_44 : decode cX2_takes 44 = .ok (.if_icmp .lt 8, 3) := by decide +kernel
theorem dX2_takes_47 : decode cX2_takes 47 = .ok (.iload_n 3, 1) := by decide +kernel
theorem dX2_takes_48 : decode cX2_takes 48 = .ok (.iload_n 2, 1) := by decide +kernel
theorem dX2_takes_49 : decode cX2_takes 49 = .ok (.if_icmp .le 5, 3) := by decide +kernel
theorem dX2_takes_52 : decode cX2_takes 52 = .ok (.iconst 0, 1) := by decide +kernel
theorem dX2_takes_53 : decode cX2_takes 53 = .ok (.ireturn, 1) := by decide +kernel
theorem dX2_takes_54 : decode cX2_takes 54 = .ok (.aload_n 0, 1) := by decide +kernel
theorem dX2_takes_55 : decode cX2_takes 55 = .ok (.iload_n 3, 1) := by decide +kernel
theorem dX2_takes_56 : decode cX2_takes 56 = .ok (.bipush 48, 2) := by decide +kernel
theorem dX2_takes_58 : decode cX2_takes 58 = .ok (.isub, 1) := by decide +kernel
theorem dX2_takes_59 : decode cX2_takes 59 = .ok (.putfield 56, 3) := by decide +kernel
theorem dX2_takes_62 : decode cX2_takes 62 = .ok (.aload_n 0, 1) := by decide +kernel
theorem dX2_takes_63 : decode cX2_takes 63 = .ok (.dup, 1) := by decide +kernel
theorem dX2_takes_64 : decode cX2_takes 64 = .ok (.getfield 19, 3) := by decide +kernel
theorem dX2_takes_67 : decode cX2_takes 67 = .ok (.iconst 1, 1) := by decide +kernel
theorem dX2_takes_68 : decode cX2_takes 68 = .ok (.iadd, 1) := by decide +kernel
theorem dX2_takes_69 : decode cX2_takes 69 = .ok (.putfield 19, 3) := by decide +kernel
theorem dX2_takes_72 : decode cX2_takes 72 = .ok (.iconst 1, 1) := by decide +kernel
theorem dX2_takes_73 : decode cX2_takes 73 = .ok (.ireturn, 1) := by decide +kernel
theorem dX3_init_0 : decode cX3_init 0 = .ok (.aload_n 0, 1) := by decide +kernel
theorem dX3_init_1 : decode cX3_init 1 = .ok (.invokespecial 3, 3) := by decide +kernel
theorem dX3_init_4 : decode cX3_init 4 = .ok (.aload_n 0, 1) := by decide +kernel
theorem dX3_init_5 : decode cX3_init 5 = .ok (.bipush 10, 2) := by decide +kernel
theorem dX3_init_7 : decode cX3_init 7 = .ok (.anewarray 9, 3) := by decide +kernel
theorem dX3_init_10 : decode cX3_init 10 = .ok (.putfield 11, 3) := by decide +kernel
theorem dX3_init_13 : decode cX3_init 13 = .ok (.aload_n 0, 1) := by decide +kernel
theorem dX3_init_14 : decode cX3_init 14 = .ok (.new 9, 3) := by decide +kernel
theorem dX3_init_17 : decode cX3_init 17 = .ok (.dup, 1) := by decide +kernel
theorem dX3_init_18 : decode cX3_init 18 = .ok (.invokespecial 17, 3) := by decide +kernel
theorem dX3_init_21 : decode cX3_init 21 = .ok (.putfield 18, 3) := by decide +kernel
theorem dX3_init_24 : decode cX3_init 24 = .ok (.aload_n 0, 1) := by decide +kernel
theorem dX3_init_25 : decode cX3_init 25 = .ok (.iconst 4, 1) := by decide +kernel
theorem dX3_init_26 : decode cX3_init 26 = .ok (.newarray .int, 2) := by decide +kernel
theorem dX3_init_28 : decode cX3_init 28 = .ok (.putfield 22, 3) := by decide +kernel
theorem dX3_init_31 : decode cX3_init 31 = .ok (.aload_n 0, 1) := by decide +kernel
theorem dX3_init_32 : decode cX3_init 32 = .ok (.iconst 4, 1) := by decide +kernel
theorem dX3_init_33 : decode cX3_init 33 = .ok (.newarray .int, 2) := by decide +kernel
theorem dX3_init_35 : decode cX3_init 35 = .ok (.putfield 26, 3) := by decide +kernel
theorem dX3_init_38 : decode cX3_init 38 = .ok (.aload_n 0, 1) := by decide +kernel
theorem dX3_init_39 : decode cX3_init 39 = .ok (.new 29, 3) := by decide +kernel
theorem dX3_init_42 : decode cX3_init 42 = .ok (.dup, 1) := by decide +kernel
theorem dX3_init_43 : decode cX3_init 43 = .ok (.invokespecial 31, 3) := by decide +kernel
theorem dX3_init_46 : decode cX3_init 46 = .ok (.putfield 32, 3) := by decide +kernel
theorem dX3_init_49 : decode cX3_init 49 = .ok (.aload_n 0, 1) := by decide +kernel
theorem dX3_init_50 : decode cX3_init 50 = .ok (.ldc 36, 2) := by decide +kernel
theorem dX3_init_52 : decode cX3_init 52 = .ok (.putfield 37, 3) := by decide +kernel
theorem dX3_init_55 : decode cX3_init 55 = .ok (.aload_n 0, 1) := by decide +kernel
theorem dX3_init_56 : decode cX3_init 56 = .ok (.sipush 1000, 3) := by decide +kernel
theorem dX3_init_59 : decode cX3_init 59 = .ok (.putfield 41, 3) := by decide +kernel
theorem dX3_init_62 : decode cX3_init 62 = .ok (.aload_n 0, 1) := by decide +kernel
theorem dX3_init_63 : decode cX3_init 63 = .ok (.sipush 300, 3) := by decide +kernel
theorem dX3_init_66 : decode cX3_init 66 = .ok (.putfield 44, 3) := by decide +kernel
theorem dX3_init_69 : decode cX3_init 69 = .ok (.aload_n 0, 1) := by decide +kernel
theorem dX3_init_70 : decode cX3_init 70 = .ok (.iconst 2, 1) := by decide +kernel
theorem dX3_init_71 : decode cX3_init 71 = .ok (.putfield 47, 3) := by decide +kernel
theorem dX3_init_74 : decode cX3_init 74 = .ok (.iconst 0, 1) := by decide +kernel
theorem dX3_init_75 : decode cX3_init 75 = .ok (.istore_n 1, 1) := by decide +kernel
theorem dX3_init_76 : decode cX3_init 76 = .ok (.iload_n 1, 1) := by decide +kernel
theorem dX3_init_77 : decode cX3_init 77 = .ok (.aload_n 0, 1) := by decide +kernel
theorem dX3_init_78 : decode cX3_init 78 = .ok (.getfield 11, 3) := by decide +kernel
theorem dX3_init_81 : decode cX3_init 81 = .ok (.arraylength, 1) := by decide +kernel
theorem dX3_init_82 : decode cX3_init 82 = .ok (.if_icmp .ge 22, 3) := by decide +kernel
theorem dX3_init_85 : decode cX3_init 85 = .ok (.aload_n 0, 1) := by decide +kernel
theorem dX3_init_86 : decode cX3_init 86 = .ok (.getfield 11, 3) := by decide +kernel
theorem dX3_init_89 : decode cX3_init 89 = .ok (.iload_n 1, 1) := by decide +kernel
theorem dX3_init_90 : decode cX3_init 90 = .ok (.new 9, 3) := by decide +kernel
theorem dX3_init_93 : decode cX3_init 93 = .ok (.dup, 1) := by decide +kernel
theorem dX3_init_94 : decode cX3_init 94 = .ok (.invokespecial 17, 3) := by decide +kernel
theorem dX3_init_97 : decode cX3_init 97 = .ok (.aastore, 1) := by decide +kernel
theorem dX3_init_98 : decode cX3_init 98 = .ok (.iinc 1 1, 3) := by decide +kernel
theorem dX3_init_101 : decode cX3_init 101 = .ok (.goto (-25), 3) := by decide +kernel
theorem dX3_init_104 : decode cX3_init 104 = .ok (.iconst 0, 1) := by decide +kernel
theorem dX3_init_105 : decode cX3_init 105 = .ok (.istore_n 1, 1) := by decide +kernel
theorem dX3_init_106 : decode cX3_init 106 = .ok (.iload_n 1, 1) := by decide +kernel
theorem dX3_init_107 : decode cX3_init 107 = .ok (.aload_n 0, 1) := by decide +kernel
theorem dX3_init_108 : decode cX3_init 108 = .ok (.getfield 22, 3) := by decide +kernel
theorem dX3_init_111 : decode cX3_init 111 = .ok (.arraylength, 1) := by decide +kernel
theorem dX3_init_112 : decode cX3_init 112 = .ok (.if_icmp .ge 16, 3) := by decide +kernel
theorem dX3_init_115 : decode cX3_init 115 = .ok (.aload_n 0, 1) := by decide +kernel
theorem dX3_init_116 : decode cX3_init 116 = .ok (.getfield 22, 3) := by decide +kernel
theorem dX3_init_119 : decode cX3_init 119 = .ok (.iload_n 1, 1) := by decide +kernel
theorem dX3_init_120 : decode cX3_init 120 = .ok (.iconst 1, 1) := by decide +kernel
theorem dX3_init_121 : decode cX3_init 121 = .ok (.iastore, 1) := by decide +kernel
theorem dX3_init_122 : decode cX3_init 122 = .ok (.iinc 1 1, 3) := by decide +kernel
theorem dX3_init_125 : decode cX3_init 125 = .ok (.goto (-19), 3) := by decide +kernel
theorem dX3_init_128 : decode cX3_init 128 = .ok (.return_, 1) := by decide +kernel
theorem dX3_copyFrom_0 : decode cX3_copyFrom 0 = .ok (.iconst 0, 1) := by decide +kernel
theorem dX3_copyFrom_1 : decode cX3_copyFrom 1 = .ok (.istore_n 2, 1) := by decide +kernel
theorem dX3_copyFrom_2 : decode cX3_copyFrom 2 = .ok (.iload_n 2, 1) := by decide +kernel
theorem dX3_copyFrom_3 : decode cX3_copyFrom 3 = .ok (.aload_n 1, 1) := by decide +kernel
theorem dX3_copyFrom_4 : decode cX3_copyFrom 4 = .ok (.getfield 50, 3) := by decide +kernel
theorem dX3_copyFrom_7 : decode cX3_copyFrom 7 = .ok (.if_icmp .ge 22, 3) := by decide +kernel
theorem dX3_copyFrom_10 : decode cX3_copyFrom 10 = .ok (.aload_n 0, 1) := by decide +kernel
theorem dX3_copyFrom_11 : decode cX3_copyFrom 11 = .ok (.iload_n 2, 1) := by decide +kernel
theorem dX3_copyFrom_12 : decode cX3_copyFrom 12 = .ok (.invokevirtual 53, 3) := by decide +kernel
theorem dX3_copyFrom_15 : decode cX3_copyFrom 15 = .ok (.aload_n 1, 1) := by decide +kernel
theorem dX3_copyFrom_16 : decode cX3_copyFrom 16 = .ok (.iload_n 2, 1) := by decide +kernel
theorem dX3_copyFrom_17 : decode cX3_copyFrom 17 = .ok (.invokevirtual 53, 3) := by decide +kernel
theorem dX3_copyFrom_20 : decode cX3_copyFrom 20 = .ok (.invokevirtual 57, 3) := by decide +kernel
theorem dX3_copyFrom_23 : decode cX3_copyFrom 23 = .ok (.iinc 2 1, 3) := by decide +kernel
theorem dX3_copyFrom_26 : decode cX3_copyFrom 26 = .ok (.goto (-24), 3) := by decide +kernel
theorem dX3_copyFrom_29 : decode cX3_copyFrom 29 = .ok (.aload_n 0, 1) := by decide +kernel
theorem dX3_copyFrom_30 : decode cX3_copyFrom 30 = .ok (.getfield 22, 3) := by decide +kernel
theorem dX3_copyFrom_33 : decode cX3_copyFrom 33 = .ok (.aload_n 1, 1) := by decide +kernel
theorem dX3_copyFrom_34 : decode cX3_copyFrom 34 = .ok (.getfield 22, 3) := by decide +kernel
theorem dX3_copyFrom_37 : decode cX3_copyFrom 37 = .ok (.invokestatic 61, 3) := by decide +kernel
theorem dX3_copyFrom_40 : decode cX3_copyFrom 40 = .ok (.aload_n 0, 1) := by decide +kernel
theorem dX3_copyFrom_41 : decode cX3_copyFrom 41 = .ok (.getfield 26, 3) := by decide +kernel
theorem dX3_copyFrom_44 : decode cX3_copyFrom 44 = .ok (.aload_n 1, 1) := by decide +kernel
theorem dX3_copyFrom_45 : decode cX3_copyFrom 45 = .ok (.getfield 26, 3) := by decide +kernel
theorem dX3_copyFrom_48 : decode cX3_copyFrom 48 = .ok (.invokestatic 61, 3) := by decide +kernel
theorem dX3_copyFrom_51 : decode cX3_copyFrom 51 = .ok (.aload_n 0, 1) := by decide +kernel
theorem dX3_copyFrom_52 : decode cX3_copyFrom 52 = .ok (.aload_n 1, 1) := by decide +kernel
theorem dX3_copyFrom_53 : decode cX3_copyFrom 53 = .ok (.getfield 37, 3) := by decide +kernel
theorem dX3_copyFrom_56 : decode cX3_copyFrom 56 = .ok (.putfield 37, 3) := by decide +kernel
theorem dX3_copyFrom_59 : decode cX3_copyFrom 59 = .ok (.aload_n 0, 1) := by decide +kernel
theorem dX3_copyFrom_60 : decode cX3_copyFrom 60 = .ok (.aload_n 1, 1) := by decide +kernel
theorem dX3_copyFrom_61 : decode cX3_copyFrom 61 = .ok (.getfield 50, 3) := by decide +kernel
theorem dX3_copyFrom_64 : decode cX3_copyFrom 64 = .ok (.putfield 50, 3) := by decide +kernel
theorem dX3_copyFrom_67 : decode cX3_copyFrom 67 = .ok (.aload_n 0, 1) := by decide +kernel
theorem dX3_copyFrom_68 : decode cX3_copyFrom 68 = .ok (.aload_n 1, 1) := by decide +kernel
theorem dX3_copyFrom_69 : decode cX3_copyFrom 69 = .ok (.getfield 65, 3) := by decide +kernel
theorem dX3_copyFrom_72 : decode cX3_copyFrom 72 = .ok (.putfield 65, 3) := by decide +kernel
theorem dX3_copyFrom_75 : decode cX3_copyFrom 75 = .ok (.aload_n 0, 1) := by decide +kernel
theorem dX3_copyFrom_76 : decode cX3_copyFrom 76 = .ok (.aload_n 1, 1) := by decide +kernel
theorem dX3_copyFrom_77 : decode cX3_copyFrom 77 = .ok (.getfield 41, 3) := by decide +kernel
theorem dX3_copyFrom_80 : decode cX3_copyFrom 80 = .ok (.putfield 41, 3) := by decide +kernel
theorem dX3_copyFrom_83 : decode cX3_copyFrom 83 = .ok (.aload_n 0, 1) := by decide +kernel
theorem dX3_copyFrom_84 : decode cX3_copyFrom 84 = .ok (.aload_n 1, 1) := by decide +kernel
theorem dX3_copyFrom_85 : decode cX3_copyFrom 85 = .ok (.getfield 68, 3) := by decide +kernel
theorem dX3_copyFrom_88 : decode cX3_copyFrom 88 = .ok (.putfield 68, 3) := by decide +kernel
theorem dX3_copyFrom_91 : decode cX3_copyFrom 91 = .ok (.aload_n 0, 1) := by decide +kernel
theorem dX3_copyFrom_92 : decode cX3_copyFrom 92 = .ok (.aload_n 1, 1) := by decide +kernel
theorem dX3_copyFrom_93 : decode cX3_copyFrom 93 = .ok (.getfield 71, 3) := by decide +kernel
theorem dX3_copyFrom_96 : decode cX3_copyFrom 96 = .ok (.putfield 71, 3) := by decide +kernel
theorem dX3_copyFrom_99 : decode cX3_copyFrom 99 = .ok (.aload_n 0, 1) := by decide +kernel
theorem dX3_copyFrom_100 : decode cX3_copyFrom 100 = .ok (.aload_n 1, 1) := by decide +kernel
theorem dX3_copyFrom_101 : decode cX3_copyFrom 101 = .ok (.getfield 44, 3) := by decide +kernel
theorem dX3_copyFrom_104 : decode cX3_copyFrom 104 = .ok (.putfield 44, 3) := by decide +kernel
theorem dX3_copyFrom_107 : decode cX3_copyFrom 107 = .ok (.aload_n 0, 1) := by decide +kernel
theorem dX3_copyFrom_108 : decode cX3_copyFrom 108 = .ok (.aload_n 1, 1) := by decide +kernel
theorem dX3_copyFrom_109 : decode cX3_copyFrom 109 = .ok (.getfield 47, 3) := by decide +kernel
theorem dX3_copyFrom_112 : decode cX3_copyFrom 112 = .ok (.putfield 47, 3) := by decide +kernel
theorem dX3_copyFrom_115 : decode cX3_copyFrom 115 = .ok (.return_, 1) := by decide +kernel
theorem dX3_has_0 : decode cX3_has 0 = .ok (.iload_n 1, 1) := by decide +kernel
theorem dX3_has_1 : decode cX3_has 1 = .ok (.ifCond .lt 15, 3) := by decide +kernel
theorem dX3_has_4 : decode cX3_has 4 = .ok (.iload_n 1, 1) := by decide +kernel
theorem dX3_has_5 : decode cX3_has 5 = .ok (.aload_n 0, 1) := by decide +kernel
theorem dX3_has_6 : decode cX3_has 6 = .ok (.getfield 50, 3) := by decide +kernel
theorem dX3_has_9 : decode cX3_has 9 = .ok (.if_icmp .ge 7, 3) := by decide +kernel
theorem dX3_has_12 : decode cX3_has 12 = .ok (.iconst 1, 1) := by decide +kernel
theorem dX3_has_13 : decode cX3_has 13 = .ok (.goto 4, 3) := by decide +kernel
theorem dX3_has_16 : decode cX3_has 16 = .ok (.iconst 0, 1) := by decide +kernel
theorem dX3_has_17 : decode cX3_has 17 = .ok (.ireturn, 1) := by decide +kernel
theorem dX3_hasRoom_0 : decode cX3_hasRoom 0 = .ok (.aload_n 0, 1) := by decide +kernel
theorem dX3_hasRoom_1 : decode cX3_hasRoom 1 = .ok (.getfield 50, 3) := by decide +kernel
theorem dX3_hasRoom_4 : decode cX3_hasRoom 4 = .ok (.bipush 10, 2) := by decide +kernel
theorem dX3_hasRoom_6 : decode cX3_hasRoom 6 = .ok (.if_icmp .ge 7, 3) := by decide +kernel
theorem dX3_hasRoom_9 : decode cX3_hasRoom 9 = .ok (.iconst 1, 1) := by decide +kernel
theorem dX3_hasRoom_10 : decode cX3_hasRoom 10 = .ok (.goto 4, 3) := by decide +kernel
theorem dX3_hasRoom_13 : decode cX3_hasRoom 13 = .ok (.iconst 0, 1) := by decide +kernel
theorem dX3_hasRoom_14 : decode cX3_hasRoom 14 = .ok (.ireturn, 1) := by decide +kernel
theorem dX3_hasHoursLeft_0 : decode cX3_hasHoursLeft 0 = .ok (.aload_n 0, 1) := by decide +kernel
theorem dX3_hasHoursLeft_1 : decode cX3_hasHoursLeft 1 = .ok (.getfield 65, 3) := by decide +kernel
theorem dX3_hasHoursLeft_4 : decode cX3_hasHoursLeft 4 = .ok (.sipush 9999, 3) := by decide +kernel
theorem dX3_hasHoursLeft_7 : decode cX3_hasHoursLeft 7 = .ok (.iload_n 1, 1) := by decide +kernel
theorem dX3_hasHoursLeft_8 : decode cX3_hasHoursLeft 8 = .ok (.isub, 1) := by decide +kernel
theorem dX3_hasHoursLeft_9 : decode cX3_hasHoursLeft 9 = .ok (.if_icmp .gt 7, 3) := by decide +kernel
theorem dX3_hasHoursLeft_12 : decode cX3_hasHoursLeft 12 = .ok (.iconst 1, 1) := by decide +kernel
theorem dX3_hasHoursLeft_13 : decode cX3_hasHoursLeft 13 = .ok (.goto 4, 3) := by decide +kernel
theorem dX3_hasHoursLeft_16 : decode cX3_hasHoursLeft 16 = .ok (.iconst 0, 1) := by decide +kernel
theorem dX3_hasHoursLeft_17 : decode cX3_hasHoursLeft 17 = .ok (.ireturn, 1) := by decide +kernel
theorem dX3_at_0 : decode cX3_at 0 = .ok (.iload_n 1, 1) := by decide +kernel
theorem dX3_at_1 : decode cX3_at 1 = .ok (.ifCond .lt 12, 3) := by decide +kernel
theorem dX3_at_4 : decode cX3_at 4 = .ok (.iload_n 1, 1) := by decide +kernel
theorem dX3_at_5 : decode cX3_at 5 = .ok (.aload_n 0, 1) := by decide +kernel
theorem dX3_at_6 : decode cX3_at 6 = .ok (.getfield 11, 3) := by decide +kernel
theorem dX3_at_9 : decode cX3_at 9 = .ok (.arraylength, 1) := by decide +kernel
theorem dX3_at_10 : decode cX3_at 10 = .ok (.if_icmp .lt 8, 3) := by decide +kernel
theorem dX3_at_13 : decode cX3_at 13 = .ok (.aload_n 0, 1) := by decide +kernel
theorem dX3_at_14 : decode cX3_at 14 = .ok (.getfield 18, 3) := by decide +kernel
theorem dX3_at_17 : decode cX3_at 17 = .ok (.areturn, 1) := by decide +kernel
theorem dX3_at_18 : decode cX3_at 18 = .ok (.aload_n 0, 1) := by decide +kernel
theorem dX3_at_19 : decode cX3_at 19 = .ok (.getfield 11, 3) := by decide +kernel
theorem dX3_at_22 : decode cX3_at 22 = .ok (.iload_n 1, 1) := by decide +kernel
theorem dX3_at_23 : decode cX3_at 23 = .ok (.aaload, 1) := by decide +kernel
theorem dX3_at_24 : decode cX3_at 24 = .ok (.astore_n 2, 1) := by decide +kernel
theorem dX3_at_25 : decode cX3_at 25 = .ok (.aload_n 2, 1) := by decide +kernel
theorem dX3_at_26 : decode cX3_at 26 = .ok (.ifnonnull 10, 3) := by decide +kernel
theorem dX3_at_29 : decode cX3_at 29 = .ok (.aload_n 0, 1) := by decide +kernel
theorem dX3_at_30 : decode cX3_at 30 = .ok (.getfield 18, 3) := by decide +kernel
theorem dX3_at_33 : decode cX3_at 33 = .ok (.goto 4, 3) := by decide +kernel
theorem dX3_at_36 : decode cX3_at 36 = .ok (.aload_n 2, 1) := by decide +kernel
theorem dX3_at_37 : decode cX3_at 37 = .ok (.areturn, 1) := by decide +kernel
theorem dX3_add_0 : decode cX3_add 0 = .ok (.aload_n 0, 1) := by decide +kernel
theorem dX3_add_1 : decode cX3_add 1 = .ok (.getfield 50, 3) := by decide +kernel
theorem dX3_add_4 : decode cX3_add 4 = .ok (.istore 5, 2) := by decide +kernel
theorem dX3_add_6 : decode cX3_add 6 = .ok (.aload_n 0, 1) := by decide +kernel
theorem dX3_add_7 : decode cX3_add 7 = .ok (.iload 5, 2) := by decide +kernel
theorem dX3_add_9 : decode cX3_add 9 = .ok (.invokevirtual 53, 3) := by decide +kernel
theorem dX3_add_12 : decode cX3_add 12 = .ok (.iload_n 1, 1) := by decide +kernel
theorem dX3_add_13 : decode cX3_add 13 = .ok (.iload_n 2, 1) := by decide +kernel
theorem dX3_add_14 : decode cX3_add 14 = .ok (.iload_n 3, 1) := by decide +kernel
theorem dX3_add_15 : decode cX3_add 15 = .ok (.iload 4, 2) := by decide +kernel
theorem dX3_add_17 : decode cX3_add 17 = .ok (.aload_n 0, 1) := by decide +kernel
theorem dX3_add_18 : decode cX3_add 18 = .ok (.getfield 41, 3) := by decide +kernel
theorem dX3_add_21 : decode cX3_add 21 = .ok (.invokevirtual 74, 3) := by decide +kernel
theorem dX3_add_24 : decode cX3_add 24 = .ok (.aload_n 0, 1) := by decide +kernel
theorem dX3_add_25 : decode cX3_add 25 = .ok (.dup, 1) := by decide +kernel
theorem dX3_add_26 : decode cX3_add 26 = .ok (.getfield 50, 3) := by decide +kernel
theorem dX3_add_29 : decode cX3_add 29 = .ok (.iconst 1, 1) := by decide +kernel
theorem dX3_add_30 : decode cX3_add 30 = .ok (.iadd, 1) := by decide +kernel
theorem dX3_add_31 : decode cX3_add 31 = .ok (.putfield 50, 3) := by decide +kernel
theorem dX3_add_34 : decode cX3_add 34 = .ok (.iload 5, 2) := by decide +kernel
theorem dX3_add_36 : decode cX3_add 36 = .ok (.ireturn, 1) := by decide +kernel
theorem dX3_changePeriod_0 : decode cX3_changePeriod 0 = .ok (.iload_n 1, 1) := by decide +kernel
theorem dX3_changePeriod_1 : decode cX3_changePeriod 1 = .ok (.ifCond .lt 19, 3) := by decide +kernel
theorem dX3_changePeriod_4 : decode cX3_changePeriod 4 = .ok (.iload_n 1, 1) := by decide +kernel
theorem dX3_changePeriod_5 : decode cX3_changePeriod 5 = .ok (.aload_n 0, 1) := by decide +kernel
theorem dX3_changePeriod_6 : decode cX3_changePeriod 6 = .ok (.getfield 22, 3) := by decide +kernel
theorem dX3_changePeriod_9 : decode cX3_changePeriod 9 = .ok (.arraylength, 1) := by decide +kernel
theorem dX3_changePeriod_10 : decode cX3_changePeriod 10 = .ok (.if_icmp .ge 10, 3) := by decide +kernel
theorem dX3_changePeriod_13 : decode cX3_changePeriod 13 = .ok (.aload_n 0, 1) := by decide +kernel
theorem dX3_changePeriod_14 : decode cX3_changePeriod 14 = .ok (.getfield 22, 3) := by decide +kernel
theorem dX3_changePeriod_17 : decode cX3_changePeriod 17 = .ok (.iload_n 1, 1) := by decide +kernel
theorem dX3_changePeriod_18 : decode cX3_changePeriod 18 = .ok (.iload_n 2, 1) := by decide +kernel
theorem dX3_changePeriod_19 : decode cX3_changePeriod 19 = .ok (.iastore, 1) := by decide +kernel
theorem dX3_changePeriod_20 : decode cX3_changePeriod 20 = .ok (.return_, 1) := by decide +kernel
theorem dX3_periodOf_0 : decode cX3_periodOf 0 = .ok (.aload_n 0, 1) := by decide +kernel
theorem dX3_periodOf_1 : decode cX3_periodOf 1 = .ok (.getfield 22, 3) := by decide +kernel
theorem dX3_periodOf_4 : decode cX3_periodOf 4 = .ok (.iload_n 1, 1) := by decide +kernel
theorem dX3_periodOf_5 : decode cX3_periodOf 5 = .ok (.invokestatic 78, 3) := by decide +kernel
theorem dX3_periodOf_8 : decode cX3_periodOf 8 = .ok (.ireturn, 1) := by decide +kernel
theorem dX3_timesReadOf_0 : decode cX3_timesReadOf 0 = .ok (.aload_n 0, 1) := by decide +kernel
theorem dX3_timesReadOf_1 : decode cX3_timesReadOf 1 = .ok (.getfield 26, 3) := by decide +kernel
theorem dX3_timesReadOf_4 : decode cX3_timesReadOf 4 = .ok (.iload_n 1, 1) := by decide +kernel
theorem dX3_timesReadOf_5 : decode cX3_timesReadOf 5 = .ok (.invokestatic 78, 3) := by decide +kernel
theorem dX3_timesReadOf_8 : decode cX3_timesReadOf 8 = .ok (.ireturn, 1) := by decide +kernel
theorem dX3_hoursUntilRead_0 : decode cX3_hoursUntilRead 0 = .ok (.aload_n 0, 1) := by decide +kernel
theorem dX3_hoursUntilRead_1 : decode cX3_hoursUntilRead 1 = .ok (.iload_n 1, 1) := by decide +kernel
theorem dX3_hoursUntilRead_2 : decode cX3_hoursUntilRead 2 = .ok (.invokevirtual 82, 3) := by decide +kernel
theorem dX3_hoursUntilRead_5 : decode cX3_hoursUntilRead 5 = .ok (.aload_n 0, 1) := by decide +kernel
theorem dX3_hoursUntilRead_6 : decode cX3_hoursUntilRead 6 = .ok (.getfield 65, 3) := by decide +kernel
theorem dX3_hoursUntilRead_9 : decode cX3_hoursUntilRead 9 = .ok (.aload_n 0, 1) := by decide +kernel
theorem dX3_hoursUntilRead_10 : decode cX3_hoursUntilRead 10 = .ok (.iload_n 1, 1) := by decide +kernel
theorem dX3_hoursUntilRead_11 : decode cX3_hoursUntilRead 11 = .ok (.invokevirtual 82, 3) := by decide +kernel
theorem dX3_hoursUntilRead_14 : decode cX3_hoursUntilRead 14 = .ok (.invokestatic 86, 3) := by decide +kernel
theorem dX3_hoursUntilRead_17 : decode cX3_hoursUntilRead 17 = .ok (.isub, 1) := by decide +kernel
theorem dX3_hoursUntilRead_18 : decode cX3_hoursUntilRead 18 = .ok (.ireturn, 1) := by decide +kernel
theorem dX3_countInRow_0 : decode cX3_countInRow 0 = .ok (.iconst 0, 1) := by decide +kernel
theorem dX3_countInRow_1 : decode cX3_countInRow 1 = .ok (.istore_n 2, 1) := by decide +kernel
theorem dX3_countInRow_2 : decode cX3_countInRow 2 = .ok (.iconst 0, 1) := by decide +kernel
theorem dX3_countInRow_3 : decode cX3_countInRow 3 = .ok (.istore_n 3, 1) := by decide +kernel
theorem dX3_countInRow_4 : decode cX3_countInRow 4 = .ok (.iload_n 3, 1) := by decide +kernel
theorem dX3_countInRow_5 : decode cX3_countInRow 5 = .ok (.aload_n 0, 1) := by decide +kernel
theorem dX3_countInRow_6 : decode cX3_countInRow 6 = .ok (.getfield 50, 3) := by decide +kernel
theorem dX3_countInRow_9 : decode cX3_countInRow 9 = .ok (.if_icmp .ge 24, 3) := by decide +kernel
theorem dX3_countInRow_12 : decode cX3_countInRow 12 = .ok (.aload_n 0, 1) := by decide +kernel
theorem dX3_countInRow_13 : decode cX3_countInRow 13 = .ok (.iload_n 3, 1) := by decide +kernel
theorem dX3_countInRow_14 : decode cX3_countInRow 14 = .ok (.invokevirtual 53, 3) := by decide +kernel
theorem dX3_countInRow_17 : decode cX3_countInRow 17 = .ok (.getfield 90, 3) := by decide +kernel
theorem dX3_countInRow_20 : decode cX3_countInRow 20 = .ok (.iload_n 1, 1) := by decide +kernel
theorem dX3_countInRow_21 : decode cX3_countInRow 21 = .ok (.if_icmp .ne 6, 3) := by decide +kernel
theorem dX3_countInRow_24 : decode cX3_countInRow 24 = .ok (.iinc 2 1, 3) := by decide +kernel
theorem dX3_countInRow_27 : decode cX3_countInRow 27 = .ok (.iinc 3 1, 3) := by decide +kernel
theorem dX3_countInRow_30 : decode cX3_countInRow 30 = .ok (.goto (-26), 3) := by decide +kernel
theorem dX3_countInRow_33 : decode cX3_countInRow 33 = .ok (.iload_n 2, 1) := by decide +kernel
theorem dX3_countInRow_34 : decode cX3_countInRow 34 = .ok (.ireturn, 1) := by decide +kernel
theorem dX3_passHours_0 : decode cX3_passHours 0 = .ok (.iconst 0, 1) := by decide +kernel
theorem dX3_passHours_1 : decode cX3_passHours 1 = .ok (.istore_n 3, 1) := by decide +kernel
theorem dX3_passHours_2 : decode cX3_passHours 2 = .ok (.iload_n 3, 1) := by decide +kernel
theorem dX3_passHours_3 : decode cX3_passHours 3 = .ok (.iload_n 1, 1) := by decide +kernel
theorem dX3_passHours_4 : decode cX3_passHours 4 = .ok (.if_icmp .ge 36, 3) := by decide +kernel
theorem dX3_passHours_7 : decode cX3_passHours 7 = .ok (.aload_n 0, 1) := by decide +kernel
theorem dX3_passHours_8 : decode cX3_passHours 8 = .ok (.getfield 41, 3) := by decide +kernel
theorem dX3_passHours_11 : decode cX3_passHours 11 = .ok (.iload_n 2, 1) := by decide +kernel
theorem dX3_passHours_12 : decode cX3_passHours 12 = .ok (.iadd, 1) := by decide +kernel
theorem dX3_passHours_13 : decode cX3_passHours 13 = .ok (.istore 4, 2) := by decide +kernel
theorem dX3_passHours_15 : decode cX3_passHours 15 = .ok (.aload_n 0, 1) := by decide +kernel
theorem dX3_passHours_16 : decode cX3_passHours 16 = .ok (.sipush (-5000), 3) := by decide +kernel
theorem dX3_passHours_19 : decode cX3_passHours 19 = .ok (.sipush 5000, 3) := by decide +kernel
theorem dX3_passHours_22 : decode cX3_passHours 22 = .ok (.iload 4, 2) := by decide +kernel
theorem dX3_passHours_24 : decode cX3_passHours 24 = .ok (.invokestatic 93, 3) := by decide +kernel
theorem dX3_passHours_27 : decode cX3_passHours 27 = .ok (.invokestatic 98, 3) := by decide +kernel
theorem dX3_passHours_30 : decode cX3_passHours 30 = .ok (.invokevirtual 101, 3) := by decide +kernel
theorem dX3_passHours_33 : decode cX3_passHours 33 = .ok (.pop, 1) := by decide +kernel
theorem dX3_passHours_34 : decode cX3_passHours 34 = .ok (.iinc 3 1, 3) := by decide +kernel
theorem dX3_passHours_37 : decode cX3_passHours 37 = .ok (.goto (-35), 3) := by decide +kernel
theorem dX3_passHours_40 : decode cX3_passHours 40 = .ok (.return_, 1) := by decide +kernel
theorem dX3_passHour_0 : decode cX3_passHour 0 = .ok (.aload_n 0, 1) := by decide +kernel
theorem dX3_passHour_1 : decode cX3_passHour 1 = .ok (.aload_n 0, 1) := by decide +kernel
theorem dX3_passHour_2 : decode cX3_passHour 2 = .ok (.invokevirtual 104, 3) := by decide +kernel
theorem dX3_passHour_5 : decode cX3_passHour 5 = .ok (.putfield 37, 3) := by decide +kernel
theorem dX3_passHour_8 : decode cX3_passHour 8 = .ok (.aload_n 0, 1) := by decide +kernel
theorem dX3_passHour_9 : decode cX3_passHour 9 = .ok (.dup, 1) := by decide +kernel
theorem dX3_passHour_10 : decode cX3_passHour 10 = .ok (.getfield 65, 3) := by decide +kernel
theorem dX3_passHour_13 : decode cX3_passHour 13 = .ok (.iconst 1, 1) := by decide +kernel
theorem dX3_passHour_14 : decode cX3_passHour 14 = .ok (.iadd, 1) := by decide +kernel
theorem dX3_passHour_15 : decode cX3_passHour 15 = .ok (.putfield 65, 3) := by decide +kernel
theorem dX3_passHour_18 : decode cX3_passHour 18 = .ok (.aload_n 0, 1) := by decide +kernel
theorem dX3_passHour_19 : decode cX3_passHour 19 = .ok (.iload_n 1, 1) := by decide +kernel
theorem dX3_passHour_20 : decode cX3_passHour 20 = .ok (.putfield 41, 3) := by decide +kernel
theorem dX3_passHour_23 : decode cX3_passHour 23 = .ok (.iconst 0, 1) := by decide +kernel
theorem dX3_passHour_24 : decode cX3_passHour 24 = .ok (.istore_n 2, 1) := by decide +kernel
theorem dX3_passHour_25 : decode cX3_passHour 25 = .ok (.iload_n 2, 1) := by decide +kernel
theorem dX3_passHour_26 : decode cX3_passHour 26 = .ok (.aload_n 0, 1) := by decide +kernel
theorem dX3_passHour_27 : decode cX3_passHour 27 = .ok (.getfield 50, 3) := by decide +kernel
theorem dX3_passHour_30 : decode cX3_passHour 30 = .ok (.if_icmp .ge 21, 3) := by decide +kernel
theorem dX3_passHour_33 : decode cX3_passHour 33 = .ok (.aload_n 0, 1) := by decide +kernel
theorem dX3_passHour_34 : decode cX3_passHour 34 = .ok (.iload_n 2, 1) := by decide +kernel
theorem dX3_passHour_35 : decode cX3_passHour 35 = .ok (.invokevirtual 53, 3) := by decide +kernel
theorem dX3_passHour_38 : decode cX3_passHour 38 = .ok (.aload_n 0, 1) := by decide +kernel
theorem dX3_passHour_39 : decode cX3_passHour 39 = .ok (.getfield 41, 3) := by decide +kernel
theorem dX3_passHour_42 : decode cX3_passHour 42 = .ok (.invokevirtual 108, 3) := by decide +kernel
theorem dX3_passHour_45 : decode cX3_passHour 45 = .ok (.iinc 2 1, 3) := by decide +kernel
theorem dX3_passHour_48 : decode cX3_passHour 48 = .ok (.goto (-23), 3) := by decide +kernel
theorem dX3_passHour_51 : decode cX3_passHour 51 = .ok (.aload_n 0, 1) := by decide +kernel
theorem dX3_passHour_52 : decode cX3_passHour 52 = .ok (.getfield 68, 3) := by decide +kernel
theorem dX3_passHour_55 : decode cX3_passHour 55 = .ok (.istore_n 2, 1) := by decide +kernel
theorem dX3_passHour_56 : decode cX3_passHour 56 = .ok (.aload_n 0, 1) := by decide +kernel
theorem dX3_passHour_57 : decode cX3_passHour 57 = .ok (.invokevirtual 112, 3) := by decide +kernel
theorem dX3_passHour_60 : decode cX3_passHour 60 = .ok (.aload_n 0, 1) := by decide +kernel
theorem dX3_passHour_61 : decode cX3_passHour 61 = .ok (.getfield 68, 3) := by decide +kernel
theorem dX3_passHour_64 : decode cX3_passHour 64 = .ok (.iload_n 2, 1) := by decide +kernel
theorem dX3_passHour_65 : decode cX3_passHour 65 = .ok (.if_icmp .le 7, 3) := by decide +kernel
theorem dX3_passHour_68 : decode cX3_passHour 68 = .ok (.aload_n 0, 1) := by decide +kernel
theorem dX3_passHour_69 : decode cX3_passHour 69 = .ok (.invokevirtual 115, 3) := by decide +kernel
theorem dX3_passHour_72 : decode cX3_passHour 72 = .ok (.aload_n 0, 1) := by decide +kernel
theorem dX3_passHour_73 : decode cX3_passHour 73 = .ok (.getfield 68, 3) := by decide +kernel
theorem dX3_passHour_76 : decode cX3_passHour 76 = .ok (.iload_n 2, 1) := by decide +kernel
theorem dX3_passHour_77 : decode cX3_passHour 77 = .ok (.isub, 1) := by decide +kernel
theorem dX3_passHour_78 : decode cX3_passHour 78 = .ok (.ireturn, 1) := by decide +kernel
theorem dX3_readRows_0 : decode cX3_readRows 0 = .ok (.iconst 0, 1) := by decide +kernel
theorem dX3_readRows_1 : decode cX3_readRows 1 = .ok (.istore_n 1, 1) := by decide +kernel
theorem dX3_readRows_2 : decode cX3_readRows 2 = .ok (.iload_n 1, 1) := by decide +kernel
theorem dX3_readRows_3 : decode cX3_readRows 3 = .ok (.aload_n 0, 1) := by decide +kernel
theorem dX3_readRows_4 : decode cX3_readRows 4 = .ok (.getfield 26, 3) := by decide +kernel
theorem dX3_readRows_7 : decode cX3_readRows 7 = .ok (.arraylength, 1) := by decide +kernel
theorem dX3_readRows_8 : decode cX3_readRows 8 = .ok (.if_icmp .ge 27, 3) := by decide +kernel
theorem dX3_readRows_11 : decode cX3_readRows 11 = .ok (.aload_n 0, 1) := by decide +kernel
theorem dX3_readRows_12 : decode cX3_readRows 12 = .ok (.iload_n 1, 1) := by decide +kernel
theorem dX3_readRows_13 : decode cX3_readRows 13 = .ok (.invokevirtual 118, 3) := by decide +kernel
theorem dX3_readRows_16 : decode cX3_readRows 16 = .ok (.ifCond .eq 13, 3) := by decide +kernel
theorem dX3_readRows_19 : decode cX3_readRows 19 = .ok (.aload_n 0, 1) := by decide +kernel
theorem dX3_readRows_20 : decode cX3_readRows 20 = .ok (.getfield 26, 3) := by decide +kernel
theorem dX3_readRows_23 : decode cX3_readRows 23 = .ok (.iload_n 1, 1) := by decide +kernel
theorem dX3_readRows_24 : decode cX3_readRows 24 = .ok (.dup2, 1) := by decide +kernel
theorem dX3_readRows_25 : decode cX3_readRows 25 = .ok (.iaload, 1) := by decide +kernel
theorem dX3_readRows_26 : decode cX3_readRows 26 = .ok (.iconst 1, 1) := by decide +kernel
theorem dX3_readRows_27 : decode cX3_readRows 27 = .ok (.iadd, 1) := by decide +kernel
theorem dX3_readRows_28 : decode cX3_readRows 28 = .ok (.iastore, 1) := by decide +kernel
theorem dX3_readRows_29 : decode cX3_readRows 29 = .ok (.iinc 1 1, 3) := by decide +kernel
theorem dX3_readRows_32 : decode cX3_readRows 32 = .ok (.goto (-30), 3) := by decide +kernel
theorem dX3_readRows_35 : decode cX3_readRows 35 = .ok (.iconst 0, 1) := by decide +kernel
theorem dX3_readRows_36 : decode cX3_readRows 36 = .ok (.istore_n 1, 1) := by decide +kernel
theorem dX3_readRows_37 : decode cX3_readRows 37 = .ok (.iload_n 1, 1) := by decide +kernel
theorem dX3_readRows_38 : decode cX3_readRows 38 = .ok (.aload_n 0, 1) := by decide +kernel
theorem dX3_readRows_39 : decode cX3_readRows 39 = .ok (.getfield 50, 3) := by decide +kernel
theorem dX3_readRows_42 : decode cX3_readRows 42 = .ok (.if_icmp .ge 46, 3) := by decide +kernel
theorem dX3_readRows_45 : decode cX3_readRows 45 = .ok (.aload_n 0, 1) := by decide +kernel
theorem dX3_readRows_46 : decode cX3_readRows 46 = .ok (.aload_n 0, 1) := by decide +kernel
theorem dX3_readRows_47 : decode cX3_readRows 47 = .ok (.iload_n 1, 1) := by decide +kernel
theorem dX3_readRows_48 : decode cX3_readRows 48 = .ok (.invokevirtual 53, 3) := by decide +kernel
theorem dX3_readRows_51 : decode cX3_readRows 51 = .ok (.getfield 90, 3) := by decide +kernel
theorem dX3_readRows_54 : decode cX3_readRows 54 = .ok (.invokevirtual 118, 3) := by decide +kernel
theorem dX3_readRows_57 : decode cX3_readRows 57 = .ok (.ifCond .eq 25, 3) := by decide +kernel
theorem dX3_readRows_60 : decode cX3_readRows 60 = .ok (.aload_n 0, 1) := by decide +kernel
theorem dX3_readRows_61 : decode cX3_readRows 61 = .ok (.iload_n 1, 1) := by decide +kernel
theorem dX3_readRows_62 : decode cX3_readRows 62 = .ok (.invokevirtual 53, 3) := by decide +kernel
theorem dX3_readRows_65 : decode cX3_readRows 65 = .ok (.aload_n 0, 1) := by decide +kernel
theorem dX3_readRows_66 : decode cX3_readRows 66 = .ok (.getfield 65, 3) := by decide +kernel
theorem dX3_readRows_69 : decode cX3_readRows 69 = .ok (.invokevirtual 122, 3) := by decide +kernel
theorem dX3_readRows_72 : decode cX3_readRows 72 = .ok (.aload_n 0, 1) := by decide +kernel
theorem dX3_readRows_73 : decode cX3_readRows 73 = .ok (.dup, 1) := by decide +kernel
theorem dX3_readRows_74 : decode cX3_readRows 74 = .ok (.getfield 68, 3) := by decide +kernel
theorem dX3_readRows_77 : decode cX3_readRows 77 = .ok (.iconst 1, 1) := by decide +kernel
theorem dX3_readRows_78 : decode cX3_readRows 78 = .ok (.iadd, 1) := by decide +kernel
theorem dX3_readRows_79 : decode cX3_readRows 79 = .ok (.putfield 68, 3) := by decide +kernel
theorem dX3_readRows_82 : decode cX3_readRows 82 = .ok (.iinc 1 1, 3) := by decide +kernel
theorem dX3_readRows_85 : decode cX3_readRows 85 = .ok (.goto (-48), 3) := by decide +kernel
theorem dX3_readRows_88 : decode cX3_readRows 88 = .ok (.return_, 1) := by decide +kernel
theorem dX3_isReadNow_0 : decode cX3_isReadNow 0 = .ok (.aload_n 0, 1) := by decide +kernel
theorem dX3_isReadNow_1 : decode cX3_isReadNow 1 = .ok (.getfield 65, 3) := by decide +kernel
theorem dX3_isReadNow_4 : decode cX3_isReadNow 4 = .ok (.aload_n 0, 1) := by decide +kernel
theorem dX3_isReadNow_5 : decode cX3_isReadNow 5 = .ok (.iload_n 1, 1) := by decide +kernel
theorem dX3_isReadNow_6 : decode cX3_isReadNow 6 = .ok (.invokevirtual 82, 3) := by decide +kernel
theorem dX3_isReadNow_9 : decode cX3_isReadNow 9 = .ok (.invokestatic 86, 3) := by decide +kernel
theorem dX3_isReadNow_12 : decode cX3_isReadNow 12 = .ok (.ifCond .ne 7, 3) := by decide +kernel
theorem dX3_isReadNow_15 : decode cX3_isReadNow 15 = .ok (.iconst 1, 1) := by decide +kernel
theorem dX3_isReadNow_16 : decode cX3_isReadNow 16 = .ok (.goto 4, 3) := by decide +kernel
theorem dX3_isReadNow_19 : decode cX3_isReadNow 19 = .ok (.iconst 0, 1) := by decide +kernel
theorem dX3_isReadNow_20 : decode cX3_isReadNow 20 = .ok (.ireturn, 1) := by decide +kernel
theorem dX3_lookForSpikes_0 : decode cX3_lookForSpikes 0 = .ok (.aload_n 0, 1) := by decide +kernel
theorem dX3_lookForSpikes_1 : decode cX3_lookForSpikes 1 = .ok (.invokevirtual 125, 3) := by decide +kernel
theorem dX3_lookForSpikes_4 : decode cX3_lookForSpikes 4 = .ok (.invokestatic 128, 3) := by decide +kernel
theorem dX3_lookForSpikes_7 : decode cX3_lookForSpikes 7 = .ok (.iconst 2, 1) := by decide +kernel
theorem dX3_lookForSpikes_8 : decode cX3_lookForSpikes 8 = .ok (.if_icmp .ge 4, 3) := by decide +kernel
theorem dX3_lookForSpikes_11 : decode cX3_lookForSpikes 11 = .ok (.return_, 1) := by decide +kernel
theorem dX3_lookForSpikes_12 : decode cX3_lookForSpikes 12 = .ok (.iconst 0, 1) := by decide +kernel
theorem dX3_lookForSpikes_13 : decode cX3_lookForSpikes 13 = .ok (.istore_n 1, 1) := by decide +kernel
theorem dX3_lookForSpikes_14 : decode cX3_lookForSpikes 14 = .ok (.iload_n 1, 1) := by decide +kernel
theorem dX3_lookForSpikes_15 : decode cX3_lookForSpikes 15 = .ok (.aload_n 0, 1) := by decide +kernel
theorem dX3_lookForSpikes_16 : decode cX3_lookForSpikes 16 = .ok (.getfield 50, 3) := by decide +kernel
theorem dX3_lookForSpikes_19 : decode cX3_lookForSpikes 19 = .ok (.if_icmp .ge 29, 3) := by decide +kernel
theorem dX3_lookForSpikes_22 : decode cX3_lookForSpikes 22 = .ok (.aload_n 0, 1) := by decide +kernel
theorem dX3_lookForSpikes_23 : decode cX3_lookForSpikes 23 = .ok (.iload_n 1, 1) := by decide +kernel
theorem dX3_lookForSpikes_24 : decode cX3_lookForSpikes 24 = .ok (.invokevirtual 53, 3) := by decide +kernel
theorem dX3_lookForSpikes_27 : decode cX3_lookForSpikes 27 = .ok (.aload_n 0, 1) := by decide +kernel
theorem dX3_lookForSpikes_28 : decode cX3_lookForSpikes 28 = .ok (.getfield 65, 3) := by decide +kernel
theorem dX3_lookForSpikes_31 : decode cX3_lookForSpikes 31 = .ok (.invokevirtual 133, 3) := by decide +kernel
theorem dX3_lookForSpikes_34 : decode cX3_lookForSpikes 34 = .ok (.ifCond .eq 8, 3) := by decide +kernel
theorem dX3_lookForSpikes_37 : decode cX3_lookForSpikes 37 = .ok (.aload_n 0, 1) := by decide +kernel
theorem dX3_lookForSpikes_38 : decode cX3_lookForSpikes 38 = .ok (.iload_n 1, 1) := by decide +kernel
theorem dX3_lookForSpikes_39 : decode cX3_lookForSpikes 39 = .ok (.invokevirtual 136, 3) := by decide +kernel
theorem dX3_lookForSpikes_42 : decode cX3_lookForSpikes 42 = .ok (.iinc 1 1, 3) := by decide +kernel
theorem dX3_lookForSpikes_45 : decode cX3_lookForSpikes 45 = .ok (.goto (-31), 3) := by decide +kernel
theorem dX3_lookForSpikes_48 : decode cX3_lookForSpikes 48 = .ok (.iconst 0, 1) := by decide +kernel
theorem dX3_lookForSpikes_49 : decode cX3_lookForSpikes 49 = .ok (.istore_n 1, 1) := by decide +kernel
theorem dX3_lookForSpikes_50 : decode cX3_lookForSpikes 50 = .ok (.iload_n 1, 1) := by decide +kernel
theorem dX3_lookForSpikes_51 : decode cX3_lookForSpikes 51 = .ok (.aload_n 0, 1) := by decide +kernel
theorem dX3_lookForSpikes_52 : decode cX3_lookForSpikes 52 = .ok (.getfield 50, 3) := by decide +kernel
theorem dX3_lookForSpikes_55 : decode cX3_lookForSpikes 55 = .ok (.if_icmp .ge 36, 3) := by decide +kernel
theorem dX3_lookForSpikes_58 : decode cX3_lookForSpikes 58 = .ok (.aload_n 0, 1) := by decide +kernel
theorem dX3_lookForSpikes_59 : decode cX3_lookForSpikes 59 = .ok (.iload_n 1, 1) := by decide +kernel
theorem dX3_lookForSpikes_60 : decode cX3_lookForSpikes 60 = .ok (.invokevirtual 53, 3) := by decide +kernel
theorem dX3_lookForSpikes_63 : decode cX3_lookForSpikes 63 = .ok (.aload_n 0, 1) := by decide +kernel
theorem dX3_lookForSpikes_64 : decode cX3_lookForSpikes 64 = .ok (.getfield 65, 3) := by decide +kernel
theorem dX3_lookForSpikes_67 : decode cX3_lookForSpikes 67 = .ok (.invokevirtual 133, 3) := by decide +kernel
theorem dX3_lookForSpikes_70 : decode cX3_lookForSpikes 70 = .ok (.ifCond .eq 15, 3) := by decide +kernel
theorem dX3_lookForSpikes_73 : decode cX3_lookForSpikes 73 = .ok (.aload_n 0, 1) := by decide +kernel
theorem dX3_lookForSpikes_74 : decode cX3_lookForSpikes 74 = .ok (.iload_n 1, 1) := by decide +kernel
theorem dX3_lookForSpikes_75 : decode cX3_lookForSpikes 75 = .ok (.invokevirtual 53, 3) := by decide +kernel
theorem dX3_lookForSpikes_78 : decode cX3_lookForSpikes 78 = .ok (.aload_n 0, 1) := by decide +kernel
theorem dX3_lookForSpikes_79 : decode cX3_lookForSpikes 79 = .ok (.getfield 47, 3) := by decide +kernel
theorem dX3_lookForSpikes_82 : decode cX3_lookForSpikes 82 = .ok (.invokevirtual 139, 3) := by decide +kernel
theorem dX3_lookForSpikes_85 : decode cX3_lookForSpikes 85 = .ok (.iinc 1 1, 3) := by decide +kernel
theorem dX3_lookForSpikes_88 : decode cX3_lookForSpikes 88 = .ok (.goto (-38), 3) := by decide +kernel
theorem dX3_lookForSpikes_91 : decode cX3_lookForSpikes 91 = .ok (.return_, 1) := by decide +kernel
theorem dX3_compareWithOthers_0 : decode cX3_compareWithOthers 0 = .ok (.aload_n 0, 1) := by decide +kernel
theorem dX3_compareWithOthers_1 : decode cX3_compareWithOthers 1 = .ok (.iload_n 1, 1) := by decide +kernel
theorem dX3_compareWithOthers_2 : decode cX3_compareWithOthers 2 = .ok (.invokevirtual 53, 3) := by decide +kernel
theorem dX3_compareWithOthers_5 : decode cX3_compareWithOthers 5 = .ok (.getfield 142, 3) := by decide +kernel
theorem dX3_compareWithOthers_8 : decode cX3_compareWithOthers 8 = .ok (.istore_n 2, 1) := by decide +kernel
theorem dX3_compareWithOthers_9 : decode cX3_compareWithOthers 9 = .ok (.aload_n 0, 1) := by decide +kernel
theorem dX3_compareWithOthers_10 : decode cX3_compareWithOthers 10 = .ok (.iload_n 1, 1) := by decide +kernel
theorem dX3_compareWithOthers_11 : decode cX3_compareWithOthers 11 = .ok (.invokevirtual 53, 3) := by decide +kernel
theorem dX3_compareWithOthers_14 : decode cX3_compareWithOthers 14 = .ok (.aload_n 0, 1) := by decide +kernel
theorem dX3_compareWithOthers_15 : decode cX3_compareWithOthers 15 = .ok (.iload_n 1, 1) := by decide +kernel
theorem dX3_compareWithOthers_16 : decode cX3_compareWithOthers 16 = .ok (.invokevirtual 143, 3) := by decide +kernel
theorem dX3_compareWithOthers_19 : decode cX3_compareWithOthers 19 = .ok (.aload_n 0, 1) := by decide +kernel
theorem dX3_compareWithOthers_20 : decode cX3_compareWithOthers 20 = .ok (.getfield 44, 3) := by decide +kernel
theorem dX3_compareWithOthers_23 : decode cX3_compareWithOthers 23 = .ok (.invokevirtual 146, 3) := by decide +kernel
theorem dX3_compareWithOthers_26 : decode cX3_compareWithOthers 26 = .ok (.aload_n 0, 1) := by decide +kernel
theorem dX3_compareWithOthers_27 : decode cX3_compareWithOthers 27 = .ok (.dup, 1) := by decide +kernel
theorem dX3_compareWithOthers_28 : decode cX3_compareWithOthers 28 = .ok (.getfield 71, 3) := by decide +kernel
theorem dX3_compareWithOthers_31 : decode cX3_compareWithOthers 31 = .ok (.aload_n 0, 1) := by decide +kernel
theorem dX3_compareWithOthers_32 : decode cX3_compareWithOthers 32 = .ok (.iload_n 1, 1) := by decide +kernel
theorem dX3_compareWithOthers_33 : decode cX3_compareWithOthers 33 = .ok (.invokevirtual 53, 3) := by decide +kernel
theorem dX3_compareWithOthers_36 : decode cX3_compareWithOthers 36 = .ok (.getfield 142, 3) := by decide +kernel
theorem dX3_compareWithOthers_39 : decode cX3_compareWithOthers 39 = .ok (.iload_n 2, 1) := by decide +kernel
theorem dX3_compareWithOthers_40 : decode cX3_compareWithOthers 40 = .ok (.isub, 1) := by decide +kernel
theorem dX3_compareWithOthers_41 : decode cX3_compareWithOthers 41 = .ok (.iadd, 1) := by decide +kernel
theorem dX3_compareWithOthers_42 : decode cX3_compareWithOthers 42 = .ok (.putfield 71, 3) := by decide +kernel
theorem dX3_compareWithOthers_45 : decode cX3_compareWithOthers 45 = .ok (.return_, 1) := by decide +kernel
theorem dX3_middleWithout_0 : decode cX3_middleWithout 0 = .ok (.aload_n 0, 1) := by decide +kernel
theorem dX3_middleWithout_1 : decode cX3_middleWithout 1 = .ok (.getfield 32, 3) := by decide +kernel
theorem dX3_middleWithout_4 : decode cX3_middleWithout 4 = .ok (.invokevirtual 150, 3) := by decide +kernel
theorem dX3_middleWithout_7 : decode cX3_middleWithout 7 = .ok (.iconst 0, 1) := by decide +kernel
theorem dX3_middleWithout_8 : decode cX3_middleWithout 8 = .ok (.istore_n 2, 1) := by decide +kernel
theorem dX3_middleWithout_9 : decode cX3_middleWithout 9 = .ok (.iload_n 2, 1) := by decide +kernel
theorem dX3_middleWithout_10 : decode cX3_middleWithout 10 = .ok (.aload_n 0, 1) := by decide +kernel
theorem dX3_middleWithout_11 : decode cX3_middleWithout 11 = .ok (.getfield 50, 3) := by decide +kernel
theorem dX3_middleWithout_14 : decode cX3_middleWithout 14 = .ok (.if_icmp .ge 40, 3) := by decide +kernel
theorem dX3_middleWithout_17 : decode cX3_middleWithout 17 = .ok (.iload_n 2, 1) := by decide +kernel
theorem dX3_middleWithout_18 : decode cX3_middleWithout 18 = .ok (.iload_n 1, 1) := by decide +kernel
theorem dX3_middleWithout_19 : decode cX3_middleWithout 19 = .ok (.if_icmp .eq 29, 3) := by decide +kernel
theorem dX3_middleWithout_22 : decode cX3_middleWithout 22 = .ok (.aload_n 0, 1) := by decide +kernel
theorem dX3_middleWithout_23 : decode cX3_middleWithout 23 = .ok (.iload_n 2, 1) := by decide +kernel
theorem dX3_middleWithout_24 : decode cX3_middleWithout 24 = .ok (.invokevirtual 53, 3) := by decide +kernel
theorem dX3_middleWithout_27 : decode cX3_middleWithout 27 = .ok (.invokevirtual 153, 3) := by decide +kernel
theorem dX3_middleWithout_30 : decode cX3_middleWithout 30 = .ok (.ifCond .eq 18, 3) := by decide +kernel
theorem dX3_middleWithout_33 : decode cX3_middleWithout 33 = .ok (.aload_n 0, 1) := by decide +kernel
theorem dX3_middleWithout_34 : decode cX3_middleWithout 34 = .ok (.getfield 32, 3) := by decide +kernel
theorem dX3_middleWithout_37 : decode cX3_middleWithout 37 = .ok (.aload_n 0, 1) := by decide +kernel
theorem dX3_middleWithout_38 : decode cX3_middleWithout 38 = .ok (.iload_n 2, 1) := by decide +kernel
theorem dX3_middleWithout_39 : decode cX3_middleWithout 39 = .ok (.invokevirtual 53, 3) := by decide +kernel
theorem dX3_middleWithout_42 : decode cX3_middleWithout 42 = .ok (.getfield 157, 3) := by decide +kernel
theorem dX3_middleWithout_45 : decode cX3_middleWithout 45 = .ok (.invokevirtual 160, 3) := by decide +kernel
theorem dX3_middleWithout_48 : decode cX3_middleWithout 48 = .ok (.iinc 2 1, 3) := by decide +kernel
theorem dX3_middleWithout_51 : decode cX3_middleWithout 51 = .ok (.goto (-42), 3) := by decide +kernel
theorem dX3_middleWithout_54 : decode cX3_middleWithout 54 = .ok (.aload_n 0, 1) := by decide +kernel
theorem dX3_middleWithout_55 : decode cX3_middleWithout 55 = .ok (.getfield 32, 3) := by decide +kernel
theorem dX3_middleWithout_58 : decode cX3_middleWithout 58 = .ok (.invokevirtual 163, 3) := by decide +kernel
theorem dX3_middleWithout_61 : decode cX3_middleWithout 61 = .ok (.ireturn, 1) := by decide +kernel
theorem dX3_maskOfAsked_0 : decode cX3_maskOfAsked 0 = .ok (.iconst 0, 1) := by decide +kernel
theorem dX3_maskOfAsked_1 : decode cX3_maskOfAsked 1 = .ok (.istore_n 1, 1) := by decide +kernel
theorem dX3_maskOfAsked_2 : decode cX3_maskOfAsked 2 = .ok (.iconst 0, 1) := by decide +kernel
theorem dX3_maskOfAsked_3 : decode cX3_maskOfAsked 3 = .ok (.istore_n 2, 1) := by decide +kernel
theorem dX3_maskOfAsked_4 : decode cX3_maskOfAsked 4 = .ok (.iload_n 2, 1) := by decide +kernel
theorem dX3_maskOfAsked_5 : decode cX3_maskOfAsked 5 = .ok (.aload_n 0, 1) := by decide +kernel
theorem dX3_maskOfAsked_6 : decode cX3_maskOfAsked 6 = .ok (.getfield 50, 3) := by decide +kernel
theorem dX3_maskOfAsked_9 : decode cX3_maskOfAsked 9 = .ok (.if_icmp .ge 26, 3) := by decide +kernel
theorem dX3_maskOfAsked_12 : decode cX3_maskOfAsked 12 = .ok (.aload_n 0, 1) := by decide +kernel
theorem dX3_maskOfAsked_13 : decode cX3_maskOfAsked 13 = .ok (.iload_n 2, 1) := by decide +kernel
theorem dX3_maskOfAsked_14 : decode cX3_maskOfAsked 14 = .ok (.invokevirtual 53, 3) := by decide +kernel
theorem dX3_maskOfAsked_17 : decode cX3_maskOfAsked 17 = .ok (.invokevirtual 153, 3) := by decide +kernel
theorem dX3_maskOfAsked_20 : decode cX3_maskOfAsked 20 = .ok (.ifCond .eq 9, 3) := by decide +kernel
theorem dX3_maskOfAsked_23 : decode cX3_maskOfAsked 23 = .ok (.iload_n 1, 1) := by decide +kernel
theorem dX3_maskOfAsked_24 : decode cX3_maskOfAsked 24 = .ok (.iconst 1, 1) := by decide +kernel
theorem dX3_maskOfAsked_25 : decode cX3_maskOfAsked 25 = .ok (.iload_n 2, 1) := by decide +kernel
theorem dX3_maskOfAsked_26 : decode cX3_maskOfAsked 26 = .ok (.ishl, 1) := by decide +kernel
theorem dX3_maskOfAsked_27 : decode cX3_maskOfAsked 27 = .ok (.ior, 1) := by decide +kernel
theorem dX3_maskOfAsked_28 : decode cX3_maskOfAsked 28 = .ok (.istore_n 1, 1) := by decide +kernel
theorem dX3_maskOfAsked_29 : decode cX3_maskOfAsked 29 = .ok (.iinc 2 1, 3) := by decide +kernel
theorem dX3_maskOfAsked_32 : decode cX3_maskOfAsked 32 = .ok (.goto (-28), 3) := by decide +kernel
theorem dX3_maskOfAsked_35 : decode cX3_maskOfAsked 35 = .ok (.iload_n 1, 1) := by decide +kernel
theorem dX3_maskOfAsked_36 : decode cX3_maskOfAsked 36 = .ok (.ireturn, 1) := by decide +kernel
theorem dX3_maskOfShutOut_0 : decode cX3_maskOfShutOut 0 = .ok (.iconst 0, 1) := by decide +kernel
theorem dX3_maskOfShutOut_1 : decode cX3_maskOfShutOut 1 = .ok (.istore_n 1, 1) := by decide +kernel
theorem dX3_maskOfShutOut_2 : decode cX3_maskOfShutOut 2 = .ok (.iconst 0, 1) := by decide +kernel
theorem dX3_maskOfShutOut_3 : decode cX3_maskOfShutOut 3 = .ok (.istore_n 2, 1) := by decide +kernel
theorem dX3_maskOfShutOut_4 : decode cX3_maskOfShutOut 4 = .ok (.iload_n 2, 1) := by decide +kernel
theorem dX3_maskOfShutOut_5 : decode cX3_maskOfShutOut 5 = .ok (.aload_n 0, 1) := by decide +kernel
theorem dX3_maskOfShutOut_6 : decode cX3_maskOfShutOut 6 = .ok (.getfield 50, 3) := by decide +kernel
theorem dX3_maskOfShutOut_9 : decode cX3_maskOfShutOut 9 = .ok (.if_icmp .ge 26, 3) := by decide +kernel
theorem dX3_maskOfShutOut_12 : decode cX3_maskOfShutOut 12 = .ok (.aload_n 0, 1) := by decide +kernel
theorem dX3_maskOfShutOut_13 : decode cX3_maskOfShutOut 13 = .ok (.iload_n 2, 1) := by decide +kernel
theorem dX3_maskOfShutOut_14 : decode cX3_maskOfShutOut 14 = .ok (.invokevirtual 53, 3) := by decide +kernel
theorem dX3_maskOfShutOut_17 : decode cX3_maskOfShutOut 17 = .ok (.getfield 166, 3) := by decide +kernel
theorem dX3_maskOfShutOut_20 : decode cX3_maskOfShutOut 20 = .ok (.ifCond .eq 9, 3) := by decide +kernel
theorem dX3_maskOfShutOut_23 : decode cX3_maskOfShutOut 23 = .ok (.iload_n 1, 1) := by decide +kernel
theorem dX3_maskOfShutOut_24 : decode cX3_maskOfShutOut 24 = .ok (.iconst 1, 1) := by decide +kernel
theorem dX3_maskOfShutOut_25 : decode cX3_maskOfShutOut 25 = .ok (.iload_n 2, 1) := by decide +kernel
theorem dX3_maskOfShutOut_26 : decode cX3_maskOfShutOut 26 = .ok (.ishl, 1) := by decide +kernel
theorem dX3_maskOfShutOut_27 : decode cX3_maskOfShutOut 27 = .ok (.ior, 1) := by decide +kernel
theorem dX3_maskOfShutOut_28 : decode cX3_maskOfShutOut 28 = .ok (.istore_n 1, 1) := by decide +kernel
theorem dX3_maskOfShutOut_29 : decode cX3_maskOfShutOut 29 = .ok (.iinc 2 1, 3) := by decide +kernel
theorem dX3_maskOfShutOut_32 : decode cX3_maskOfShutOut 32 = .ok (.goto (-28), 3) := by decide +kernel
theorem dX3_maskOfShutOut_35 : decode cX3_maskOfShutOut 35 = .ok (.iload_n 1, 1) := by decide +kernel
theorem dX3_maskOfShutOut_36 : decode cX3_maskOfShutOut 36 = .ok (.ireturn, 1) := by decide +kernel
theorem dX3_mean_0 : decode cX3_mean 0 = .ok (.iconst 0, 1) := by decide +kernel
theorem dX3_mean_1 : decode cX3_mean 1 = .ok (.istore_n 1, 1) := by decide +kernel
theorem dX3_mean_2 : decode cX3_mean 2 = .ok (.iconst 0, 1) := by decide +kernel
theorem dX3_mean_3 : decode cX3_mean 3 = .ok (.istore_n 2, 1) := by decide +kernel
theorem dX3_mean_4 : decode cX3_mean 4 = .ok (.iconst 0, 1) := by decide +kernel
theorem dX3_mean_5 : decode cX3_mean 5 = .ok (.istore_n 3, 1) := by decide +kernel
theorem dX3_mean_6 : decode cX3_mean 6 = .ok (.iload_n 3, 1) := by decide +kernel
theorem dX3_mean_7 : decode cX3_mean 7 = .ok (.aload_n 0, 1) := by decide +kernel
theorem dX3_mean_8 : decode cX3_mean 8 = .ok (.getfield 50, 3) := by decide +kernel
theorem dX3_mean_11 : decode cX3_mean 11 = .ok (.if_icmp .ge 51, 3) := by decide +kernel
theorem dX3_mean_14 : decode cX3_mean 14 = .ok (.aload_n 0, 1) := by decide +kernel
theorem dX3_mean_15 : decode cX3_mean 15 = .ok (.iload_n 3, 1) := by decide +kernel
theorem dX3_mean_16 : decode cX3_mean 16 = .ok (.invokevirtual 53, 3) := by decide +kernel
theorem dX3_mean_19 : decode cX3_mean 19 = .ok (.invokevirtual 153, 3) := by decide +kernel
theorem dX3_mean_22 : decode cX3_mean 22 = .ok (.ifCond .eq 34, 3) := by decide +kernel
theorem dX3_mean_25 : decode cX3_mean 25 = .ok (.iload_n 1, 1) := by decide +kernel
theorem dX3_mean_26 : decode cX3_mean 26 = .ok (.aload_n 0, 1) := by decide +kernel
theorem dX3_mean_27 : decode cX3_mean 27 = .ok (.iload_n 3, 1) := by decide +kernel
theorem dX3_mean_28 : decode cX3_mean 28 = .ok (.invokevirtual 53, 3) := by decide +kernel
theorem dX3_mean_31 : decode cX3_mean 31 = .ok (.getfield 157, 3) := by decide +kernel
theorem dX3_mean_34 : decode cX3_mean 34 = .ok (.aload_n 0, 1) := by decide +kernel
theorem dX3_mean_35 : decode cX3_mean 35 = .ok (.iload_n 3, 1) := by decide +kernel
theorem dX3_mean_36 : decode cX3_mean 36 = .ok (.invokevirtual 53, 3) := by decide +kernel
theorem dX3_mean_39 : decode cX3_mean 39 = .ok (.getfield 170, 3) := by decide +kernel
theorem dX3_mean_42 : decode cX3_mean 42 = .ok (.imul, 1) := by decide +kernel
theorem dX3_mean_43 : decode cX3_mean 43 = .ok (.iadd, 1) := by decide +kernel
theorem dX3_mean_44 : decode cX3_mean 44 = .ok (.istore_n 1, 1) := by decide +kernel
theorem dX3_mean_45 : decode cX3_mean 45 = .ok (.iload_n 2, 1) := by decide +kernel
theorem dX3_mean_46 : decode cX3_mean 46 = .ok (.aload_n 0, 1) := by decide +kernel
theorem dX3_mean_47 : decode cX3_mean 47 = .ok (.iload_n 3, 1) := by decide +kernel
theorem dX3_mean_48 : decode cX3_mean 48 = .ok (.invokevirtual 53, 3) := by decide +kernel
theorem dX3_mean_51 : decode cX3_mean 51 = .ok (.getfield 170, 3) := by decide +kernel
theorem dX3_mean_54 : decode cX3_mean 54 = .ok (.iadd, 1) := by decide +kernel
theorem dX3_mean_55 : decode cX3_mean 55 = .ok (.istore_n 2, 1) := by decide +kernel
theorem dX3_mean_56 : decode cX3_mean 56 = .ok (.iinc 3 1, 3) := by decide +kernel
theorem dX3_mean_59 : decode cX3_mean 59 = .ok (.goto (-53), 3) := by decide +kernel
theorem dX3_mean_62 : decode cX3_mean 62 = .ok (.iload_n 2, 1) := by decide +kernel
theorem dX3_mean_63 : decode cX3_mean 63 = .ok (.ifCond .ne 8, 3) := by decide +kernel
theorem dX3_mean_66 : decode cX3_mean 66 = .ok (.ldc 36, 2) := by decide +kernel
theorem dX3_mean_68 : decode cX3_mean 68 = .ok (.goto 8, 3) := by decide +kernel
theorem dX3_mean_71 : decode cX3_mean 71 = .ok (.iload_n 1, 1) := by decide +kernel
theorem dX3_mean_72 : decode cX3_mean 72 = .ok (.iload_n 2, 1) := by decide +kernel
theorem dX3_mean_73 : decode cX3_mean 73 = .ok (.invokestatic 173, 3) := by decide +kernel
theorem dX3_mean_76 : decode cX3_mean 76 = .ok (.ireturn, 1) := by decide +kernel
theorem dX3_slope_0 : decode cX3_slope 0 = .ok (.aload_n 0, 1) := by decide +kernel
theorem dX3_slope_1 : decode cX3_slope 1 = .ok (.invokevirtual 104, 3) := by decide +kernel
theorem dX3_slope_4 : decode cX3_slope 4 = .ok (.istore_n 1, 1) := by decide +kernel
theorem dX3_slope_5 : decode cX3_slope 5 = .ok (.iload_n 1, 1) := by decide +kernel
theorem dX3_slope_6 : decode cX3_slope 6 = .ok (.ldc 36, 2) := by decide +kernel
theorem dX3_slope_8 : decode cX3_slope 8 = .ok (.if_icmp .eq 12, 3) := by decide +kernel
theorem dX3_slope_11 : decode cX3_slope 11 = .ok (.aload_n 0, 1) := by decide +kernel
theorem dX3_slope_12 : decode cX3_slope 12 = .ok (.getfield 37, 3) := by decide +kernel
theorem dX3_slope_15 : decode cX3_slope 15 = .ok (.ldc 36, 2) := by decide +kernel
theorem dX3_slope_17 : decode cX3_slope 17 = .ok (.if_icmp .ne 8, 3) := by decide +kernel
theorem dX3_slope_20 : decode cX3_slope 20 = .ok (.ldc 36, 2) := by decide +kernel
theorem dX3_slope_22 : decode cX3_slope 22 = .ok (.goto 9, 3) := by decide +kernel
theorem dX3_slope_25 : decode cX3_slope 25 = .ok (.iload_n 1, 1) := by decide +kernel
theorem dX3_slope_26 : decode cX3_slope 26 = .ok (.aload_n 0, 1) := by decide +kernel
theorem dX3_slope_27 : decode cX3_slope 27 = .ok (.getfield 37, 3) := by decide +kernel
theorem dX3_slope_30 : decode cX3_slope 30 = .ok (.isub, 1) := by decide +kernel
theorem dX3_slope_31 : decode cX3_slope 31 = .ok (.ireturn, 1) := by decide +kernel
theorem dX3_atRank_0 : decode cX3_atRank 0 = .ok (.iconst 0, 1) := by decide +kernel
theorem dX3_atRank_1 : decode cX3_atRank 1 = .ok (.istore_n 3, 1) := by decide +kernel
theorem dX3_atRank_2 : decode cX3_atRank 2 = .ok (.iload_n 3, 1) := by decide +kernel
theorem dX3_atRank_3 : decode cX3_atRank 3 = .ok (.aload_n 0, 1) := by decide +kernel
theorem dX3_atRank_4 : decode cX3_atRank 4 = .ok (.getfield 50, 3) := by decide +kernel
theorem dX3_atRank_7 : decode cX3_atRank 7 = .ok (.if_icmp .ge 32, 3) := by decide +kernel
theorem dX3_atRank_10 : decode cX3_atRank 10 = .ok (.aload_n 0, 1) := by decide +kernel
theorem dX3_atRank_11 : decode cX3_atRank 11 = .ok (.iload_n 3, 1) := by decide +kernel
theorem dX3_atRank_12 : decode cX3_atRank 12 = .ok (.invokevirtual 53, 3) := by decide +kernel
theorem dX3_atRank_15 : decode cX3_atRank 15 = .ok (.invokevirtual 176, 3) := by decide +kernel
theorem dX3_atRank_18 : decode cX3_atRank 18 = .ok (.ifCond .eq 15, 3) := by decide +kernel
theorem dX3_atRank_21 : decode cX3_atRank 21 = .ok (.aload_n 0, 1) := by decide +kernel
theorem dX3_atRank_22 : decode cX3_atRank 22 = .ok (.iload_n 3, 1) := by decide +kernel
theorem dX3_atRank_23 : decode cX3_atRank 23 = .ok (.iload_n 1, 1) := by decide +kernel
theorem dX3_atRank_24 : decode cX3_atRank 24 = .ok (.invokevirtual 179, 3) := by decide +kernel
theorem dX3_atRank_27 : decode cX3_atRank 27 = .ok (.iload_n 2, 1) := by decide +kernel
theorem dX3_atRank_28 : decode cX3_atRank 28 = .ok (.if_icmp .ne 5, 3) := by decide +kernel
theorem dX3_atRank_31 : decode cX3_atRank 31 = .ok (.iload_n 3, 1) := by decide +kernel
theorem dX3_atRank_32 : decode cX3_atRank 32 = .ok (.ireturn, 1) := by decide +kernel
theorem dX3_atRank_33 : decode cX3_atRank 33 = .ok (.iinc 3 1, 3) := by decide +kernel
theorem dX3_atRank_36 : decode cX3_atRank 36 = .ok (.goto (-34), 3) := by decide +kernel
theorem dX3_atRank_39 : decode cX3_atRank 39 = .ok (.ldc 36, 2) := by decide +kernel
theorem dX3_atRank_41 : decode cX3_atRank 41 = .ok (.ireturn, 1) := by decide +kernel
theorem dX3_countAheadOf_0 : decode cX3_countAheadOf 0 = .ok (.aload_n 0, 1) := by decide +kernel
theorem dX3_countAheadOf_1 : decode cX3_countAheadOf 1 = .ok (.iload_n 1, 1) := by decide +kernel
theorem dX3_countAheadOf_2 : decode cX3_countAheadOf 2 = .ok (.iload_n 2, 1) := by decide +kernel
theorem dX3_countAheadOf_3 : decode cX3_countAheadOf 3 = .ok (.invokevirtual 182, 3) := by decide +kernel
theorem dX3_countAheadOf_6 : decode cX3_countAheadOf 6 = .ok (.istore_n 3, 1) := by decide +kernel
theorem dX3_countAheadOf_7 : decode cX3_countAheadOf 7 = .ok (.iconst 0, 1) := by decide +kernel
theorem dX3_countAheadOf_8 : decode cX3_countAheadOf 8 = .ok (.istore 4, 2) := by decide +kernel
theorem dX3_countAheadOf_10 : decode cX3_countAheadOf 10 = .ok (.iconst 0, 1) := by decide +kernel
theorem dX3_countAheadOf_11 : decode cX3_countAheadOf 11 = .ok (.istore 5, 2) := by decide +kernel
theorem dX3_countAheadOf_13 : decode cX3_countAheadOf 13 = .ok (.iload 5, 2) := by decide +kernel
theorem dX3_countAheadOf_15 : decode cX3_countAheadOf 15 = .ok (.aload_n 0, 1) := by decide +kernel
theorem dX3_countAheadOf_16 : decode cX3_countAheadOf 16 = .ok (.getfield 50, 3) := by decide +kernel
theorem dX3_countAheadOf_19 : decode cX3_countAheadOf 19 = .ok (.if_icmp .ge 51, 3) := by decide +kernel
theorem dX3_countAheadOf_22 : decode cX3_countAheadOf 22 = .ok (.aload_n 0, 1) := by decide +kernel
theorem dX3_countAheadOf_23 : decode cX3_countAheadOf 23 = .ok (.iload 5, 2) := by decide +kernel
theorem dX3_countAheadOf_25 : decode cX3_countAheadOf 25 = .ok (.iload_n 2, 1) := by decide +kernel
theorem dX3_countAheadOf_26 : decode cX3_countAheadOf 26 = .ok (.invokevirtual 182, 3) := by decide +kernel
theorem dX3_countAheadOf_29 : decode cX3_countAheadOf 29 = .ok (.istore 6, 2) := by decide +kernel
theorem dX3_countAheadOf_31 : decode cX3_countAheadOf 31 = .ok (.aload_n 0, 1) := by decide +kernel
theorem dX3_countAheadOf_32 : decode cX3_countAheadOf 32 = .ok (.iload 5, 2) := by decide +kernel
theorem dX3_countAheadOf_34 : decode cX3_countAheadOf 34 = .ok (.invokevirtual 53, 3) := by decide +kernel
theorem dX3_countAheadOf_37 : decode cX3_countAheadOf 37 = .ok (.invokevirtual 176, 3) := by decide +kernel
theorem dX3_countAheadOf_40 : decode cX3_countAheadOf 40 = .ok (.ifCond .eq 24, 3) := by decide +kernel
theorem dX3_countAheadOf_43 : decode cX3_countAheadOf 43 = .ok (.iload 6, 2) := by decide +kernel
theorem dX3_countAheadOf_45 : decode cX3_countAheadOf 45 = .ok (.iload_n 3, 1) := by decide +kernel
theorem dX3_countAheadOf_46 : decode cX3_countAheadOf 46 = .ok (.if_icmp .lt 15, 3) := by decide +kernel
theorem dX3_countAheadOf_49 : decode cX3_countAheadOf 49 = .ok (.iload 6, 2) := by decide +kernel
theorem dX3_countAheadOf_51 : decode cX3_countAheadOf 51 = .ok (.iload_n 3, 1) := by decide +kernel
theorem dX3_countAheadOf_52 : decode cX3_countAheadOf 52 = .ok (.if_icmp .ne 12, 3) := by decide +kernel
theorem dX3_countAheadOf_55 : decode cX3_countAheadOf 55 = .ok (.iload 5, 2) := by decide +kernel
theorem dX3_countAheadOf_57 : decode cX3_countAheadOf 57 = .ok (.iload_n 1, 1) := by decide +kernel
theorem dX3_countAheadOf_58 : decode cX3_countAheadOf 58 = .ok (.if_icmp .ge 6, 3) := by decide +kernel
theorem dX3_countAheadOf_61 : decode cX3_countAheadOf 61 = .ok (.iinc 4 1, 3) := by decide +kernel
theorem dX3_countAheadOf_64 : decode cX3_countAheadOf 64 = .ok (.iinc 5 1, 3) := by decide +kernel
theorem dX3_countAheadOf_67 : decode cX3_countAheadOf 67 = .ok (.goto (-54), 3) := by decide +kernel
theorem dX3_countAheadOf_70 : decode cX3_countAheadOf 70 = .ok (.iload 4, 2) := by decide +kernel
theorem dX3_countAheadOf_72 : decode cX3_countAheadOf 72 = .ok (.ireturn, 1) := by decide +kernel
theorem dX3_sortKey_0 : decode cX3_sortKey 0 = .ok (.iload_n 2, 1) := by decide +kernel
theorem dX3_sortKey_1 : decode cX3_sortKey 1 = .ok (.iconst 1, 1) := by decide +kernel
theorem dX3_sortKey_2 : decode cX3_sortKey 2 = .ok (.if_icmp .ne 19, 3) := by decide +kernel
theorem dX3_sortKey_5 : decode cX3_sortKey 5 = .ok (.aload_n 0, 1) := by decide +kernel
theorem dX3_sortKey_6 : decode cX3_sortKey 6 = .ok (.iload_n 1, 1) := by decide +kernel
theorem dX3_sortKey_7 : decode cX3_sortKey 7 = .ok (.invokevirtual 53, 3) := by decide +kernel
theorem dX3_sortKey_10 : decode cX3_sortKey 10 = .ok (.aload_n 0, 1) := by decide +kernel
theorem dX3_sortKey_11 : decode cX3_sortKey 11 = .ok (.getfield 41, 3) := by decide +kernel
theorem dX3_sortKey_14 : decode cX3_sortKey 14 = .ok (.invokevirtual 185, 3) := by decide +kernel
theorem dX3_sortKey_17 : decode cX3_sortKey 17 = .ok (.ineg, 1) := by decide +kernel
theorem dX3_sortKey_18 : decode cX3_sortKey 18 = .ok (.goto 11, 3) := by decide +kernel
theorem dX3_sortKey_21 : decode cX3_sortKey 21 = .ok (.aload_n 0, 1) := by decide +kernel
theorem dX3_sortKey_22 : decode cX3_sortKey 22 = .ok (.iload_n 1, 1) := by decide +kernel
theorem dX3_sortKey_23 : decode cX3_sortKey 23 = .ok (.invokevirtual 53, 3) := by decide +kernel
theorem dX3_sortKey_26 : decode cX3_sortKey 26 = .ok (.getfield 157, 3) := by decide +kernel
theorem dX3_sortKey_29 : decode cX3_sortKey 29 = .ok (.ireturn, 1) := by decide +kernel
theorem dX3_countMended_0 : decode cX3_countMended 0 = .ok (.iconst 0, 1) := by decide +kernel
theorem dX3_countMended_1 : decode cX3_countMended 1 = .ok (.istore_n 3, 1) := by decide +kernel
theorem dX3_countMended_2 : decode cX3_countMended 2 = .ok (.iconst 0, 1) := by decide +kernel
theorem dX3_countMended_3 : decode cX3_countMended 3 = .ok (.istore 4, 2) := by decide +kernel
theorem dX3_countMended_5 : decode cX3_countMended 5 = .ok (.iload 4, 2) := by decide +kernel
theorem dX3_countMended_7 : decode cX3_countMended 7 = .ok (.aload_n 0, 1) := by decide +kernel
theorem dX3_countMended_8 : decode cX3_countMended 8 = .ok (.getfield 50, 3) := by decide +kernel
theorem dX3_countMended_11 : decode cX3_countMended 11 = .ok (.if_icmp .ge 50, 3) := by decide +kernel
theorem dX3_countMended_14 : decode cX3_countMended 14 = .ok (.aload_n 0, 1) := by decide +kernel
theorem dX3_countMended_15 : decode cX3_countMended 15 = .ok (.iload 4, 2) := by decide +kernel
theorem dX3_countMended_17 : decode cX3_countMended 17 = .ok (.invokevirtual 53, 3) := by decide +kernel
theorem dX3_countMended_20 : decode cX3_countMended 20 = .ok (.invokevirtual 176, 3) := by decide +kernel
theorem dX3_countMended_23 : decode cX3_countMended 23 = .ok (.ifCond .eq 32, 3) := by decide +kernel
theorem dX3_countMended_26 : decode cX3_countMended 26 = .ok (.aload_n 0, 1) := by decide +kernel
theorem dX3_countMended_27 : decode cX3_countMended 27 = .ok (.iload 4, 2) := by decide +kernel
theorem dX3_countMended_29 : decode cX3_countMended 29 = .ok (.invokevirtual 53, 3) := by decide +kernel
theorem dX3_countMended_32 : decode cX3_countMended 32 = .ok (.getfield 157, 3) := by decide +kernel
theorem dX3_countMended_35 : decode cX3_countMended 35 = .ok (.iload_n 1, 1) := by decide +kernel
theorem dX3_countMended_36 : decode cX3_countMended 36 = .ok (.if_icmp .lt 19, 3) := by decide +kernel
theorem dX3_countMended_39 : decode cX3_countMended 39 = .ok (.aload_n 0, 1) := by decide +kernel
theorem dX3_countMended_40 : decode cX3_countMended 40 = .ok (.iload 4, 2) := by decide +kernel
theorem dX3_countMended_42 : decode cX3_countMended 42 = .ok (.invokevirtual 53, 3) := by decide +kernel
theorem dX3_countMended_45 : decode cX3_countMended 45 = .ok (.getfield 157, 3) := by decide +kernel
theorem dX3_countMended_48 : decode cX3_countMended 48 = .ok (.iload_n 2, 1) := by decide +kernel
theorem dX3_countMended_49 : decode cX3_countMended 49 = .ok (.if_icmp .gt 6, 3) := by decide +kernel
theorem dX3_countMended_52 : decode cX3_countMended 52 = .ok (.iinc 3 1, 3) := by decide +kernel
theorem dX3_countMended_55 : decode cX3_countMended 55 = .ok (.iinc 4 1, 3) := by decide +kernel
theorem dX3_countMended_58 : decode cX3_countMended 58 = .ok (.goto (-53), 3) := by decide +kernel
theorem dX3_countMended_61 : decode cX3_countMended 61 = .ok (.iload_n 3, 1) := by decide +kernel
theorem dX3_countMended_62 : decode cX3_countMended 62 = .ok (.ireturn, 1) := by decide +kernel
theorem dX3_sumOfErrors_0 : decode cX3_sumOfErrors 0 = .ok (.iconst 0, 1) := by decide +kernel
theorem dX3_sumOfErrors_1 : decode cX3_sumOfErrors 1 = .ok (.istore_n 1, 1) := by decide +kernel
theorem dX3_sumOfErrors_2 : decode cX3_sumOfErrors 2 = .ok (.iconst 0, 1) := by decide +kernel
theorem dX3_sumOfErrors_3 : decode cX3_sumOfErrors 3 = .ok (.istore_n 2, 1) := by decide +kernel
theorem dX3_sumOfErrors_4 : decode cX3_sumOfErrors 4 = .ok (.iload_n 2, 1) := by decide +kernel
theorem dX3_sumOfErrors_5 : decode cX3_sumOfErrors 5 = .ok (.aload_n 0, 1) := by decide +kernel
theorem dX3_sumOfErrors_6 : decode cX3_sumOfErrors 6 = .ok (.getfield 50, 3) := by decide +kernel
theorem dX3_sumOfErrors_9 : decode cX3_sumOfErrors 9 = .ok (.if_icmp .ge 35, 3) := by decide +kernel
theorem dX3_sumOfErrors_12 : decode cX3_sumOfErrors 12 = .ok (.aload_n 0, 1) := by decide +kernel
theorem dX3_sumOfErrors_13 : decode cX3_sumOfErrors 13 = .ok (.iload_n 2, 1) := by decide +kernel
theorem dX3_sumOfErrors_14 : decode cX3_sumOfErrors 14 = .ok (.invokevirtual 53, 3) := by decide +kernel
theorem dX3_sumOfErrors_17 : decode cX3_sumOfErrors 17 = .ok (.invokevirtual 176, 3) := by decide +kernel
theorem dX3_sumOfErrors_20 : decode cX3_sumOfErrors 20 = .ok (.ifCond .eq 18, 3) := by decide +kernel
theorem dX3_sumOfErrors_23 : decode cX3_sumOfErrors 23 = .ok (.iload_n 1, 1) := by decide +kernel
theorem dX3_sumOfErrors_24 : decode cX3_sumOfErrors 24 = .ok (.aload_n 0, 1) := by decide +kernel
theorem dX3_sumOfErrors_25 : decode cX3_sumOfErrors 25 = .ok (.iload_n 2, 1) := by decide +kernel
theorem dX3_sumOfErrors_26 : decode cX3_sumOfErrors 26 = .ok (.invokevirtual 53, 3) := by decide +kernel
theorem dX3_sumOfErrors_29 : decode cX3_sumOfErrors 29 = .ok (.aload_n 0, 1) := by decide +kernel
theorem dX3_sumOfErrors_30 : decode cX3_sumOfErrors 30 = .ok (.getfield 41, 3) := by decide +kernel
theorem dX3_sumOfErrors_33 : decode cX3_sumOfErrors 33 = .ok (.invokevirtual 185, 3) := by decide +kernel
theorem dX3_sumOfErrors_36 : decode cX3_sumOfErrors 36 = .ok (.iadd, 1) := by decide +kernel
theorem dX3_sumOfErrors_37 : decode cX3_sumOfErrors 37 = .ok (.istore_n 1, 1) := by decide +kernel
theorem dX3_sumOfErrors_38 : decode cX3_sumOfErrors 38 = .ok (.iinc 2 1, 3) := by decide +kernel
theorem dX3_sumOfErrors_41 : decode cX3_sumOfErrors 41 = .ok (.goto (-37), 3) := by decide +kernel
theorem dX3_sumOfErrors_44 : decode cX3_sumOfErrors 44 = .ok (.iload_n 1, 1) := by decide +kernel
theorem dX3_sumOfErrors_45 : decode cX3_sumOfErrors 45 = .ok (.ireturn, 1) := by decide +kernel
theorem dX3_greatestDistance_0 : decode cX3_greatestDistance 0 = .ok (.iconst 0, 1) := by decide +kernel
theorem dX3_greatestDistance_1 : decode cX3_greatestDistance 1 = .ok (.istore_n 1, 1) := by decide +kernel
theorem dX3_greatestDistance_2 : decode cX3_greatestDistance 2 = .ok (.iconst 0, 1) := by decide +kernel
theorem dX3_greatestDistance_3 : decode cX3_greatestDistance 3 = .ok (.istore_n 2, 1) := by decide +kernel
theorem dX3_greatestDistance_4 : decode cX3_greatestDistance 4 = .ok (.iload_n 2, 1) := by decide +kernel
theorem dX3_greatestDistance_5 : decode cX3_greatestDistance 5 = .ok (.aload_n 0, 1) := by decide +kernel
theorem dX3_greatestDistance_6 : decode cX3_greatestDistance 6 = .ok (.getfield 50, 3) := by decide +kernel
theorem dX3_greatestDistance_9 : decode cX3_greatestDistance 9 = .ok (.if_icmp .ge 26, 3) := by decide +kernel
theorem dX3_greatestDistance_12 : decode cX3_greatestDistance 12 = .ok (.iload_n 1, 1) := by decide +kernel
theorem dX3_greatestDistance_13 : decode cX3_greatestDistance 13 = .ok (.aload_n 0, 1) := by decide +kernel
theorem dX3_greatestDistance_14 : decode cX3_greatestDistance 14 = .ok (.iload_n 2, 1) := by decide +kernel
theorem dX3_greatestDistance_15 : decode cX3_greatestDistance 15 = .ok (.invokevirtual 53, 3) := by decide +kernel
theorem dX3_greatestDistance_18 : decode cX3_greatestDistance 18 = .ok (.aload_n 0, 1) := by decide +kernel
theorem dX3_greatestDistance_19 : decode cX3_greatestDistance 19 = .ok (.getfield 41, 3) := by decide +kernel
theorem dX3_greatestDistance_22 : decode cX3_greatestDistance 22 = .ok (.invokevirtual 188, 3) := by decide +kernel
theorem dX3_greatestDistance_25 : decode cX3_greatestDistance 25 = .ok (.invokestatic 98, 3) := by decide +kernel
theorem dX3_greatestDistance_28 : decode cX3_greatestDistance 28 = .ok (.istore_n 1, 1) := by decide +kernel
theorem dX3_greatestDistance_29 : decode cX3_greatestDistance 29 = .ok (.iinc 2 1, 3) := by decide +kernel
theorem dX3_greatestDistance_32 : decode cX3_greatestDistance 32 = .ok (.goto (-28), 3) := by decide +kernel
theorem dX3_greatestDistance_35 : decode cX3_greatestDistance 35 = .ok (.iload_n 1, 1) := by decide +kernel
theorem dX3_greatestDistance_36 : decode cX3_greatestDistance 36 = .ok (.ireturn, 1) := by decide +kernel
theorem dX4_init_0 : decode cX4_init 0 = .ok (.aload_n 0, 1) := by decide +kernel
theorem dX4_init_1 : decode cX4_init 1 = .ok (.invokespecial 1, 3) := by decide +kernel
theorem dX4_init_4 : decode cX4_init 4 = .ok (.aload_n 0, 1) := by decide +kernel
theorem dX4_init_5 : decode cX4_init 5 = .ok (.new 7, 3) := by decide +kernel
theorem dX4_init_8 : decode cX4_init 8 = .ok (.dup, 1) := by decide +kernel
theorem dX4_init_9 : decode cX4_init 9 = .ok (.invokespecial 9, 3) := by decide +kernel
theorem dX4_init_12 : decode cX4_init 12 = .ok (.putfield 10, 3) := by decide +kernel
theorem dX4_init_15 : decode cX4_init 15 = .ok (.return_, 1) := by decide +kernel
theorem dX4_take_0 : decode cX4_take 0 = .ok (.aload_n 0, 1) := by decide +kernel
theorem dX4_take_1 : decode cX4_take 1 = .ok (.getfield 10, 3) := by decide +kernel
theorem dX4_take_4 : decode cX4_take 4 = .ok (.aload_n 1, 1) := by decide +kernel
theorem dX4_take_5 : decode cX4_take 5 = .ok (.invokevirtual 16, 3) := by decide +kernel
theorem dX4_take_8 : decode cX4_take 8 = .ok (.aload_n 0, 1) := by decide +kernel
theorem dX4_take_9 : decode cX4_take 9 = .ok (.iconst 1, 1) := by decide +kernel
theorem dX4_take_10 : decode cX4_take 10 = .ok (.putfield 20, 3) := by decide +kernel
theorem dX4_take_13 : decode cX4_take 13 = .ok (.return_, 1) := by decide +kernel
theorem dX5_init_0 : decode cX5_init 0 = .ok (.aload_n 0, 1) := by decide +kernel
theorem dX5_init_1 : decode cX5_init 1 = .ok (.invokespecial 3, 3) := by decide +kernel
theorem dX5_init_4 : decode cX5_init 4 = .ok (.aload_n 0, 1) := by decide +kernel
theorem dX5_init_5 : decode cX5_init 5 = .ok (.bipush 6, 2) := by decide +kernel
theorem dX5_init_7 : decode cX5_init 7 = .ok (.newarray .int, 2) := by decide +kernel
theorem dX5_init_9 : decode cX5_init 9 = .ok (.putfield 9, 3) := by decide +kernel
theorem dX5_init_12 : decode cX5_init 12 = .ok (.aload_n 0, 1) := by decide +kernel
theorem dX5_init_13 : decode cX5_init 13 = .ok (.bipush 6, 2) := by decide +kernel
theorem dX5_init_15 : decode cX5_init 15 = .ok (.newarray .int, 2) := by decide +kernel
theorem dX5_init_17 : decode cX5_init 17 = .ok (.putfield 15, 3) := by decide +kernel
theorem dX5_init_20 : decode cX5_init 20 = .ok (.aload_n 0, 1) := by decide +kernel
theorem dX5_init_21 : decode cX5_init 21 = .ok (.iconst 1, 1) := by decide +kernel
theorem dX5_init_22 : decode cX5_init 22 = .ok (.putfield 18, 3) := by decide +kernel
theorem dX5_init_25 : decode cX5_init 25 = .ok (.aload_n 0, 1) := by decide +kernel
theorem dX5_init_26 : decode cX5_init 26 = .ok (.iconst 1, 1) := by decide +kernel
theorem dX5_init_27 : decode cX5_init 27 = .ok (.putfield 22, 3) := by decide +kernel
theorem dX5_init_30 : decode cX5_init 30 = .ok (.aload_n 0, 1) := by decide +kernel
theorem dX5_init_31 : decode cX5_init 31 = .ok (.ldc 25, 2) := by decide +kernel
theorem dX5_init_33 : decode cX5_init 33 = .ok (.putfield 26, 3) := by decide +kernel
theorem dX5_init_36 : decode cX5_init 36 = .ok (.return_, 1) := by decide +kernel
theorem dX5_begin_0 : decode cX5_begin 0 = .ok (.aload_n 0, 1) := by decide +kernel
theorem dX5_begin_1 : decode cX5_begin 1 = .ok (.iload_n 1, 1) := by decide +kernel
theorem dX5_begin_2 : decode cX5_begin 2 = .ok (.putfield 29, 3) := by decide +kernel
theorem dX5_begin_5 : decode cX5_begin 5 = .ok (.aload_n 0, 1) := by decide +kernel
theorem dX5_begin_6 : decode cX5_begin 6 = .ok (.iload_n 2, 1) := by decide +kernel
theorem dX5_begin_7 : decode cX5_begin 7 = .ok (.putfield 18, 3) := by decide +kernel
theorem dX5_begin_10 : decode cX5_begin 10 = .ok (.aload_n 0, 1) := by decide +kernel
theorem dX5_begin_11 : decode cX5_begin 11 = .ok (.iload_n 3, 1) := by decide +kernel
theorem dX5_begin_12 : decode cX5_begin 12 = .ok (.putfield 32, 3) := by decide +kernel
theorem dX5_begin_15 : decode cX5_begin 15 = .ok (.aload_n 0, 1) := by decide +kernel
theorem dX5_begin_16 : decode cX5_begin 16 = .ok (.iload 4, 2) := by decide +kernel
theorem dX5_begin_18 : decode cX5_begin 18 = .ok (.putfield 22, 3) := by decide +kernel
theorem dX5_begin_21 : decode cX5_begin 21 = .ok (.aload_n 0, 1) := by decide +kernel
theorem dX5_begin_22 : decode cX5_begin 22 = .ok (.iconst 0, 1) := by decide +kernel
theorem dX5_begin_23 : decode cX5_begin 23 = .ok (.putfield 35, 3) := by decide +kernel
theorem dX5_begin_26 : decode cX5_begin 26 = .ok (.aload_n 0, 1) := by decide +kernel
theorem dX5_begin_27 : decode cX5_begin 27 = .ok (.iload 5, 2) := by decide +kernel
theorem dX5_begin_29 : decode cX5_begin 29 = .ok (.invokevirtual 38, 3) := by decide +kernel
theorem dX5_begin_32 : decode cX5_begin 32 = .ok (.return_, 1) := by decide +kernel
theorem dX5_startAfresh_0 : decode cX5_startAfresh 0 = .ok (.aload_n 0, 1) := by decide +kernel
theorem dX5_startAfresh_1 : decode cX5_startAfresh 1 = .ok (.iload_n 1, 1) := by decide +kernel
theorem dX5_startAfresh_2 : decode cX5_startAfresh 2 = .ok (.aload_n 0, 1) := by decide +kernel
theorem dX5_startAfresh_3 : decode cX5_startAfresh 3 = .ok (.getfield 32, 3) := by decide +kernel
theorem dX5_startAfresh_6 : decode cX5_startAfresh 6 = .ok (.iadd, 1) := by decide +kernel
theorem dX5_startAfresh_7 : decode cX5_startAfresh 7 = .ok (.putfield 42, 3) := by decide +kernel
theorem dX5_startAfresh_10 : decode cX5_startAfresh 10 = .ok (.aload_n 0, 1) := by decide +kernel
theorem dX5_startAfresh_11 : decode cX5_startAfresh 11 = .ok (.iconst 0, 1) := by decide +kernel
theorem dX5_startAfresh_12 : decode cX5_startAfresh 12 = .ok (.putfield 45, 3) := by decide +kernel
theorem dX5_startAfresh_15 : decode cX5_startAfresh 15 = .ok (.aload_n 0, 1) := by decide +kernel
theorem dX5_startAfresh_16 : decode cX5_startAfresh 16 = .ok (.ldc 25, 2) := by decide +kernel
theorem dX5_startAfresh_18 : decode cX5_startAfresh 18 = .ok (.putfield 26, 3) := by decide +kernel
theorem dX5_startAfresh_21 : decode cX5_startAfresh 21 = .ok (.aload_n 0, 1) := by decide +kernel
theorem dX5_startAfresh_22 : decode cX5_startAfresh 22 = .ok (.iconst 0, 1) := by decide +kernel
theorem dX5_startAfresh_23 : decode cX5_startAfresh 23 = .ok (.putfield 48, 3) := by decide +kernel
theorem dX5_startAfresh_26 : decode cX5_startAfresh 26 = .ok (.aload_n 0, 1) := by decide +kernel
theorem dX5_startAfresh_27 : decode cX5_startAfresh 27 = .ok (.iconst 0, 1) := by decide +kernel
theorem dX5_startAfresh_28 : decode cX5_startAfresh 28 = .ok (.putfield 51, 3) := by decide +kernel
theorem dX5_startAfresh_31 : decode cX5_startAfresh 31 = .ok (.return_, 1) := by decide +kernel
theorem dX5_copyFrom_0 : decode cX5_copyFrom 0 = .ok (.aload_n 0, 1) := by decide +kernel
theorem dX5_copyFrom_1 : decode cX5_copyFrom 1 = .ok (.getfield 9, 3) := by decide +kernel
theorem dX5_copyFrom_4 : decode cX5_copyFrom 4 = .ok (.aload_n 1, 1) := by decide +kernel
theorem dX5_copyFrom_5 : decode cX5_copyFrom 5 = .ok (.getfield 9, 3) := by decide +kernel
theorem dX5_copyFrom_8 : decode cX5_copyFrom 8 = .ok (.invokestatic 55, 3) := by decide +kernel
theorem dX5_copyFrom_11 : decode cX5_copyFrom 11 = .ok (.aload_n 0, 1) := by decide +kernel
theorem dX5_copyFrom_12 : decode cX5_copyFrom 12 = .ok (.getfield 15, 3) := by decide +kernel
theorem dX5_copyFrom_15 : decode cX5_copyFrom 15 = .ok (.aload_n 1, 1) := by decide +kernel
theorem dX5_copyFrom_16 : decode cX5_copyFrom 16 = .ok (.getfield 15, 3) := by decide +kernel
theorem dX5_copyFrom_19 : decode cX5_copyFrom 19 = .ok (.invokestatic 55, 3) := by decide +kernel
theorem dX5_copyFrom_22 : decode cX5_copyFrom 22 = .ok (.aload_n 0, 1) := by decide +kernel
theorem dX5_copyFrom_23 : decode cX5_copyFrom 23 = .ok (.aload_n 1, 1) := by decide +kernel
theorem dX5_copyFrom_24 : decode cX5_copyFrom 24 = .ok (.getfield 45, 3) := by decide +kernel
theorem dX5_copyFrom_27 : decode cX5_copyFrom 27 = .ok (.putfield 45, 3) := by decide +kernel
theorem dX5_copyFrom_30 : decode cX5_copyFrom 30 = .ok (.aload_n 0, 1) := by decide +kernel
theorem dX5_copyFrom_31 : decode cX5_copyFrom 31 = .ok (.aload_n 1, 1) := by decide +kernel
theorem dX5_copyFrom_32 : decode cX5_copyFrom 32 = .ok (.getfield 18, 3) := by decide +kernel
theorem dX5_copyFrom_35 : decode cX5_copyFrom 35 = .ok (.putfield 18, 3) := by decide +kernel
theorem dX5_copyFrom_38 : decode cX5_copyFrom 38 = .ok (.aload_n 0, 1) := by decide +kernel
theorem dX5_copyFrom_39 : decode cX5_copyFrom 39 = .ok (.aload_n 1, 1) := by decide +kernel
theorem dX5_copyFrom_40 : decode cX5_copyFrom 40 = .ok (.getfield 32, 3) := by decide +kernel
theorem dX5_copyFrom_43 : decode cX5_copyFrom 43 = .ok (.putfield 32, 3) := by decide +kernel
theorem dX5_copyFrom_46 : decode cX5_copyFrom 46 = .ok (.aload_n 0, 1) := by decide +kernel
theorem dX5_copyFrom_47 : decode cX5_copyFrom 47 = .ok (.aload_n 1, 1) := by decide +kernel
theorem dX5_copyFrom_48 : decode cX5_copyFrom 48 = .ok (.getfield 51, 3) := by decide +kernel
theorem dX5_copyFrom_51 : decode cX5_copyFrom 51 = .ok (.putfield 51, 3) := by decide +kernel
theorem dX5_copyFrom_54 : decode cX5_copyFrom 54 = .ok (.aload_n 0, 1) := by decide +kernel
theorem dX5_copyFrom_55 : decode cX5_copyFrom 55 = .ok (.aload_n 1, 1) := by decide +kernel
theorem dX5_copyFrom_56 : decode cX5_copyFrom 56 = .ok (.getfield 29, 3) := by decide +kernel
theorem dX5_copyFrom_59 : decode cX5_copyFrom 59 = .ok (.putfield 29, 3) := by decide +kernel
theorem dX5_copyFrom_62 : decode cX5_copyFrom 62 = .ok (.aload_n 0, 1) := by decide +kernel
theorem dX5_copyFrom_63 : decode cX5_copyFrom 63 = .ok (.aload_n 1, 1) := by decide +kernel
theorem dX5_copyFrom_64 : decode cX5_copyFrom 64 = .ok (.getfield 22, 3) := by decide +kernel
theorem dX5_copyFrom_67 : decode cX5_copyFrom 67 = .ok (.putfield 22, 3) := by decide +kernel
theorem dX5_copyFrom_70 : decode cX5_copyFrom 70 = .ok (.aload_n 0, 1) := by decide +kernel
theorem dX5_copyFrom_71 : decode cX5_copyFrom 71 = .ok (.aload_n 1, 1) := by decide +kernel
theorem dX5_copyFrom_72 : decode cX5_copyFrom 72 = .ok (.getfield 42, 3) := by decide +kernel
theorem dX5_copyFrom_75 : decode cX5_copyFrom 75 = .ok (.putfield 42, 3) := by decide +kernel
theorem dX5_copyFrom_78 : decode cX5_copyFrom 78 = .ok (.aload_n 0, 1) := by decide +kernel
theorem dX5_copyFrom_79 : decode cX5_copyFrom 79 = .ok (.aload_n 1, 1) := by decide +kernel
theorem dX5_copyFrom_80 : decode cX5_copyFrom 80 = .ok (.getfield 48, 3) := by decide +kernel
theorem dX5_copyFrom_83 : decode cX5_copyFrom 83 = .ok (.putfield 48, 3) := by decide +kernel
theorem dX5_copyFrom_86 : decode cX5_copyFrom 86 = .ok (.aload_n 0, 1) := by decide +kernel
theorem dX5_copyFrom_87 : decode cX5_copyFrom 87 = .ok (.aload_n 1, 1) := by decide +kernel
theorem dX5_copyFrom_88 : decode cX5_copyFrom 88 = .ok (.getfield 35, 3) := by decide +kernel
theorem dX5_copyFrom_91 : decode cX5_copyFrom 91 = .ok (.putfield 35, 3) := by decide +kernel
theorem dX5_copyFrom_94 : decode cX5_copyFrom 94 = .ok (.aload_n 0, 1) := by decide +kernel
theorem dX5_copyFrom_95 : decode cX5_copyFrom 95 = .ok (.aload_n 1, 1) := by decide +kernel
theorem dX5_copyFrom_96 : decode cX5_copyFrom 96 = .ok (.getfield 26, 3) := by decide +kernel
theorem dX5_copyFrom_99 : decode cX5_copyFrom 99 = .ok (.putfield 26, 3) := by decide +kernel
theorem dX5_copyFrom_102 : decode cX5_copyFrom 102 = .ok (.return_, 1) := by decide +kernel
theorem dX5_follow_0 : decode cX5_follow 0 = .ok (.aload_n 0, 1) := by decide +kernel
theorem dX5_follow_1 : decode cX5_follow 1 = .ok (.dup, 1) := by decide +kernel
theorem dX5_follow_2 : decode cX5_follow 2 = .ok (.getfield 42, 3) := by decide +kernel
theorem dX5_follow_5 : decode cX5_follow 5 = .ok (.aload_n 0, 1) := by decide +kernel
theorem dX5_follow_6 : decode cX5_follow 6 = .ok (.aload_n 0, 1) := by decide +kernel
theorem dX5_follow_7 : decode cX5_follow 7 = .ok (.getfield 42, 3) := by decide +kernel
theorem dX5_follow_10 : decode cX5_follow 10 = .ok (.iload_n 1, 1) := by decide +kernel
theorem dX5_follow_11 : decode cX5_follow 11 = .ok (.invokevirtual 59, 3) := by decide +kernel
theorem dX5_follow_14 : decode cX5_follow 14 = .ok (.iadd, 1) := by decide +kernel
theorem dX5_follow_15 : decode cX5_follow 15 = .ok (.putfield 42, 3) := by decide +kernel
theorem dX5_follow_18 : decode cX5_follow 18 = .ok (.return_, 1) := by decide +kernel
theorem dX5_stepFrom_0 : decode cX5_stepFrom 0 = .ok (.iload_n 2, 1) := by decide +kernel
theorem dX5_stepFrom_1 : decode cX5_stepFrom 1 = .ok (.aload_n 0, 1) := by decide +kernel
theorem dX5_stepFrom_2 : decode cX5_stepFrom 2 = .ok (.getfield 32, 3) := by decide +kernel
theorem dX5_stepFrom_5 : decode cX5_stepFrom 5 = .ok (.iadd, 1) := by decide +kernel
theorem dX5_stepFrom_6 : decode cX5_stepFrom 6 = .ok (.iload_n 1, 1) := by decide +kernel
theorem dX5_stepFrom_7 : decode cX5_stepFrom 7 = .ok (.isub, 1) := by decide +kernel
theorem dX5_stepFrom_8 : decode cX5_stepFrom 8 = .ok (.aload_n 0, 1) := by decide +kernel
theorem dX5_stepFrom_9 : decode cX5_stepFrom 9 = .ok (.getfield 18, 3) := by decide +kernel
theorem dX5_stepFrom_12 : decode cX5_stepFrom 12 = .ok (.invokestatic 63, 3) := by decide +kernel
theorem dX5_stepFrom_15 : decode cX5_stepFrom 15 = .ok (.ireturn, 1) := by decide +kernel
theorem dX5_hoursUntilStill_0 : decode cX5_hoursUntilStill 0 = .ok (.aload_n 0, 1) := by decide +kernel
theorem dX5_hoursUntilStill_1 : decode cX5_hoursUntilStill 1 = .ok (.getfield 42, 3) := by decide +kernel
theorem dX5_hoursUntilStill_4 : decode cX5_hoursUntilStill 4 = .ok (.istore_n 2, 1) := by decide +kernel
theorem dX5_hoursUntilStill_5 : decode cX5_hoursUntilStill 5 = .ok (.iconst 0, 1) := by decide +kernel
theorem dX5_hoursUntilStill_6 : decode cX5_hoursUntilStill 6 = .ok (.istore_n 3, 1) := by decide +kernel
theorem dX5_hoursUntilStill_7 : decode cX5_hoursUntilStill 7 = .ok (.iload_n 3, 1) := by decide +kernel
theorem dX5_hoursUntilStill_8 : decode cX5_hoursUntilStill 8 = .ok (.ldc 66, 2) := by decide +kernel
theorem dX5_hoursUntilStill_10 : decode cX5_hoursUntilStill 10 = .ok (.if_icmp .ge 29, 3) := by decide +kernel
theorem dX5_hoursUntilStill_13 : decode cX5_hoursUntilStill 13 = .ok (.aload_n 0, 1) := by decide +kernel
theorem dX5_hoursUntilStill_14 : decode cX5_hoursUntilStill 14 = .ok (.iload_n 2, 1) := by decide +kernel
theorem dX5_hoursUntilStill_15 : decode cX5_hoursUntilStill 15 = .ok (.iload_n 1, 1) := by decide +kernel
theorem dX5_hoursUntilStill_16 : decode cX5_hoursUntilStill 16 = .ok (.invokevirtual 59, 3) := by decide +kernel
theorem dX5_hoursUntilStill_19 : decode cX5_hoursUntilStill 19 = .ok (.istore 4, 2) := by decide +kernel
theorem dX5_hoursUntilStill_21 : decode cX5_hoursUntilStill 21 = .ok (.iload 4, 2) := by decide +kernel
theorem dX5_hoursUntilStill_23 : decode cX5_hoursUntilStill 23 = .ok (.ifCond .ne 5, 3) := by decide +kernel
theorem dX5_hoursUntilStill_26 : decode cX5_hoursUntilStill 26 = .ok (.iload_n 3, 1) := by decide +kernel
theorem dX5_hoursUntilStill_27 : decode cX5_hoursUntilStill 27 = .ok (.ireturn, 1) := by decide +kernel
theorem dX5_hoursUntilStill_28 : decode cX5_hoursUntilStill 28 = .ok (.iload_n 2, 1) := by decide +kernel
theorem dX5_hoursUntilStill_29 : decode cX5_hoursUntilStill 29 = .ok (.iload 4, 2) := by decide +kernel
theorem dX5_hoursUntilStill_31 : decode cX5_hoursUntilStill 31 = .ok (.iadd, 1) := by decide +kernel
theorem dX5_hoursUntilStill_32 : decode cX5_hoursUntilStill 32 = .ok (.istore_n 2, 1) := by decide +kernel
theorem dX5_hoursUntilStill_33 : decode cX5_hoursUntilStill 33 = .ok (.iinc 3 1, 3) := by decide +kernel
theorem dX5_hoursUntilStill_36 : decode cX5_hoursUntilStill 36 = .ok (.goto (-29), 3) := by decide +kernel
theorem dX5_hoursUntilStill_39 : decode cX5_hoursUntilStill 39 = .ok (.ldc 66, 2) := by decide +kernel
theorem dX5_hoursUntilStill_41 : decode cX5_hoursUntilStill 41 = .ok (.ireturn, 1) := by decide +kernel
theorem dX5_takeReading_0 : decode cX5_takeReading 0 = .ok (.aload_n 0, 1) := by decide +kernel
theorem dX5_takeReading_1 : decode cX5_takeReading 1 = .ok (.getfield 9, 3) := by decide +kernel
theorem dX5_takeReading_4 : decode cX5_takeReading 4 = .ok (.iload_n 1, 1) := by decide +kernel
theorem dX5_takeReading_5 : decode cX5_takeReading 5 = .ok (.invokestatic 67, 3) := by decide +kernel
theorem dX5_takeReading_8 : decode cX5_takeReading 8 = .ok (.aload_n 0, 1) := by decide +kernel
theorem dX5_takeReading_9 : decode cX5_takeReading 9 = .ok (.getfield 15, 3) := by decide +kernel
theorem dX5_takeReading_12 : decode cX5_takeReading 12 = .ok (.aload_n 0, 1) := by decide +kernel
theorem dX5_takeReading_13 : decode cX5_takeReading 13 = .ok (.getfield 42, 3) := by decide +kernel
theorem dX5_takeReading_16 : decode cX5_takeReading 16 = .ok (.invokestatic 67, 3) := by decide +kernel
theorem dX5_takeReading_19 : decode cX5_takeReading 19 = .ok (.aload_n 0, 1) := by decide +kernel
theorem dX5_takeReading_20 : decode cX5_takeReading 20 = .ok (.aload_n 0, 1) := by decide +kernel
theorem dX5_takeReading_21 : decode cX5_takeReading 21 = .ok (.getfield 45, 3) := by decide +kernel
theorem dX5_takeReading_24 : decode cX5_takeReading 24 = .ok (.iconst 1, 1) := by decide +kernel
theorem dX5_takeReading_25 : decode cX5_takeReading 25 = .ok (.iadd, 1) := by decide +kernel
theorem dX5_takeReading_26 : decode cX5_takeReading 26 = .ok (.bipush 6, 2) := by decide +kernel
theorem dX5_takeReading_28 : decode cX5_takeReading 28 = .ok (.invokestatic 71, 3) := by decide +kernel
theorem dX5_takeReading_31 : decode cX5_takeReading 31 = .ok (.putfield 45, 3) := by decide +kernel
theorem dX5_takeReading_34 : decode cX5_takeReading 34 = .ok (.aload_n 0, 1) := by decide +kernel
theorem dX5_takeReading_35 : decode cX5_takeReading 35 = .ok (.aload_n 0, 1) := by decide +kernel
theorem dX5_takeReading_36 : decode cX5_takeReading 36 = .ok (.aload_n 0, 1) := by decide +kernel
theorem dX5_takeReading_37 : decode cX5_takeReading 37 = .ok (.getfield 18, 3) := by decide +kernel
theorem dX5_takeReading_40 : decode cX5_takeReading 40 = .ok (.invokevirtual 76, 3) := by decide +kernel
theorem dX5_takeReading_43 : decode cX5_takeReading 43 = .ok (.putfield 26, 3) := by decide +kernel
theorem dX5_takeReading_46 : decode cX5_takeReading 46 = .ok (.return_, 1) := by decide +kernel
theorem dX5_hourAgo_0 : decode cX5_hourAgo 0 = .ok (.iload_n 1, 1) := by decide +kernel
theorem dX5_hourAgo_1 : decode cX5_hourAgo 1 = .ok (.aload_n 0, 1) := by decide +kernel
theorem dX5_hourAgo_2 : decode cX5_hourAgo 2 = .ok (.getfield 45, 3) := by decide +kernel
theorem dX5_hourAgo_5 : decode cX5_hourAgo 5 = .ok (.if_icmp .ge 14, 3) := by decide +kernel
theorem dX5_hourAgo_8 : decode cX5_hourAgo 8 = .ok (.aload_n 0, 1) := by decide +kernel
theorem dX5_hourAgo_9 : decode cX5_hourAgo 9 = .ok (.getfield 9, 3) := by decide +kernel
theorem dX5_hourAgo_12 : decode cX5_hourAgo 12 = .ok (.iload_n 1, 1) := by decide +kernel
theorem dX5_hourAgo_13 : decode cX5_hourAgo 13 = .ok (.invokestatic 80, 3) := by decide +kernel
theorem dX5_hourAgo_16 : decode cX5_hourAgo 16 = .ok (.goto 5, 3) := by decide +kernel
theorem dX5_hourAgo_19 : decode cX5_hourAgo 19 = .ok (.ldc 25, 2) := by decide +kernel
theorem dX5_hourAgo_21 : decode cX5_hourAgo 21 = .ok (.ireturn, 1) := by decide +kernel
theorem dX5_valueAgo_0 : decode cX5_valueAgo 0 = .ok (.iload_n 1, 1) := by decide +kernel
theorem dX5_valueAgo_1 : decode cX5_valueAgo 1 = .ok (.aload_n 0, 1) := by decide +kernel
theorem dX5_valueAgo_2 : decode cX5_valueAgo 2 = .ok (.getfield 45, 3) := by decide +kernel
theorem dX5_valueAgo_5 : decode cX5_valueAgo 5 = .ok (.if_icmp .ge 14, 3) := by decide +kernel
theorem dX5_valueAgo_8 : decode cX5_valueAgo 8 = .ok (.aload_n 0, 1) := by decide +kernel
theorem dX5_valueAgo_9 : decode cX5_valueAgo 9 = .ok (.getfield 15, 3) := by decide +kernel
theorem dX5_valueAgo_12 : decode cX5_valueAgo 12 = .ok (.iload_n 1, 1) := by decide +kernel
theorem dX5_valueAgo_13 : decode cX5_valueAgo 13 = .ok (.invokestatic 80, 3) := by decide +kernel
theorem dX5_valueAgo_16 : decode cX5_valueAgo 16 = .ok (.goto 5, 3) := by decide +kernel
theorem dX5_valueAgo_19 : decode cX5_valueAgo 19 = .ok (.ldc 25, 2) := by decide +kernel
theorem dX5_valueAgo_21 : decode cX5_valueAgo 21 = .ok (.ireturn, 1) := by decide +kernel
theorem dX5_hasMended_0 : decode cX5_hasMended 0 = .ok (.aload_n 0, 1) := by decide +kernel
theorem dX5_hasMended_1 : decode cX5_hasMended 1 = .ok (.getfield 45, 3) := by decide +kernel
theorem dX5_hasMended_4 : decode cX5_hasMended 4 = .ok (.ifCond .le 7, 3) := by decide +kernel
theorem dX5_hasMended_7 : decode cX5_hasMended 7 = .ok (.iconst 1, 1) := by decide +kernel
theorem dX5_hasMended_8 : decode cX5_hasMended 8 = .ok (.goto 4, 3) := by decide +kernel
theorem dX5_hasMended_11 : decode cX5_hasMended 11 = .ok (.iconst 0, 1) := by decide +kernel
theorem dX5_hasMended_12 : decode cX5_hasMended 12 = .ok (.ireturn, 1) := by decide +kernel
theorem dX5_isAsked_0 : decode cX5_isAsked 0 = .ok (.aload_n 0, 1) := by decide +kernel
theorem dX5_isAsked_1 : decode cX5_isAsked 1 = .ok (.getfield 45, 3) := by decide +kernel
theorem dX5_isAsked_4 : decode cX5_isAsked 4 = .ok (.ifCond .le 14, 3) := by decide +kernel
theorem dX5_isAsked_7 : decode cX5_isAsked 7 = .ok (.aload_n 0, 1) := by decide +kernel
theorem dX5_isAsked_8 : decode cX5_isAsked 8 = .ok (.getfield 51, 3) := by decide +kernel
theorem dX5_isAsked_11 : decode cX5_isAsked 11 = .ok (.ifCond .ne 7, 3) := by decide +kernel
theorem dX5_isAsked_14 : decode cX5_isAsked 14 = .ok (.iconst 1, 1) := by decide +kernel
theorem dX5_isAsked_15 : decode cX5_isAsked 15 = .ok (.goto 4, 3) := by decide +kernel
theorem dX5_isAsked_18 : decode cX5_isAsked 18 = .ok (.iconst 0, 1) := by decide +kernel
theorem dX5_isAsked_19 : decode cX5_isAsked 19 = .ok (.ireturn, 1) := by decide +kernel
theorem dX5_isAskedAndReadIn_0 : decode cX5_isAskedAndReadIn 0 = .ok (.aload_n 0, 1) := by decide +kernel
theorem dX5_isAskedAndReadIn_1 : decode cX5_isAskedAndReadIn 1 = .ok (.invokevirtual 84, 3) := by decide +kernel
theorem dX5_isAskedAndReadIn_4 : decode cX5_isAskedAndReadIn 4 = .ok (.ifCond .eq 16, 3) := by decide +kernel
theorem dX5_isAskedAndReadIn_7 : decode cX5_isAskedAndReadIn 7 = .ok (.aload_n 0, 1) := by decide +kernel
theorem dX5_isAskedAndReadIn_8 : decode cX5_isAskedAndReadIn 8 = .ok (.iconst 0, 1) := by decide +kernel
theorem dX5_isAskedAndReadIn_9 : decode cX5_isAskedAndReadIn 9 = .ok (.invokevirtual 88, 3) := by decide +kernel
theorem dX5_isAskedAndReadIn_12 : decode cX5_isAskedAndReadIn 12 = .ok (.iload_n 1, 1) := by decide +kernel
theorem dX5_isAskedAndReadIn_13 : decode cX5_isAskedAndReadIn 13 = .ok (.if_icmp .ne 7, 3) := by decide +kernel
theorem dX5_isAskedAndReadIn_16 : decode cX5_isAskedAndReadIn 16 = .ok (.iconst 1, 1) := by decide +kernel
theorem dX5_isAskedAndReadIn_17 : decode cX5_isAskedAndReadIn 17 = .ok (.goto 4, 3) := by decide +kernel
theorem dX5_isAskedAndReadIn_20 : decode cX5_isAskedAndReadIn 20 = .ok (.iconst 0, 1) := by decide +kernel
theorem dX5_isAskedAndReadIn_21 : decode cX5_isAskedAndReadIn 21 = .ok (.ireturn, 1) := by decide +kernel
theorem dX5_mendedWith_0 : decode cX5_mendedWith 0 = .ok (.aload_n 0, 1) := by decide +kernel
theorem dX5_mendedWith_1 : decode cX5_mendedWith 1 = .ok (.getfield 45, 3) := by decide +kernel
theorem dX5_mendedWith_4 : decode cX5_mendedWith 4 = .ok (.ifCond .ne 6, 3) := by decide +kernel
theorem dX5_mendedWith_7 : decode cX5_mendedWith 7 = .ok (.ldc 25, 2) := by decide +kernel
theorem dX5_mendedWith_9 : decode cX5_mendedWith 9 = .ok (.ireturn, 1) := by decide +kernel
theorem dX5_mendedWith_10 : decode cX5_mendedWith 10 = .ok (.aload_n 0, 1) := by decide +kernel
theorem dX5_mendedWith_11 : decode cX5_mendedWith 11 = .ok (.getfield 15, 3) := by decide +kernel
theorem dX5_mendedWith_14 : decode cX5_mendedWith 14 = .ok (.iconst 0, 1) := by decide +kernel
theorem dX5_mendedWith_15 : decode cX5_mendedWith 15 = .ok (.invokestatic 80, 3) := by decide +kernel
theorem dX5_mendedWith_18 : decode cX5_mendedWith 18 = .ok (.istore_n 2, 1) := by decide +kernel
theorem dX5_mendedWith_19 : decode cX5_mendedWith 19 = .ok (.aload_n 0, 1) := by decide +kernel
theorem dX5_mendedWith_20 : decode cX5_mendedWith 20 = .ok (.getfield 45, 3) := by decide +kernel
theorem dX5_mendedWith_23 : decode cX5_mendedWith 23 = .ok (.iconst 1, 1) := by decide +kernel
theorem dX5_mendedWith_24 : decode cX5_mendedWith 24 = .ok (.if_icmp .ne 10, 3) := by decide +kernel
theorem dX5_mendedWith_27 : decode cX5_mendedWith 27 = .ok (.iload_n 2, 1) := by decide +kernel
theorem dX5_mendedWith_28 : decode cX5_mendedWith 28 = .ok (.aload_n 0, 1) := by decide +kernel
theorem dX5_mendedWith_29 : decode cX5_mendedWith 29 = .ok (.getfield 32, 3) := by decide +kernel
theorem dX5_mendedWith_32 : decode cX5_mendedWith 32 = .ok (.isub, 1) := by decide +kernel
theorem dX5_mendedWith_33 : decode cX5_mendedWith 33 = .ok (.ireturn, 1) := by decide +kernel
theorem dX5_mendedWith_34 : decode cX5_mendedWith 34 = .ok (.iload_n 2, 1) := by decide +kernel
theorem dX5_mendedWith_35 : decode cX5_mendedWith 35 = .ok (.aload_n 0, 1) := by decide +kernel
theorem dX5_mendedWith_36 : decode cX5_mendedWith 36 = .ok (.getfield 15, 3) := by decide +kernel
theorem dX5_mendedWith_39 : decode cX5_mendedWith 39 = .ok (.iconst 1, 1) := by decide +kernel
theorem dX5_mendedWith_40 : decode cX5_mendedWith 40 = .ok (.invokestatic 80, 3) := by decide +kernel
theorem dX5_mendedWith_43 : decode cX5_mendedWith 43 = .ok (.isub, 1) := by decide +kernel
theorem dX5_mendedWith_44 : decode cX5_mendedWith 44 = .ok (.istore_n 3, 1) := by decide +kernel
theorem dX5_mendedWith_45 : decode cX5_mendedWith 45 = .ok (.aload_n 0, 1) := by decide +kernel
theorem dX5_mendedWith_46 : decode cX5_mendedWith 46 = .ok (.getfield 9, 3) := by decide +kernel
theorem dX5_mendedWith_49 : decode cX5_mendedWith 49 = .ok (.iconst 0, 1) := by decide +kernel
theorem dX5_mendedWith_50 : decode cX5_mendedWith 50 = .ok (.invokestatic 80, 3) := by decide +kernel
theorem dX5_mendedWith_53 : decode cX5_mendedWith 53 = .ok (.aload_n 0, 1) := by decide +kernel
theorem dX5_mendedWith_54 : decode cX5_mendedWith 54 = .ok (.getfield 9, 3) := by decide +kernel
theorem dX5_mendedWith_57 : decode cX5_mendedWith 57 = .ok (.iconst 1, 1) := by decide +kernel
theorem dX5_mendedWith_58 : decode cX5_mendedWith 58 = .ok (.invokestatic 80, 3) := by decide +kernel
theorem dX5_mendedWith_61 : decode cX5_mendedWith 61 = .ok (.isub, 1) := by decide +kernel
theorem dX5_mendedWith_62 : decode cX5_mendedWith 62 = .ok (.istore 4, 2) := by decide +kernel
theorem dX5_mendedWith_64 : decode cX5_mendedWith 64 = .ok (.iload_n 2, 1) := by decide +kernel
theorem dX5_mendedWith_65 : decode cX5_mendedWith 65 = .ok (.iload_n 3, 1) := by decide +kernel
theorem dX5_mendedWith_66 : decode cX5_mendedWith 66 = .ok (.iload_n 1, 1) := by decide +kernel
theorem dX5_mendedWith_67 : decode cX5_mendedWith 67 = .ok (.iconst 1, 1) := by decide +kernel
theorem dX5_mendedWith_68 : decode cX5_mendedWith 68 = .ok (.isub, 1) := by decide +kernel
theorem dX5_mendedWith_69 : decode cX5_mendedWith 69 = .ok (.imul, 1) := by decide +kernel
theorem dX5_mendedWith_70 : decode cX5_mendedWith 70 = .ok (.iload 4, 2) := by decide +kernel
theorem dX5_mendedWith_72 : decode cX5_mendedWith 72 = .ok (.invokestatic 63, 3) := by decide +kernel
theorem dX5_mendedWith_75 : decode cX5_mendedWith 75 = .ok (.iadd, 1) := by decide +kernel
theorem dX5_mendedWith_76 : decode cX5_mendedWith 76 = .ok (.aload_n 0, 1) := by decide +kernel
theorem dX5_mendedWith_77 : decode cX5_mendedWith 77 = .ok (.getfield 32, 3) := by decide +kernel
theorem dX5_mendedWith_80 : decode cX5_mendedWith 80 = .ok (.isub, 1) := by decide +kernel
theorem dX5_mendedWith_81 : decode cX5_mendedWith 81 = .ok (.ireturn, 1) := by decide +kernel
theorem dX5_lagNearestTo_0 : decode cX5_lagNearestTo 0 = .ok (.aload_n 0, 1) := by decide +kernel
theorem dX5_lagNearestTo_1 : decode cX5_lagNearestTo 1 = .ok (.invokevirtual 91, 3) := by decide +kernel
theorem dX5_lagNearestTo_4 : decode cX5_lagNearestTo 4 = .ok (.ifCond .ne 6, 3) := by decide +kernel
theorem dX5_lagNearestTo_7 : decode cX5_lagNearestTo 7 = .ok (.ldc 25, 2) := by decide +kernel
theorem dX5_lagNearestTo_9 : decode cX5_lagNearestTo 9 = .ok (.ireturn, 1) := by decide +kernel
theorem dX5_lagNearestTo_10 : decode cX5_lagNearestTo 10 = .ok (.iconst 1, 1) := by decide +kernel
theorem dX5_lagNearestTo_11 : decode cX5_lagNearestTo 11 = .ok (.istore_n 2, 1) := by decide +kernel
theorem dX5_lagNearestTo_12 : decode cX5_lagNearestTo 12 = .ok (.aload_n 0, 1) := by decide +kernel
theorem dX5_lagNearestTo_13 : decode cX5_lagNearestTo 13 = .ok (.iload_n 2, 1) := by decide +kernel
theorem dX5_lagNearestTo_14 : decode cX5_lagNearestTo 14 = .ok (.invokevirtual 76, 3) := by decide +kernel
theorem dX5_lagNearestTo_17 : decode cX5_lagNearestTo 17 = .ok (.iload_n 1, 1) := by decide +kernel
theorem dX5_lagNearestTo_18 : decode cX5_lagNearestTo 18 = .ok (.isub, 1) := by decide +kernel
theorem dX5_lagNearestTo_19 : decode cX5_lagNearestTo 19 = .ok (.invokestatic 94, 3) := by decide +kernel
theorem dX5_lagNearestTo_22 : decode cX5_lagNearestTo 22 = .ok (.istore_n 3, 1) := by decide +kernel
theorem dX5_lagNearestTo_23 : decode cX5_lagNearestTo 23 = .ok (.iconst 2, 1) := by decide +kernel
theorem dX5_lagNearestTo_24 : decode cX5_lagNearestTo 24 = .ok (.istore 4, 2) := by decide +kernel
theorem dX5_lagNearestTo_26 : decode cX5_lagNearestTo 26 = .ok (.iload 4, 2) := by decide +kernel
theorem dX5_lagNearestTo_28 : decode cX5_lagNearestTo 28 = .ok (.bipush 9, 2) := by decide +kernel
theorem dX5_lagNearestTo_30 : decode cX5_lagNearestTo 30 = .ok (.if_icmp .gt 34, 3) := by decide +kernel
theorem dX5_lagNearestTo_33 : decode cX5_lagNearestTo 33 = .ok (.aload_n 0, 1) := by decide +kernel
theorem dX5_lagNearestTo_34 : decode cX5_lagNearestTo 34 = .ok (.iload 4, 2) := by decide +kernel
theorem dX5_lagNearestTo_36 : decode cX5_lagNearestTo 36 = .ok (.invokevirtual 76, 3) := by decide +kernel
theorem dX5_lagNearestTo_39 : decode cX5_lagNearestTo 39 = .ok (.iload_n 1, 1) := by decide +kernel
theorem dX5_lagNearestTo_40 : decode cX5_lagNearestTo 40 = .ok (.isub, 1) := by decide +kernel
theorem dX5_lagNearestTo_41 : decode cX5_lagNearestTo 41 = .ok (.invokestatic 94, 3) := by decide +kernel
theorem dX5_lagNearestTo_44 : decode cX5_lagNearestTo 44 = .ok (.istore 5, 2) := by decide +kernel
theorem dX5_lagNearestTo_46 : decode cX5_lagNearestTo 46 = .ok (.iload 5, 2) := by decide +kernel
theorem dX5_lagNearestTo_48 : decode cX5_lagNearestTo 48 = .ok (.iload_n 3, 1) := by decide +kernel
theorem dX5_lagNearestTo_49 : decode cX5_lagNearestTo 49 = .ok (.if_icmp .ge 9, 3) := by decide +kernel
theorem dX5_lagNearestTo_52 : decode cX5_lagNearestTo 52 = .ok (.iload 4, 2) := by decide +kernel
theorem dX5_lagNearestTo_54 : decode cX5_lagNearestTo 54 = .ok (.istore_n 2, 1) := by decide +kernel
theorem dX5_lagNearestTo_55 : decode cX5_lagNearestTo 55 = .ok (.iload 5, 2) := by decide +kernel
theorem dX5_lagNearestTo_57 : decode cX5_lagNearestTo 57 = .ok (.istore_n 3, 1) := by decide +kernel
theorem dX5_lagNearestTo_58 : decode cX5_lagNearestTo 58 = .ok (.iinc 4 1, 3) := by decide +kernel
theorem dX5_lagNearestTo_61 : decode cX5_lagNearestTo 61 = .ok (.goto (-35), 3) := by decide +kernel
theorem dX5_lagNearestTo_64 : decode cX5_lagNearestTo 64 = .ok (.iload_n 2, 1) := by decide +kernel
theorem dX5_lagNearestTo_65 : decode cX5_lagNearestTo 65 = .ok (.ireturn, 1) := by decide +kernel
theorem dX5_error_0 : decode cX5_error 0 = .ok (.aload_n 0, 1) := by decide +kernel
theorem dX5_error_1 : decode cX5_error 1 = .ok (.getfield 26, 3) := by decide +kernel
theorem dX5_error_4 : decode cX5_error 4 = .ok (.iload_n 1, 1) := by decide +kernel
theorem dX5_error_5 : decode cX5_error 5 = .ok (.isub, 1) := by decide +kernel
theorem dX5_error_6 : decode cX5_error 6 = .ok (.invokestatic 94, 3) := by decide +kernel
theorem dX5_error_9 : decode cX5_error 9 = .ok (.ireturn, 1) := by decide +kernel
theorem dX5_distance_0 : decode cX5_distance 0 = .ok (.aload_n 0, 1) := by decide +kernel
theorem dX5_distance_1 : decode cX5_distance 1 = .ok (.getfield 42, 3) := by decide +kernel
theorem dX5_distance_4 : decode cX5_distance 4 = .ok (.aload_n 0, 1) := by decide +kernel
theorem dX5_distance_5 : decode cX5_distance 5 = .ok (.getfield 32, 3) := by decide +kernel
theorem dX5_distance_8 : decode cX5_distance 8 = .ok (.isub, 1) := by decide +kernel
theorem dX5_distance_9 : decode cX5_distance 9 = .ok (.iload_n 1, 1) := by decide +kernel
theorem dX5_distance_10 : decode cX5_distance 10 = .ok (.isub, 1) := by decide +kernel
theorem dX5_distance_11 : decode cX5_distance 11 = .ok (.invokestatic 94, 3) := by decide +kernel
theorem dX5_distance_14 : decode cX5_distance 14 = .ok (.ireturn, 1) := by decide +kernel
theorem dX5_compareWith_0 : decode cX5_compareWith 0 = .ok (.aload_n 0, 1) := by decide +kernel
theorem dX5_compareWith_1 : decode cX5_compareWith 1 = .ok (.getfield 26, 3) := by decide +kernel
theorem dX5_compareWith_4 : decode cX5_compareWith 4 = .ok (.iload_n 1, 1) := by decide +kernel
theorem dX5_compareWith_5 : decode cX5_compareWith 5 = .ok (.isub, 1) := by decide +kernel
theorem dX5_compareWith_6 : decode cX5_compareWith 6 = .ok (.invokestatic 94, 3) := by decide +kernel
theorem dX5_compareWith_9 : decode cX5_compareWith 9 = .ok (.iload_n 2, 1) := by decide +kernel
theorem dX5_compareWith_10 : decode cX5_compareWith 10 = .ok (.if_icmp .le 26, 3) := by decide +kernel
theorem dX5_compareWith_13 : decode cX5_compareWith 13 = .ok (.aload_n 0, 1) := by decide +kernel
theorem dX5_compareWith_14 : decode cX5_compareWith 14 = .ok (.dup, 1) := by decide +kernel
theorem dX5_compareWith_15 : decode cX5_compareWith 15 = .ok (.getfield 35, 3) := by decide +kernel
theorem dX5_compareWith_18 : decode cX5_compareWith 18 = .ok (.iconst 1, 1) := by decide +kernel
theorem dX5_compareWith_19 : decode cX5_compareWith 19 = .ok (.iadd, 1) := by decide +kernel
theorem dX5_compareWith_20 : decode cX5_compareWith 20 = .ok (.putfield 35, 3) := by decide +kernel
theorem dX5_compareWith_23 : decode cX5_compareWith 23 = .ok (.aload_n 0, 1) := by decide +kernel
theorem dX5_compareWith_24 : decode cX5_compareWith 24 = .ok (.dup, 1) := by decide +kernel
theorem dX5_compareWith_25 : decode cX5_compareWith 25 = .ok (.getfield 48, 3) := by decide +kernel
theorem dX5_compareWith_28 : decode cX5_compareWith 28 = .ok (.iconst 1, 1) := by decide +kernel
theorem dX5_compareWith_29 : decode cX5_compareWith 29 = .ok (.iadd, 1) := by decide +kernel
theorem dX5_compareWith_30 : decode cX5_compareWith 30 = .ok (.putfield 48, 3) := by decide +kernel
theorem dX5_compareWith_33 : decode cX5_compareWith 33 = .ok (.goto 8, 3) := by decide +kernel
theorem dX5_compareWith_36 : decode cX5_compareWith 36 = .ok (.aload_n 0, 1) := by decide +kernel
theorem dX5_compareWith_37 : decode cX5_compareWith 37 = .ok (.iconst 0, 1) := by decide +kernel
theorem dX5_compareWith_38 : decode cX5_compareWith 38 = .ok (.putfield 48, 3) := by decide +kernel
theorem dX5_compareWith_41 : decode cX5_compareWith 41 = .ok (.return_, 1) := by decide +kernel
theorem dX5_shutOutFrom_0 : decode cX5_shutOutFrom 0 = .ok (.aload_n 0, 1) := by decide +kernel
theorem dX5_shutOutFrom_1 : decode cX5_shutOutFrom 1 = .ok (.getfield 48, 3) := by decide +kernel
theorem dX5_shutOutFrom_4 : decode cX5_shutOutFrom 4 = .ok (.iload_n 1, 1) := by decide +kernel
theorem dX5_shutOutFrom_5 : decode cX5_shutOutFrom 5 = .ok (.if_icmp .lt 8, 3) := by decide +kernel
theorem dX5_shutOutFrom_8 : decode cX5_shutOutFrom 8 = .ok (.aload_n 0, 1) := by decide +kernel
theorem dX5_shutOutFrom_9 : decode cX5_shutOutFrom 9 = .ok (.iconst 1, 1) := by decide +kernel
theorem dX5_shutOutFrom_10 : decode cX5_shutOutFrom 10 = .ok (.putfield 51, 3) := by decide +kernel
theorem dX5_shutOutFrom_13 : decode cX5_shutOutFrom 13 = .ok (.return_, 1) := by decide +kernel
theorem dX5_numberOf_0 : decode cX5_numberOf 0 = .ok (.iload_n 1, 1) := by decide +kernel
theorem dX5_numberOf_1 : decode cX5_numberOf 1 = .ok (.tableswitch 104 0 8 #[51, 56, 61, 66, 71, 76, 81, 94, 99], 51) := by decide +kernel
theorem dX5_numberOf_52 : decode cX5_numberOf 52 = .ok (.aload_n 0, 1) := by decide +kernel
theorem dX5_numberOf_53 : decode cX5_numberOf 53 = .ok (.getfield 29, 3) := by decide +kernel
theorem dX5_numberOf_56 : decode cX5_numberOf 56 = .ok (.ireturn, 1) := by decide +kernel
theorem dX5_numberOf_57 : decode cX5_numberOf 57 = .ok (.aload_n 0, 1) := by decide +kernel
theorem dX5_numberOf_58 : decode cX5_numberOf 58 = .ok (.getfield 18, 3) := by decide +kernel
theorem dX5_numberOf_61 : decode cX5_numberOf 61 = .ok (.ireturn, 1) := by decide +kernel
theorem dX5_numberOf_62 : decode cX5_numberOf 62 = .ok (.aload_n 0, 1) := by decide +kernel
theorem dX5_numberOf_63 : decode cX5_numberOf 63 = .ok (.getfield 32, 3) := by decide +kernel
theorem dX5_numberOf_66 : decode cX5_numberOf 66 = .ok (.ireturn, 1) := by decide +kernel
theorem dX5_numberOf_67 : decode cX5_numberOf 67 = .ok (.aload_n 0, 1) := by decide +kernel
theorem dX5_numberOf_68 : decode cX5_numberOf 68 = .ok (.getfield 22, 3) := by decide +kernel
theorem dX5_numberOf_71 : decode cX5_numberOf 71 = .ok (.ireturn, 1) := by decide +kernel
theorem dX5_numberOf_72 : decode cX5_numberOf 72 = .ok (.aload_n 0, 1) := by decide +kernel
theorem dX5_numberOf_73 : decode cX5_numberOf 73 = .ok (.getfield 42, 3) := by decide +kernel
theorem dX5_numberOf_76 : decode cX5_numberOf 76 = .ok (.ireturn, 1) := by decide +kernel
theorem dX5_numberOf_77 : decode cX5_numberOf 77 = .ok (.aload_n 0, 1) := by decide +kernel
theorem dX5_numberOf_78 : decode cX5_numberOf 78 = .ok (.getfield 48, 3) := by decide +kernel
theorem dX5_numberOf_81 : decode cX5_numberOf 81 = .ok (.ireturn, 1) := by decide +kernel
theorem dX5_numberOf_82 : decode cX5_numberOf 82 = .ok (.aload_n 0, 1) := by decide +kernel
theorem dX5_numberOf_83 : decode cX5_numberOf 83 = .ok (.getfield 51, 3) := by decide +kernel
theorem dX5_numberOf_86 : decode cX5_numberOf 86 = .ok (.ifCond .eq 7, 3) := by decide +kernel
theorem dX5_numberOf_89 : decode cX5_numberOf 89 = .ok (.iconst 1, 1) := by decide +kernel
theorem dX5_numberOf_90 : decode cX5_numberOf 90 = .ok (.goto 4, 3) := by decide +kernel
theorem dX5_numberOf_93 : decode cX5_numberOf 93 = .ok (.iconst 0, 1) := by decide +kernel
theorem dX5_numberOf_94 : decode cX5_numberOf 94 = .ok (.ireturn, 1) := by decide +kernel
theorem dX5_numberOf_95 : decode cX5_numberOf 95 = .ok (.aload_n 0, 1) := by decide +kernel
theorem dX5_numberOf_96 : decode cX5_numberOf 96 = .ok (.getfield 45, 3) := by decide +kernel
theorem dX5_numberOf_99 : decode cX5_numberOf 99 = .ok (.ireturn, 1) := by decide +kernel
theorem dX5_numberOf_100 : decode cX5_numberOf 100 = .ok (.aload_n 0, 1) := by decide +kernel
theorem dX5_numberOf_101 : decode cX5_numberOf 101 = .ok (.getfield 35, 3) := by decide +kernel
theorem dX5_numberOf_104 : decode cX5_numberOf 104 = .ok (.ireturn, 1) := by decide +kernel
theorem dX5_numberOf_105 : decode cX5_numberOf 105 = .ok (.aload_n 0, 1) := by decide +kernel
theorem dX5_numberOf_106 : decode cX5_numberOf 106 = .ok (.getfield 26, 3) := by decide +kernel
theorem dX5_numberOf_109 : decode cX5_numberOf 109 = .ok (.ireturn, 1) := by decide +kernel
theorem dX6_init_0 : decode cX6_init 0 = .ok (.aload_n 0, 1) := by decide +kernel
theorem dX6_init_1 : decode cX6_init 1 = .ok (.invokespecial 1, 3) := by decide +kernel
theorem dX6_init_4 : decode cX6_init 4 = .ok (.aload_n 0, 1) := by decide +kernel
theorem dX6_init_5 : decode cX6_init 5 = .ok (.new 7, 3) := by decide +kernel
theorem dX6_init_8 : decode cX6_init 8 = .ok (.dup, 1) := by decide +kernel
theorem dX6_init_9 : decode cX6_init 9 = .ok (.invokespecial 9, 3) := by decide +kernel
theorem dX6_init_12 : decode cX6_init 12 = .ok (.putfield 10, 3) := by decide +kernel
theorem dX6_init_15 : decode cX6_init 15 = .ok (.aload_n 0, 1) := by decide +kernel
theorem dX6_init_16 : decode cX6_init 16 = .ok (.new 7, 3) := by decide +kernel
theorem dX6_init_19 : decode cX6_init 19 = .ok (.dup, 1) := by decide +kernel
theorem dX6_init_20 : decode cX6_init 20 = .ok (.invokespecial 9, 3) := by decide +kernel
theorem dX6_init_23 : decode cX6_init 23 = .ok (.putfield 16, 3) := by decide +kernel
theorem dX6_init_26 : decode cX6_init 26 = .ok (.aload_n 0, 1) := by decide +kernel
theorem dX6_init_27 : decode cX6_init 27 = .ok (.new 19, 3) := by decide +kernel
theorem dX6_init_30 : decode cX6_init 30 = .ok (.dup, 1) := by decide +kernel
theorem dX6_init_31 : decode cX6_init 31 = .ok (.invokespecial 21, 3) := by decide +kernel
theorem dX6_init_34 : decode cX6_init 34 = .ok (.putfield 22, 3) := by decide +kernel
theorem dX6_init_37 : decode cX6_init 37 = .ok (.aload_n 0, 1) := by decide +kernel
theorem dX6_init_38 : decode cX6_init 38 = .ok (.new 26, 3) := by decide +kernel
theorem dX6_init_41 : decode cX6_init 41 = .ok (.dup, 1) := by decide +kernel
theorem dX6_init_42 : decode cX6_init 42 = .ok (.invokespecial 28, 3) := by decide +kernel
theorem dX6_init_45 : decode cX6_init 45 = .ok (.putfield 29, 3) := by decide +kernel
theorem dX6_init_48 : decode cX6_init 48 = .ok (.aload_n 0, 1) := by decide +kernel
theorem dX6_init_49 : decode cX6_init 49 = .ok (.new 26, 3) := by decide +kernel
theorem dX6_init_52 : decode cX6_init 52 = .ok (.dup, 1) := by decide +kernel
theorem dX6_init_53 : decode cX6_init 53 = .ok (.invokespecial 28, 3) := by decide +kernel
theorem dX6_init_56 : decode cX6_init 56 = .ok (.putfield 33, 3) := by decide +kernel
theorem dX6_init_59 : decode cX6_init 59 = .ok (.aload_n 0, 1) := by decide +kernel
theorem dX6_init_60 : decode cX6_init 60 = .ok (.new 36, 3) := by decide +kernel
theorem dX6_init_63 : decode cX6_init 63 = .ok (.dup, 1) := by decide +kernel
theorem dX6_init_64 : decode cX6_init 64 = .ok (.invokespecial 38, 3) := by decide +kernel
theorem dX6_init_67 : decode cX6_init 67 = .ok (.putfield 39, 3) := by decide +kernel
theorem dX6_init_70 : decode cX6_init 70 = .ok (.return_, 1) := by decide +kernel
theorem dX6_thermometer_0 : decode cX6_thermometer 0 = .ok (.iload_n 1, 1) := by decide +kernel
theorem dX6_thermometer_1 : decode cX6_thermometer 1 = .ok (.invokestatic 43, 3) := by decide +kernel
theorem dX6_thermometer_4 : decode cX6_thermometer 4 = .ok (.iload_n 2, 1) := by decide +kernel
theorem dX6_thermometer_5 : decode cX6_thermometer 5 = .ok (.iconst 1, 1) := by decide +kernel
theorem dX6_thermometer_6 : decode cX6_thermometer 6 = .ok (.bipush 9, 2) := by decide +kernel
theorem dX6_thermometer_8 : decode cX6_thermometer 8 = .ok (.invokestatic 47, 3) := by decide +kernel
theorem dX6_thermometer_11 : decode cX6_thermometer 11 = .ok (.iload_n 3, 1) := by decide +kernel
theorem dX6_thermometer_12 : decode cX6_thermometer 12 = .ok (.sipush (-200), 3) := by decide +kernel
theorem dX6_thermometer_15 : decode cX6_thermometer 15 = .ok (.sipush 200, 3) := by decide +kernel
theorem dX6_thermometer_18 : decode cX6_thermometer 18 = .ok (.invokestatic 47, 3) := by decide +kernel
theorem dX6_thermometer_21 : decode cX6_thermometer 21 = .ok (.iload 4, 2) := by decide +kernel
theorem dX6_thermometer_23 : decode cX6_thermometer 23 = .ok (.iconst 1, 1) := by decide +kernel
theorem dX6_thermometer_24 : decode cX6_thermometer 24 = .ok (.iconst 5, 1) := by decide +kernel
theorem dX6_thermometer_25 : decode cX6_thermometer 25 = .ok (.invokestatic 47, 3) := by decide +kernel
theorem dX6_thermometer_28 : decode cX6_thermometer 28 = .ok (.aload_n 0, 1) := by decide +kernel
theorem dX6_thermometer_29 : decode cX6_thermometer 29 = .ok (.getfield 10, 3) := by decide +kernel
theorem dX6_thermometer_32 : decode cX6_thermometer 32 = .ok (.invokevirtual 51, 3) := by decide +kernel
theorem dX6_thermometer_35 : decode cX6_thermometer 35 = .ok (.ifCond .ne 13, 3) := by decide +kernel
theorem dX6_thermometer_38 : decode cX6_thermometer 38 = .ok (.new 55, 3) := by decide +kernel
theorem dX6_thermometer_41 : decode cX6_thermometer 41 = .ok (.dup, 1) := by decide +kernel
theorem dX6_thermometer_42 : decode cX6_thermometer 42 = .ok (.ldc 57, 2) := by decide +kernel
theorem dX6_thermometer_44 : decode cX6_thermometer 44 = .ok (.invokespecial 59, 3) := by decide +kernel
theorem dX6_thermometer_47 : decode cX6_thermometer 47 = .ok (.athrow, 1) := by decide +kernel
theorem dX6_thermometer_48 : decode cX6_thermometer 48 = .ok (.aload_n 0, 1) := by decide +kernel
theorem dX6_thermometer_49 : decode cX6_thermometer 49 = .ok (.getfield 22, 3) := by decide +kernel
theorem dX6_thermometer_52 : decode cX6_thermometer 52 = .ok (.aload_n 0, 1) := by decide +kernel
theorem dX6_thermometer_53 : decode cX6_thermometer 53 = .ok (.getfield 10, 3) := by decide +kernel
theorem dX6_thermometer_56 : decode cX6_thermometer 56 = .ok (.invokevirtual 62, 3) := by decide +kernel
theorem dX6_thermometer_59 : decode cX6_thermometer 59 = .ok (.aload_n 0, 1) := by decide +kernel
theorem dX6_thermometer_60 : decode cX6_thermometer 60 = .ok (.getfield 10, 3) := by decide +kernel
theorem dX6_thermometer_63 : decode cX6_thermometer 63 = .ok (.iload_n 1, 1) := by decide +kernel
theorem dX6_thermometer_64 : decode cX6_thermometer 64 = .ok (.iload_n 2, 1) := by decide +kernel
theorem dX6_thermometer_65 : decode cX6_thermometer 65 = .ok (.iload_n 3, 1) := by decide +kernel
theorem dX6_thermometer_66 : decode cX6_thermometer 66 = .ok (.iload 4, 2) := by decide +kernel
theorem dX6_thermometer_68 : decode cX6_thermometer 68 = .ok (.invokevirtual 66, 3) := by decide +kernel
theorem dX6_thermometer_71 : decode cX6_thermometer 71 = .ok (.ireturn, 1) := by decide +kernel
theorem dX6_hour_0 : decode cX6_hour 0 = .ok (.iload_n 1, 1) := by decide +kernel
theorem dX6_hour_1 : decode cX6_hour 1 = .ok (.sipush (-5000), 3) := by decide +kernel
theorem dX6_hour_4 : decode cX6_hour 4 = .ok (.sipush 5000, 3) := by decide +kernel
theorem dX6_hour_7 : decode cX6_hour 7 = .ok (.invokestatic 47, 3) := by decide +kernel
theorem dX6_hour_10 : decode cX6_hour 10 = .ok (.aload_n 0, 1) := by decide +kernel
theorem dX6_hour_11 : decode cX6_hour 11 = .ok (.iconst 1, 1) := by decide +kernel
theorem dX6_hour_12 : decode cX6_hour 12 = .ok (.invokevirtual 70, 3) := by decide +kernel
theorem dX6_hour_15 : decode cX6_hour 15 = .ok (.aload_n 0, 1) := by decide +kernel
theorem dX6_hour_16 : decode cX6_hour 16 = .ok (.getfield 22, 3) := by decide +kernel
theorem dX6_hour_19 : decode cX6_hour 19 = .ok (.aload_n 0, 1) := by decide +kernel
theorem dX6_hour_20 : decode cX6_hour 20 = .ok (.getfield 10, 3) := by decide +kernel
theorem dX6_hour_23 : decode cX6_hour 23 = .ok (.invokevirtual 62, 3) := by decide +kernel
theorem dX6_hour_26 : decode cX6_hour 26 = .ok (.aload_n 0, 1) := by decide +kernel
theorem dX6_hour_27 : decode cX6_hour 27 = .ok (.getfield 10, 3) := by decide +kernel
theorem dX6_hour_30 : decode cX6_hour 30 = .ok (.iload_n 1, 1) := by decide +kernel
theorem dX6_hour_31 : decode cX6_hour 31 = .ok (.invokevirtual 73, 3) := by decide +kernel
theorem dX6_hour_34 : decode cX6_hour 34 = .ok (.ireturn, 1) := by decide +kernel
theorem dX6_hours_0 : decode cX6_hours 0 = .ok (.iload_n 1, 1) := by decide +kernel
theorem dX6_hours_1 : decode cX6_hours 1 = .ok (.iconst 1, 1) := by decide +kernel
theorem dX6_hours_2 : decode cX6_hours 2 = .ok (.bipush 24, 2) := by decide +kernel
theorem dX6_hours_4 : decode cX6_hours 4 = .ok (.invokestatic 47, 3) := by decide +kernel
theorem dX6_hours_7 : decode cX6_hours 7 = .ok (.iload_n 2, 1) := by decide +kernel
theorem dX6_hours_8 : decode cX6_hours 8 = .ok (.sipush (-500), 3) := by decide +kernel
theorem dX6_hours_11 : decode cX6_hours 11 = .ok (.sipush 500, 3) := by decide +kernel
theorem dX6_hours_14 : decode cX6_hours 14 = .ok (.invokestatic 47, 3) := by decide +kernel
theorem dX6_hours_17 : decode cX6_hours 17 = .ok (.aload_n 0, 1) := by decide +kernel
theorem dX6_hours_18 : decode cX6_hours 18 = .ok (.iload_n 1, 1) := by decide +kernel
theorem dX6_hours_19 : decode cX6_hours 19 = .ok (.invokevirtual 70, 3) := by decide +kernel
theorem dX6_hours_22 : decode cX6_hours 22 = .ok (.aload_n 0, 1) := by decide +kernel
theorem dX6_hours_23 : decode cX6_hours 23 = .ok (.getfield 22, 3) := by decide +kernel
theorem dX6_hours_26 : decode cX6_hours 26 = .ok (.aload_n 0, 1) := by decide +kernel
theorem dX6_hours_27 : decode cX6_hours 27 = .ok (.getfield 10, 3) := by decide +kernel
theorem dX6_hours_30 : decode cX6_hours 30 = .ok (.invokevirtual 62, 3) := by decide +kernel
theorem dX6_hours_33 : decode cX6_hours 33 = .ok (.aload_n 0, 1) := by decide +kernel
theorem dX6_hours_34 : decode cX6_hours 34 = .ok (.getfield 10, 3) := by decide +kernel
theorem dX6_hours_37 : decode cX6_hours 37 = .ok (.iload_n 1, 1) := by decide +kernel
theorem dX6_hours_38 : decode cX6_hours 38 = .ok (.iload_n 2, 1) := by decide +kernel
theorem dX6_hours_39 : decode cX6_hours 39 = .ok (.invokevirtual 77, 3) := by decide +kernel
theorem dX6_hours_42 : decode cX6_hours 42 = .ok (.aload_n 0, 1) := by decide +kernel
theorem dX6_hours_43 : decode cX6_hours 43 = .ok (.getfield 10, 3) := by decide +kernel
theorem dX6_hours_46 : decode cX6_hours 46 = .ok (.getfield 81, 3) := by decide +kernel
theorem dX6_hours_49 : decode cX6_hours 49 = .ok (.ireturn, 1) := by decide +kernel
theorem dX6_period_0 : decode cX6_period 0 = .ok (.iload_n 1, 1) := by decide +kernel
theorem dX6_period_1 : decode cX6_period 1 = .ok (.invokestatic 43, 3) := by decide +kernel
theorem dX6_period_4 : decode cX6_period 4 = .ok (.iload_n 2, 1) := by decide +kernel
theorem dX6_period_5 : decode cX6_period 5 = .ok (.iconst 1, 1) := by decide +kernel
theorem dX6_period_6 : decode cX6_period 6 = .ok (.bipush 6, 2) := by decide +kernel
theorem dX6_period_8 : decode cX6_period 8 = .ok (.invokestatic 47, 3) := by decide +kernel
theorem dX6_period_11 : decode cX6_period 11 = .ok (.aload_n 0, 1) := by decide +kernel
theorem dX6_period_12 : decode cX6_period 12 = .ok (.getfield 22, 3) := by decide +kernel
theorem dX6_period_15 : decode cX6_period 15 = .ok (.aload_n 0, 1) := by decide +kernel
theorem dX6_period_16 : decode cX6_period 16 = .ok (.getfield 10, 3) := by decide +kernel
theorem dX6_period_19 : decode cX6_period 19 = .ok (.invokevirtual 62, 3) := by decide +kernel
theorem dX6_period_22 : decode cX6_period 22 = .ok (.aload_n 0, 1) := by decide +kernel
theorem dX6_period_23 : decode cX6_period 23 = .ok (.getfield 10, 3) := by decide +kernel
theorem dX6_period_26 : decode cX6_period 26 = .ok (.iload_n 1, 1) := by decide +kernel
theorem dX6_period_27 : decode cX6_period 27 = .ok (.invokevirtual 85, 3) := by decide +kernel
theorem dX6_period_30 : decode cX6_period 30 = .ok (.istore_n 3, 1) := by decide +kernel
theorem dX6_period_31 : decode cX6_period 31 = .ok (.aload_n 0, 1) := by decide +kernel
theorem dX6_period_32 : decode cX6_period 32 = .ok (.getfield 10, 3) := by decide +kernel
theorem dX6_period_35 : decode cX6_period 35 = .ok (.iload_n 1, 1) := by decide +kernel
theorem dX6_period_36 : decode cX6_period 36 = .ok (.iload_n 2, 1) := by decide +kernel
theorem dX6_period_37 : decode cX6_period 37 = .ok (.invokevirtual 88, 3) := by decide +kernel
theorem dX6_period_40 : decode cX6_period 40 = .ok (.iload_n 3, 1) := by decide +kernel
theorem dX6_period_41 : decode cX6_period 41 = .ok (.ireturn, 1) := by decide +kernel
theorem dX6_calibrate_0 : decode cX6_calibrate 0 = .ok (.aload_n 0, 1) := by decide +kernel
theorem dX6_calibrate_1 : decode cX6_calibrate 1 = .ok (.iload_n 1, 1) := by decide +kernel
theorem dX6_calibrate_2 : decode cX6_calibrate 2 = .ok (.invokevirtual 91, 3) := by decide +kernel
theorem dX6_calibrate_5 : decode cX6_calibrate 5 = .ok (.aload_n 0, 1) := by decide +kernel
theorem dX6_calibrate_6 : decode cX6_calibrate 6 = .ok (.getfield 22, 3) := by decide +kernel
theorem dX6_calibrate_9 : decode cX6_calibrate 9 = .ok (.aload_n 0, 1) := by decide +kernel
theorem dX6_calibrate_10 : decode cX6_calibrate 10 = .ok (.getfield 10, 3) := by decide +kernel
theorem dX6_calibrate_13 : decode cX6_calibrate 13 = .ok (.invokevirtual 62, 3) := by decide +kernel
theorem dX6_calibrate_16 : decode cX6_calibrate 16 = .ok (.aload_n 0, 1) := by decide +kernel
theorem dX6_calibrate_17 : decode cX6_calibrate 17 = .ok (.getfield 10, 3) := by decide +kernel
theorem dX6_calibrate_20 : decode cX6_calibrate 20 = .ok (.iload_n 1, 1) := by decide +kernel
theorem dX6_calibrate_21 : decode cX6_calibrate 21 = .ok (.invokevirtual 94, 3) := by decide +kernel
theorem dX6_calibrate_24 : decode cX6_calibrate 24 = .ok (.getfield 98, 3) := by decide +kernel
theorem dX6_calibrate_27 : decode cX6_calibrate 27 = .ok (.istore_n 2, 1) := by decide +kernel
theorem dX6_calibrate_28 : decode cX6_calibrate 28 = .ok (.aload_n 0, 1) := by decide +kernel
theorem dX6_calibrate_29 : decode cX6_calibrate 29 = .ok (.getfield 10, 3) := by decide +kernel
theorem dX6_calibrate_32 : decode cX6_calibrate 32 = .ok (.iload_n 1, 1) := by decide +kernel
theorem dX6_calibrate_33 : decode cX6_calibrate 33 = .ok (.invokevirtual 94, 3) := by decide +kernel
theorem dX6_calibrate_36 : decode cX6_calibrate 36 = .ok (.aload_n 0, 1) := by decide +kernel
theorem dX6_calibrate_37 : decode cX6_calibrate 37 = .ok (.getfield 10, 3) := by decide +kernel
theorem dX6_calibrate_40 : decode cX6_calibrate 40 = .ok (.getfield 81, 3) := by decide +kernel
theorem dX6_calibrate_43 : decode cX6_calibrate 43 = .ok (.invokevirtual 103, 3) := by decide +kernel
theorem dX6_calibrate_46 : decode cX6_calibrate 46 = .ok (.iload_n 2, 1) := by decide +kernel
theorem dX6_calibrate_47 : decode cX6_calibrate 47 = .ok (.ireturn, 1) := by decide +kernel
theorem dX6_knock_0 : decode cX6_knock 0 = .ok (.aload_n 0, 1) := by decide +kernel
theorem dX6_knock_1 : decode cX6_knock 1 = .ok (.iload_n 1, 1) := by decide +kernel
theorem dX6_knock_2 : decode cX6_knock 2 = .ok (.invokevirtual 91, 3) := by decide +kernel
theorem dX6_knock_5 : decode cX6_knock 5 = .ok (.iload_n 2, 1) := by decide +kernel
theorem dX6_knock_6 : decode cX6_knock 6 = .ok (.sipush (-3000), 3) := by decide +kernel
theorem dX6_knock_9 : decode cX6_knock 9 = .ok (.sipush 3000, 3) := by decide +kernel
theorem dX6_knock_12 : decode cX6_knock 12 = .ok (.invokestatic 47, 3) := by decide +kernel
theorem dX6_knock_15 : decode cX6_knock 15 = .ok (.aload_n 0, 1) := by decide +kernel
theorem dX6_knock_16 : decode cX6_knock 16 = .ok (.getfield 10, 3) := by decide +kernel
theorem dX6_knock_19 : decode cX6_knock 19 = .ok (.iload_n 1, 1) := by decide +kernel
theorem dX6_knock_20 : decode cX6_knock 20 = .ok (.invokevirtual 94, 3) := by decide +kernel
theorem dX6_knock_23 : decode cX6_knock 23 = .ok (.getfield 106, 3) := by decide +kernel
theorem dX6_knock_26 : decode cX6_knock 26 = .ok (.iload_n 2, 1) := by decide +kernel
theorem dX6_knock_27 : decode cX6_knock 27 = .ok (.iadd, 1) := by decide +kernel
theorem dX6_knock_28 : decode cX6_knock 28 = .ok (.istore_n 3, 1) := by decide +kernel
theorem dX6_knock_29 : decode cX6_knock 29 = .ok (.iload_n 3, 1) := by decide +kernel
theorem dX6_knock_30 : decode cX6_knock 30 = .ok (.sipush (-20000), 3) := by decide +kernel
theorem dX6_knock_33 : decode cX6_knock 33 = .ok (.if_icmp .lt 10, 3) := by decide +kernel
theorem dX6_knock_36 : decode cX6_knock 36 = .ok (.iload_n 3, 1) := by decide +kernel
theorem dX6_knock_37 : decode cX6_knock 37 = .ok (.sipush 20000, 3) := by decide +kernel
theorem dX6_knock_40 : decode cX6_knock 40 = .ok (.if_icmp .le 13, 3) := by decide +kernel
theorem dX6_knock_43 : decode cX6_knock 43 = .ok (.new 55, 3) := by decide +kernel
theorem dX6_knock_46 : decode cX6_knock 46 = .ok (.dup, 1) := by decide +kernel
theorem dX6_knock_47 : decode cX6_knock 47 = .ok (.ldc 109, 2) := by decide +kernel
theorem dX6_knock_49 : decode cX6_knock 49 = .ok (.invokespecial 59, 3) := by decide +kernel
theorem dX6_knock_52 : decode cX6_knock 52 = .ok (.athrow, 1) := by decide +kernel
theorem dX6_knock_53 : decode cX6_knock 53 = .ok (.aload_n 0, 1) := by decide +kernel
theorem dX6_knock_54 : decode cX6_knock 54 = .ok (.getfield 22, 3) := by decide +kernel
theorem dX6_knock_57 : decode cX6_knock 57 = .ok (.aload_n 0, 1) := by decide +kernel
theorem dX6_knock_58 : decode cX6_knock 58 = .ok (.getfield 10, 3) := by decide +kernel
theorem dX6_knock_61 : decode cX6_knock 61 = .ok (.invokevirtual 62, 3) := by decide +kernel
theorem dX6_knock_64 : decode cX6_knock 64 = .ok (.aload_n 0, 1) := by decide +kernel
theorem dX6_knock_65 : decode cX6_knock 65 = .ok (.getfield 10, 3) := by decide +kernel
theorem dX6_knock_68 : decode cX6_knock 68 = .ok (.iload_n 1, 1) := by decide +kernel
theorem dX6_knock_69 : decode cX6_knock 69 = .ok (.invokevirtual 94, 3) := by decide +kernel
theorem dX6_knock_72 : decode cX6_knock 72 = .ok (.iload_n 3, 1) := by decide +kernel
theorem dX6_knock_73 : decode cX6_knock 73 = .ok (.putfield 106, 3) := by decide +kernel
theorem dX6_knock_76 : decode cX6_knock 76 = .ok (.iload_n 3, 1) := by decide +kernel
theorem dX6_knock_77 : decode cX6_knock 77 = .ok (.ldc 111, 2) := by decide +kernel
theorem dX6_knock_79 : decode cX6_knock 79 = .ok (.iadd, 1) := by decide +kernel
theorem dX6_knock_80 : decode cX6_knock 80 = .ok (.ireturn, 1) := by decide +kernel
theorem dX6_set_0 : decode cX6_set 0 = .ok (.iload_n 1, 1) := by decide +kernel
theorem dX6_set_1 : decode cX6_set 1 = .ok (.ifCond .eq 18, 3) := by decide +kernel
theorem dX6_set_4 : decode cX6_set 4 = .ok (.iload_n 1, 1) := by decide +kernel
theorem dX6_set_5 : decode cX6_set 5 = .ok (.iconst 1, 1) := by decide +kernel
theorem dX6_set_6 : decode cX6_set 6 = .ok (.if_icmp .eq 13, 3) := by decide +kernel
theorem dX6_set_9 : decode cX6_set 9 = .ok (.new 112, 3) := by decide +kernel
theorem dX6_set_12 : decode cX6_set 12 = .ok (.dup, 1) := by decide +kernel
theorem dX6_set_13 : decode cX6_set 13 = .ok (.ldc 114, 2) := by decide +kernel
theorem dX6_set_15 : decode cX6_set 15 = .ok (.invokespecial 116, 3) := by decide +kernel
theorem dX6_set_18 : decode cX6_set 18 = .ok (.athrow, 1) := by decide +kernel
theorem dX6_set_19 : decode cX6_set 19 = .ok (.iload_n 2, 1) := by decide +kernel
theorem dX6_set_20 : decode cX6_set 20 = .ok (.iload_n 1, 1) := by decide +kernel
theorem dX6_set_21 : decode cX6_set 21 = .ok (.ifCond .ne 8, 3) := by decide +kernel
theorem dX6_set_24 : decode cX6_set 24 = .ok (.bipush 10, 2) := by decide +kernel
theorem dX6_set_26 : decode cX6_set 26 = .ok (.goto 4, 3) := by decide +kernel
theorem dX6_set_29 : decode cX6_set 29 = .ok (.iconst 1, 1) := by decide +kernel
theorem dX6_set_30 : decode cX6_set 30 = .ok (.iload_n 1, 1) := by decide +kernel
theorem dX6_set_31 : decode cX6_set 31 = .ok (.ifCond .ne 9, 3) := by decide +kernel
theorem dX6_set_34 : decode cX6_set 34 = .ok (.sipush 2000, 3) := by decide +kernel
theorem dX6_set_37 : decode cX6_set 37 = .ok (.goto 4, 3) := by decide +kernel
theorem dX6_set_40 : decode cX6_set 40 = .ok (.iconst 5, 1) := by decide +kernel
theorem dX6_set_41 : decode cX6_set 41 = .ok (.invokestatic 47, 3) := by decide +kernel
theorem dX6_set_44 : decode cX6_set 44 = .ok (.aload_n 0, 1) := by decide +kernel
theorem dX6_set_45 : decode cX6_set 45 = .ok (.getfield 22, 3) := by decide +kernel
theorem dX6_set_48 : decode cX6_set 48 = .ok (.aload_n 0, 1) := by decide +kernel
theorem dX6_set_49 : decode cX6_set 49 = .ok (.getfield 10, 3) := by decide +kernel
theorem dX6_set_52 : decode cX6_set 52 = .ok (.invokevirtual 62, 3) := by decide +kernel
theorem dX6_set_55 : decode cX6_set 55 = .ok (.iload_n 1, 1) := by decide +kernel
theorem dX6_set_56 : decode cX6_set 56 = .ok (.ifCond .ne 13, 3) := by decide +kernel
theorem dX6_set_59 : decode cX6_set 59 = .ok (.aload_n 0, 1) := by decide +kernel
theorem dX6_set_60 : decode cX6_set 60 = .ok (.getfield 10, 3) := by decide +kernel
theorem dX6_set_63 : decode cX6_set 63 = .ok (.getfield 117, 3) := by decide +kernel
theorem dX6_set_66 : decode cX6_set 66 = .ok (.goto 10, 3) := by decide +kernel
theorem dX6_set_69 : decode cX6_set 69 = .ok (.aload_n 0, 1) := by decide +kernel
theorem dX6_set_70 : decode cX6_set 70 = .ok (.getfield 10, 3) := by decide +kernel
theorem dX6_set_73 : decode cX6_set 73 = .ok (.getfield 120, 3) := by decide +kernel
theorem dX6_set_76 : decode cX6_set 76 = .ok (.istore_n 3, 1) := by decide +kernel
theorem dX6_set_77 : decode cX6_set 77 = .ok (.iload_n 1, 1) := by decide +kernel
theorem dX6_set_78 : decode cX6_set 78 = .ok (.ifCond .ne 14, 3) := by decide +kernel
theorem dX6_set_81 : decode cX6_set 81 = .ok (.aload_n 0, 1) := by decide +kernel
theorem dX6_set_82 : decode cX6_set 82 = .ok (.getfield 10, 3) := by decide +kernel
theorem dX6_set_85 : decode cX6_set 85 = .ok (.iload_n 2, 1) := by decide +kernel
theorem dX6_set_86 : decode cX6_set 86 = .ok (.putfield 117, 3) := by decide +kernel
theorem dX6_set_89 : decode cX6_set 89 = .ok (.goto 11, 3) := by decide +kernel
theorem dX6_set_92 : decode cX6_set 92 = .ok (.aload_n 0, 1) := by decide +kernel
theorem dX6_set_93 : decode cX6_set 93 = .ok (.getfield 10, 3) := by decide +kernel
theorem dX6_set_96 : decode cX6_set 96 = .ok (.iload_n 2, 1) := by decide +kernel
theorem dX6_set_97 : decode cX6_set 97 = .ok (.putfield 120, 3) := by decide +kernel
theorem dX6_set_100 : decode cX6_set 100 = .ok (.iload_n 3, 1) := by decide +kernel
theorem dX6_set_101 : decode cX6_set 101 = .ok (.ireturn, 1) := by decide +kernel
theorem dX6_append_0 : decode cX6_append 0 = .ok (.iload_n 1, 1) := by decide +kernel
theorem dX6_append_1 : decode cX6_append 1 = .ok (.bipush 33, 2) := by decide +kernel
theorem dX6_append_3 : decode cX6_append 3 = .ok (.bipush 126, 2) := by decide +kernel
theorem dX6_append_5 : decode cX6_append 5 = .ok (.invokestatic 47, 3) := by decide +kernel
theorem dX6_append_8 : decode cX6_append 8 = .ok (.aload_n 0, 1) := by decide +kernel
theorem dX6_append_9 : decode cX6_append 9 = .ok (.getfield 39, 3) := by decide +kernel
theorem dX6_append_12 : decode cX6_append 12 = .ok (.invokevirtual 123, 3) := by decide +kernel
theorem dX6_append_15 : decode cX6_append 15 = .ok (.ifCond .eq 13, 3) := by decide +kernel
theorem dX6_append_18 : decode cX6_append 18 = .ok (.new 55, 3) := by decide +kernel
theorem dX6_append_21 : decode cX6_append 21 = .ok (.dup, 1) := by decide +kernel
theorem dX6_append_22 : decode cX6_append 22 = .ok (.ldc 126, 2) := by decide +kernel
theorem dX6_append_24 : decode cX6_append 24 = .ok (.invokespecial 59, 3) := by decide +kernel
theorem dX6_append_27 : decode cX6_append 27 = .ok (.athrow, 1) := by decide +kernel
theorem dX6_append_28 : decode cX6_append 28 = .ok (.aload_n 0, 1) := by decide +kernel
theorem dX6_append_29 : decode cX6_append 29 = .ok (.getfield 39, 3) := by decide +kernel
theorem dX6_append_32 : decode cX6_append 32 = .ok (.iload_n 1, 1) := by decide +kernel
theorem dX6_append_33 : decode cX6_append 33 = .ok (.i2c, 1) := by decide +kernel
theorem dX6_append_34 : decode cX6_append 34 = .ok (.invokevirtual 128, 3) := by decide +kernel
theorem dX6_append_37 : decode cX6_append 37 = .ok (.aload_n 0, 1) := by decide +kernel
theorem dX6_append_38 : decode cX6_append 38 = .ok (.getfield 39, 3) := by decide +kernel
theorem dX6_append_41 : decode cX6_append 41 = .ok (.getfield 132, 3) := by decide +kernel
theorem dX6_append_44 : decode cX6_append 44 = .ok (.ireturn, 1) := by decide +kernel
theorem dX6_clearBuffer_0 : decode cX6_clearBuffer 0 = .ok (.aload_n 0, 1) := by decide +kernel
theorem dX6_clearBuffer_1 : decode cX6_clearBuffer 1 = .ok (.getfield 39, 3) := by decide +kernel
theorem dX6_clearBuffer_4 : decode cX6_clearBuffer 4 = .ok (.getfield 132, 3) := by decide +kernel
theorem dX6_clearBuffer_7 : decode cX6_clearBuffer 7 = .ok (.istore_n 1, 1) := by decide +kernel
theorem dX6_clearBuffer_8 : decode cX6_clearBuffer 8 = .ok (.aload_n 0, 1) := by decide +kernel
theorem dX6_clearBuffer_9 : decode cX6_clearBuffer 9 = .ok (.getfield 39, 3) := by decide +kernel
theorem dX6_clearBuffer_12 : decode cX6_clearBuffer 12 = .ok (.iconst 0, 1) := by decide +kernel
theorem dX6_clearBuffer_13 : decode cX6_clearBuffer 13 = .ok (.putfield 132, 3) := by decide +kernel
theorem dX6_clearBuffer_16 : decode cX6_clearBuffer 16 = .ok (.iload_n 1, 1) := by decide +kernel
theorem dX6_clearBuffer_17 : decode cX6_clearBuffer 17 = .ok (.ireturn, 1) := by decide +kernel
theorem dX6_firstError_0 : decode cX6_firstError 0 = .ok (.aload_n 0, 1) := by decide +kernel
theorem dX6_firstError_1 : decode cX6_firstError 1 = .ok (.getfield 39, 3) := by decide +kernel
theorem dX6_firstError_4 : decode cX6_firstError 4 = .ok (.invokevirtual 135, 3) := by decide +kernel
theorem dX6_firstError_7 : decode cX6_firstError 7 = .ok (.ireturn, 1) := by decide +kernel
theorem dX6_execute_0 : decode cX6_execute 0 = .ok (.aload_n 0, 1) := by decide +kernel
theorem dX6_execute_1 : decode cX6_execute 1 = .ok (.getfield 39, 3) := by decide +kernel
theorem dX6_execute_4 : decode cX6_execute 4 = .ok (.invokevirtual 139, 3) := by decide +kernel
theorem dX6_execute_7 : decode cX6_execute 7 = .ok (.ifCond .ne 13, 3) := by decide +kernel
theorem dX6_execute_10 : decode cX6_execute 10 = .ok (.new 142, 3) := by decide +kernel
theorem dX6_execute_13 : decode cX6_execute 13 = .ok (.dup, 1) := by decide +kernel
theorem dX6_execute_14 : decode cX6_execute 14 = .ok (.ldc 144, 2) := by decide +kernel
theorem dX6_execute_16 : decode cX6_execute 16 = .ok (.invokespecial 146, 3) := by decide +kernel
theorem dX6_execute_19 : decode cX6_execute 19 = .ok (.athrow, 1) := by decide +kernel
theorem dX6_execute_20 : decode cX6_execute 20 = .ok (.aload_n 0, 1) := by decide +kernel
theorem dX6_execute_21 : decode cX6_execute 21 = .ok (.getfield 22, 3) := by decide +kernel
theorem dX6_execute_24 : decode cX6_execute 24 = .ok (.aload_n 0, 1) := by decide +kernel
theorem dX6_execute_25 : decode cX6_execute 25 = .ok (.getfield 10, 3) := by decide +kernel
theorem dX6_execute_28 : decode cX6_execute 28 = .ok (.invokevirtual 62, 3) := by decide +kernel
theorem dX6_execute_31 : decode cX6_execute 31 = .ok (.iconst 0, 1) := by decide +kernel
theorem dX6_execute_32 : decode cX6_execute 32 = .ok (.istore_n 1, 1) := by decide +kernel
theorem dX6_execute_33 : decode cX6_execute 33 = .ok (.aload_n 0, 1) := by decide +kernel
theorem dX6_execute_34 : decode cX6_execute 34 = .ok (.getfield 39, 3) := by decide +kernel
theorem dX6_execute_37 : decode cX6_execute 37 = .ok (.invokevirtual 147, 3) := by decide +kernel
theorem dX6_execute_40 : decode cX6_execute 40 = .ok (.iload_n 1, 1) := by decide +kernel
theorem dX6_execute_41 : decode cX6_execute 41 = .ok (.bipush 60, 2) := by decide +kernel
theorem dX6_execute_43 : decode cX6_execute 43 = .ok (.if_icmp .ge 26, 3) := by decide +kernel
theorem dX6_execute_46 : decode cX6_execute 46 = .ok (.aload_n 0, 1) := by decide +kernel
theorem dX6_execute_47 : decode cX6_execute 47 = .ok (.getfield 39, 3) := by decide +kernel
theorem dX6_execute_50 : decode cX6_execute 50 = .ok (.invokevirtual 150, 3) := by decide +kernel
theorem dX6_execute_53 : decode cX6_execute 53 = .ok (.ifCond .eq 16, 3) := by decide +kernel
theorem dX6_execute_56 : decode cX6_execute 56 = .ok (.aload_n 0, 1) := by decide +kernel
theorem dX6_execute_57 : decode cX6_execute 57 = .ok (.invokevirtual 153, 3) := by decide +kernel
theorem dX6_execute_60 : decode cX6_execute 60 = .ok (.ifCond .eq 9, 3) := by decide +kernel
theorem dX6_execute_63 : decode cX6_execute 63 = .ok (.iinc 1 1, 3) := by decide +kernel
theorem dX6_execute_66 : decode cX6_execute 66 = .ok (.goto (-26), 3) := by decide +kernel
theorem dX6_execute_69 : decode cX6_execute 69 = .ok (.aload_n 0, 1) := by decide +kernel
theorem dX6_execute_70 : decode cX6_execute 70 = .ok (.getfield 39, 3) := by decide +kernel
theorem dX6_execute_73 : decode cX6_execute 73 = .ok (.iconst 0, 1) := by decide +kernel
theorem dX6_execute_74 : decode cX6_execute 74 = .ok (.putfield 132, 3) := by decide +kernel
theorem dX6_execute_77 : decode cX6_execute 77 = .ok (.iload_n 1, 1) := by decide +kernel
theorem dX6_execute_78 : decode cX6_execute 78 = .ok (.ireturn, 1) := by decide +kernel
theorem dX6_undo_0 : decode cX6_undo 0 = .ok (.aload_n 0, 1) := by decide +kernel
theorem dX6_undo_1 : decode cX6_undo 1 = .ok (.getfield 22, 3) := by decide +kernel
theorem dX6_undo_4 : decode cX6_undo 4 = .ok (.getfield 156, 3) := by decide +kernel
theorem dX6_undo_7 : decode cX6_undo 7 = .ok (.ifCond .ne 13, 3) := by decide +kernel
theorem dX6_undo_10 : decode cX6_undo 10 = .ok (.new 55, 3) := by decide +kernel
theorem dX6_undo_13 : decode cX6_undo 13 = .ok (.dup, 1) := by decide +kernel
theorem dX6_undo_14 : decode cX6_undo 14 = .ok (.ldc 159, 2) := by decide +kernel
theorem dX6_undo_16 : decode cX6_undo 16 = .ok (.invokespecial 59, 3) := by decide +kernel
theorem dX6_undo_19 : decode cX6_undo 19 = .ok (.athrow, 1) := by decide +kernel
theorem dX6_undo_20 : decode cX6_undo 20 = .ok (.aload_n 0, 1) := by decide +kernel
theorem dX6_undo_21 : decode cX6_undo 21 = .ok (.getfield 22, 3) := by decide +kernel
theorem dX6_undo_24 : decode cX6_undo 24 = .ok (.aload_n 0, 1) := by decide +kernel
theorem dX6_undo_25 : decode cX6_undo 25 = .ok (.getfield 10, 3) := by decide +kernel
theorem dX6_undo_28 : decode cX6_undo 28 = .ok (.invokevirtual 161, 3) := by decide +kernel
theorem dX6_undo_31 : decode cX6_undo 31 = .ok (.aload_n 0, 1) := by decide +kernel
theorem dX6_undo_32 : decode cX6_undo 32 = .ok (.getfield 22, 3) := by decide +kernel
theorem dX6_undo_35 : decode cX6_undo 35 = .ok (.getfield 156, 3) := by decide +kernel
theorem dX6_undo_38 : decode cX6_undo 38 = .ok (.ireturn, 1) := by decide +kernel
theorem dX6_keep_0 : decode cX6_keep 0 = .ok (.iload_n 1, 1) := by decide +kernel
theorem dX6_keep_1 : decode cX6_keep 1 = .ok (.iconst 0, 1) := by decide +kernel
theorem dX6_keep_2 : decode cX6_keep 2 = .ok (.iconst 1, 1) := by decide +kernel
theorem dX6_keep_3 : decode cX6_keep 3 = .ok (.invokestatic 47, 3) := by decide +kernel
theorem dX6_keep_6 : decode cX6_keep 6 = .ok (.aload_n 0, 1) := by decide +kernel
theorem dX6_keep_7 : decode cX6_keep 7 = .ok (.iload_n 1, 1) := by decide +kernel
theorem dX6_keep_8 : decode cX6_keep 8 = .ok (.invokevirtual 164, 3) := by decide +kernel
theorem dX6_keep_11 : decode cX6_keep 11 = .ok (.aload_n 0, 1) := by decide +kernel
theorem dX6_keep_12 : decode cX6_keep 12 = .ok (.getfield 10, 3) := by decide +kernel
theorem dX6_keep_15 : decode cX6_keep 15 = .ok (.invokevirtual 168, 3) := by decide +kernel
theorem dX6_keep_18 : decode cX6_keep 18 = .ok (.aload_n 0, 1) := by decide +kernel
theorem dX6_keep_19 : decode cX6_keep 19 = .ok (.getfield 10, 3) := by decide +kernel
theorem dX6_keep_22 : decode cX6_keep 22 = .ok (.getfield 171, 3) := by decide +kernel
theorem dX6_keep_25 : decode cX6_keep 25 = .ok (.ireturn, 1) := by decide +kernel
theorem dX6_goBack_0 : decode cX6_goBack 0 = .ok (.iload_n 1, 1) := by decide +kernel
theorem dX6_goBack_1 : decode cX6_goBack 1 = .ok (.iconst 0, 1) := by decide +kernel
theorem dX6_goBack_2 : decode cX6_goBack 2 = .ok (.iconst 1, 1) := by decide +kernel
theorem dX6_goBack_3 : decode cX6_goBack 3 = .ok (.invokestatic 47, 3) := by decide +kernel
theorem dX6_goBack_6 : decode cX6_goBack 6 = .ok (.aload_n 0, 1) := by decide +kernel
theorem dX6_goBack_7 : decode cX6_goBack 7 = .ok (.iload_n 1, 1) := by decide +kernel
theorem dX6_goBack_8 : decode cX6_goBack 8 = .ok (.invokevirtual 164, 3) := by decide +kernel
theorem dX6_goBack_11 : decode cX6_goBack 11 = .ok (.getfield 174, 3) := by decide +kernel
theorem dX6_goBack_14 : decode cX6_goBack 14 = .ok (.ifCond .ne 13, 3) := by decide +kernel
theorem dX6_goBack_17 : decode cX6_goBack 17 = .ok (.new 55, 3) := by decide +kernel
theorem dX6_goBack_20 : decode cX6_goBack 20 = .ok (.dup, 1) := by decide +kernel
theorem dX6_goBack_21 : decode cX6_goBack 21 = .ok (.ldc 178, 2) := by decide +kernel
theorem dX6_goBack_23 : decode cX6_goBack 23 = .ok (.invokespecial 59, 3) := by decide +kernel
theorem dX6_goBack_26 : decode cX6_goBack 26 = .ok (.athrow, 1) := by decide +kernel
theorem dX6_goBack_27 : decode cX6_goBack 27 = .ok (.aload_n 0, 1) := by decide +kernel
theorem dX6_goBack_28 : decode cX6_goBack 28 = .ok (.getfield 22, 3) := by decide +kernel
theorem dX6_goBack_31 : decode cX6_goBack 31 = .ok (.aload_n 0, 1) := by decide +kernel
theorem dX6_goBack_32 : decode cX6_goBack 32 = .ok (.getfield 10, 3) := by decide +kernel
theorem dX6_goBack_35 : decode cX6_goBack 35 = .ok (.invokevirtual 62, 3) := by decide +kernel
theorem dX6_goBack_38 : decode cX6_goBack 38 = .ok (.aload_n 0, 1) := by decide +kernel
theorem dX6_goBack_39 : decode cX6_goBack 39 = .ok (.getfield 10, 3) := by decide +kernel
theorem dX6_goBack_42 : decode cX6_goBack 42 = .ok (.aload_n 0, 1) := by decide +kernel
theorem dX6_goBack_43 : decode cX6_goBack 43 = .ok (.iload_n 1, 1) := by decide +kernel
theorem dX6_goBack_44 : decode cX6_goBack 44 = .ok (.invokevirtual 164, 3) := by decide +kernel
theorem dX6_goBack_47 : decode cX6_goBack 47 = .ok (.getfield 180, 3) := by decide +kernel
theorem dX6_goBack_50 : decode cX6_goBack 50 = .ok (.invokevirtual 183, 3) := by decide +kernel
theorem dX6_goBack_53 : decode cX6_goBack 53 = .ok (.aload_n 0, 1) := by decide +kernel
theorem dX6_goBack_54 : decode cX6_goBack 54 = .ok (.getfield 10, 3) := by decide +kernel
theorem dX6_goBack_57 : decode cX6_goBack 57 = .ok (.getfield 171, 3) := by decide +kernel
theorem dX6_goBack_60 : decode cX6_goBack 60 = .ok (.ireturn, 1) := by decide +kernel
theorem dX6_ofThermometer_0 : decode cX6_ofThermometer 0 = .ok (.aload_n 0, 1) := by decide +kernel
theorem dX6_ofThermometer_1 : decode cX6_ofThermometer 1 = .ok (.iload_n 1, 1) := by decide +kernel
theorem dX6_ofThermometer_2 : decode cX6_ofThermometer 2 = .ok (.invokevirtual 91, 3) := by decide +kernel
theorem dX6_ofThermometer_5 : decode cX6_ofThermometer 5 = .ok (.iload_n 2, 1) := by decide +kernel
theorem dX6_ofThermometer_6 : decode cX6_ofThermometer 6 = .ok (.iconst 0, 1) := by decide +kernel
theorem dX6_ofThermometer_7 : decode cX6_ofThermometer 7 = .ok (.bipush 9, 2) := by decide +kernel
theorem dX6_ofThermometer_9 : decode cX6_ofThermometer 9 = .ok (.invokestatic 47, 3) := by decide +kernel
theorem dX6_ofThermometer_12 : decode cX6_ofThermometer 12 = .ok (.aload_n 0, 1) := by decide +kernel
theorem dX6_ofThermometer_13 : decode cX6_ofThermometer 13 = .ok (.getfield 10, 3) := by decide +kernel
theorem dX6_ofThermometer_16 : decode cX6_ofThermometer 16 = .ok (.iload_n 1, 1) := by decide +kernel
theorem dX6_ofThermometer_17 : decode cX6_ofThermometer 17 = .ok (.invokevirtual 94, 3) := by decide +kernel
theorem dX6_ofThermometer_20 : decode cX6_ofThermometer 20 = .ok (.iload_n 2, 1) := by decide +kernel
theorem dX6_ofThermometer_21 : decode cX6_ofThermometer 21 = .ok (.invokevirtual 186, 3) := by decide +kernel
theorem dX6_ofThermometer_24 : decode cX6_ofThermometer 24 = .ok (.ireturn, 1) := by decide +kernel
theorem dX6_reading_0 : decode cX6_reading 0 = .ok (.aload_n 0, 1) := by decide +kernel
theorem dX6_reading_1 : decode cX6_reading 1 = .ok (.iload_n 1, 1) := by decide +kernel
theorem dX6_reading_2 : decode cX6_reading 2 = .ok (.invokevirtual 91, 3) := by decide +kernel
theorem dX6_reading_5 : decode cX6_reading 5 = .ok (.iload_n 2, 1) := by decide +kernel
theorem dX6_reading_6 : decode cX6_reading 6 = .ok (.iconst 0, 1) := by decide +kernel
theorem dX6_reading_7 : decode cX6_reading 7 = .ok (.ldc 191, 2) := by decide +kernel
theorem dX6_reading_9 : decode cX6_reading 9 = .ok (.invokestatic 47, 3) := by decide +kernel
theorem dX6_reading_12 : decode cX6_reading 12 = .ok (.iload_n 3, 1) := by decide +kernel
theorem dX6_reading_13 : decode cX6_reading 13 = .ok (.iconst 0, 1) := by decide +kernel
theorem dX6_reading_14 : decode cX6_reading 14 = .ok (.iconst 1, 1) := by decide +kernel
theorem dX6_reading_15 : decode cX6_reading 15 = .ok (.invokestatic 47, 3) := by decide +kernel
theorem dX6_reading_18 : decode cX6_reading 18 = .ok (.aload_n 0, 1) := by decide +kernel
theorem dX6_reading_19 : decode cX6_reading 19 = .ok (.getfield 10, 3) := by decide +kernel
theorem dX6_reading_22 : decode cX6_reading 22 = .ok (.iload_n 1, 1) := by decide +kernel
theorem dX6_reading_23 : decode cX6_reading 23 = .ok (.invokevirtual 94, 3) := by decide +kernel
theorem dX6_reading_26 : decode cX6_reading 26 = .ok (.astore 4, 2) := by decide +kernel
theorem dX6_reading_28 : decode cX6_reading 28 = .ok (.iload_n 3, 1) := by decide +kernel
theorem dX6_reading_29 : decode cX6_reading 29 = .ok (.ifCond .ne 12, 3) := by decide +kernel
theorem dX6_reading_32 : decode cX6_reading 32 = .ok (.aload 4, 2) := by decide +kernel
theorem dX6_reading_34 : decode cX6_reading 34 = .ok (.iload_n 2, 1) := by decide +kernel
theorem dX6_reading_35 : decode cX6_reading 35 = .ok (.invokevirtual 192, 3) := by decide +kernel
theorem dX6_reading_38 : decode cX6_reading 38 = .ok (.goto 9, 3) := by decide +kernel
theorem dX6_reading_41 : decode cX6_reading 41 = .ok (.aload 4, 2) := by decide +kernel
theorem dX6_reading_43 : decode cX6_reading 43 = .ok (.iload_n 2, 1) := by decide +kernel
theorem dX6_reading_44 : decode cX6_reading 44 = .ok (.invokevirtual 195, 3) := by decide +kernel
theorem dX6_reading_47 : decode cX6_reading 47 = .ok (.ireturn, 1) := by decide +kernel
theorem dX6_row_0 : decode cX6_row 0 = .ok (.iload_n 1, 1) := by decide +kernel
theorem dX6_row_1 : decode cX6_row 1 = .ok (.invokestatic 43, 3) := by decide +kernel
theorem dX6_row_4 : decode cX6_row 4 = .ok (.iload_n 2, 1) := by decide +kernel
theorem dX6_row_5 : decode cX6_row 5 = .ok (.iconst 0, 1) := by decide +kernel
theorem dX6_row_6 : decode cX6_row 6 = .ok (.iconst 3, 1) := by decide +kernel
theorem dX6_row_7 : decode cX6_row 7 = .ok (.invokestatic 47, 3) := by decide +kernel
theorem dX6_row_10 : decode cX6_row 10 = .ok (.iload_n 2, 1) := by decide +kernel
theorem dX6_row_11 : decode cX6_row 11 = .ok (.tableswitch 52 0 2 #[25, 34, 43], 25) := by decide +kernel
theorem dX6_row_36 : decode cX6_row 36 = .ok (.aload_n 0, 1) := by decide +kernel
theorem dX6_row_37 : decode cX6_row 37 = .ok (.getfield 10, 3) := by decide +kernel
theorem dX6_row_40 : decode cX6_row 40 = .ok (.iload_n 1, 1) := by decide +kernel
theorem dX6_row_41 : decode cX6_row 41 = .ok (.invokevirtual 85, 3) := by decide +kernel
theorem dX6_row_44 : decode cX6_row 44 = .ok (.ireturn, 1) := by decide +kernel
theorem dX6_row_45 : decode cX6_row 45 = .ok (.aload_n 0, 1) := by decide +kernel
theorem dX6_row_46 : decode cX6_row 46 = .ok (.getfield 10, 3) := by decide +kernel
theorem dX6_row_49 : decode cX6_row 49 = .ok (.iload_n 1, 1) := by decide +kernel
theorem dX6_row_50 : decode cX6_row 50 = .ok (.invokevirtual 198, 3) := by decide +kernel
theorem dX6_row_53 : decode cX6_row 53 = .ok (.ireturn, 1) := by decide +kernel
theorem dX6_row_54 : decode cX6_row 54 = .ok (.aload_n 0, 1) := by decide +kernel
theorem dX6_row_55 : decode cX6_row 55 = .ok (.getfield 10, 3) := by decide +kernel
theorem dX6_row_58 : decode cX6_row 58 = .ok (.iload_n 1, 1) := by decide +kernel
theorem dX6_row_59 : decode cX6_row 59 = .ok (.invokevirtual 201, 3) := by decide +kernel
theorem dX6_row_62 : decode cX6_row 62 = .ok (.ireturn, 1) := by decide +kernel
theorem dX6_row_63 : decode cX6_row 63 = .ok (.aload_n 0, 1) := by decide +kernel
theorem dX6_row_64 : decode cX6_row 64 = .ok (.getfield 10, 3) := by decide +kernel
theorem dX6_row_67 : decode cX6_row 67 = .ok (.iload_n 1, 1) := by decide +kernel
theorem dX6_row_68 : decode cX6_row 68 = .ok (.invokevirtual 204, 3) := by decide +kernel
theorem dX6_row_71 : decode cX6_row 71 = .ok (.ireturn, 1) := by decide +kernel
theorem dX6_count_0 : decode cX6_count 0 = .ok (.iload_n 1, 1) := by decide +kernel
theorem dX6_count_1 : decode cX6_count 1 = .ok (.iconst 0, 1) := by decide +kernel
theorem dX6_count_2 : decode cX6_count 2 = .ok (.bipush 13, 2) := by decide +kernel
theorem dX6_count_4 : decode cX6_count 4 = .ok (.invokestatic 47, 3) := by decide +kernel
theorem dX6_count_7 : decode cX6_count 7 = .ok (.iload_n 1, 1) := by decide +kernel
theorem dX6_count_8 : decode cX6_count 8 = .ok (.tableswitch 173 0 12 #[68, 76, 84, 92, 100, 108, 116, 124, 133, 141, 149, 157, 165], 68) := by decide +kernel
theorem dX6_count_76 : decode cX6_count 76 = .ok (.aload_n 0, 1) := by decide +kernel
theorem dX6_count_77 : decode cX6_count 77 = .ok (.getfield 10, 3) := by decide +kernel
theorem dX6_count_80 : decode cX6_count 80 = .ok (.getfield 171, 3) := by decide +kernel
theorem dX6_count_83 : decode cX6_count 83 = .ok (.ireturn, 1) := by decide +kernel
theorem dX6_count_84 : decode cX6_count 84 = .ok (.aload_n 0, 1) := by decide +kernel
theorem dX6_count_85 : decode cX6_count 85 = .ok (.getfield 10, 3) := by decide +kernel
theorem dX6_count_88 : decode cX6_count 88 = .ok (.getfield 207, 3) := by decide +kernel
theorem dX6_count_91 : decode cX6_count 91 = .ok (.ireturn, 1) := by decide +kernel
theorem dX6_count_92 : decode cX6_count 92 = .ok (.aload_n 0, 1) := by decide +kernel
theorem dX6_count_93 : decode cX6_count 93 = .ok (.getfield 10, 3) := by decide +kernel
theorem dX6_count_96 : decode cX6_count 96 = .ok (.getfield 81, 3) := by decide +kernel
theorem dX6_count_99 : decode cX6_count 99 = .ok (.ireturn, 1) := by decide +kernel
theorem dX6_count_100 : decode cX6_count 100 = .ok (.aload_n 0, 1) := by decide +kernel
theorem dX6_count_101 : decode cX6_count 101 = .ok (.getfield 10, 3) := by decide +kernel
theorem dX6_count_104 : decode cX6_count 104 = .ok (.invokevirtual 208, 3) := by decide +kernel
theorem dX6_count_107 : decode cX6_count 107 = .ok (.ireturn, 1) := by decide +kernel
theorem dX6_count_108 : decode cX6_count 108 = .ok (.aload_n 0, 1) := by decide +kernel
theorem dX6_count_109 : decode cX6_count 109 = .ok (.getfield 10, 3) := by decide +kernel
theorem dX6_count_112 : decode cX6_count 112 = .ok (.invokevirtual 211, 3) := by decide +kernel
theorem dX6_count_115 : decode cX6_count 115 = .ok (.ireturn, 1) := by decide +kernel
theorem dX6_count_116 : decode cX6_count 116 = .ok (.aload_n 0, 1) := by decide +kernel
theorem dX6_count_117 : decode cX6_count 117 = .ok (.getfield 10, 3) := by decide +kernel
theorem dX6_count_120 : decode cX6_count 120 = .ok (.invokevirtual 214, 3) := by decide +kernel
theorem dX6_count_123 : decode cX6_count 123 = .ok (.ireturn, 1) := by decide +kernel
theorem dX6_count_124 : decode cX6_count 124 = .ok (.aload_n 0, 1) := by decide +kernel
theorem dX6_count_125 : decode cX6_count 125 = .ok (.getfield 10, 3) := by decide +kernel
theorem dX6_count_128 : decode cX6_count 128 = .ok (.invokevirtual 217, 3) := by decide +kernel
theorem dX6_count_131 : decode cX6_count 131 = .ok (.ireturn, 1) := by decide +kernel
theorem dX6_count_132 : decode cX6_count 132 = .ok (.aload_n 0, 1) := by decide +kernel
theorem dX6_count_133 : decode cX6_count 133 = .ok (.getfield 10, 3) := by decide +kernel
theorem dX6_count_136 : decode cX6_count 136 = .ok (.iconst (-1), 1) := by decide +kernel
theorem dX6_count_137 : decode cX6_count 137 = .ok (.invokevirtual 220, 3) := by decide +kernel
theorem dX6_count_140 : decode cX6_count 140 = .ok (.ireturn, 1) := by decide +kernel
theorem dX6_count_141 : decode cX6_count 141 = .ok (.aload_n 0, 1) := by decide +kernel
theorem dX6_count_142 : decode cX6_count 142 = .ok (.getfield 10, 3) := by decide +kernel
theorem dX6_count_145 : decode cX6_count 145 = .ok (.getfield 223, 3) := by decide +kernel
theorem dX6_count_148 : decode cX6_count 148 = .ok (.ireturn, 1) := by decide +kernel
theorem dX6_count_149 : decode cX6_count 149 = .ok (.aload_n 0, 1) := by decide +kernel
theorem dX6_count_150 : decode cX6_count 150 = .ok (.getfield 10, 3) := by decide +kernel
theorem dX6_count_153 : decode cX6_count 153 = .ok (.getfield 226, 3) := by decide +kernel
theorem dX6_count_156 : decode cX6_count 156 = .ok (.ireturn, 1) := by decide +kernel
theorem dX6_count_157 : decode cX6_count 157 = .ok (.aload_n 0, 1) := by decide +kernel
theorem dX6_count_158 : decode cX6_count 158 = .ok (.getfield 22, 3) := by decide +kernel
theorem dX6_count_161 : decode cX6_count 161 = .ok (.getfield 156, 3) := by decide +kernel
theorem dX6_count_164 : decode cX6_count 164 = .ok (.ireturn, 1) := by decide +kernel
theorem dX6_count_165 : decode cX6_count 165 = .ok (.aload_n 0, 1) := by decide +kernel
theorem dX6_count_166 : decode cX6_count 166 = .ok (.getfield 39, 3) := by decide +kernel
theorem dX6_count_169 : decode cX6_count 169 = .ok (.getfield 132, 3) := by decide +kernel
theorem dX6_count_172 : decode cX6_count 172 = .ok (.ireturn, 1) := by decide +kernel
theorem dX6_count_173 : decode cX6_count 173 = .ok (.aload_n 0, 1) := by decide +kernel
theorem dX6_count_174 : decode cX6_count 174 = .ok (.getfield 10, 3) := by decide +kernel
theorem dX6_count_177 : decode cX6_count 177 = .ok (.getfield 117, 3) := by decide +kernel
theorem dX6_count_180 : decode cX6_count 180 = .ok (.ireturn, 1) := by decide +kernel
theorem dX6_count_181 : decode cX6_count 181 = .ok (.aload_n 0, 1) := by decide +kernel
theorem dX6_count_182 : decode cX6_count 182 = .ok (.getfield 10, 3) := by decide +kernel
theorem dX6_count_185 : decode cX6_count 185 = .ok (.getfield 120, 3) := by decide +kernel
theorem dX6_count_188 : decode cX6_count 188 = .ok (.ireturn, 1) := by decide +kernel
theorem dX6_ranked_0 : decode cX6_ranked 0 = .ok (.iload_n 1, 1) := by decide +kernel
theorem dX6_ranked_1 : decode cX6_ranked 1 = .ok (.iconst 0, 1) := by decide +kernel
theorem dX6_ranked_2 : decode cX6_ranked 2 = .ok (.iconst 1, 1) := by decide +kernel
theorem dX6_ranked_3 : decode cX6_ranked 3 = .ok (.invokestatic 47, 3) := by decide +kernel
theorem dX6_ranked_6 : decode cX6_ranked 6 = .ok (.iload_n 2, 1) := by decide +kernel
theorem dX6_ranked_7 : decode cX6_ranked 7 = .ok (.iconst 0, 1) := by decide +kernel
theorem dX6_ranked_8 : decode cX6_ranked 8 = .ok (.ldc 191, 2) := by decide +kernel
theorem dX6_ranked_10 : decode cX6_ranked 10 = .ok (.invokestatic 47, 3) := by decide +kernel
theorem dX6_ranked_13 : decode cX6_ranked 13 = .ok (.aload_n 0, 1) := by decide +kernel
theorem dX6_ranked_14 : decode cX6_ranked 14 = .ok (.getfield 10, 3) := by decide +kernel
theorem dX6_ranked_17 : decode cX6_ranked 17 = .ok (.iload_n 1, 1) := by decide +kernel
theorem dX6_ranked_18 : decode cX6_ranked 18 = .ok (.iload_n 2, 1) := by decide +kernel
theorem dX6_ranked_19 : decode cX6_ranked 19 = .ok (.invokevirtual 229, 3) := by decide +kernel
theorem dX6_ranked_22 : decode cX6_ranked 22 = .ok (.ireturn, 1) := by decide +kernel
theorem dX6_between_0 : decode cX6_between 0 = .ok (.aload_n 0, 1) := by decide +kernel
theorem dX6_between_1 : decode cX6_between 1 = .ok (.getfield 10, 3) := by decide +kernel
theorem dX6_between_4 : decode cX6_between 4 = .ok (.iload_n 1, 1) := by decide +kernel
theorem dX6_between_5 : decode cX6_between 5 = .ok (.iload_n 2, 1) := by decide +kernel
theorem dX6_between_6 : decode cX6_between 6 = .ok (.invokevirtual 233, 3) := by decide +kernel
theorem dX6_between_9 : decode cX6_between 9 = .ok (.ireturn, 1) := by decide +kernel
theorem dX6_ifLag_0 : decode cX6_ifLag 0 = .ok (.aload_n 0, 1) := by decide +kernel
theorem dX6_ifLag_1 : decode cX6_ifLag 1 = .ok (.iload_n 1, 1) := by decide +kernel
theorem dX6_ifLag_2 : decode cX6_ifLag 2 = .ok (.invokevirtual 91, 3) := by decide +kernel
theorem dX6_ifLag_5 : decode cX6_ifLag 5 = .ok (.iload_n 2, 1) := by decide +kernel
theorem dX6_ifLag_6 : decode cX6_ifLag 6 = .ok (.iconst 1, 1) := by decide +kernel
theorem dX6_ifLag_7 : decode cX6_ifLag 7 = .ok (.bipush 9, 2) := by decide +kernel
theorem dX6_ifLag_9 : decode cX6_ifLag 9 = .ok (.invokestatic 47, 3) := by decide +kernel
theorem dX6_ifLag_12 : decode cX6_ifLag 12 = .ok (.aload_n 0, 1) := by decide +kernel
theorem dX6_ifLag_13 : decode cX6_ifLag 13 = .ok (.getfield 10, 3) := by decide +kernel
theorem dX6_ifLag_16 : decode cX6_ifLag 16 = .ok (.iload_n 1, 1) := by decide +kernel
theorem dX6_ifLag_17 : decode cX6_ifLag 17 = .ok (.invokevirtual 94, 3) := by decide +kernel
theorem dX6_ifLag_20 : decode cX6_ifLag 20 = .ok (.iload_n 2, 1) := by decide +kernel
theorem dX6_ifLag_21 : decode cX6_ifLag 21 = .ok (.invokevirtual 236, 3) := by decide +kernel
theorem dX6_ifLag_24 : decode cX6_ifLag 24 = .ok (.ireturn, 1) := by decide +kernel
theorem dX6_bestLag_0 : decode cX6_bestLag 0 = .ok (.aload_n 0, 1) := by decide +kernel
theorem dX6_bestLag_1 : decode cX6_bestLag 1 = .ok (.iload_n 1, 1) := by decide +kernel
theorem dX6_bestLag_2 : decode cX6_bestLag 2 = .ok (.invokevirtual 91, 3) := by decide +kernel
theorem dX6_bestLag_5 : decode cX6_bestLag 5 = .ok (.aload_n 0, 1) := by decide +kernel
theorem dX6_bestLag_6 : decode cX6_bestLag 6 = .ok (.getfield 10, 3) := by decide +kernel
theorem dX6_bestLag_9 : decode cX6_bestLag 9 = .ok (.iload_n 1, 1) := by decide +kernel
theorem dX6_bestLag_10 : decode cX6_bestLag 10 = .ok (.invokevirtual 94, 3) := by decide +kernel
theorem dX6_bestLag_13 : decode cX6_bestLag 13 = .ok (.aload_n 0, 1) := by decide +kernel
theorem dX6_bestLag_14 : decode cX6_bestLag 14 = .ok (.getfield 10, 3) := by decide +kernel
theorem dX6_bestLag_17 : decode cX6_bestLag 17 = .ok (.getfield 81, 3) := by decide +kernel
theorem dX6_bestLag_20 : decode cX6_bestLag 20 = .ok (.invokevirtual 239, 3) := by decide +kernel
theorem dX6_bestLag_23 : decode cX6_bestLag 23 = .ok (.ireturn, 1) := by decide +kernel
theorem dX6_ifStill_0 : decode cX6_ifStill 0 = .ok (.iload_n 1, 1) := by decide +kernel
theorem dX6_ifStill_1 : decode cX6_ifStill 1 = .ok (.iconst 1, 1) := by decide +kernel
theorem dX6_ifStill_2 : decode cX6_ifStill 2 = .ok (.bipush 48, 2) := by decide +kernel
theorem dX6_ifStill_4 : decode cX6_ifStill 4 = .ok (.invokestatic 47, 3) := by decide +kernel
theorem dX6_ifStill_7 : decode cX6_ifStill 7 = .ok (.iload_n 2, 1) := by decide +kernel
theorem dX6_ifStill_8 : decode cX6_ifStill 8 = .ok (.iconst 0, 1) := by decide +kernel
theorem dX6_ifStill_9 : decode cX6_ifStill 9 = .ok (.iconst 3, 1) := by decide +kernel
theorem dX6_ifStill_10 : decode cX6_ifStill 10 = .ok (.invokestatic 47, 3) := by decide +kernel
theorem dX6_ifStill_13 : decode cX6_ifStill 13 = .ok (.aload_n 0, 1) := by decide +kernel
theorem dX6_ifStill_14 : decode cX6_ifStill 14 = .ok (.getfield 16, 3) := by decide +kernel
theorem dX6_ifStill_17 : decode cX6_ifStill 17 = .ok (.aload_n 0, 1) := by decide +kernel
theorem dX6_ifStill_18 : decode cX6_ifStill 18 = .ok (.getfield 10, 3) := by decide +kernel
theorem dX6_ifStill_21 : decode cX6_ifStill 21 = .ok (.invokevirtual 183, 3) := by decide +kernel
theorem dX6_ifStill_24 : decode cX6_ifStill 24 = .ok (.aload_n 0, 1) := by decide +kernel
theorem dX6_ifStill_25 : decode cX6_ifStill 25 = .ok (.getfield 16, 3) := by decide +kernel
theorem dX6_ifStill_28 : decode cX6_ifStill 28 = .ok (.iload_n 1, 1) := by decide +kernel
theorem dX6_ifStill_29 : decode cX6_ifStill 29 = .ok (.iconst 0, 1) := by decide +kernel
theorem dX6_ifStill_30 : decode cX6_ifStill 30 = .ok (.invokevirtual 77, 3) := by decide +kernel
theorem dX6_ifStill_33 : decode cX6_ifStill 33 = .ok (.iload_n 2, 1) := by decide +kernel
theorem dX6_ifStill_34 : decode cX6_ifStill 34 = .ok (.tableswitch 58 0 2 #[26, 34, 42], 26) := by decide +kernel
theorem dX6_ifStill_60 : decode cX6_ifStill 60 = .ok (.aload_n 0, 1) := by decide +kernel
theorem dX6_ifStill_61 : decode cX6_ifStill 61 = .ok (.getfield 16, 3) := by decide +kernel
theorem dX6_ifStill_64 : decode cX6_ifStill 64 = .ok (.invokevirtual 214, 3) := by decide +kernel
theorem dX6_ifStill_67 : decode cX6_ifStill 67 = .ok (.ireturn, 1) := by decide +kernel
theorem dX6_ifStill_68 : decode cX6_ifStill 68 = .ok (.aload_n 0, 1) := by decide +kernel
theorem dX6_ifStill_69 : decode cX6_ifStill 69 = .ok (.getfield 16, 3) := by decide +kernel
theorem dX6_ifStill_72 : decode cX6_ifStill 72 = .ok (.invokevirtual 211, 3) := by decide +kernel
theorem dX6_ifStill_75 : decode cX6_ifStill 75 = .ok (.ireturn, 1) := by decide +kernel
theorem dX6_ifStill_76 : decode cX6_ifStill 76 = .ok (.aload_n 0, 1) := by decide +kernel
theorem dX6_ifStill_77 : decode cX6_ifStill 77 = .ok (.getfield 16, 3) := by decide +kernel
theorem dX6_ifStill_80 : decode cX6_ifStill 80 = .ok (.getfield 226, 3) := by decide +kernel
theorem dX6_ifStill_83 : decode cX6_ifStill 83 = .ok (.aload_n 0, 1) := by decide +kernel
theorem dX6_ifStill_84 : decode cX6_ifStill 84 = .ok (.getfield 10, 3) := by decide +kernel
theorem dX6_ifStill_87 : decode cX6_ifStill 87 = .ok (.getfield 226, 3) := by decide +kernel
theorem dX6_ifStill_90 : decode cX6_ifStill 90 = .ok (.isub, 1) := by decide +kernel
theorem dX6_ifStill_91 : decode cX6_ifStill 91 = .ok (.ireturn, 1) := by decide +kernel
theorem dX6_ifStill_92 : decode cX6_ifStill 92 = .ok (.aload_n 0, 1) := by decide +kernel
theorem dX6_ifStill_93 : decode cX6_ifStill 93 = .ok (.getfield 16, 3) := by decide +kernel
theorem dX6_ifStill_96 : decode cX6_ifStill 96 = .ok (.invokevirtual 242, 3) := by decide +kernel
theorem dX6_ifStill_99 : decode cX6_ifStill 99 = .ok (.ireturn, 1) := by decide +kernel
theorem dX6_stillIn_0 : decode cX6_stillIn 0 = .ok (.aload_n 0, 1) := by decide +kernel
theorem dX6_stillIn_1 : decode cX6_stillIn 1 = .ok (.iload_n 1, 1) := by decide +kernel
theorem dX6_stillIn_2 : decode cX6_stillIn 2 = .ok (.invokevirtual 91, 3) := by decide +kernel
theorem dX6_stillIn_5 : decode cX6_stillIn 5 = .ok (.aload_n 0, 1) := by decide +kernel
theorem dX6_stillIn_6 : decode cX6_stillIn 6 = .ok (.getfield 10, 3) := by decide +kernel
theorem dX6_stillIn_9 : decode cX6_stillIn 9 = .ok (.iload_n 1, 1) := by decide +kernel
theorem dX6_stillIn_10 : decode cX6_stillIn 10 = .ok (.invokevirtual 94, 3) := by decide +kernel
theorem dX6_stillIn_13 : decode cX6_stillIn 13 = .ok (.aload_n 0, 1) := by decide +kernel
theorem dX6_stillIn_14 : decode cX6_stillIn 14 = .ok (.getfield 10, 3) := by decide +kernel
theorem dX6_stillIn_17 : decode cX6_stillIn 17 = .ok (.getfield 81, 3) := by decide +kernel
theorem dX6_stillIn_20 : decode cX6_stillIn 20 = .ok (.invokevirtual 245, 3) := by decide +kernel
theorem dX6_stillIn_23 : decode cX6_stillIn 23 = .ok (.ireturn, 1) := by decide +kernel
theorem dX6_meanError_0 : decode cX6_meanError 0 = .ok (.aload_n 0, 1) := by decide +kernel
theorem dX6_meanError_1 : decode cX6_meanError 1 = .ok (.getfield 10, 3) := by decide +kernel
theorem dX6_meanError_4 : decode cX6_meanError 4 = .ok (.ldc 248, 2) := by decide +kernel
theorem dX6_meanError_6 : decode cX6_meanError 6 = .ok (.ldc 191, 2) := by decide +kernel
theorem dX6_meanError_8 : decode cX6_meanError 8 = .ok (.invokevirtual 233, 3) := by decide +kernel
theorem dX6_meanError_11 : decode cX6_meanError 11 = .ok (.istore_n 1, 1) := by decide +kernel
theorem dX6_meanError_12 : decode cX6_meanError 12 = .ok (.iload_n 1, 1) := by decide +kernel
theorem dX6_meanError_13 : decode cX6_meanError 13 = .ok (.ifCond .ne 7, 3) := by decide +kernel
theorem dX6_meanError_16 : decode cX6_meanError 16 = .ok (.dconst 0, 1) := by decide +kernel
theorem dX6_meanError_17 : decode cX6_meanError 17 = .ok (.goto 14, 3) := by decide +kernel
theorem dX6_meanError_20 : decode cX6_meanError 20 = .ok (.aload_n 0, 1) := by decide +kernel
theorem dX6_meanError_21 : decode cX6_meanError 21 = .ok (.getfield 10, 3) := by decide +kernel
theorem dX6_meanError_24 : decode cX6_meanError 24 = .ok (.invokevirtual 249, 3) := by decide +kernel
theorem dX6_meanError_27 : decode cX6_meanError 27 = .ok (.i2d, 1) := by decide +kernel
theorem dX6_meanError_28 : decode cX6_meanError 28 = .ok (.iload_n 1, 1) := by decide +kernel
theorem dX6_meanError_29 : decode cX6_meanError 29 = .ok (.i2d, 1) := by decide +kernel
theorem dX6_meanError_30 : decode cX6_meanError 30 = .ok (.ddiv, 1) := by decide +kernel
theorem dX6_meanError_31 : decode cX6_meanError 31 = .ok (.dreturn, 1) := by decide +kernel
theorem dX6_checkRow_0 : decode cX6_checkRow 0 = .ok (.iload_n 0, 1) := by decide +kernel
theorem dX6_checkRow_1 : decode cX6_checkRow 1 = .ok (.ifCond .lt 8, 3) := by decide +kernel
theorem dX6_checkRow_4 : decode cX6_checkRow 4 = .ok (.iload_n 0, 1) := by decide +kernel
theorem dX6_checkRow_5 : decode cX6_checkRow 5 = .ok (.iconst 4, 1) := by decide +kernel
theorem dX6_checkRow_6 : decode cX6_checkRow 6 = .ok (.if_icmp .lt 13, 3) := by decide +kernel
theorem dX6_checkRow_9 : decode cX6_checkRow 9 = .ok (.new 112, 3) := by decide +kernel
theorem dX6_checkRow_12 : decode cX6_checkRow 12 = .ok (.dup, 1) := by decide +kernel
theorem dX6_checkRow_13 : decode cX6_checkRow 13 = .ok (.ldc 252, 2) := by decide +kernel
theorem dX6_checkRow_15 : decode cX6_checkRow 15 = .ok (.invokespecial 116, 3) := by decide +kernel
theorem dX6_checkRow_18 : decode cX6_checkRow 18 = .ok (.athrow, 1) := by decide +kernel
theorem dX6_checkRow_19 : decode cX6_checkRow 19 = .ok (.return_, 1) := by decide +kernel
theorem dX6_checkRange_0 : decode cX6_checkRange 0 = .ok (.iload_n 0, 1) := by decide +kernel
theorem dX6_checkRange_1 : decode cX6_checkRange 1 = .ok (.iload_n 1, 1) := by decide +kernel
theorem dX6_checkRange_2 : decode cX6_checkRange 2 = .ok (.if_icmp .lt 8, 3) := by decide +kernel
theorem dX6_checkRange_5 : decode cX6_checkRange 5 = .ok (.iload_n 0, 1) := by decide +kernel
theorem dX6_checkRange_6 : decode cX6_checkRange 6 = .ok (.iload_n 2, 1) := by decide +kernel
theorem dX6_checkRange_7 : decode cX6_checkRange 7 = .ok (.if_icmp .le 13, 3) := by decide +kernel
theorem dX6_checkRange_10 : decode cX6_checkRange 10 = .ok (.new 142, 3) := by decide +kernel
theorem dX6_checkRange_13 : decode cX6_checkRange 13 = .ok (.dup, 1) := by decide +kernel
theorem dX6_checkRange_14 : decode cX6_checkRange 14 = .ok (.ldc 254, 2) := by decide +kernel
theorem dX6_checkRange_16 : decode cX6_checkRange 16 = .ok (.invokespecial 146, 3) := by decide +kernel
theorem dX6_checkRange_19 : decode cX6_checkRange 19 = .ok (.athrow, 1) := by decide +kernel
theorem dX6_checkRange_20 : decode cX6_checkRange 20 = .ok (.return_, 1) := by decide +kernel
theorem dX6_checkThermometer_0 : decode cX6_checkThermometer 0 = .ok (.aload_n 0, 1) := by decide +kernel
theorem dX6_checkThermometer_1 : decode cX6_checkThermometer 1 = .ok (.getfield 10, 3) := by decide +kernel
theorem dX6_checkThermometer_4 : decode cX6_checkThermometer 4 = .ok (.iload_n 1, 1) := by decide +kernel
theorem dX6_checkThermometer_5 : decode cX6_checkThermometer 5 = .ok (.invokevirtual 256, 3) := by decide +kernel
theorem dX6_checkThermometer_8 : decode cX6_checkThermometer 8 = .ok (.ifCond .ne 14, 3) := by decide +kernel
theorem dX6_checkThermometer_11 : decode cX6_checkThermometer 11 = .ok (.new 112, 3) := by decide +kernel
theorem dX6_checkThermometer_14 : decode cX6_checkThermometer 14 = .ok (.dup, 1) := by decide +kernel
theorem dX6_checkThermometer_15 : decode cX6_checkThermometer 15 = .ok (.ldc_w 260, 3) := by decide +kernel
theorem dX6_checkThermometer_18 : decode cX6_checkThermometer 18 = .ok (.invokespecial 116, 3) := by decide +kernel
theorem dX6_checkThermometer_21 : decode cX6_checkThermometer 21 = .ok (.athrow, 1) := by decide +kernel
theorem dX6_checkThermometer_22 : decode cX6_checkThermometer 22 = .ok (.return_, 1) := by decide +kernel
theorem dX6_checkHoursLeft_0 : decode cX6_checkHoursLeft 0 = .ok (.aload_n 0, 1) := by decide +kernel
theorem dX6_checkHoursLeft_1 : decode cX6_checkHoursLeft 1 = .ok (.getfield 10, 3) := by decide +kernel
theorem dX6_checkHoursLeft_4 : decode cX6_checkHoursLeft 4 = .ok (.iload_n 1, 1) := by decide +kernel
theorem dX6_checkHoursLeft_5 : decode cX6_checkHoursLeft 5 = .ok (.invokevirtual 262, 3) := by decide +kernel
theorem dX6_checkHoursLeft_8 : decode cX6_checkHoursLeft 8 = .ok (.ifCond .ne 14, 3) := by decide +kernel
theorem dX6_checkHoursLeft_11 : decode cX6_checkHoursLeft 11 = .ok (.new 55, 3) := by decide +kernel
theorem dX6_checkHoursLeft_14 : decode cX6_checkHoursLeft 14 = .ok (.dup, 1) := by decide +kernel
theorem dX6_checkHoursLeft_15 : decode cX6_checkHoursLeft 15 = .ok (.ldc_w 265, 3) := by decide +kernel
theorem dX6_checkHoursLeft_18 : decode cX6_checkHoursLeft 18 = .ok (.invokespecial 59, 3) := by decide +kernel
theorem dX6_checkHoursLeft_21 : decode cX6_checkHoursLeft 21 = .ok (.athrow, 1) := by decide +kernel
theorem dX6_checkHoursLeft_22 : decode cX6_checkHoursLeft 22 = .ok (.return_, 1) := by decide +kernel
theorem dX6_snapshotIn_0 : decode cX6_snapshotIn 0 = .ok (.iload_n 1, 1) := by decide +kernel
theorem dX6_snapshotIn_1 : decode cX6_snapshotIn 1 = .ok (.ifCond .ne 10, 3) := by decide +kernel
theorem dX6_snapshotIn_4 : decode cX6_snapshotIn 4 = .ok (.aload_n 0, 1) := by decide +kernel
theorem dX6_snapshotIn_5 : decode cX6_snapshotIn 5 = .ok (.getfield 29, 3) := by decide +kernel
theorem dX6_snapshotIn_8 : decode cX6_snapshotIn 8 = .ok (.goto 7, 3) := by decide +kernel
theorem dX6_snapshotIn_11 : decode cX6_snapshotIn 11 = .ok (.aload_n 0, 1) := by decide +kernel
theorem dX6_snapshotIn_12 : decode cX6_snapshotIn 12 = .ok (.getfield 33, 3) := by decide +kernel
theorem dX6_snapshotIn_15 : decode cX6_snapshotIn 15 = .ok (.areturn, 1) := by decide +kernel
theorem dX6_carriesOut_0 : decode cX6_carriesOut 0 = .ok (.aload_n 0, 1) := by decide +kernel
theorem dX6_carriesOut_1 : decode cX6_carriesOut 1 = .ok (.getfield 39, 3) := by decide +kernel
theorem dX6_carriesOut_4 : decode cX6_carriesOut 4 = .ok (.getfield 267, 3) := by decide +kernel
theorem dX6_carriesOut_7 : decode cX6_carriesOut 7 = .ok (.lookupswitch 133 #[(104, 77), (112, 110), (116, 33)], 33) := by decide +kernel
theorem dX6_carriesOut_40 : decode cX6_carriesOut 40 = .ok (.aload_n 0, 1) := by decide +kernel
theorem dX6_carriesOut_41 : decode cX6_carriesOut 41 = .ok (.getfield 10, 3) := by decide +kernel
theorem dX6_carriesOut_44 : decode cX6_carriesOut 44 = .ok (.invokevirtual 51, 3) := by decide +kernel
theorem dX6_carriesOut_47 : decode cX6_carriesOut 47 = .ok (.ifCond .ne 5, 3) := by decide +kernel
theorem dX6_carriesOut_50 : decode cX6_carriesOut 50 = .ok (.iconst 0, 1) := by decide +kernel
theorem dX6_carriesOut_51 : decode cX6_carriesOut 51 = .ok (.ireturn, 1) := by decide +kernel
theorem dX6_carriesOut_52 : decode cX6_carriesOut 52 = .ok (.aload_n 0, 1) := by decide +kernel
theorem dX6_carriesOut_53 : decode cX6_carriesOut 53 = .ok (.getfield 10, 3) := by decide +kernel
theorem dX6_carriesOut_56 : decode cX6_carriesOut 56 = .ok (.aload_n 0, 1) := by decide +kernel
theorem dX6_carriesOut_57 : decode cX6_carriesOut 57 = .ok (.getfield 39, 3) := by decide +kernel
theorem dX6_carriesOut_60 : decode cX6_carriesOut 60 = .ok (.getfield 271, 3) := by decide +kernel
theorem dX6_carriesOut_63 : decode cX6_carriesOut 63 = .ok (.aload_n 0, 1) := by decide +kernel
theorem dX6_carriesOut_64 : decode cX6_carriesOut 64 = .ok (.getfield 39, 3) := by decide +kernel
theorem dX6_carriesOut_67 : decode cX6_carriesOut 67 = .ok (.getfield 274, 3) := by decide +kernel
theorem dX6_carriesOut_70 : decode cX6_carriesOut 70 = .ok (.iconst 0, 1) := by decide +kernel
theorem dX6_carriesOut_71 : decode cX6_carriesOut 71 = .ok (.aload_n 0, 1) := by decide +kernel
theorem dX6_carriesOut_72 : decode cX6_carriesOut 72 = .ok (.getfield 39, 3) := by decide +kernel
theorem dX6_carriesOut_75 : decode cX6_carriesOut 75 = .ok (.getfield 277, 3) := by decide +kernel
theorem dX6_carriesOut_78 : decode cX6_carriesOut 78 = .ok (.invokevirtual 66, 3) := by decide +kernel
theorem dX6_carriesOut_81 : decode cX6_carriesOut 81 = .ok (.pop, 1) := by decide +kernel
theorem dX6_carriesOut_82 : decode cX6_carriesOut 82 = .ok (.iconst 1, 1) := by decide +kernel
theorem dX6_carriesOut_83 : decode cX6_carriesOut 83 = .ok (.ireturn, 1) := by decide +kernel
theorem dX6_carriesOut_84 : decode cX6_carriesOut 84 = .ok (.aload_n 0, 1) := by decide +kernel
theorem dX6_carriesOut_85 : decode cX6_carriesOut 85 = .ok (.getfield 10, 3) := by decide +kernel
theorem dX6_carriesOut_88 : decode cX6_carriesOut 88 = .ok (.iconst 1, 1) := by decide +kernel
theorem dX6_carriesOut_89 : decode cX6_carriesOut 89 = .ok (.invokevirtual 262, 3) := by decide +kernel
theorem dX6_carriesOut_92 : decode cX6_carriesOut 92 = .ok (.ifCond .ne 5, 3) := by decide +kernel
theorem dX6_carriesOut_95 : decode cX6_carriesOut 95 = .ok (.iconst 0, 1) := by decide +kernel
theorem dX6_carriesOut_96 : decode cX6_carriesOut 96 = .ok (.ireturn, 1) := by decide +kernel
theorem dX6_carriesOut_97 : decode cX6_carriesOut 97 = .ok (.aload_n 0, 1) := by decide +kernel
theorem dX6_carriesOut_98 : decode cX6_carriesOut 98 = .ok (.getfield 10, 3) := by decide +kernel
theorem dX6_carriesOut_101 : decode cX6_carriesOut 101 = .ok (.aload_n 0, 1) := by decide +kernel
theorem dX6_carriesOut_102 : decode cX6_carriesOut 102 = .ok (.getfield 39, 3) := by decide +kernel
theorem dX6_carriesOut_105 : decode cX6_carriesOut 105 = .ok (.getfield 274, 3) := by decide +kernel
theorem dX6_carriesOut_108 : decode cX6_carriesOut 108 = .ok (.bipush 100, 2) := by decide +kernel
theorem dX6_carriesOut_110 : decode cX6_carriesOut 110 = .ok (.imul, 1) := by decide +kernel
theorem dX6_carriesOut_111 : decode cX6_carriesOut 111 = .ok (.invokevirtual 73, 3) := by decide +kernel
theorem dX6_carriesOut_114 : decode cX6_carriesOut 114 = .ok (.pop, 1) := by decide +kernel
theorem dX6_carriesOut_115 : decode cX6_carriesOut 115 = .ok (.iconst 1, 1) := by decide +kernel
theorem dX6_carriesOut_116 : decode cX6_carriesOut 116 = .ok (.ireturn, 1) := by decide +kernel
theorem dX6_carriesOut_117 : decode cX6_carriesOut 117 = .ok (.aload_n 0, 1) := by decide +kernel
theorem dX6_carriesOut_118 : decode cX6_carriesOut 118 = .ok (.getfield 10, 3) := by decide +kernel
theorem dX6_carriesOut_121 : decode cX6_carriesOut 121 = .ok (.aload_n 0, 1) := by decide +kernel
theorem dX6_carriesOut_122 : decode cX6_carriesOut 122 = .ok (.getfield 39, 3) := by decide +kernel
theorem dX6_carriesOut_125 : decode cX6_carriesOut 125 = .ok (.getfield 271, 3) := by decide +kernel
theorem dX6_carriesOut_128 : decode cX6_carriesOut 128 = .ok (.aload_n 0, 1) := by decide +kernel
theorem dX6_carriesOut_129 : decode cX6_carriesOut 129 = .ok (.getfield 39, 3) := by decide +kernel
theorem dX6_carriesOut_132 : decode cX6_carriesOut 132 = .ok (.getfield 274, 3) := by decide +kernel
theorem dX6_carriesOut_135 : decode cX6_carriesOut 135 = .ok (.invokevirtual 88, 3) := by decide +kernel
theorem dX6_carriesOut_138 : decode cX6_carriesOut 138 = .ok (.iconst 1, 1) := by decide +kernel
theorem dX6_carriesOut_139 : decode cX6_carriesOut 139 = .ok (.ireturn, 1) := by decide +kernel
theorem dX6_carriesOut_140 : decode cX6_carriesOut 140 = .ok (.aload_n 0, 1) := by decide +kernel
theorem dX6_carriesOut_141 : decode cX6_carriesOut 141 = .ok (.getfield 10, 3) := by decide +kernel
theorem dX6_carriesOut_144 : decode cX6_carriesOut 144 = .ok (.aload_n 0, 1) := by decide +kernel
theorem dX6_carriesOut_145 : decode cX6_carriesOut 145 = .ok (.getfield 39, 3) := by decide +kernel
theorem dX6_carriesOut_148 : decode cX6_carriesOut 148 = .ok (.getfield 274, 3) := by decide +kernel
theorem dX6_carriesOut_151 : decode cX6_carriesOut 151 = .ok (.invokevirtual 256, 3) := by decide +kernel
theorem dX6_carriesOut_154 : decode cX6_carriesOut 154 = .ok (.ifCond .ne 5, 3) := by decide +kernel
theorem dX6_carriesOut_157 : decode cX6_carriesOut 157 = .ok (.iconst 0, 1) := by decide +kernel
theorem dX6_carriesOut_158 : decode cX6_carriesOut 158 = .ok (.ireturn, 1) := by decide +kernel
theorem dX6_carriesOut_159 : decode cX6_carriesOut 159 = .ok (.aload_n 0, 1) := by decide +kernel
theorem dX6_carriesOut_160 : decode cX6_carriesOut 160 = .ok (.getfield 10, 3) := by decide +kernel
theorem dX6_carriesOut_163 : decode cX6_carriesOut 163 = .ok (.aload_n 0, 1) := by decide +kernel
theorem dX6_carriesOut_164 : decode cX6_carriesOut 164 = .ok (.getfield 39, 3) := by decide +kernel
theorem dX6_carriesOut_167 : decode cX6_carriesOut 167 = .ok (.getfield 274, 3) := by decide +kernel
theorem dX6_carriesOut_170 : decode cX6_carriesOut 170 = .ok (.invokevirtual 94, 3) := by decide +kernel
theorem dX6_carriesOut_173 : decode cX6_carriesOut 173 = .ok (.aload_n 0, 1) := by decide +kernel
theorem dX6_carriesOut_174 : decode cX6_carriesOut 174 = .ok (.getfield 10, 3) := by decide +kernel
theorem dX6_carriesOut_177 : decode cX6_carriesOut 177 = .ok (.getfield 81, 3) := by decide +kernel
theorem dX6_carriesOut_180 : decode cX6_carriesOut 180 = .ok (.invokevirtual 103, 3) := by decide +kernel
theorem dX6_carriesOut_183 : decode cX6_carriesOut 183 = .ok (.iconst 1, 1) := by decide +kernel
theorem dX6_carriesOut_184 : decode cX6_carriesOut 184 = .ok (.ireturn, 1) := by decide +kernel
theorem dX6_quotient_0 : decode cX6_quotient 0 = .ok (.iload_n 1, 1) := by decide +kernel
theorem dX6_quotient_1 : decode cX6_quotient 1 = .ok (.ifCond .ne 7, 3) := by decide +kernel
theorem dX6_quotient_4 : decode cX6_quotient 4 = .ok (.iconst 0, 1) := by decide +kernel
theorem dX6_quotient_5 : decode cX6_quotient 5 = .ok (.goto 6, 3) := by decide +kernel
theorem dX6_quotient_8 : decode cX6_quotient 8 = .ok (.iload_n 0, 1) := by decide +kernel
theorem dX6_quotient_9 : decode cX6_quotient 9 = .ok (.iload_n 1, 1) := by decide +kernel
theorem dX6_quotient_10 : decode cX6_quotient 10 = .ok (.idiv, 1) := by decide +kernel
theorem dX6_quotient_11 : decode cX6_quotient 11 = .ok (.ireturn, 1) := by decide +kernel
theorem dX6_remainder_0 : decode cX6_remainder 0 = .ok (.iload_n 1, 1) := by decide +kernel
theorem dX6_remainder_1 : decode cX6_remainder 1 = .ok (.ifCond .ne 7, 3) := by decide +kernel
theorem dX6_remainder_4 : decode cX6_remainder 4 = .ok (.iconst 0, 1) := by decide +kernel
theorem dX6_remainder_5 : decode cX6_remainder 5 = .ok (.goto 6, 3) := by decide +kernel
theorem dX6_remainder_8 : decode cX6_remainder 8 = .ok (.iload_n 0, 1) := by decide +kernel
theorem dX6_remainder_9 : decode cX6_remainder 9 = .ok (.iload_n 1, 1) := by decide +kernel
theorem dX6_remainder_10 : decode cX6_remainder 10 = .ok (.irem, 1) := by decide +kernel
theorem dX6_remainder_11 : decode cX6_remainder 11 = .ok (.ireturn, 1) := by decide +kernel
theorem dX6_entry_0 : decode cX6_entry 0 = .ok (.iload_n 1, 1) := by decide +kernel
theorem dX6_entry_1 : decode cX6_entry 1 = .ok (.ifCond .lt 15, 3) := by decide +kernel
theorem dX6_entry_4 : decode cX6_entry 4 = .ok (.iload_n 1, 1) := by decide +kernel
theorem dX6_entry_5 : decode cX6_entry 5 = .ok (.aload_n 0, 1) := by decide +kernel
theorem dX6_entry_6 : decode cX6_entry 6 = .ok (.arraylength, 1) := by decide +kernel
theorem dX6_entry_7 : decode cX6_entry 7 = .ok (.if_icmp .ge 9, 3) := by decide +kernel
theorem dX6_entry_10 : decode cX6_entry 10 = .ok (.aload_n 0, 1) := by decide +kernel
theorem dX6_entry_11 : decode cX6_entry 11 = .ok (.iload_n 1, 1) := by decide +kernel
theorem dX6_entry_12 : decode cX6_entry 12 = .ok (.iaload, 1) := by decide +kernel
theorem dX6_entry_13 : decode cX6_entry 13 = .ok (.goto 6, 3) := by decide +kernel
theorem dX6_entry_16 : decode cX6_entry 16 = .ok (.ldc_w 280, 3) := by decide +kernel
theorem dX6_entry_19 : decode cX6_entry 19 = .ok (.ireturn, 1) := by decide +kernel
theorem dX6_copyInto_0 : decode cX6_copyInto 0 = .ok (.iconst 0, 1) := by decide +kernel
theorem dX6_copyInto_1 : decode cX6_copyInto 1 = .ok (.istore_n 2, 1) := by decide +kernel
theorem dX6_copyInto_2 : decode cX6_copyInto 2 = .ok (.iload_n 2, 1) := by decide +kernel
theorem dX6_copyInto_3 : decode cX6_copyInto 3 = .ok (.aload_n 0, 1) := by decide +kernel
theorem dX6_copyInto_4 : decode cX6_copyInto 4 = .ok (.arraylength, 1) := by decide +kernel
theorem dX6_copyInto_5 : decode cX6_copyInto 5 = .ok (.if_icmp .ge 21, 3) := by decide +kernel
theorem dX6_copyInto_8 : decode cX6_copyInto 8 = .ok (.iload_n 2, 1) := by decide +kernel
theorem dX6_copyInto_9 : decode cX6_copyInto 9 = .ok (.aload_n 1, 1) := by decide +kernel
theorem dX6_copyInto_10 : decode cX6_copyInto 10 = .ok (.arraylength, 1) := by decide +kernel
theorem dX6_copyInto_11 : decode cX6_copyInto 11 = .ok (.if_icmp .ge 15, 3) := by decide +kernel
theorem dX6_copyInto_14 : decode cX6_copyInto 14 = .ok (.aload_n 0, 1) := by decide +kernel
theorem dX6_copyInto_15 : decode cX6_copyInto 15 = .ok (.iload_n 2, 1) := by decide +kernel
theorem dX6_copyInto_16 : decode cX6_copyInto 16 = .ok (.aload_n 1, 1) := by decide +kernel
theorem dX6_copyInto_17 : decode cX6_copyInto 17 = .ok (.iload_n 2, 1) := by decide +kernel
theorem dX6_copyInto_18 : decode cX6_copyInto 18 = .ok (.iaload, 1) := by decide +kernel
theorem dX6_copyInto_19 : decode cX6_copyInto 19 = .ok (.iastore, 1) := by decide +kernel
theorem dX6_copyInto_20 : decode cX6_copyInto 20 = .ok (.iinc 2 1, 3) := by decide +kernel
theorem dX6_copyInto_23 : decode cX6_copyInto 23 = .ok (.goto (-21), 3) := by decide +kernel
theorem dX6_copyInto_26 : decode cX6_copyInto 26 = .ok (.return_, 1) := by decide +kernel
theorem dX6_putFirst_0 : decode cX6_putFirst 0 = .ok (.aload_n 0, 1) := by decide +kernel
theorem dX6_putFirst_1 : decode cX6_putFirst 1 = .ok (.arraylength, 1) := by decide +kernel
theorem dX6_putFirst_2 : decode cX6_putFirst 2 = .ok (.iconst 1, 1) := by decide +kernel
theorem dX6_putFirst_3 : decode cX6_putFirst 3 = .ok (.isub, 1) := by decide +kernel
theorem dX6_putFirst_4 : decode cX6_putFirst 4 = .ok (.istore_n 2, 1) := by decide +kernel
theorem dX6_putFirst_5 : decode cX6_putFirst 5 = .ok (.iload_n 2, 1) := by decide +kernel
theorem dX6_putFirst_6 : decode cX6_putFirst 6 = .ok (.ifCond .le 17, 3) := by decide +kernel
theorem dX6_putFirst_9 : decode cX6_putFirst 9 = .ok (.aload_n 0, 1) := by decide +kernel
theorem dX6_putFirst_10 : decode cX6_putFirst 10 = .ok (.iload_n 2, 1) := by decide +kernel
theorem dX6_putFirst_11 : decode cX6_putFirst 11 = .ok (.aload_n 0, 1) := by decide +kernel
theorem dX6_putFirst_12 : decode cX6_putFirst 12 = .ok (.iload_n 2, 1) := by decide +kernel
theorem dX6_putFirst_13 : decode cX6_putFirst 13 = .ok (.iconst 1, 1) := by decide +kernel
theorem dX6_putFirst_14 : decode cX6_putFirst 14 = .ok (.isub, 1) := by decide +kernel
theorem dX6_putFirst_15 : decode cX6_putFirst 15 = .ok (.iaload, 1) := by decide +kernel
theorem dX6_putFirst_16 : decode cX6_putFirst 16 = .ok (.iastore, 1) := by decide +kernel
theorem dX6_putFirst_17 : decode cX6_putFirst 17 = .ok (.iinc 2 (-1), 3) := by decide +kernel
theorem dX6_putFirst_20 : decode cX6_putFirst 20 = .ok (.goto (-15), 3) := by decide +kernel
theorem dX6_putFirst_23 : decode cX6_putFirst 23 = .ok (.aload_n 0, 1) := by decide +kernel
theorem dX6_putFirst_24 : decode cX6_putFirst 24 = .ok (.arraylength, 1) := by decide +kernel
theorem dX6_putFirst_25 : decode cX6_putFirst 25 = .ok (.ifCond .le 7, 3) := by decide +kernel
theorem dX6_putFirst_28 : decode cX6_putFirst 28 = .ok (.aload_n 0, 1) := by decide +kernel
theorem dX6_putFirst_29 : decode cX6_putFirst 29 = .ok (.iconst 0, 1) := by decide +kernel
theorem dX6_putFirst_30 : decode cX6_putFirst 30 = .ok (.iload_n 1, 1) := by decide +kernel
theorem dX6_putFirst_31 : decode cX6_putFirst 31 = .ok (.iastore, 1) := by decide +kernel
theorem dX6_putFirst_32 : decode cX6_putFirst 32 = .ok (.return_, 1) := by decide +kernel
theorem dJ6_bitCount_0f7a4_0 : decode cJ6_bitCount_0f7a4 0 = .ok (.iload_n 0, 1) := by decide +kernel
theorem dJ6_bitCount_0f7a4_1 : decode cJ6_bitCount_0f7a4 1 = .ok (.iload_n 0, 1) := by decide +kernel
theorem dJ6_bitCount_0f7a4_2 : decode cJ6_bitCount_0f7a4 2 = .ok (.iconst 1, 1) := by decide +kernel
theorem dJ6_bitCount_0f7a4_3 : decode cJ6_bitCount_0f7a4 3 = .ok (.iushr, 1) := by decide +kernel
theorem dJ6_bitCount_0f7a4_4 : decode cJ6_bitCount_0f7a4 4 = .ok (.ldc_w 265, 3) := by decide +kernel
theorem dJ6_bitCount_0f7a4_7 : decode cJ6_bitCount_0f7a4 7 = .ok (.iand, 1) := by decide +kernel
theorem dJ6_bitCount_0f7a4_8 : decode cJ6_bitCount_0f7a4 8 = .ok (.isub, 1) := by decide +kernel
theorem dJ6_bitCount_0f7a4_9 : decode cJ6_bitCount_0f7a4 9 = .ok (.istore_n 0, 1) := by decide +kernel
theorem dJ6_bitCount_0f7a4_10 : decode cJ6_bitCount_0f7a4 10 = .ok (.iload_n 0, 1) := by decide +kernel
theorem dJ6_bitCount_0f7a4_11 : decode cJ6_bitCount_0f7a4 11 = .ok (.ldc_w 266, 3) := by decide +kernel
theorem dJ6_bitCount_0f7a4_14 : decode cJ6_bitCount_0f7a4 14 = .ok (.iand, 1) := by decide +kernel
theorem dJ6_bitCount_0f7a4_15 : decode cJ6_bitCount_0f7a4 15 = .ok (.iload_n 0, 1) := by decide +kernel
theorem dJ6_bitCount_0f7a4_16 : decode cJ6_bitCount_0f7a4 16 = .ok (.iconst 2, 1) := by decide +kernel
theorem dJ6_bitCount_0f7a4_17 : decode cJ6_bitCount_0f7a4 17 = .ok (.iushr, 1) := by decide +kernel
theorem dJ6_bitCount_0f7a4_18 : decode cJ6_bitCount_0f7a4 18 = .ok (.ldc_w 266, 3) := by decide +kernel
theorem dJ6_bitCount_0f7a4_21 : decode cJ6_bitCount_0f7a4 21 = .ok (.iand, 1) := by decide +kernel
theorem dJ6_bitCount_0f7a4_22 : decode cJ6_bitCount_0f7a4 22 = .ok (.iadd, 1) := by decide +kernel
theorem dJ6_bitCount_0f7a4_23 : decode cJ6_bitCount_0f7a4 23 = .ok (.istore_n 0, 1) := by decide +kernel
theorem dJ6_bitCount_0f7a4_24 : decode cJ6_bitCount_0f7a4 24 = .ok (.iload_n 0, 1) := by decide +kernel
theorem dJ6_bitCount_0f7a4_25 : decode cJ6_bitCount_0f7a4 25 = .ok (.iload_n 0, 1) := by decide +kernel
theorem dJ6_bitCount_0f7a4_26 : decode cJ6_bitCount_0f7a4 26 = .ok (.iconst 4, 1) := by decide +kernel
theorem dJ6_bitCount_0f7a4_27 : decode cJ6_bitCount_0f7a4 27 = .ok (.iushr, 1) := by decide +kernel
theorem dJ6_bitCount_0f7a4_28 : decode cJ6_bitCount_0f7a4 28 = .ok (.iadd, 1) := by decide +kernel
theorem dJ6_bitCount_0f7a4_29 : decode cJ6_bitCount_0f7a4 29 = .ok (.ldc_w 267, 3) := by decide +kernel
theorem dJ6_bitCount_0f7a4_32 : decode cJ6_bitCount_0f7a4 32 = .ok (.iand, 1) := by decide +kernel
theorem dJ6_bitCount_0f7a4_33 : decode cJ6_bitCount_0f7a4 33 = .ok (.istore_n 0, 1) := by decide +kernel
theorem dJ6_bitCount_0f7a4_34 : decode cJ6_bitCount_0f7a4 34 = .ok (.iload_n 0, 1) := by decide +kernel
theorem dJ6_bitCount_0f7a4_35 : decode cJ6_bitCount_0f7a4 35 = .ok (.iload_n 0, 1) := by decide +kernel
theorem dJ6_bitCount_0f7a4_36 : decode cJ6_bitCount_0f7a4 36 = .ok (.bipush 8, 2) := by decide +kernel
theorem dJ6_bitCount_0f7a4_38 : decode cJ6_bitCount_0f7a4 38 = .ok (.iushr, 1) := by decide +kernel
theorem dJ6_bitCount_0f7a4_39 : decode cJ6_bitCount_0f7a4 39 = .ok (.iadd, 1) := by decide +kernel
theorem dJ6_bitCount_0f7a4_40 : decode cJ6_bitCount_0f7a4 40 = .ok (.istore_n 0, 1) := by decide +kernel
theorem dJ6_bitCount_0f7a4_41 : decode cJ6_bitCount_0f7a4 41 = .ok (.iload_n 0, 1) := by decide +kernel
theorem dJ6_bitCount_0f7a4_42 : decode cJ6_bitCount_0f7a4 42 = .ok (.iload_n 0, 1) := by decide +kernel
theorem dJ6_bitCount_0f7a4_43 : decode cJ6_bitCount_0f7a4 43 = .ok (.bipush 16, 2) := by decide +kernel
theorem dJ6_bitCount_0f7a4_45 : decode cJ6_bitCount_0f7a4 45 = .ok (.iushr, 1) := by decide +kernel
theorem dJ6_bitCount_0f7a4_46 : decode cJ6_bitCount_0f7a4 46 = .ok (.iadd, 1) := by decide +kernel
theorem dJ6_bitCount_0f7a4_47 : decode cJ6_bitCount_0f7a4 47 = .ok (.istore_n 0, 1) := by decide +kernel
theorem dJ6_bitCount_0f7a4_48 : decode cJ6_bitCount_0f7a4 48 = .ok (.iload_n 0, 1) := by decide +kernel
theorem dJ6_bitCount_0f7a4_49 : decode cJ6_bitCount_0f7a4 49 = .ok (.bipush 63, 2) := by decide +kernel
theorem dJ6_bitCount_0f7a4_51 : decode cJ6_bitCount_0f7a4 51 = .ok (.iand, 1) := by decide +kernel
theorem dJ6_bitCount_0f7a4_52 : decode cJ6_bitCount_0f7a4 52 = .ok (.ireturn, 1) := by decide +kernel
theorem dJ9_abs_0f7a4_0 : decode cJ9_abs_0f7a4 0 = .ok (.iload_n 0, 1) := by decide +kernel
theorem dJ9_abs_0f7a4_1 : decode cJ9_abs_0f7a4 1 = .ok (.ifCond .ge 8, 3) := by decide +kernel
theorem dJ9_abs_0f7a4_4 : decode cJ9_abs_0f7a4 4 = .ok (.iload_n 0, 1) := by decide +kernel
theorem dJ9_abs_0f7a4_5 : decode cJ9_abs_0f7a4 5 = .ok (.ineg, 1) := by decide +kernel
theorem dJ9_abs_0f7a4_6 : decode cJ9_abs_0f7a4 6 = .ok (.goto 4, 3) := by decide +kernel
theorem dJ9_abs_0f7a4_9 : decode cJ9_abs_0f7a4 9 = .ok (.iload_n 0, 1) := by decide +kernel
theorem dJ9_abs_0f7a4_10 : decode cJ9_abs_0f7a4 10 = .ok (.ireturn, 1) := by decide +kernel
theorem dJ9_max_7cf53_0 : decode cJ9_max_7cf53 0 = .ok (.iload_n 0, 1) := by decide +kernel
theorem dJ9_max_7cf53_1 : decode cJ9_max_7cf53 1 = .ok (.iload_n 1, 1) := by decide +kernel
theorem dJ9_max_7cf53_2 : decode cJ9_max_7cf53 2 = .ok (.if_icmp .lt 7, 3) := by decide +kernel
theorem dJ9_max_7cf53_5 : decode cJ9_max_7cf53 5 = .ok (.iload_n 0, 1) := by decide +kernel
theorem dJ9_max_7cf53_6 : decode cJ9_max_7cf53 6 = .ok (.goto 4, 3) := by decide +kernel
theorem dJ9_max_7cf53_9 : decode cJ9_max_7cf53 9 = .ok (.iload_n 1, 1) := by decide +kernel
theorem dJ9_max_7cf53_10 : decode cJ9_max_7cf53 10 = .ok (.ireturn, 1) := by decide +kernel
theorem dJ9_min_7cf53_0 : decode cJ9_min_7cf53 0 = .ok (.iload_n 0, 1) := by decide +kernel
theorem dJ9_min_7cf53_1 : decode cJ9_min_7cf53 1 = .ok (.iload_n 1, 1) := by decide +kernel
theorem dJ9_min_7cf53_2 : decode cJ9_min_7cf53 2 = .ok (.if_icmp .gt 7, 3) := by decide +kernel
theorem dJ9_min_7cf53_5 : decode cJ9_min_7cf53 5 = .ok (.iload_n 0, 1) := by decide +kernel
theorem dJ9_min_7cf53_6 : decode cJ9_min_7cf53 6 = .ok (.goto 4, 3) := by decide +kernel
theorem dJ9_min_7cf53_9 : decode cJ9_min_7cf53 9 = .ok (.iload_n 1, 1) := by decide +kernel
theorem dJ9_min_7cf53_10 : decode cJ9_min_7cf53 10 = .ok (.ireturn, 1) := by decide +kernel
theorem dL_thermometer_0 : decode cL_thermometer 0 = .ok (.aload 5, 2) := by decide +kernel
theorem dL_thermometer_2 : decode cL_thermometer 2 = .ok (.iconst 0, 1) := by decide +kernel
theorem dL_thermometer_3 : decode cL_thermometer 3 = .ok (.aload_n 0, 1) := by decide +kernel
theorem dL_thermometer_4 : decode cL_thermometer 4 = .ok (.iload_n 1, 1) := by decide +kernel
theorem dL_thermometer_5 : decode cL_thermometer 5 = .ok (.iload_n 2, 1) := by decide +kernel
theorem dL_thermometer_6 : decode cL_thermometer 6 = .ok (.iload_n 3, 1) := by decide +kernel
theorem dL_thermometer_7 : decode cL_thermometer 7 = .ok (.iload 4, 2) := by decide +kernel
theorem dL_thermometer_9 : decode cL_thermometer 9 = .ok (.invokevirtual 7, 3) := by decide +kernel
theorem dL_thermometer_12 : decode cL_thermometer 12 = .ok (.i2l, 1) := by decide +kernel
theorem dL_thermometer_13 : decode cL_thermometer 13 = .ok (.lastore, 1) := by decide +kernel
theorem dL_thermometer_14 : decode cL_thermometer 14 = .ok (.goto 15, 3) := by decide +kernel
theorem dL_thermometer_17 : decode cL_thermometer 17 = .ok (.astore 6, 2) := by decide +kernel
theorem dL_thermometer_19 : decode cL_thermometer 19 = .ok (.iconst 1, 1) := by decide +kernel
theorem dL_thermometer_20 : decode cL_thermometer 20 = .ok (.ireturn, 1) := by decide +kernel
theorem dL_thermometer_21 : decode cL_thermometer 21 = .ok (.astore 6, 2) := by decide +kernel
theorem dL_thermometer_23 : decode cL_thermometer 23 = .ok (.iconst 2, 1) := by decide +kernel
theorem dL_thermometer_24 : decode cL_thermometer 24 = .ok (.ireturn, 1) := by decide +kernel
theorem dL_thermometer_25 : decode cL_thermometer 25 = .ok (.astore 6, 2) := by decide +kernel
theorem dL_thermometer_27 : decode cL_thermometer 27 = .ok (.iconst 3, 1) := by decide +kernel
theorem dL_thermometer_28 : decode cL_thermometer 28 = .ok (.ireturn, 1) := by decide +kernel
theorem dL_thermometer_29 : decode cL_thermometer 29 = .ok (.iconst 0, 1) := by decide +kernel
theorem dL_thermometer_30 : decode cL_thermometer 30 = .ok (.ireturn, 1) := by decide +kernel
theorem dL_hour_0 : decode cL_hour 0 = .ok (.aload_n 2, 1) := by decide +kernel
theorem dL_hour_1 : decode cL_hour 1 = .ok (.iconst 0, 1) := by decide +kernel
theorem dL_hour_2 : decode cL_hour 2 = .ok (.aload_n 0, 1) := by decide +kernel
theorem dL_hour_3 : decode cL_hour 3 = .ok (.iload_n 1, 1) := by decide +kernel
theorem dL_hour_4 : decode cL_hour 4 = .ok (.invokevirtual 19, 3) := by decide +kernel
theorem dL_hour_7 : decode cL_hour 7 = .ok (.i2l, 1) := by decide +kernel
theorem dL_hour_8 : decode cL_hour 8 = .ok (.lastore, 1) := by decide +kernel
theorem dL_hour_9 : decode cL_hour 9 = .ok (.goto 9, 3) := by decide +kernel
theorem dL_hour_12 : decode cL_hour 12 = .ok (.astore_n 3, 1) := by decide +kernel
theorem dL_hour_13 : decode cL_hour 13 = .ok (.iconst 1, 1) := by decide +kernel
theorem dL_hour_14 : decode cL_hour 14 = .ok (.ireturn, 1) := by decide +kernel
theorem dL_hour_15 : decode cL_hour 15 = .ok (.astore_n 3, 1) := by decide +kernel
theorem dL_hour_16 : decode cL_hour 16 = .ok (.iconst 2, 1) := by decide +kernel
theorem dL_hour_17 : decode cL_hour 17 = .ok (.ireturn, 1) := by decide +kernel
theorem dL_hour_18 : decode cL_hour 18 = .ok (.iconst 0, 1) := by decide +kernel
theorem dL_hour_19 : decode cL_hour 19 = .ok (.ireturn, 1) := by decide +kernel
theorem dL_hours_0 : decode cL_hours 0 = .ok (.aload_n 3, 1) := by decide +kernel
theorem dL_hours_1 : decode cL_hours 1 = .ok (.iconst 0, 1) := by decide +kernel
theorem dL_hours_2 : decode cL_hours 2 = .ok (.aload_n 0, 1) := by decide +kernel
theorem dL_hours_3 : decode cL_hours 3 = .ok (.iload_n 1, 1) := by decide +kernel
theorem dL_hours_4 : decode cL_hours 4 = .ok (.iload_n 2, 1) := by decide +kernel
theorem dL_hours_5 : decode cL_hours 5 = .ok (.invokevirtual 23, 3) := by decide +kernel
theorem dL_hours_8 : decode cL_hours 8 = .ok (.i2l, 1) := by decide +kernel
theorem dL_hours_9 : decode cL_hours 9 = .ok (.lastore, 1) := by decide +kernel
theorem dL_hours_10 : decode cL_hours 10 = .ok (.goto 11, 3) := by decide +kernel
theorem dL_hours_13 : decode cL_hours 13 = .ok (.astore 4, 2) := by decide +kernel
theorem dL_hours_15 : decode cL_hours 15 = .ok (.iconst 1, 1) := by decide +kernel
theorem dL_hours_16 : decode cL_hours 16 = .ok (.ireturn, 1) := by decide +kernel
theorem dL_hours_17 : decode cL_hours 17 = .ok (.astore 4, 2) := by decide +kernel
theorem dL_hours_19 : decode cL_hours 19 = .ok (.iconst 2, 1) := by decide +kernel
theorem dL_hours_20 : decode cL_hours 20 = .ok (.ireturn, 1) := by decide +kernel
theorem dL_hours_21 : decode cL_hours 21 = .ok (.iconst 0, 1) := by decide +kernel
theorem dL_hours_22 : decode cL_hours 22 = .ok (.ireturn, 1) := by decide +kernel
theorem dL_period_0 : decode cL_period 0 = .ok (.aload_n 3, 1) := by decide +kernel
theorem dL_period_1 : decode cL_period 1 = .ok (.iconst 0, 1) := by decide +kernel
theorem dL_period_2 : decode cL_period 2 = .ok (.aload_n 0, 1) := by decide +kernel
theorem dL_period_3 : decode cL_period 3 = .ok (.iload_n 1, 1) := by decide +kernel
theorem dL_period_4 : decode cL_period 4 = .ok (.iload_n 2, 1) := by decide +kernel
theorem dL_period_5 : decode cL_period 5 = .ok (.invokevirtual 27, 3) := by decide +kernel
theorem dL_period_8 : decode cL_period 8 = .ok (.i2l, 1) := by decide +kernel
theorem dL_period_9 : decode cL_period 9 = .ok (.lastore, 1) := by decide +kernel
theorem dL_period_10 : decode cL_period 10 = .ok (.goto 11, 3) := by decide +kernel
theorem dL_period_13 : decode cL_period 13 = .ok (.astore 4, 2) := by decide +kernel
theorem dL_period_15 : decode cL_period 15 = .ok (.iconst 1, 1) := by decide +kernel
theorem dL_period_16 : decode cL_period 16 = .ok (.ireturn, 1) := by decide +kernel
theorem dL_period_17 : decode cL_period 17 = .ok (.astore 4, 2) := by decide +kernel
theorem dL_period_19 : decode cL_period 19 = .ok (.iconst 2, 1) := by decide +kernel
theorem dL_period_20 : decode cL_period 20 = .ok (.ireturn, 1) := by decide +kernel
theorem dL_period_21 : decode cL_period 21 = .ok (.iconst 0, 1) := by decide +kernel
theorem dL_period_22 : decode cL_period 22 = .ok (.ireturn, 1) := by decide +kernel
theorem dL_calibrate_0 : decode cL_calibrate 0 = .ok (.aload_n 2, 1) := by decide +kernel
theorem dL_calibrate_1 : decode cL_calibrate 1 = .ok (.iconst 0, 1) := by decide +kernel
theorem dL_calibrate_2 : decode cL_calibrate 2 = .ok (.aload_n 0, 1) := by decide +kernel
theorem dL_calibrate_3 : decode cL_calibrate 3 = .ok (.iload_n 1, 1) := by decide +kernel
theorem dL_calibrate_4 : decode cL_calibrate 4 = .ok (.invokevirtual 30, 3) := by decide +kernel
theorem dL_calibrate_7 : decode cL_calibrate 7 = .ok (.i2l, 1) := by decide +kernel
theorem dL_calibrate_8 : decode cL_calibrate 8 = .ok (.lastore, 1) := by decide +kernel
theorem dL_calibrate_9 : decode cL_calibrate 9 = .ok (.goto 6, 3) := by decide +kernel
theorem dL_calibrate_12 : decode cL_calibrate 12 = .ok (.astore_n 3, 1) := by decide +kernel
theorem dL_calibrate_13 : decode cL_calibrate 13 = .ok (.iconst 1, 1) := by decide +kernel
theorem dL_calibrate_14 : decode cL_calibrate 14 = .ok (.ireturn, 1) := by decide +kernel
theorem dL_calibrate_15 : decode cL_calibrate 15 = .ok (.iconst 0, 1) := by decide +kernel
theorem dL_calibrate_16 : decode cL_calibrate 16 = .ok (.ireturn, 1) := by decide +kernel
theorem dL_knock_0 : decode cL_knock 0 = .ok (.aload_n 3, 1) := by decide +kernel
theorem dL_knock_1 : decode cL_knock 1 = .ok (.iconst 0, 1) := by decide +kernel
theorem dL_knock_2 : decode cL_knock 2 = .ok (.aload_n 0, 1) := by decide +kernel
theorem dL_knock_3 : decode cL_knock 3 = .ok (.iload_n 1, 1) := by decide +kernel
theorem dL_knock_4 : decode cL_knock 4 = .ok (.iload_n 2, 1) := by decide +kernel
theorem dL_knock_5 : decode cL_knock 5 = .ok (.invokevirtual 33, 3) := by decide +kernel
theorem dL_knock_8 : decode cL_knock 8 = .ok (.i2l, 1) := by decide +kernel
theorem dL_knock_9 : decode cL_knock 9 = .ok (.lastore, 1) := by decide +kernel
theorem dL_knock_10 : decode cL_knock 10 = .ok (.goto 15, 3) := by decide +kernel
theorem dL_knock_13 : decode cL_knock 13 = .ok (.astore 4, 2) := by decide +kernel
theorem dL_knock_15 : decode cL_knock 15 = .ok (.iconst 1, 1) := by decide +kernel
theorem dL_knock_16 : decode cL_knock 16 = .ok (.ireturn, 1) := by decide +kernel
theorem dL_knock_17 : decode cL_knock 17 = .ok (.astore 4, 2) := by decide +kernel
theorem dL_knock_19 : decode cL_knock 19 = .ok (.iconst 2, 1) := by decide +kernel
theorem dL_knock_20 : decode cL_knock 20 = .ok (.ireturn, 1) := by decide +kernel
theorem dL_knock_21 : decode cL_knock 21 = .ok (.astore 4, 2) := by decide +kernel
theorem dL_knock_23 : decode cL_knock 23 = .ok (.iconst 3, 1) := by decide +kernel
theorem dL_knock_24 : decode cL_knock 24 = .ok (.ireturn, 1) := by decide +kernel
theorem dL_knock_25 : decode cL_knock 25 = .ok (.iconst 0, 1) := by decide +kernel
theorem dL_knock_26 : decode cL_knock 26 = .ok (.ireturn, 1) := by decide +kernel
theorem dL_set_0 : decode cL_set 0 = .ok (.aload_n 3, 1) := by decide +kernel
theorem dL_set_1 : decode cL_set 1 = .ok (.iconst 0, 1) := by decide +kernel
theorem dL_set_2 : decode cL_set 2 = .ok (.aload_n 0, 1) := by decide +kernel
theorem dL_set_3 : decode cL_set 3 = .ok (.iload_n 1, 1) := by decide +kernel
theorem dL_set_4 : decode cL_set 4 = .ok (.iload_n 2, 1) := by decide +kernel
theorem dL_set_5 : decode cL_set 5 = .ok (.invokevirtual 36, 3) := by decide +kernel
theorem dL_set_8 : decode cL_set 8 = .ok (.i2l, 1) := by decide +kernel
theorem dL_set_9 : decode cL_set 9 = .ok (.lastore, 1) := by decide +kernel
theorem dL_set_10 : decode cL_set 10 = .ok (.goto 11, 3) := by decide +kernel
theorem dL_set_13 : decode cL_set 13 = .ok (.astore 4, 2) := by decide +kernel
theorem dL_set_15 : decode cL_set 15 = .ok (.iconst 1, 1) := by decide +kernel
theorem dL_set_16 : decode cL_set 16 = .ok (.ireturn, 1) := by decide +kernel
theorem dL_set_17 : decode cL_set 17 = .ok (.astore 4, 2) := by decide +kernel
theorem dL_set_19 : decode cL_set 19 = .ok (.iconst 2, 1) := by decide +kernel
theorem dL_set_20 : decode cL_set 20 = .ok (.ireturn, 1) := by decide +kernel
theorem dL_set_21 : decode cL_set 21 = .ok (.iconst 0, 1) := by decide +kernel
theorem dL_set_22 : decode cL_set 22 = .ok (.ireturn, 1) := by decide +kernel
theorem dL_append_0 : decode cL_append 0 = .ok (.aload_n 2, 1) := by decide +kernel
theorem dL_append_1 : decode cL_append 1 = .ok (.iconst 0, 1) := by decide +kernel
theorem dL_append_2 : decode cL_append 2 = .ok (.aload_n 0, 1) := by decide +kernel
theorem dL_append_3 : decode cL_append 3 = .ok (.iload_n 1, 1) := by decide +kernel
theorem dL_append_4 : decode cL_append 4 = .ok (.invokevirtual 39, 3) := by decide +kernel
theorem dL_append_7 : decode cL_append 7 = .ok (.i2l, 1) := by decide +kernel
theorem dL_append_8 : decode cL_append 8 = .ok (.lastore, 1) := by decide +kernel
theorem dL_append_9 : decode cL_append 9 = .ok (.goto 9, 3) := by decide +kernel
theorem dL_append_12 : decode cL_append 12 = .ok (.astore_n 3, 1) := by decide +kernel
theorem dL_append_13 : decode cL_append 13 = .ok (.iconst 1, 1) := by decide +kernel
theorem dL_append_14 : decode cL_append 14 = .ok (.ireturn, 1) := by decide +kernel
theorem dL_append_15 : decode cL_append 15 = .ok (.astore_n 3, 1) := by decide +kernel
theorem dL_append_16 : decode cL_append 16 = .ok (.iconst 2, 1) := by decide +kernel
theorem dL_append_17 : decode cL_append 17 = .ok (.ireturn, 1) := by decide +kernel
theorem dL_append_18 : decode cL_append 18 = .ok (.iconst 0, 1) := by decide +kernel
theorem dL_append_19 : decode cL_append 19 = .ok (.ireturn, 1) := by decide +kernel
theorem dL_execute_0 : decode cL_execute 0 = .ok (.aload_n 1, 1) := by decide +kernel
theorem dL_execute_1 : decode cL_execute 1 = .ok (.iconst 0, 1) := by decide +kernel
theorem dL_execute_2 : decode cL_execute 2 = .ok (.aload_n 0, 1) := by decide +kernel
theorem dL_execute_3 : decode cL_execute 3 = .ok (.invokevirtual 42, 3) := by decide +kernel
theorem dL_execute_6 : decode cL_execute 6 = .ok (.i2l, 1) := by decide +kernel
theorem dL_execute_7 : decode cL_execute 7 = .ok (.lastore, 1) := by decide +kernel
theorem dL_execute_8 : decode cL_execute 8 = .ok (.goto 6, 3) := by decide +kernel
theorem dL_execute_11 : decode cL_execute 11 = .ok (.astore_n 2, 1) := by decide +kernel
theorem dL_execute_12 : decode cL_execute 12 = .ok (.iconst 1, 1) := by decide +kernel
theorem dL_execute_13 : decode cL_execute 13 = .ok (.ireturn, 1) := by decide +kernel
theorem dL_execute_14 : decode cL_execute 14 = .ok (.iconst 0, 1) := by decide +kernel
theorem dL_execute_15 : decode cL_execute 15 = .ok (.ireturn, 1) := by decide +kernel
theorem dL_undo_0 : decode cL_undo 0 = .ok (.aload_n 1, 1) := by decide +kernel
theorem dL_undo_1 : decode cL_undo 1 = .ok (.iconst 0, 1) := by decide +kernel
theorem dL_undo_2 : decode cL_undo 2 = .ok (.aload_n 0, 1) := by decide +kernel
theorem dL_undo_3 : decode cL_undo 3 = .ok (.invokevirtual 46, 3) := by decide +kernel
theorem dL_undo_6 : decode cL_undo 6 = .ok (.i2l, 1) := by decide +kernel
theorem dL_undo_7 : decode cL_undo 7 = .ok (.lastore, 1) := by decide +kernel
theorem dL_undo_8 : decode cL_undo 8 = .ok (.goto 6, 3) := by decide +kernel
theorem dL_undo_11 : decode cL_undo 11 = .ok (.astore_n 2, 1) := by decide +kernel
theorem dL_undo_12 : decode cL_undo 12 = .ok (.iconst 1, 1) := by decide +kernel
theorem dL_undo_13 : decode cL_undo 13 = .ok (.ireturn, 1) := by decide +kernel
theorem dL_undo_14 : decode cL_undo 14 = .ok (.iconst 0, 1) := by decide +kernel
theorem dL_undo_15 : decode cL_undo 15 = .ok (.ireturn, 1) := by decide +kernel
theorem dL_keep_0 : decode cL_keep 0 = .ok (.aload_n 2, 1) := by decide +kernel
theorem dL_keep_1 : decode cL_keep 1 = .ok (.iconst 0, 1) := by decide +kernel
theorem dL_keep_2 : decode cL_keep 2 = .ok (.aload_n 0, 1) := by decide +kernel
theorem dL_keep_3 : decode cL_keep 3 = .ok (.iload_n 1, 1) := by decide +kernel
theorem dL_keep_4 : decode cL_keep 4 = .ok (.invokevirtual 49, 3) := by decide +kernel
theorem dL_keep_7 : decode cL_keep 7 = .ok (.i2l, 1) := by decide +kernel
theorem dL_keep_8 : decode cL_keep 8 = .ok (.lastore, 1) := by decide +kernel
theorem dL_keep_9 : decode cL_keep 9 = .ok (.goto 6, 3) := by decide +kernel
theorem dL_keep_12 : decode cL_keep 12 = .ok (.astore_n 3, 1) := by decide +kernel
theorem dL_keep_13 : decode cL_keep 13 = .ok (.iconst 1, 1) := by decide +kernel
theorem dL_keep_14 : decode cL_keep 14 = .ok (.ireturn, 1) := by decide +kernel
theorem dL_keep_15 : decode cL_keep 15 = .ok (.iconst 0, 1) := by decide +kernel
theorem dL_keep_16 : decode cL_keep 16 = .ok (.ireturn, 1) := by decide +kernel
theorem dL_goBack_0 : decode cL_goBack 0 = .ok (.aload_n 2, 1) := by decide +kernel
theorem dL_goBack_1 : decode cL_goBack 1 = .ok (.iconst 0, 1) := by decide +kernel
theorem dL_goBack_2 : decode cL_goBack 2 = .ok (.aload_n 0, 1) := by decide +kernel
theorem dL_goBack_3 : decode cL_goBack 3 = .ok (.iload_n 1, 1) := by decide +kernel
theorem dL_goBack_4 : decode cL_goBack 4 = .ok (.invokevirtual 52, 3) := by decide +kernel
theorem dL_goBack_7 : decode cL_goBack 7 = .ok (.i2l, 1) := by decide +kernel
theorem dL_goBack_8 : decode cL_goBack 8 = .ok (.lastore, 1) := by decide +kernel
theorem dL_goBack_9 : decode cL_goBack 9 = .ok (.goto 9, 3) := by decide +kernel
theorem dL_goBack_12 : decode cL_goBack 12 = .ok (.astore_n 3, 1) := by decide +kernel
theorem dL_goBack_13 : decode cL_goBack 13 = .ok (.iconst 1, 1) := by decide +kernel
theorem dL_goBack_14 : decode cL_goBack 14 = .ok (.ireturn, 1) := by decide +kernel
theorem dL_goBack_15 : decode cL_goBack 15 = .ok (.astore_n 3, 1) := by decide +kernel
theorem dL_goBack_16 : decode cL_goBack 16 = .ok (.iconst 2, 1) := by decide +kernel
theorem dL_goBack_17 : decode cL_goBack 17 = .ok (.ireturn, 1) := by decide +kernel
theorem dL_goBack_18 : decode cL_goBack 18 = .ok (.iconst 0, 1) := by decide +kernel
theorem dL_goBack_19 : decode cL_goBack 19 = .ok (.ireturn, 1) := by decide +kernel
theorem dL_ofThermometer_0 : decode cL_ofThermometer 0 = .ok (.aload_n 3, 1) := by decide +kernel
theorem dL_ofThermometer_1 : decode cL_ofThermometer 1 = .ok (.iconst 0, 1) := by decide +kernel
theorem dL_ofThermometer_2 : decode cL_ofThermometer 2 = .ok (.aload_n 0, 1) := by decide +kernel
theorem dL_ofThermometer_3 : decode cL_ofThermometer 3 = .ok (.iload_n 1, 1) := by decide +kernel
theorem dL_ofThermometer_4 : decode cL_ofThermometer 4 = .ok (.iload_n 2, 1) := by decide +kernel
theorem dL_ofThermometer_5 : decode cL_ofThermometer 5 = .ok (.invokevirtual 55, 3) := by decide +kernel
theorem dL_ofThermometer_8 : decode cL_ofThermometer 8 = .ok (.i2l, 1) := by decide +kernel
theorem dL_ofThermometer_9 : decode cL_ofThermometer 9 = .ok (.lastore, 1) := by decide +kernel
theorem dL_ofThermometer_10 : decode cL_ofThermometer 10 = .ok (.goto 11, 3) := by decide +kernel
theorem dL_ofThermometer_13 : decode cL_ofThermometer 13 = .ok (.astore 4, 2) := by decide +kernel
theorem dL_ofThermometer_15 : decode cL_ofThermometer 15 = .ok (.iconst 1, 1) := by decide +kernel
theorem dL_ofThermometer_16 : decode cL_ofThermometer 16 = .ok (.ireturn, 1) := by decide +kernel
theorem dL_ofThermometer_17 : decode cL_ofThermometer 17 = .ok (.astore 4, 2) := by decide +kernel
theorem dL_ofThermometer_19 : decode cL_ofThermometer 19 = .ok (.iconst 2, 1) := by decide +kernel
theorem dL_ofThermometer_20 : decode cL_ofThermometer 20 = .ok (.ireturn, 1) := by decide +kernel
theorem dL_ofThermometer_21 : decode cL_ofThermometer 21 = .ok (.iconst 0, 1) := by decide +kernel
theorem dL_ofThermometer_22 : decode cL_ofThermometer 22 = .ok (.ireturn, 1) := by decide +kernel
theorem dL_reading_0 : decode cL_reading 0 = .ok (.aload 4, 2) := by decide +kernel
theorem dL_reading_2 : decode cL_reading 2 = .ok (.iconst 0, 1) := by decide +kernel
theorem dL_reading_3 : decode cL_reading 3 = .ok (.aload_n 0, 1) := by decide +kernel
theorem dL_reading_4 : decode cL_reading 4 = .ok (.iload_n 1, 1) := by decide +kernel
theorem dL_reading_5 : decode cL_reading 5 = .ok (.iload_n 2, 1) := by decide +kernel
theorem dL_reading_6 : decode cL_reading 6 = .ok (.iload_n 3, 1) := by decide +kernel
theorem dL_reading_7 : decode cL_reading 7 = .ok (.invokevirtual 58, 3) := by decide +kernel
theorem dL_reading_10 : decode cL_reading 10 = .ok (.i2l, 1) := by decide +kernel
theorem dL_reading_11 : decode cL_reading 11 = .ok (.lastore, 1) := by decide +kernel
theorem dL_reading_12 : decode cL_reading 12 = .ok (.goto 11, 3) := by decide +kernel
theorem dL_reading_15 : decode cL_reading 15 = .ok (.astore 5, 2) := by decide +kernel
theorem dL_reading_17 : decode cL_reading 17 = .ok (.iconst 1, 1) := by decide +kernel
theorem dL_reading_18 : decode cL_reading 18 = .ok (.ireturn, 1) := by decide +kernel
theorem dL_reading_19 : decode cL_reading 19 = .ok (.astore 5, 2) := by decide +kernel
theorem dL_reading_21 : decode cL_reading 21 = .ok (.iconst 2, 1) := by decide +kernel
theorem dL_reading_22 : decode cL_reading 22 = .ok (.ireturn, 1) := by decide +kernel
theorem dL_reading_23 : decode cL_reading 23 = .ok (.iconst 0, 1) := by decide +kernel
theorem dL_reading_24 : decode cL_reading 24 = .ok (.ireturn, 1) := by decide +kernel
theorem dL_row_0 : decode cL_row 0 = .ok (.aload_n 3, 1) := by decide +kernel
theorem dL_row_1 : decode cL_row 1 = .ok (.iconst 0, 1) := by decide +kernel
theorem dL_row_2 : decode cL_row 2 = .ok (.aload_n 0, 1) := by decide +kernel
theorem dL_row_3 : decode cL_row 3 = .ok (.iload_n 1, 1) := by decide +kernel
theorem dL_row_4 : decode cL_row 4 = .ok (.iload_n 2, 1) := by decide +kernel
theorem dL_row_5 : decode cL_row 5 = .ok (.invokevirtual 62, 3) := by decide +kernel
theorem dL_row_8 : decode cL_row 8 = .ok (.i2l, 1) := by decide +kernel
theorem dL_row_9 : decode cL_row 9 = .ok (.lastore, 1) := by decide +kernel
theorem dL_row_10 : decode cL_row 10 = .ok (.goto 11, 3) := by decide +kernel
theorem dL_row_13 : decode cL_row 13 = .ok (.astore 4, 2) := by decide +kernel
theorem dL_row_15 : decode cL_row 15 = .ok (.iconst 1, 1) := by decide +kernel
theorem dL_row_16 : decode cL_row 16 = .ok (.ireturn, 1) := by decide +kernel
theorem dL_row_17 : decode cL_row 17 = .ok (.astore 4, 2) := by decide +kernel
theorem dL_row_19 : decode cL_row 19 = .ok (.iconst 2, 1) := by decide +kernel
theorem dL_row_20 : decode cL_row 20 = .ok (.ireturn, 1) := by decide +kernel
theorem dL_row_21 : decode cL_row 21 = .ok (.iconst 0, 1) := by decide +kernel
theorem dL_row_22 : decode cL_row 22 = .ok (.ireturn, 1) := by decide +kernel
theorem dL_count_0 : decode cL_count 0 = .ok (.aload_n 2, 1) := by decide +kernel
theorem dL_count_1 : decode cL_count 1 = .ok (.iconst 0, 1) := by decide +kernel
theorem dL_count_2 : decode cL_count 2 = .ok (.aload_n 0, 1) := by decide +kernel
theorem dL_count_3 : decode cL_count 3 = .ok (.iload_n 1, 1) := by decide +kernel
theorem dL_count_4 : decode cL_count 4 = .ok (.invokevirtual 65, 3) := by decide +kernel
theorem dL_count_7 : decode cL_count 7 = .ok (.i2l, 1) := by decide +kernel
theorem dL_count_8 : decode cL_count 8 = .ok (.lastore, 1) := by decide +kernel
theorem dL_count_9 : decode cL_count 9 = .ok (.goto 6, 3) := by decide +kernel
theorem dL_count_12 : decode cL_count 12 = .ok (.astore_n 3, 1) := by decide +kernel
theorem dL_count_13 : decode cL_count 13 = .ok (.iconst 1, 1) := by decide +kernel
theorem dL_count_14 : decode cL_count 14 = .ok (.ireturn, 1) := by decide +kernel
theorem dL_count_15 : decode cL_count 15 = .ok (.iconst 0, 1) := by decide +kernel
theorem dL_count_16 : decode cL_count 16 = .ok (.ireturn, 1) := by decide +kernel
theorem dL_ranked_0 : decode cL_ranked 0 = .ok (.aload_n 3, 1) := by decide +kernel
theorem dL_ranked_1 : decode cL_ranked 1 = .ok (.iconst 0, 1) := by decide +kernel
theorem dL_ranked_2 : decode cL_ranked 2 = .ok (.aload_n 0, 1) := by decide +kernel
theorem dL_ranked_3 : decode cL_ranked 3 = .ok (.iload_n 1, 1) := by decide +kernel
theorem dL_ranked_4 : decode cL_ranked 4 = .ok (.iload_n 2, 1) := by decide +kernel
theorem dL_ranked_5 : decode cL_ranked 5 = .ok (.invokevirtual 68, 3) := by decide +kernel
theorem dL_ranked_8 : decode cL_ranked 8 = .ok (.i2l, 1) := by decide +kernel
theorem dL_ranked_9 : decode cL_ranked 9 = .ok (.lastore, 1) := by decide +kernel
theorem dL_ranked_10 : decode cL_ranked 10 = .ok (.goto 7, 3) := by decide +kernel
theorem dL_ranked_13 : decode cL_ranked 13 = .ok (.astore 4, 2) := by decide +kernel
theorem dL_ranked_15 : decode cL_ranked 15 = .ok (.iconst 1, 1) := by decide +kernel
theorem dL_ranked_16 : decode cL_ranked 16 = .ok (.ireturn, 1) := by decide +kernel
theorem dL_ranked_17 : decode cL_ranked 17 = .ok (.iconst 0, 1) := by decide +kernel
theorem dL_ranked_18 : decode cL_ranked 18 = .ok (.ireturn, 1) := by decide +kernel
theorem dL_ifLag_0 : decode cL_ifLag 0 = .ok (.aload_n 3, 1) := by decide +kernel
theorem dL_ifLag_1 : decode cL_ifLag 1 = .ok (.iconst 0, 1) := by decide +kernel
theorem dL_ifLag_2 : decode cL_ifLag 2 = .ok (.aload_n 0, 1) := by decide +kernel
theorem dL_ifLag_3 : decode cL_ifLag 3 = .ok (.iload_n 1, 1) := by decide +kernel
theorem dL_ifLag_4 : decode cL_ifLag 4 = .ok (.iload_n 2, 1) := by decide +kernel
theorem dL_ifLag_5 : decode cL_ifLag 5 = .ok (.invokevirtual 71, 3) := by decide +kernel
theorem dL_ifLag_8 : decode cL_ifLag 8 = .ok (.i2l, 1) := by decide +kernel
theorem dL_ifLag_9 : decode cL_ifLag 9 = .ok (.lastore, 1) := by decide +kernel
theorem dL_ifLag_10 : decode cL_ifLag 10 = .ok (.goto 11, 3) := by decide +kernel
theorem dL_ifLag_13 : decode cL_ifLag 13 = .ok (.astore 4, 2) := by decide +kernel
theorem dL_ifLag_15 : decode cL_ifLag 15 = .ok (.iconst 1, 1) := by decide +kernel
theorem dL_ifLag_16 : decode cL_ifLag 16 = .ok (.ireturn, 1) := by decide +kernel
theorem dL_ifLag_17 : decode cL_ifLag 17 = .ok (.astore 4, 2) := by decide +kernel
theorem dL_ifLag_19 : decode cL_ifLag 19 = .ok (.iconst 2, 1) := by decide +kernel
theorem dL_ifLag_20 : decode cL_ifLag 20 = .ok (.ireturn, 1) := by decide +kernel
theorem dL_ifLag_21 : decode cL_ifLag 21 = .ok (.iconst 0, 1) := by decide +kernel
theorem dL_ifLag_22 : decode cL_ifLag 22 = .ok (.ireturn, 1) := by decide +kernel
theorem dL_bestLag_0 : decode cL_bestLag 0 = .ok (.aload_n 2, 1) := by decide +kernel
theorem dL_bestLag_1 : decode cL_bestLag 1 = .ok (.iconst 0, 1) := by decide +kernel
theorem dL_bestLag_2 : decode cL_bestLag 2 = .ok (.aload_n 0, 1) := by decide +kernel
theorem dL_bestLag_3 : decode cL_bestLag 3 = .ok (.iload_n 1, 1) := by decide +kernel
theorem dL_bestLag_4 : decode cL_bestLag 4 = .ok (.invokevirtual 74, 3) := by decide +kernel
theorem dL_bestLag_7 : decode cL_bestLag 7 = .ok (.i2l, 1) := by decide +kernel
theorem dL_bestLag_8 : decode cL_bestLag 8 = .ok (.lastore, 1) := by decide +kernel
theorem dL_bestLag_9 : decode cL_bestLag 9 = .ok (.goto 6, 3) := by decide +kernel
theorem dL_bestLag_12 : decode cL_bestLag 12 = .ok (.astore_n 3, 1) := by decide +kernel
theorem dL_bestLag_13 : decode cL_bestLag 13 = .ok (.iconst 1, 1) := by decide +kernel
theorem dL_bestLag_14 : decode cL_bestLag 14 = .ok (.ireturn, 1) := by decide +kernel
theorem dL_bestLag_15 : decode cL_bestLag 15 = .ok (.iconst 0, 1) := by decide +kernel
theorem dL_bestLag_16 : decode cL_bestLag 16 = .ok (.ireturn, 1) := by decide +kernel
theorem dL_ifStill_0 : decode cL_ifStill 0 = .ok (.aload_n 3, 1) := by decide +kernel
theorem dL_ifStill_1 : decode cL_ifStill 1 = .ok (.iconst 0, 1) := by decide +kernel
theorem dL_ifStill_2 : decode cL_ifStill 2 = .ok (.aload_n 0, 1) := by decide +kernel
theorem dL_ifStill_3 : decode cL_ifStill 3 = .ok (.iload_n 1, 1) := by decide +kernel
theorem dL_ifStill_4 : decode cL_ifStill 4 = .ok (.iload_n 2, 1) := by decide +kernel
theorem dL_ifStill_5 : decode cL_ifStill 5 = .ok (.invokevirtual 77, 3) := by decide +kernel
theorem dL_ifStill_8 : decode cL_ifStill 8 = .ok (.i2l, 1) := by decide +kernel
theorem dL_ifStill_9 : decode cL_ifStill 9 = .ok (.lastore, 1) := by decide +kernel
theorem dL_ifStill_10 : decode cL_ifStill 10 = .ok (.goto 7, 3) := by decide +kernel
theorem dL_ifStill_13 : decode cL_ifStill 13 = .ok (.astore 4, 2) := by decide +kernel
theorem dL_ifStill_15 : decode cL_ifStill 15 = .ok (.iconst 1, 1) := by decide +kernel
theorem dL_ifStill_16 : decode cL_ifStill 16 = .ok (.ireturn, 1) := by decide +kernel
theorem dL_ifStill_17 : decode cL_ifStill 17 = .ok (.iconst 0, 1) := by decide +kernel
theorem dL_ifStill_18 : decode cL_ifStill 18 = .ok (.ireturn, 1) := by decide +kernel
theorem dL_stillIn_0 : decode cL_stillIn 0 = .ok (.aload_n 2, 1) := by decide +kernel
theorem dL_stillIn_1 : decode cL_stillIn 1 = .ok (.iconst 0, 1) := by decide +kernel
theorem dL_stillIn_2 : decode cL_stillIn 2 = .ok (.aload_n 0, 1) := by decide +kernel
theorem dL_stillIn_3 : decode cL_stillIn 3 = .ok (.iload_n 1, 1) := by decide +kernel
theorem dL_stillIn_4 : decode cL_stillIn 4 = .ok (.invokevirtual 80, 3) := by decide +kernel
theorem dL_stillIn_7 : decode cL_stillIn 7 = .ok (.i2l, 1) := by decide +kernel
theorem dL_stillIn_8 : decode cL_stillIn 8 = .ok (.lastore, 1) := by decide +kernel
theorem dL_stillIn_9 : decode cL_stillIn 9 = .ok (.goto 6, 3) := by decide +kernel
theorem dL_stillIn_12 : decode cL_stillIn 12 = .ok (.astore_n 3, 1) := by decide +kernel
theorem dL_stillIn_13 : decode cL_stillIn 13 = .ok (.iconst 1, 1) := by decide +kernel
theorem dL_stillIn_14 : decode cL_stillIn 14 = .ok (.ireturn, 1) := by decide +kernel
theorem dL_stillIn_15 : decode cL_stillIn 15 = .ok (.iconst 0, 1) := by decide +kernel
theorem dL_stillIn_16 : decode cL_stillIn 16 = .ok (.ireturn, 1) := by decide +kernel
theorem dL_law_0 : decode cL_law 0 = .ok (.new 8, 3) := by decide +kernel
theorem dL_law_3 : decode cL_law 3 = .ok (.dup, 1) := by decide +kernel
theorem dL_law_4 : decode cL_law 4 = .ok (.invokespecial 83, 3) := by decide +kernel
theorem dL_law_7 : decode cL_law 7 = .ok (.astore_n 1, 1) := by decide +kernel
theorem dL_law_8 : decode cL_law 8 = .ok (.new 84, 3) := by decide +kernel
theorem dL_law_11 : decode cL_law 11 = .ok (.dup, 1) := by decide +kernel
theorem dL_law_12 : decode cL_law 12 = .ok (.invokespecial 86, 3) := by decide +kernel
theorem dL_law_15 : decode cL_law 15 = .ok (.astore_n 2, 1) := by decide +kernel
theorem dL_law_16 : decode cL_law 16 = .ok (.iconst 1, 1) := by decide +kernel
theorem dL_law_17 : decode cL_law 17 = .ok (.newarray .long, 2) := by decide +kernel
theorem dL_law_19 : decode cL_law 19 = .ok (.astore_n 3, 1) := by decide +kernel
theorem dL_law_20 : decode cL_law 20 = .ok (.iconst 0, 1) := by decide +kernel
theorem dL_law_21 : decode cL_law 21 = .ok (.istore 4, 2) := by decide +kernel
theorem dL_law_23 : decode cL_law 23 = .ok (.iload 4, 2) := by decide +kernel
theorem dL_law_25 : decode cL_law 25 = .ok (.aload_n 0, 1) := by decide +kernel
theorem dL_law_26 : decode cL_law 26 = .ok (.arraylength, 1) := by decide +kernel
theorem dL_law_27 : decode cL_law 27 = .ok (.iconst 5, 1) := by decide +kernel
theorem dL_law_28 : decode cL_law 28 = .ok (.isub, 1) := by decide +kernel
theorem dL_law_29 : decode cL_law 29 = .ok (.if_icmp .gt 1553, 3) := by decide +kernel
theorem dL_law_32 : decode cL_law 32 = .ok (.aload_n 0, 1) := by decide +kernel
theorem dL_law_33 : decode cL_law 33 = .ok (.iload 4, 2) := by decide +kernel
theorem dL_law_35 : decode cL_law 35 = .ok (.iaload, 1) := by decide +kernel
theorem dL_law_36 : decode cL_law 36 = .ok (.bipush 31, 2) := by decide +kernel
theorem dL_law_38 : decode cL_law 38 = .ok (.iand, 1) := by decide +kernel
theorem dL_law_39 : decode cL_law 39 = .ok (.tableswitch 1537 0 24 #[113, 205, 261, 329, 397, 453, 521, 589, 645, 658, 671, 715, 759, 815, 871, 939, 1019, 1087, 1143, 1211, 1248, 1316, 1372, 1440, 1496], 113) := by decide +kernel
theorem dL_law_152 : decode cL_law 152 = .ok (.aload_n 1, 1) := by decide +kernel
theorem dL_law_153 : decode cL_law 153 = .ok (.aload_n 0, 1) := by decide +kernel
theorem dL_law_154 : decode cL_law 154 = .ok (.iload 4, 2) := by decide +kernel
theorem dL_law_156 : decode cL_law 156 = .ok (.iconst 1, 1) := by decide +kernel
theorem dL_law_157 : decode cL_law 157 = .ok (.iadd, 1) := by decide +kernel
theorem dL_law_158 : decode cL_law 158 = .ok (.iaload, 1) := by decide +kernel
theorem dL_law_159 : decode cL_law 159 = .ok (.aload_n 0, 1) := by decide +kernel
theorem dL_law_160 : decode cL_law 160 = .ok (.iload 4, 2) := by decide +kernel
theorem dL_law_162 : decode cL_law 162 = .ok (.iconst 2, 1) := by decide +kernel
theorem dL_law_163 : decode cL_law 163 = .ok (.iadd, 1) := by decide +kernel
theorem dL_law_164 : decode cL_law 164 = .ok (.iaload, 1) := by decide +kernel
theorem dL_law_165 : decode cL_law 165 = .ok (.aload_n 0, 1) := by decide +kernel
theorem dL_law_166 : decode cL_law 166 = .ok (.iload 4, 2) := by decide +kernel
theorem dL_law_168 : decode cL_law 168 = .ok (.iconst 3, 1) := by decide +kernel
theorem dL_law_169 : decode cL_law 169 = .ok (.iadd, 1) := by decide +kernel
theorem dL_law_170 : decode cL_law 170 = .ok (.iaload, 1) := by decide +kernel
theorem dL_law_171 : decode cL_law 171 = .ok (.aload_n 0, 1) := by decide +kernel
theorem dL_law_172 : decode cL_law 172 = .ok (.iload 4, 2) := by decide +kernel
theorem dL_law_174 : decode cL_law 174 = .ok (.iconst 4, 1) := by decide +kernel
theorem dL_law_175 : decode cL_law 175 = .ok (.iadd, 1) := by decide +kernel
theorem dL_law_176 : decode cL_law 176 = .ok (.iaload, 1) := by decide +kernel
theorem dL_law_177 : decode cL_law 177 = .ok (.aload_n 3, 1) := by decide +kernel
theorem dL_law_178 : decode cL_law 178 = .ok (.invokestatic 87, 3) := by decide +kernel
theorem dL_law_181 : decode cL_law 181 = .ok (.istore 5, 2) := by decide +kernel
theorem dL_law_183 : decode cL_law 183 = .ok (.aload_n 2, 1) := by decide +kernel
theorem dL_law_184 : decode cL_law 184 = .ok (.aload_n 0, 1) := by decide +kernel
theorem dL_law_185 : decode cL_law 185 = .ok (.iload 4, 2) := by decide +kernel
theorem dL_law_187 : decode cL_law 187 = .ok (.iconst 1, 1) := by decide +kernel
theorem dL_law_188 : decode cL_law 188 = .ok (.iadd, 1) := by decide +kernel
theorem dL_law_189 : decode cL_law 189 = .ok (.iaload, 1) := by decide +kernel
theorem dL_law_190 : decode cL_law 190 = .ok (.aload_n 0, 1) := by decide +kernel
theorem dL_law_191 : decode cL_law 191 = .ok (.iload 4, 2) := by decide +kernel
theorem dL_law_193 : decode cL_law 193 = .ok (.iconst 2, 1) := by decide +kernel
theorem dL_law_194 : decode cL_law 194 = .ok (.iadd, 1) := by decide +kernel
theorem dL_law_195 : decode cL_law 195 = .ok (.iaload, 1) := by decide +kernel
theorem dL_law_196 : decode cL_law 196 = .ok (.aload_n 0, 1) := by decide +kernel
theorem dL_law_197 : decode cL_law 197 = .ok (.iload 4, 2) := by decide +kernel
theorem dL_law_199 : decode cL_law 199 = .ok (.iconst 3, 1) := by decide +kernel
theorem dL_law_200 : decode cL_law 200 = .ok (.iadd, 1) := by decide +kernel
theorem dL_law_201 : decode cL_law 201 = .ok (.iaload, 1) := by decide +kernel
theorem dL_law_202 : decode cL_law 202 = .ok (.aload_n 0, 1) := by decide +kernel
theorem dL_law_203 : decode cL_law 203 = .ok (.iload 4, 2) := by decide +kernel
theorem dL_law_205 : decode cL_law 205 = .ok (.iconst 4, 1) := by decide +kernel
theorem dL_law_206 : decode cL_law 206 = .ok (.iadd, 1) := by decide +kernel
theorem dL_law_207 : decode cL_law 207 = .ok (.iaload, 1) := by decide +kernel
theorem dL_law_208 : decode cL_law 208 = .ok (.invokevirtual 92, 3) := by decide +kernel
theorem dL_law_211 : decode cL_law 211 = .ok (.istore 6, 2) := by decide +kernel
theorem dL_law_213 : decode cL_law 213 = .ok (.aload_n 2, 1) := by decide +kernel
theorem dL_law_214 : decode cL_law 214 = .ok (.invokevirtual 93, 3) := by decide +kernel
theorem dL_law_217 : decode cL_law 217 = .ok (.iload 5, 2) := by decide +kernel
theorem dL_law_219 : decode cL_law 219 = .ok (.if_icmp .eq 5, 3) := by decide +kernel
theorem dL_law_222 : decode cL_law 222 = .ok (.iconst 0, 1) := by decide +kernel
theorem dL_law_223 : decode cL_law 223 = .ok (.ireturn, 1) := by decide +kernel
theorem dL_law_224 : decode cL_law 224 = .ok (.iload 5, 2) := by decide +kernel
theorem dL_law_226 : decode cL_law 226 = .ok (.ifCond .ne 15, 3) := by decide +kernel
theorem dL_law_229 : decode cL_law 229 = .ok (.aload_n 3, 1) := by decide +kernel
theorem dL_law_230 : decode cL_law 230 = .ok (.iconst 0, 1) := by decide +kernel
theorem dL_law_231 : decode cL_law 231 = .ok (.laload, 1) := by decide +kernel
theorem dL_law_232 : decode cL_law 232 = .ok (.iload 6, 2) := by decide +kernel
theorem dL_law_234 : decode cL_law 234 = .ok (.i2l, 1) := by decide +kernel
theorem dL_law_235 : decode cL_law 235 = .ok (.lcmp, 1) := by decide +kernel
theorem dL_law_236 : decode cL_law 236 = .ok (.ifCond .eq 5, 3) := by decide +kernel
theorem dL_law_239 : decode cL_law 239 = .ok (.iconst 0, 1) := by decide +kernel
theorem dL_law_240 : decode cL_law 240 = .ok (.ireturn, 1) := by decide +kernel
theorem dL_law_241 : decode cL_law 241 = .ok (.goto 1335, 3) := by decide +kernel
theorem dL_law_244 : decode cL_law 244 = .ok (.aload_n 1, 1) := by decide +kernel
theorem dL_law_245 : decode cL_law 245 = .ok (.aload_n 0, 1) := by decide +kernel
theorem dL_law_246 : decode cL_law 246 = .ok (.iload 4, 2) := by decide +kernel
theorem dL_law_248 : decode cL_law 248 = .ok (.iconst 1, 1) := by decide +kernel
theorem dL_law_249 : decode cL_law 249 = .ok (.iadd, 1) := by decide +kernel
theorem dL_law_250 : decode cL_law 250 = .ok (.iaload, 1) := by decide +kernel
theorem dL_law_251 : decode cL_law 251 = .ok (.aload_n 3, 1) := by decide +kernel
theorem dL_law_252 : decode cL_law 252 = .ok (.invokestatic 96, 3) := by decide +kernel
theorem dL_law_255 : decode cL_law 255 = .ok (.istore 5, 2) := by decide +kernel
theorem dL_law_257 : decode cL_law 257 = .ok (.aload_n 2, 1) := by decide +kernel
theorem dL_law_258 : decode cL_law 258 = .ok (.aload_n 0, 1) := by decide +kernel
theorem dL_law_259 : decode cL_law 259 = .ok (.iload 4, 2) := by decide +kernel
theorem dL_law_261 : decode cL_law 261 = .ok (.iconst 1, 1) := by decide +kernel
theorem dL_law_262 : decode cL_law 262 = .ok (.iadd, 1) := by decide +kernel
theorem dL_law_263 : decode cL_law 263 = .ok (.iaload, 1) := by decide +kernel
theorem dL_law_264 : decode cL_law 264 = .ok (.invokevirtual 99, 3) := by decide +kernel
theorem dL_law_267 : decode cL_law 267 = .ok (.istore 6, 2) := by decide +kernel
theorem dL_law_269 : decode cL_law 269 = .ok (.aload_n 2, 1) := by decide +kernel
theorem dL_law_270 : decode cL_law 270 = .ok (.invokevirtual 93, 3) := by decide +kernel
theorem dL_law_273 : decode cL_law 273 = .ok (.iload 5, 2) := by decide +kernel
theorem dL_law_275 : decode cL_law 275 = .ok (.if_icmp .eq 5, 3) := by decide +kernel
theorem dL_law_278 : decode cL_law 278 = .ok (.iconst 0, 1) := by decide +kernel
theorem dL_law_279 : decode cL_law 279 = .ok (.ireturn, 1) := by decide +kernel
theorem dL_law_280 : decode cL_law 280 = .ok (.iload 5, 2) := by decide +kernel
theorem dL_law_282 : decode cL_law 282 = .ok (.ifCond .ne 15, 3) := by decide +kernel
theorem dL_law_285 : decode cL_law 285 = .ok (.aload_n 3, 1) := by decide +kernel
theorem dL_law_286 : decode cL_law 286 = .ok (.iconst 0, 1) := by decide +kernel
theorem dL_law_287 : decode cL_law 287 = .ok (.laload, 1) := by decide +kernel
theorem dL_law_288 : decode cL_law 288 = .ok (.iload 6, 2) := by decide +kernel
theorem dL_law_290 : decode cL_law 290 = .ok (.i2l, 1) := by decide +kernel
theorem dL_law_291 : decode cL_law 291 = .ok (.lcmp, 1) := by decide +kernel
theorem dL_law_292 : decode cL_law 292 = .ok (.ifCond .eq 5, 3) := by decide +kernel
theorem dL_law_295 : decode cL_law 295 = .ok (.iconst 0, 1) := by decide +kernel
theorem dL_law_296 : decode cL_law 296 = .ok (.ireturn, 1) := by decide +kernel
theorem dL_law_297 : decode cL_law 297 = .ok (.goto 1279, 3) := by decide +kernel
theorem dL_law_300 : decode cL_law 300 = .ok (.aload_n 1, 1) := by decide +kernel
theorem dL_law_301 : decode cL_law 301 = .ok (.aload_n 0, 1) := by decide +kernel
theorem dL_law_302 : decode cL_law 302 = .ok (.iload 4, 2) := by decide +kernel
theorem dL_law_304 : decode cL_law 304 = .ok (.iconst 1, 1) := by decide +kernel
theorem dL_law_305 : decode cL_law 305 = .ok (.iadd, 1) := by decide +kernel
theorem dL_law_306 : decode cL_law 306 = .ok (.iaload, 1) := by decide +kernel
theorem dL_law_307 : decode cL_law 307 = .ok (.aload_n 0, 1) := by decide +kernel
theorem dL_law_308 : decode cL_law 308 = .ok (.iload 4, 2) := by decide +kernel
theorem dL_law_310 : decode cL_law 310 = .ok (.iconst 2, 1) := by decide +kernel
theorem dL_law_311 : decode cL_law 311 = .ok (.iadd, 1) := by decide +kernel
theorem dL_law_312 : decode cL_law 312 = .ok (.iaload, 1) := by decide +kernel
theorem dL_law_313 : decode cL_law 313 = .ok (.aload_n 3, 1) := by decide +kernel
theorem dL_law_314 : decode cL_law 314 = .ok (.invokestatic 100, 3) := by decide +kernel
theorem dL_law_317 : decode cL_law 317 = .ok (.istore 5, 2) := by decide +kernel
theorem dL_law_319 : decode cL_law 319 = .ok (.aload_n 2, 1) := by decide +kernel
theorem dL_law_320 : decode cL_law 320 = .ok (.aload_n 0, 1) := by decide +kernel
theorem dL_law_321 : decode cL_law 321 = .ok (.iload 4, 2) := by decide +kernel
theorem dL_law_323 : decode cL_law 323 = .ok (.iconst 1, 1) := by decide +kernel
theorem dL_law_324 : decode cL_law 324 = .ok (.iadd, 1) := by decide +kernel
theorem dL_law_325 : decode cL_law 325 = .ok (.iaload, 1) := by decide +kernel
theorem dL_law_326 : decode cL_law 326 = .ok (.aload_n 0, 1) := by decide +kernel
theorem dL_law_327 : decode cL_law 327 = .ok (.iload 4, 2) := by decide +kernel
theorem dL_law_329 : decode cL_law 329 = .ok (.iconst 2, 1) := by decide +kernel
theorem dL_law_330 : decode cL_law 330 = .ok (.iadd, 1) := by decide +kernel
theorem dL_law_331 : decode cL_law 331 = .ok (.iaload, 1) := by decide +kernel
theorem dL_law_332 : decode cL_law 332 = .ok (.invokevirtual 103, 3) := by decide +kernel
theorem dL_law_335 : decode cL_law 335 = .ok (.istore 6, 2) := by decide +kernel
theorem dL_law_337 : decode cL_law 337 = .ok (.aload_n 2, 1) := by decide +kernel
theorem dL_law_338 : decode cL_law 338 = .ok (.invokevirtual 93, 3) := by decide +kernel
theorem dL_law_341 : decode cL_law 341 = .ok (.iload 5, 2) := by decide +kernel
theorem dL_law_343 : decode cL_law 343 = .ok (.if_icmp .eq 5, 3) := by decide +kernel
theorem dL_law_346 : decode cL_law 346 = .ok (.iconst 0, 1) := by decide +kernel
theorem dL_law_347 : decode cL_law 347 = .ok (.ireturn, 1) := by decide +kernel
theorem dL_law_348 : decode cL_law 348 = .ok (.iload 5, 2) := by decide +kernel
theorem dL_law_350 : decode cL_law 350 = .ok (.ifCond .ne 15, 3) := by decide +kernel
theorem dL_law_353 : decode cL_law 353 = .ok (.aload_n 3, 1) := by decide +kernel
theorem dL_law_354 : decode cL_law 354 = .ok (.iconst 0, 1) := by decide +kernel
theorem dL_law_355 : decode cL_law 355 = .ok (.laload, 1) := by decide +kernel
theorem dL_law_356 : decode cL_law 356 = .ok (.iload 6, 2) := by decide +kernel
theorem dL_law_358 : decode cL_law 358 = .ok (.i2l, 1) := by decide +kernel
theorem dL_law_359 : decode cL_law 359 = .ok (.lcmp, 1) := by decide +kernel
theorem dL_law_360 : decode cL_law 360 = .ok (.ifCond .eq 5, 3) := by decide +kernel
theorem dL_law_363 : decode cL_law 363 = .ok (.iconst 0, 1) := by decide +kernel
theorem dL_law_364 : decode cL_law 364 = .ok (.ireturn, 1) := by decide +kernel
theorem dL_law_365 : decode cL_law 365 = .ok (.goto 1211, 3) := by decide +kernel
theorem dL_law_368 : decode cL_law 368 = .ok (.aload_n 1, 1) := by decide +kernel
theorem dL_law_369 : decode cL_law 369 = .ok (.aload_n 0, 1) := by decide +kernel
theorem dL_law_370 : decode cL_law 370 = .ok (.iload 4, 2) := by decide +kernel
theorem dL_law_372 : decode cL_law 372 = .ok (.iconst 1, 1) := by decide +kernel
theorem dL_law_373 : decode cL_law 373 = .ok (.iadd, 1) := by decide +kernel
theorem dL_law_374 : decode cL_law 374 = .ok (.iaload, 1) := by decide +kernel
theorem dL_law_375 : decode cL_law 375 = .ok (.aload_n 0, 1) := by decide +kernel
theorem dL_law_376 : decode cL_law 376 = .ok (.iload 4, 2) := by decide +kernel
theorem dL_law_378 : decode cL_law 378 = .ok (.iconst 2, 1) := by decide +kernel
theorem dL_law_379 : decode cL_law 379 = .ok (.iadd, 1) := by decide +kernel
theorem dL_law_380 : decode cL_law 380 = .ok (.iaload, 1) := by decide +kernel
theorem dL_law_381 : decode cL_law 381 = .ok (.aload_n 3, 1) := by decide +kernel
theorem dL_law_382 : decode cL_law 382 = .ok (.invokestatic 104, 3) := by decide +kernel
theorem dL_law_385 : decode cL_law 385 = .ok (.istore 5, 2) := by decide +kernel
theorem dL_law_387 : decode cL_law 387 = .ok (.aload_n 2, 1) := by decide +kernel
theorem dL_law_388 : decode cL_law 388 = .ok (.aload_n 0, 1) := by decide +kernel
theorem dL_law_389 : decode cL_law 389 = .ok (.iload 4, 2) := by decide +kernel
theorem dL_law_391 : decode cL_law 391 = .ok (.iconst 1, 1) := by decide +kernel
theorem dL_law_392 : decode cL_law 392 = .ok (.iadd, 1) := by decide +kernel
theorem dL_law_393 : decode cL_law 393 = .ok (.iaload, 1) := by decide +kernel
theorem dL_law_394 : decode cL_law 394 = .ok (.aload_n 0, 1) := by decide +kernel
theorem dL_law_395 : decode cL_law 395 = .ok (.iload 4, 2) := by decide +kernel
theorem dL_law_397 : decode cL_law 397 = .ok (.iconst 2, 1) := by decide +kernel
theorem dL_law_398 : decode cL_law 398 = .ok (.iadd, 1) := by decide +kernel
theorem dL_law_399 : decode cL_law 399 = .ok (.iaload, 1) := by decide +kernel
theorem dL_law_400 : decode cL_law 400 = .ok (.invokevirtual 106, 3) := by decide +kernel
theorem dL_law_403 : decode cL_law 403 = .ok (.istore 6, 2) := by decide +kernel
theorem dL_law_405 : decode cL_law 405 = .ok (.aload_n 2, 1) := by decide +kernel
theorem dL_law_406 : decode cL_law 406 = .ok (.invokevirtual 93, 3) := by decide +kernel
theorem dL_law_409 : decode cL_law 409 = .ok (.iload 5, 2) := by decide +kernel
theorem dL_law_411 : decode cL_law 411 = .ok (.if_icmp .eq 5, 3) := by decide +kernel
theorem dL_law_414 : decode cL_law 414 = .ok (.iconst 0, 1) := by decide +kernel
theorem dL_law_415 : decode cL_law 415 = .ok (.ireturn, 1) := by decide +kernel
theorem dL_law_416 : decode cL_law 416 = .ok (.iload 5, 2) := by decide +kernel
theorem dL_law_418 : decode cL_law 418 = .ok (.ifCond .ne 15, 3) := by decide +kernel
theorem dL_law_421 : decode cL_law 421 = .ok (.aload_n 3, 1) := by decide +kernel
theorem dL_law_422 : decode cL_law 422 = .ok (.iconst 0, 1) := by decide +kernel
theorem dL_law_423 : decode cL_law 423 = .ok (.laload, 1) := by decide +kernel
theorem dL_law_424 : decode cL_law 424 = .ok (.iload 6, 2) := by decide +kernel
theorem dL_law_426 : decode cL_law 426 = .ok (.i2l, 1) := by decide +kernel
theorem dL_law_427 : decode cL_law 427 = .ok (.lcmp, 1) := by decide +kernel
theorem dL_law_428 : decode cL_law 428 = .ok (.ifCond .eq 5, 3) := by decide +kernel
theorem dL_law_431 : decode cL_law 431 = .ok (.iconst 0, 1) := by decide +kernel
theorem dL_law_432 : decode cL_law 432 = .ok (.ireturn, 1) := by decide +kernel
theorem dL_law_433 : decode cL_law 433 = .ok (.goto 1143, 3) := by decide +kernel
theorem dL_law_436 : decode cL_law 436 = .ok (.aload_n 1, 1) := by decide +kernel
theorem dL_law_437 : decode cL_law 437 = .ok (.aload_n 0, 1) := by decide +kernel
theorem dL_law_438 : decode cL_law 438 = .ok (.iload 4, 2) := by decide +kernel
theorem dL_law_440 : decode cL_law 440 = .ok (.iconst 1, 1) := by decide +kernel
theorem dL_law_441 : decode cL_law 441 = .ok (.iadd, 1) := by decide +kernel
theorem dL_law_442 : decode cL_law 442 = .ok (.iaload, 1) := by decide +kernel
theorem dL_law_443 : decode cL_law 443 = .ok (.aload_n 3, 1) := by decide +kernel
theorem dL_law_444 : decode cL_law 444 = .ok (.invokestatic 107, 3) := by decide +kernel
theorem dL_law_447 : decode cL_law 447 = .ok (.istore 5, 2) := by decide +kernel
theorem dL_law_449 : decode cL_law 449 = .ok (.aload_n 2, 1) := by decide +kernel
theorem dL_law_450 : decode cL_law 450 = .ok (.aload_n 0, 1) := by decide +kernel
theorem dL_law_451 : decode cL_law 451 = .ok (.iload 4, 2) := by decide +kernel
theorem dL_law_453 : decode cL_law 453 = .ok (.iconst 1, 1) := by decide +kernel
theorem dL_law_454 : decode cL_law 454 = .ok (.iadd, 1) := by decide +kernel
theorem dL_law_455 : decode cL_law 455 = .ok (.iaload, 1) := by decide +kernel
theorem dL_law_456 : decode cL_law 456 = .ok (.invokevirtual 109, 3) := by decide +kernel
theorem dL_law_459 : decode cL_law 459 = .ok (.istore 6, 2) := by decide +kernel
theorem dL_law_461 : decode cL_law 461 = .ok (.aload_n 2, 1) := by decide +kernel
theorem dL_law_462 : decode cL_law 462 = .ok (.invokevirtual 93, 3) := by decide +kernel
theorem dL_law_465 : decode cL_law 465 = .ok (.iload 5, 2) := by decide +kernel
theorem dL_law_467 : decode cL_law 467 = .ok (.if_icmp .eq 5, 3) := by decide +kernel
theorem dL_law_470 : decode cL_law 470 = .ok (.iconst 0, 1) := by decide +kernel
theorem dL_law_471 : decode cL_law 471 = .ok (.ireturn, 1) := by decide +kernel
theorem dL_law_472 : decode cL_law 472 = .ok (.iload 5, 2) := by decide +kernel
theorem dL_law_474 : decode cL_law 474 = .ok (.ifCond .ne 15, 3) := by decide +kernel
theorem dL_law_477 : decode cL_law 477 = .ok (.aload_n 3, 1) := by decide +kernel
theorem dL_law_478 : decode cL_law 478 = .ok (.iconst 0, 1) := by decide +kernel
theorem dL_law_479 : decode cL_law 479 = .ok (.laload, 1) := by decide +kernel
theorem dL_law_480 : decode cL_law 480 = .ok (.iload 6, 2) := by decide +kernel
theorem dL_law_482 : decode cL_law 482 = .ok (.i2l, 1) := by decide +kernel
theorem dL_law_483 : decode cL_law 483 = .ok (.lcmp, 1) := by decide +kernel
theorem dL_law_484 : decode cL_law 484 = .ok (.ifCond .eq 5, 3) := by decide +kernel
theorem dL_law_487 : decode cL_law 487 = .ok (.iconst 0, 1) := by decide +kernel
theorem dL_law_488 : decode cL_law 488 = .ok (.ireturn, 1) := by decide +kernel
theorem dL_law_489 : decode cL_law 489 = .ok (.goto 1087, 3) := by decide +kernel
theorem dL_law_492 : decode cL_law 492 = .ok (.aload_n 1, 1) := by decide +kernel
theorem dL_law_493 : decode cL_law 493 = .ok (.aload_n 0, 1) := by decide +kernel
theorem dL_law_494 : decode cL_law 494 = .ok (.iload 4, 2) := by decide +kernel
theorem dL_law_496 : decode cL_law 496 = .ok (.iconst 1, 1) := by decide +kernel
theorem dL_law_497 : decode cL_law 497 = .ok (.iadd, 1) := by decide +kernel
theorem dL_law_498 : decode cL_law 498 = .ok (.iaload, 1) := by decide +kernel
theorem dL_law_499 : decode cL_law 499 = .ok (.aload_n 0, 1) := by decide +kernel
theorem dL_law_500 : decode cL_law 500 = .ok (.iload 4, 2) := by decide +kernel
theorem dL_law_502 : decode cL_law 502 = .ok (.iconst 2, 1) := by decide +kernel
theorem dL_law_503 : decode cL_law 503 = .ok (.iadd, 1) := by decide +kernel
theorem dL_law_504 : decode cL_law 504 = .ok (.iaload, 1) := by decide +kernel
theorem dL_law_505 : decode cL_law 505 = .ok (.aload_n 3, 1) := by decide +kernel
theorem dL_law_506 : decode cL_law 506 = .ok (.invokestatic 110, 3) := by decide +kernel
theorem dL_law_509 : decode cL_law 509 = .ok (.istore 5, 2) := by decide +kernel
theorem dL_law_511 : decode cL_law 511 = .ok (.aload_n 2, 1) := by decide +kernel
theorem dL_law_512 : decode cL_law 512 = .ok (.aload_n 0, 1) := by decide +kernel
theorem dL_law_513 : decode cL_law 513 = .ok (.iload 4, 2) := by decide +kernel
theorem dL_law_515 : decode cL_law 515 = .ok (.iconst 1, 1) := by decide +kernel
theorem dL_law_516 : decode cL_law 516 = .ok (.iadd, 1) := by decide +kernel
theorem dL_law_517 : decode cL_law 517 = .ok (.iaload, 1) := by decide +kernel
theorem dL_law_518 : decode cL_law 518 = .ok (.aload_n 0, 1) := by decide +kernel
theorem dL_law_519 : decode cL_law 519 = .ok (.iload 4, 2) := by decide +kernel
theorem dL_law_521 : decode cL_law 521 = .ok (.iconst 2, 1) := by decide +kernel
theorem dL_law_522 : decode cL_law 522 = .ok (.iadd, 1) := by decide +kernel
theorem dL_law_523 : decode cL_law 523 = .ok (.iaload, 1) := by decide +kernel
theorem dL_law_524 : decode cL_law 524 = .ok (.invokevirtual 112, 3) := by decide +kernel
theorem dL_law_527 : decode cL_law 527 = .ok (.istore 6, 2) := by decide +kernel
theorem dL_law_529 : decode cL_law 529 = .ok (.aload_n 2, 1) := by decide +kernel
theorem dL_law_530 : decode cL_law 530 = .ok (.invokevirtual 93, 3) := by decide +kernel
theorem dL_law_533 : decode cL_law 533 = .ok (.iload 5, 2) := by decide +kernel
theorem dL_law_535 : decode cL_law 535 = .ok (.if_icmp .eq 5, 3) := by decide +kernel
theorem dL_law_538 : decode cL_law 538 = .ok (.iconst 0, 1) := by decide +kernel
theorem dL_law_539 : decode cL_law 539 = .ok (.ireturn, 1) := by decide +kernel
theorem dL_law_540 : decode cL_law 540 = .ok (.iload 5, 2) := by decide +kernel
theorem dL_law_542 : decode cL_law 542 = .ok (.ifCond .ne 15, 3) := by decide +kernel
theorem dL_law_545 : decode cL_law 545 = .ok (.aload_n 3, 1) := by decide +kernel
theorem dL_law_546 : decode cL_law 546 = .ok (.iconst 0, 1) := by decide +kernel
theorem dL_law_547 : decode cL_law 547 = .ok (.laload, 1) := by decide +kernel
theorem dL_law_548 : decode cL_law 548 = .ok (.iload 6, 2) := by decide +kernel
theorem dL_law_550 : decode cL_law 550 = .ok (.i2l, 1) := by decide +kernel
theorem dL_law_551 : decode cL_law 551 = .ok (.lcmp, 1) := by decide +kernel
theorem dL_law_552 : decode cL_law 552 = .ok (.ifCond .eq 5, 3) := by decide +kernel
theorem dL_law_555 : decode cL_law 555 = .ok (.iconst 0, 1) := by decide +kernel
theorem dL_law_556 : decode cL_law 556 = .ok (.ireturn, 1) := by decide +kernel
theorem dL_law_557 : decode cL_law 557 = .ok (.goto 1019, 3) := by decide +kernel
theorem dL_law_560 : decode cL_law 560 = .ok (.aload_n 1, 1) := by decide +kernel
theorem dL_law_561 : decode cL_law 561 = .ok (.aload_n 0, 1) := by decide +kernel
theorem dL_law_562 : decode cL_law 562 = .ok (.iload 4, 2) := by decide +kernel
theorem dL_law_564 : decode cL_law 564 = .ok (.iconst 1, 1) := by decide +kernel
theorem dL_law_565 : decode cL_law 565 = .ok (.iadd, 1) := by decide +kernel
theorem dL_law_566 : decode cL_law 566 = .ok (.iaload, 1) := by decide +kernel
theorem dL_law_567 : decode cL_law 567 = .ok (.aload_n 0, 1) := by decide +kernel
theorem dL_law_568 : decode cL_law 568 = .ok (.iload 4, 2) := by decide +kernel
theorem dL_law_570 : decode cL_law 570 = .ok (.iconst 2, 1) := by decide +kernel
theorem dL_law_571 : decode cL_law 571 = .ok (.iadd, 1) := by decide +kernel
theorem dL_law_572 : decode cL_law 572 = .ok (.iaload, 1) := by decide +kernel
theorem dL_law_573 : decode cL_law 573 = .ok (.aload_n 3, 1) := by decide +kernel
theorem dL_law_574 : decode cL_law 574 = .ok (.invokestatic 113, 3) := by decide +kernel
theorem dL_law_577 : decode cL_law 577 = .ok (.istore 5, 2) := by decide +kernel
theorem dL_law_579 : decode cL_law 579 = .ok (.aload_n 2, 1) := by decide +kernel
theorem dL_law_580 : decode cL_law 580 = .ok (.aload_n 0, 1) := by decide +kernel
theorem dL_law_581 : decode cL_law 581 = .ok (.iload 4, 2) := by decide +kernel
theorem dL_law_583 : decode cL_law 583 = .ok (.iconst 1, 1) := by decide +kernel
theorem dL_law_584 : decode cL_law 584 = .ok (.iadd, 1) := by decide +kernel
theorem dL_law_585 : decode cL_law 585 = .ok (.iaload, 1) := by decide +kernel
theorem dL_law_586 : decode cL_law 586 = .ok (.aload_n 0, 1) := by decide +kernel
theorem dL_law_587 : decode cL_law 587 = .ok (.iload 4, 2) := by decide +kernel
theorem dL_law_589 : decode cL_law 589 = .ok (.iconst 2, 1) := by decide +kernel
theorem dL_law_590 : decode cL_law 590 = .ok (.iadd, 1) := by decide +kernel
theorem dL_law_591 : decode cL_law 591 = .ok (.iaload, 1) := by decide +kernel
theorem dL_law_592 : decode cL_law 592 = .ok (.invokevirtual 115, 3) := by decide +kernel
theorem dL_law_595 : decode cL_law 595 = .ok (.istore 6, 2) := by decide +kernel
theorem dL_law_597 : decode cL_law 597 = .ok (.aload_n 2, 1) := by decide +kernel
theorem dL_law_598 : decode cL_law 598 = .ok (.invokevirtual 93, 3) := by decide +kernel
theorem dL_law_601 : decode cL_law 601 = .ok (.iload 5, 2) := by decide +kernel
theorem dL_law_603 : decode cL_law 603 = .ok (.if_icmp .eq 5, 3) := by decide +kernel
theorem dL_law_606 : decode cL_law 606 = .ok (.iconst 0, 1) := by decide +kernel
theorem dL_law_607 : decode cL_law 607 = .ok (.ireturn, 1) := by decide +kernel
theorem dL_law_608 : decode cL_law 608 = .ok (.iload 5, 2) := by decide +kernel
theorem dL_law_610 : decode cL_law 610 = .ok (.ifCond .ne 15, 3) := by decide +kernel
theorem dL_law_613 : decode cL_law 613 = .ok (.aload_n 3, 1) := by decide +kernel
theorem dL_law_614 : decode cL_law 614 = .ok (.iconst 0, 1) := by decide +kernel
theorem dL_law_615 : decode cL_law 615 = .ok (.laload, 1) := by decide +kernel
theorem dL_law_616 : decode cL_law 616 = .ok (.iload 6, 2) := by decide +kernel
theorem dL_law_618 : decode cL_law 618 = .ok (.i2l, 1) := by decide +kernel
theorem dL_law_619 : decode cL_law 619 = .ok (.lcmp, 1) := by decide +kernel
theorem dL_law_620 : decode cL_law 620 = .ok (.ifCond .eq 5, 3) := by decide +kernel
theorem dL_law_623 : decode cL_law 623 = .ok (.iconst 0, 1) := by decide +kernel
theorem dL_law_624 : decode cL_law 624 = .ok (.ireturn, 1) := by decide +kernel
theorem dL_law_625 : decode cL_law 625 = .ok (.goto 951, 3) := by decide +kernel
theorem dL_law_628 : decode cL_law 628 = .ok (.aload_n 1, 1) := by decide +kernel
theorem dL_law_629 : decode cL_law 629 = .ok (.aload_n 0, 1) := by decide +kernel
theorem dL_law_630 : decode cL_law 630 = .ok (.iload 4, 2) := by decide +kernel
theorem dL_law_632 : decode cL_law 632 = .ok (.iconst 1, 1) := by decide +kernel
theorem dL_law_633 : decode cL_law 633 = .ok (.iadd, 1) := by decide +kernel
theorem dL_law_634 : decode cL_law 634 = .ok (.iaload, 1) := by decide +kernel
theorem dL_law_635 : decode cL_law 635 = .ok (.aload_n 3, 1) := by decide +kernel
theorem dL_law_636 : decode cL_law 636 = .ok (.invokestatic 116, 3) := by decide +kernel
theorem dL_law_639 : decode cL_law 639 = .ok (.istore 5, 2) := by decide +kernel
theorem dL_law_641 : decode cL_law 641 = .ok (.aload_n 2, 1) := by decide +kernel
theorem dL_law_642 : decode cL_law 642 = .ok (.aload_n 0, 1) := by decide +kernel
theorem dL_law_643 : decode cL_law 643 = .ok (.iload 4, 2) := by decide +kernel
theorem dL_law_645 : decode cL_law 645 = .ok (.iconst 1, 1) := by decide +kernel
theorem dL_law_646 : decode cL_law 646 = .ok (.iadd, 1) := by decide +kernel
theorem dL_law_647 : decode cL_law 647 = .ok (.iaload, 1) := by decide +kernel
theorem dL_law_648 : decode cL_law 648 = .ok (.invokevirtual 118, 3) := by decide +kernel
theorem dL_law_651 : decode cL_law 651 = .ok (.istore 6, 2) := by decide +kernel
theorem dL_law_653 : decode cL_law 653 = .ok (.aload_n 2, 1) := by decide +kernel
theorem dL_law_654 : decode cL_law 654 = .ok (.invokevirtual 93, 3) := by decide +kernel
theorem dL_law_657 : decode cL_law 657 = .ok (.iload 5, 2) := by decide +kernel
theorem dL_law_659 : decode cL_law 659 = .ok (.if_icmp .eq 5, 3) := by decide +kernel
theorem dL_law_662 : decode cL_law 662 = .ok (.iconst 0, 1) := by decide +kernel
theorem dL_law_663 : decode cL_law 663 = .ok (.ireturn, 1) := by decide +kernel
theorem dL_law_664 : decode cL_law 664 = .ok (.iload 5, 2) := by decide +kernel
theorem dL_law_666 : decode cL_law 666 = .ok (.ifCond .ne 15, 3) := by decide +kernel
theorem dL_law_669 : decode cL_law 669 = .ok (.aload_n 3, 1) := by decide +kernel
theorem dL_law_670 : decode cL_law 670 = .ok (.iconst 0, 1) := by decide +kernel
theorem dL_law_671 : decode cL_law 671 = .ok (.laload, 1) := by decide +kernel
theorem dL_law_672 : decode cL_law 672 = .ok (.iload 6, 2) := by decide +kernel
theorem dL_law_674 : decode cL_law 674 = .ok (.i2l, 1) := by decide +kernel
theorem dL_law_675 : decode cL_law 675 = .ok (.lcmp, 1) := by decide +kernel
theorem dL_law_676 : decode cL_law 676 = .ok (.ifCond .eq 5, 3) := by decide +kernel
theorem dL_law_679 : decode cL_law 679 = .ok (.iconst 0, 1) := by decide +kernel
theorem dL_law_680 : decode cL_law 680 = .ok (.ireturn, 1) := by decide +kernel
theorem dL_law_681 : decode cL_law 681 = .ok (.goto 895, 3) := by decide +kernel
theorem dL_law_684 : decode cL_law 684 = .ok (.aload_n 1, 1) := by decide +kernel
theorem dL_law_685 : decode cL_law 685 = .ok (.invokevirtual 119, 3) := by decide +kernel
theorem dL_law_688 : decode cL_law 688 = .ok (.aload_n 2, 1) := by decide +kernel
theorem dL_law_689 : decode cL_law 689 = .ok (.invokevirtual 122, 3) := by decide +kernel
theorem dL_law_692 : decode cL_law 692 = .ok (.if_icmp .eq 884, 3) := by decide +kernel
theorem dL_law_695 : decode cL_law 695 = .ok (.iconst 0, 1) := by decide +kernel
theorem dL_law_696 : decode cL_law 696 = .ok (.ireturn, 1) := by decide +kernel
theorem dL_law_697 : decode cL_law 697 = .ok (.aload_n 1, 1) := by decide +kernel
theorem dL_law_698 : decode cL_law 698 = .ok (.invokevirtual 123, 3) := by decide +kernel
theorem dL_law_701 : decode cL_law 701 = .ok (.aload_n 2, 1) := by decide +kernel
theorem dL_law_702 : decode cL_law 702 = .ok (.invokevirtual 126, 3) := by decide +kernel
theorem dL_law_705 : decode cL_law 705 = .ok (.if_icmp .eq 871, 3) := by decide +kernel
theorem dL_law_708 : decode cL_law 708 = .ok (.iconst 0, 1) := by decide +kernel
theorem dL_law_709 : decode cL_law 709 = .ok (.ireturn, 1) := by decide +kernel
theorem dL_law_710 : decode cL_law 710 = .ok (.aload_n 1, 1) := by decide +kernel
theorem dL_law_711 : decode cL_law 711 = .ok (.aload_n 3, 1) := by decide +kernel
theorem dL_law_712 : decode cL_law 712 = .ok (.invokestatic 127, 3) := by decide +kernel
theorem dL_law_715 : decode cL_law 715 = .ok (.istore 5, 2) := by decide +kernel
theorem dL_law_717 : decode cL_law 717 = .ok (.aload_n 2, 1) := by decide +kernel
theorem dL_law_718 : decode cL_law 718 = .ok (.invokevirtual 130, 3) := by decide +kernel
theorem dL_law_721 : decode cL_law 721 = .ok (.istore 6, 2) := by decide +kernel
theorem dL_law_723 : decode cL_law 723 = .ok (.aload_n 2, 1) := by decide +kernel
theorem dL_law_724 : decode cL_law 724 = .ok (.invokevirtual 93, 3) := by decide +kernel
theorem dL_law_727 : decode cL_law 727 = .ok (.iload 5, 2) := by decide +kernel
theorem dL_law_729 : decode cL_law 729 = .ok (.if_icmp .eq 5, 3) := by decide +kernel
theorem dL_law_732 : decode cL_law 732 = .ok (.iconst 0, 1) := by decide +kernel
theorem dL_law_733 : decode cL_law 733 = .ok (.ireturn, 1) := by decide +kernel
theorem dL_law_734 : decode cL_law 734 = .ok (.iload 5, 2) := by decide +kernel
theorem dL_law_736 : decode cL_law 736 = .ok (.ifCond .ne 15, 3) := by decide +kernel
theorem dL_law_739 : decode cL_law 739 = .ok (.aload_n 3, 1) := by decide +kernel
theorem dL_law_740 : decode cL_law 740 = .ok (.iconst 0, 1) := by decide +kernel
theorem dL_law_741 : decode cL_law 741 = .ok (.laload, 1) := by decide +kernel
theorem dL_law_742 : decode cL_law 742 = .ok (.iload 6, 2) := by decide +kernel
theorem dL_law_744 : decode cL_law 744 = .ok (.i2l, 1) := by decide +kernel
theorem dL_law_745 : decode cL_law 745 = .ok (.lcmp, 1) := by decide +kernel
theorem dL_law_746 : decode cL_law 746 = .ok (.ifCond .eq 5, 3) := by decide +kernel
theorem dL_law_749 : decode cL_law 749 = .ok (.iconst 0, 1) := by decide +kernel
theorem dL_law_750 : decode cL_law 750 = .ok (.ireturn, 1) := by decide +kernel
theorem dL_law_751 : decode cL_law 751 = .ok (.goto 825, 3) := by decide +kernel
theorem dL_law_754 : decode cL_law 754 = .ok (.aload_n 1, 1) := by decide +kernel
theorem dL_law_755 : decode cL_law 755 = .ok (.aload_n 3, 1) := by decide +kernel
theorem dL_law_756 : decode cL_law 756 = .ok (.invokestatic 131, 3) := by decide +kernel
theorem dL_law_759 : decode cL_law 759 = .ok (.istore 5, 2) := by decide +kernel
theorem dL_law_761 : decode cL_law 761 = .ok (.aload_n 2, 1) := by decide +kernel
theorem dL_law_762 : decode cL_law 762 = .ok (.invokevirtual 133, 3) := by decide +kernel
theorem dL_law_765 : decode cL_law 765 = .ok (.istore 6, 2) := by decide +kernel
theorem dL_law_767 : decode cL_law 767 = .ok (.aload_n 2, 1) := by decide +kernel
theorem dL_law_768 : decode cL_law 768 = .ok (.invokevirtual 93, 3) := by decide +kernel
theorem dL_law_771 : decode cL_law 771 = .ok (.iload 5, 2) := by decide +kernel
theorem dL_law_773 : decode cL_law 773 = .ok (.if_icmp .eq 5, 3) := by decide +kernel
theorem dL_law_776 : decode cL_law 776 = .ok (.iconst 0, 1) := by decide +kernel
theorem dL_law_777 : decode cL_law 777 = .ok (.ireturn, 1) := by decide +kernel
theorem dL_law_778 : decode cL_law 778 = .ok (.iload 5, 2) := by decide +kernel
theorem dL_law_780 : decode cL_law 780 = .ok (.ifCond .ne 15, 3) := by decide +kernel
theorem dL_law_783 : decode cL_law 783 = .ok (.aload_n 3, 1) := by decide +kernel
theorem dL_law_784 : decode cL_law 784 = .ok (.iconst 0, 1) := by decide +kernel
theorem dL_law_785 : decode cL_law 785 = .ok (.laload, 1) := by decide +kernel
theorem dL_law_786 : decode cL_law 786 = .ok (.iload 6, 2) := by decide +kernel
theorem dL_law_788 : decode cL_law 788 = .ok (.i2l, 1) := by decide +kernel
theorem dL_law_789 : decode cL_law 789 = .ok (.lcmp, 1) := by decide +kernel
theorem dL_law_790 : decode cL_law 790 = .ok (.ifCond .eq 5, 3) := by decide +kernel
theorem dL_law_793 : decode cL_law 793 = .ok (.iconst 0, 1) := by decide +kernel
theorem dL_law_794 : decode cL_law 794 = .ok (.ireturn, 1) := by decide +kernel
theorem dL_law_795 : decode cL_law 795 = .ok (.goto 781, 3) := by decide +kernel
theorem dL_law_798 : decode cL_law 798 = .ok (.aload_n 1, 1) := by decide +kernel
theorem dL_law_799 : decode cL_law 799 = .ok (.aload_n 0, 1) := by decide +kernel
theorem dL_law_800 : decode cL_law 800 = .ok (.iload 4, 2) := by decide +kernel
theorem dL_law_802 : decode cL_law 802 = .ok (.iconst 1, 1) := by decide +kernel
theorem dL_law_803 : decode cL_law 803 = .ok (.iadd, 1) := by decide +kernel
theorem dL_law_804 : decode cL_law 804 = .ok (.iaload, 1) := by decide +kernel
theorem dL_law_805 : decode cL_law 805 = .ok (.aload_n 3, 1) := by decide +kernel
theorem dL_law_806 : decode cL_law 806 = .ok (.invokestatic 134, 3) := by decide +kernel
theorem dL_law_809 : decode cL_law 809 = .ok (.istore 5, 2) := by decide +kernel
theorem dL_law_811 : decode cL_law 811 = .ok (.aload_n 2, 1) := by decide +kernel
theorem dL_law_812 : decode cL_law 812 = .ok (.aload_n 0, 1) := by decide +kernel
theorem dL_law_813 : decode cL_law 813 = .ok (.iload 4, 2) := by decide +kernel
theorem dL_law_815 : decode cL_law 815 = .ok (.iconst 1, 1) := by decide +kernel
theorem dL_law_816 : decode cL_law 816 = .ok (.iadd, 1) := by decide +kernel
theorem dL_law_817 : decode cL_law 817 = .ok (.iaload, 1) := by decide +kernel
theorem dL_law_818 : decode cL_law 818 = .ok (.invokevirtual 136, 3) := by decide +kernel
theorem dL_law_821 : decode cL_law 821 = .ok (.istore 6, 2) := by decide +kernel
theorem dL_law_823 : decode cL_law 823 = .ok (.aload_n 2, 1) := by decide +kernel
theorem dL_law_824 : decode cL_law 824 = .ok (.invokevirtual 93, 3) := by decide +kernel
theorem dL_law_827 : decode cL_law 827 = .ok (.iload 5, 2) := by decide +kernel
theorem dL_law_829 : decode cL_law 829 = .ok (.if_icmp .eq 5, 3) := by decide +kernel
theorem dL_law_832 : decode cL_law 832 = .ok (.iconst 0, 1) := by decide +kernel
theorem dL_law_833 : decode cL_law 833 = .ok (.ireturn, 1) := by decide +kernel
theorem dL_law_834 : decode cL_law 834 = .ok (.iload 5, 2) := by decide +kernel
theorem dL_law_836 : decode cL_law 836 = .ok (.ifCond .ne 15, 3) := by decide +kernel
theorem dL_law_839 : decode cL_law 839 = .ok (.aload_n 3, 1) := by decide +kernel
theorem dL_law_840 : decode cL_law 840 = .ok (.iconst 0, 1) := by decide +kernel
theorem dL_law_841 : decode cL_law 841 = .ok (.laload, 1) := by decide +kernel
theorem dL_law_842 : decode cL_law 842 = .ok (.iload 6, 2) := by decide +kernel
theorem dL_law_844 : decode cL_law 844 = .ok (.i2l, 1) := by decide +kernel
theorem dL_law_845 : decode cL_law 845 = .ok (.lcmp, 1) := by decide +kernel
theorem dL_law_846 : decode cL_law 846 = .ok (.ifCond .eq 5, 3) := by decide +kernel
theorem dL_law_849 : decode cL_law 849 = .ok (.iconst 0, 1) := by decide +kernel
theorem dL_law_850 : decode cL_law 850 = .ok (.ireturn, 1) := by decide +kernel
theorem dL_law_851 : decode cL_law 851 = .ok (.goto 725, 3) := by decide +kernel
theorem dL_law_854 : decode cL_law 854 = .ok (.aload_n 1, 1) := by decide +kernel
theorem dL_law_855 : decode cL_law 855 = .ok (.aload_n 0, 1) := by decide +kernel
theorem dL_law_856 : decode cL_law 856 = .ok (.iload 4, 2) := by decide +kernel
theorem dL_law_858 : decode cL_law 858 = .ok (.iconst 1, 1) := by decide +kernel
theorem dL_law_859 : decode cL_law 859 = .ok (.iadd, 1) := by decide +kernel
theorem dL_law_860 : decode cL_law 860 = .ok (.iaload, 1) := by decide +kernel
theorem dL_law_861 : decode cL_law 861 = .ok (.aload_n 3, 1) := by decide +kernel
theorem dL_law_862 : decode cL_law 862 = .ok (.invokestatic 137, 3) := by decide +kernel
theorem dL_law_865 : decode cL_law 865 = .ok (.istore 5, 2) := by decide +kernel
theorem dL_law_867 : decode cL_law 867 = .ok (.aload_n 2, 1) := by decide +kernel
theorem dL_law_868 : decode cL_law 868 = .ok (.aload_n 0, 1) := by decide +kernel
theorem dL_law_869 : decode cL_law 869 = .ok (.iload 4, 2) := by decide +kernel
theorem dL_law_871 : decode cL_law 871 = .ok (.iconst 1, 1) := by decide +kernel
theorem dL_law_872 : decode cL_law 872 = .ok (.iadd, 1) := by decide +kernel
theorem dL_law_873 : decode cL_law 873 = .ok (.iaload, 1) := by decide +kernel
theorem dL_law_874 : decode cL_law 874 = .ok (.invokevirtual 139, 3) := by decide +kernel
theorem dL_law_877 : decode cL_law 877 = .ok (.istore 6, 2) := by decide +kernel
theorem dL_law_879 : decode cL_law 879 = .ok (.aload_n 2, 1) := by decide +kernel
theorem dL_law_880 : decode cL_law 880 = .ok (.invokevirtual 93, 3) := by decide +kernel
theorem dL_law_883 : decode cL_law 883 = .ok (.iload 5, 2) := by decide +kernel
theorem dL_law_885 : decode cL_law 885 = .ok (.if_icmp .eq 5, 3) := by decide +kernel
theorem dL_law_888 : decode cL_law 888 = .ok (.iconst 0, 1) := by decide +kernel
theorem dL_law_889 : decode cL_law 889 = .ok (.ireturn, 1) := by decide +kernel
theorem dL_law_890 : decode cL_law 890 = .ok (.iload 5, 2) := by decide +kernel
theorem dL_law_892 : decode cL_law 892 = .ok (.ifCond .ne 15, 3) := by decide +kernel
theorem dL_law_895 : decode cL_law 895 = .ok (.aload_n 3, 1) := by decide +kernel
theorem dL_law_896 : decode cL_law 896 = .ok (.iconst 0, 1) := by decide +kernel
theorem dL_law_897 : decode cL_law 897 = .ok (.laload, 1) := by decide +kernel
theorem dL_law_898 : decode cL_law 898 = .ok (.iload 6, 2) := by decide +kernel
theorem dL_law_900 : decode cL_law 900 = .ok (.i2l, 1) := by decide +kernel
theorem dL_law_901 : decode cL_law 901 = .ok (.lcmp, 1) := by decide +kernel
theorem dL_law_902 : decode cL_law 902 = .ok (.ifCond .eq 5, 3) := by decide +kernel
theorem dL_law_905 : decode cL_law 905 = .ok (.iconst 0, 1) := by decide +kernel
theorem dL_law_906 : decode cL_law 906 = .ok (.ireturn, 1) := by decide +kernel
theorem dL_law_907 : decode cL_law 907 = .ok (.goto 669, 3) := by decide +kernel
theorem dL_law_910 : decode cL_law 910 = .ok (.aload_n 1, 1) := by decide +kernel
theorem dL_law_911 : decode cL_law 911 = .ok (.aload_n 0, 1) := by decide +kernel
theorem dL_law_912 : decode cL_law 912 = .ok (.iload 4, 2) := by decide +kernel
theorem dL_law_914 : decode cL_law 914 = .ok (.iconst 1, 1) := by decide +kernel
theorem dL_law_915 : decode cL_law 915 = .ok (.iadd, 1) := by decide +kernel
theorem dL_law_916 : decode cL_law 916 = .ok (.iaload, 1) := by decide +kernel
theorem dL_law_917 : decode cL_law 917 = .ok (.aload_n 0, 1) := by decide +kernel
theorem dL_law_918 : decode cL_law 918 = .ok (.iload 4, 2) := by decide +kernel
theorem dL_law_920 : decode cL_law 920 = .ok (.iconst 2, 1) := by decide +kernel
theorem dL_law_921 : decode cL_law 921 = .ok (.iadd, 1) := by decide +kernel
theorem dL_law_922 : decode cL_law 922 = .ok (.iaload, 1) := by decide +kernel
theorem dL_law_923 : decode cL_law 923 = .ok (.aload_n 3, 1) := by decide +kernel
theorem dL_law_924 : decode cL_law 924 = .ok (.invokestatic 140, 3) := by decide +kernel
theorem dL_law_927 : decode cL_law 927 = .ok (.istore 5, 2) := by decide +kernel
theorem dL_law_929 : decode cL_law 929 = .ok (.aload_n 2, 1) := by decide +kernel
theorem dL_law_930 : decode cL_law 930 = .ok (.aload_n 0, 1) := by decide +kernel
theorem dL_law_931 : decode cL_law 931 = .ok (.iload 4, 2) := by decide +kernel
theorem dL_law_933 : decode cL_law 933 = .ok (.iconst 1, 1) := by decide +kernel
theorem dL_law_934 : decode cL_law 934 = .ok (.iadd, 1) := by decide +kernel
theorem dL_law_935 : decode cL_law 935 = .ok (.iaload, 1) := by decide +kernel
theorem dL_law_936 : decode cL_law 936 = .ok (.aload_n 0, 1) := by decide +kernel
theorem dL_law_937 : decode cL_law 937 = .ok (.iload 4, 2) := by decide +kernel
theorem dL_law_939 : decode cL_law 939 = .ok (.iconst 2, 1) := by decide +kernel
theorem dL_law_940 : decode cL_law 940 = .ok (.iadd, 1) := by decide +kernel
theorem dL_law_941 : decode cL_law 941 = .ok (.iaload, 1) := by decide +kernel
theorem dL_law_942 : decode cL_law 942 = .ok (.invokevirtual 142, 3) := by decide +kernel
theorem dL_law_945 : decode cL_law 945 = .ok (.istore 6, 2) := by decide +kernel
theorem dL_law_947 : decode cL_law 947 = .ok (.aload_n 2, 1) := by decide +kernel
theorem dL_law_948 : decode cL_law 948 = .ok (.invokevirtual 93, 3) := by decide +kernel
theorem dL_law_951 : decode cL_law 951 = .ok (.iload 5, 2) := by decide +kernel
theorem dL_law_953 : decode cL_law 953 = .ok (.if_icmp .eq 5, 3) := by decide +kernel
theorem dL_law_956 : decode cL_law 956 = .ok (.iconst 0, 1) := by decide +kernel
theorem dL_law_957 : decode cL_law 957 = .ok (.ireturn, 1) := by decide +kernel
theorem dL_law_958 : decode cL_law 958 = .ok (.iload 5, 2) := by decide +kernel
theorem dL_law_960 : decode cL_law 960 = .ok (.ifCond .ne 15, 3) := by decide +kernel
theorem dL_law_963 : decode cL_law 963 = .ok (.aload_n 3, 1) := by decide +kernel
theorem dL_law_964 : decode cL_law 964 = .ok (.iconst 0, 1) := by decide +kernel
theorem dL_law_965 : decode cL_law 965 = .ok (.laload, 1) := by decide +kernel
theorem dL_law_966 : decode cL_law 966 = .ok (.iload 6, 2) := by decide +kernel
theorem dL_law_968 : decode cL_law 968 = .ok (.i2l, 1) := by decide +kernel
theorem dL_law_969 : decode cL_law 969 = .ok (.lcmp, 1) := by decide +kernel
theorem dL_law_970 : decode cL_law 970 = .ok (.ifCond .eq 5, 3) := by decide +kernel
theorem dL_law_973 : decode cL_law 973 = .ok (.iconst 0, 1) := by decide +kernel
theorem dL_law_974 : decode cL_law 974 = .ok (.ireturn, 1) := by decide +kernel
theorem dL_law_975 : decode cL_law 975 = .ok (.goto 601, 3) := by decide +kernel
theorem dL_law_978 : decode cL_law 978 = .ok (.aload_n 1, 1) := by decide +kernel
theorem dL_law_979 : decode cL_law 979 = .ok (.aload_n 0, 1) := by decide +kernel
theorem dL_law_980 : decode cL_law 980 = .ok (.iload 4, 2) := by decide +kernel
theorem dL_law_982 : decode cL_law 982 = .ok (.iconst 1, 1) := by decide +kernel
theorem dL_law_983 : decode cL_law 983 = .ok (.iadd, 1) := by decide +kernel
theorem dL_law_984 : decode cL_law 984 = .ok (.iaload, 1) := by decide +kernel
theorem dL_law_985 : decode cL_law 985 = .ok (.aload_n 0, 1) := by decide +kernel
theorem dL_law_986 : decode cL_law 986 = .ok (.iload 4, 2) := by decide +kernel
theorem dL_law_988 : decode cL_law 988 = .ok (.iconst 2, 1) := by decide +kernel
theorem dL_law_989 : decode cL_law 989 = .ok (.iadd, 1) := by decide +kernel
theorem dL_law_990 : decode cL_law 990 = .ok (.iaload, 1) := by decide +kernel
theorem dL_law_991 : decode cL_law 991 = .ok (.aload_n 0, 1) := by decide +kernel
theorem dL_law_992 : decode cL_law 992 = .ok (.iload 4, 2) := by decide +kernel
theorem dL_law_994 : decode cL_law 994 = .ok (.iconst 3, 1) := by decide +kernel
theorem dL_law_995 : decode cL_law 995 = .ok (.iadd, 1) := by decide +kernel
theorem dL_law_996 : decode cL_law 996 = .ok (.iaload, 1) := by decide +kernel
theorem dL_law_997 : decode cL_law 997 = .ok (.aload_n 3, 1) := by decide +kernel
theorem dL_law_998 : decode cL_law 998 = .ok (.invokestatic 143, 3) := by decide +kernel
theorem dL_law_1001 : decode cL_law 1001 = .ok (.istore 5, 2) := by decide +kernel
theorem dL_law_1003 : decode cL_law 1003 = .ok (.aload_n 2, 1) := by decide +kernel
theorem dL_law_1004 : decode cL_law 1004 = .ok (.aload_n 0, 1) := by decide +kernel
theorem dL_law_1005 : decode cL_law 1005 = .ok (.iload 4, 2) := by decide +kernel
theorem dL_law_1007 : decode cL_law 1007 = .ok (.iconst 1, 1) := by decide +kernel
theorem dL_law_1008 : decode cL_law 1008 = .ok (.iadd, 1) := by decide +kernel
theorem dL_law_1009 : decode cL_law 1009 = .ok (.iaload, 1) := by decide +kernel
theorem dL_law_1010 : decode cL_law 1010 = .ok (.aload_n 0, 1) := by decide +kernel
theorem dL_law_1011 : decode cL_law 1011 = .ok (.iload 4, 2) := by decide +kernel
theorem dL_law_1013 : decode cL_law 1013 = .ok (.iconst 2, 1) := by decide +kernel
theorem dL_law_1014 : decode cL_law 1014 = .ok (.iadd, 1) := by decide +kernel
theorem dL_law_1015 : decode cL_law 1015 = .ok (.iaload, 1) := by decide +kernel
theorem dL_law_1016 : decode cL_law 1016 = .ok (.aload_n 0, 1) := by decide +kernel
theorem dL_law_1017 : decode cL_law 1017 = .ok (.iload 4, 2) := by decide +kernel
theorem dL_law_1019 : decode cL_law 1019 = .ok (.iconst 3, 1) := by decide +kernel
theorem dL_law_1020 : decode cL_law 1020 = .ok (.iadd, 1) := by decide +kernel
theorem dL_law_1021 : decode cL_law 1021 = .ok (.iaload, 1) := by decide +kernel
theorem dL_law_1022 : decode cL_law 1022 = .ok (.invokevirtual 146, 3) := by decide +kernel
theorem dL_law_1025 : decode cL_law 1025 = .ok (.istore 6, 2) := by decide +kernel
theorem dL_law_1027 : decode cL_law 1027 = .ok (.aload_n 2, 1) := by decide +kernel
theorem dL_law_1028 : decode cL_law 1028 = .ok (.invokevirtual 93, 3) := by decide +kernel
theorem dL_law_1031 : decode cL_law 1031 = .ok (.iload 5, 2) := by decide +kernel
theorem dL_law_1033 : decode cL_law 1033 = .ok (.if_icmp .eq 5, 3) := by decide +kernel
theorem dL_law_1036 : decode cL_law 1036 = .ok (.iconst 0, 1) := by decide +kernel
theorem dL_law_1037 : decode cL_law 1037 = .ok (.ireturn, 1) := by decide +kernel
theorem dL_law_1038 : decode cL_law 1038 = .ok (.iload 5, 2) := by decide +kernel
theorem dL_law_1040 : decode cL_law 1040 = .ok (.ifCond .ne 15, 3) := by decide +kernel
theorem dL_law_1043 : decode cL_law 1043 = .ok (.aload_n 3, 1) := by decide +kernel
theorem dL_law_1044 : decode cL_law 1044 = .ok (.iconst 0, 1) := by decide +kernel
theorem dL_law_1045 : decode cL_law 1045 = .ok (.laload, 1) := by decide +kernel
theorem dL_law_1046 : decode cL_law 1046 = .ok (.iload 6, 2) := by decide +kernel
theorem dL_law_1048 : decode cL_law 1048 = .ok (.i2l, 1) := by decide +kernel
theorem dL_law_1049 : decode cL_law 1049 = .ok (.lcmp, 1) := by decide +kernel
theorem dL_law_1050 : decode cL_law 1050 = .ok (.ifCond .eq 5, 3) := by decide +kernel
theorem dL_law_1053 : decode cL_law 1053 = .ok (.iconst 0, 1) := by decide +kernel
theorem dL_law_1054 : decode cL_law 1054 = .ok (.ireturn, 1) := by decide +kernel
theorem dL_law_1055 : decode cL_law 1055 = .ok (.goto 521, 3) := by decide +kernel
theorem dL_law_1058 : decode cL_law 1058 = .ok (.aload_n 1, 1) := by decide +kernel
theorem dL_law_1059 : decode cL_law 1059 = .ok (.aload_n 0, 1) := by decide +kernel
theorem dL_law_1060 : decode cL_law 1060 = .ok (.iload 4, 2) := by decide +kernel
theorem dL_law_1062 : decode cL_law 1062 = .ok (.iconst 1, 1) := by decide +kernel
theorem dL_law_1063 : decode cL_law 1063 = .ok (.iadd, 1) := by decide +kernel
theorem dL_law_1064 : decode cL_law 1064 = .ok (.iaload, 1) := by decide +kernel
theorem dL_law_1065 : decode cL_law 1065 = .ok (.aload_n 0, 1) := by decide +kernel
theorem dL_law_1066 : decode cL_law 1066 = .ok (.iload 4, 2) := by decide +kernel
theorem dL_law_1068 : decode cL_law 1068 = .ok (.iconst 2, 1) := by decide +kernel
theorem dL_law_1069 : decode cL_law 1069 = .ok (.iadd, 1) := by decide +kernel
theorem dL_law_1070 : decode cL_law 1070 = .ok (.iaload, 1) := by decide +kernel
theorem dL_law_1071 : decode cL_law 1071 = .ok (.aload_n 3, 1) := by decide +kernel
theorem dL_law_1072 : decode cL_law 1072 = .ok (.invokestatic 147, 3) := by decide +kernel
theorem dL_law_1075 : decode cL_law 1075 = .ok (.istore 5, 2) := by decide +kernel
theorem dL_law_1077 : decode cL_law 1077 = .ok (.aload_n 2, 1) := by decide +kernel
theorem dL_law_1078 : decode cL_law 1078 = .ok (.aload_n 0, 1) := by decide +kernel
theorem dL_law_1079 : decode cL_law 1079 = .ok (.iload 4, 2) := by decide +kernel
theorem dL_law_1081 : decode cL_law 1081 = .ok (.iconst 1, 1) := by decide +kernel
theorem dL_law_1082 : decode cL_law 1082 = .ok (.iadd, 1) := by decide +kernel
theorem dL_law_1083 : decode cL_law 1083 = .ok (.iaload, 1) := by decide +kernel
theorem dL_law_1084 : decode cL_law 1084 = .ok (.aload_n 0, 1) := by decide +kernel
theorem dL_law_1085 : decode cL_law 1085 = .ok (.iload 4, 2) := by decide +kernel
theorem dL_law_1087 : decode cL_law 1087 = .ok (.iconst 2, 1) := by decide +kernel
theorem dL_law_1088 : decode cL_law 1088 = .ok (.iadd, 1) := by decide +kernel
theorem dL_law_1089 : decode cL_law 1089 = .ok (.iaload, 1) := by decide +kernel
theorem dL_law_1090 : decode cL_law 1090 = .ok (.invokevirtual 149, 3) := by decide +kernel
theorem dL_law_1093 : decode cL_law 1093 = .ok (.istore 6, 2) := by decide +kernel
theorem dL_law_1095 : decode cL_law 1095 = .ok (.aload_n 2, 1) := by decide +kernel
theorem dL_law_1096 : decode cL_law 1096 = .ok (.invokevirtual 93, 3) := by decide +kernel
theorem dL_law_1099 : decode cL_law 1099 = .ok (.iload 5, 2) := by decide +kernel
theorem dL_law_1101 : decode cL_law 1101 = .ok (.if_icmp .eq 5, 3) := by decide +kernel
theorem dL_law_1104 : decode cL_law 1104 = .ok (.iconst 0, 1) := by decide +kernel
theorem dL_law_1105 : decode cL_law 1105 = .ok (.ireturn, 1) := by decide +kernel
theorem dL_law_1106 : decode cL_law 1106 = .ok (.iload 5, 2) := by decide +kernel
theorem dL_law_1108 : decode cL_law 1108 = .ok (.ifCond .ne 15, 3) := by decide +kernel
theorem dL_law_1111 : decode cL_law 1111 = .ok (.aload_n 3, 1) := by decide +kernel
theorem dL_law_1112 : decode cL_law 1112 = .ok (.iconst 0, 1) := by decide +kernel
theorem dL_law_1113 : decode cL_law 1113 = .ok (.laload, 1) := by decide +kernel
theorem dL_law_1114 : decode cL_law 1114 = .ok (.iload 6, 2) := by decide +kernel
theorem dL_law_1116 : decode cL_law 1116 = .ok (.i2l, 1) := by decide +kernel
theorem dL_law_1117 : decode cL_law 1117 = .ok (.lcmp, 1) := by decide +kernel
theorem dL_law_1118 : decode cL_law 1118 = .ok (.ifCond .eq 5, 3) := by decide +kernel
theorem dL_law_1121 : decode cL_law 1121 = .ok (.iconst 0, 1) := by decide +kernel
theorem dL_law_1122 : decode cL_law 1122 = .ok (.ireturn, 1) := by decide +kernel
theorem dL_law_1123 : decode cL_law 1123 = .ok (.goto 453, 3) := by decide +kernel
theorem dL_law_1126 : decode cL_law 1126 = .ok (.aload_n 1, 1) := by decide +kernel
theorem dL_law_1127 : decode cL_law 1127 = .ok (.aload_n 0, 1) := by decide +kernel
theorem dL_law_1128 : decode cL_law 1128 = .ok (.iload 4, 2) := by decide +kernel
theorem dL_law_1130 : decode cL_law 1130 = .ok (.iconst 1, 1) := by decide +kernel
theorem dL_law_1131 : decode cL_law 1131 = .ok (.iadd, 1) := by decide +kernel
theorem dL_law_1132 : decode cL_law 1132 = .ok (.iaload, 1) := by decide +kernel
theorem dL_law_1133 : decode cL_law 1133 = .ok (.aload_n 3, 1) := by decide +kernel
theorem dL_law_1134 : decode cL_law 1134 = .ok (.invokestatic 150, 3) := by decide +kernel
theorem dL_law_1137 : decode cL_law 1137 = .ok (.istore 5, 2) := by decide +kernel
theorem dL_law_1139 : decode cL_law 1139 = .ok (.aload_n 2, 1) := by decide +kernel
theorem dL_law_1140 : decode cL_law 1140 = .ok (.aload_n 0, 1) := by decide +kernel
theorem dL_law_1141 : decode cL_law 1141 = .ok (.iload 4, 2) := by decide +kernel
theorem dL_law_1143 : decode cL_law 1143 = .ok (.iconst 1, 1) := by decide +kernel
theorem dL_law_1144 : decode cL_law 1144 = .ok (.iadd, 1) := by decide +kernel
theorem dL_law_1145 : decode cL_law 1145 = .ok (.iaload, 1) := by decide +kernel
theorem dL_law_1146 : decode cL_law 1146 = .ok (.invokevirtual 152, 3) := by decide +kernel
theorem dL_law_1149 : decode cL_law 1149 = .ok (.istore 6, 2) := by decide +kernel
theorem dL_law_1151 : decode cL_law 1151 = .ok (.aload_n 2, 1) := by decide +kernel
theorem dL_law_1152 : decode cL_law 1152 = .ok (.invokevirtual 93, 3) := by decide +kernel
theorem dL_law_1155 : decode cL_law 1155 = .ok (.iload 5, 2) := by decide +kernel
theorem dL_law_1157 : decode cL_law 1157 = .ok (.if_icmp .eq 5, 3) := by decide +kernel
theorem dL_law_1160 : decode cL_law 1160 = .ok (.iconst 0, 1) := by decide +kernel
theorem dL_law_1161 : decode cL_law 1161 = .ok (.ireturn, 1) := by decide +kernel
theorem dL_law_1162 : decode cL_law 1162 = .ok (.iload 5, 2) := by decide +kernel
theorem dL_law_1164 : decode cL_law 1164 = .ok (.ifCond .ne 15, 3) := by decide +kernel
theorem dL_law_1167 : decode cL_law 1167 = .ok (.aload_n 3, 1) := by decide +kernel
theorem dL_law_1168 : decode cL_law 1168 = .ok (.iconst 0, 1) := by decide +kernel
theorem dL_law_1169 : decode cL_law 1169 = .ok (.laload, 1) := by decide +kernel
theorem dL_law_1170 : decode cL_law 1170 = .ok (.iload 6, 2) := by decide +kernel
theorem dL_law_1172 : decode cL_law 1172 = .ok (.i2l, 1) := by decide +kernel
theorem dL_law_1173 : decode cL_law 1173 = .ok (.lcmp, 1) := by decide +kernel
theorem dL_law_1174 : decode cL_law 1174 = .ok (.ifCond .eq 5, 3) := by decide +kernel
theorem dL_law_1177 : decode cL_law 1177 = .ok (.iconst 0, 1) := by decide +kernel
theorem dL_law_1178 : decode cL_law 1178 = .ok (.ireturn, 1) := by decide +kernel
theorem dL_law_1179 : decode cL_law 1179 = .ok (.goto 397, 3) := by decide +kernel
theorem dL_law_1182 : decode cL_law 1182 = .ok (.aload_n 1, 1) := by decide +kernel
theorem dL_law_1183 : decode cL_law 1183 = .ok (.aload_n 0, 1) := by decide +kernel
theorem dL_law_1184 : decode cL_law 1184 = .ok (.iload 4, 2) := by decide +kernel
theorem dL_law_1186 : decode cL_law 1186 = .ok (.iconst 1, 1) := by decide +kernel
theorem dL_law_1187 : decode cL_law 1187 = .ok (.iadd, 1) := by decide +kernel
theorem dL_law_1188 : decode cL_law 1188 = .ok (.iaload, 1) := by decide +kernel
theorem dL_law_1189 : decode cL_law 1189 = .ok (.aload_n 0, 1) := by decide +kernel
theorem dL_law_1190 : decode cL_law 1190 = .ok (.iload 4, 2) := by decide +kernel
theorem dL_law_1192 : decode cL_law 1192 = .ok (.iconst 2, 1) := by decide +kernel
theorem dL_law_1193 : decode cL_law 1193 = .ok (.iadd, 1) := by decide +kernel
theorem dL_law_1194 : decode cL_law 1194 = .ok (.iaload, 1) := by decide +kernel
theorem dL_law_1195 : decode cL_law 1195 = .ok (.aload_n 3, 1) := by decide +kernel
theorem dL_law_1196 : decode cL_law 1196 = .ok (.invokestatic 153, 3) := by decide +kernel
theorem dL_law_1199 : decode cL_law 1199 = .ok (.istore 5, 2) := by decide +kernel
theorem dL_law_1201 : decode cL_law 1201 = .ok (.aload_n 2, 1) := by decide +kernel
theorem dL_law_1202 : decode cL_law 1202 = .ok (.aload_n 0, 1) := by decide +kernel
theorem dL_law_1203 : decode cL_law 1203 = .ok (.iload 4, 2) := by decide +kernel
theorem dL_law_1205 : decode cL_law 1205 = .ok (.iconst 1, 1) := by decide +kernel
theorem dL_law_1206 : decode cL_law 1206 = .ok (.iadd, 1) := by decide +kernel
theorem dL_law_1207 : decode cL_law 1207 = .ok (.iaload, 1) := by decide +kernel
theorem dL_law_1208 : decode cL_law 1208 = .ok (.aload_n 0, 1) := by decide +kernel
theorem dL_law_1209 : decode cL_law 1209 = .ok (.iload 4, 2) := by decide +kernel
theorem dL_law_1211 : decode cL_law 1211 = .ok (.iconst 2, 1) := by decide +kernel
theorem dL_law_1212 : decode cL_law 1212 = .ok (.iadd, 1) := by decide +kernel
theorem dL_law_1213 : decode cL_law 1213 = .ok (.iaload, 1) := by decide +kernel
theorem dL_law_1214 : decode cL_law 1214 = .ok (.invokevirtual 155, 3) := by decide +kernel
theorem dL_law_1217 : decode cL_law 1217 = .ok (.istore 6, 2) := by decide +kernel
theorem dL_law_1219 : decode cL_law 1219 = .ok (.aload_n 2, 1) := by decide +kernel
theorem dL_law_1220 : decode cL_law 1220 = .ok (.invokevirtual 93, 3) := by decide +kernel
theorem dL_law_1223 : decode cL_law 1223 = .ok (.iload 5, 2) := by decide +kernel
theorem dL_law_1225 : decode cL_law 1225 = .ok (.if_icmp .eq 5, 3) := by decide +kernel
theorem dL_law_1228 : decode cL_law 1228 = .ok (.iconst 0, 1) := by decide +kernel
theorem dL_law_1229 : decode cL_law 1229 = .ok (.ireturn, 1) := by decide +kernel
theorem dL_law_1230 : decode cL_law 1230 = .ok (.iload 5, 2) := by decide +kernel
theorem dL_law_1232 : decode cL_law 1232 = .ok (.ifCond .ne 15, 3) := by decide +kernel
theorem dL_law_1235 : decode cL_law 1235 = .ok (.aload_n 3, 1) := by decide +kernel
theorem dL_law_1236 : decode cL_law 1236 = .ok (.iconst 0, 1) := by decide +kernel
theorem dL_law_1237 : decode cL_law 1237 = .ok (.laload, 1) := by decide +kernel
theorem dL_law_1238 : decode cL_law 1238 = .ok (.iload 6, 2) := by decide +kernel
theorem dL_law_1240 : decode cL_law 1240 = .ok (.i2l, 1) := by decide +kernel
theorem dL_law_1241 : decode cL_law 1241 = .ok (.lcmp, 1) := by decide +kernel
theorem dL_law_1242 : decode cL_law 1242 = .ok (.ifCond .eq 5, 3) := by decide +kernel
theorem dL_law_1245 : decode cL_law 1245 = .ok (.iconst 0, 1) := by decide +kernel
theorem dL_law_1246 : decode cL_law 1246 = .ok (.ireturn, 1) := by decide +kernel
theorem dL_law_1247 : decode cL_law 1247 = .ok (.goto 329, 3) := by decide +kernel
theorem dL_law_1250 : decode cL_law 1250 = .ok (.aload_n 1, 1) := by decide +kernel
theorem dL_law_1251 : decode cL_law 1251 = .ok (.aload_n 0, 1) := by decide +kernel
theorem dL_law_1252 : decode cL_law 1252 = .ok (.iload 4, 2) := by decide +kernel
theorem dL_law_1254 : decode cL_law 1254 = .ok (.iconst 1, 1) := by decide +kernel
theorem dL_law_1255 : decode cL_law 1255 = .ok (.iadd, 1) := by decide +kernel
theorem dL_law_1256 : decode cL_law 1256 = .ok (.iaload, 1) := by decide +kernel
theorem dL_law_1257 : decode cL_law 1257 = .ok (.aload_n 0, 1) := by decide +kernel
theorem dL_law_1258 : decode cL_law 1258 = .ok (.iload 4, 2) := by decide +kernel
theorem dL_law_1260 : decode cL_law 1260 = .ok (.iconst 2, 1) := by decide +kernel
theorem dL_law_1261 : decode cL_law 1261 = .ok (.iadd, 1) := by decide +kernel
theorem dL_law_1262 : decode cL_law 1262 = .ok (.iaload, 1) := by decide +kernel
theorem dL_law_1263 : decode cL_law 1263 = .ok (.invokevirtual 156, 3) := by decide +kernel
theorem dL_law_1266 : decode cL_law 1266 = .ok (.aload_n 2, 1) := by decide +kernel
theorem dL_law_1267 : decode cL_law 1267 = .ok (.aload_n 0, 1) := by decide +kernel
theorem dL_law_1268 : decode cL_law 1268 = .ok (.iload 4, 2) := by decide +kernel
theorem dL_law_1270 : decode cL_law 1270 = .ok (.iconst 1, 1) := by decide +kernel
theorem dL_law_1271 : decode cL_law 1271 = .ok (.iadd, 1) := by decide +kernel
theorem dL_law_1272 : decode cL_law 1272 = .ok (.iaload, 1) := by decide +kernel
theorem dL_law_1273 : decode cL_law 1273 = .ok (.aload_n 0, 1) := by decide +kernel
theorem dL_law_1274 : decode cL_law 1274 = .ok (.iload 4, 2) := by decide +kernel
theorem dL_law_1276 : decode cL_law 1276 = .ok (.iconst 2, 1) := by decide +kernel
theorem dL_law_1277 : decode cL_law 1277 = .ok (.iadd, 1) := by decide +kernel
theorem dL_law_1278 : decode cL_law 1278 = .ok (.iaload, 1) := by decide +kernel
theorem dL_law_1279 : decode cL_law 1279 = .ok (.invokevirtual 159, 3) := by decide +kernel
theorem dL_law_1282 : decode cL_law 1282 = .ok (.if_icmp .eq 294, 3) := by decide +kernel
theorem dL_law_1285 : decode cL_law 1285 = .ok (.iconst 0, 1) := by decide +kernel
theorem dL_law_1286 : decode cL_law 1286 = .ok (.ireturn, 1) := by decide +kernel
theorem dL_law_1287 : decode cL_law 1287 = .ok (.aload_n 1, 1) := by decide +kernel
theorem dL_law_1288 : decode cL_law 1288 = .ok (.aload_n 0, 1) := by decide +kernel
theorem dL_law_1289 : decode cL_law 1289 = .ok (.iload 4, 2) := by decide +kernel
theorem dL_law_1291 : decode cL_law 1291 = .ok (.iconst 1, 1) := by decide +kernel
theorem dL_law_1292 : decode cL_law 1292 = .ok (.iadd, 1) := by decide +kernel
theorem dL_law_1293 : decode cL_law 1293 = .ok (.iaload, 1) := by decide +kernel
theorem dL_law_1294 : decode cL_law 1294 = .ok (.aload_n 0, 1) := by decide +kernel
theorem dL_law_1295 : decode cL_law 1295 = .ok (.iload 4, 2) := by decide +kernel
theorem dL_law_1297 : decode cL_law 1297 = .ok (.iconst 2, 1) := by decide +kernel
theorem dL_law_1298 : decode cL_law 1298 = .ok (.iadd, 1) := by decide +kernel
theorem dL_law_1299 : decode cL_law 1299 = .ok (.iaload, 1) := by decide +kernel
theorem dL_law_1300 : decode cL_law 1300 = .ok (.aload_n 3, 1) := by decide +kernel
theorem dL_law_1301 : decode cL_law 1301 = .ok (.invokestatic 160, 3) := by decide +kernel
theorem dL_law_1304 : decode cL_law 1304 = .ok (.istore 5, 2) := by decide +kernel
theorem dL_law_1306 : decode cL_law 1306 = .ok (.aload_n 2, 1) := by decide +kernel
theorem dL_law_1307 : decode cL_law 1307 = .ok (.aload_n 0, 1) := by decide +kernel
theorem dL_law_1308 : decode cL_law 1308 = .ok (.iload 4, 2) := by decide +kernel
theorem dL_law_1310 : decode cL_law 1310 = .ok (.iconst 1, 1) := by decide +kernel
theorem dL_law_1311 : decode cL_law 1311 = .ok (.iadd, 1) := by decide +kernel
theorem dL_law_1312 : decode cL_law 1312 = .ok (.iaload, 1) := by decide +kernel
theorem dL_law_1313 : decode cL_law 1313 = .ok (.aload_n 0, 1) := by decide +kernel
theorem dL_law_1314 : decode cL_law 1314 = .ok (.iload 4, 2) := by decide +kernel
theorem dL_law_1316 : decode cL_law 1316 = .ok (.iconst 2, 1) := by decide +kernel
theorem dL_law_1317 : decode cL_law 1317 = .ok (.iadd, 1) := by decide +kernel
theorem dL_law_1318 : decode cL_law 1318 = .ok (.iaload, 1) := by decide +kernel
theorem dL_law_1319 : decode cL_law 1319 = .ok (.invokevirtual 162, 3) := by decide +kernel
theorem dL_law_1322 : decode cL_law 1322 = .ok (.istore 6, 2) := by decide +kernel
theorem dL_law_1324 : decode cL_law 1324 = .ok (.aload_n 2, 1) := by decide +kernel
theorem dL_law_1325 : decode cL_law 1325 = .ok (.invokevirtual 93, 3) := by decide +kernel
theorem dL_law_1328 : decode cL_law 1328 = .ok (.iload 5, 2) := by decide +kernel
theorem dL_law_1330 : decode cL_law 1330 = .ok (.if_icmp .eq 5, 3) := by decide +kernel
theorem dL_law_1333 : decode cL_law 1333 = .ok (.iconst 0, 1) := by decide +kernel
theorem dL_law_1334 : decode cL_law 1334 = .ok (.ireturn, 1) := by decide +kernel
theorem dL_law_1335 : decode cL_law 1335 = .ok (.iload 5, 2) := by decide +kernel
theorem dL_law_1337 : decode cL_law 1337 = .ok (.ifCond .ne 15, 3) := by decide +kernel
theorem dL_law_1340 : decode cL_law 1340 = .ok (.aload_n 3, 1) := by decide +kernel
theorem dL_law_1341 : decode cL_law 1341 = .ok (.iconst 0, 1) := by decide +kernel
theorem dL_law_1342 : decode cL_law 1342 = .ok (.laload, 1) := by decide +kernel
theorem dL_law_1343 : decode cL_law 1343 = .ok (.iload 6, 2) := by decide +kernel
theorem dL_law_1345 : decode cL_law 1345 = .ok (.i2l, 1) := by decide +kernel
theorem dL_law_1346 : decode cL_law 1346 = .ok (.lcmp, 1) := by decide +kernel
theorem dL_law_1347 : decode cL_law 1347 = .ok (.ifCond .eq 5, 3) := by decide +kernel
theorem dL_law_1350 : decode cL_law 1350 = .ok (.iconst 0, 1) := by decide +kernel
theorem dL_law_1351 : decode cL_law 1351 = .ok (.ireturn, 1) := by decide +kernel
theorem dL_law_1352 : decode cL_law 1352 = .ok (.goto 224, 3) := by decide +kernel
theorem dL_law_1355 : decode cL_law 1355 = .ok (.aload_n 1, 1) := by decide +kernel
theorem dL_law_1356 : decode cL_law 1356 = .ok (.aload_n 0, 1) := by decide +kernel
theorem dL_law_1357 : decode cL_law 1357 = .ok (.iload 4, 2) := by decide +kernel
theorem dL_law_1359 : decode cL_law 1359 = .ok (.iconst 1, 1) := by decide +kernel
theorem dL_law_1360 : decode cL_law 1360 = .ok (.iadd, 1) := by decide +kernel
theorem dL_law_1361 : decode cL_law 1361 = .ok (.iaload, 1) := by decide +kernel
theorem dL_law_1362 : decode cL_law 1362 = .ok (.aload_n 3, 1) := by decide +kernel
theorem dL_law_1363 : decode cL_law 1363 = .ok (.invokestatic 163, 3) := by decide +kernel
theorem dL_law_1366 : decode cL_law 1366 = .ok (.istore 5, 2) := by decide +kernel
theorem dL_law_1368 : decode cL_law 1368 = .ok (.aload_n 2, 1) := by decide +kernel
theorem dL_law_1369 : decode cL_law 1369 = .ok (.aload_n 0, 1) := by decide +kernel
theorem dL_law_1370 : decode cL_law 1370 = .ok (.iload 4, 2) := by decide +kernel
theorem dL_law_1372 : decode cL_law 1372 = .ok (.iconst 1, 1) := by decide +kernel
theorem dL_law_1373 : decode cL_law 1373 = .ok (.iadd, 1) := by decide +kernel
theorem dL_law_1374 : decode cL_law 1374 = .ok (.iaload, 1) := by decide +kernel
theorem dL_law_1375 : decode cL_law 1375 = .ok (.invokevirtual 165, 3) := by decide +kernel
theorem dL_law_1378 : decode cL_law 1378 = .ok (.istore 6, 2) := by decide +kernel
theorem dL_law_1380 : decode cL_law 1380 = .ok (.aload_n 2, 1) := by decide +kernel
theorem dL_law_1381 : decode cL_law 1381 = .ok (.invokevirtual 93, 3) := by decide +kernel
theorem dL_law_1384 : decode cL_law 1384 = .ok (.iload 5, 2) := by decide +kernel
theorem dL_law_1386 : decode cL_law 1386 = .ok (.if_icmp .eq 5, 3) := by decide +kernel
theorem dL_law_1389 : decode cL_law 1389 = .ok (.iconst 0, 1) := by decide +kernel
theorem dL_law_1390 : decode cL_law 1390 = .ok (.ireturn, 1) := by decide +kernel
theorem dL_law_1391 : decode cL_law 1391 = .ok (.iload 5, 2) := by decide +kernel
theorem dL_law_1393 : decode cL_law 1393 = .ok (.ifCond .ne 15, 3) := by decide +kernel
theorem dL_law_1396 : decode cL_law 1396 = .ok (.aload_n 3, 1) := by decide +kernel
theorem dL_law_1397 : decode cL_law 1397 = .ok (.iconst 0, 1) := by decide +kernel
theorem dL_law_1398 : decode cL_law 1398 = .ok (.laload, 1) := by decide +kernel
theorem dL_law_1399 : decode cL_law 1399 = .ok (.iload 6, 2) := by decide +kernel
theorem dL_law_1401 : decode cL_law 1401 = .ok (.i2l, 1) := by decide +kernel
theorem dL_law_1402 : decode cL_law 1402 = .ok (.lcmp, 1) := by decide +kernel
theorem dL_law_1403 : decode cL_law 1403 = .ok (.ifCond .eq 5, 3) := by decide +kernel
theorem dL_law_1406 : decode cL_law 1406 = .ok (.iconst 0, 1) := by decide +kernel
theorem dL_law_1407 : decode cL_law 1407 = .ok (.ireturn, 1) := by decide +kernel
theorem dL_law_1408 : decode cL_law 1408 = .ok (.goto 168, 3) := by decide +kernel
theorem dL_law_1411 : decode cL_law 1411 = .ok (.aload_n 1, 1) := by decide +kernel
theorem dL_law_1412 : decode cL_law 1412 = .ok (.aload_n 0, 1) := by decide +kernel
theorem dL_law_1413 : decode cL_law 1413 = .ok (.iload 4, 2) := by decide +kernel
theorem dL_law_1415 : decode cL_law 1415 = .ok (.iconst 1, 1) := by decide +kernel
theorem dL_law_1416 : decode cL_law 1416 = .ok (.iadd, 1) := by decide +kernel
theorem dL_law_1417 : decode cL_law 1417 = .ok (.iaload, 1) := by decide +kernel
theorem dL_law_1418 : decode cL_law 1418 = .ok (.aload_n 0, 1) := by decide +kernel
theorem dL_law_1419 : decode cL_law 1419 = .ok (.iload 4, 2) := by decide +kernel
theorem dL_law_1421 : decode cL_law 1421 = .ok (.iconst 2, 1) := by decide +kernel
theorem dL_law_1422 : decode cL_law 1422 = .ok (.iadd, 1) := by decide +kernel
theorem dL_law_1423 : decode cL_law 1423 = .ok (.iaload, 1) := by decide +kernel
theorem dL_law_1424 : decode cL_law 1424 = .ok (.aload_n 3, 1) := by decide +kernel
theorem dL_law_1425 : decode cL_law 1425 = .ok (.invokestatic 166, 3) := by decide +kernel
theorem dL_law_1428 : decode cL_law 1428 = .ok (.istore 5, 2) := by decide +kernel
theorem dL_law_1430 : decode cL_law 1430 = .ok (.aload_n 2, 1) := by decide +kernel
theorem dL_law_1431 : decode cL_law 1431 = .ok (.aload_n 0, 1) := by decide +kernel
theorem dL_law_1432 : decode cL_law 1432 = .ok (.iload 4, 2) := by decide +kernel
theorem dL_law_1434 : decode cL_law 1434 = .ok (.iconst 1, 1) := by decide +kernel
theorem dL_law_1435 : decode cL_law 1435 = .ok (.iadd, 1) := by decide +kernel
theorem dL_law_1436 : decode cL_law 1436 = .ok (.iaload, 1) := by decide +kernel
theorem dL_law_1437 : decode cL_law 1437 = .ok (.aload_n 0, 1) := by decide +kernel
theorem dL_law_1438 : decode cL_law 1438 = .ok (.iload 4, 2) := by decide +kernel
theorem dL_law_1440 : decode cL_law 1440 = .ok (.iconst 2, 1) := by decide +kernel
theorem dL_law_1441 : decode cL_law 1441 = .ok (.iadd, 1) := by decide +kernel
theorem dL_law_1442 : decode cL_law 1442 = .ok (.iaload, 1) := by decide +kernel
theorem dL_law_1443 : decode cL_law 1443 = .ok (.invokevirtual 168, 3) := by decide +kernel
theorem dL_law_1446 : decode cL_law 1446 = .ok (.istore 6, 2) := by decide +kernel
theorem dL_law_1448 : decode cL_law 1448 = .ok (.aload_n 2, 1) := by decide +kernel
theorem dL_law_1449 : decode cL_law 1449 = .ok (.invokevirtual 93, 3) := by decide +kernel
theorem dL_law_1452 : decode cL_law 1452 = .ok (.iload 5, 2) := by decide +kernel
theorem dL_law_1454 : decode cL_law 1454 = .ok (.if_icmp .eq 5, 3) := by decide +kernel
theorem dL_law_1457 : decode cL_law 1457 = .ok (.iconst 0, 1) := by decide +kernel
theorem dL_law_1458 : decode cL_law 1458 = .ok (.ireturn, 1) := by decide +kernel
theorem dL_law_1459 : decode cL_law 1459 = .ok (.iload 5, 2) := by decide +kernel
theorem dL_law_1461 : decode cL_law 1461 = .ok (.ifCond .ne 15, 3) := by decide +kernel
theorem dL_law_1464 : decode cL_law 1464 = .ok (.aload_n 3, 1) := by decide +kernel
theorem dL_law_1465 : decode cL_law 1465 = .ok (.iconst 0, 1) := by decide +kernel
theorem dL_law_1466 : decode cL_law 1466 = .ok (.laload, 1) := by decide +kernel
theorem dL_law_1467 : decode cL_law 1467 = .ok (.iload 6, 2) := by decide +kernel
theorem dL_law_1469 : decode cL_law 1469 = .ok (.i2l, 1) := by decide +kernel
theorem dL_law_1470 : decode cL_law 1470 = .ok (.lcmp, 1) := by decide +kernel
theorem dL_law_1471 : decode cL_law 1471 = .ok (.ifCond .eq 5, 3) := by decide +kernel
theorem dL_law_1474 : decode cL_law 1474 = .ok (.iconst 0, 1) := by decide +kernel
theorem dL_law_1475 : decode cL_law 1475 = .ok (.ireturn, 1) := by decide +kernel
theorem dL_law_1476 : decode cL_law 1476 = .ok (.goto 100, 3) := by decide +kernel
theorem dL_law_1479 : decode cL_law 1479 = .ok (.aload_n 1, 1) := by decide +kernel
theorem dL_law_1480 : decode cL_law 1480 = .ok (.aload_n 0, 1) := by decide +kernel
theorem dL_law_1481 : decode cL_law 1481 = .ok (.iload 4, 2) := by decide +kernel
theorem dL_law_1483 : decode cL_law 1483 = .ok (.iconst 1, 1) := by decide +kernel
theorem dL_law_1484 : decode cL_law 1484 = .ok (.iadd, 1) := by decide +kernel
theorem dL_law_1485 : decode cL_law 1485 = .ok (.iaload, 1) := by decide +kernel
theorem dL_law_1486 : decode cL_law 1486 = .ok (.aload_n 3, 1) := by decide +kernel
theorem dL_law_1487 : decode cL_law 1487 = .ok (.invokestatic 169, 3) := by decide +kernel
theorem dL_law_1490 : decode cL_law 1490 = .ok (.istore 5, 2) := by decide +kernel
theorem dL_law_1492 : decode cL_law 1492 = .ok (.aload_n 2, 1) := by decide +kernel
theorem dL_law_1493 : decode cL_law 1493 = .ok (.aload_n 0, 1) := by decide +kernel
theorem dL_law_1494 : decode cL_law 1494 = .ok (.iload 4, 2) := by decide +kernel
theorem dL_law_1496 : decode cL_law 1496 = .ok (.iconst 1, 1) := by decide +kernel
theorem dL_law_1497 : decode cL_law 1497 = .ok (.iadd, 1) := by decide +kernel
theorem dL_law_1498 : decode cL_law 1498 = .ok (.iaload, 1) := by decide +kernel
theorem dL_law_1499 : decode cL_law 1499 = .ok (.invokevirtual 171, 3) := by decide +kernel
theorem dL_law_1502 : decode cL_law 1502 = .ok (.istore 6, 2) := by decide +kernel
theorem dL_law_1504 : decode cL_law 1504 = .ok (.aload_n 2, 1) := by decide +kernel
theorem dL_law_1505 : decode cL_law 1505 = .ok (.invokevirtual 93, 3) := by decide +kernel
theorem dL_law_1508 : decode cL_law 1508 = .ok (.iload 5, 2) := by decide +kernel
theorem dL_law_1510 : decode cL_law 1510 = .ok (.if_icmp .eq 5, 3) := by decide +kernel
theorem dL_law_1513 : decode cL_law 1513 = .ok (.iconst 0, 1) := by decide +kernel
theorem dL_law_1514 : decode cL_law 1514 = .ok (.ireturn, 1) := by decide +kernel
theorem dL_law_1515 : decode cL_law 1515 = .ok (.iload 5, 2) := by decide +kernel
theorem dL_law_1517 : decode cL_law 1517 = .ok (.ifCond .ne 15, 3) := by decide +kernel
theorem dL_law_1520 : decode cL_law 1520 = .ok (.aload_n 3, 1) := by decide +kernel
theorem dL_law_1521 : decode cL_law 1521 = .ok (.iconst 0, 1) := by decide +kernel
theorem dL_law_1522 : decode cL_law 1522 = .ok (.laload, 1) := by decide +kernel
theorem dL_law_1523 : decode cL_law 1523 = .ok (.iload 6, 2) := by decide +kernel
theorem dL_law_1525 : decode cL_law 1525 = .ok (.i2l, 1) := by decide +kernel
theorem dL_law_1526 : decode cL_law 1526 = .ok (.lcmp, 1) := by decide +kernel
theorem dL_law_1527 : decode cL_law 1527 = .ok (.ifCond .eq 5, 3) := by decide +kernel
theorem dL_law_1530 : decode cL_law 1530 = .ok (.iconst 0, 1) := by decide +kernel
theorem dL_law_1531 : decode cL_law 1531 = .ok (.ireturn, 1) := by decide +kernel
theorem dL_law_1532 : decode cL_law 1532 = .ok (.goto 44, 3) := by decide +kernel
theorem dL_law_1535 : decode cL_law 1535 = .ok (.aload_n 1, 1) := by decide +kernel
theorem dL_law_1536 : decode cL_law 1536 = .ok (.invokevirtual 172, 3) := by decide +kernel
theorem dL_law_1539 : decode cL_law 1539 = .ok (.dstore 5, 2) := by decide +kernel
theorem dL_law_1541 : decode cL_law 1541 = .ok (.aload_n 2, 1) := by decide +kernel
theorem dL_law_1542 : decode cL_law 1542 = .ok (.invokevirtual 176, 3) := by decide +kernel
theorem dL_law_1545 : decode cL_law 1545 = .ok (.dstore 7, 2) := by decide +kernel
theorem dL_law_1547 : decode cL_law 1547 = .ok (.dload 5, 2) := by decide +kernel
theorem dL_law_1549 : decode cL_law 1549 = .ok (.dload 7, 2) := by decide +kernel
theorem dL_law_1551 : decode cL_law 1551 = .ok (.dcmp .l, 1) := by decide +kernel
theorem dL_law_1552 : decode cL_law 1552 = .ok (.ifCond .eq 21, 3) := by decide +kernel
theorem dL_law_1555 : decode cL_law 1555 = .ok (.dload 5, 2) := by decide +kernel
theorem dL_law_1557 : decode cL_law 1557 = .ok (.dload 5, 2) := by decide +kernel
theorem dL_law_1559 : decode cL_law 1559 = .ok (.dcmp .l, 1) := by decide +kernel
theorem dL_law_1560 : decode cL_law 1560 = .ok (.ifCond .eq 11, 3) := by decide +kernel
theorem dL_law_1563 : decode cL_law 1563 = .ok (.dload 7, 2) := by decide +kernel
theorem dL_law_1565 : decode cL_law 1565 = .ok (.dload 7, 2) := by decide +kernel
theorem dL_law_1567 : decode cL_law 1567 = .ok (.dcmp .l, 1) := by decide +kernel
theorem dL_law_1568 : decode cL_law 1568 = .ok (.ifCond .ne 5, 3) := by decide +kernel
theorem dL_law_1571 : decode cL_law 1571 = .ok (.iconst 0, 1) := by decide +kernel
theorem dL_law_1572 : decode cL_law 1572 = .ok (.ireturn, 1) := by decide +kernel
theorem dL_law_1573 : decode cL_law 1573 = .ok (.goto 3, 3) := by decide +kernel
theorem dL_law_1576 : decode cL_law 1576 = .ok (.iinc 4 5, 3) := by decide +kernel
theorem dL_law_1579 : decode cL_law 1579 = .ok (.goto (-1556), 3) := by decide +kernel
theorem dL_law_1582 : decode cL_law 1582 = .ok (.iconst 1, 1) := by decide +kernel
theorem dL_law_1583 : decode cL_law 1583 = .ok (.ireturn, 1) := by decide +kernel
end
section
theorem dX7_init_0 : decode cX7_init 0 = .ok (.aload_n 0, 1) := by decide +kernel
theorem dX7_init_1 : decode cX7_init 1 = .ok (.invokespecial 1, 3) := by decide +kernel
theorem dX7_init_4 : decode cX7_init 4 = .ok (.aload_n 0, 1) := by decide +kernel
theorem dX7_init_5 : decode cX7_init 5 = .ok (.sipush 226, 3) := by decide +kernel
theorem dX7_init_8 : decode cX7_init 8 = .ok (.newarray .int, 2) := by decide +kernel
theorem dX7_init_10 : decode cX7_init 10 = .ok (.putfield 7, 3) := by decide +kernel
theorem dX7_init_13 : decode cX7_init 13 = .ok (.aload_n 0, 1) := by decide +kernel
theorem dX7_init_14 : decode cX7_init 14 = .ok (.sipush 1356, 3) := by decide +kernel
theorem dX7_init_17 : decode cX7_init 17 = .ok (.newarray .int, 2) := by decide +kernel
theorem dX7_init_19 : decode cX7_init 19 = .ok (.putfield 13, 3) := by decide +kernel
theorem dX7_init_22 : decode cX7_init 22 = .ok (.aload_n 0, 1) := by decide +kernel
theorem dX7_init_23 : decode cX7_init 23 = .ok (.sipush 452, 3) := by decide +kernel
theorem dX7_init_26 : decode cX7_init 26 = .ok (.newarray .int, 2) := by decide +kernel
theorem dX7_init_28 : decode cX7_init 28 = .ok (.putfield 16, 3) := by decide +kernel
theorem dX7_init_31 : decode cX7_init 31 = .ok (.aload_n 0, 1) := by decide +kernel
theorem dX7_init_32 : decode cX7_init 32 = .ok (.iconst 2, 1) := by decide +kernel
theorem dX7_init_33 : decode cX7_init 33 = .ok (.newarray .boolean, 2) := by decide +kernel
theorem dX7_init_35 : decode cX7_init 35 = .ok (.putfield 19, 3) := by decide +kernel
theorem dX7_init_38 : decode cX7_init 38 = .ok (.aload_n 0, 1) := by decide +kernel
theorem dX7_init_39 : decode cX7_init 39 = .ok (.sipush 226, 3) := by decide +kernel
theorem dX7_init_42 : decode cX7_init 42 = .ok (.newarray .int, 2) := by decide +kernel
theorem dX7_init_44 : decode cX7_init 44 = .ok (.putfield 23, 3) := by decide +kernel
theorem dX7_init_47 : decode cX7_init 47 = .ok (.aload_n 0, 1) := by decide +kernel
theorem dX7_init_48 : decode cX7_init 48 = .ok (.bipush 10, 2) := by decide +kernel
theorem dX7_init_50 : decode cX7_init 50 = .ok (.newarray .int, 2) := by decide +kernel
theorem dX7_init_52 : decode cX7_init 52 = .ok (.putfield 26, 3) := by decide +kernel
theorem dX7_init_55 : decode cX7_init 55 = .ok (.aload_n 0, 1) := by decide +kernel
theorem dX7_init_56 : decode cX7_init 56 = .ok (.bipush 10, 2) := by decide +kernel
theorem dX7_init_58 : decode cX7_init 58 = .ok (.newarray .boolean, 2) := by decide +kernel
theorem dX7_init_60 : decode cX7_init 60 = .ok (.putfield 29, 3) := by decide +kernel
theorem dX7_init_63 : decode cX7_init 63 = .ok (.aload_n 0, 1) := by decide +kernel
theorem dX7_init_64 : decode cX7_init 64 = .ok (.bipush 60, 2) := by decide +kernel
theorem dX7_init_66 : decode cX7_init 66 = .ok (.newarray .int, 2) := by decide +kernel
theorem dX7_init_68 : decode cX7_init 68 = .ok (.putfield 32, 3) := by decide +kernel
theorem dX7_init_71 : decode cX7_init 71 = .ok (.aload_n 0, 1) := by decide +kernel
theorem dX7_init_72 : decode cX7_init 72 = .ok (.bipush 30, 2) := by decide +kernel
theorem dX7_init_74 : decode cX7_init 74 = .ok (.newarray .int, 2) := by decide +kernel
theorem dX7_init_76 : decode cX7_init 76 = .ok (.putfield 35, 3) := by decide +kernel
theorem dX7_init_79 : decode cX7_init 79 = .ok (.aload_n 0, 1) := by decide +kernel
theorem dX7_init_80 : decode cX7_init 80 = .ok (.bipush 30, 2) := by decide +kernel
theorem dX7_init_82 : decode cX7_init 82 = .ok (.newarray .int, 2) := by decide +kernel
theorem dX7_init_84 : decode cX7_init 84 = .ok (.putfield 38, 3) := by decide +kernel
theorem dX7_init_87 : decode cX7_init 87 = .ok (.aload_n 0, 1) := by decide +kernel
theorem dX7_init_88 : decode cX7_init 88 = .ok (.bipush 30, 2) := by decide +kernel
theorem dX7_init_90 : decode cX7_init 90 = .ok (.newarray .int, 2) := by decide +kernel
theorem dX7_init_92 : decode cX7_init 92 = .ok (.putfield 41, 3) := by decide +kernel
theorem dX7_init_95 : decode cX7_init 95 = .ok (.aload_n 0, 1) := by decide +kernel
theorem dX7_init_96 : decode cX7_init 96 = .ok (.bipush 30, 2) := by decide +kernel
theorem dX7_init_98 : decode cX7_init 98 = .ok (.newarray .int, 2) := by decide +kernel
theorem dX7_init_100 : decode cX7_init 100 = .ok (.putfield 44, 3) := by decide +kernel
theorem dX7_init_103 : decode cX7_init 103 = .ok (.aload_n 0, 1) := by decide +kernel
theorem dX7_init_104 : decode cX7_init 104 = .ok (.getfield 7, 3) := by decide +kernel
theorem dX7_init_107 : decode cX7_init 107 = .ok (.iconst 1, 1) := by decide +kernel
theorem dX7_init_108 : decode cX7_init 108 = .ok (.sipush 1000, 3) := by decide +kernel
theorem dX7_init_111 : decode cX7_init 111 = .ok (.iastore, 1) := by decide +kernel
theorem dX7_init_112 : decode cX7_init 112 = .ok (.aload_n 0, 1) := by decide +kernel
theorem dX7_init_113 : decode cX7_init 113 = .ok (.getfield 7, 3) := by decide +kernel
theorem dX7_init_116 : decode cX7_init 116 = .ok (.iconst 2, 1) := by decide +kernel
theorem dX7_init_117 : decode cX7_init 117 = .ok (.sipush 300, 3) := by decide +kernel
theorem dX7_init_120 : decode cX7_init 120 = .ok (.iastore, 1) := by decide +kernel
theorem dX7_init_121 : decode cX7_init 121 = .ok (.aload_n 0, 1) := by decide +kernel
theorem dX7_init_122 : decode cX7_init 122 = .ok (.getfield 7, 3) := by decide +kernel
theorem dX7_init_125 : decode cX7_init 125 = .ok (.iconst 3, 1) := by decide +kernel
theorem dX7_init_126 : decode cX7_init 126 = .ok (.iconst 2, 1) := by decide +kernel
theorem dX7_init_127 : decode cX7_init 127 = .ok (.iastore, 1) := by decide +kernel
theorem dX7_init_128 : decode cX7_init 128 = .ok (.aload_n 0, 1) := by decide +kernel
theorem dX7_init_129 : decode cX7_init 129 = .ok (.getfield 7, 3) := by decide +kernel
theorem dX7_init_132 : decode cX7_init 132 = .ok (.bipush 14, 2) := by decide +kernel
theorem dX7_init_134 : decode cX7_init 134 = .ok (.ldc 47, 2) := by decide +kernel
theorem dX7_init_136 : decode cX7_init 136 = .ok (.iastore, 1) := by decide +kernel
theorem dX7_init_137 : decode cX7_init 137 = .ok (.iconst 0, 1) := by decide +kernel
theorem dX7_init_138 : decode cX7_init 138 = .ok (.istore_n 1, 1) := by decide +kernel
theorem dX7_init_139 : decode cX7_init 139 = .ok (.iload_n 1, 1) := by decide +kernel
theorem dX7_init_140 : decode cX7_init 140 = .ok (.iconst 4, 1) := by decide +kernel
theorem dX7_init_141 : decode cX7_init 141 = .ok (.if_icmp .ge 18, 3) := by decide +kernel
theorem dX7_init_144 : decode cX7_init 144 = .ok (.aload_n 0, 1) := by decide +kernel
theorem dX7_init_145 : decode cX7_init 145 = .ok (.getfield 7, 3) := by decide +kernel
theorem dX7_init_148 : decode cX7_init 148 = .ok (.iconst 4, 1) := by decide +kernel
theorem dX7_init_149 : decode cX7_init 149 = .ok (.iload_n 1, 1) := by decide +kernel
theorem dX7_init_150 : decode cX7_init 150 = .ok (.iadd, 1) := by decide +kernel
theorem dX7_init_151 : decode cX7_init 151 = .ok (.iconst 1, 1) := by decide +kernel
theorem dX7_init_152 : decode cX7_init 152 = .ok (.iastore, 1) := by decide +kernel
theorem dX7_init_153 : decode cX7_init 153 = .ok (.iinc 1 1, 3) := by decide +kernel
theorem dX7_init_156 : decode cX7_init 156 = .ok (.goto (-17), 3) := by decide +kernel
theorem dX7_init_159 : decode cX7_init 159 = .ok (.return_, 1) := by decide +kernel
theorem dX7_thrown_0 : decode cX7_thrown 0 = .ok (.aload_n 0, 1) := by decide +kernel
theorem dX7_thrown_1 : decode cX7_thrown 1 = .ok (.getfield 48, 3) := by decide +kernel
theorem dX7_thrown_4 : decode cX7_thrown 4 = .ok (.ireturn, 1) := by decide +kernel
theorem dX7_fails_0 : decode cX7_fails 0 = .ok (.aload_n 0, 1) := by decide +kernel
theorem dX7_fails_1 : decode cX7_fails 1 = .ok (.iload_n 1, 1) := by decide +kernel
theorem dX7_fails_2 : decode cX7_fails 2 = .ok (.putfield 48, 3) := by decide +kernel
theorem dX7_fails_5 : decode cX7_fails 5 = .ok (.iconst 0, 1) := by decide +kernel
theorem dX7_fails_6 : decode cX7_fails 6 = .ok (.ireturn, 1) := by decide +kernel
theorem dX7_in_0 : decode cX7_in 0 = .ok (.iload_n 0, 1) := by decide +kernel
theorem dX7_in_1 : decode cX7_in 1 = .ok (.iload_n 1, 1) := by decide +kernel
theorem dX7_in_2 : decode cX7_in 2 = .ok (.if_icmp .lt 12, 3) := by decide +kernel
theorem dX7_in_5 : decode cX7_in 5 = .ok (.iload_n 0, 1) := by decide +kernel
theorem dX7_in_6 : decode cX7_in 6 = .ok (.iload_n 2, 1) := by decide +kernel
theorem dX7_in_7 : decode cX7_in 7 = .ok (.if_icmp .gt 7, 3) := by decide +kernel
theorem dX7_in_10 : decode cX7_in 10 = .ok (.iconst 1, 1) := by decide +kernel
theorem dX7_in_11 : decode cX7_in 11 = .ok (.goto 4, 3) := by decide +kernel
theorem dX7_in_14 : decode cX7_in 14 = .ok (.iconst 0, 1) := by decide +kernel
theorem dX7_in_15 : decode cX7_in 15 = .ok (.ireturn, 1) := by decide +kernel
theorem dX7_isRow_0 : decode cX7_isRow 0 = .ok (.iload_n 0, 1) := by decide +kernel
theorem dX7_isRow_1 : decode cX7_isRow 1 = .ok (.iconst 0, 1) := by decide +kernel
theorem dX7_isRow_2 : decode cX7_isRow 2 = .ok (.iconst 3, 1) := by decide +kernel
theorem dX7_isRow_3 : decode cX7_isRow 3 = .ok (.invokestatic 52, 3) := by decide +kernel
theorem dX7_isRow_6 : decode cX7_isRow 6 = .ok (.ireturn, 1) := by decide +kernel
theorem dX7_is_0 : decode cX7_is 0 = .ok (.iload_n 1, 1) := by decide +kernel
theorem dX7_is_1 : decode cX7_is 1 = .ok (.iconst 0, 1) := by decide +kernel
theorem dX7_is_2 : decode cX7_is 2 = .ok (.aload_n 0, 1) := by decide +kernel
theorem dX7_is_3 : decode cX7_is 3 = .ok (.getfield 7, 3) := by decide +kernel
theorem dX7_is_6 : decode cX7_is 6 = .ok (.bipush 15, 2) := by decide +kernel
theorem dX7_is_8 : decode cX7_is 8 = .ok (.iaload, 1) := by decide +kernel
theorem dX7_is_9 : decode cX7_is 9 = .ok (.iconst 1, 1) := by decide +kernel
theorem dX7_is_10 : decode cX7_is 10 = .ok (.isub, 1) := by decide +kernel
theorem dX7_is_11 : decode cX7_is 11 = .ok (.invokestatic 52, 3) := by decide +kernel
theorem dX7_is_14 : decode cX7_is 14 = .ok (.ireturn, 1) := by decide +kernel
theorem dX7_of_0 : decode cX7_of 0 = .ok (.aload_n 0, 1) := by decide +kernel
theorem dX7_of_1 : decode cX7_of 1 = .ok (.getfield 7, 3) := by decide +kernel
theorem dX7_of_4 : decode cX7_of 4 = .ok (.bipush 16, 2) := by decide +kernel
theorem dX7_of_6 : decode cX7_of 6 = .ok (.bipush 21, 2) := by decide +kernel
theorem dX7_of_8 : decode cX7_of 8 = .ok (.iload_n 1, 1) := by decide +kernel
theorem dX7_of_9 : decode cX7_of 9 = .ok (.imul, 1) := by decide +kernel
theorem dX7_of_10 : decode cX7_of 10 = .ok (.iadd, 1) := by decide +kernel
theorem dX7_of_11 : decode cX7_of 11 = .ok (.iload_n 2, 1) := by decide +kernel
theorem dX7_of_12 : decode cX7_of 12 = .ok (.iadd, 1) := by decide +kernel
theorem dX7_of_13 : decode cX7_of 13 = .ok (.iaload, 1) := by decide +kernel
theorem dX7_of_14 : decode cX7_of 14 = .ok (.ireturn, 1) := by decide +kernel
theorem dX7_put_0 : decode cX7_put 0 = .ok (.aload_n 0, 1) := by decide +kernel
theorem dX7_put_1 : decode cX7_put 1 = .ok (.getfield 7, 3) := by decide +kernel
theorem dX7_put_4 : decode cX7_put 4 = .ok (.bipush 16, 2) := by decide +kernel
theorem dX7_put_6 : decode cX7_put 6 = .ok (.bipush 21, 2) := by decide +kernel
theorem dX7_put_8 : decode cX7_put 8 = .ok (.iload_n 1, 1) := by decide +kernel
theorem dX7_put_9 : decode cX7_put 9 = .ok (.imul, 1) := by decide +kernel
theorem dX7_put_10 : decode cX7_put 10 = .ok (.iadd, 1) := by decide +kernel
theorem dX7_put_11 : decode cX7_put 11 = .ok (.iload_n 2, 1) := by decide +kernel
theorem dX7_put_12 : decode cX7_put 12 = .ok (.iadd, 1) := by decide +kernel
theorem dX7_put_13 : decode cX7_put 13 = .ok (.iload_n 3, 1) := by decide +kernel
theorem dX7_put_14 : decode cX7_put 14 = .ok (.iastore, 1) := by decide +kernel
theorem dX7_put_15 : decode cX7_put 15 = .ok (.return_, 1) := by decide +kernel
theorem dX7_size_0 : decode cX7_size 0 = .ok (.iload_n 0, 1) := by decide +kernel
theorem dX7_size_1 : decode cX7_size 1 = .ok (.ifCond .ge 8, 3) := by decide +kernel
theorem dX7_size_4 : decode cX7_size 4 = .ok (.iload_n 0, 1) := by decide +kernel
theorem dX7_size_5 : decode cX7_size 5 = .ok (.ineg, 1) := by decide +kernel
theorem dX7_size_6 : decode cX7_size 6 = .ok (.goto 4, 3) := by decide +kernel
theorem dX7_size_9 : decode cX7_size 9 = .ok (.iload_n 0, 1) := by decide +kernel
theorem dX7_size_10 : decode cX7_size 10 = .ok (.ireturn, 1) := by decide +kernel
theorem dX7_save_0 : decode cX7_save 0 = .ok (.aload_n 0, 1) := by decide +kernel
theorem dX7_save_1 : decode cX7_save 1 = .ok (.getfield 56, 3) := by decide +kernel
theorem dX7_save_4 : decode cX7_save 4 = .ok (.bipush 6, 2) := by decide +kernel
theorem dX7_save_6 : decode cX7_save 6 = .ok (.if_icmp .ne 44, 3) := by decide +kernel
theorem dX7_save_9 : decode cX7_save 9 = .ok (.iconst 0, 1) := by decide +kernel
theorem dX7_save_10 : decode cX7_save 10 = .ok (.istore_n 1, 1) := by decide +kernel
theorem dX7_save_11 : decode cX7_save 11 = .ok (.iload_n 1, 1) := by decide +kernel
theorem dX7_save_12 : decode cX7_save 12 = .ok (.sipush 1130, 3) := by decide +kernel
theorem dX7_save_15 : decode cX7_save 15 = .ok (.if_icmp .ge 25, 3) := by decide +kernel
theorem dX7_save_18 : decode cX7_save 18 = .ok (.aload_n 0, 1) := by decide +kernel
theorem dX7_save_19 : decode cX7_save 19 = .ok (.getfield 13, 3) := by decide +kernel
theorem dX7_save_22 : decode cX7_save 22 = .ok (.iload_n 1, 1) := by decide +kernel
theorem dX7_save_23 : decode cX7_save 23 = .ok (.aload_n 0, 1) := by decide +kernel
theorem dX7_save_24 : decode cX7_save 24 = .ok (.getfield 13, 3) := by decide +kernel
theorem dX7_save_27 : decode cX7_save 27 = .ok (.iload_n 1, 1) := by decide +kernel
theorem dX7_save_28 : decode cX7_save 28 = .ok (.sipush 226, 3) := by decide +kernel
theorem dX7_save_31 : decode cX7_save 31 = .ok (.iadd, 1) := by decide +kernel
theorem dX7_save_32 : decode cX7_save 32 = .ok (.iaload, 1) := by decide +kernel
theorem dX7_save_33 : decode cX7_save 33 = .ok (.iastore, 1) := by decide +kernel
theorem dX7_save_34 : decode cX7_save 34 = .ok (.iinc 1 1, 3) := by decide +kernel
theorem dX7_save_37 : decode cX7_save 37 = .ok (.goto (-26), 3) := by decide +kernel
theorem dX7_save_40 : decode cX7_save 40 = .ok (.aload_n 0, 1) := by decide +kernel
theorem dX7_save_41 : decode cX7_save 41 = .ok (.dup, 1) := by decide +kernel
theorem dX7_save_42 : decode cX7_save 42 = .ok (.getfield 56, 3) := by decide +kernel
theorem dX7_save_45 : decode cX7_save 45 = .ok (.iconst 1, 1) := by decide +kernel
theorem dX7_save_46 : decode cX7_save 46 = .ok (.isub, 1) := by decide +kernel
theorem dX7_save_47 : decode cX7_save 47 = .ok (.putfield 56, 3) := by decide +kernel
theorem dX7_save_50 : decode cX7_save 50 = .ok (.iconst 0, 1) := by decide +kernel
theorem dX7_save_51 : decode cX7_save 51 = .ok (.istore_n 1, 1) := by decide +kernel
theorem dX7_save_52 : decode cX7_save 52 = .ok (.iload_n 1, 1) := by decide +kernel
theorem dX7_save_53 : decode cX7_save 53 = .ok (.sipush 226, 3) := by decide +kernel
theorem dX7_save_56 : decode cX7_save 56 = .ok (.if_icmp .ge 30, 3) := by decide +kernel
theorem dX7_save_59 : decode cX7_save 59 = .ok (.aload_n 0, 1) := by decide +kernel
theorem dX7_save_60 : decode cX7_save 60 = .ok (.getfield 13, 3) := by decide +kernel
theorem dX7_save_63 : decode cX7_save 63 = .ok (.sipush 226, 3) := by decide +kernel
theorem dX7_save_66 : decode cX7_save 66 = .ok (.aload_n 0, 1) := by decide +kernel
theorem dX7_save_67 : decode cX7_save 67 = .ok (.getfield 56, 3) := by decide +kernel
theorem dX7_save_70 : decode cX7_save 70 = .ok (.imul, 1) := by decide +kernel
theorem dX7_save_71 : decode cX7_save 71 = .ok (.iload_n 1, 1) := by decide +kernel
theorem dX7_save_72 : decode cX7_save 72 = .ok (.iadd, 1) := by decide +kernel
theorem dX7_save_73 : decode cX7_save 73 = .ok (.aload_n 0, 1) := by decide +kernel
theorem dX7_save_74 : decode cX7_save 74 = .ok (.getfield 7, 3) := by decide +kernel
theorem dX7_save_77 : decode cX7_save 77 = .ok (.iload_n 1, 1) := by decide +kernel
theorem dX7_save_78 : decode cX7_save 78 = .ok (.iaload, 1) := by decide +kernel
theorem dX7_save_79 : decode cX7_save 79 = .ok (.iastore, 1) := by decide +kernel
theorem dX7_save_80 : decode cX7_save 80 = .ok (.iinc 1 1, 3) := by decide +kernel
theorem dX7_save_83 : decode cX7_save 83 = .ok (.goto (-31), 3) := by decide +kernel
theorem dX7_save_86 : decode cX7_save 86 = .ok (.aload_n 0, 1) := by decide +kernel
theorem dX7_save_87 : decode cX7_save 87 = .ok (.dup, 1) := by decide +kernel
theorem dX7_save_88 : decode cX7_save 88 = .ok (.getfield 56, 3) := by decide +kernel
theorem dX7_save_91 : decode cX7_save 91 = .ok (.iconst 1, 1) := by decide +kernel
theorem dX7_save_92 : decode cX7_save 92 = .ok (.iadd, 1) := by decide +kernel
theorem dX7_save_93 : decode cX7_save 93 = .ok (.putfield 56, 3) := by decide +kernel
theorem dX7_save_96 : decode cX7_save 96 = .ok (.return_, 1) := by decide +kernel
theorem dX7_undo_0 : decode cX7_undo 0 = .ok (.aload_n 0, 1) := by decide +kernel
theorem dX7_undo_1 : decode cX7_undo 1 = .ok (.iconst 0, 1) := by decide +kernel
theorem dX7_undo_2 : decode cX7_undo 2 = .ok (.putfield 48, 3) := by decide +kernel
theorem dX7_undo_5 : decode cX7_undo 5 = .ok (.aload_n 0, 1) := by decide +kernel
theorem dX7_undo_6 : decode cX7_undo 6 = .ok (.getfield 56, 3) := by decide +kernel
theorem dX7_undo_9 : decode cX7_undo 9 = .ok (.ifCond .ne 9, 3) := by decide +kernel
theorem dX7_undo_12 : decode cX7_undo 12 = .ok (.aload_n 0, 1) := by decide +kernel
theorem dX7_undo_13 : decode cX7_undo 13 = .ok (.iconst 1, 1) := by decide +kernel
theorem dX7_undo_14 : decode cX7_undo 14 = .ok (.invokevirtual 59, 3) := by decide +kernel
theorem dX7_undo_17 : decode cX7_undo 17 = .ok (.ireturn, 1) := by decide +kernel
theorem dX7_undo_18 : decode cX7_undo 18 = .ok (.aload_n 0, 1) := by decide +kernel
theorem dX7_undo_19 : decode cX7_undo 19 = .ok (.dup, 1) := by decide +kernel
theorem dX7_undo_20 : decode cX7_undo 20 = .ok (.getfield 56, 3) := by decide +kernel
theorem dX7_undo_23 : decode cX7_undo 23 = .ok (.iconst 1, 1) := by decide +kernel
theorem dX7_undo_24 : decode cX7_undo 24 = .ok (.isub, 1) := by decide +kernel
theorem dX7_undo_25 : decode cX7_undo 25 = .ok (.putfield 56, 3) := by decide +kernel
theorem dX7_undo_28 : decode cX7_undo 28 = .ok (.iconst 0, 1) := by decide +kernel
theorem dX7_undo_29 : decode cX7_undo 29 = .ok (.istore_n 1, 1) := by decide +kernel
theorem dX7_undo_30 : decode cX7_undo 30 = .ok (.iload_n 1, 1) := by decide +kernel
theorem dX7_undo_31 : decode cX7_undo 31 = .ok (.sipush 226, 3) := by decide +kernel
theorem dX7_undo_34 : decode cX7_undo 34 = .ok (.if_icmp .ge 30, 3) := by decide +kernel
theorem dX7_undo_37 : decode cX7_undo 37 = .ok (.aload_n 0, 1) := by decide +kernel
theorem dX7_undo_38 : decode cX7_undo 38 = .ok (.getfield 7, 3) := by decide +kernel
theorem dX7_undo_41 : decode cX7_undo 41 = .ok (.iload_n 1, 1) := by decide +kernel
theorem dX7_undo_42 : decode cX7_undo 42 = .ok (.aload_n 0, 1) := by decide +kernel
theorem dX7_undo_43 : decode cX7_undo 43 = .ok (.getfield 13, 3) := by decide +kernel
theorem dX7_undo_46 : decode cX7_undo 46 = .ok (.sipush 226, 3) := by decide +kernel
theorem dX7_undo_49 : decode cX7_undo 49 = .ok (.aload_n 0, 1) := by decide +kernel
theorem dX7_undo_50 : decode cX7_undo 50 = .ok (.getfield 56, 3) := by decide +kernel
theorem dX7_undo_53 : decode cX7_undo 53 = .ok (.imul, 1) := by decide +kernel
theorem dX7_undo_54 : decode cX7_undo 54 = .ok (.iload_n 1, 1) := by decide +kernel
theorem dX7_undo_55 : decode cX7_undo 55 = .ok (.iadd, 1) := by decide +kernel
theorem dX7_undo_56 : decode cX7_undo 56 = .ok (.iaload, 1) := by decide +kernel
theorem dX7_undo_57 : decode cX7_undo 57 = .ok (.iastore, 1) := by decide +kernel
theorem dX7_undo_58 : decode cX7_undo 58 = .ok (.iinc 1 1, 3) := by decide +kernel
theorem dX7_undo_61 : decode cX7_undo 61 = .ok (.goto (-31), 3) := by decide +kernel
theorem dX7_undo_64 : decode cX7_undo 64 = .ok (.aload_n 0, 1) := by decide +kernel
theorem dX7_undo_65 : decode cX7_undo 65 = .ok (.getfield 56, 3) := by decide +kernel
theorem dX7_undo_68 : decode cX7_undo 68 = .ok (.ireturn, 1) := by decide +kernel
theorem dX7_keep_0 : decode cX7_keep 0 = .ok (.aload_n 0, 1) := by decide +kernel
theorem dX7_keep_1 : decode cX7_keep 1 = .ok (.iconst 0, 1) := by decide +kernel
theorem dX7_keep_2 : decode cX7_keep 2 = .ok (.putfield 48, 3) := by decide +kernel
theorem dX7_keep_5 : decode cX7_keep 5 = .ok (.iload_n 1, 1) := by decide +kernel
theorem dX7_keep_6 : decode cX7_keep 6 = .ok (.iconst 0, 1) := by decide +kernel
theorem dX7_keep_7 : decode cX7_keep 7 = .ok (.iconst 1, 1) := by decide +kernel
theorem dX7_keep_8 : decode cX7_keep 8 = .ok (.invokestatic 52, 3) := by decide +kernel
theorem dX7_keep_11 : decode cX7_keep 11 = .ok (.ifCond .ne 9, 3) := by decide +kernel
theorem dX7_keep_14 : decode cX7_keep 14 = .ok (.aload_n 0, 1) := by decide +kernel
theorem dX7_keep_15 : decode cX7_keep 15 = .ok (.iconst 1, 1) := by decide +kernel
theorem dX7_keep_16 : decode cX7_keep 16 = .ok (.invokevirtual 59, 3) := by decide +kernel
theorem dX7_keep_19 : decode cX7_keep 19 = .ok (.ireturn, 1) := by decide +kernel
theorem dX7_keep_20 : decode cX7_keep 20 = .ok (.iconst 0, 1) := by decide +kernel
theorem dX7_keep_21 : decode cX7_keep 21 = .ok (.istore_n 2, 1) := by decide +kernel
theorem dX7_keep_22 : decode cX7_keep 22 = .ok (.iload_n 2, 1) := by decide +kernel
theorem dX7_keep_23 : decode cX7_keep 23 = .ok (.sipush 226, 3) := by decide +kernel
theorem dX7_keep_26 : decode cX7_keep 26 = .ok (.if_icmp .ge 27, 3) := by decide +kernel
theorem dX7_keep_29 : decode cX7_keep 29 = .ok (.aload_n 0, 1) := by decide +kernel
theorem dX7_keep_30 : decode cX7_keep 30 = .ok (.getfield 16, 3) := by decide +kernel
theorem dX7_keep_33 : decode cX7_keep 33 = .ok (.sipush 226, 3) := by decide +kernel
theorem dX7_keep_36 : decode cX7_keep 36 = .ok (.iload_n 1, 1) := by decide +kernel
theorem dX7_keep_37 : decode cX7_keep 37 = .ok (.imul, 1) := by decide +kernel
theorem dX7_keep_38 : decode cX7_keep 38 = .ok (.iload_n 2, 1) := by decide +kernel
theorem dX7_keep_39 : decode cX7_keep 39 = .ok (.iadd, 1) := by decide +kernel
theorem dX7_keep_40 : decode cX7_keep 40 = .ok (.aload_n 0, 1) := by decide +kernel
theorem dX7_keep_41 : decode cX7_keep 41 = .ok (.getfield 7, 3) := by decide +kernel
theorem dX7_keep_44 : decode cX7_keep 44 = .ok (.iload_n 2, 1) := by decide +kernel
theorem dX7_keep_45 : decode cX7_keep 45 = .ok (.iaload, 1) := by decide +kernel
theorem dX7_keep_46 : decode cX7_keep 46 = .ok (.iastore, 1) := by decide +kernel
theorem dX7_keep_47 : decode cX7_keep 47 = .ok (.iinc 2 1, 3) := by decide +kernel
theorem dX7_keep_50 : decode cX7_keep 50 = .ok (.goto (-28), 3) := by decide +kernel
theorem dX7_keep_53 : decode cX7_keep 53 = .ok (.aload_n 0, 1) := by decide +kernel
theorem dX7_keep_54 : decode cX7_keep 54 = .ok (.getfield 19, 3) := by decide +kernel
theorem dX7_keep_57 : decode cX7_keep 57 = .ok (.iload_n 1, 1) := by decide +kernel
theorem dX7_keep_58 : decode cX7_keep 58 = .ok (.iconst 1, 1) := by decide +kernel
theorem dX7_keep_59 : decode cX7_keep 59 = .ok (.bastore, 1) := by decide +kernel
theorem dX7_keep_60 : decode cX7_keep 60 = .ok (.aload_n 0, 1) := by decide +kernel
theorem dX7_keep_61 : decode cX7_keep 61 = .ok (.getfield 7, 3) := by decide +kernel
theorem dX7_keep_64 : decode cX7_keep 64 = .ok (.iconst 0, 1) := by decide +kernel
theorem dX7_keep_65 : decode cX7_keep 65 = .ok (.iaload, 1) := by decide +kernel
theorem dX7_keep_66 : decode cX7_keep 66 = .ok (.ireturn, 1) := by decide +kernel
theorem dX7_goBack_0 : decode cX7_goBack 0 = .ok (.aload_n 0, 1) := by decide +kernel
theorem dX7_goBack_1 : decode cX7_goBack 1 = .ok (.iconst 0, 1) := by decide +kernel
theorem dX7_goBack_2 : decode cX7_goBack 2 = .ok (.putfield 48, 3) := by decide +kernel
theorem dX7_goBack_5 : decode cX7_goBack 5 = .ok (.iload_n 1, 1) := by decide +kernel
theorem dX7_goBack_6 : decode cX7_goBack 6 = .ok (.iconst 0, 1) := by decide +kernel
theorem dX7_goBack_7 : decode cX7_goBack 7 = .ok (.iconst 1, 1) := by decide +kernel
theorem dX7_goBack_8 : decode cX7_goBack 8 = .ok (.invokestatic 52, 3) := by decide +kernel
theorem dX7_goBack_11 : decode cX7_goBack 11 = .ok (.ifCond .ne 9, 3) := by decide +kernel
theorem dX7_goBack_14 : decode cX7_goBack 14 = .ok (.aload_n 0, 1) := by decide +kernel
theorem dX7_goBack_15 : decode cX7_goBack 15 = .ok (.iconst 1, 1) := by decide +kernel
theorem dX7_goBack_16 : decode cX7_goBack 16 = .ok (.invokevirtual 59, 3) := by decide +kernel
theorem dX7_goBack_19 : decode cX7_goBack 19 = .ok (.ireturn, 1) := by decide +kernel
theorem dX7_goBack_20 : decode cX7_goBack 20 = .ok (.aload_n 0, 1) := by decide +kernel
theorem dX7_goBack_21 : decode cX7_goBack 21 = .ok (.getfield 19, 3) := by decide +kernel
theorem dX7_goBack_24 : decode cX7_goBack 24 = .ok (.iload_n 1, 1) := by decide +kernel
theorem dX7_goBack_25 : decode cX7_goBack 25 = .ok (.baload, 1) := by decide +kernel
theorem dX7_goBack_26 : decode cX7_goBack 26 = .ok (.ifCond .ne 9, 3) := by decide +kernel
theorem dX7_goBack_29 : decode cX7_goBack 29 = .ok (.aload_n 0, 1) := by decide +kernel
theorem dX7_goBack_30 : decode cX7_goBack 30 = .ok (.iconst 2, 1) := by decide +kernel
theorem dX7_goBack_31 : decode cX7_goBack 31 = .ok (.invokevirtual 59, 3) := by decide +kernel
theorem dX7_goBack_34 : decode cX7_goBack 34 = .ok (.ireturn, 1) := by decide +kernel
theorem dX7_goBack_35 : decode cX7_goBack 35 = .ok (.aload_n 0, 1) := by decide +kernel
theorem dX7_goBack_36 : decode cX7_goBack 36 = .ok (.invokevirtual 63, 3) := by decide +kernel
theorem dX7_goBack_39 : decode cX7_goBack 39 = .ok (.iconst 0, 1) := by decide +kernel
theorem dX7_goBack_40 : decode cX7_goBack 40 = .ok (.istore_n 2, 1) := by decide +kernel
theorem dX7_goBack_41 : decode cX7_goBack 41 = .ok (.iload_n 2, 1) := by decide +kernel
theorem dX7_goBack_42 : decode cX7_goBack 42 = .ok (.sipush 226, 3) := by decide +kernel
theorem dX7_goBack_45 : decode cX7_goBack 45 = .ok (.if_icmp .ge 27, 3) := by decide +kernel
theorem dX7_goBack_48 : decode cX7_goBack 48 = .ok (.aload_n 0, 1) := by decide +kernel
theorem dX7_goBack_49 : decode cX7_goBack 49 = .ok (.getfield 7, 3) := by decide +kernel
theorem dX7_goBack_52 : decode cX7_goBack 52 = .ok (.iload_n 2, 1) := by decide +kernel
theorem dX7_goBack_53 : decode cX7_goBack 53 = .ok (.aload_n 0, 1) := by decide +kernel
theorem dX7_goBack_54 : decode cX7_goBack 54 = .ok (.getfield 16, 3) := by decide +kernel
theorem dX7_goBack_57 : decode cX7_goBack 57 = .ok (.sipush 226, 3) := by decide +kernel
theorem dX7_goBack_60 : decode cX7_goBack 60 = .ok (.iload_n 1, 1) := by decide +kernel
theorem dX7_goBack_61 : decode cX7_goBack 61 = .ok (.imul, 1) := by decide +kernel
theorem dX7_goBack_62 : decode cX7_goBack 62 = .ok (.iload_n 2, 1) := by decide +kernel
theorem dX7_goBack_63 : decode cX7_goBack 63 = .ok (.iadd, 1) := by decide +kernel
theorem dX7_goBack_64 : decode cX7_goBack 64 = .ok (.iaload, 1) := by decide +kernel
theorem dX7_goBack_65 : decode cX7_goBack 65 = .ok (.iastore, 1) := by decide +kernel
theorem dX7_goBack_66 : decode cX7_goBack 66 = .ok (.iinc 2 1, 3) := by decide +kernel
theorem dX7_goBack_69 : decode cX7_goBack 69 = .ok (.goto (-28), 3) := by decide +kernel
theorem dX7_goBack_72 : decode cX7_goBack 72 = .ok (.aload_n 0, 1) := by decide +kernel
theorem dX7_goBack_73 : decode cX7_goBack 73 = .ok (.getfield 7, 3) := by decide +kernel
theorem dX7_goBack_76 : decode cX7_goBack 76 = .ok (.iconst 0, 1) := by decide +kernel
theorem dX7_goBack_77 : decode cX7_goBack 77 = .ok (.iaload, 1) := by decide +kernel
theorem dX7_goBack_78 : decode cX7_goBack 78 = .ok (.ireturn, 1) := by decide +kernel
theorem dX7_mendedBy_0 : decode cX7_mendedBy 0 = .ok (.aload_n 0, 1) := by decide +kernel
theorem dX7_mendedBy_1 : decode cX7_mendedBy 1 = .ok (.iload_n 1, 1) := by decide +kernel
theorem dX7_mendedBy_2 : decode cX7_mendedBy 2 = .ok (.bipush 7, 2) := by decide +kernel
theorem dX7_mendedBy_4 : decode cX7_mendedBy 4 = .ok (.invokevirtual 66, 3) := by decide +kernel
theorem dX7_mendedBy_7 : decode cX7_mendedBy 7 = .ok (.ifCond .ne 6, 3) := by decide +kernel
theorem dX7_mendedBy_10 : decode cX7_mendedBy 10 = .ok (.ldc 47, 2) := by decide +kernel
theorem dX7_mendedBy_12 : decode cX7_mendedBy 12 = .ok (.ireturn, 1) := by decide +kernel
theorem dX7_mendedBy_13 : decode cX7_mendedBy 13 = .ok (.aload_n 0, 1) := by decide +kernel
theorem dX7_mendedBy_14 : decode cX7_mendedBy 14 = .ok (.iload_n 1, 1) := by decide +kernel
theorem dX7_mendedBy_15 : decode cX7_mendedBy 15 = .ok (.bipush 10, 2) := by decide +kernel
theorem dX7_mendedBy_17 : decode cX7_mendedBy 17 = .ok (.invokevirtual 66, 3) := by decide +kernel
theorem dX7_mendedBy_20 : decode cX7_mendedBy 20 = .ok (.istore_n 3, 1) := by decide +kernel
theorem dX7_mendedBy_21 : decode cX7_mendedBy 21 = .ok (.aload_n 0, 1) := by decide +kernel
theorem dX7_mendedBy_22 : decode cX7_mendedBy 22 = .ok (.iload_n 1, 1) := by decide +kernel
theorem dX7_mendedBy_23 : decode cX7_mendedBy 23 = .ok (.bipush 7, 2) := by decide +kernel
theorem dX7_mendedBy_25 : decode cX7_mendedBy 25 = .ok (.invokevirtual 66, 3) := by decide +kernel
theorem dX7_mendedBy_28 : decode cX7_mendedBy 28 = .ok (.iconst 1, 1) := by decide +kernel
theorem dX7_mendedBy_29 : decode cX7_mendedBy 29 = .ok (.if_icmp .le 39, 3) := by decide +kernel
theorem dX7_mendedBy_32 : decode cX7_mendedBy 32 = .ok (.aload_n 0, 1) := by decide +kernel
theorem dX7_mendedBy_33 : decode cX7_mendedBy 33 = .ok (.iload_n 1, 1) := by decide +kernel
theorem dX7_mendedBy_34 : decode cX7_mendedBy 34 = .ok (.bipush 9, 2) := by decide +kernel
theorem dX7_mendedBy_36 : decode cX7_mendedBy 36 = .ok (.invokevirtual 66, 3) := by decide +kernel
theorem dX7_mendedBy_39 : decode cX7_mendedBy 39 = .ok (.aload_n 0, 1) := by decide +kernel
theorem dX7_mendedBy_40 : decode cX7_mendedBy 40 = .ok (.iload_n 1, 1) := by decide +kernel
theorem dX7_mendedBy_41 : decode cX7_mendedBy 41 = .ok (.bipush 11, 2) := by decide +kernel
theorem dX7_mendedBy_43 : decode cX7_mendedBy 43 = .ok (.invokevirtual 66, 3) := by decide +kernel
theorem dX7_mendedBy_46 : decode cX7_mendedBy 46 = .ok (.isub, 1) := by decide +kernel
theorem dX7_mendedBy_47 : decode cX7_mendedBy 47 = .ok (.istore 4, 2) := by decide +kernel
theorem dX7_mendedBy_49 : decode cX7_mendedBy 49 = .ok (.iload_n 3, 1) := by decide +kernel
theorem dX7_mendedBy_50 : decode cX7_mendedBy 50 = .ok (.iload_n 3, 1) := by decide +kernel
theorem dX7_mendedBy_51 : decode cX7_mendedBy 51 = .ok (.aload_n 0, 1) := by decide +kernel
theorem dX7_mendedBy_52 : decode cX7_mendedBy 52 = .ok (.iload_n 1, 1) := by decide +kernel
theorem dX7_mendedBy_53 : decode cX7_mendedBy 53 = .ok (.bipush 12, 2) := by decide +kernel
theorem dX7_mendedBy_55 : decode cX7_mendedBy 55 = .ok (.invokevirtual 66, 3) := by decide +kernel
theorem dX7_mendedBy_58 : decode cX7_mendedBy 58 = .ok (.isub, 1) := by decide +kernel
theorem dX7_mendedBy_59 : decode cX7_mendedBy 59 = .ok (.iload_n 2, 1) := by decide +kernel
theorem dX7_mendedBy_60 : decode cX7_mendedBy 60 = .ok (.iconst 1, 1) := by decide +kernel
theorem dX7_mendedBy_61 : decode cX7_mendedBy 61 = .ok (.isub, 1) := by decide +kernel
theorem dX7_mendedBy_62 : decode cX7_mendedBy 62 = .ok (.imul, 1) := by decide +kernel
theorem dX7_mendedBy_63 : decode cX7_mendedBy 63 = .ok (.iload 4, 2) := by decide +kernel
theorem dX7_mendedBy_65 : decode cX7_mendedBy 65 = .ok (.idiv, 1) := by decide +kernel
theorem dX7_mendedBy_66 : decode cX7_mendedBy 66 = .ok (.iadd, 1) := by decide +kernel
theorem dX7_mendedBy_67 : decode cX7_mendedBy 67 = .ok (.istore_n 3, 1) := by decide +kernel
theorem dX7_mendedBy_68 : decode cX7_mendedBy 68 = .ok (.iload_n 3, 1) := by decide +kernel
theorem dX7_mendedBy_69 : decode cX7_mendedBy 69 = .ok (.aload_n 0, 1) := by decide +kernel
theorem dX7_mendedBy_70 : decode cX7_mendedBy 70 = .ok (.iload_n 1, 1) := by decide +kernel
theorem dX7_mendedBy_71 : decode cX7_mendedBy 71 = .ok (.iconst 2, 1) := by decide +kernel
theorem dX7_mendedBy_72 : decode cX7_mendedBy 72 = .ok (.invokevirtual 66, 3) := by decide +kernel
theorem dX7_mendedBy_75 : decode cX7_mendedBy 75 = .ok (.isub, 1) := by decide +kernel
theorem dX7_mendedBy_76 : decode cX7_mendedBy 76 = .ok (.ireturn, 1) := by decide +kernel
theorem dX7_mended_0 : decode cX7_mended 0 = .ok (.aload_n 0, 1) := by decide +kernel
theorem dX7_mended_1 : decode cX7_mended 1 = .ok (.iload_n 1, 1) := by decide +kernel
theorem dX7_mended_2 : decode cX7_mended 2 = .ok (.aload_n 0, 1) := by decide +kernel
theorem dX7_mended_3 : decode cX7_mended 3 = .ok (.iload_n 1, 1) := by decide +kernel
theorem dX7_mended_4 : decode cX7_mended 4 = .ok (.iconst 1, 1) := by decide +kernel
theorem dX7_mended_5 : decode cX7_mended 5 = .ok (.invokevirtual 66, 3) := by decide +kernel
theorem dX7_mended_8 : decode cX7_mended 8 = .ok (.invokevirtual 70, 3) := by decide +kernel
theorem dX7_mended_11 : decode cX7_mended 11 = .ok (.ireturn, 1) := by decide +kernel
theorem dX7_isAsked_0 : decode cX7_isAsked 0 = .ok (.aload_n 0, 1) := by decide +kernel
theorem dX7_isAsked_1 : decode cX7_isAsked 1 = .ok (.iload_n 1, 1) := by decide +kernel
theorem dX7_isAsked_2 : decode cX7_isAsked 2 = .ok (.bipush 7, 2) := by decide +kernel
theorem dX7_isAsked_4 : decode cX7_isAsked 4 = .ok (.invokevirtual 66, 3) := by decide +kernel
theorem dX7_isAsked_7 : decode cX7_isAsked 7 = .ok (.ifCond .le 17, 3) := by decide +kernel
theorem dX7_isAsked_10 : decode cX7_isAsked 10 = .ok (.aload_n 0, 1) := by decide +kernel
theorem dX7_isAsked_11 : decode cX7_isAsked 11 = .ok (.iload_n 1, 1) := by decide +kernel
theorem dX7_isAsked_12 : decode cX7_isAsked 12 = .ok (.bipush 6, 2) := by decide +kernel
theorem dX7_isAsked_14 : decode cX7_isAsked 14 = .ok (.invokevirtual 66, 3) := by decide +kernel
theorem dX7_isAsked_17 : decode cX7_isAsked 17 = .ok (.ifCond .ne 7, 3) := by decide +kernel
theorem dX7_isAsked_20 : decode cX7_isAsked 20 = .ok (.iconst 1, 1) := by decide +kernel
theorem dX7_isAsked_21 : decode cX7_isAsked 21 = .ok (.goto 4, 3) := by decide +kernel
theorem dX7_isAsked_24 : decode cX7_isAsked 24 = .ok (.iconst 0, 1) := by decide +kernel
theorem dX7_isAsked_25 : decode cX7_isAsked 25 = .ok (.ireturn, 1) := by decide +kernel
theorem dX7_sortIn_0 : decode cX7_sortIn 0 = .ok (.aload_n 0, 1) := by decide +kernel
theorem dX7_sortIn_1 : decode cX7_sortIn 1 = .ok (.getfield 73, 3) := by decide +kernel
theorem dX7_sortIn_4 : decode cX7_sortIn 4 = .ok (.istore_n 2, 1) := by decide +kernel
theorem dX7_sortIn_5 : decode cX7_sortIn 5 = .ok (.iload_n 2, 1) := by decide +kernel
theorem dX7_sortIn_6 : decode cX7_sortIn 6 = .ok (.ifCond .le 35, 3) := by decide +kernel
theorem dX7_sortIn_9 : decode cX7_sortIn 9 = .ok (.aload_n 0, 1) := by decide +kernel
theorem dX7_sortIn_10 : decode cX7_sortIn 10 = .ok (.getfield 26, 3) := by decide +kernel
theorem dX7_sortIn_13 : decode cX7_sortIn 13 = .ok (.iload_n 2, 1) := by decide +kernel
theorem dX7_sortIn_14 : decode cX7_sortIn 14 = .ok (.iconst 1, 1) := by decide +kernel
theorem dX7_sortIn_15 : decode cX7_sortIn 15 = .ok (.isub, 1) := by decide +kernel
theorem dX7_sortIn_16 : decode cX7_sortIn 16 = .ok (.iaload, 1) := by decide +kernel
theorem dX7_sortIn_17 : decode cX7_sortIn 17 = .ok (.iload_n 1, 1) := by decide +kernel
theorem dX7_sortIn_18 : decode cX7_sortIn 18 = .ok (.if_icmp .le 23, 3) := by decide +kernel
theorem dX7_sortIn_21 : decode cX7_sortIn 21 = .ok (.aload_n 0, 1) := by decide +kernel
theorem dX7_sortIn_22 : decode cX7_sortIn 22 = .ok (.getfield 26, 3) := by decide +kernel
theorem dX7_sortIn_25 : decode cX7_sortIn 25 = .ok (.iload_n 2, 1) := by decide +kernel
theorem dX7_sortIn_26 : decode cX7_sortIn 26 = .ok (.aload_n 0, 1) := by decide +kernel
theorem dX7_sortIn_27 : decode cX7_sortIn 27 = .ok (.getfield 26, 3) := by decide +kernel
theorem dX7_sortIn_30 : decode cX7_sortIn 30 = .ok (.iload_n 2, 1) := by decide +kernel
theorem dX7_sortIn_31 : decode cX7_sortIn 31 = .ok (.iconst 1, 1) := by decide +kernel
theorem dX7_sortIn_32 : decode cX7_sortIn 32 = .ok (.isub, 1) := by decide +kernel
theorem dX7_sortIn_33 : decode cX7_sortIn 33 = .ok (.iaload, 1) := by decide +kernel
theorem dX7_sortIn_34 : decode cX7_sortIn 34 = .ok (.iastore, 1) := by decide +kernel
theorem dX7_sortIn_35 : decode cX7_sortIn 35 = .ok (.iinc 2 (-1), 3) := by decide +kernel
theorem dX7_sortIn_38 : decode cX7_sortIn 38 = .ok (.goto (-33), 3) := by decide +kernel
theorem dX7_sortIn_41 : decode cX7_sortIn 41 = .ok (.aload_n 0, 1) := by decide +kernel
theorem dX7_sortIn_42 : decode cX7_sortIn 42 = .ok (.getfield 26, 3) := by decide +kernel
theorem dX7_sortIn_45 : decode cX7_sortIn 45 = .ok (.iload_n 2, 1) := by decide +kernel
theorem dX7_sortIn_46 : decode cX7_sortIn 46 = .ok (.iload_n 1, 1) := by decide +kernel
theorem dX7_sortIn_47 : decode cX7_sortIn 47 = .ok (.iastore, 1) := by decide +kernel
theorem dX7_sortIn_48 : decode cX7_sortIn 48 = .ok (.aload_n 0, 1) := by decide +kernel
theorem dX7_sortIn_49 : decode cX7_sortIn 49 = .ok (.dup, 1) := by decide +kernel
theorem dX7_sortIn_50 : decode cX7_sortIn 50 = .ok (.getfield 73, 3) := by decide +kernel
theorem dX7_sortIn_53 : decode cX7_sortIn 53 = .ok (.iconst 1, 1) := by decide +kernel
theorem dX7_sortIn_54 : decode cX7_sortIn 54 = .ok (.iadd, 1) := by decide +kernel
theorem dX7_sortIn_55 : decode cX7_sortIn 55 = .ok (.putfield 73, 3) := by decide +kernel
theorem dX7_sortIn_58 : decode cX7_sortIn 58 = .ok (.return_, 1) := by decide +kernel
theorem dX7_middleWithout_0 : decode cX7_middleWithout 0 = .ok (.aload_n 0, 1) := by decide +kernel
theorem dX7_middleWithout_1 : decode cX7_middleWithout 1 = .ok (.iconst 0, 1) := by decide +kernel
theorem dX7_middleWithout_2 : decode cX7_middleWithout 2 = .ok (.putfield 73, 3) := by decide +kernel
theorem dX7_middleWithout_5 : decode cX7_middleWithout 5 = .ok (.iconst 0, 1) := by decide +kernel
theorem dX7_middleWithout_6 : decode cX7_middleWithout 6 = .ok (.istore_n 2, 1) := by decide +kernel
theorem dX7_middleWithout_7 : decode cX7_middleWithout 7 = .ok (.iload_n 2, 1) := by decide +kernel
theorem dX7_middleWithout_8 : decode cX7_middleWithout 8 = .ok (.aload_n 0, 1) := by decide +kernel
theorem dX7_middleWithout_9 : decode cX7_middleWithout 9 = .ok (.getfield 7, 3) := by decide +kernel
theorem dX7_middleWithout_12 : decode cX7_middleWithout 12 = .ok (.bipush 15, 2) := by decide +kernel
theorem dX7_middleWithout_14 : decode cX7_middleWithout 14 = .ok (.iaload, 1) := by decide +kernel
theorem dX7_middleWithout_15 : decode cX7_middleWithout 15 = .ok (.if_icmp .ge 31, 3) := by decide +kernel
theorem dX7_middleWithout_18 : decode cX7_middleWithout 18 = .ok (.iload_n 2, 1) := by decide +kernel
theorem dX7_middleWithout_19 : decode cX7_middleWithout 19 = .ok (.iload_n 1, 1) := by decide +kernel
theorem dX7_middleWithout_20 : decode cX7_middleWithout 20 = .ok (.if_icmp .eq 20, 3) := by decide +kernel
theorem dX7_middleWithout_23 : decode cX7_middleWithout 23 = .ok (.aload_n 0, 1) := by decide +kernel
theorem dX7_middleWithout_24 : decode cX7_middleWithout 24 = .ok (.iload_n 2, 1) := by decide +kernel
theorem dX7_middleWithout_25 : decode cX7_middleWithout 25 = .ok (.invokevirtual 76, 3) := by decide +kernel
theorem dX7_middleWithout_28 : decode cX7_middleWithout 28 = .ok (.ifCond .eq 12, 3) := by decide +kernel
theorem dX7_middleWithout_31 : decode cX7_middleWithout 31 = .ok (.aload_n 0, 1) := by decide +kernel
theorem dX7_middleWithout_32 : decode cX7_middleWithout 32 = .ok (.aload_n 0, 1) := by decide +kernel
theorem dX7_middleWithout_33 : decode cX7_middleWithout 33 = .ok (.iload_n 2, 1) := by decide +kernel
theorem dX7_middleWithout_34 : decode cX7_middleWithout 34 = .ok (.invokevirtual 80, 3) := by decide +kernel
theorem dX7_middleWithout_37 : decode cX7_middleWithout 37 = .ok (.invokevirtual 83, 3) := by decide +kernel
theorem dX7_middleWithout_40 : decode cX7_middleWithout 40 = .ok (.iinc 2 1, 3) := by decide +kernel
theorem dX7_middleWithout_43 : decode cX7_middleWithout 43 = .ok (.goto (-36), 3) := by decide +kernel
theorem dX7_middleWithout_46 : decode cX7_middleWithout 46 = .ok (.aload_n 0, 1) := by decide +kernel
theorem dX7_middleWithout_47 : decode cX7_middleWithout 47 = .ok (.getfield 73, 3) := by decide +kernel
theorem dX7_middleWithout_50 : decode cX7_middleWithout 50 = .ok (.ifCond .ne 8, 3) := by decide +kernel
theorem dX7_middleWithout_53 : decode cX7_middleWithout 53 = .ok (.ldc 47, 2) := by decide +kernel
theorem dX7_middleWithout_55 : decode cX7_middleWithout 55 = .ok (.goto 16, 3) := by decide +kernel
theorem dX7_middleWithout_58 : decode cX7_middleWithout 58 = .ok (.aload_n 0, 1) := by decide +kernel
theorem dX7_middleWithout_59 : decode cX7_middleWithout 59 = .ok (.getfield 26, 3) := by decide +kernel
theorem dX7_middleWithout_62 : decode cX7_middleWithout 62 = .ok (.aload_n 0, 1) := by decide +kernel
theorem dX7_middleWithout_63 : decode cX7_middleWithout 63 = .ok (.getfield 73, 3) := by decide +kernel
theorem dX7_middleWithout_66 : decode cX7_middleWithout 66 = .ok (.iconst 1, 1) := by decide +kernel
theorem dX7_middleWithout_67 : decode cX7_middleWithout 67 = .ok (.isub, 1) := by decide +kernel
theorem dX7_middleWithout_68 : decode cX7_middleWithout 68 = .ok (.iconst 2, 1) := by decide +kernel
theorem dX7_middleWithout_69 : decode cX7_middleWithout 69 = .ok (.idiv, 1) := by decide +kernel
theorem dX7_middleWithout_70 : decode cX7_middleWithout 70 = .ok (.iaload, 1) := by decide +kernel
theorem dX7_middleWithout_71 : decode cX7_middleWithout 71 = .ok (.ireturn, 1) := by decide +kernel
theorem dX7_mean_0 : decode cX7_mean 0 = .ok (.iconst 0, 1) := by decide +kernel
theorem dX7_mean_1 : decode cX7_mean 1 = .ok (.istore_n 1, 1) := by decide +kernel
theorem dX7_mean_2 : decode cX7_mean 2 = .ok (.iconst 0, 1) := by decide +kernel
theorem dX7_mean_3 : decode cX7_mean 3 = .ok (.istore_n 2, 1) := by decide +kernel
theorem dX7_mean_4 : decode cX7_mean 4 = .ok (.iconst 0, 1) := by decide +kernel
theorem dX7_mean_5 : decode cX7_mean 5 = .ok (.istore_n 3, 1) := by decide +kernel
theorem dX7_mean_6 : decode cX7_mean 6 = .ok (.iload_n 3, 1) := by decide +kernel
theorem dX7_mean_7 : decode cX7_mean 7 = .ok (.aload_n 0, 1) := by decide +kernel
theorem dX7_mean_8 : decode cX7_mean 8 = .ok (.getfield 7, 3) := by decide +kernel
theorem dX7_mean_11 : decode cX7_mean 11 = .ok (.bipush 15, 2) := by decide +kernel
theorem dX7_mean_13 : decode cX7_mean 13 = .ok (.iaload, 1) := by decide +kernel
theorem dX7_mean_14 : decode cX7_mean 14 = .ok (.if_icmp .ge 41, 3) := by decide +kernel
theorem dX7_mean_17 : decode cX7_mean 17 = .ok (.aload_n 0, 1) := by decide +kernel
theorem dX7_mean_18 : decode cX7_mean 18 = .ok (.iload_n 3, 1) := by decide +kernel
theorem dX7_mean_19 : decode cX7_mean 19 = .ok (.invokevirtual 76, 3) := by decide +kernel
theorem dX7_mean_22 : decode cX7_mean 22 = .ok (.ifCond .eq 27, 3) := by decide +kernel
theorem dX7_mean_25 : decode cX7_mean 25 = .ok (.iload_n 1, 1) := by decide +kernel
theorem dX7_mean_26 : decode cX7_mean 26 = .ok (.aload_n 0, 1) := by decide +kernel
theorem dX7_mean_27 : decode cX7_mean 27 = .ok (.iload_n 3, 1) := by decide +kernel
theorem dX7_mean_28 : decode cX7_mean 28 = .ok (.invokevirtual 80, 3) := by decide +kernel
theorem dX7_mean_31 : decode cX7_mean 31 = .ok (.aload_n 0, 1) := by decide +kernel
theorem dX7_mean_32 : decode cX7_mean 32 = .ok (.iload_n 3, 1) := by decide +kernel
theorem dX7_mean_33 : decode cX7_mean 33 = .ok (.iconst 3, 1) := by decide +kernel
theorem dX7_mean_34 : decode cX7_mean 34 = .ok (.invokevirtual 66, 3) := by decide +kernel
theorem dX7_mean_37 : decode cX7_mean 37 = .ok (.imul, 1) := by decide +kernel
theorem dX7_mean_38 : decode cX7_mean 38 = .ok (.iadd, 1) := by decide +kernel
theorem dX7_mean_39 : decode cX7_mean 39 = .ok (.istore_n 1, 1) := by decide +kernel
theorem dX7_mean_40 : decode cX7_mean 40 = .ok (.iload_n 2, 1) := by decide +kernel
theorem dX7_mean_41 : decode cX7_mean 41 = .ok (.aload_n 0, 1) := by decide +kernel
theorem dX7_mean_42 : decode cX7_mean 42 = .ok (.iload_n 3, 1) := by decide +kernel
theorem dX7_mean_43 : decode cX7_mean 43 = .ok (.iconst 3, 1) := by decide +kernel
theorem dX7_mean_44 : decode cX7_mean 44 = .ok (.invokevirtual 66, 3) := by decide +kernel
theorem dX7_mean_47 : decode cX7_mean 47 = .ok (.iadd, 1) := by decide +kernel
theorem dX7_mean_48 : decode cX7_mean 48 = .ok (.istore_n 2, 1) := by decide +kernel
theorem dX7_mean_49 : decode cX7_mean 49 = .ok (.iinc 3 1, 3) := by decide +kernel
theorem dX7_mean_52 : decode cX7_mean 52 = .ok (.goto (-46), 3) := by decide +kernel
theorem dX7_mean_55 : decode cX7_mean 55 = .ok (.iload_n 2, 1) := by decide +kernel
theorem dX7_mean_56 : decode cX7_mean 56 = .ok (.ifCond .ne 8, 3) := by decide +kernel
theorem dX7_mean_59 : decode cX7_mean 59 = .ok (.ldc 47, 2) := by decide +kernel
theorem dX7_mean_61 : decode cX7_mean 61 = .ok (.goto 6, 3) := by decide +kernel
theorem dX7_mean_64 : decode cX7_mean 64 = .ok (.iload_n 1, 1) := by decide +kernel
theorem dX7_mean_65 : decode cX7_mean 65 = .ok (.iload_n 2, 1) := by decide +kernel
theorem dX7_mean_66 : decode cX7_mean 66 = .ok (.idiv, 1) := by decide +kernel
theorem dX7_mean_67 : decode cX7_mean 67 = .ok (.ireturn, 1) := by decide +kernel
theorem dX7_slope_0 : decode cX7_slope 0 = .ok (.aload_n 0, 1) := by decide +kernel
theorem dX7_slope_1 : decode cX7_slope 1 = .ok (.invokevirtual 87, 3) := by decide +kernel
theorem dX7_slope_4 : decode cX7_slope 4 = .ok (.istore_n 1, 1) := by decide +kernel
theorem dX7_slope_5 : decode cX7_slope 5 = .ok (.iload_n 1, 1) := by decide +kernel
theorem dX7_slope_6 : decode cX7_slope 6 = .ok (.ldc 47, 2) := by decide +kernel
theorem dX7_slope_8 : decode cX7_slope 8 = .ok (.if_icmp .eq 15, 3) := by decide +kernel
theorem dX7_slope_11 : decode cX7_slope 11 = .ok (.aload_n 0, 1) := by decide +kernel
theorem dX7_slope_12 : decode cX7_slope 12 = .ok (.getfield 7, 3) := by decide +kernel
theorem dX7_slope_15 : decode cX7_slope 15 = .ok (.bipush 14, 2) := by decide +kernel
theorem dX7_slope_17 : decode cX7_slope 17 = .ok (.iaload, 1) := by decide +kernel
theorem dX7_slope_18 : decode cX7_slope 18 = .ok (.ldc 47, 2) := by decide +kernel
theorem dX7_slope_20 : decode cX7_slope 20 = .ok (.if_icmp .ne 8, 3) := by decide +kernel
theorem dX7_slope_23 : decode cX7_slope 23 = .ok (.ldc 47, 2) := by decide +kernel
theorem dX7_slope_25 : decode cX7_slope 25 = .ok (.goto 12, 3) := by decide +kernel
theorem dX7_slope_28 : decode cX7_slope 28 = .ok (.iload_n 1, 1) := by decide +kernel
theorem dX7_slope_29 : decode cX7_slope 29 = .ok (.aload_n 0, 1) := by decide +kernel
theorem dX7_slope_30 : decode cX7_slope 30 = .ok (.getfield 7, 3) := by decide +kernel
theorem dX7_slope_33 : decode cX7_slope 33 = .ok (.bipush 14, 2) := by decide +kernel
theorem dX7_slope_35 : decode cX7_slope 35 = .ok (.iaload, 1) := by decide +kernel
theorem dX7_slope_36 : decode cX7_slope 36 = .ok (.isub, 1) := by decide +kernel
theorem dX7_slope_37 : decode cX7_slope 37 = .ok (.ireturn, 1) := by decide +kernel
theorem dX7_follow_0 : decode cX7_follow 0 = .ok (.aload_n 0, 1) := by decide +kernel
theorem dX7_follow_1 : decode cX7_follow 1 = .ok (.iload_n 1, 1) := by decide +kernel
theorem dX7_follow_2 : decode cX7_follow 2 = .ok (.iconst 4, 1) := by decide +kernel
theorem dX7_follow_3 : decode cX7_follow 3 = .ok (.aload_n 0, 1) := by decide +kernel
theorem dX7_follow_4 : decode cX7_follow 4 = .ok (.iload_n 1, 1) := by decide +kernel
theorem dX7_follow_5 : decode cX7_follow 5 = .ok (.iconst 4, 1) := by decide +kernel
theorem dX7_follow_6 : decode cX7_follow 6 = .ok (.invokevirtual 66, 3) := by decide +kernel
theorem dX7_follow_9 : decode cX7_follow 9 = .ok (.aload_n 0, 1) := by decide +kernel
theorem dX7_follow_10 : decode cX7_follow 10 = .ok (.iload_n 1, 1) := by decide +kernel
theorem dX7_follow_11 : decode cX7_follow 11 = .ok (.invokevirtual 91, 3) := by decide +kernel
theorem dX7_follow_14 : decode cX7_follow 14 = .ok (.iadd, 1) := by decide +kernel
theorem dX7_follow_15 : decode cX7_follow 15 = .ok (.invokevirtual 94, 3) := by decide +kernel
theorem dX7_follow_18 : decode cX7_follow 18 = .ok (.return_, 1) := by decide +kernel
theorem dX7_changeOf_0 : decode cX7_changeOf 0 = .ok (.aload_n 0, 1) := by decide +kernel
theorem dX7_changeOf_1 : decode cX7_changeOf 1 = .ok (.getfield 7, 3) := by decide +kernel
theorem dX7_changeOf_4 : decode cX7_changeOf 4 = .ok (.iconst 1, 1) := by decide +kernel
theorem dX7_changeOf_5 : decode cX7_changeOf 5 = .ok (.iaload, 1) := by decide +kernel
theorem dX7_changeOf_6 : decode cX7_changeOf 6 = .ok (.aload_n 0, 1) := by decide +kernel
theorem dX7_changeOf_7 : decode cX7_changeOf 7 = .ok (.iload_n 1, 1) := by decide +kernel
theorem dX7_changeOf_8 : decode cX7_changeOf 8 = .ok (.iconst 2, 1) := by decide +kernel
theorem dX7_changeOf_9 : decode cX7_changeOf 9 = .ok (.invokevirtual 66, 3) := by decide +kernel
theorem dX7_changeOf_12 : decode cX7_changeOf 12 = .ok (.iadd, 1) := by decide +kernel
theorem dX7_changeOf_13 : decode cX7_changeOf 13 = .ok (.aload_n 0, 1) := by decide +kernel
theorem dX7_changeOf_14 : decode cX7_changeOf 14 = .ok (.iload_n 1, 1) := by decide +kernel
theorem dX7_changeOf_15 : decode cX7_changeOf 15 = .ok (.iconst 4, 1) := by decide +kernel
theorem dX7_changeOf_16 : decode cX7_changeOf 16 = .ok (.invokevirtual 66, 3) := by decide +kernel
theorem dX7_changeOf_19 : decode cX7_changeOf 19 = .ok (.isub, 1) := by decide +kernel
theorem dX7_changeOf_20 : decode cX7_changeOf 20 = .ok (.aload_n 0, 1) := by decide +kernel
theorem dX7_changeOf_21 : decode cX7_changeOf 21 = .ok (.iload_n 1, 1) := by decide +kernel
theorem dX7_changeOf_22 : decode cX7_changeOf 22 = .ok (.iconst 1, 1) := by decide +kernel
theorem dX7_changeOf_23 : decode cX7_changeOf 23 = .ok (.invokevirtual 66, 3) := by decide +kernel
theorem dX7_changeOf_26 : decode cX7_changeOf 26 = .ok (.idiv, 1) := by decide +kernel
theorem dX7_changeOf_27 : decode cX7_changeOf 27 = .ok (.ireturn, 1) := by decide +kernel
theorem dX7_read_0 : decode cX7_read 0 = .ok (.bipush 11, 2) := by decide +kernel
theorem dX7_read_2 : decode cX7_read 2 = .ok (.istore_n 2, 1) := by decide +kernel
theorem dX7_read_3 : decode cX7_read 3 = .ok (.iload_n 2, 1) := by decide +kernel
theorem dX7_read_4 : decode cX7_read 4 = .ok (.iconst 1, 1) := by decide +kernel
theorem dX7_read_5 : decode cX7_read 5 = .ok (.if_icmp .le 29, 3) := by decide +kernel
theorem dX7_read_8 : decode cX7_read 8 = .ok (.aload_n 0, 1) := by decide +kernel
theorem dX7_read_9 : decode cX7_read 9 = .ok (.iload_n 1, 1) := by decide +kernel
theorem dX7_read_10 : decode cX7_read 10 = .ok (.bipush 9, 2) := by decide +kernel
theorem dX7_read_12 : decode cX7_read 12 = .ok (.iload_n 2, 1) := by decide +kernel
theorem dX7_read_13 : decode cX7_read 13 = .ok (.iadd, 1) := by decide +kernel
theorem dX7_read_14 : decode cX7_read 14 = .ok (.aload_n 0, 1) := by decide +kernel
theorem dX7_read_15 : decode cX7_read 15 = .ok (.iload_n 1, 1) := by decide +kernel
theorem dX7_read_16 : decode cX7_read 16 = .ok (.bipush 9, 2) := by decide +kernel
theorem dX7_read_18 : decode cX7_read 18 = .ok (.iload_n 2, 1) := by decide +kernel
theorem dX7_read_19 : decode cX7_read 19 = .ok (.iadd, 1) := by decide +kernel
theorem dX7_read_20 : decode cX7_read 20 = .ok (.iconst 2, 1) := by decide +kernel
theorem dX7_read_21 : decode cX7_read 21 = .ok (.isub, 1) := by decide +kernel
theorem dX7_read_22 : decode cX7_read 22 = .ok (.invokevirtual 66, 3) := by decide +kernel
theorem dX7_read_25 : decode cX7_read 25 = .ok (.invokevirtual 94, 3) := by decide +kernel
theorem dX7_read_28 : decode cX7_read 28 = .ok (.iinc 2 (-1), 3) := by decide +kernel
theorem dX7_read_31 : decode cX7_read 31 = .ok (.goto (-28), 3) := by decide +kernel
theorem dX7_read_34 : decode cX7_read 34 = .ok (.aload_n 0, 1) := by decide +kernel
theorem dX7_read_35 : decode cX7_read 35 = .ok (.iload_n 1, 1) := by decide +kernel
theorem dX7_read_36 : decode cX7_read 36 = .ok (.bipush 9, 2) := by decide +kernel
theorem dX7_read_38 : decode cX7_read 38 = .ok (.aload_n 0, 1) := by decide +kernel
theorem dX7_read_39 : decode cX7_read 39 = .ok (.getfield 7, 3) := by decide +kernel
theorem dX7_read_42 : decode cX7_read 42 = .ok (.iconst 0, 1) := by decide +kernel
theorem dX7_read_43 : decode cX7_read 43 = .ok (.iaload, 1) := by decide +kernel
theorem dX7_read_44 : decode cX7_read 44 = .ok (.invokevirtual 94, 3) := by decide +kernel
theorem dX7_read_47 : decode cX7_read 47 = .ok (.aload_n 0, 1) := by decide +kernel
theorem dX7_read_48 : decode cX7_read 48 = .ok (.iload_n 1, 1) := by decide +kernel
theorem dX7_read_49 : decode cX7_read 49 = .ok (.bipush 10, 2) := by decide +kernel
theorem dX7_read_51 : decode cX7_read 51 = .ok (.aload_n 0, 1) := by decide +kernel
theorem dX7_read_52 : decode cX7_read 52 = .ok (.iload_n 1, 1) := by decide +kernel
theorem dX7_read_53 : decode cX7_read 53 = .ok (.iconst 4, 1) := by decide +kernel
theorem dX7_read_54 : decode cX7_read 54 = .ok (.invokevirtual 66, 3) := by decide +kernel
theorem dX7_read_57 : decode cX7_read 57 = .ok (.invokevirtual 94, 3) := by decide +kernel
theorem dX7_read_60 : decode cX7_read 60 = .ok (.aload_n 0, 1) := by decide +kernel
theorem dX7_read_61 : decode cX7_read 61 = .ok (.iload_n 1, 1) := by decide +kernel
theorem dX7_read_62 : decode cX7_read 62 = .ok (.bipush 7, 2) := by decide +kernel
theorem dX7_read_64 : decode cX7_read 64 = .ok (.aload_n 0, 1) := by decide +kernel
theorem dX7_read_65 : decode cX7_read 65 = .ok (.iload_n 1, 1) := by decide +kernel
theorem dX7_read_66 : decode cX7_read 66 = .ok (.bipush 7, 2) := by decide +kernel
theorem dX7_read_68 : decode cX7_read 68 = .ok (.invokevirtual 66, 3) := by decide +kernel
theorem dX7_read_71 : decode cX7_read 71 = .ok (.bipush 6, 2) := by decide +kernel
theorem dX7_read_73 : decode cX7_read 73 = .ok (.if_icmp .ge 15, 3) := by decide +kernel
theorem dX7_read_76 : decode cX7_read 76 = .ok (.aload_n 0, 1) := by decide +kernel
theorem dX7_read_77 : decode cX7_read 77 = .ok (.iload_n 1, 1) := by decide +kernel
theorem dX7_read_78 : decode cX7_read 78 = .ok (.bipush 7, 2) := by decide +kernel
theorem dX7_read_80 : decode cX7_read 80 = .ok (.invokevirtual 66, 3) := by decide +kernel
theorem dX7_read_83 : decode cX7_read 83 = .ok (.iconst 1, 1) := by decide +kernel
theorem dX7_read_84 : decode cX7_read 84 = .ok (.iadd, 1) := by decide +kernel
theorem dX7_read_85 : decode cX7_read 85 = .ok (.goto 5, 3) := by decide +kernel
theorem dX7_read_88 : decode cX7_read 88 = .ok (.bipush 6, 2) := by decide +kernel
theorem dX7_read_90 : decode cX7_read 90 = .ok (.invokevirtual 94, 3) := by decide +kernel
theorem dX7_read_93 : decode cX7_read 93 = .ok (.aload_n 0, 1) := by decide +kernel
theorem dX7_read_94 : decode cX7_read 94 = .ok (.getfield 7, 3) := by decide +kernel
theorem dX7_read_97 : decode cX7_read 97 = .ok (.bipush 12, 2) := by decide +kernel
theorem dX7_read_99 : decode cX7_read 99 = .ok (.dup2, 1) := by decide +kernel
theorem dX7_read_100 : decode cX7_read 100 = .ok (.iaload, 1) := by decide +kernel
theorem dX7_read_101 : decode cX7_read 101 = .ok (.iconst 1, 1) := by decide +kernel
theorem dX7_read_102 : decode cX7_read 102 = .ok (.iadd, 1) := by decide +kernel
theorem dX7_read_103 : decode cX7_read 103 = .ok (.iastore, 1) := by decide +kernel
theorem dX7_read_104 : decode cX7_read 104 = .ok (.return_, 1) := by decide +kernel
theorem dX7_isDue_0 : decode cX7_isDue 0 = .ok (.aload_n 0, 1) := by decide +kernel
theorem dX7_isDue_1 : decode cX7_isDue 1 = .ok (.getfield 7, 3) := by decide +kernel
theorem dX7_isDue_4 : decode cX7_isDue 4 = .ok (.iconst 0, 1) := by decide +kernel
theorem dX7_isDue_5 : decode cX7_isDue 5 = .ok (.iaload, 1) := by decide +kernel
theorem dX7_isDue_6 : decode cX7_isDue 6 = .ok (.aload_n 0, 1) := by decide +kernel
theorem dX7_isDue_7 : decode cX7_isDue 7 = .ok (.getfield 7, 3) := by decide +kernel
theorem dX7_isDue_10 : decode cX7_isDue 10 = .ok (.iconst 4, 1) := by decide +kernel
theorem dX7_isDue_11 : decode cX7_isDue 11 = .ok (.iload_n 1, 1) := by decide +kernel
theorem dX7_isDue_12 : decode cX7_isDue 12 = .ok (.iadd, 1) := by decide +kernel
theorem dX7_isDue_13 : decode cX7_isDue 13 = .ok (.iaload, 1) := by decide +kernel
theorem dX7_isDue_14 : decode cX7_isDue 14 = .ok (.irem, 1) := by decide +kernel
theorem dX7_isDue_15 : decode cX7_isDue 15 = .ok (.ifCond .ne 7, 3) := by decide +kernel
theorem dX7_isDue_18 : decode cX7_isDue 18 = .ok (.iconst 1, 1) := by decide +kernel
theorem dX7_isDue_19 : decode cX7_isDue 19 = .ok (.goto 4, 3) := by decide +kernel
theorem dX7_isDue_22 : decode cX7_isDue 22 = .ok (.iconst 0, 1) := by decide +kernel
theorem dX7_isDue_23 : decode cX7_isDue 23 = .ok (.ireturn, 1) := by decide +kernel
theorem dX7_readRows_0 : decode cX7_readRows 0 = .ok (.aload_n 0, 1) := by decide +kernel
theorem dX7_readRows_1 : decode cX7_readRows 1 = .ok (.getfield 7, 3) := by decide +kernel
theorem dX7_readRows_4 : decode cX7_readRows 4 = .ok (.bipush 12, 2) := by decide +kernel
theorem dX7_readRows_6 : decode cX7_readRows 6 = .ok (.iaload, 1) := by decide +kernel
theorem dX7_readRows_7 : decode cX7_readRows 7 = .ok (.istore_n 1, 1) := by decide +kernel
theorem dX7_readRows_8 : decode cX7_readRows 8 = .ok (.iconst 0, 1) := by decide +kernel
theorem dX7_readRows_9 : decode cX7_readRows 9 = .ok (.istore_n 2, 1) := by decide +kernel
theorem dX7_readRows_10 : decode cX7_readRows 10 = .ok (.iload_n 2, 1) := by decide +kernel
theorem dX7_readRows_11 : decode cX7_readRows 11 = .ok (.iconst 4, 1) := by decide +kernel
theorem dX7_readRows_12 : decode cX7_readRows 12 = .ok (.if_icmp .ge 64, 3) := by decide +kernel
theorem dX7_readRows_15 : decode cX7_readRows 15 = .ok (.aload_n 0, 1) := by decide +kernel
theorem dX7_readRows_16 : decode cX7_readRows 16 = .ok (.iload_n 2, 1) := by decide +kernel
theorem dX7_readRows_17 : decode cX7_readRows 17 = .ok (.invokevirtual 98, 3) := by decide +kernel
theorem dX7_readRows_20 : decode cX7_readRows 20 = .ok (.ifCond .eq 50, 3) := by decide +kernel
theorem dX7_readRows_23 : decode cX7_readRows 23 = .ok (.aload_n 0, 1) := by decide +kernel
theorem dX7_readRows_24 : decode cX7_readRows 24 = .ok (.getfield 7, 3) := by decide +kernel
theorem dX7_readRows_27 : decode cX7_readRows 27 = .ok (.bipush 8, 2) := by decide +kernel
theorem dX7_readRows_29 : decode cX7_readRows 29 = .ok (.iload_n 2, 1) := by decide +kernel
theorem dX7_readRows_30 : decode cX7_readRows 30 = .ok (.iadd, 1) := by decide +kernel
theorem dX7_readRows_31 : decode cX7_readRows 31 = .ok (.dup2, 1) := by decide +kernel
theorem dX7_readRows_32 : decode cX7_readRows 32 = .ok (.iaload, 1) := by decide +kernel
theorem dX7_readRows_33 : decode cX7_readRows 33 = .ok (.iconst 1, 1) := by decide +kernel
theorem dX7_readRows_34 : decode cX7_readRows 34 = .ok (.iadd, 1) := by decide +kernel
theorem dX7_readRows_35 : decode cX7_readRows 35 = .ok (.iastore, 1) := by decide +kernel
theorem dX7_readRows_36 : decode cX7_readRows 36 = .ok (.iconst 0, 1) := by decide +kernel
theorem dX7_readRows_37 : decode cX7_readRows 37 = .ok (.istore_n 3, 1) := by decide +kernel
theorem dX7_readRows_38 : decode cX7_readRows 38 = .ok (.iload_n 3, 1) := by decide +kernel
theorem dX7_readRows_39 : decode cX7_readRows 39 = .ok (.aload_n 0, 1) := by decide +kernel
theorem dX7_readRows_40 : decode cX7_readRows 40 = .ok (.getfield 7, 3) := by decide +kernel
theorem dX7_readRows_43 : decode cX7_readRows 43 = .ok (.bipush 15, 2) := by decide +kernel
theorem dX7_readRows_45 : decode cX7_readRows 45 = .ok (.iaload, 1) := by decide +kernel
theorem dX7_readRows_46 : decode cX7_readRows 46 = .ok (.if_icmp .ge 24, 3) := by decide +kernel
theorem dX7_readRows_49 : decode cX7_readRows 49 = .ok (.aload_n 0, 1) := by decide +kernel
theorem dX7_readRows_50 : decode cX7_readRows 50 = .ok (.iload_n 3, 1) := by decide +kernel
theorem dX7_readRows_51 : decode cX7_readRows 51 = .ok (.iconst 0, 1) := by decide +kernel
theorem dX7_readRows_52 : decode cX7_readRows 52 = .ok (.invokevirtual 66, 3) := by decide +kernel
theorem dX7_readRows_55 : decode cX7_readRows 55 = .ok (.iload_n 2, 1) := by decide +kernel
theorem dX7_readRows_56 : decode cX7_readRows 56 = .ok (.if_icmp .ne 8, 3) := by decide +kernel
theorem dX7_readRows_59 : decode cX7_readRows 59 = .ok (.aload_n 0, 1) := by decide +kernel
theorem dX7_readRows_60 : decode cX7_readRows 60 = .ok (.iload_n 3, 1) := by decide +kernel
theorem dX7_readRows_61 : decode cX7_readRows 61 = .ok (.invokevirtual 101, 3) := by decide +kernel
theorem dX7_readRows_64 : decode cX7_readRows 64 = .ok (.iinc 3 1, 3) := by decide +kernel
theorem dX7_readRows_67 : decode cX7_readRows 67 = .ok (.goto (-29), 3) := by decide +kernel
theorem dX7_readRows_70 : decode cX7_readRows 70 = .ok (.iinc 2 1, 3) := by decide +kernel
theorem dX7_readRows_73 : decode cX7_readRows 73 = .ok (.goto (-63), 3) := by decide +kernel
theorem dX7_readRows_76 : decode cX7_readRows 76 = .ok (.aload_n 0, 1) := by decide +kernel
theorem dX7_readRows_77 : decode cX7_readRows 77 = .ok (.getfield 7, 3) := by decide +kernel
theorem dX7_readRows_80 : decode cX7_readRows 80 = .ok (.bipush 12, 2) := by decide +kernel
theorem dX7_readRows_82 : decode cX7_readRows 82 = .ok (.iaload, 1) := by decide +kernel
theorem dX7_readRows_83 : decode cX7_readRows 83 = .ok (.iload_n 1, 1) := by decide +kernel
theorem dX7_readRows_84 : decode cX7_readRows 84 = .ok (.isub, 1) := by decide +kernel
theorem dX7_readRows_85 : decode cX7_readRows 85 = .ok (.ireturn, 1) := by decide +kernel
theorem dX7_compare_0 : decode cX7_compare 0 = .ok (.aload_n 0, 1) := by decide +kernel
theorem dX7_compare_1 : decode cX7_compare 1 = .ok (.iload_n 1, 1) := by decide +kernel
theorem dX7_compare_2 : decode cX7_compare 2 = .ok (.invokevirtual 104, 3) := by decide +kernel
theorem dX7_compare_5 : decode cX7_compare 5 = .ok (.istore_n 2, 1) := by decide +kernel
theorem dX7_compare_6 : decode cX7_compare 6 = .ok (.aload_n 0, 1) := by decide +kernel
theorem dX7_compare_7 : decode cX7_compare 7 = .ok (.getfield 29, 3) := by decide +kernel
theorem dX7_compare_10 : decode cX7_compare 10 = .ok (.iload_n 1, 1) := by decide +kernel
theorem dX7_compare_11 : decode cX7_compare 11 = .ok (.aload_n 0, 1) := by decide +kernel
theorem dX7_compare_12 : decode cX7_compare 12 = .ok (.iload_n 1, 1) := by decide +kernel
theorem dX7_compare_13 : decode cX7_compare 13 = .ok (.invokevirtual 76, 3) := by decide +kernel
theorem dX7_compare_16 : decode cX7_compare 16 = .ok (.ifCond .eq 26, 3) := by decide +kernel
theorem dX7_compare_19 : decode cX7_compare 19 = .ok (.aload_n 0, 1) := by decide +kernel
theorem dX7_compare_20 : decode cX7_compare 20 = .ok (.aload_n 0, 1) := by decide +kernel
theorem dX7_compare_21 : decode cX7_compare 21 = .ok (.iload_n 1, 1) := by decide +kernel
theorem dX7_compare_22 : decode cX7_compare 22 = .ok (.iconst 0, 1) := by decide +kernel
theorem dX7_compare_23 : decode cX7_compare 23 = .ok (.invokevirtual 66, 3) := by decide +kernel
theorem dX7_compare_26 : decode cX7_compare 26 = .ok (.invokevirtual 98, 3) := by decide +kernel
theorem dX7_compare_29 : decode cX7_compare 29 = .ok (.ifCond .eq 13, 3) := by decide +kernel
theorem dX7_compare_32 : decode cX7_compare 32 = .ok (.iload_n 2, 1) := by decide +kernel
theorem dX7_compare_33 : decode cX7_compare 33 = .ok (.ldc 47, 2) := by decide +kernel
theorem dX7_compare_35 : decode cX7_compare 35 = .ok (.if_icmp .eq 7, 3) := by decide +kernel
theorem dX7_compare_38 : decode cX7_compare 38 = .ok (.iconst 1, 1) := by decide +kernel
theorem dX7_compare_39 : decode cX7_compare 39 = .ok (.goto 4, 3) := by decide +kernel
theorem dX7_compare_42 : decode cX7_compare 42 = .ok (.iconst 0, 1) := by decide +kernel
theorem dX7_compare_43 : decode cX7_compare 43 = .ok (.bastore, 1) := by decide +kernel
theorem dX7_compare_44 : decode cX7_compare 44 = .ok (.aload_n 0, 1) := by decide +kernel
theorem dX7_compare_45 : decode cX7_compare 45 = .ok (.getfield 29, 3) := by decide +kernel
theorem dX7_compare_48 : decode cX7_compare 48 = .ok (.iload_n 1, 1) := by decide +kernel
theorem dX7_compare_49 : decode cX7_compare 49 = .ok (.baload, 1) := by decide +kernel
theorem dX7_compare_50 : decode cX7_compare 50 = .ok (.ifCond .ne 4, 3) := by decide +kernel
theorem dX7_compare_53 : decode cX7_compare 53 = .ok (.return_, 1) := by decide +kernel
theorem dX7_compare_54 : decode cX7_compare 54 = .ok (.aload_n 0, 1) := by decide +kernel
theorem dX7_compare_55 : decode cX7_compare 55 = .ok (.iload_n 1, 1) := by decide +kernel
theorem dX7_compare_56 : decode cX7_compare 56 = .ok (.invokevirtual 80, 3) := by decide +kernel
theorem dX7_compare_59 : decode cX7_compare 59 = .ok (.iload_n 2, 1) := by decide +kernel
theorem dX7_compare_60 : decode cX7_compare 60 = .ok (.isub, 1) := by decide +kernel
theorem dX7_compare_61 : decode cX7_compare 61 = .ok (.invokestatic 107, 3) := by decide +kernel
theorem dX7_compare_64 : decode cX7_compare 64 = .ok (.aload_n 0, 1) := by decide +kernel
theorem dX7_compare_65 : decode cX7_compare 65 = .ok (.getfield 7, 3) := by decide +kernel
theorem dX7_compare_68 : decode cX7_compare 68 = .ok (.iconst 2, 1) := by decide +kernel
theorem dX7_compare_69 : decode cX7_compare 69 = .ok (.iaload, 1) := by decide +kernel
theorem dX7_compare_70 : decode cX7_compare 70 = .ok (.if_icmp .le 47, 3) := by decide +kernel
theorem dX7_compare_73 : decode cX7_compare 73 = .ok (.aload_n 0, 1) := by decide +kernel
theorem dX7_compare_74 : decode cX7_compare 74 = .ok (.getfield 7, 3) := by decide +kernel
theorem dX7_compare_77 : decode cX7_compare 77 = .ok (.bipush 13, 2) := by decide +kernel
theorem dX7_compare_79 : decode cX7_compare 79 = .ok (.dup2, 1) := by decide +kernel
theorem dX7_compare_80 : decode cX7_compare 80 = .ok (.iaload, 1) := by decide +kernel
theorem dX7_compare_81 : decode cX7_compare 81 = .ok (.iconst 1, 1) := by decide +kernel
theorem dX7_compare_82 : decode cX7_compare 82 = .ok (.iadd, 1) := by decide +kernel
theorem dX7_compare_83 : decode cX7_compare 83 = .ok (.iastore, 1) := by decide +kernel
theorem dX7_compare_84 : decode cX7_compare 84 = .ok (.aload_n 0, 1) := by decide +kernel
theorem dX7_compare_85 : decode cX7_compare 85 = .ok (.iload_n 1, 1) := by decide +kernel
theorem dX7_compare_86 : decode cX7_compare 86 = .ok (.bipush 8, 2) := by decide +kernel
theorem dX7_compare_88 : decode cX7_compare 88 = .ok (.aload_n 0, 1) := by decide +kernel
theorem dX7_compare_89 : decode cX7_compare 89 = .ok (.iload_n 1, 1) := by decide +kernel
theorem dX7_compare_90 : decode cX7_compare 90 = .ok (.bipush 8, 2) := by decide +kernel
theorem dX7_compare_92 : decode cX7_compare 92 = .ok (.invokevirtual 66, 3) := by decide +kernel
theorem dX7_compare_95 : decode cX7_compare 95 = .ok (.iconst 1, 1) := by decide +kernel
theorem dX7_compare_96 : decode cX7_compare 96 = .ok (.iadd, 1) := by decide +kernel
theorem dX7_compare_97 : decode cX7_compare 97 = .ok (.invokevirtual 94, 3) := by decide +kernel
theorem dX7_compare_100 : decode cX7_compare 100 = .ok (.aload_n 0, 1) := by decide +kernel
theorem dX7_compare_101 : decode cX7_compare 101 = .ok (.iload_n 1, 1) := by decide +kernel
theorem dX7_compare_102 : decode cX7_compare 102 = .ok (.iconst 5, 1) := by decide +kernel
theorem dX7_compare_103 : decode cX7_compare 103 = .ok (.aload_n 0, 1) := by decide +kernel
theorem dX7_compare_104 : decode cX7_compare 104 = .ok (.iload_n 1, 1) := by decide +kernel
theorem dX7_compare_105 : decode cX7_compare 105 = .ok (.iconst 5, 1) := by decide +kernel
theorem dX7_compare_106 : decode cX7_compare 106 = .ok (.invokevirtual 66, 3) := by decide +kernel
theorem dX7_compare_109 : decode cX7_compare 109 = .ok (.iconst 1, 1) := by decide +kernel
theorem dX7_compare_110 : decode cX7_compare 110 = .ok (.iadd, 1) := by decide +kernel
theorem dX7_compare_111 : decode cX7_compare 111 = .ok (.invokevirtual 94, 3) := by decide +kernel
theorem dX7_compare_114 : decode cX7_compare 114 = .ok (.goto 10, 3) := by decide +kernel
theorem dX7_compare_117 : decode cX7_compare 117 = .ok (.aload_n 0, 1) := by decide +kernel
theorem dX7_compare_118 : decode cX7_compare 118 = .ok (.iload_n 1, 1) := by decide +kernel
theorem dX7_compare_119 : decode cX7_compare 119 = .ok (.iconst 5, 1) := by decide +kernel
theorem dX7_compare_120 : decode cX7_compare 120 = .ok (.iconst 0, 1) := by decide +kernel
theorem dX7_compare_121 : decode cX7_compare 121 = .ok (.invokevirtual 94, 3) := by decide +kernel
theorem dX7_compare_124 : decode cX7_compare 124 = .ok (.return_, 1) := by decide +kernel
theorem dX7_lookForSpikes_0 : decode cX7_lookForSpikes 0 = .ok (.iconst 0, 1) := by decide +kernel
theorem dX7_lookForSpikes_1 : decode cX7_lookForSpikes 1 = .ok (.istore_n 1, 1) := by decide +kernel
theorem dX7_lookForSpikes_2 : decode cX7_lookForSpikes 2 = .ok (.iload_n 1, 1) := by decide +kernel
theorem dX7_lookForSpikes_3 : decode cX7_lookForSpikes 3 = .ok (.aload_n 0, 1) := by decide +kernel
theorem dX7_lookForSpikes_4 : decode cX7_lookForSpikes 4 = .ok (.getfield 7, 3) := by decide +kernel
theorem dX7_lookForSpikes_7 : decode cX7_lookForSpikes 7 = .ok (.bipush 15, 2) := by decide +kernel
theorem dX7_lookForSpikes_9 : decode cX7_lookForSpikes 9 = .ok (.iaload, 1) := by decide +kernel
theorem dX7_lookForSpikes_10 : decode cX7_lookForSpikes 10 = .ok (.if_icmp .ge 14, 3) := by decide +kernel
theorem dX7_lookForSpikes_13 : decode cX7_lookForSpikes 13 = .ok (.aload_n 0, 1) := by decide +kernel
theorem dX7_lookForSpikes_14 : decode cX7_lookForSpikes 14 = .ok (.iload_n 1, 1) := by decide +kernel
theorem dX7_lookForSpikes_15 : decode cX7_lookForSpikes 15 = .ok (.invokevirtual 110, 3) := by decide +kernel
theorem dX7_lookForSpikes_18 : decode cX7_lookForSpikes 18 = .ok (.iinc 1 1, 3) := by decide +kernel
theorem dX7_lookForSpikes_21 : decode cX7_lookForSpikes 21 = .ok (.goto (-19), 3) := by decide +kernel
theorem dX7_lookForSpikes_24 : decode cX7_lookForSpikes 24 = .ok (.iconst 0, 1) := by decide +kernel
theorem dX7_lookForSpikes_25 : decode cX7_lookForSpikes 25 = .ok (.istore_n 1, 1) := by decide +kernel
theorem dX7_lookForSpikes_26 : decode cX7_lookForSpikes 26 = .ok (.iload_n 1, 1) := by decide +kernel
theorem dX7_lookForSpikes_27 : decode cX7_lookForSpikes 27 = .ok (.aload_n 0, 1) := by decide +kernel
theorem dX7_lookForSpikes_28 : decode cX7_lookForSpikes 28 = .ok (.getfield 7, 3) := by decide +kernel
theorem dX7_lookForSpikes_31 : decode cX7_lookForSpikes 31 = .ok (.bipush 15, 2) := by decide +kernel
theorem dX7_lookForSpikes_33 : decode cX7_lookForSpikes 33 = .ok (.iaload, 1) := by decide +kernel
theorem dX7_lookForSpikes_34 : decode cX7_lookForSpikes 34 = .ok (.if_icmp .ge 41, 3) := by decide +kernel
theorem dX7_lookForSpikes_37 : decode cX7_lookForSpikes 37 = .ok (.aload_n 0, 1) := by decide +kernel
theorem dX7_lookForSpikes_38 : decode cX7_lookForSpikes 38 = .ok (.getfield 29, 3) := by decide +kernel
theorem dX7_lookForSpikes_41 : decode cX7_lookForSpikes 41 = .ok (.iload_n 1, 1) := by decide +kernel
theorem dX7_lookForSpikes_42 : decode cX7_lookForSpikes 42 = .ok (.baload, 1) := by decide +kernel
theorem dX7_lookForSpikes_43 : decode cX7_lookForSpikes 43 = .ok (.ifCond .eq 26, 3) := by decide +kernel
theorem dX7_lookForSpikes_46 : decode cX7_lookForSpikes 46 = .ok (.aload_n 0, 1) := by decide +kernel
theorem dX7_lookForSpikes_47 : decode cX7_lookForSpikes 47 = .ok (.iload_n 1, 1) := by decide +kernel
theorem dX7_lookForSpikes_48 : decode cX7_lookForSpikes 48 = .ok (.iconst 5, 1) := by decide +kernel
theorem dX7_lookForSpikes_49 : decode cX7_lookForSpikes 49 = .ok (.invokevirtual 66, 3) := by decide +kernel
theorem dX7_lookForSpikes_52 : decode cX7_lookForSpikes 52 = .ok (.aload_n 0, 1) := by decide +kernel
theorem dX7_lookForSpikes_53 : decode cX7_lookForSpikes 53 = .ok (.getfield 7, 3) := by decide +kernel
theorem dX7_lookForSpikes_56 : decode cX7_lookForSpikes 56 = .ok (.iconst 3, 1) := by decide +kernel
theorem dX7_lookForSpikes_57 : decode cX7_lookForSpikes 57 = .ok (.iaload, 1) := by decide +kernel
theorem dX7_lookForSpikes_58 : decode cX7_lookForSpikes 58 = .ok (.if_icmp .lt 11, 3) := by decide +kernel
theorem dX7_lookForSpikes_61 : decode cX7_lookForSpikes 61 = .ok (.aload_n 0, 1) := by decide +kernel
theorem dX7_lookForSpikes_62 : decode cX7_lookForSpikes 62 = .ok (.iload_n 1, 1) := by decide +kernel
theorem dX7_lookForSpikes_63 : decode cX7_lookForSpikes 63 = .ok (.bipush 6, 2) := by decide +kernel
theorem dX7_lookForSpikes_65 : decode cX7_lookForSpikes 65 = .ok (.iconst 1, 1) := by decide +kernel
theorem dX7_lookForSpikes_66 : decode cX7_lookForSpikes 66 = .ok (.invokevirtual 94, 3) := by decide +kernel
theorem dX7_lookForSpikes_69 : decode cX7_lookForSpikes 69 = .ok (.iinc 1 1, 3) := by decide +kernel
theorem dX7_lookForSpikes_72 : decode cX7_lookForSpikes 72 = .ok (.goto (-46), 3) := by decide +kernel
theorem dX7_lookForSpikes_75 : decode cX7_lookForSpikes 75 = .ok (.return_, 1) := by decide +kernel
theorem dX7_pass_0 : decode cX7_pass 0 = .ok (.aload_n 0, 1) := by decide +kernel
theorem dX7_pass_1 : decode cX7_pass 1 = .ok (.getfield 7, 3) := by decide +kernel
theorem dX7_pass_4 : decode cX7_pass 4 = .ok (.bipush 14, 2) := by decide +kernel
theorem dX7_pass_6 : decode cX7_pass 6 = .ok (.aload_n 0, 1) := by decide +kernel
theorem dX7_pass_7 : decode cX7_pass 7 = .ok (.invokevirtual 87, 3) := by decide +kernel
theorem dX7_pass_10 : decode cX7_pass 10 = .ok (.iastore, 1) := by decide +kernel
theorem dX7_pass_11 : decode cX7_pass 11 = .ok (.aload_n 0, 1) := by decide +kernel
theorem dX7_pass_12 : decode cX7_pass 12 = .ok (.getfield 7, 3) := by decide +kernel
theorem dX7_pass_15 : decode cX7_pass 15 = .ok (.iconst 0, 1) := by decide +kernel
theorem dX7_pass_16 : decode cX7_pass 16 = .ok (.dup2, 1) := by decide +kernel
theorem dX7_pass_17 : decode cX7_pass 17 = .ok (.iaload, 1) := by decide +kernel
theorem dX7_pass_18 : decode cX7_pass 18 = .ok (.iconst 1, 1) := by decide +kernel
theorem dX7_pass_19 : decode cX7_pass 19 = .ok (.iadd, 1) := by decide +kernel
theorem dX7_pass_20 : decode cX7_pass 20 = .ok (.iastore, 1) := by decide +kernel
theorem dX7_pass_21 : decode cX7_pass 21 = .ok (.aload_n 0, 1) := by decide +kernel
theorem dX7_pass_22 : decode cX7_pass 22 = .ok (.getfield 7, 3) := by decide +kernel
theorem dX7_pass_25 : decode cX7_pass 25 = .ok (.iconst 1, 1) := by decide +kernel
theorem dX7_pass_26 : decode cX7_pass 26 = .ok (.iload_n 1, 1) := by decide +kernel
theorem dX7_pass_27 : decode cX7_pass 27 = .ok (.iastore, 1) := by decide +kernel
theorem dX7_pass_28 : decode cX7_pass 28 = .ok (.iconst 0, 1) := by decide +kernel
theorem dX7_pass_29 : decode cX7_pass 29 = .ok (.istore_n 2, 1) := by decide +kernel
theorem dX7_pass_30 : decode cX7_pass 30 = .ok (.iload_n 2, 1) := by decide +kernel
theorem dX7_pass_31 : decode cX7_pass 31 = .ok (.aload_n 0, 1) := by decide +kernel
theorem dX7_pass_32 : decode cX7_pass 32 = .ok (.getfield 7, 3) := by decide +kernel
theorem dX7_pass_35 : decode cX7_pass 35 = .ok (.bipush 15, 2) := by decide +kernel
theorem dX7_pass_37 : decode cX7_pass 37 = .ok (.iaload, 1) := by decide +kernel
theorem dX7_pass_38 : decode cX7_pass 38 = .ok (.if_icmp .ge 14, 3) := by decide +kernel
theorem dX7_pass_41 : decode cX7_pass 41 = .ok (.aload_n 0, 1) := by decide +kernel
theorem dX7_pass_42 : decode cX7_pass 42 = .ok (.iload_n 2, 1) := by decide +kernel
theorem dX7_pass_43 : decode cX7_pass 43 = .ok (.invokevirtual 113, 3) := by decide +kernel
theorem dX7_pass_46 : decode cX7_pass 46 = .ok (.iinc 2 1, 3) := by decide +kernel
theorem dX7_pass_49 : decode cX7_pass 49 = .ok (.goto (-19), 3) := by decide +kernel
theorem dX7_pass_52 : decode cX7_pass 52 = .ok (.aload_n 0, 1) := by decide +kernel
theorem dX7_pass_53 : decode cX7_pass 53 = .ok (.invokevirtual 116, 3) := by decide +kernel
theorem dX7_pass_56 : decode cX7_pass 56 = .ok (.istore_n 2, 1) := by decide +kernel
theorem dX7_pass_57 : decode cX7_pass 57 = .ok (.aload_n 0, 1) := by decide +kernel
theorem dX7_pass_58 : decode cX7_pass 58 = .ok (.invokevirtual 119, 3) := by decide +kernel
theorem dX7_pass_61 : decode cX7_pass 61 = .ok (.iload_n 2, 1) := by decide +kernel
theorem dX7_pass_62 : decode cX7_pass 62 = .ok (.ireturn, 1) := by decide +kernel
theorem dX7_areNumbers_0 : decode cX7_areNumbers 0 = .ok (.iload_n 0, 1) := by decide +kernel
theorem dX7_areNumbers_1 : decode cX7_areNumbers 1 = .ok (.iconst 1, 1) := by decide +kernel
theorem dX7_areNumbers_2 : decode cX7_areNumbers 2 = .ok (.bipush 9, 2) := by decide +kernel
theorem dX7_areNumbers_4 : decode cX7_areNumbers 4 = .ok (.invokestatic 52, 3) := by decide +kernel
theorem dX7_areNumbers_7 : decode cX7_areNumbers 7 = .ok (.ifCond .eq 29, 3) := by decide +kernel
theorem dX7_areNumbers_10 : decode cX7_areNumbers 10 = .ok (.iload_n 1, 1) := by decide +kernel
theorem dX7_areNumbers_11 : decode cX7_areNumbers 11 = .ok (.sipush (-200), 3) := by decide +kernel
theorem dX7_areNumbers_14 : decode cX7_areNumbers 14 = .ok (.sipush 200, 3) := by decide +kernel
theorem dX7_areNumbers_17 : decode cX7_areNumbers 17 = .ok (.invokestatic 52, 3) := by decide +kernel
theorem dX7_areNumbers_20 : decode cX7_areNumbers 20 = .ok (.ifCond .eq 16, 3) := by decide +kernel
theorem dX7_areNumbers_23 : decode cX7_areNumbers 23 = .ok (.iload_n 2, 1) := by decide +kernel
theorem dX7_areNumbers_24 : decode cX7_areNumbers 24 = .ok (.iconst 1, 1) := by decide +kernel
theorem dX7_areNumbers_25 : decode cX7_areNumbers 25 = .ok (.iconst 5, 1) := by decide +kernel
theorem dX7_areNumbers_26 : decode cX7_areNumbers 26 = .ok (.invokestatic 52, 3) := by decide +kernel
theorem dX7_areNumbers_29 : decode cX7_areNumbers 29 = .ok (.ifCond .eq 7, 3) := by decide +kernel
theorem dX7_areNumbers_32 : decode cX7_areNumbers 32 = .ok (.iconst 1, 1) := by decide +kernel
theorem dX7_areNumbers_33 : decode cX7_areNumbers 33 = .ok (.goto 4, 3) := by decide +kernel
theorem dX7_areNumbers_36 : decode cX7_areNumbers 36 = .ok (.iconst 0, 1) := by decide +kernel
theorem dX7_areNumbers_37 : decode cX7_areNumbers 37 = .ok (.ireturn, 1) := by decide +kernel
theorem dX7_add_0 : decode cX7_add 0 = .ok (.aload_n 0, 1) := by decide +kernel
theorem dX7_add_1 : decode cX7_add 1 = .ok (.getfield 7, 3) := by decide +kernel
theorem dX7_add_4 : decode cX7_add 4 = .ok (.bipush 15, 2) := by decide +kernel
theorem dX7_add_6 : decode cX7_add 6 = .ok (.iaload, 1) := by decide +kernel
theorem dX7_add_7 : decode cX7_add 7 = .ok (.istore 5, 2) := by decide +kernel
theorem dX7_add_9 : decode cX7_add 9 = .ok (.iconst 0, 1) := by decide +kernel
theorem dX7_add_10 : decode cX7_add 10 = .ok (.istore 6, 2) := by decide +kernel
theorem dX7_add_12 : decode cX7_add 12 = .ok (.iload 6, 2) := by decide +kernel
theorem dX7_add_14 : decode cX7_add 14 = .ok (.bipush 21, 2) := by decide +kernel
theorem dX7_add_16 : decode cX7_add 16 = .ok (.if_icmp .ge 18, 3) := by decide +kernel
theorem dX7_add_19 : decode cX7_add 19 = .ok (.aload_n 0, 1) := by decide +kernel
theorem dX7_add_20 : decode cX7_add 20 = .ok (.iload 5, 2) := by decide +kernel
theorem dX7_add_22 : decode cX7_add 22 = .ok (.iload 6, 2) := by decide +kernel
theorem dX7_add_24 : decode cX7_add 24 = .ok (.iconst 0, 1) := by decide +kernel
theorem dX7_add_25 : decode cX7_add 25 = .ok (.invokevirtual 94, 3) := by decide +kernel
theorem dX7_add_28 : decode cX7_add 28 = .ok (.iinc 6 1, 3) := by decide +kernel
theorem dX7_add_31 : decode cX7_add 31 = .ok (.goto (-19), 3) := by decide +kernel
theorem dX7_add_34 : decode cX7_add 34 = .ok (.aload_n 0, 1) := by decide +kernel
theorem dX7_add_35 : decode cX7_add 35 = .ok (.iload 5, 2) := by decide +kernel
theorem dX7_add_37 : decode cX7_add 37 = .ok (.iconst 0, 1) := by decide +kernel
theorem dX7_add_38 : decode cX7_add 38 = .ok (.iload_n 1, 1) := by decide +kernel
theorem dX7_add_39 : decode cX7_add 39 = .ok (.invokevirtual 94, 3) := by decide +kernel
theorem dX7_add_42 : decode cX7_add 42 = .ok (.aload_n 0, 1) := by decide +kernel
theorem dX7_add_43 : decode cX7_add 43 = .ok (.iload 5, 2) := by decide +kernel
theorem dX7_add_45 : decode cX7_add 45 = .ok (.iconst 1, 1) := by decide +kernel
theorem dX7_add_46 : decode cX7_add 46 = .ok (.iload_n 2, 1) := by decide +kernel
theorem dX7_add_47 : decode cX7_add 47 = .ok (.invokevirtual 94, 3) := by decide +kernel
theorem dX7_add_50 : decode cX7_add 50 = .ok (.aload_n 0, 1) := by decide +kernel
theorem dX7_add_51 : decode cX7_add 51 = .ok (.iload 5, 2) := by decide +kernel
theorem dX7_add_53 : decode cX7_add 53 = .ok (.iconst 2, 1) := by decide +kernel
theorem dX7_add_54 : decode cX7_add 54 = .ok (.iload_n 3, 1) := by decide +kernel
theorem dX7_add_55 : decode cX7_add 55 = .ok (.invokevirtual 94, 3) := by decide +kernel
theorem dX7_add_58 : decode cX7_add 58 = .ok (.aload_n 0, 1) := by decide +kernel
theorem dX7_add_59 : decode cX7_add 59 = .ok (.iload 5, 2) := by decide +kernel
theorem dX7_add_61 : decode cX7_add 61 = .ok (.iconst 3, 1) := by decide +kernel
theorem dX7_add_62 : decode cX7_add 62 = .ok (.iload 4, 2) := by decide +kernel
theorem dX7_add_64 : decode cX7_add 64 = .ok (.invokevirtual 94, 3) := by decide +kernel
theorem dX7_add_67 : decode cX7_add 67 = .ok (.aload_n 0, 1) := by decide +kernel
theorem dX7_add_68 : decode cX7_add 68 = .ok (.iload 5, 2) := by decide +kernel
theorem dX7_add_70 : decode cX7_add 70 = .ok (.iconst 4, 1) := by decide +kernel
theorem dX7_add_71 : decode cX7_add 71 = .ok (.aload_n 0, 1) := by decide +kernel
theorem dX7_add_72 : decode cX7_add 72 = .ok (.getfield 7, 3) := by decide +kernel
theorem dX7_add_75 : decode cX7_add 75 = .ok (.iconst 1, 1) := by decide +kernel
theorem dX7_add_76 : decode cX7_add 76 = .ok (.iaload, 1) := by decide +kernel
theorem dX7_add_77 : decode cX7_add 77 = .ok (.iload_n 3, 1) := by decide +kernel
theorem dX7_add_78 : decode cX7_add 78 = .ok (.iadd, 1) := by decide +kernel
theorem dX7_add_79 : decode cX7_add 79 = .ok (.invokevirtual 94, 3) := by decide +kernel
theorem dX7_add_82 : decode cX7_add 82 = .ok (.aload_n 0, 1) := by decide +kernel
theorem dX7_add_83 : decode cX7_add 83 = .ok (.getfield 7, 3) := by decide +kernel
theorem dX7_add_86 : decode cX7_add 86 = .ok (.bipush 15, 2) := by decide +kernel
theorem dX7_add_88 : decode cX7_add 88 = .ok (.dup2, 1) := by decide +kernel
theorem dX7_add_89 : decode cX7_add 89 = .ok (.iaload, 1) := by decide +kernel
theorem dX7_add_90 : decode cX7_add 90 = .ok (.iconst 1, 1) := by decide +kernel
theorem dX7_add_91 : decode cX7_add 91 = .ok (.iadd, 1) := by decide +kernel
theorem dX7_add_92 : decode cX7_add 92 = .ok (.iastore, 1) := by decide +kernel
theorem dX7_add_93 : decode cX7_add 93 = .ok (.iload 5, 2) := by decide +kernel
theorem dX7_add_95 : decode cX7_add 95 = .ok (.ireturn, 1) := by decide +kernel
theorem dX7_thermometer_0 : decode cX7_thermometer 0 = .ok (.aload_n 0, 1) := by decide +kernel
theorem dX7_thermometer_1 : decode cX7_thermometer 1 = .ok (.iconst 0, 1) := by decide +kernel
theorem dX7_thermometer_2 : decode cX7_thermometer 2 = .ok (.putfield 48, 3) := by decide +kernel
theorem dX7_thermometer_5 : decode cX7_thermometer 5 = .ok (.iload_n 1, 1) := by decide +kernel
theorem dX7_thermometer_6 : decode cX7_thermometer 6 = .ok (.invokestatic 122, 3) := by decide +kernel
theorem dX7_thermometer_9 : decode cX7_thermometer 9 = .ok (.ifCond .ne 9, 3) := by decide +kernel
theorem dX7_thermometer_12 : decode cX7_thermometer 12 = .ok (.aload_n 0, 1) := by decide +kernel
theorem dX7_thermometer_13 : decode cX7_thermometer 13 = .ok (.iconst 1, 1) := by decide +kernel
theorem dX7_thermometer_14 : decode cX7_thermometer 14 = .ok (.invokevirtual 59, 3) := by decide +kernel
theorem dX7_thermometer_17 : decode cX7_thermometer 17 = .ok (.ireturn, 1) := by decide +kernel
theorem dX7_thermometer_18 : decode cX7_thermometer 18 = .ok (.iload_n 2, 1) := by decide +kernel
theorem dX7_thermometer_19 : decode cX7_thermometer 19 = .ok (.iload_n 3, 1) := by decide +kernel
theorem dX7_thermometer_20 : decode cX7_thermometer 20 = .ok (.iload 4, 2) := by decide +kernel
theorem dX7_thermometer_22 : decode cX7_thermometer 22 = .ok (.invokestatic 125, 3) := by decide +kernel
theorem dX7_thermometer_25 : decode cX7_thermometer 25 = .ok (.ifCond .ne 9, 3) := by decide +kernel
theorem dX7_thermometer_28 : decode cX7_thermometer 28 = .ok (.aload_n 0, 1) := by decide +kernel
theorem dX7_thermometer_29 : decode cX7_thermometer 29 = .ok (.iconst 2, 1) := by decide +kernel
theorem dX7_thermometer_30 : decode cX7_thermometer 30 = .ok (.invokevirtual 59, 3) := by decide +kernel
theorem dX7_thermometer_33 : decode cX7_thermometer 33 = .ok (.ireturn, 1) := by decide +kernel
theorem dX7_thermometer_34 : decode cX7_thermometer 34 = .ok (.aload_n 0, 1) := by decide +kernel
theorem dX7_thermometer_35 : decode cX7_thermometer 35 = .ok (.getfield 7, 3) := by decide +kernel
theorem dX7_thermometer_38 : decode cX7_thermometer 38 = .ok (.bipush 15, 2) := by decide +kernel
theorem dX7_thermometer_40 : decode cX7_thermometer 40 = .ok (.iaload, 1) := by decide +kernel
theorem dX7_thermometer_41 : decode cX7_thermometer 41 = .ok (.bipush 10, 2) := by decide +kernel
theorem dX7_thermometer_43 : decode cX7_thermometer 43 = .ok (.if_icmp .ne 9, 3) := by decide +kernel
theorem dX7_thermometer_46 : decode cX7_thermometer 46 = .ok (.aload_n 0, 1) := by decide +kernel
theorem dX7_thermometer_47 : decode cX7_thermometer 47 = .ok (.iconst 3, 1) := by decide +kernel
theorem dX7_thermometer_48 : decode cX7_thermometer 48 = .ok (.invokevirtual 59, 3) := by decide +kernel
theorem dX7_thermometer_51 : decode cX7_thermometer 51 = .ok (.ireturn, 1) := by decide +kernel
theorem dX7_thermometer_52 : decode cX7_thermometer 52 = .ok (.aload_n 0, 1) := by decide +kernel
theorem dX7_thermometer_53 : decode cX7_thermometer 53 = .ok (.invokevirtual 63, 3) := by decide +kernel
theorem dX7_thermometer_56 : decode cX7_thermometer 56 = .ok (.aload_n 0, 1) := by decide +kernel
theorem dX7_thermometer_57 : decode cX7_thermometer 57 = .ok (.iload_n 1, 1) := by decide +kernel
theorem dX7_thermometer_58 : decode cX7_thermometer 58 = .ok (.iload_n 2, 1) := by decide +kernel
theorem dX7_thermometer_59 : decode cX7_thermometer 59 = .ok (.iload_n 3, 1) := by decide +kernel
theorem dX7_thermometer_60 : decode cX7_thermometer 60 = .ok (.iload 4, 2) := by decide +kernel
theorem dX7_thermometer_62 : decode cX7_thermometer 62 = .ok (.invokevirtual 128, 3) := by decide +kernel
theorem dX7_thermometer_65 : decode cX7_thermometer 65 = .ok (.ireturn, 1) := by decide +kernel
theorem dX7_isTemperature_0 : decode cX7_isTemperature 0 = .ok (.iload_n 0, 1) := by decide +kernel
theorem dX7_isTemperature_1 : decode cX7_isTemperature 1 = .ok (.sipush (-5000), 3) := by decide +kernel
theorem dX7_isTemperature_4 : decode cX7_isTemperature 4 = .ok (.sipush 5000, 3) := by decide +kernel
theorem dX7_isTemperature_7 : decode cX7_isTemperature 7 = .ok (.invokestatic 52, 3) := by decide +kernel
theorem dX7_isTemperature_10 : decode cX7_isTemperature 10 = .ok (.ireturn, 1) := by decide +kernel
theorem dX7_hour_0 : decode cX7_hour 0 = .ok (.aload_n 0, 1) := by decide +kernel
theorem dX7_hour_1 : decode cX7_hour 1 = .ok (.iconst 0, 1) := by decide +kernel
theorem dX7_hour_2 : decode cX7_hour 2 = .ok (.putfield 48, 3) := by decide +kernel
theorem dX7_hour_5 : decode cX7_hour 5 = .ok (.iload_n 1, 1) := by decide +kernel
theorem dX7_hour_6 : decode cX7_hour 6 = .ok (.invokestatic 132, 3) := by decide +kernel
theorem dX7_hour_9 : decode cX7_hour 9 = .ok (.ifCond .ne 9, 3) := by decide +kernel
theorem dX7_hour_12 : decode cX7_hour 12 = .ok (.aload_n 0, 1) := by decide +kernel
theorem dX7_hour_13 : decode cX7_hour 13 = .ok (.iconst 1, 1) := by decide +kernel
theorem dX7_hour_14 : decode cX7_hour 14 = .ok (.invokevirtual 59, 3) := by decide +kernel
theorem dX7_hour_17 : decode cX7_hour 17 = .ok (.ireturn, 1) := by decide +kernel
theorem dX7_hour_18 : decode cX7_hour 18 = .ok (.aload_n 0, 1) := by decide +kernel
theorem dX7_hour_19 : decode cX7_hour 19 = .ok (.getfield 7, 3) := by decide +kernel
theorem dX7_hour_22 : decode cX7_hour 22 = .ok (.iconst 0, 1) := by decide +kernel
theorem dX7_hour_23 : decode cX7_hour 23 = .ok (.iaload, 1) := by decide +kernel
theorem dX7_hour_24 : decode cX7_hour 24 = .ok (.sipush 9999, 3) := by decide +kernel
theorem dX7_hour_27 : decode cX7_hour 27 = .ok (.if_icmp .ne 9, 3) := by decide +kernel
theorem dX7_hour_30 : decode cX7_hour 30 = .ok (.aload_n 0, 1) := by decide +kernel
theorem dX7_hour_31 : decode cX7_hour 31 = .ok (.iconst 2, 1) := by decide +kernel
theorem dX7_hour_32 : decode cX7_hour 32 = .ok (.invokevirtual 59, 3) := by decide +kernel
theorem dX7_hour_35 : decode cX7_hour 35 = .ok (.ireturn, 1) := by decide +kernel
theorem dX7_hour_36 : decode cX7_hour 36 = .ok (.aload_n 0, 1) := by decide +kernel
theorem dX7_hour_37 : decode cX7_hour 37 = .ok (.invokevirtual 63, 3) := by decide +kernel
theorem dX7_hour_40 : decode cX7_hour 40 = .ok (.aload_n 0, 1) := by decide +kernel
theorem dX7_hour_41 : decode cX7_hour 41 = .ok (.iload_n 1, 1) := by decide +kernel
theorem dX7_hour_42 : decode cX7_hour 42 = .ok (.invokevirtual 135, 3) := by decide +kernel
theorem dX7_hour_45 : decode cX7_hour 45 = .ok (.ireturn, 1) := by decide +kernel
theorem dX7_hours_0 : decode cX7_hours 0 = .ok (.aload_n 0, 1) := by decide +kernel
theorem dX7_hours_1 : decode cX7_hours 1 = .ok (.iconst 0, 1) := by decide +kernel
theorem dX7_hours_2 : decode cX7_hours 2 = .ok (.putfield 48, 3) := by decide +kernel
theorem dX7_hours_5 : decode cX7_hours 5 = .ok (.iload_n 1, 1) := by decide +kernel
theorem dX7_hours_6 : decode cX7_hours 6 = .ok (.iconst 1, 1) := by decide +kernel
theorem dX7_hours_7 : decode cX7_hours 7 = .ok (.bipush 24, 2) := by decide +kernel
theorem dX7_hours_9 : decode cX7_hours 9 = .ok (.invokestatic 52, 3) := by decide +kernel
theorem dX7_hours_12 : decode cX7_hours 12 = .ok (.ifCond .eq 16, 3) := by decide +kernel
theorem dX7_hours_15 : decode cX7_hours 15 = .ok (.iload_n 2, 1) := by decide +kernel
theorem dX7_hours_16 : decode cX7_hours 16 = .ok (.sipush (-500), 3) := by decide +kernel
theorem dX7_hours_19 : decode cX7_hours 19 = .ok (.sipush 500, 3) := by decide +kernel
theorem dX7_hours_22 : decode cX7_hours 22 = .ok (.invokestatic 52, 3) := by decide +kernel
theorem dX7_hours_25 : decode cX7_hours 25 = .ok (.ifCond .ne 9, 3) := by decide +kernel
theorem dX7_hours_28 : decode cX7_hours 28 = .ok (.aload_n 0, 1) := by decide +kernel
theorem dX7_hours_29 : decode cX7_hours 29 = .ok (.iconst 1, 1) := by decide +kernel
theorem dX7_hours_30 : decode cX7_hours 30 = .ok (.invokevirtual 59, 3) := by decide +kernel
theorem dX7_hours_33 : decode cX7_hours 33 = .ok (.ireturn, 1) := by decide +kernel
theorem dX7_hours_34 : decode cX7_hours 34 = .ok (.aload_n 0, 1) := by decide +kernel
theorem dX7_hours_35 : decode cX7_hours 35 = .ok (.getfield 7, 3) := by decide +kernel
theorem dX7_hours_38 : decode cX7_hours 38 = .ok (.iconst 0, 1) := by decide +kernel
theorem dX7_hours_39 : decode cX7_hours 39 = .ok (.iaload, 1) := by decide +kernel
theorem dX7_hours_40 : decode cX7_hours 40 = .ok (.iload_n 1, 1) := by decide +kernel
theorem dX7_hours_41 : decode cX7_hours 41 = .ok (.iadd, 1) := by decide +kernel
theorem dX7_hours_42 : decode cX7_hours 42 = .ok (.sipush 9999, 3) := by decide +kernel
theorem dX7_hours_45 : decode cX7_hours 45 = .ok (.if_icmp .le 9, 3) := by decide +kernel
theorem dX7_hours_48 : decode cX7_hours 48 = .ok (.aload_n 0, 1) := by decide +kernel
theorem dX7_hours_49 : decode cX7_hours 49 = .ok (.iconst 2, 1) := by decide +kernel
theorem dX7_hours_50 : decode cX7_hours 50 = .ok (.invokevirtual 59, 3) := by decide +kernel
theorem dX7_hours_53 : decode cX7_hours 53 = .ok (.ireturn, 1) := by decide +kernel
theorem dX7_hours_54 : decode cX7_hours 54 = .ok (.aload_n 0, 1) := by decide +kernel
theorem dX7_hours_55 : decode cX7_hours 55 = .ok (.invokevirtual 63, 3) := by decide +kernel
theorem dX7_hours_58 : decode cX7_hours 58 = .ok (.iconst 0, 1) := by decide +kernel
theorem dX7_hours_59 : decode cX7_hours 59 = .ok (.istore_n 3, 1) := by decide +kernel
theorem dX7_hours_60 : decode cX7_hours 60 = .ok (.iload_n 3, 1) := by decide +kernel
theorem dX7_hours_61 : decode cX7_hours 61 = .ok (.iload_n 1, 1) := by decide +kernel
theorem dX7_hours_62 : decode cX7_hours 62 = .ok (.if_icmp .ge 55, 3) := by decide +kernel
theorem dX7_hours_65 : decode cX7_hours 65 = .ok (.aload_n 0, 1) := by decide +kernel
theorem dX7_hours_66 : decode cX7_hours 66 = .ok (.getfield 7, 3) := by decide +kernel
theorem dX7_hours_69 : decode cX7_hours 69 = .ok (.iconst 1, 1) := by decide +kernel
theorem dX7_hours_70 : decode cX7_hours 70 = .ok (.iaload, 1) := by decide +kernel
theorem dX7_hours_71 : decode cX7_hours 71 = .ok (.iload_n 2, 1) := by decide +kernel
theorem dX7_hours_72 : decode cX7_hours 72 = .ok (.iadd, 1) := by decide +kernel
theorem dX7_hours_73 : decode cX7_hours 73 = .ok (.istore 4, 2) := by decide +kernel
theorem dX7_hours_75 : decode cX7_hours 75 = .ok (.aload_n 0, 1) := by decide +kernel
theorem dX7_hours_76 : decode cX7_hours 76 = .ok (.iload 4, 2) := by decide +kernel
theorem dX7_hours_78 : decode cX7_hours 78 = .ok (.sipush (-5000), 3) := by decide +kernel
theorem dX7_hours_81 : decode cX7_hours 81 = .ok (.if_icmp .ge 9, 3) := by decide +kernel
theorem dX7_hours_84 : decode cX7_hours 84 = .ok (.sipush (-5000), 3) := by decide +kernel
theorem dX7_hours_87 : decode cX7_hours 87 = .ok (.goto 19, 3) := by decide +kernel
theorem dX7_hours_90 : decode cX7_hours 90 = .ok (.iload 4, 2) := by decide +kernel
theorem dX7_hours_92 : decode cX7_hours 92 = .ok (.sipush 5000, 3) := by decide +kernel
theorem dX7_hours_95 : decode cX7_hours 95 = .ok (.if_icmp .le 9, 3) := by decide +kernel
theorem dX7_hours_98 : decode cX7_hours 98 = .ok (.sipush 5000, 3) := by decide +kernel
theorem dX7_hours_101 : decode cX7_hours 101 = .ok (.goto 5, 3) := by decide +kernel
theorem dX7_hours_104 : decode cX7_hours 104 = .ok (.iload 4, 2) := by decide +kernel
theorem dX7_hours_106 : decode cX7_hours 106 = .ok (.invokevirtual 135, 3) := by decide +kernel
theorem dX7_hours_109 : decode cX7_hours 109 = .ok (.istore 5, 2) := by decide +kernel
theorem dX7_hours_111 : decode cX7_hours 111 = .ok (.iinc 3 1, 3) := by decide +kernel
theorem dX7_hours_114 : decode cX7_hours 114 = .ok (.goto (-54), 3) := by decide +kernel
theorem dX7_hours_117 : decode cX7_hours 117 = .ok (.aload_n 0, 1) := by decide +kernel
theorem dX7_hours_118 : decode cX7_hours 118 = .ok (.getfield 7, 3) := by decide +kernel
theorem dX7_hours_121 : decode cX7_hours 121 = .ok (.iconst 1, 1) := by decide +kernel
theorem dX7_hours_122 : decode cX7_hours 122 = .ok (.iaload, 1) := by decide +kernel
theorem dX7_hours_123 : decode cX7_hours 123 = .ok (.ireturn, 1) := by decide +kernel
theorem dX7_periodNow_0 : decode cX7_periodNow 0 = .ok (.aload_n 0, 1) := by decide +kernel
theorem dX7_periodNow_1 : decode cX7_periodNow 1 = .ok (.getfield 7, 3) := by decide +kernel
theorem dX7_periodNow_4 : decode cX7_periodNow 4 = .ok (.iconst 4, 1) := by decide +kernel
theorem dX7_periodNow_5 : decode cX7_periodNow 5 = .ok (.iload_n 1, 1) := by decide +kernel
theorem dX7_periodNow_6 : decode cX7_periodNow 6 = .ok (.iadd, 1) := by decide +kernel
theorem dX7_periodNow_7 : decode cX7_periodNow 7 = .ok (.iaload, 1) := by decide +kernel
theorem dX7_periodNow_8 : decode cX7_periodNow 8 = .ok (.istore_n 3, 1) := by decide +kernel
theorem dX7_periodNow_9 : decode cX7_periodNow 9 = .ok (.aload_n 0, 1) := by decide +kernel
theorem dX7_periodNow_10 : decode cX7_periodNow 10 = .ok (.getfield 7, 3) := by decide +kernel
theorem dX7_periodNow_13 : decode cX7_periodNow 13 = .ok (.iconst 4, 1) := by decide +kernel
theorem dX7_periodNow_14 : decode cX7_periodNow 14 = .ok (.iload_n 1, 1) := by decide +kernel
theorem dX7_periodNow_15 : decode cX7_periodNow 15 = .ok (.iadd, 1) := by decide +kernel
theorem dX7_periodNow_16 : decode cX7_periodNow 16 = .ok (.iload_n 2, 1) := by decide +kernel
theorem dX7_periodNow_17 : decode cX7_periodNow 17 = .ok (.iastore, 1) := by decide +kernel
theorem dX7_periodNow_18 : decode cX7_periodNow 18 = .ok (.iload_n 3, 1) := by decide +kernel
theorem dX7_periodNow_19 : decode cX7_periodNow 19 = .ok (.ireturn, 1) := by decide +kernel
theorem dX7_period_0 : decode cX7_period 0 = .ok (.aload_n 0, 1) := by decide +kernel
theorem dX7_period_1 : decode cX7_period 1 = .ok (.iconst 0, 1) := by decide +kernel
theorem dX7_period_2 : decode cX7_period 2 = .ok (.putfield 48, 3) := by decide +kernel
theorem dX7_period_5 : decode cX7_period 5 = .ok (.iload_n 1, 1) := by decide +kernel
theorem dX7_period_6 : decode cX7_period 6 = .ok (.invokestatic 122, 3) := by decide +kernel
theorem dX7_period_9 : decode cX7_period 9 = .ok (.ifCond .ne 9, 3) := by decide +kernel
theorem dX7_period_12 : decode cX7_period 12 = .ok (.aload_n 0, 1) := by decide +kernel
theorem dX7_period_13 : decode cX7_period 13 = .ok (.iconst 1, 1) := by decide +kernel
theorem dX7_period_14 : decode cX7_period 14 = .ok (.invokevirtual 59, 3) := by decide +kernel
theorem dX7_period_17 : decode cX7_period 17 = .ok (.ireturn, 1) := by decide +kernel
theorem dX7_period_18 : decode cX7_period 18 = .ok (.iload_n 2, 1) := by decide +kernel
theorem dX7_period_19 : decode cX7_period 19 = .ok (.iconst 1, 1) := by decide +kernel
theorem dX7_period_20 : decode cX7_period 20 = .ok (.bipush 6, 2) := by decide +kernel
theorem dX7_period_22 : decode cX7_period 22 = .ok (.invokestatic 52, 3) := by decide +kernel
theorem dX7_period_25 : decode cX7_period 25 = .ok (.ifCond .ne 9, 3) := by decide +kernel
theorem dX7_period_28 : decode cX7_period 28 = .ok (.aload_n 0, 1) := by decide +kernel
theorem dX7_period_29 : decode cX7_period 29 = .ok (.iconst 2, 1) := by decide +kernel
theorem dX7_period_30 : decode cX7_period 30 = .ok (.invokevirtual 59, 3) := by decide +kernel
theorem dX7_period_33 : decode cX7_period 33 = .ok (.ireturn, 1) := by decide +kernel
theorem dX7_period_34 : decode cX7_period 34 = .ok (.aload_n 0, 1) := by decide +kernel
theorem dX7_period_35 : decode cX7_period 35 = .ok (.invokevirtual 63, 3) := by decide +kernel
theorem dX7_period_38 : decode cX7_period 38 = .ok (.aload_n 0, 1) := by decide +kernel
theorem dX7_period_39 : decode cX7_period 39 = .ok (.iload_n 1, 1) := by decide +kernel
theorem dX7_period_40 : decode cX7_period 40 = .ok (.iload_n 2, 1) := by decide +kernel
theorem dX7_period_41 : decode cX7_period 41 = .ok (.invokevirtual 138, 3) := by decide +kernel
theorem dX7_period_44 : decode cX7_period 44 = .ok (.ireturn, 1) := by decide +kernel
theorem dX7_calibrateNow_0 : decode cX7_calibrateNow 0 = .ok (.aload_n 0, 1) := by decide +kernel
theorem dX7_calibrateNow_1 : decode cX7_calibrateNow 1 = .ok (.iload_n 1, 1) := by decide +kernel
theorem dX7_calibrateNow_2 : decode cX7_calibrateNow 2 = .ok (.iconst 5, 1) := by decide +kernel
theorem dX7_calibrateNow_3 : decode cX7_calibrateNow 3 = .ok (.invokevirtual 66, 3) := by decide +kernel
theorem dX7_calibrateNow_6 : decode cX7_calibrateNow 6 = .ok (.istore_n 2, 1) := by decide +kernel
theorem dX7_calibrateNow_7 : decode cX7_calibrateNow 7 = .ok (.aload_n 0, 1) := by decide +kernel
theorem dX7_calibrateNow_8 : decode cX7_calibrateNow 8 = .ok (.iload_n 1, 1) := by decide +kernel
theorem dX7_calibrateNow_9 : decode cX7_calibrateNow 9 = .ok (.iconst 4, 1) := by decide +kernel
theorem dX7_calibrateNow_10 : decode cX7_calibrateNow 10 = .ok (.aload_n 0, 1) := by decide +kernel
theorem dX7_calibrateNow_11 : decode cX7_calibrateNow 11 = .ok (.getfield 7, 3) := by decide +kernel
theorem dX7_calibrateNow_14 : decode cX7_calibrateNow 14 = .ok (.iconst 1, 1) := by decide +kernel
theorem dX7_calibrateNow_15 : decode cX7_calibrateNow 15 = .ok (.iaload, 1) := by decide +kernel
theorem dX7_calibrateNow_16 : decode cX7_calibrateNow 16 = .ok (.aload_n 0, 1) := by decide +kernel
theorem dX7_calibrateNow_17 : decode cX7_calibrateNow 17 = .ok (.iload_n 1, 1) := by decide +kernel
theorem dX7_calibrateNow_18 : decode cX7_calibrateNow 18 = .ok (.iconst 2, 1) := by decide +kernel
theorem dX7_calibrateNow_19 : decode cX7_calibrateNow 19 = .ok (.invokevirtual 66, 3) := by decide +kernel
theorem dX7_calibrateNow_22 : decode cX7_calibrateNow 22 = .ok (.iadd, 1) := by decide +kernel
theorem dX7_calibrateNow_23 : decode cX7_calibrateNow 23 = .ok (.invokevirtual 94, 3) := by decide +kernel
theorem dX7_calibrateNow_26 : decode cX7_calibrateNow 26 = .ok (.aload_n 0, 1) := by decide +kernel
theorem dX7_calibrateNow_27 : decode cX7_calibrateNow 27 = .ok (.iload_n 1, 1) := by decide +kernel
theorem dX7_calibrateNow_28 : decode cX7_calibrateNow 28 = .ok (.iconst 5, 1) := by decide +kernel
theorem dX7_calibrateNow_29 : decode cX7_calibrateNow 29 = .ok (.iconst 0, 1) := by decide +kernel
theorem dX7_calibrateNow_30 : decode cX7_calibrateNow 30 = .ok (.invokevirtual 94, 3) := by decide +kernel
theorem dX7_calibrateNow_33 : decode cX7_calibrateNow 33 = .ok (.aload_n 0, 1) := by decide +kernel
theorem dX7_calibrateNow_34 : decode cX7_calibrateNow 34 = .ok (.iload_n 1, 1) := by decide +kernel
theorem dX7_calibrateNow_35 : decode cX7_calibrateNow 35 = .ok (.bipush 6, 2) := by decide +kernel
theorem dX7_calibrateNow_37 : decode cX7_calibrateNow 37 = .ok (.iconst 0, 1) := by decide +kernel
theorem dX7_calibrateNow_38 : decode cX7_calibrateNow 38 = .ok (.invokevirtual 94, 3) := by decide +kernel
theorem dX7_calibrateNow_41 : decode cX7_calibrateNow 41 = .ok (.aload_n 0, 1) := by decide +kernel
theorem dX7_calibrateNow_42 : decode cX7_calibrateNow 42 = .ok (.iload_n 1, 1) := by decide +kernel
theorem dX7_calibrateNow_43 : decode cX7_calibrateNow 43 = .ok (.bipush 7, 2) := by decide +kernel
theorem dX7_calibrateNow_45 : decode cX7_calibrateNow 45 = .ok (.iconst 0, 1) := by decide +kernel
theorem dX7_calibrateNow_46 : decode cX7_calibrateNow 46 = .ok (.invokevirtual 94, 3) := by decide +kernel
theorem dX7_calibrateNow_49 : decode cX7_calibrateNow 49 = .ok (.iconst 0, 1) := by decide +kernel
theorem dX7_calibrateNow_50 : decode cX7_calibrateNow 50 = .ok (.istore_n 3, 1) := by decide +kernel
theorem dX7_calibrateNow_51 : decode cX7_calibrateNow 51 = .ok (.iload_n 3, 1) := by decide +kernel
theorem dX7_calibrateNow_52 : decode cX7_calibrateNow 52 = .ok (.bipush 12, 2) := by decide +kernel
theorem dX7_calibrateNow_54 : decode cX7_calibrateNow 54 = .ok (.if_icmp .ge 19, 3) := by decide +kernel
theorem dX7_calibrateNow_57 : decode cX7_calibrateNow 57 = .ok (.aload_n 0, 1) := by decide +kernel
theorem dX7_calibrateNow_58 : decode cX7_calibrateNow 58 = .ok (.iload_n 1, 1) := by decide +kernel
theorem dX7_calibrateNow_59 : decode cX7_calibrateNow 59 = .ok (.bipush 9, 2) := by decide +kernel
theorem dX7_calibrateNow_61 : decode cX7_calibrateNow 61 = .ok (.iload_n 3, 1) := by decide +kernel
theorem dX7_calibrateNow_62 : decode cX7_calibrateNow 62 = .ok (.iadd, 1) := by decide +kernel
theorem dX7_calibrateNow_63 : decode cX7_calibrateNow 63 = .ok (.iconst 0, 1) := by decide +kernel
theorem dX7_calibrateNow_64 : decode cX7_calibrateNow 64 = .ok (.invokevirtual 94, 3) := by decide +kernel
theorem dX7_calibrateNow_67 : decode cX7_calibrateNow 67 = .ok (.iinc 3 1, 3) := by decide +kernel
theorem dX7_calibrateNow_70 : decode cX7_calibrateNow 70 = .ok (.goto (-19), 3) := by decide +kernel
theorem dX7_calibrateNow_73 : decode cX7_calibrateNow 73 = .ok (.iload_n 2, 1) := by decide +kernel
theorem dX7_calibrateNow_74 : decode cX7_calibrateNow 74 = .ok (.ireturn, 1) := by decide +kernel
theorem dX7_calibrate_0 : decode cX7_calibrate 0 = .ok (.aload_n 0, 1) := by decide +kernel
theorem dX7_calibrate_1 : decode cX7_calibrate 1 = .ok (.iconst 0, 1) := by decide +kernel
theorem dX7_calibrate_2 : decode cX7_calibrate 2 = .ok (.putfield 48, 3) := by decide +kernel
theorem dX7_calibrate_5 : decode cX7_calibrate 5 = .ok (.aload_n 0, 1) := by decide +kernel
theorem dX7_calibrate_6 : decode cX7_calibrate 6 = .ok (.iload_n 1, 1) := by decide +kernel
theorem dX7_calibrate_7 : decode cX7_calibrate 7 = .ok (.invokevirtual 141, 3) := by decide +kernel
theorem dX7_calibrate_10 : decode cX7_calibrate 10 = .ok (.ifCond .ne 9, 3) := by decide +kernel
theorem dX7_calibrate_13 : decode cX7_calibrate 13 = .ok (.aload_n 0, 1) := by decide +kernel
theorem dX7_calibrate_14 : decode cX7_calibrate 14 = .ok (.iconst 1, 1) := by decide +kernel
theorem dX7_calibrate_15 : decode cX7_calibrate 15 = .ok (.invokevirtual 59, 3) := by decide +kernel
theorem dX7_calibrate_18 : decode cX7_calibrate 18 = .ok (.ireturn, 1) := by decide +kernel
theorem dX7_calibrate_19 : decode cX7_calibrate 19 = .ok (.aload_n 0, 1) := by decide +kernel
theorem dX7_calibrate_20 : decode cX7_calibrate 20 = .ok (.invokevirtual 63, 3) := by decide +kernel
theorem dX7_calibrate_23 : decode cX7_calibrate 23 = .ok (.aload_n 0, 1) := by decide +kernel
theorem dX7_calibrate_24 : decode cX7_calibrate 24 = .ok (.iload_n 1, 1) := by decide +kernel
theorem dX7_calibrate_25 : decode cX7_calibrate 25 = .ok (.invokevirtual 144, 3) := by decide +kernel
theorem dX7_calibrate_28 : decode cX7_calibrate 28 = .ok (.ireturn, 1) := by decide +kernel
theorem dX7_knock_0 : decode cX7_knock 0 = .ok (.aload_n 0, 1) := by decide +kernel
theorem dX7_knock_1 : decode cX7_knock 1 = .ok (.iconst 0, 1) := by decide +kernel
theorem dX7_knock_2 : decode cX7_knock 2 = .ok (.putfield 48, 3) := by decide +kernel
theorem dX7_knock_5 : decode cX7_knock 5 = .ok (.aload_n 0, 1) := by decide +kernel
theorem dX7_knock_6 : decode cX7_knock 6 = .ok (.iload_n 1, 1) := by decide +kernel
theorem dX7_knock_7 : decode cX7_knock 7 = .ok (.invokevirtual 141, 3) := by decide +kernel
theorem dX7_knock_10 : decode cX7_knock 10 = .ok (.ifCond .ne 9, 3) := by decide +kernel
theorem dX7_knock_13 : decode cX7_knock 13 = .ok (.aload_n 0, 1) := by decide +kernel
theorem dX7_knock_14 : decode cX7_knock 14 = .ok (.iconst 1, 1) := by decide +kernel
theorem dX7_knock_15 : decode cX7_knock 15 = .ok (.invokevirtual 59, 3) := by decide +kernel
theorem dX7_knock_18 : decode cX7_knock 18 = .ok (.ireturn, 1) := by decide +kernel
theorem dX7_knock_19 : decode cX7_knock 19 = .ok (.iload_n 2, 1) := by decide +kernel
theorem dX7_knock_20 : decode cX7_knock 20 = .ok (.sipush (-3000), 3) := by decide +kernel
theorem dX7_knock_23 : decode cX7_knock 23 = .ok (.sipush 3000, 3) := by decide +kernel
theorem dX7_knock_26 : decode cX7_knock 26 = .ok (.invokestatic 52, 3) := by decide +kernel
theorem dX7_knock_29 : decode cX7_knock 29 = .ok (.ifCond .ne 9, 3) := by decide +kernel
theorem dX7_knock_32 : decode cX7_knock 32 = .ok (.aload_n 0, 1) := by decide +kernel
theorem dX7_knock_33 : decode cX7_knock 33 = .ok (.iconst 2, 1) := by decide +kernel
theorem dX7_knock_34 : decode cX7_knock 34 = .ok (.invokevirtual 59, 3) := by decide +kernel
theorem dX7_knock_37 : decode cX7_knock 37 = .ok (.ireturn, 1) := by decide +kernel
theorem dX7_knock_38 : decode cX7_knock 38 = .ok (.aload_n 0, 1) := by decide +kernel
theorem dX7_knock_39 : decode cX7_knock 39 = .ok (.iload_n 1, 1) := by decide +kernel
theorem dX7_knock_40 : decode cX7_knock 40 = .ok (.iconst 4, 1) := by decide +kernel
theorem dX7_knock_41 : decode cX7_knock 41 = .ok (.invokevirtual 66, 3) := by decide +kernel
theorem dX7_knock_44 : decode cX7_knock 44 = .ok (.iload_n 2, 1) := by decide +kernel
theorem dX7_knock_45 : decode cX7_knock 45 = .ok (.iadd, 1) := by decide +kernel
theorem dX7_knock_46 : decode cX7_knock 46 = .ok (.istore_n 3, 1) := by decide +kernel
theorem dX7_knock_47 : decode cX7_knock 47 = .ok (.iload_n 3, 1) := by decide +kernel
theorem dX7_knock_48 : decode cX7_knock 48 = .ok (.sipush (-20000), 3) := by decide +kernel
theorem dX7_knock_51 : decode cX7_knock 51 = .ok (.sipush 20000, 3) := by decide +kernel
theorem dX7_knock_54 : decode cX7_knock 54 = .ok (.invokestatic 52, 3) := by decide +kernel
theorem dX7_knock_57 : decode cX7_knock 57 = .ok (.ifCond .ne 9, 3) := by decide +kernel
theorem dX7_knock_60 : decode cX7_knock 60 = .ok (.aload_n 0, 1) := by decide +kernel
theorem dX7_knock_61 : decode cX7_knock 61 = .ok (.iconst 3, 1) := by decide +kernel
theorem dX7_knock_62 : decode cX7_knock 62 = .ok (.invokevirtual 59, 3) := by decide +kernel
theorem dX7_knock_65 : decode cX7_knock 65 = .ok (.ireturn, 1) := by decide +kernel
theorem dX7_knock_66 : decode cX7_knock 66 = .ok (.aload_n 0, 1) := by decide +kernel
theorem dX7_knock_67 : decode cX7_knock 67 = .ok (.invokevirtual 63, 3) := by decide +kernel
theorem dX7_knock_70 : decode cX7_knock 70 = .ok (.aload_n 0, 1) := by decide +kernel
theorem dX7_knock_71 : decode cX7_knock 71 = .ok (.iload_n 1, 1) := by decide +kernel
theorem dX7_knock_72 : decode cX7_knock 72 = .ok (.iconst 4, 1) := by decide +kernel
theorem dX7_knock_73 : decode cX7_knock 73 = .ok (.iload_n 3, 1) := by decide +kernel
theorem dX7_knock_74 : decode cX7_knock 74 = .ok (.invokevirtual 94, 3) := by decide +kernel
theorem dX7_knock_77 : decode cX7_knock 77 = .ok (.iload_n 3, 1) := by decide +kernel
theorem dX7_knock_78 : decode cX7_knock 78 = .ok (.ldc 147, 2) := by decide +kernel
theorem dX7_knock_80 : decode cX7_knock 80 = .ok (.iadd, 1) := by decide +kernel
theorem dX7_knock_81 : decode cX7_knock 81 = .ok (.ireturn, 1) := by decide +kernel
theorem dX7_set_0 : decode cX7_set 0 = .ok (.aload_n 0, 1) := by decide +kernel
theorem dX7_set_1 : decode cX7_set 1 = .ok (.iconst 0, 1) := by decide +kernel
theorem dX7_set_2 : decode cX7_set 2 = .ok (.putfield 48, 3) := by decide +kernel
theorem dX7_set_5 : decode cX7_set 5 = .ok (.iload_n 1, 1) := by decide +kernel
theorem dX7_set_6 : decode cX7_set 6 = .ok (.iconst 0, 1) := by decide +kernel
theorem dX7_set_7 : decode cX7_set 7 = .ok (.iconst 1, 1) := by decide +kernel
theorem dX7_set_8 : decode cX7_set 8 = .ok (.invokestatic 52, 3) := by decide +kernel
theorem dX7_set_11 : decode cX7_set 11 = .ok (.ifCond .ne 9, 3) := by decide +kernel
theorem dX7_set_14 : decode cX7_set 14 = .ok (.aload_n 0, 1) := by decide +kernel
theorem dX7_set_15 : decode cX7_set 15 = .ok (.iconst 1, 1) := by decide +kernel
theorem dX7_set_16 : decode cX7_set 16 = .ok (.invokevirtual 59, 3) := by decide +kernel
theorem dX7_set_19 : decode cX7_set 19 = .ok (.ireturn, 1) := by decide +kernel
theorem dX7_set_20 : decode cX7_set 20 = .ok (.iload_n 1, 1) := by decide +kernel
theorem dX7_set_21 : decode cX7_set 21 = .ok (.ifCond .ne 18, 3) := by decide +kernel
theorem dX7_set_24 : decode cX7_set 24 = .ok (.iload_n 2, 1) := by decide +kernel
theorem dX7_set_25 : decode cX7_set 25 = .ok (.bipush 10, 2) := by decide +kernel
theorem dX7_set_27 : decode cX7_set 27 = .ok (.sipush 2000, 3) := by decide +kernel
theorem dX7_set_30 : decode cX7_set 30 = .ok (.invokestatic 52, 3) := by decide +kernel
theorem dX7_set_33 : decode cX7_set 33 = .ok (.ifCond .eq 15, 3) := by decide +kernel
theorem dX7_set_36 : decode cX7_set 36 = .ok (.goto 18, 3) := by decide +kernel
theorem dX7_set_39 : decode cX7_set 39 = .ok (.iload_n 2, 1) := by decide +kernel
theorem dX7_set_40 : decode cX7_set 40 = .ok (.iconst 1, 1) := by decide +kernel
theorem dX7_set_41 : decode cX7_set 41 = .ok (.iconst 5, 1) := by decide +kernel
theorem dX7_set_42 : decode cX7_set 42 = .ok (.invokestatic 52, 3) := by decide +kernel
theorem dX7_set_45 : decode cX7_set 45 = .ok (.ifCond .ne 9, 3) := by decide +kernel
theorem dX7_set_48 : decode cX7_set 48 = .ok (.aload_n 0, 1) := by decide +kernel
theorem dX7_set_49 : decode cX7_set 49 = .ok (.iconst 2, 1) := by decide +kernel
theorem dX7_set_50 : decode cX7_set 50 = .ok (.invokevirtual 59, 3) := by decide +kernel
theorem dX7_set_53 : decode cX7_set 53 = .ok (.ireturn, 1) := by decide +kernel
theorem dX7_set_54 : decode cX7_set 54 = .ok (.aload_n 0, 1) := by decide +kernel
theorem dX7_set_55 : decode cX7_set 55 = .ok (.invokevirtual 63, 3) := by decide +kernel
theorem dX7_set_58 : decode cX7_set 58 = .ok (.aload_n 0, 1) := by decide +kernel
theorem dX7_set_59 : decode cX7_set 59 = .ok (.getfield 7, 3) := by decide +kernel
theorem dX7_set_62 : decode cX7_set 62 = .ok (.iconst 2, 1) := by decide +kernel
theorem dX7_set_63 : decode cX7_set 63 = .ok (.iload_n 1, 1) := by decide +kernel
theorem dX7_set_64 : decode cX7_set 64 = .ok (.iadd, 1) := by decide +kernel
theorem dX7_set_65 : decode cX7_set 65 = .ok (.iaload, 1) := by decide +kernel
theorem dX7_set_66 : decode cX7_set 66 = .ok (.istore_n 3, 1) := by decide +kernel
theorem dX7_set_67 : decode cX7_set 67 = .ok (.aload_n 0, 1) := by decide +kernel
theorem dX7_set_68 : decode cX7_set 68 = .ok (.getfield 7, 3) := by decide +kernel
theorem dX7_set_71 : decode cX7_set 71 = .ok (.iconst 2, 1) := by decide +kernel
theorem dX7_set_72 : decode cX7_set 72 = .ok (.iload_n 1, 1) := by decide +kernel
theorem dX7_set_73 : decode cX7_set 73 = .ok (.iadd, 1) := by decide +kernel
theorem dX7_set_74 : decode cX7_set 74 = .ok (.iload_n 2, 1) := by decide +kernel
theorem dX7_set_75 : decode cX7_set 75 = .ok (.iastore, 1) := by decide +kernel
theorem dX7_set_76 : decode cX7_set 76 = .ok (.iload_n 3, 1) := by decide +kernel
theorem dX7_set_77 : decode cX7_set 77 = .ok (.ireturn, 1) := by decide +kernel
theorem dX7_append_0 : decode cX7_append 0 = .ok (.aload_n 0, 1) := by decide +kernel
theorem dX7_append_1 : decode cX7_append 1 = .ok (.iconst 0, 1) := by decide +kernel
theorem dX7_append_2 : decode cX7_append 2 = .ok (.putfield 48, 3) := by decide +kernel
theorem dX7_append_5 : decode cX7_append 5 = .ok (.iload_n 1, 1) := by decide +kernel
theorem dX7_append_6 : decode cX7_append 6 = .ok (.bipush 33, 2) := by decide +kernel
theorem dX7_append_8 : decode cX7_append 8 = .ok (.bipush 126, 2) := by decide +kernel
theorem dX7_append_10 : decode cX7_append 10 = .ok (.invokestatic 52, 3) := by decide +kernel
theorem dX7_append_13 : decode cX7_append 13 = .ok (.ifCond .ne 9, 3) := by decide +kernel
theorem dX7_append_16 : decode cX7_append 16 = .ok (.aload_n 0, 1) := by decide +kernel
theorem dX7_append_17 : decode cX7_append 17 = .ok (.iconst 1, 1) := by decide +kernel
theorem dX7_append_18 : decode cX7_append 18 = .ok (.invokevirtual 59, 3) := by decide +kernel
theorem dX7_append_21 : decode cX7_append 21 = .ok (.ireturn, 1) := by decide +kernel
theorem dX7_append_22 : decode cX7_append 22 = .ok (.aload_n 0, 1) := by decide +kernel
theorem dX7_append_23 : decode cX7_append 23 = .ok (.getfield 148, 3) := by decide +kernel
theorem dX7_append_26 : decode cX7_append 26 = .ok (.bipush 60, 2) := by decide +kernel
theorem dX7_append_28 : decode cX7_append 28 = .ok (.if_icmp .ne 9, 3) := by decide +kernel
theorem dX7_append_31 : decode cX7_append 31 = .ok (.aload_n 0, 1) := by decide +kernel
theorem dX7_append_32 : decode cX7_append 32 = .ok (.iconst 2, 1) := by decide +kernel
theorem dX7_append_33 : decode cX7_append 33 = .ok (.invokevirtual 59, 3) := by decide +kernel
theorem dX7_append_36 : decode cX7_append 36 = .ok (.ireturn, 1) := by decide +kernel
theorem dX7_append_37 : decode cX7_append 37 = .ok (.aload_n 0, 1) := by decide +kernel
theorem dX7_append_38 : decode cX7_append 38 = .ok (.getfield 32, 3) := by decide +kernel
theorem dX7_append_41 : decode cX7_append 41 = .ok (.aload_n 0, 1) := by decide +kernel
theorem dX7_append_42 : decode cX7_append 42 = .ok (.getfield 148, 3) := by decide +kernel
theorem dX7_append_45 : decode cX7_append 45 = .ok (.iload_n 1, 1) := by decide +kernel
theorem dX7_append_46 : decode cX7_append 46 = .ok (.iastore, 1) := by decide +kernel
theorem dX7_append_47 : decode cX7_append 47 = .ok (.aload_n 0, 1) := by decide +kernel
theorem dX7_append_48 : decode cX7_append 48 = .ok (.dup, 1) := by decide +kernel
theorem dX7_append_49 : decode cX7_append 49 = .ok (.getfield 148, 3) := by decide +kernel
theorem dX7_append_52 : decode cX7_append 52 = .ok (.iconst 1, 1) := by decide +kernel
theorem dX7_append_53 : decode cX7_append 53 = .ok (.iadd, 1) := by decide +kernel
theorem dX7_append_54 : decode cX7_append 54 = .ok (.putfield 148, 3) := by decide +kernel
theorem dX7_append_57 : decode cX7_append 57 = .ok (.aload_n 0, 1) := by decide +kernel
theorem dX7_append_58 : decode cX7_append 58 = .ok (.getfield 148, 3) := by decide +kernel
theorem dX7_append_61 : decode cX7_append 61 = .ok (.ireturn, 1) := by decide +kernel
theorem dX7_clearBuffer_0 : decode cX7_clearBuffer 0 = .ok (.aload_n 0, 1) := by decide +kernel
theorem dX7_clearBuffer_1 : decode cX7_clearBuffer 1 = .ok (.iconst 0, 1) := by decide +kernel
theorem dX7_clearBuffer_2 : decode cX7_clearBuffer 2 = .ok (.putfield 48, 3) := by decide +kernel
theorem dX7_clearBuffer_5 : decode cX7_clearBuffer 5 = .ok (.aload_n 0, 1) := by decide +kernel
theorem dX7_clearBuffer_6 : decode cX7_clearBuffer 6 = .ok (.getfield 148, 3) := by decide +kernel
theorem dX7_clearBuffer_9 : decode cX7_clearBuffer 9 = .ok (.istore_n 1, 1) := by decide +kernel
theorem dX7_clearBuffer_10 : decode cX7_clearBuffer 10 = .ok (.aload_n 0, 1) := by decide +kernel
theorem dX7_clearBuffer_11 : decode cX7_clearBuffer 11 = .ok (.iconst 0, 1) := by decide +kernel
theorem dX7_clearBuffer_12 : decode cX7_clearBuffer 12 = .ok (.putfield 148, 3) := by decide +kernel
theorem dX7_clearBuffer_15 : decode cX7_clearBuffer 15 = .ok (.iload_n 1, 1) := by decide +kernel
theorem dX7_clearBuffer_16 : decode cX7_clearBuffer 16 = .ok (.ireturn, 1) := by decide +kernel
theorem dX7_takes_0 : decode cX7_takes 0 = .ok (.aload_n 0, 1) := by decide +kernel
theorem dX7_takes_1 : decode cX7_takes 1 = .ok (.getfield 151, 3) := by decide +kernel
theorem dX7_takes_4 : decode cX7_takes 4 = .ok (.aload_n 0, 1) := by decide +kernel
theorem dX7_takes_5 : decode cX7_takes 5 = .ok (.getfield 148, 3) := by decide +kernel
theorem dX7_takes_8 : decode cX7_takes 8 = .ok (.if_icmp .ge 24, 3) := by decide +kernel
theorem dX7_takes_11 : decode cX7_takes 11 = .ok (.aload_n 0, 1) := by decide +kernel
theorem dX7_takes_12 : decode cX7_takes 12 = .ok (.getfield 32, 3) := by decide +kernel
theorem dX7_takes_15 : decode cX7_takes 15 = .ok (.aload_n 0, 1) := by decide +kernel
theorem dX7_takes_16 : decode cX7_takes 16 = .ok (.getfield 151, 3) := by decide +kernel
theorem dX7_takes_19 : decode cX7_takes 19 = .ok (.iaload, 1) := by decide +kernel
theorem dX7_takes_20 : decode cX7_takes 20 = .ok (.iload_n 1, 1) := by decide +kernel
theorem dX7_takes_21 : decode cX7_takes 21 = .ok (.iload_n 2, 1) := by decide +kernel
theorem dX7_takes_22 : decode cX7_takes 22 = .ok (.invokestatic 52, 3) := by decide +kernel
theorem dX7_takes_25 : decode cX7_takes 25 = .ok (.ifCond .eq 7, 3) := by decide +kernel
theorem dX7_takes_28 : decode cX7_takes 28 = .ok (.iconst 1, 1) := by decide +kernel
theorem dX7_takes_29 : decode cX7_takes 29 = .ok (.goto 4, 3) := by decide +kernel
theorem dX7_takes_32 : decode cX7_takes 32 = .ok (.iconst 0, 1) := by decide +kernel
theorem dX7_takes_33 : decode cX7_takes 33 = .ok (.istore_n 3, 1) := by decide +kernel
theorem dX7_takes_34 : decode cX7_takes 34 = .ok (.aload_n 0, 1) := by decide +kernel
theorem dX7_takes_35 : decode cX7_takes 35 = .ok (.dup, 1) := by decide +kernel
theorem dX7_takes_36 : decode cX7_takes 36 = .ok (.getfield 151, 3) := by decide +kernel
theorem dX7_takes_39 : decode cX7_takes 39 = .ok (.iload_n 3, 1) := by decide +kernel
theorem dX7_takes_40 : decode cX7_takes 40 = .ok (.ifCond .eq 7, 3) := by decide +kernel
theorem dX7_takes_43 : decode cX7_takes 43 = .ok (.iconst 1, 1) := by decide +kernel
theorem dX7_takes_44 : decode cX7_takes 44 = .ok (.goto 4, 3) := by decide +kernel
theorem dX7_takes_47 : decode cX7_takes 47 = .ok (.iconst 0, 1) := by decide +kernel
theorem dX7_takes_48 : decode cX7_takes 48 = .ok (.iadd, 1) := by decide +kernel
theorem dX7_takes_49 : decode cX7_takes 49 = .ok (.putfield 151, 3) := by decide +kernel
theorem dX7_takes_52 : decode cX7_takes 52 = .ok (.iload_n 3, 1) := by decide +kernel
theorem dX7_takes_53 : decode cX7_takes 53 = .ok (.ireturn, 1) := by decide +kernel
theorem dX7_digit_0 : decode cX7_digit 0 = .ok (.aload_n 0, 1) := by decide +kernel
theorem dX7_digit_1 : decode cX7_digit 1 = .ok (.getfield 32, 3) := by decide +kernel
theorem dX7_digit_4 : decode cX7_digit 4 = .ok (.aload_n 0, 1) := by decide +kernel
theorem dX7_digit_5 : decode cX7_digit 5 = .ok (.getfield 151, 3) := by decide +kernel
theorem dX7_digit_8 : decode cX7_digit 8 = .ok (.iconst 1, 1) := by decide +kernel
theorem dX7_digit_9 : decode cX7_digit 9 = .ok (.isub, 1) := by decide +kernel
theorem dX7_digit_10 : decode cX7_digit 10 = .ok (.iaload, 1) := by decide +kernel
theorem dX7_digit_11 : decode cX7_digit 11 = .ok (.bipush 48, 2) := by decide +kernel
theorem dX7_digit_13 : decode cX7_digit 13 = .ok (.isub, 1) := by decide +kernel
theorem dX7_digit_14 : decode cX7_digit 14 = .ok (.ireturn, 1) := by decide +kernel
theorem dX7_readDegrees_0 : decode cX7_readDegrees 0 = .ok (.aload_n 0, 1) := by decide +kernel
theorem dX7_readDegrees_1 : decode cX7_readDegrees 1 = .ok (.bipush 45, 2) := by decide +kernel
theorem dX7_readDegrees_3 : decode cX7_readDegrees 3 = .ok (.bipush 45, 2) := by decide +kernel
theorem dX7_readDegrees_5 : decode cX7_readDegrees 5 = .ok (.invokevirtual 154, 3) := by decide +kernel
theorem dX7_readDegrees_8 : decode cX7_readDegrees 8 = .ok (.istore_n 1, 1) := by decide +kernel
theorem dX7_readDegrees_9 : decode cX7_readDegrees 9 = .ok (.aload_n 0, 1) := by decide +kernel
theorem dX7_readDegrees_10 : decode cX7_readDegrees 10 = .ok (.bipush 48, 2) := by decide +kernel
theorem dX7_readDegrees_12 : decode cX7_readDegrees 12 = .ok (.bipush 57, 2) := by decide +kernel
theorem dX7_readDegrees_14 : decode cX7_readDegrees 14 = .ok (.invokevirtual 154, 3) := by decide +kernel
theorem dX7_readDegrees_17 : decode cX7_readDegrees 17 = .ok (.ifCond .ne 5, 3) := by decide +kernel
theorem dX7_readDegrees_20 : decode cX7_readDegrees 20 = .ok (.iconst 0, 1) := by decide +kernel
theorem dX7_readDegrees_21 : decode cX7_readDegrees 21 = .ok (.ireturn, 1) := by decide +kernel
theorem dX7_readDegrees_22 : decode cX7_readDegrees 22 = .ok (.aload_n 0, 1) := by decide +kernel
theorem dX7_readDegrees_23 : decode cX7_readDegrees 23 = .ok (.invokevirtual 158, 3) := by decide +kernel
theorem dX7_readDegrees_26 : decode cX7_readDegrees 26 = .ok (.istore_n 2, 1) := by decide +kernel
theorem dX7_readDegrees_27 : decode cX7_readDegrees 27 = .ok (.iload_n 2, 1) := by decide +kernel
theorem dX7_readDegrees_28 : decode cX7_readDegrees 28 = .ok (.iconst 5, 1) := by decide +kernel
theorem dX7_readDegrees_29 : decode cX7_readDegrees 29 = .ok (.if_icmp .ne 17, 3) := by decide +kernel
theorem dX7_readDegrees_32 : decode cX7_readDegrees 32 = .ok (.aload_n 0, 1) := by decide +kernel
theorem dX7_readDegrees_33 : decode cX7_readDegrees 33 = .ok (.bipush 48, 2) := by decide +kernel
theorem dX7_readDegrees_35 : decode cX7_readDegrees 35 = .ok (.bipush 48, 2) := by decide +kernel
theorem dX7_readDegrees_37 : decode cX7_readDegrees 37 = .ok (.invokevirtual 154, 3) := by decide +kernel
theorem dX7_readDegrees_40 : decode cX7_readDegrees 40 = .ok (.ifCond .eq 36, 3) := by decide +kernel
theorem dX7_readDegrees_43 : decode cX7_readDegrees 43 = .ok (.goto 23, 3) := by decide +kernel
theorem dX7_readDegrees_46 : decode cX7_readDegrees 46 = .ok (.iload_n 2, 1) := by decide +kernel
theorem dX7_readDegrees_47 : decode cX7_readDegrees 47 = .ok (.ifCond .le 29, 3) := by decide +kernel
theorem dX7_readDegrees_50 : decode cX7_readDegrees 50 = .ok (.iload_n 2, 1) := by decide +kernel
theorem dX7_readDegrees_51 : decode cX7_readDegrees 51 = .ok (.iconst 5, 1) := by decide +kernel
theorem dX7_readDegrees_52 : decode cX7_readDegrees 52 = .ok (.if_icmp .ge 24, 3) := by decide +kernel
theorem dX7_readDegrees_55 : decode cX7_readDegrees 55 = .ok (.aload_n 0, 1) := by decide +kernel
theorem dX7_readDegrees_56 : decode cX7_readDegrees 56 = .ok (.bipush 48, 2) := by decide +kernel
theorem dX7_readDegrees_58 : decode cX7_readDegrees 58 = .ok (.bipush 57, 2) := by decide +kernel
theorem dX7_readDegrees_60 : decode cX7_readDegrees 60 = .ok (.invokevirtual 154, 3) := by decide +kernel
theorem dX7_readDegrees_63 : decode cX7_readDegrees 63 = .ok (.ifCond .eq 13, 3) := by decide +kernel
theorem dX7_readDegrees_66 : decode cX7_readDegrees 66 = .ok (.bipush 10, 2) := by decide +kernel
theorem dX7_readDegrees_68 : decode cX7_readDegrees 68 = .ok (.iload_n 2, 1) := by decide +kernel
theorem dX7_readDegrees_69 : decode cX7_readDegrees 69 = .ok (.imul, 1) := by decide +kernel
theorem dX7_readDegrees_70 : decode cX7_readDegrees 70 = .ok (.aload_n 0, 1) := by decide +kernel
theorem dX7_readDegrees_71 : decode cX7_readDegrees 71 = .ok (.invokevirtual 158, 3) := by decide +kernel
theorem dX7_readDegrees_74 : decode cX7_readDegrees 74 = .ok (.iadd, 1) := by decide +kernel
theorem dX7_readDegrees_75 : decode cX7_readDegrees 75 = .ok (.istore_n 2, 1) := by decide +kernel
theorem dX7_readDegrees_76 : decode cX7_readDegrees 76 = .ok (.aload_n 0, 1) := by decide +kernel
theorem dX7_readDegrees_77 : decode cX7_readDegrees 77 = .ok (.getfield 38, 3) := by decide +kernel
theorem dX7_readDegrees_80 : decode cX7_readDegrees 80 = .ok (.aload_n 0, 1) := by decide +kernel
theorem dX7_readDegrees_81 : decode cX7_readDegrees 81 = .ok (.getfield 161, 3) := by decide +kernel
theorem dX7_readDegrees_84 : decode cX7_readDegrees 84 = .ok (.iload_n 1, 1) := by decide +kernel
theorem dX7_readDegrees_85 : decode cX7_readDegrees 85 = .ok (.ifCond .eq 8, 3) := by decide +kernel
theorem dX7_readDegrees_88 : decode cX7_readDegrees 88 = .ok (.iload_n 2, 1) := by decide +kernel
theorem dX7_readDegrees_89 : decode cX7_readDegrees 89 = .ok (.ineg, 1) := by decide +kernel
theorem dX7_readDegrees_90 : decode cX7_readDegrees 90 = .ok (.goto 4, 3) := by decide +kernel
theorem dX7_readDegrees_93 : decode cX7_readDegrees 93 = .ok (.iload_n 2, 1) := by decide +kernel
theorem dX7_readDegrees_94 : decode cX7_readDegrees 94 = .ok (.iastore, 1) := by decide +kernel
theorem dX7_readDegrees_95 : decode cX7_readDegrees 95 = .ok (.iconst 1, 1) := by decide +kernel
theorem dX7_readDegrees_96 : decode cX7_readDegrees 96 = .ok (.ireturn, 1) := by decide +kernel
theorem dX7_readNew_0 : decode cX7_readNew 0 = .ok (.aload_n 0, 1) := by decide +kernel
theorem dX7_readNew_1 : decode cX7_readNew 1 = .ok (.bipush 48, 2) := by decide +kernel
theorem dX7_readNew_3 : decode cX7_readNew 3 = .ok (.bipush 51, 2) := by decide +kernel
theorem dX7_readNew_5 : decode cX7_readNew 5 = .ok (.invokevirtual 154, 3) := by decide +kernel
theorem dX7_readNew_8 : decode cX7_readNew 8 = .ok (.ifCond .ne 5, 3) := by decide +kernel
theorem dX7_readNew_11 : decode cX7_readNew 11 = .ok (.iconst 0, 1) := by decide +kernel
theorem dX7_readNew_12 : decode cX7_readNew 12 = .ok (.ireturn, 1) := by decide +kernel
theorem dX7_readNew_13 : decode cX7_readNew 13 = .ok (.aload_n 0, 1) := by decide +kernel
theorem dX7_readNew_14 : decode cX7_readNew 14 = .ok (.getfield 38, 3) := by decide +kernel
theorem dX7_readNew_17 : decode cX7_readNew 17 = .ok (.aload_n 0, 1) := by decide +kernel
theorem dX7_readNew_18 : decode cX7_readNew 18 = .ok (.getfield 161, 3) := by decide +kernel
theorem dX7_readNew_21 : decode cX7_readNew 21 = .ok (.aload_n 0, 1) := by decide +kernel
theorem dX7_readNew_22 : decode cX7_readNew 22 = .ok (.invokevirtual 158, 3) := by decide +kernel
theorem dX7_readNew_25 : decode cX7_readNew 25 = .ok (.iastore, 1) := by decide +kernel
theorem dX7_readNew_26 : decode cX7_readNew 26 = .ok (.aload_n 0, 1) := by decide +kernel
theorem dX7_readNew_27 : decode cX7_readNew 27 = .ok (.bipush 44, 2) := by decide +kernel
theorem dX7_readNew_29 : decode cX7_readNew 29 = .ok (.bipush 44, 2) := by decide +kernel
theorem dX7_readNew_31 : decode cX7_readNew 31 = .ok (.invokevirtual 154, 3) := by decide +kernel
theorem dX7_readNew_34 : decode cX7_readNew 34 = .ok (.ifCond .eq 14, 3) := by decide +kernel
theorem dX7_readNew_37 : decode cX7_readNew 37 = .ok (.aload_n 0, 1) := by decide +kernel
theorem dX7_readNew_38 : decode cX7_readNew 38 = .ok (.bipush 49, 2) := by decide +kernel
theorem dX7_readNew_40 : decode cX7_readNew 40 = .ok (.bipush 57, 2) := by decide +kernel
theorem dX7_readNew_42 : decode cX7_readNew 42 = .ok (.invokevirtual 154, 3) := by decide +kernel
theorem dX7_readNew_45 : decode cX7_readNew 45 = .ok (.ifCond .ne 5, 3) := by decide +kernel
theorem dX7_readNew_48 : decode cX7_readNew 48 = .ok (.iconst 0, 1) := by decide +kernel
theorem dX7_readNew_49 : decode cX7_readNew 49 = .ok (.ireturn, 1) := by decide +kernel
theorem dX7_readNew_50 : decode cX7_readNew 50 = .ok (.aload_n 0, 1) := by decide +kernel
theorem dX7_readNew_51 : decode cX7_readNew 51 = .ok (.getfield 41, 3) := by decide +kernel
theorem dX7_readNew_54 : decode cX7_readNew 54 = .ok (.aload_n 0, 1) := by decide +kernel
theorem dX7_readNew_55 : decode cX7_readNew 55 = .ok (.getfield 161, 3) := by decide +kernel
theorem dX7_readNew_58 : decode cX7_readNew 58 = .ok (.aload_n 0, 1) := by decide +kernel
theorem dX7_readNew_59 : decode cX7_readNew 59 = .ok (.invokevirtual 158, 3) := by decide +kernel
theorem dX7_readNew_62 : decode cX7_readNew 62 = .ok (.iastore, 1) := by decide +kernel
theorem dX7_readNew_63 : decode cX7_readNew 63 = .ok (.aload_n 0, 1) := by decide +kernel
theorem dX7_readNew_64 : decode cX7_readNew 64 = .ok (.getfield 44, 3) := by decide +kernel
theorem dX7_readNew_67 : decode cX7_readNew 67 = .ok (.aload_n 0, 1) := by decide +kernel
theorem dX7_readNew_68 : decode cX7_readNew 68 = .ok (.getfield 161, 3) := by decide +kernel
theorem dX7_readNew_71 : decode cX7_readNew 71 = .ok (.iconst 1, 1) := by decide +kernel
theorem dX7_readNew_72 : decode cX7_readNew 72 = .ok (.iastore, 1) := by decide +kernel
theorem dX7_readNew_73 : decode cX7_readNew 73 = .ok (.aload_n 0, 1) := by decide +kernel
theorem dX7_readNew_74 : decode cX7_readNew 74 = .ok (.bipush 42, 2) := by decide +kernel
theorem dX7_readNew_76 : decode cX7_readNew 76 = .ok (.bipush 42, 2) := by decide +kernel
theorem dX7_readNew_78 : decode cX7_readNew 78 = .ok (.invokevirtual 154, 3) := by decide +kernel
theorem dX7_readNew_81 : decode cX7_readNew 81 = .ok (.ifCond .eq 29, 3) := by decide +kernel
theorem dX7_readNew_84 : decode cX7_readNew 84 = .ok (.aload_n 0, 1) := by decide +kernel
theorem dX7_readNew_85 : decode cX7_readNew 85 = .ok (.bipush 49, 2) := by decide +kernel
theorem dX7_readNew_87 : decode cX7_readNew 87 = .ok (.bipush 53, 2) := by decide +kernel
theorem dX7_readNew_89 : decode cX7_readNew 89 = .ok (.invokevirtual 154, 3) := by decide +kernel
theorem dX7_readNew_92 : decode cX7_readNew 92 = .ok (.ifCond .ne 5, 3) := by decide +kernel
theorem dX7_readNew_95 : decode cX7_readNew 95 = .ok (.iconst 0, 1) := by decide +kernel
theorem dX7_readNew_96 : decode cX7_readNew 96 = .ok (.ireturn, 1) := by decide +kernel
theorem dX7_readNew_97 : decode cX7_readNew 97 = .ok (.aload_n 0, 1) := by decide +kernel
theorem dX7_readNew_98 : decode cX7_readNew 98 = .ok (.getfield 44, 3) := by decide +kernel
theorem dX7_readNew_101 : decode cX7_readNew 101 = .ok (.aload_n 0, 1) := by decide +kernel
theorem dX7_readNew_102 : decode cX7_readNew 102 = .ok (.getfield 161, 3) := by decide +kernel
theorem dX7_readNew_105 : decode cX7_readNew 105 = .ok (.aload_n 0, 1) := by decide +kernel
theorem dX7_readNew_106 : decode cX7_readNew 106 = .ok (.invokevirtual 158, 3) := by decide +kernel
theorem dX7_readNew_109 : decode cX7_readNew 109 = .ok (.iastore, 1) := by decide +kernel
theorem dX7_readNew_110 : decode cX7_readNew 110 = .ok (.iconst 1, 1) := by decide +kernel
theorem dX7_readNew_111 : decode cX7_readNew 111 = .ok (.ireturn, 1) := by decide +kernel
theorem dX7_readPeriod_0 : decode cX7_readPeriod 0 = .ok (.aload_n 0, 1) := by decide +kernel
theorem dX7_readPeriod_1 : decode cX7_readPeriod 1 = .ok (.bipush 48, 2) := by decide +kernel
theorem dX7_readPeriod_3 : decode cX7_readPeriod 3 = .ok (.bipush 51, 2) := by decide +kernel
theorem dX7_readPeriod_5 : decode cX7_readPeriod 5 = .ok (.invokevirtual 154, 3) := by decide +kernel
theorem dX7_readPeriod_8 : decode cX7_readPeriod 8 = .ok (.ifCond .ne 5, 3) := by decide +kernel
theorem dX7_readPeriod_11 : decode cX7_readPeriod 11 = .ok (.iconst 0, 1) := by decide +kernel
theorem dX7_readPeriod_12 : decode cX7_readPeriod 12 = .ok (.ireturn, 1) := by decide +kernel
theorem dX7_readPeriod_13 : decode cX7_readPeriod 13 = .ok (.aload_n 0, 1) := by decide +kernel
theorem dX7_readPeriod_14 : decode cX7_readPeriod 14 = .ok (.getfield 38, 3) := by decide +kernel
theorem dX7_readPeriod_17 : decode cX7_readPeriod 17 = .ok (.aload_n 0, 1) := by decide +kernel
theorem dX7_readPeriod_18 : decode cX7_readPeriod 18 = .ok (.getfield 161, 3) := by decide +kernel
theorem dX7_readPeriod_21 : decode cX7_readPeriod 21 = .ok (.aload_n 0, 1) := by decide +kernel
theorem dX7_readPeriod_22 : decode cX7_readPeriod 22 = .ok (.invokevirtual 158, 3) := by decide +kernel
theorem dX7_readPeriod_25 : decode cX7_readPeriod 25 = .ok (.iastore, 1) := by decide +kernel
theorem dX7_readPeriod_26 : decode cX7_readPeriod 26 = .ok (.aload_n 0, 1) := by decide +kernel
theorem dX7_readPeriod_27 : decode cX7_readPeriod 27 = .ok (.bipush 47, 2) := by decide +kernel
theorem dX7_readPeriod_29 : decode cX7_readPeriod 29 = .ok (.bipush 47, 2) := by decide +kernel
theorem dX7_readPeriod_31 : decode cX7_readPeriod 31 = .ok (.invokevirtual 154, 3) := by decide +kernel
theorem dX7_readPeriod_34 : decode cX7_readPeriod 34 = .ok (.ifCond .eq 14, 3) := by decide +kernel
theorem dX7_readPeriod_37 : decode cX7_readPeriod 37 = .ok (.aload_n 0, 1) := by decide +kernel
theorem dX7_readPeriod_38 : decode cX7_readPeriod 38 = .ok (.bipush 49, 2) := by decide +kernel
theorem dX7_readPeriod_40 : decode cX7_readPeriod 40 = .ok (.bipush 54, 2) := by decide +kernel
theorem dX7_readPeriod_42 : decode cX7_readPeriod 42 = .ok (.invokevirtual 154, 3) := by decide +kernel
theorem dX7_readPeriod_45 : decode cX7_readPeriod 45 = .ok (.ifCond .ne 5, 3) := by decide +kernel
theorem dX7_readPeriod_48 : decode cX7_readPeriod 48 = .ok (.iconst 0, 1) := by decide +kernel
theorem dX7_readPeriod_49 : decode cX7_readPeriod 49 = .ok (.ireturn, 1) := by decide +kernel
theorem dX7_readPeriod_50 : decode cX7_readPeriod 50 = .ok (.aload_n 0, 1) := by decide +kernel
theorem dX7_readPeriod_51 : decode cX7_readPeriod 51 = .ok (.getfield 41, 3) := by decide +kernel
theorem dX7_readPeriod_54 : decode cX7_readPeriod 54 = .ok (.aload_n 0, 1) := by decide +kernel
theorem dX7_readPeriod_55 : decode cX7_readPeriod 55 = .ok (.getfield 161, 3) := by decide +kernel
theorem dX7_readPeriod_58 : decode cX7_readPeriod 58 = .ok (.aload_n 0, 1) := by decide +kernel
theorem dX7_readPeriod_59 : decode cX7_readPeriod 59 = .ok (.invokevirtual 158, 3) := by decide +kernel
theorem dX7_readPeriod_62 : decode cX7_readPeriod 62 = .ok (.iastore, 1) := by decide +kernel
theorem dX7_readPeriod_63 : decode cX7_readPeriod 63 = .ok (.iconst 1, 1) := by decide +kernel
theorem dX7_readPeriod_64 : decode cX7_readPeriod 64 = .ok (.ireturn, 1) := by decide +kernel
theorem dX7_readCalibrated_0 : decode cX7_readCalibrated 0 = .ok (.aload_n 0, 1) := by decide +kernel
theorem dX7_readCalibrated_1 : decode cX7_readCalibrated 1 = .ok (.bipush 48, 2) := by decide +kernel
theorem dX7_readCalibrated_3 : decode cX7_readCalibrated 3 = .ok (.bipush 57, 2) := by decide +kernel
theorem dX7_readCalibrated_5 : decode cX7_readCalibrated 5 = .ok (.invokevirtual 154, 3) := by decide +kernel
theorem dX7_readCalibrated_8 : decode cX7_readCalibrated 8 = .ok (.ifCond .ne 5, 3) := by decide +kernel
theorem dX7_readCalibrated_11 : decode cX7_readCalibrated 11 = .ok (.iconst 0, 1) := by decide +kernel
theorem dX7_readCalibrated_12 : decode cX7_readCalibrated 12 = .ok (.ireturn, 1) := by decide +kernel
theorem dX7_readCalibrated_13 : decode cX7_readCalibrated 13 = .ok (.aload_n 0, 1) := by decide +kernel
theorem dX7_readCalibrated_14 : decode cX7_readCalibrated 14 = .ok (.getfield 38, 3) := by decide +kernel
theorem dX7_readCalibrated_17 : decode cX7_readCalibrated 17 = .ok (.aload_n 0, 1) := by decide +kernel
theorem dX7_readCalibrated_18 : decode cX7_readCalibrated 18 = .ok (.getfield 161, 3) := by decide +kernel
theorem dX7_readCalibrated_21 : decode cX7_readCalibrated 21 = .ok (.aload_n 0, 1) := by decide +kernel
theorem dX7_readCalibrated_22 : decode cX7_readCalibrated 22 = .ok (.invokevirtual 158, 3) := by decide +kernel
theorem dX7_readCalibrated_25 : decode cX7_readCalibrated 25 = .ok (.iastore, 1) := by decide +kernel
theorem dX7_readCalibrated_26 : decode cX7_readCalibrated 26 = .ok (.iconst 1, 1) := by decide +kernel
theorem dX7_readCalibrated_27 : decode cX7_readCalibrated 27 = .ok (.ireturn, 1) := by decide +kernel
theorem dX7_readOrder_0 : decode cX7_readOrder 0 = .ok (.aload_n 0, 1) := by decide +kernel
theorem dX7_readOrder_1 : decode cX7_readOrder 1 = .ok (.getfield 151, 3) := by decide +kernel
theorem dX7_readOrder_4 : decode cX7_readOrder 4 = .ok (.aload_n 0, 1) := by decide +kernel
theorem dX7_readOrder_5 : decode cX7_readOrder 5 = .ok (.getfield 148, 3) := by decide +kernel
theorem dX7_readOrder_8 : decode cX7_readOrder 8 = .ok (.if_icmp .ge 15, 3) := by decide +kernel
theorem dX7_readOrder_11 : decode cX7_readOrder 11 = .ok (.aload_n 0, 1) := by decide +kernel
theorem dX7_readOrder_12 : decode cX7_readOrder 12 = .ok (.getfield 32, 3) := by decide +kernel
theorem dX7_readOrder_15 : decode cX7_readOrder 15 = .ok (.aload_n 0, 1) := by decide +kernel
theorem dX7_readOrder_16 : decode cX7_readOrder 16 = .ok (.getfield 151, 3) := by decide +kernel
theorem dX7_readOrder_19 : decode cX7_readOrder 19 = .ok (.iaload, 1) := by decide +kernel
theorem dX7_readOrder_20 : decode cX7_readOrder 20 = .ok (.goto 4, 3) := by decide +kernel
theorem dX7_readOrder_23 : decode cX7_readOrder 23 = .ok (.iconst 0, 1) := by decide +kernel
theorem dX7_readOrder_24 : decode cX7_readOrder 24 = .ok (.istore_n 1, 1) := by decide +kernel
theorem dX7_readOrder_25 : decode cX7_readOrder 25 = .ok (.iload_n 1, 1) := by decide +kernel
theorem dX7_readOrder_26 : decode cX7_readOrder 26 = .ok (.bipush 116, 2) := by decide +kernel
theorem dX7_readOrder_28 : decode cX7_readOrder 28 = .ok (.if_icmp .eq 21, 3) := by decide +kernel
theorem dX7_readOrder_31 : decode cX7_readOrder 31 = .ok (.iload_n 1, 1) := by decide +kernel
theorem dX7_readOrder_32 : decode cX7_readOrder 32 = .ok (.bipush 104, 2) := by decide +kernel
theorem dX7_readOrder_34 : decode cX7_readOrder 34 = .ok (.if_icmp .eq 15, 3) := by decide +kernel
theorem dX7_readOrder_37 : decode cX7_readOrder 37 = .ok (.iload_n 1, 1) := by decide +kernel
theorem dX7_readOrder_38 : decode cX7_readOrder 38 = .ok (.bipush 112, 2) := by decide +kernel
theorem dX7_readOrder_40 : decode cX7_readOrder 40 = .ok (.if_icmp .eq 9, 3) := by decide +kernel
theorem dX7_readOrder_43 : decode cX7_readOrder 43 = .ok (.iload_n 1, 1) := by decide +kernel
theorem dX7_readOrder_44 : decode cX7_readOrder 44 = .ok (.bipush 99, 2) := by decide +kernel
theorem dX7_readOrder_46 : decode cX7_readOrder 46 = .ok (.if_icmp .ne 7, 3) := by decide +kernel
theorem dX7_readOrder_49 : decode cX7_readOrder 49 = .ok (.iconst 1, 1) := by decide +kernel
theorem dX7_readOrder_50 : decode cX7_readOrder 50 = .ok (.goto 4, 3) := by decide +kernel
theorem dX7_readOrder_53 : decode cX7_readOrder 53 = .ok (.iconst 0, 1) := by decide +kernel
theorem dX7_readOrder_54 : decode cX7_readOrder 54 = .ok (.istore_n 2, 1) := by decide +kernel
theorem dX7_readOrder_55 : decode cX7_readOrder 55 = .ok (.aload_n 0, 1) := by decide +kernel
theorem dX7_readOrder_56 : decode cX7_readOrder 56 = .ok (.dup, 1) := by decide +kernel
theorem dX7_readOrder_57 : decode cX7_readOrder 57 = .ok (.getfield 151, 3) := by decide +kernel
theorem dX7_readOrder_60 : decode cX7_readOrder 60 = .ok (.iload_n 2, 1) := by decide +kernel
theorem dX7_readOrder_61 : decode cX7_readOrder 61 = .ok (.ifCond .eq 7, 3) := by decide +kernel
theorem dX7_readOrder_64 : decode cX7_readOrder 64 = .ok (.iconst 1, 1) := by decide +kernel
theorem dX7_readOrder_65 : decode cX7_readOrder 65 = .ok (.goto 4, 3) := by decide +kernel
theorem dX7_readOrder_68 : decode cX7_readOrder 68 = .ok (.iconst 0, 1) := by decide +kernel
theorem dX7_readOrder_69 : decode cX7_readOrder 69 = .ok (.iadd, 1) := by decide +kernel
theorem dX7_readOrder_70 : decode cX7_readOrder 70 = .ok (.putfield 151, 3) := by decide +kernel
theorem dX7_readOrder_73 : decode cX7_readOrder 73 = .ok (.iload_n 2, 1) := by decide +kernel
theorem dX7_readOrder_74 : decode cX7_readOrder 74 = .ok (.ifCond .eq 62, 3) := by decide +kernel
theorem dX7_readOrder_77 : decode cX7_readOrder 77 = .ok (.iload_n 1, 1) := by decide +kernel
theorem dX7_readOrder_78 : decode cX7_readOrder 78 = .ok (.bipush 116, 2) := by decide +kernel
theorem dX7_readOrder_80 : decode cX7_readOrder 80 = .ok (.if_icmp .ne 13, 3) := by decide +kernel
theorem dX7_readOrder_83 : decode cX7_readOrder 83 = .ok (.aload_n 0, 1) := by decide +kernel
theorem dX7_readOrder_84 : decode cX7_readOrder 84 = .ok (.invokevirtual 164, 3) := by decide +kernel
theorem dX7_readOrder_87 : decode cX7_readOrder 87 = .ok (.ifCond .eq 49, 3) := by decide +kernel
theorem dX7_readOrder_90 : decode cX7_readOrder 90 = .ok (.goto 42, 3) := by decide +kernel
theorem dX7_readOrder_93 : decode cX7_readOrder 93 = .ok (.iload_n 1, 1) := by decide +kernel
theorem dX7_readOrder_94 : decode cX7_readOrder 94 = .ok (.bipush 104, 2) := by decide +kernel
theorem dX7_readOrder_96 : decode cX7_readOrder 96 = .ok (.if_icmp .ne 13, 3) := by decide +kernel
theorem dX7_readOrder_99 : decode cX7_readOrder 99 = .ok (.aload_n 0, 1) := by decide +kernel
theorem dX7_readOrder_100 : decode cX7_readOrder 100 = .ok (.invokevirtual 168, 3) := by decide +kernel
theorem dX7_readOrder_103 : decode cX7_readOrder 103 = .ok (.ifCond .eq 33, 3) := by decide +kernel
theorem dX7_readOrder_106 : decode cX7_readOrder 106 = .ok (.goto 26, 3) := by decide +kernel
theorem dX7_readOrder_109 : decode cX7_readOrder 109 = .ok (.iload_n 1, 1) := by decide +kernel
theorem dX7_readOrder_110 : decode cX7_readOrder 110 = .ok (.bipush 112, 2) := by decide +kernel
theorem dX7_readOrder_112 : decode cX7_readOrder 112 = .ok (.if_icmp .ne 13, 3) := by decide +kernel
theorem dX7_readOrder_115 : decode cX7_readOrder 115 = .ok (.aload_n 0, 1) := by decide +kernel
theorem dX7_readOrder_116 : decode cX7_readOrder 116 = .ok (.invokevirtual 171, 3) := by decide +kernel
theorem dX7_readOrder_119 : decode cX7_readOrder 119 = .ok (.ifCond .eq 17, 3) := by decide +kernel
theorem dX7_readOrder_122 : decode cX7_readOrder 122 = .ok (.goto 10, 3) := by decide +kernel
theorem dX7_readOrder_125 : decode cX7_readOrder 125 = .ok (.aload_n 0, 1) := by decide +kernel
theorem dX7_readOrder_126 : decode cX7_readOrder 126 = .ok (.invokevirtual 174, 3) := by decide +kernel
theorem dX7_readOrder_129 : decode cX7_readOrder 129 = .ok (.ifCond .eq 7, 3) := by decide +kernel
theorem dX7_readOrder_132 : decode cX7_readOrder 132 = .ok (.iconst 1, 1) := by decide +kernel
theorem dX7_readOrder_133 : decode cX7_readOrder 133 = .ok (.goto 4, 3) := by decide +kernel
theorem dX7_readOrder_136 : decode cX7_readOrder 136 = .ok (.iconst 0, 1) := by decide +kernel
theorem dX7_readOrder_137 : decode cX7_readOrder 137 = .ok (.istore_n 2, 1) := by decide +kernel
theorem dX7_readOrder_138 : decode cX7_readOrder 138 = .ok (.iload_n 2, 1) := by decide +kernel
theorem dX7_readOrder_139 : decode cX7_readOrder 139 = .ok (.ifCond .eq 23, 3) := by decide +kernel
theorem dX7_readOrder_142 : decode cX7_readOrder 142 = .ok (.aload_n 0, 1) := by decide +kernel
theorem dX7_readOrder_143 : decode cX7_readOrder 143 = .ok (.getfield 35, 3) := by decide +kernel
theorem dX7_readOrder_146 : decode cX7_readOrder 146 = .ok (.aload_n 0, 1) := by decide +kernel
theorem dX7_readOrder_147 : decode cX7_readOrder 147 = .ok (.getfield 161, 3) := by decide +kernel
theorem dX7_readOrder_150 : decode cX7_readOrder 150 = .ok (.iload_n 1, 1) := by decide +kernel
theorem dX7_readOrder_151 : decode cX7_readOrder 151 = .ok (.iastore, 1) := by decide +kernel
theorem dX7_readOrder_152 : decode cX7_readOrder 152 = .ok (.aload_n 0, 1) := by decide +kernel
theorem dX7_readOrder_153 : decode cX7_readOrder 153 = .ok (.dup, 1) := by decide +kernel
theorem dX7_readOrder_154 : decode cX7_readOrder 154 = .ok (.getfield 161, 3) := by decide +kernel
theorem dX7_readOrder_157 : decode cX7_readOrder 157 = .ok (.iconst 1, 1) := by decide +kernel
theorem dX7_readOrder_158 : decode cX7_readOrder 158 = .ok (.iadd, 1) := by decide +kernel
theorem dX7_readOrder_159 : decode cX7_readOrder 159 = .ok (.putfield 161, 3) := by decide +kernel
theorem dX7_readOrder_162 : decode cX7_readOrder 162 = .ok (.iload_n 2, 1) := by decide +kernel
theorem dX7_readOrder_163 : decode cX7_readOrder 163 = .ok (.ireturn, 1) := by decide +kernel
theorem dX7_isComplete_0 : decode cX7_isComplete 0 = .ok (.aload_n 0, 1) := by decide +kernel
theorem dX7_isComplete_1 : decode cX7_isComplete 1 = .ok (.iconst 0, 1) := by decide +kernel
theorem dX7_isComplete_2 : decode cX7_isComplete 2 = .ok (.putfield 151, 3) := by decide +kernel
theorem dX7_isComplete_5 : decode cX7_isComplete 5 = .ok (.aload_n 0, 1) := by decide +kernel
theorem dX7_isComplete_6 : decode cX7_isComplete 6 = .ok (.iconst 0, 1) := by decide +kernel
theorem dX7_isComplete_7 : decode cX7_isComplete 7 = .ok (.putfield 161, 3) := by decide +kernel
theorem dX7_isComplete_10 : decode cX7_isComplete 10 = .ok (.aload_n 0, 1) := by decide +kernel
theorem dX7_isComplete_11 : decode cX7_isComplete 11 = .ok (.invokevirtual 177, 3) := by decide +kernel
theorem dX7_isComplete_14 : decode cX7_isComplete 14 = .ok (.istore_n 1, 1) := by decide +kernel
theorem dX7_isComplete_15 : decode cX7_isComplete 15 = .ok (.iload_n 1, 1) := by decide +kernel
theorem dX7_isComplete_16 : decode cX7_isComplete 16 = .ok (.ifCond .eq 22, 3) := by decide +kernel
theorem dX7_isComplete_19 : decode cX7_isComplete 19 = .ok (.aload_n 0, 1) := by decide +kernel
theorem dX7_isComplete_20 : decode cX7_isComplete 20 = .ok (.bipush 59, 2) := by decide +kernel
theorem dX7_isComplete_22 : decode cX7_isComplete 22 = .ok (.bipush 59, 2) := by decide +kernel
theorem dX7_isComplete_24 : decode cX7_isComplete 24 = .ok (.invokevirtual 154, 3) := by decide +kernel
theorem dX7_isComplete_27 : decode cX7_isComplete 27 = .ok (.ifCond .eq 11, 3) := by decide +kernel
theorem dX7_isComplete_30 : decode cX7_isComplete 30 = .ok (.aload_n 0, 1) := by decide +kernel
theorem dX7_isComplete_31 : decode cX7_isComplete 31 = .ok (.invokevirtual 177, 3) := by decide +kernel
theorem dX7_isComplete_34 : decode cX7_isComplete 34 = .ok (.istore_n 1, 1) := by decide +kernel
theorem dX7_isComplete_35 : decode cX7_isComplete 35 = .ok (.goto (-20), 3) := by decide +kernel
theorem dX7_isComplete_38 : decode cX7_isComplete 38 = .ok (.iload_n 1, 1) := by decide +kernel
theorem dX7_isComplete_39 : decode cX7_isComplete 39 = .ok (.ifCond .eq 18, 3) := by decide +kernel
theorem dX7_isComplete_42 : decode cX7_isComplete 42 = .ok (.aload_n 0, 1) := by decide +kernel
theorem dX7_isComplete_43 : decode cX7_isComplete 43 = .ok (.getfield 151, 3) := by decide +kernel
theorem dX7_isComplete_46 : decode cX7_isComplete 46 = .ok (.aload_n 0, 1) := by decide +kernel
theorem dX7_isComplete_47 : decode cX7_isComplete 47 = .ok (.getfield 148, 3) := by decide +kernel
theorem dX7_isComplete_50 : decode cX7_isComplete 50 = .ok (.if_icmp .ne 7, 3) := by decide +kernel
theorem dX7_isComplete_53 : decode cX7_isComplete 53 = .ok (.iconst 1, 1) := by decide +kernel
theorem dX7_isComplete_54 : decode cX7_isComplete 54 = .ok (.goto 4, 3) := by decide +kernel
theorem dX7_isComplete_57 : decode cX7_isComplete 57 = .ok (.iconst 0, 1) := by decide +kernel
theorem dX7_isComplete_58 : decode cX7_isComplete 58 = .ok (.ireturn, 1) := by decide +kernel
theorem dX7_firstError_0 : decode cX7_firstError 0 = .ok (.aload_n 0, 1) := by decide +kernel
theorem dX7_firstError_1 : decode cX7_firstError 1 = .ok (.iconst 0, 1) := by decide +kernel
theorem dX7_firstError_2 : decode cX7_firstError 2 = .ok (.putfield 48, 3) := by decide +kernel
theorem dX7_firstError_5 : decode cX7_firstError 5 = .ok (.aload_n 0, 1) := by decide +kernel
theorem dX7_firstError_6 : decode cX7_firstError 6 = .ok (.invokevirtual 180, 3) := by decide +kernel
theorem dX7_firstError_9 : decode cX7_firstError 9 = .ok (.ifCond .eq 10, 3) := by decide +kernel
theorem dX7_firstError_12 : decode cX7_firstError 12 = .ok (.aload_n 0, 1) := by decide +kernel
theorem dX7_firstError_13 : decode cX7_firstError 13 = .ok (.getfield 148, 3) := by decide +kernel
theorem dX7_firstError_16 : decode cX7_firstError 16 = .ok (.goto 7, 3) := by decide +kernel
theorem dX7_firstError_19 : decode cX7_firstError 19 = .ok (.aload_n 0, 1) := by decide +kernel
theorem dX7_firstError_20 : decode cX7_firstError 20 = .ok (.getfield 151, 3) := by decide +kernel
theorem dX7_firstError_23 : decode cX7_firstError 23 = .ok (.ireturn, 1) := by decide +kernel
theorem dX7_canDo_0 : decode cX7_canDo 0 = .ok (.aload_n 0, 1) := by decide +kernel
theorem dX7_canDo_1 : decode cX7_canDo 1 = .ok (.getfield 35, 3) := by decide +kernel
theorem dX7_canDo_4 : decode cX7_canDo 4 = .ok (.iload_n 1, 1) := by decide +kernel
theorem dX7_canDo_5 : decode cX7_canDo 5 = .ok (.iaload, 1) := by decide +kernel
theorem dX7_canDo_6 : decode cX7_canDo 6 = .ok (.bipush 116, 2) := by decide +kernel
theorem dX7_canDo_8 : decode cX7_canDo 8 = .ok (.if_icmp .ne 23, 3) := by decide +kernel
theorem dX7_canDo_11 : decode cX7_canDo 11 = .ok (.aload_n 0, 1) := by decide +kernel
theorem dX7_canDo_12 : decode cX7_canDo 12 = .ok (.getfield 7, 3) := by decide +kernel
theorem dX7_canDo_15 : decode cX7_canDo 15 = .ok (.bipush 15, 2) := by decide +kernel
theorem dX7_canDo_17 : decode cX7_canDo 17 = .ok (.iaload, 1) := by decide +kernel
theorem dX7_canDo_18 : decode cX7_canDo 18 = .ok (.bipush 10, 2) := by decide +kernel
theorem dX7_canDo_20 : decode cX7_canDo 20 = .ok (.if_icmp .ge 7, 3) := by decide +kernel
theorem dX7_canDo_23 : decode cX7_canDo 23 = .ok (.iconst 1, 1) := by decide +kernel
theorem dX7_canDo_24 : decode cX7_canDo 24 = .ok (.goto 67, 3) := by decide +kernel
theorem dX7_canDo_27 : decode cX7_canDo 27 = .ok (.iconst 0, 1) := by decide +kernel
theorem dX7_canDo_28 : decode cX7_canDo 28 = .ok (.goto 63, 3) := by decide +kernel
theorem dX7_canDo_31 : decode cX7_canDo 31 = .ok (.aload_n 0, 1) := by decide +kernel
theorem dX7_canDo_32 : decode cX7_canDo 32 = .ok (.getfield 35, 3) := by decide +kernel
theorem dX7_canDo_35 : decode cX7_canDo 35 = .ok (.iload_n 1, 1) := by decide +kernel
theorem dX7_canDo_36 : decode cX7_canDo 36 = .ok (.iaload, 1) := by decide +kernel
theorem dX7_canDo_37 : decode cX7_canDo 37 = .ok (.bipush 104, 2) := by decide +kernel
theorem dX7_canDo_39 : decode cX7_canDo 39 = .ok (.if_icmp .ne 23, 3) := by decide +kernel
theorem dX7_canDo_42 : decode cX7_canDo 42 = .ok (.aload_n 0, 1) := by decide +kernel
theorem dX7_canDo_43 : decode cX7_canDo 43 = .ok (.getfield 7, 3) := by decide +kernel
theorem dX7_canDo_46 : decode cX7_canDo 46 = .ok (.iconst 0, 1) := by decide +kernel
theorem dX7_canDo_47 : decode cX7_canDo 47 = .ok (.iaload, 1) := by decide +kernel
theorem dX7_canDo_48 : decode cX7_canDo 48 = .ok (.sipush 9999, 3) := by decide +kernel
theorem dX7_canDo_51 : decode cX7_canDo 51 = .ok (.if_icmp .ge 7, 3) := by decide +kernel
theorem dX7_canDo_54 : decode cX7_canDo 54 = .ok (.iconst 1, 1) := by decide +kernel
theorem dX7_canDo_55 : decode cX7_canDo 55 = .ok (.goto 36, 3) := by decide +kernel
theorem dX7_canDo_58 : decode cX7_canDo 58 = .ok (.iconst 0, 1) := by decide +kernel
theorem dX7_canDo_59 : decode cX7_canDo 59 = .ok (.goto 32, 3) := by decide +kernel
theorem dX7_canDo_62 : decode cX7_canDo 62 = .ok (.aload_n 0, 1) := by decide +kernel
theorem dX7_canDo_63 : decode cX7_canDo 63 = .ok (.getfield 35, 3) := by decide +kernel
theorem dX7_canDo_66 : decode cX7_canDo 66 = .ok (.iload_n 1, 1) := by decide +kernel
theorem dX7_canDo_67 : decode cX7_canDo 67 = .ok (.iaload, 1) := by decide +kernel
theorem dX7_canDo_68 : decode cX7_canDo 68 = .ok (.bipush 112, 2) := by decide +kernel
theorem dX7_canDo_70 : decode cX7_canDo 70 = .ok (.if_icmp .eq 16, 3) := by decide +kernel
theorem dX7_canDo_73 : decode cX7_canDo 73 = .ok (.aload_n 0, 1) := by decide +kernel
theorem dX7_canDo_74 : decode cX7_canDo 74 = .ok (.aload_n 0, 1) := by decide +kernel
theorem dX7_canDo_75 : decode cX7_canDo 75 = .ok (.getfield 38, 3) := by decide +kernel
theorem dX7_canDo_78 : decode cX7_canDo 78 = .ok (.iload_n 1, 1) := by decide +kernel
theorem dX7_canDo_79 : decode cX7_canDo 79 = .ok (.iaload, 1) := by decide +kernel
theorem dX7_canDo_80 : decode cX7_canDo 80 = .ok (.invokevirtual 141, 3) := by decide +kernel
theorem dX7_canDo_83 : decode cX7_canDo 83 = .ok (.ifCond .eq 7, 3) := by decide +kernel
theorem dX7_canDo_86 : decode cX7_canDo 86 = .ok (.iconst 1, 1) := by decide +kernel
theorem dX7_canDo_87 : decode cX7_canDo 87 = .ok (.goto 4, 3) := by decide +kernel
theorem dX7_canDo_90 : decode cX7_canDo 90 = .ok (.iconst 0, 1) := by decide +kernel
theorem dX7_canDo_91 : decode cX7_canDo 91 = .ok (.ireturn, 1) := by decide +kernel
theorem dX7_doOrder_0 : decode cX7_doOrder 0 = .ok (.aload_n 0, 1) := by decide +kernel
theorem dX7_doOrder_1 : decode cX7_doOrder 1 = .ok (.getfield 35, 3) := by decide +kernel
theorem dX7_doOrder_4 : decode cX7_doOrder 4 = .ok (.iload_n 1, 1) := by decide +kernel
theorem dX7_doOrder_5 : decode cX7_doOrder 5 = .ok (.iaload, 1) := by decide +kernel
theorem dX7_doOrder_6 : decode cX7_doOrder 6 = .ok (.lookupswitch 89 #[(104, 58), (112, 72), (116, 34)], 34) := by decide +kernel
theorem dX7_doOrder_40 : decode cX7_doOrder 40 = .ok (.aload_n 0, 1) := by decide +kernel
theorem dX7_doOrder_41 : decode cX7_doOrder 41 = .ok (.aload_n 0, 1) := by decide +kernel
theorem dX7_doOrder_42 : decode cX7_doOrder 42 = .ok (.getfield 38, 3) := by decide +kernel
theorem dX7_doOrder_45 : decode cX7_doOrder 45 = .ok (.iload_n 1, 1) := by decide +kernel
theorem dX7_doOrder_46 : decode cX7_doOrder 46 = .ok (.iaload, 1) := by decide +kernel
theorem dX7_doOrder_47 : decode cX7_doOrder 47 = .ok (.aload_n 0, 1) := by decide +kernel
theorem dX7_doOrder_48 : decode cX7_doOrder 48 = .ok (.getfield 41, 3) := by decide +kernel
theorem dX7_doOrder_51 : decode cX7_doOrder 51 = .ok (.iload_n 1, 1) := by decide +kernel
theorem dX7_doOrder_52 : decode cX7_doOrder 52 = .ok (.iaload, 1) := by decide +kernel
theorem dX7_doOrder_53 : decode cX7_doOrder 53 = .ok (.iconst 0, 1) := by decide +kernel
theorem dX7_doOrder_54 : decode cX7_doOrder 54 = .ok (.aload_n 0, 1) := by decide +kernel
theorem dX7_doOrder_55 : decode cX7_doOrder 55 = .ok (.getfield 44, 3) := by decide +kernel
theorem dX7_doOrder_58 : decode cX7_doOrder 58 = .ok (.iload_n 1, 1) := by decide +kernel
theorem dX7_doOrder_59 : decode cX7_doOrder 59 = .ok (.iaload, 1) := by decide +kernel
theorem dX7_doOrder_60 : decode cX7_doOrder 60 = .ok (.invokevirtual 128, 3) := by decide +kernel
theorem dX7_doOrder_63 : decode cX7_doOrder 63 = .ok (.ireturn, 1) := by decide +kernel
theorem dX7_doOrder_64 : decode cX7_doOrder 64 = .ok (.aload_n 0, 1) := by decide +kernel
theorem dX7_doOrder_65 : decode cX7_doOrder 65 = .ok (.bipush 100, 2) := by decide +kernel
theorem dX7_doOrder_67 : decode cX7_doOrder 67 = .ok (.aload_n 0, 1) := by decide +kernel
theorem dX7_doOrder_68 : decode cX7_doOrder 68 = .ok (.getfield 38, 3) := by decide +kernel
theorem dX7_doOrder_71 : decode cX7_doOrder 71 = .ok (.iload_n 1, 1) := by decide +kernel
theorem dX7_doOrder_72 : decode cX7_doOrder 72 = .ok (.iaload, 1) := by decide +kernel
theorem dX7_doOrder_73 : decode cX7_doOrder 73 = .ok (.imul, 1) := by decide +kernel
theorem dX7_doOrder_74 : decode cX7_doOrder 74 = .ok (.invokevirtual 135, 3) := by decide +kernel
theorem dX7_doOrder_77 : decode cX7_doOrder 77 = .ok (.ireturn, 1) := by decide +kernel
theorem dX7_doOrder_78 : decode cX7_doOrder 78 = .ok (.aload_n 0, 1) := by decide +kernel
theorem dX7_doOrder_79 : decode cX7_doOrder 79 = .ok (.aload_n 0, 1) := by decide +kernel
theorem dX7_doOrder_80 : decode cX7_doOrder 80 = .ok (.getfield 38, 3) := by decide +kernel
theorem dX7_doOrder_83 : decode cX7_doOrder 83 = .ok (.iload_n 1, 1) := by decide +kernel
theorem dX7_doOrder_84 : decode cX7_doOrder 84 = .ok (.iaload, 1) := by decide +kernel
theorem dX7_doOrder_85 : decode cX7_doOrder 85 = .ok (.aload_n 0, 1) := by decide +kernel
theorem dX7_doOrder_86 : decode cX7_doOrder 86 = .ok (.getfield 41, 3) := by decide +kernel
theorem dX7_doOrder_89 : decode cX7_doOrder 89 = .ok (.iload_n 1, 1) := by decide +kernel
theorem dX7_doOrder_90 : decode cX7_doOrder 90 = .ok (.iaload, 1) := by decide +kernel
theorem dX7_doOrder_91 : decode cX7_doOrder 91 = .ok (.invokevirtual 138, 3) := by decide +kernel
theorem dX7_doOrder_94 : decode cX7_doOrder 94 = .ok (.ireturn, 1) := by decide +kernel
theorem dX7_doOrder_95 : decode cX7_doOrder 95 = .ok (.aload_n 0, 1) := by decide +kernel
theorem dX7_doOrder_96 : decode cX7_doOrder 96 = .ok (.aload_n 0, 1) := by decide +kernel
theorem dX7_doOrder_97 : decode cX7_doOrder 97 = .ok (.getfield 38, 3) := by decide +kernel
theorem dX7_doOrder_100 : decode cX7_doOrder 100 = .ok (.iload_n 1, 1) := by decide +kernel
theorem dX7_doOrder_101 : decode cX7_doOrder 101 = .ok (.iaload, 1) := by decide +kernel
theorem dX7_doOrder_102 : decode cX7_doOrder 102 = .ok (.invokevirtual 144, 3) := by decide +kernel
theorem dX7_doOrder_105 : decode cX7_doOrder 105 = .ok (.ireturn, 1) := by decide +kernel
theorem dX7_execute_0 : decode cX7_execute 0 = .ok (.aload_n 0, 1) := by decide +kernel
theorem dX7_execute_1 : decode cX7_execute 1 = .ok (.iconst 0, 1) := by decide +kernel
theorem dX7_execute_2 : decode cX7_execute 2 = .ok (.putfield 48, 3) := by decide +kernel
theorem dX7_execute_5 : decode cX7_execute 5 = .ok (.aload_n 0, 1) := by decide +kernel
theorem dX7_execute_6 : decode cX7_execute 6 = .ok (.invokevirtual 180, 3) := by decide +kernel
theorem dX7_execute_9 : decode cX7_execute 9 = .ok (.ifCond .ne 9, 3) := by decide +kernel
theorem dX7_execute_12 : decode cX7_execute 12 = .ok (.aload_n 0, 1) := by decide +kernel
theorem dX7_execute_13 : decode cX7_execute 13 = .ok (.iconst 1, 1) := by decide +kernel
theorem dX7_execute_14 : decode cX7_execute 14 = .ok (.invokevirtual 59, 3) := by decide +kernel
theorem dX7_execute_17 : decode cX7_execute 17 = .ok (.ireturn, 1) := by decide +kernel
theorem dX7_execute_18 : decode cX7_execute 18 = .ok (.aload_n 0, 1) := by decide +kernel
theorem dX7_execute_19 : decode cX7_execute 19 = .ok (.invokevirtual 63, 3) := by decide +kernel
theorem dX7_execute_22 : decode cX7_execute 22 = .ok (.iconst 0, 1) := by decide +kernel
theorem dX7_execute_23 : decode cX7_execute 23 = .ok (.istore_n 1, 1) := by decide +kernel
theorem dX7_execute_24 : decode cX7_execute 24 = .ok (.iload_n 1, 1) := by decide +kernel
theorem dX7_execute_25 : decode cX7_execute 25 = .ok (.aload_n 0, 1) := by decide +kernel
theorem dX7_execute_26 : decode cX7_execute 26 = .ok (.getfield 161, 3) := by decide +kernel
theorem dX7_execute_29 : decode cX7_execute 29 = .ok (.if_icmp .ge 23, 3) := by decide +kernel
theorem dX7_execute_32 : decode cX7_execute 32 = .ok (.aload_n 0, 1) := by decide +kernel
theorem dX7_execute_33 : decode cX7_execute 33 = .ok (.iload_n 1, 1) := by decide +kernel
theorem dX7_execute_34 : decode cX7_execute 34 = .ok (.invokevirtual 183, 3) := by decide +kernel
theorem dX7_execute_37 : decode cX7_execute 37 = .ok (.ifCond .eq 15, 3) := by decide +kernel
theorem dX7_execute_40 : decode cX7_execute 40 = .ok (.aload_n 0, 1) := by decide +kernel
theorem dX7_execute_41 : decode cX7_execute 41 = .ok (.iload_n 1, 1) := by decide +kernel
theorem dX7_execute_42 : decode cX7_execute 42 = .ok (.invokevirtual 186, 3) := by decide +kernel
theorem dX7_execute_45 : decode cX7_execute 45 = .ok (.istore_n 2, 1) := by decide +kernel
theorem dX7_execute_46 : decode cX7_execute 46 = .ok (.iinc 1 1, 3) := by decide +kernel
theorem dX7_execute_49 : decode cX7_execute 49 = .ok (.goto (-25), 3) := by decide +kernel
theorem dX7_execute_52 : decode cX7_execute 52 = .ok (.aload_n 0, 1) := by decide +kernel
theorem dX7_execute_53 : decode cX7_execute 53 = .ok (.iconst 0, 1) := by decide +kernel
theorem dX7_execute_54 : decode cX7_execute 54 = .ok (.putfield 148, 3) := by decide +kernel
theorem dX7_execute_57 : decode cX7_execute 57 = .ok (.iload_n 1, 1) := by decide +kernel
theorem dX7_execute_58 : decode cX7_execute 58 = .ok (.ireturn, 1) := by decide +kernel
theorem dX7_ofThermometer_0 : decode cX7_ofThermometer 0 = .ok (.aload_n 0, 1) := by decide +kernel
theorem dX7_ofThermometer_1 : decode cX7_ofThermometer 1 = .ok (.iconst 0, 1) := by decide +kernel
theorem dX7_ofThermometer_2 : decode cX7_ofThermometer 2 = .ok (.putfield 48, 3) := by decide +kernel
theorem dX7_ofThermometer_5 : decode cX7_ofThermometer 5 = .ok (.aload_n 0, 1) := by decide +kernel
theorem dX7_ofThermometer_6 : decode cX7_ofThermometer 6 = .ok (.iload_n 1, 1) := by decide +kernel
theorem dX7_ofThermometer_7 : decode cX7_ofThermometer 7 = .ok (.invokevirtual 141, 3) := by decide +kernel
theorem dX7_ofThermometer_10 : decode cX7_ofThermometer 10 = .ok (.ifCond .ne 9, 3) := by decide +kernel
theorem dX7_ofThermometer_13 : decode cX7_ofThermometer 13 = .ok (.aload_n 0, 1) := by decide +kernel
theorem dX7_ofThermometer_14 : decode cX7_ofThermometer 14 = .ok (.iconst 1, 1) := by decide +kernel
theorem dX7_ofThermometer_15 : decode cX7_ofThermometer 15 = .ok (.invokevirtual 59, 3) := by decide +kernel
theorem dX7_ofThermometer_18 : decode cX7_ofThermometer 18 = .ok (.ireturn, 1) := by decide +kernel
theorem dX7_ofThermometer_19 : decode cX7_ofThermometer 19 = .ok (.iload_n 2, 1) := by decide +kernel
theorem dX7_ofThermometer_20 : decode cX7_ofThermometer 20 = .ok (.iconst 0, 1) := by decide +kernel
theorem dX7_ofThermometer_21 : decode cX7_ofThermometer 21 = .ok (.bipush 9, 2) := by decide +kernel
theorem dX7_ofThermometer_23 : decode cX7_ofThermometer 23 = .ok (.invokestatic 52, 3) := by decide +kernel
theorem dX7_ofThermometer_26 : decode cX7_ofThermometer 26 = .ok (.ifCond .ne 9, 3) := by decide +kernel
theorem dX7_ofThermometer_29 : decode cX7_ofThermometer 29 = .ok (.aload_n 0, 1) := by decide +kernel
theorem dX7_ofThermometer_30 : decode cX7_ofThermometer 30 = .ok (.iconst 2, 1) := by decide +kernel
theorem dX7_ofThermometer_31 : decode cX7_ofThermometer 31 = .ok (.invokevirtual 59, 3) := by decide +kernel
theorem dX7_ofThermometer_34 : decode cX7_ofThermometer 34 = .ok (.ireturn, 1) := by decide +kernel
theorem dX7_ofThermometer_35 : decode cX7_ofThermometer 35 = .ok (.iload_n 2, 1) := by decide +kernel
theorem dX7_ofThermometer_36 : decode cX7_ofThermometer 36 = .ok (.bipush 9, 2) := by decide +kernel
theorem dX7_ofThermometer_38 : decode cX7_ofThermometer 38 = .ok (.if_icmp .ne 11, 3) := by decide +kernel
theorem dX7_ofThermometer_41 : decode cX7_ofThermometer 41 = .ok (.aload_n 0, 1) := by decide +kernel
theorem dX7_ofThermometer_42 : decode cX7_ofThermometer 42 = .ok (.iload_n 1, 1) := by decide +kernel
theorem dX7_ofThermometer_43 : decode cX7_ofThermometer 43 = .ok (.invokevirtual 80, 3) := by decide +kernel
theorem dX7_ofThermometer_46 : decode cX7_ofThermometer 46 = .ok (.goto 9, 3) := by decide +kernel
theorem dX7_ofThermometer_49 : decode cX7_ofThermometer 49 = .ok (.aload_n 0, 1) := by decide +kernel
theorem dX7_ofThermometer_50 : decode cX7_ofThermometer 50 = .ok (.iload_n 1, 1) := by decide +kernel
theorem dX7_ofThermometer_51 : decode cX7_ofThermometer 51 = .ok (.iload_n 2, 1) := by decide +kernel
theorem dX7_ofThermometer_52 : decode cX7_ofThermometer 52 = .ok (.invokevirtual 66, 3) := by decide +kernel
theorem dX7_ofThermometer_55 : decode cX7_ofThermometer 55 = .ok (.ireturn, 1) := by decide +kernel
theorem dX7_reading_0 : decode cX7_reading 0 = .ok (.aload_n 0, 1) := by decide +kernel
theorem dX7_reading_1 : decode cX7_reading 1 = .ok (.iconst 0, 1) := by decide +kernel
theorem dX7_reading_2 : decode cX7_reading 2 = .ok (.putfield 48, 3) := by decide +kernel
theorem dX7_reading_5 : decode cX7_reading 5 = .ok (.aload_n 0, 1) := by decide +kernel
theorem dX7_reading_6 : decode cX7_reading 6 = .ok (.iload_n 1, 1) := by decide +kernel
theorem dX7_reading_7 : decode cX7_reading 7 = .ok (.invokevirtual 141, 3) := by decide +kernel
theorem dX7_reading_10 : decode cX7_reading 10 = .ok (.ifCond .ne 9, 3) := by decide +kernel
theorem dX7_reading_13 : decode cX7_reading 13 = .ok (.aload_n 0, 1) := by decide +kernel
theorem dX7_reading_14 : decode cX7_reading 14 = .ok (.iconst 1, 1) := by decide +kernel
theorem dX7_reading_15 : decode cX7_reading 15 = .ok (.invokevirtual 59, 3) := by decide +kernel
theorem dX7_reading_18 : decode cX7_reading 18 = .ok (.ireturn, 1) := by decide +kernel
theorem dX7_reading_19 : decode cX7_reading 19 = .ok (.iload_n 2, 1) := by decide +kernel
theorem dX7_reading_20 : decode cX7_reading 20 = .ok (.ifCond .lt 12, 3) := by decide +kernel
theorem dX7_reading_23 : decode cX7_reading 23 = .ok (.iload_n 3, 1) := by decide +kernel
theorem dX7_reading_24 : decode cX7_reading 24 = .ok (.iconst 0, 1) := by decide +kernel
theorem dX7_reading_25 : decode cX7_reading 25 = .ok (.iconst 1, 1) := by decide +kernel
theorem dX7_reading_26 : decode cX7_reading 26 = .ok (.invokestatic 52, 3) := by decide +kernel
theorem dX7_reading_29 : decode cX7_reading 29 = .ok (.ifCond .ne 9, 3) := by decide +kernel
theorem dX7_reading_32 : decode cX7_reading 32 = .ok (.aload_n 0, 1) := by decide +kernel
theorem dX7_reading_33 : decode cX7_reading 33 = .ok (.iconst 2, 1) := by decide +kernel
theorem dX7_reading_34 : decode cX7_reading 34 = .ok (.invokevirtual 59, 3) := by decide +kernel
theorem dX7_reading_37 : decode cX7_reading 37 = .ok (.ireturn, 1) := by decide +kernel
theorem dX7_reading_38 : decode cX7_reading 38 = .ok (.iload_n 2, 1) := by decide +kernel
theorem dX7_reading_39 : decode cX7_reading 39 = .ok (.aload_n 0, 1) := by decide +kernel
theorem dX7_reading_40 : decode cX7_reading 40 = .ok (.iload_n 1, 1) := by decide +kernel
theorem dX7_reading_41 : decode cX7_reading 41 = .ok (.bipush 7, 2) := by decide +kernel
theorem dX7_reading_43 : decode cX7_reading 43 = .ok (.invokevirtual 66, 3) := by decide +kernel
theorem dX7_reading_46 : decode cX7_reading 46 = .ok (.if_icmp .ge 19, 3) := by decide +kernel
theorem dX7_reading_49 : decode cX7_reading 49 = .ok (.aload_n 0, 1) := by decide +kernel
theorem dX7_reading_50 : decode cX7_reading 50 = .ok (.iload_n 1, 1) := by decide +kernel
theorem dX7_reading_51 : decode cX7_reading 51 = .ok (.bipush 9, 2) := by decide +kernel
theorem dX7_reading_53 : decode cX7_reading 53 = .ok (.iconst 2, 1) := by decide +kernel
theorem dX7_reading_54 : decode cX7_reading 54 = .ok (.iload_n 2, 1) := by decide +kernel
theorem dX7_reading_55 : decode cX7_reading 55 = .ok (.imul, 1) := by decide +kernel
theorem dX7_reading_56 : decode cX7_reading 56 = .ok (.iadd, 1) := by decide +kernel
theorem dX7_reading_57 : decode cX7_reading 57 = .ok (.iload_n 3, 1) := by decide +kernel
theorem dX7_reading_58 : decode cX7_reading 58 = .ok (.iadd, 1) := by decide +kernel
theorem dX7_reading_59 : decode cX7_reading 59 = .ok (.invokevirtual 66, 3) := by decide +kernel
theorem dX7_reading_62 : decode cX7_reading 62 = .ok (.goto 5, 3) := by decide +kernel
theorem dX7_reading_65 : decode cX7_reading 65 = .ok (.ldc 47, 2) := by decide +kernel
theorem dX7_reading_67 : decode cX7_reading 67 = .ok (.ireturn, 1) := by decide +kernel
theorem dX7_inRow_0 : decode cX7_inRow 0 = .ok (.iconst 0, 1) := by decide +kernel
theorem dX7_inRow_1 : decode cX7_inRow 1 = .ok (.istore_n 2, 1) := by decide +kernel
theorem dX7_inRow_2 : decode cX7_inRow 2 = .ok (.iconst 0, 1) := by decide +kernel
theorem dX7_inRow_3 : decode cX7_inRow 3 = .ok (.istore_n 3, 1) := by decide +kernel
theorem dX7_inRow_4 : decode cX7_inRow 4 = .ok (.iload_n 3, 1) := by decide +kernel
theorem dX7_inRow_5 : decode cX7_inRow 5 = .ok (.aload_n 0, 1) := by decide +kernel
theorem dX7_inRow_6 : decode cX7_inRow 6 = .ok (.getfield 7, 3) := by decide +kernel
theorem dX7_inRow_9 : decode cX7_inRow 9 = .ok (.bipush 15, 2) := by decide +kernel
theorem dX7_inRow_11 : decode cX7_inRow 11 = .ok (.iaload, 1) := by decide +kernel
theorem dX7_inRow_12 : decode cX7_inRow 12 = .ok (.if_icmp .ge 27, 3) := by decide +kernel
theorem dX7_inRow_15 : decode cX7_inRow 15 = .ok (.iload_n 2, 1) := by decide +kernel
theorem dX7_inRow_16 : decode cX7_inRow 16 = .ok (.aload_n 0, 1) := by decide +kernel
theorem dX7_inRow_17 : decode cX7_inRow 17 = .ok (.iload_n 3, 1) := by decide +kernel
theorem dX7_inRow_18 : decode cX7_inRow 18 = .ok (.iconst 0, 1) := by decide +kernel
theorem dX7_inRow_19 : decode cX7_inRow 19 = .ok (.invokevirtual 66, 3) := by decide +kernel
theorem dX7_inRow_22 : decode cX7_inRow 22 = .ok (.iload_n 1, 1) := by decide +kernel
theorem dX7_inRow_23 : decode cX7_inRow 23 = .ok (.if_icmp .ne 7, 3) := by decide +kernel
theorem dX7_inRow_26 : decode cX7_inRow 26 = .ok (.iconst 1, 1) := by decide +kernel
theorem dX7_inRow_27 : decode cX7_inRow 27 = .ok (.goto 4, 3) := by decide +kernel
theorem dX7_inRow_30 : decode cX7_inRow 30 = .ok (.iconst 0, 1) := by decide +kernel
theorem dX7_inRow_31 : decode cX7_inRow 31 = .ok (.iadd, 1) := by decide +kernel
theorem dX7_inRow_32 : decode cX7_inRow 32 = .ok (.istore_n 2, 1) := by decide +kernel
theorem dX7_inRow_33 : decode cX7_inRow 33 = .ok (.iinc 3 1, 3) := by decide +kernel
theorem dX7_inRow_36 : decode cX7_inRow 36 = .ok (.goto (-32), 3) := by decide +kernel
theorem dX7_inRow_39 : decode cX7_inRow 39 = .ok (.iload_n 2, 1) := by decide +kernel
theorem dX7_inRow_40 : decode cX7_inRow 40 = .ok (.ireturn, 1) := by decide +kernel
theorem dX7_ofRow_0 : decode cX7_ofRow 0 = .ok (.aload_n 0, 1) := by decide +kernel
theorem dX7_ofRow_1 : decode cX7_ofRow 1 = .ok (.getfield 7, 3) := by decide +kernel
theorem dX7_ofRow_4 : decode cX7_ofRow 4 = .ok (.iconst 4, 1) := by decide +kernel
theorem dX7_ofRow_5 : decode cX7_ofRow 5 = .ok (.iload_n 1, 1) := by decide +kernel
theorem dX7_ofRow_6 : decode cX7_ofRow 6 = .ok (.iadd, 1) := by decide +kernel
theorem dX7_ofRow_7 : decode cX7_ofRow 7 = .ok (.iaload, 1) := by decide +kernel
theorem dX7_ofRow_8 : decode cX7_ofRow 8 = .ok (.istore_n 3, 1) := by decide +kernel
theorem dX7_ofRow_9 : decode cX7_ofRow 9 = .ok (.iload_n 2, 1) := by decide +kernel
theorem dX7_ofRow_10 : decode cX7_ofRow 10 = .ok (.ifCond .ne 7, 3) := by decide +kernel
theorem dX7_ofRow_13 : decode cX7_ofRow 13 = .ok (.iload_n 3, 1) := by decide +kernel
theorem dX7_ofRow_14 : decode cX7_ofRow 14 = .ok (.goto 43, 3) := by decide +kernel
theorem dX7_ofRow_17 : decode cX7_ofRow 17 = .ok (.iload_n 2, 1) := by decide +kernel
theorem dX7_ofRow_18 : decode cX7_ofRow 18 = .ok (.iconst 1, 1) := by decide +kernel
theorem dX7_ofRow_19 : decode cX7_ofRow 19 = .ok (.if_icmp .ne 11, 3) := by decide +kernel
theorem dX7_ofRow_22 : decode cX7_ofRow 22 = .ok (.aload_n 0, 1) := by decide +kernel
theorem dX7_ofRow_23 : decode cX7_ofRow 23 = .ok (.iload_n 1, 1) := by decide +kernel
theorem dX7_ofRow_24 : decode cX7_ofRow 24 = .ok (.invokevirtual 189, 3) := by decide +kernel
theorem dX7_ofRow_27 : decode cX7_ofRow 27 = .ok (.goto 30, 3) := by decide +kernel
theorem dX7_ofRow_30 : decode cX7_ofRow 30 = .ok (.iload_n 2, 1) := by decide +kernel
theorem dX7_ofRow_31 : decode cX7_ofRow 31 = .ok (.iconst 2, 1) := by decide +kernel
theorem dX7_ofRow_32 : decode cX7_ofRow 32 = .ok (.if_icmp .ne 16, 3) := by decide +kernel
theorem dX7_ofRow_35 : decode cX7_ofRow 35 = .ok (.iload_n 3, 1) := by decide +kernel
theorem dX7_ofRow_36 : decode cX7_ofRow 36 = .ok (.aload_n 0, 1) := by decide +kernel
theorem dX7_ofRow_37 : decode cX7_ofRow 37 = .ok (.getfield 7, 3) := by decide +kernel
theorem dX7_ofRow_40 : decode cX7_ofRow 40 = .ok (.iconst 0, 1) := by decide +kernel
theorem dX7_ofRow_41 : decode cX7_ofRow 41 = .ok (.iaload, 1) := by decide +kernel
theorem dX7_ofRow_42 : decode cX7_ofRow 42 = .ok (.iload_n 3, 1) := by decide +kernel
theorem dX7_ofRow_43 : decode cX7_ofRow 43 = .ok (.irem, 1) := by decide +kernel
theorem dX7_ofRow_44 : decode cX7_ofRow 44 = .ok (.isub, 1) := by decide +kernel
theorem dX7_ofRow_45 : decode cX7_ofRow 45 = .ok (.goto 12, 3) := by decide +kernel
theorem dX7_ofRow_48 : decode cX7_ofRow 48 = .ok (.aload_n 0, 1) := by decide +kernel
theorem dX7_ofRow_49 : decode cX7_ofRow 49 = .ok (.getfield 7, 3) := by decide +kernel
theorem dX7_ofRow_52 : decode cX7_ofRow 52 = .ok (.bipush 8, 2) := by decide +kernel
theorem dX7_ofRow_54 : decode cX7_ofRow 54 = .ok (.iload_n 1, 1) := by decide +kernel
theorem dX7_ofRow_55 : decode cX7_ofRow 55 = .ok (.iadd, 1) := by decide +kernel
theorem dX7_ofRow_56 : decode cX7_ofRow 56 = .ok (.iaload, 1) := by decide +kernel
theorem dX7_ofRow_57 : decode cX7_ofRow 57 = .ok (.ireturn, 1) := by decide +kernel
theorem dX7_row_0 : decode cX7_row 0 = .ok (.aload_n 0, 1) := by decide +kernel
theorem dX7_row_1 : decode cX7_row 1 = .ok (.iconst 0, 1) := by decide +kernel
theorem dX7_row_2 : decode cX7_row 2 = .ok (.putfield 48, 3) := by decide +kernel
theorem dX7_row_5 : decode cX7_row 5 = .ok (.iload_n 1, 1) := by decide +kernel
theorem dX7_row_6 : decode cX7_row 6 = .ok (.invokestatic 122, 3) := by decide +kernel
theorem dX7_row_9 : decode cX7_row 9 = .ok (.ifCond .ne 9, 3) := by decide +kernel
theorem dX7_row_12 : decode cX7_row 12 = .ok (.aload_n 0, 1) := by decide +kernel
theorem dX7_row_13 : decode cX7_row 13 = .ok (.iconst 1, 1) := by decide +kernel
theorem dX7_row_14 : decode cX7_row 14 = .ok (.invokevirtual 59, 3) := by decide +kernel
theorem dX7_row_17 : decode cX7_row 17 = .ok (.ireturn, 1) := by decide +kernel
theorem dX7_row_18 : decode cX7_row 18 = .ok (.iload_n 2, 1) := by decide +kernel
theorem dX7_row_19 : decode cX7_row 19 = .ok (.iconst 0, 1) := by decide +kernel
theorem dX7_row_20 : decode cX7_row 20 = .ok (.iconst 3, 1) := by decide +kernel
theorem dX7_row_21 : decode cX7_row 21 = .ok (.invokestatic 52, 3) := by decide +kernel
theorem dX7_row_24 : decode cX7_row 24 = .ok (.ifCond .eq 12, 3) := by decide +kernel
theorem dX7_row_27 : decode cX7_row 27 = .ok (.aload_n 0, 1) := by decide +kernel
theorem dX7_row_28 : decode cX7_row 28 = .ok (.iload_n 1, 1) := by decide +kernel
theorem dX7_row_29 : decode cX7_row 29 = .ok (.iload_n 2, 1) := by decide +kernel
theorem dX7_row_30 : decode cX7_row 30 = .ok (.invokevirtual 192, 3) := by decide +kernel
theorem dX7_row_33 : decode cX7_row 33 = .ok (.goto 8, 3) := by decide +kernel
theorem dX7_row_36 : decode cX7_row 36 = .ok (.aload_n 0, 1) := by decide +kernel
theorem dX7_row_37 : decode cX7_row 37 = .ok (.iconst 2, 1) := by decide +kernel
theorem dX7_row_38 : decode cX7_row 38 = .ok (.invokevirtual 59, 3) := by decide +kernel
theorem dX7_row_41 : decode cX7_row 41 = .ok (.ireturn, 1) := by decide +kernel
theorem dX7_asked_0 : decode cX7_asked 0 = .ok (.iconst 0, 1) := by decide +kernel
theorem dX7_asked_1 : decode cX7_asked 1 = .ok (.istore_n 1, 1) := by decide +kernel
theorem dX7_asked_2 : decode cX7_asked 2 = .ok (.iconst 0, 1) := by decide +kernel
theorem dX7_asked_3 : decode cX7_asked 3 = .ok (.istore_n 2, 1) := by decide +kernel
theorem dX7_asked_4 : decode cX7_asked 4 = .ok (.iload_n 2, 1) := by decide +kernel
theorem dX7_asked_5 : decode cX7_asked 5 = .ok (.aload_n 0, 1) := by decide +kernel
theorem dX7_asked_6 : decode cX7_asked 6 = .ok (.getfield 7, 3) := by decide +kernel
theorem dX7_asked_9 : decode cX7_asked 9 = .ok (.bipush 15, 2) := by decide +kernel
theorem dX7_asked_11 : decode cX7_asked 11 = .ok (.iaload, 1) := by decide +kernel
theorem dX7_asked_12 : decode cX7_asked 12 = .ok (.if_icmp .ge 27, 3) := by decide +kernel
theorem dX7_asked_15 : decode cX7_asked 15 = .ok (.iload_n 1, 1) := by decide +kernel
theorem dX7_asked_16 : decode cX7_asked 16 = .ok (.aload_n 0, 1) := by decide +kernel
theorem dX7_asked_17 : decode cX7_asked 17 = .ok (.iload_n 2, 1) := by decide +kernel
theorem dX7_asked_18 : decode cX7_asked 18 = .ok (.invokevirtual 76, 3) := by decide +kernel
theorem dX7_asked_21 : decode cX7_asked 21 = .ok (.ifCond .eq 9, 3) := by decide +kernel
theorem dX7_asked_24 : decode cX7_asked 24 = .ok (.iconst 1, 1) := by decide +kernel
theorem dX7_asked_25 : decode cX7_asked 25 = .ok (.iload_n 2, 1) := by decide +kernel
theorem dX7_asked_26 : decode cX7_asked 26 = .ok (.ishl, 1) := by decide +kernel
theorem dX7_asked_27 : decode cX7_asked 27 = .ok (.goto 4, 3) := by decide +kernel
theorem dX7_asked_30 : decode cX7_asked 30 = .ok (.iconst 0, 1) := by decide +kernel
theorem dX7_asked_31 : decode cX7_asked 31 = .ok (.ior, 1) := by decide +kernel
theorem dX7_asked_32 : decode cX7_asked 32 = .ok (.istore_n 1, 1) := by decide +kernel
theorem dX7_asked_33 : decode cX7_asked 33 = .ok (.iinc 2 1, 3) := by decide +kernel
theorem dX7_asked_36 : decode cX7_asked 36 = .ok (.goto (-32), 3) := by decide +kernel
theorem dX7_asked_39 : decode cX7_asked 39 = .ok (.iload_n 1, 1) := by decide +kernel
theorem dX7_asked_40 : decode cX7_asked 40 = .ok (.ireturn, 1) := by decide +kernel
theorem dX7_shutOut_0 : decode cX7_shutOut 0 = .ok (.iconst 0, 1) := by decide +kernel
theorem dX7_shutOut_1 : decode cX7_shutOut 1 = .ok (.istore_n 1, 1) := by decide +kernel
theorem dX7_shutOut_2 : decode cX7_shutOut 2 = .ok (.iconst 0, 1) := by decide +kernel
theorem dX7_shutOut_3 : decode cX7_shutOut 3 = .ok (.istore_n 2, 1) := by decide +kernel
theorem dX7_shutOut_4 : decode cX7_shutOut 4 = .ok (.iload_n 2, 1) := by decide +kernel
theorem dX7_shutOut_5 : decode cX7_shutOut 5 = .ok (.aload_n 0, 1) := by decide +kernel
theorem dX7_shutOut_6 : decode cX7_shutOut 6 = .ok (.getfield 7, 3) := by decide +kernel
theorem dX7_shutOut_9 : decode cX7_shutOut 9 = .ok (.bipush 15, 2) := by decide +kernel
theorem dX7_shutOut_11 : decode cX7_shutOut 11 = .ok (.iaload, 1) := by decide +kernel
theorem dX7_shutOut_12 : decode cX7_shutOut 12 = .ok (.if_icmp .ge 21, 3) := by decide +kernel
theorem dX7_shutOut_15 : decode cX7_shutOut 15 = .ok (.iload_n 1, 1) := by decide +kernel
theorem dX7_shutOut_16 : decode cX7_shutOut 16 = .ok (.aload_n 0, 1) := by decide +kernel
theorem dX7_shutOut_17 : decode cX7_shutOut 17 = .ok (.iload_n 2, 1) := by decide +kernel
theorem dX7_shutOut_18 : decode cX7_shutOut 18 = .ok (.bipush 6, 2) := by decide +kernel
theorem dX7_shutOut_20 : decode cX7_shutOut 20 = .ok (.invokevirtual 66, 3) := by decide +kernel
theorem dX7_shutOut_23 : decode cX7_shutOut 23 = .ok (.iload_n 2, 1) := by decide +kernel
theorem dX7_shutOut_24 : decode cX7_shutOut 24 = .ok (.ishl, 1) := by decide +kernel
theorem dX7_shutOut_25 : decode cX7_shutOut 25 = .ok (.ior, 1) := by decide +kernel
theorem dX7_shutOut_26 : decode cX7_shutOut 26 = .ok (.istore_n 1, 1) := by decide +kernel
theorem dX7_shutOut_27 : decode cX7_shutOut 27 = .ok (.iinc 2 1, 3) := by decide +kernel
theorem dX7_shutOut_30 : decode cX7_shutOut 30 = .ok (.goto (-26), 3) := by decide +kernel
theorem dX7_shutOut_33 : decode cX7_shutOut 33 = .ok (.iload_n 1, 1) := by decide +kernel
theorem dX7_shutOut_34 : decode cX7_shutOut 34 = .ok (.ireturn, 1) := by decide +kernel
theorem dX7_number_0 : decode cX7_number 0 = .ok (.iload_n 1, 1) := by decide +kernel
theorem dX7_number_1 : decode cX7_number 1 = .ok (.tableswitch 138 0 11 #[63, 70, 78, 85, 90, 95, 100, 105, 112, 120, 128, 133], 63) := by decide +kernel
theorem dX7_number_64 : decode cX7_number 64 = .ok (.aload_n 0, 1) := by decide +kernel
theorem dX7_number_65 : decode cX7_number 65 = .ok (.getfield 7, 3) := by decide +kernel
theorem dX7_number_68 : decode cX7_number 68 = .ok (.iconst 0, 1) := by decide +kernel
theorem dX7_number_69 : decode cX7_number 69 = .ok (.iaload, 1) := by decide +kernel
theorem dX7_number_70 : decode cX7_number 70 = .ok (.ireturn, 1) := by decide +kernel
theorem dX7_number_71 : decode cX7_number 71 = .ok (.aload_n 0, 1) := by decide +kernel
theorem dX7_number_72 : decode cX7_number 72 = .ok (.getfield 7, 3) := by decide +kernel
theorem dX7_number_75 : decode cX7_number 75 = .ok (.bipush 15, 2) := by decide +kernel
theorem dX7_number_77 : decode cX7_number 77 = .ok (.iaload, 1) := by decide +kernel
theorem dX7_number_78 : decode cX7_number 78 = .ok (.ireturn, 1) := by decide +kernel
theorem dX7_number_79 : decode cX7_number 79 = .ok (.aload_n 0, 1) := by decide +kernel
theorem dX7_number_80 : decode cX7_number 80 = .ok (.getfield 7, 3) := by decide +kernel
theorem dX7_number_83 : decode cX7_number 83 = .ok (.iconst 1, 1) := by decide +kernel
theorem dX7_number_84 : decode cX7_number 84 = .ok (.iaload, 1) := by decide +kernel
theorem dX7_number_85 : decode cX7_number 85 = .ok (.ireturn, 1) := by decide +kernel
theorem dX7_number_86 : decode cX7_number 86 = .ok (.aload_n 0, 1) := by decide +kernel
theorem dX7_number_87 : decode cX7_number 87 = .ok (.invokevirtual 195, 3) := by decide +kernel
theorem dX7_number_90 : decode cX7_number 90 = .ok (.ireturn, 1) := by decide +kernel
theorem dX7_number_91 : decode cX7_number 91 = .ok (.aload_n 0, 1) := by decide +kernel
theorem dX7_number_92 : decode cX7_number 92 = .ok (.invokevirtual 198, 3) := by decide +kernel
theorem dX7_number_95 : decode cX7_number 95 = .ok (.ireturn, 1) := by decide +kernel
theorem dX7_number_96 : decode cX7_number 96 = .ok (.aload_n 0, 1) := by decide +kernel
theorem dX7_number_97 : decode cX7_number 97 = .ok (.invokevirtual 87, 3) := by decide +kernel
theorem dX7_number_100 : decode cX7_number 100 = .ok (.ireturn, 1) := by decide +kernel
theorem dX7_number_101 : decode cX7_number 101 = .ok (.aload_n 0, 1) := by decide +kernel
theorem dX7_number_102 : decode cX7_number 102 = .ok (.invokevirtual 201, 3) := by decide +kernel
theorem dX7_number_105 : decode cX7_number 105 = .ok (.ireturn, 1) := by decide +kernel
theorem dX7_number_106 : decode cX7_number 106 = .ok (.aload_n 0, 1) := by decide +kernel
theorem dX7_number_107 : decode cX7_number 107 = .ok (.ldc 47, 2) := by decide +kernel
theorem dX7_number_109 : decode cX7_number 109 = .ok (.invokevirtual 104, 3) := by decide +kernel
theorem dX7_number_112 : decode cX7_number 112 = .ok (.ireturn, 1) := by decide +kernel
theorem dX7_number_113 : decode cX7_number 113 = .ok (.aload_n 0, 1) := by decide +kernel
theorem dX7_number_114 : decode cX7_number 114 = .ok (.getfield 7, 3) := by decide +kernel
theorem dX7_number_117 : decode cX7_number 117 = .ok (.bipush 12, 2) := by decide +kernel
theorem dX7_number_119 : decode cX7_number 119 = .ok (.iaload, 1) := by decide +kernel
theorem dX7_number_120 : decode cX7_number 120 = .ok (.ireturn, 1) := by decide +kernel
theorem dX7_number_121 : decode cX7_number 121 = .ok (.aload_n 0, 1) := by decide +kernel
theorem dX7_number_122 : decode cX7_number 122 = .ok (.getfield 7, 3) := by decide +kernel
theorem dX7_number_125 : decode cX7_number 125 = .ok (.bipush 13, 2) := by decide +kernel
theorem dX7_number_127 : decode cX7_number 127 = .ok (.iaload, 1) := by decide +kernel
theorem dX7_number_128 : decode cX7_number 128 = .ok (.ireturn, 1) := by decide +kernel
theorem dX7_number_129 : decode cX7_number 129 = .ok (.aload_n 0, 1) := by decide +kernel
theorem dX7_number_130 : decode cX7_number 130 = .ok (.getfield 56, 3) := by decide +kernel
theorem dX7_number_133 : decode cX7_number 133 = .ok (.ireturn, 1) := by decide +kernel
theorem dX7_number_134 : decode cX7_number 134 = .ok (.aload_n 0, 1) := by decide +kernel
theorem dX7_number_135 : decode cX7_number 135 = .ok (.getfield 148, 3) := by decide +kernel
theorem dX7_number_138 : decode cX7_number 138 = .ok (.ireturn, 1) := by decide +kernel
theorem dX7_number_139 : decode cX7_number 139 = .ok (.aload_n 0, 1) := by decide +kernel
theorem dX7_number_140 : decode cX7_number 140 = .ok (.getfield 7, 3) := by decide +kernel
theorem dX7_number_143 : decode cX7_number 143 = .ok (.iconst 2, 1) := by decide +kernel
theorem dX7_number_144 : decode cX7_number 144 = .ok (.iload_n 1, 1) := by decide +kernel
theorem dX7_number_145 : decode cX7_number 145 = .ok (.iadd, 1) := by decide +kernel
theorem dX7_number_146 : decode cX7_number 146 = .ok (.bipush 12, 2) := by decide +kernel
theorem dX7_number_148 : decode cX7_number 148 = .ok (.isub, 1) := by decide +kernel
theorem dX7_number_149 : decode cX7_number 149 = .ok (.iaload, 1) := by decide +kernel
theorem dX7_number_150 : decode cX7_number 150 = .ok (.ireturn, 1) := by decide +kernel
theorem dX7_count_0 : decode cX7_count 0 = .ok (.aload_n 0, 1) := by decide +kernel
theorem dX7_count_1 : decode cX7_count 1 = .ok (.iconst 0, 1) := by decide +kernel
theorem dX7_count_2 : decode cX7_count 2 = .ok (.putfield 48, 3) := by decide +kernel
theorem dX7_count_5 : decode cX7_count 5 = .ok (.iload_n 1, 1) := by decide +kernel
theorem dX7_count_6 : decode cX7_count 6 = .ok (.iconst 0, 1) := by decide +kernel
theorem dX7_count_7 : decode cX7_count 7 = .ok (.bipush 13, 2) := by decide +kernel
theorem dX7_count_9 : decode cX7_count 9 = .ok (.invokestatic 52, 3) := by decide +kernel
theorem dX7_count_12 : decode cX7_count 12 = .ok (.ifCond .eq 11, 3) := by decide +kernel
theorem dX7_count_15 : decode cX7_count 15 = .ok (.aload_n 0, 1) := by decide +kernel
theorem dX7_count_16 : decode cX7_count 16 = .ok (.iload_n 1, 1) := by decide +kernel
theorem dX7_count_17 : decode cX7_count 17 = .ok (.invokevirtual 204, 3) := by decide +kernel
theorem dX7_count_20 : decode cX7_count 20 = .ok (.goto 8, 3) := by decide +kernel
theorem dX7_count_23 : decode cX7_count 23 = .ok (.aload_n 0, 1) := by decide +kernel
theorem dX7_count_24 : decode cX7_count 24 = .ok (.iconst 1, 1) := by decide +kernel
theorem dX7_count_25 : decode cX7_count 25 = .ok (.invokevirtual 59, 3) := by decide +kernel
theorem dX7_count_28 : decode cX7_count 28 = .ok (.ireturn, 1) := by decide +kernel
theorem dX7_off_0 : decode cX7_off 0 = .ok (.aload_n 0, 1) := by decide +kernel
theorem dX7_off_1 : decode cX7_off 1 = .ok (.iload_n 1, 1) := by decide +kernel
theorem dX7_off_2 : decode cX7_off 2 = .ok (.invokevirtual 80, 3) := by decide +kernel
theorem dX7_off_5 : decode cX7_off 5 = .ok (.aload_n 0, 1) := by decide +kernel
theorem dX7_off_6 : decode cX7_off 6 = .ok (.getfield 7, 3) := by decide +kernel
theorem dX7_off_9 : decode cX7_off 9 = .ok (.iconst 1, 1) := by decide +kernel
theorem dX7_off_10 : decode cX7_off 10 = .ok (.iaload, 1) := by decide +kernel
theorem dX7_off_11 : decode cX7_off 11 = .ok (.isub, 1) := by decide +kernel
theorem dX7_off_12 : decode cX7_off 12 = .ok (.invokestatic 107, 3) := by decide +kernel
theorem dX7_off_15 : decode cX7_off 15 = .ok (.ireturn, 1) := by decide +kernel
theorem dX7_key_0 : decode cX7_key 0 = .ok (.iload_n 2, 1) := by decide +kernel
theorem dX7_key_1 : decode cX7_key 1 = .ok (.ifCond .ne 11, 3) := by decide +kernel
theorem dX7_key_4 : decode cX7_key 4 = .ok (.aload_n 0, 1) := by decide +kernel
theorem dX7_key_5 : decode cX7_key 5 = .ok (.iload_n 1, 1) := by decide +kernel
theorem dX7_key_6 : decode cX7_key 6 = .ok (.invokevirtual 80, 3) := by decide +kernel
theorem dX7_key_9 : decode cX7_key 9 = .ok (.goto 9, 3) := by decide +kernel
theorem dX7_key_12 : decode cX7_key 12 = .ok (.aload_n 0, 1) := by decide +kernel
theorem dX7_key_13 : decode cX7_key 13 = .ok (.iload_n 1, 1) := by decide +kernel
theorem dX7_key_14 : decode cX7_key 14 = .ok (.invokevirtual 207, 3) := by decide +kernel
theorem dX7_key_17 : decode cX7_key 17 = .ok (.ineg, 1) := by decide +kernel
theorem dX7_key_18 : decode cX7_key 18 = .ok (.ireturn, 1) := by decide +kernel
theorem dX7_ofRank_0 : decode cX7_ofRank 0 = .ok (.ldc 47, 2) := by decide +kernel
theorem dX7_ofRank_2 : decode cX7_ofRank 2 = .ok (.istore_n 3, 1) := by decide +kernel
theorem dX7_ofRank_3 : decode cX7_ofRank 3 = .ok (.iconst 0, 1) := by decide +kernel
theorem dX7_ofRank_4 : decode cX7_ofRank 4 = .ok (.istore 4, 2) := by decide +kernel
theorem dX7_ofRank_6 : decode cX7_ofRank 6 = .ok (.iload 4, 2) := by decide +kernel
theorem dX7_ofRank_8 : decode cX7_ofRank 8 = .ok (.aload_n 0, 1) := by decide +kernel
theorem dX7_ofRank_9 : decode cX7_ofRank 9 = .ok (.getfield 7, 3) := by decide +kernel
theorem dX7_ofRank_12 : decode cX7_ofRank 12 = .ok (.bipush 15, 2) := by decide +kernel
theorem dX7_ofRank_14 : decode cX7_ofRank 14 = .ok (.iaload, 1) := by decide +kernel
theorem dX7_ofRank_15 : decode cX7_ofRank 15 = .ok (.if_icmp .ge 112, 3) := by decide +kernel
theorem dX7_ofRank_18 : decode cX7_ofRank 18 = .ok (.iconst 0, 1) := by decide +kernel
theorem dX7_ofRank_19 : decode cX7_ofRank 19 = .ok (.istore 5, 2) := by decide +kernel
theorem dX7_ofRank_21 : decode cX7_ofRank 21 = .ok (.iconst 0, 1) := by decide +kernel
theorem dX7_ofRank_22 : decode cX7_ofRank 22 = .ok (.istore 6, 2) := by decide +kernel
theorem dX7_ofRank_24 : decode cX7_ofRank 24 = .ok (.iload 6, 2) := by decide +kernel
theorem dX7_ofRank_26 : decode cX7_ofRank 26 = .ok (.aload_n 0, 1) := by decide +kernel
theorem dX7_ofRank_27 : decode cX7_ofRank 27 = .ok (.getfield 7, 3) := by decide +kernel
theorem dX7_ofRank_30 : decode cX7_ofRank 30 = .ok (.bipush 15, 2) := by decide +kernel
theorem dX7_ofRank_32 : decode cX7_ofRank 32 = .ok (.iaload, 1) := by decide +kernel
theorem dX7_ofRank_33 : decode cX7_ofRank 33 = .ok (.if_icmp .ge 64, 3) := by decide +kernel
theorem dX7_ofRank_36 : decode cX7_ofRank 36 = .ok (.aload_n 0, 1) := by decide +kernel
theorem dX7_ofRank_37 : decode cX7_ofRank 37 = .ok (.iload 6, 2) := by decide +kernel
theorem dX7_ofRank_39 : decode cX7_ofRank 39 = .ok (.iload_n 1, 1) := by decide +kernel
theorem dX7_ofRank_40 : decode cX7_ofRank 40 = .ok (.invokevirtual 210, 3) := by decide +kernel
theorem dX7_ofRank_43 : decode cX7_ofRank 43 = .ok (.aload_n 0, 1) := by decide +kernel
theorem dX7_ofRank_44 : decode cX7_ofRank 44 = .ok (.iload 4, 2) := by decide +kernel
theorem dX7_ofRank_46 : decode cX7_ofRank 46 = .ok (.iload_n 1, 1) := by decide +kernel
theorem dX7_ofRank_47 : decode cX7_ofRank 47 = .ok (.invokevirtual 210, 3) := by decide +kernel
theorem dX7_ofRank_50 : decode cX7_ofRank 50 = .ok (.isub, 1) := by decide +kernel
theorem dX7_ofRank_51 : decode cX7_ofRank 51 = .ok (.istore 7, 2) := by decide +kernel
theorem dX7_ofRank_53 : decode cX7_ofRank 53 = .ok (.iload 5, 2) := by decide +kernel
theorem dX7_ofRank_55 : decode cX7_ofRank 55 = .ok (.aload_n 0, 1) := by decide +kernel
theorem dX7_ofRank_56 : decode cX7_ofRank 56 = .ok (.iload 6, 2) := by decide +kernel
theorem dX7_ofRank_58 : decode cX7_ofRank 58 = .ok (.bipush 7, 2) := by decide +kernel
theorem dX7_ofRank_60 : decode cX7_ofRank 60 = .ok (.invokevirtual 66, 3) := by decide +kernel
theorem dX7_ofRank_63 : decode cX7_ofRank 63 = .ok (.ifCond .le 24, 3) := by decide +kernel
theorem dX7_ofRank_66 : decode cX7_ofRank 66 = .ok (.iload 7, 2) := by decide +kernel
theorem dX7_ofRank_68 : decode cX7_ofRank 68 = .ok (.ifCond .lt 15, 3) := by decide +kernel
theorem dX7_ofRank_71 : decode cX7_ofRank 71 = .ok (.iload 7, 2) := by decide +kernel
theorem dX7_ofRank_73 : decode cX7_ofRank 73 = .ok (.ifCond .ne 14, 3) := by decide +kernel
theorem dX7_ofRank_76 : decode cX7_ofRank 76 = .ok (.iload 6, 2) := by decide +kernel
theorem dX7_ofRank_78 : decode cX7_ofRank 78 = .ok (.iload 4, 2) := by decide +kernel
theorem dX7_ofRank_80 : decode cX7_ofRank 80 = .ok (.if_icmp .ge 7, 3) := by decide +kernel
theorem dX7_ofRank_83 : decode cX7_ofRank 83 = .ok (.iconst 1, 1) := by decide +kernel
theorem dX7_ofRank_84 : decode cX7_ofRank 84 = .ok (.goto 4, 3) := by decide +kernel
theorem dX7_ofRank_87 : decode cX7_ofRank 87 = .ok (.iconst 0, 1) := by decide +kernel
theorem dX7_ofRank_88 : decode cX7_ofRank 88 = .ok (.iadd, 1) := by decide +kernel
theorem dX7_ofRank_89 : decode cX7_ofRank 89 = .ok (.istore 5, 2) := by decide +kernel
theorem dX7_ofRank_91 : decode cX7_ofRank 91 = .ok (.iinc 6 1, 3) := by decide +kernel
theorem dX7_ofRank_94 : decode cX7_ofRank 94 = .ok (.goto (-70), 3) := by decide +kernel
theorem dX7_ofRank_97 : decode cX7_ofRank 97 = .ok (.aload_n 0, 1) := by decide +kernel
theorem dX7_ofRank_98 : decode cX7_ofRank 98 = .ok (.iload 4, 2) := by decide +kernel
theorem dX7_ofRank_100 : decode cX7_ofRank 100 = .ok (.bipush 7, 2) := by decide +kernel
theorem dX7_ofRank_102 : decode cX7_ofRank 102 = .ok (.invokevirtual 66, 3) := by decide +kernel
theorem dX7_ofRank_105 : decode cX7_ofRank 105 = .ok (.ifCond .le 14, 3) := by decide +kernel
theorem dX7_ofRank_108 : decode cX7_ofRank 108 = .ok (.iload 5, 2) := by decide +kernel
theorem dX7_ofRank_110 : decode cX7_ofRank 110 = .ok (.iload_n 2, 1) := by decide +kernel
theorem dX7_ofRank_111 : decode cX7_ofRank 111 = .ok (.if_icmp .ne 8, 3) := by decide +kernel
theorem dX7_ofRank_114 : decode cX7_ofRank 114 = .ok (.iload 4, 2) := by decide +kernel
theorem dX7_ofRank_116 : decode cX7_ofRank 116 = .ok (.goto 4, 3) := by decide +kernel
theorem dX7_ofRank_119 : decode cX7_ofRank 119 = .ok (.iload_n 3, 1) := by decide +kernel
theorem dX7_ofRank_120 : decode cX7_ofRank 120 = .ok (.istore_n 3, 1) := by decide +kernel
theorem dX7_ofRank_121 : decode cX7_ofRank 121 = .ok (.iinc 4 1, 3) := by decide +kernel
theorem dX7_ofRank_124 : decode cX7_ofRank 124 = .ok (.goto (-118), 3) := by decide +kernel
theorem dX7_ofRank_127 : decode cX7_ofRank 127 = .ok (.iload_n 3, 1) := by decide +kernel
theorem dX7_ofRank_128 : decode cX7_ofRank 128 = .ok (.ireturn, 1) := by decide +kernel
theorem dX7_ranked_0 : decode cX7_ranked 0 = .ok (.aload_n 0, 1) := by decide +kernel
theorem dX7_ranked_1 : decode cX7_ranked 1 = .ok (.iconst 0, 1) := by decide +kernel
theorem dX7_ranked_2 : decode cX7_ranked 2 = .ok (.putfield 48, 3) := by decide +kernel
theorem dX7_ranked_5 : decode cX7_ranked 5 = .ok (.iload_n 1, 1) := by decide +kernel
theorem dX7_ranked_6 : decode cX7_ranked 6 = .ok (.iconst 0, 1) := by decide +kernel
theorem dX7_ranked_7 : decode cX7_ranked 7 = .ok (.iconst 1, 1) := by decide +kernel
theorem dX7_ranked_8 : decode cX7_ranked 8 = .ok (.invokestatic 52, 3) := by decide +kernel
theorem dX7_ranked_11 : decode cX7_ranked 11 = .ok (.ifCond .eq 16, 3) := by decide +kernel
theorem dX7_ranked_14 : decode cX7_ranked 14 = .ok (.iload_n 2, 1) := by decide +kernel
theorem dX7_ranked_15 : decode cX7_ranked 15 = .ok (.ifCond .lt 12, 3) := by decide +kernel
theorem dX7_ranked_18 : decode cX7_ranked 18 = .ok (.aload_n 0, 1) := by decide +kernel
theorem dX7_ranked_19 : decode cX7_ranked 19 = .ok (.iload_n 1, 1) := by decide +kernel
theorem dX7_ranked_20 : decode cX7_ranked 20 = .ok (.iload_n 2, 1) := by decide +kernel
theorem dX7_ranked_21 : decode cX7_ranked 21 = .ok (.invokevirtual 213, 3) := by decide +kernel
theorem dX7_ranked_24 : decode cX7_ranked 24 = .ok (.goto 8, 3) := by decide +kernel
theorem dX7_ranked_27 : decode cX7_ranked 27 = .ok (.aload_n 0, 1) := by decide +kernel
theorem dX7_ranked_28 : decode cX7_ranked 28 = .ok (.iconst 1, 1) := by decide +kernel
theorem dX7_ranked_29 : decode cX7_ranked 29 = .ok (.invokevirtual 59, 3) := by decide +kernel
theorem dX7_ranked_32 : decode cX7_ranked 32 = .ok (.ireturn, 1) := by decide +kernel
theorem dX7_between_0 : decode cX7_between 0 = .ok (.aload_n 0, 1) := by decide +kernel
theorem dX7_between_1 : decode cX7_between 1 = .ok (.iconst 0, 1) := by decide +kernel
theorem dX7_between_2 : decode cX7_between 2 = .ok (.putfield 48, 3) := by decide +kernel
theorem dX7_between_5 : decode cX7_between 5 = .ok (.iconst 0, 1) := by decide +kernel
theorem dX7_between_6 : decode cX7_between 6 = .ok (.istore_n 3, 1) := by decide +kernel
theorem dX7_between_7 : decode cX7_between 7 = .ok (.iconst 0, 1) := by decide +kernel
theorem dX7_between_8 : decode cX7_between 8 = .ok (.istore 4, 2) := by decide +kernel
theorem dX7_between_10 : decode cX7_between 10 = .ok (.iload 4, 2) := by decide +kernel
theorem dX7_between_12 : decode cX7_between 12 = .ok (.aload_n 0, 1) := by decide +kernel
theorem dX7_between_13 : decode cX7_between 13 = .ok (.getfield 7, 3) := by decide +kernel
theorem dX7_between_16 : decode cX7_between 16 = .ok (.bipush 15, 2) := by decide +kernel
theorem dX7_between_18 : decode cX7_between 18 = .ok (.iaload, 1) := by decide +kernel
theorem dX7_between_19 : decode cX7_between 19 = .ok (.if_icmp .ge 42, 3) := by decide +kernel
theorem dX7_between_22 : decode cX7_between 22 = .ok (.iload_n 3, 1) := by decide +kernel
theorem dX7_between_23 : decode cX7_between 23 = .ok (.aload_n 0, 1) := by decide +kernel
theorem dX7_between_24 : decode cX7_between 24 = .ok (.iload 4, 2) := by decide +kernel
theorem dX7_between_26 : decode cX7_between 26 = .ok (.bipush 7, 2) := by decide +kernel
theorem dX7_between_28 : decode cX7_between 28 = .ok (.invokevirtual 66, 3) := by decide +kernel
theorem dX7_between_31 : decode cX7_between 31 = .ok (.ifCond .le 21, 3) := by decide +kernel
theorem dX7_between_34 : decode cX7_between 34 = .ok (.aload_n 0, 1) := by decide +kernel
theorem dX7_between_35 : decode cX7_between 35 = .ok (.iload 4, 2) := by decide +kernel
theorem dX7_between_37 : decode cX7_between 37 = .ok (.invokevirtual 80, 3) := by decide +kernel
theorem dX7_between_40 : decode cX7_between 40 = .ok (.iload_n 1, 1) := by decide +kernel
theorem dX7_between_41 : decode cX7_between 41 = .ok (.iload_n 2, 1) := by decide +kernel
theorem dX7_between_42 : decode cX7_between 42 = .ok (.invokestatic 52, 3) := by decide +kernel
theorem dX7_between_45 : decode cX7_between 45 = .ok (.ifCond .eq 7, 3) := by decide +kernel
theorem dX7_between_48 : decode cX7_between 48 = .ok (.iconst 1, 1) := by decide +kernel
theorem dX7_between_49 : decode cX7_between 49 = .ok (.goto 4, 3) := by decide +kernel
theorem dX7_between_52 : decode cX7_between 52 = .ok (.iconst 0, 1) := by decide +kernel
theorem dX7_between_53 : decode cX7_between 53 = .ok (.iadd, 1) := by decide +kernel
theorem dX7_between_54 : decode cX7_between 54 = .ok (.istore_n 3, 1) := by decide +kernel
theorem dX7_between_55 : decode cX7_between 55 = .ok (.iinc 4 1, 3) := by decide +kernel
theorem dX7_between_58 : decode cX7_between 58 = .ok (.goto (-48), 3) := by decide +kernel
theorem dX7_between_61 : decode cX7_between 61 = .ok (.iload_n 3, 1) := by decide +kernel
theorem dX7_between_62 : decode cX7_between 62 = .ok (.ireturn, 1) := by decide +kernel
theorem dX7_ifLag_0 : decode cX7_ifLag 0 = .ok (.aload_n 0, 1) := by decide +kernel
theorem dX7_ifLag_1 : decode cX7_ifLag 1 = .ok (.iconst 0, 1) := by decide +kernel
theorem dX7_ifLag_2 : decode cX7_ifLag 2 = .ok (.putfield 48, 3) := by decide +kernel
theorem dX7_ifLag_5 : decode cX7_ifLag 5 = .ok (.aload_n 0, 1) := by decide +kernel
theorem dX7_ifLag_6 : decode cX7_ifLag 6 = .ok (.iload_n 1, 1) := by decide +kernel
theorem dX7_ifLag_7 : decode cX7_ifLag 7 = .ok (.invokevirtual 141, 3) := by decide +kernel
theorem dX7_ifLag_10 : decode cX7_ifLag 10 = .ok (.ifCond .ne 9, 3) := by decide +kernel
theorem dX7_ifLag_13 : decode cX7_ifLag 13 = .ok (.aload_n 0, 1) := by decide +kernel
theorem dX7_ifLag_14 : decode cX7_ifLag 14 = .ok (.iconst 1, 1) := by decide +kernel
theorem dX7_ifLag_15 : decode cX7_ifLag 15 = .ok (.invokevirtual 59, 3) := by decide +kernel
theorem dX7_ifLag_18 : decode cX7_ifLag 18 = .ok (.ireturn, 1) := by decide +kernel
theorem dX7_ifLag_19 : decode cX7_ifLag 19 = .ok (.iload_n 2, 1) := by decide +kernel
theorem dX7_ifLag_20 : decode cX7_ifLag 20 = .ok (.iconst 1, 1) := by decide +kernel
theorem dX7_ifLag_21 : decode cX7_ifLag 21 = .ok (.bipush 9, 2) := by decide +kernel
theorem dX7_ifLag_23 : decode cX7_ifLag 23 = .ok (.invokestatic 52, 3) := by decide +kernel
theorem dX7_ifLag_26 : decode cX7_ifLag 26 = .ok (.ifCond .eq 12, 3) := by decide +kernel
theorem dX7_ifLag_29 : decode cX7_ifLag 29 = .ok (.aload_n 0, 1) := by decide +kernel
theorem dX7_ifLag_30 : decode cX7_ifLag 30 = .ok (.iload_n 1, 1) := by decide +kernel
theorem dX7_ifLag_31 : decode cX7_ifLag 31 = .ok (.iload_n 2, 1) := by decide +kernel
theorem dX7_ifLag_32 : decode cX7_ifLag 32 = .ok (.invokevirtual 70, 3) := by decide +kernel
theorem dX7_ifLag_35 : decode cX7_ifLag 35 = .ok (.goto 8, 3) := by decide +kernel
theorem dX7_ifLag_38 : decode cX7_ifLag 38 = .ok (.aload_n 0, 1) := by decide +kernel
theorem dX7_ifLag_39 : decode cX7_ifLag 39 = .ok (.iconst 2, 1) := by decide +kernel
theorem dX7_ifLag_40 : decode cX7_ifLag 40 = .ok (.invokevirtual 59, 3) := by decide +kernel
theorem dX7_ifLag_43 : decode cX7_ifLag 43 = .ok (.ireturn, 1) := by decide +kernel
theorem dX7_best_0 : decode cX7_best 0 = .ok (.aload_n 0, 1) := by decide +kernel
theorem dX7_best_1 : decode cX7_best 1 = .ok (.iload_n 1, 1) := by decide +kernel
theorem dX7_best_2 : decode cX7_best 2 = .ok (.bipush 7, 2) := by decide +kernel
theorem dX7_best_4 : decode cX7_best 4 = .ok (.invokevirtual 66, 3) := by decide +kernel
theorem dX7_best_7 : decode cX7_best 7 = .ok (.ifCond .ne 6, 3) := by decide +kernel
theorem dX7_best_10 : decode cX7_best 10 = .ok (.ldc 47, 2) := by decide +kernel
theorem dX7_best_12 : decode cX7_best 12 = .ok (.ireturn, 1) := by decide +kernel
theorem dX7_best_13 : decode cX7_best 13 = .ok (.iconst 1, 1) := by decide +kernel
theorem dX7_best_14 : decode cX7_best 14 = .ok (.istore_n 2, 1) := by decide +kernel
theorem dX7_best_15 : decode cX7_best 15 = .ok (.iconst 2, 1) := by decide +kernel
theorem dX7_best_16 : decode cX7_best 16 = .ok (.istore_n 3, 1) := by decide +kernel
theorem dX7_best_17 : decode cX7_best 17 = .ok (.iload_n 3, 1) := by decide +kernel
theorem dX7_best_18 : decode cX7_best 18 = .ok (.bipush 9, 2) := by decide +kernel
theorem dX7_best_20 : decode cX7_best 20 = .ok (.if_icmp .gt 50, 3) := by decide +kernel
theorem dX7_best_23 : decode cX7_best 23 = .ok (.aload_n 0, 1) := by decide +kernel
theorem dX7_best_24 : decode cX7_best 24 = .ok (.iload_n 1, 1) := by decide +kernel
theorem dX7_best_25 : decode cX7_best 25 = .ok (.iload_n 3, 1) := by decide +kernel
theorem dX7_best_26 : decode cX7_best 26 = .ok (.invokevirtual 70, 3) := by decide +kernel
theorem dX7_best_29 : decode cX7_best 29 = .ok (.aload_n 0, 1) := by decide +kernel
theorem dX7_best_30 : decode cX7_best 30 = .ok (.getfield 7, 3) := by decide +kernel
theorem dX7_best_33 : decode cX7_best 33 = .ok (.iconst 1, 1) := by decide +kernel
theorem dX7_best_34 : decode cX7_best 34 = .ok (.iaload, 1) := by decide +kernel
theorem dX7_best_35 : decode cX7_best 35 = .ok (.isub, 1) := by decide +kernel
theorem dX7_best_36 : decode cX7_best 36 = .ok (.invokestatic 107, 3) := by decide +kernel
theorem dX7_best_39 : decode cX7_best 39 = .ok (.aload_n 0, 1) := by decide +kernel
theorem dX7_best_40 : decode cX7_best 40 = .ok (.iload_n 1, 1) := by decide +kernel
theorem dX7_best_41 : decode cX7_best 41 = .ok (.iload_n 2, 1) := by decide +kernel
theorem dX7_best_42 : decode cX7_best 42 = .ok (.invokevirtual 70, 3) := by decide +kernel
theorem dX7_best_45 : decode cX7_best 45 = .ok (.aload_n 0, 1) := by decide +kernel
theorem dX7_best_46 : decode cX7_best 46 = .ok (.getfield 7, 3) := by decide +kernel
theorem dX7_best_49 : decode cX7_best 49 = .ok (.iconst 1, 1) := by decide +kernel
theorem dX7_best_50 : decode cX7_best 50 = .ok (.iaload, 1) := by decide +kernel
theorem dX7_best_51 : decode cX7_best 51 = .ok (.isub, 1) := by decide +kernel
theorem dX7_best_52 : decode cX7_best 52 = .ok (.invokestatic 107, 3) := by decide +kernel
theorem dX7_best_55 : decode cX7_best 55 = .ok (.if_icmp .ge 7, 3) := by decide +kernel
theorem dX7_best_58 : decode cX7_best 58 = .ok (.iload_n 3, 1) := by decide +kernel
theorem dX7_best_59 : decode cX7_best 59 = .ok (.goto 4, 3) := by decide +kernel
theorem dX7_best_62 : decode cX7_best 62 = .ok (.iload_n 2, 1) := by decide +kernel
theorem dX7_best_63 : decode cX7_best 63 = .ok (.istore_n 2, 1) := by decide +kernel
theorem dX7_best_64 : decode cX7_best 64 = .ok (.iinc 3 1, 3) := by decide +kernel
theorem dX7_best_67 : decode cX7_best 67 = .ok (.goto (-50), 3) := by decide +kernel
theorem dX7_best_70 : decode cX7_best 70 = .ok (.iload_n 2, 1) := by decide +kernel
theorem dX7_best_71 : decode cX7_best 71 = .ok (.ireturn, 1) := by decide +kernel
theorem dX7_bestLag_0 : decode cX7_bestLag 0 = .ok (.aload_n 0, 1) := by decide +kernel
theorem dX7_bestLag_1 : decode cX7_bestLag 1 = .ok (.iconst 0, 1) := by decide +kernel
theorem dX7_bestLag_2 : decode cX7_bestLag 2 = .ok (.putfield 48, 3) := by decide +kernel
theorem dX7_bestLag_5 : decode cX7_bestLag 5 = .ok (.aload_n 0, 1) := by decide +kernel
theorem dX7_bestLag_6 : decode cX7_bestLag 6 = .ok (.iload_n 1, 1) := by decide +kernel
theorem dX7_bestLag_7 : decode cX7_bestLag 7 = .ok (.invokevirtual 141, 3) := by decide +kernel
theorem dX7_bestLag_10 : decode cX7_bestLag 10 = .ok (.ifCond .eq 11, 3) := by decide +kernel
theorem dX7_bestLag_13 : decode cX7_bestLag 13 = .ok (.aload_n 0, 1) := by decide +kernel
theorem dX7_bestLag_14 : decode cX7_bestLag 14 = .ok (.iload_n 1, 1) := by decide +kernel
theorem dX7_bestLag_15 : decode cX7_bestLag 15 = .ok (.invokevirtual 216, 3) := by decide +kernel
theorem dX7_bestLag_18 : decode cX7_bestLag 18 = .ok (.goto 8, 3) := by decide +kernel
theorem dX7_bestLag_21 : decode cX7_bestLag 21 = .ok (.aload_n 0, 1) := by decide +kernel
theorem dX7_bestLag_22 : decode cX7_bestLag 22 = .ok (.iconst 1, 1) := by decide +kernel
theorem dX7_bestLag_23 : decode cX7_bestLag 23 = .ok (.invokevirtual 59, 3) := by decide +kernel
theorem dX7_bestLag_26 : decode cX7_bestLag 26 = .ok (.ireturn, 1) := by decide +kernel
theorem dX7_widest_0 : decode cX7_widest 0 = .ok (.iconst 0, 1) := by decide +kernel
theorem dX7_widest_1 : decode cX7_widest 1 = .ok (.istore_n 1, 1) := by decide +kernel
theorem dX7_widest_2 : decode cX7_widest 2 = .ok (.iconst 0, 1) := by decide +kernel
theorem dX7_widest_3 : decode cX7_widest 3 = .ok (.istore_n 2, 1) := by decide +kernel
theorem dX7_widest_4 : decode cX7_widest 4 = .ok (.iload_n 2, 1) := by decide +kernel
theorem dX7_widest_5 : decode cX7_widest 5 = .ok (.aload_n 0, 1) := by decide +kernel
theorem dX7_widest_6 : decode cX7_widest 6 = .ok (.getfield 7, 3) := by decide +kernel
theorem dX7_widest_9 : decode cX7_widest 9 = .ok (.bipush 15, 2) := by decide +kernel
theorem dX7_widest_11 : decode cX7_widest 11 = .ok (.iaload, 1) := by decide +kernel
theorem dX7_widest_12 : decode cX7_widest 12 = .ok (.if_icmp .ge 44, 3) := by decide +kernel
theorem dX7_widest_15 : decode cX7_widest 15 = .ok (.aload_n 0, 1) := by decide +kernel
theorem dX7_widest_16 : decode cX7_widest 16 = .ok (.iload_n 2, 1) := by decide +kernel
theorem dX7_widest_17 : decode cX7_widest 17 = .ok (.iconst 4, 1) := by decide +kernel
theorem dX7_widest_18 : decode cX7_widest 18 = .ok (.invokevirtual 66, 3) := by decide +kernel
theorem dX7_widest_21 : decode cX7_widest 21 = .ok (.aload_n 0, 1) := by decide +kernel
theorem dX7_widest_22 : decode cX7_widest 22 = .ok (.iload_n 2, 1) := by decide +kernel
theorem dX7_widest_23 : decode cX7_widest 23 = .ok (.iconst 2, 1) := by decide +kernel
theorem dX7_widest_24 : decode cX7_widest 24 = .ok (.invokevirtual 66, 3) := by decide +kernel
theorem dX7_widest_27 : decode cX7_widest 27 = .ok (.isub, 1) := by decide +kernel
theorem dX7_widest_28 : decode cX7_widest 28 = .ok (.aload_n 0, 1) := by decide +kernel
theorem dX7_widest_29 : decode cX7_widest 29 = .ok (.getfield 7, 3) := by decide +kernel
theorem dX7_widest_32 : decode cX7_widest 32 = .ok (.iconst 1, 1) := by decide +kernel
theorem dX7_widest_33 : decode cX7_widest 33 = .ok (.iaload, 1) := by decide +kernel
theorem dX7_widest_34 : decode cX7_widest 34 = .ok (.isub, 1) := by decide +kernel
theorem dX7_widest_35 : decode cX7_widest 35 = .ok (.invokestatic 107, 3) := by decide +kernel
theorem dX7_widest_38 : decode cX7_widest 38 = .ok (.istore_n 3, 1) := by decide +kernel
theorem dX7_widest_39 : decode cX7_widest 39 = .ok (.iload_n 3, 1) := by decide +kernel
theorem dX7_widest_40 : decode cX7_widest 40 = .ok (.iload_n 1, 1) := by decide +kernel
theorem dX7_widest_41 : decode cX7_widest 41 = .ok (.if_icmp .le 7, 3) := by decide +kernel
theorem dX7_widest_44 : decode cX7_widest 44 = .ok (.iload_n 3, 1) := by decide +kernel
theorem dX7_widest_45 : decode cX7_widest 45 = .ok (.goto 4, 3) := by decide +kernel
theorem dX7_widest_48 : decode cX7_widest 48 = .ok (.iload_n 1, 1) := by decide +kernel
theorem dX7_widest_49 : decode cX7_widest 49 = .ok (.istore_n 1, 1) := by decide +kernel
theorem dX7_widest_50 : decode cX7_widest 50 = .ok (.iinc 2 1, 3) := by decide +kernel
theorem dX7_widest_53 : decode cX7_widest 53 = .ok (.goto (-49), 3) := by decide +kernel
theorem dX7_widest_56 : decode cX7_widest 56 = .ok (.iload_n 1, 1) := by decide +kernel
theorem dX7_widest_57 : decode cX7_widest 57 = .ok (.ireturn, 1) := by decide +kernel
theorem dX7_behind_0 : decode cX7_behind 0 = .ok (.iconst 0, 1) := by decide +kernel
theorem dX7_behind_1 : decode cX7_behind 1 = .ok (.istore_n 3, 1) := by decide +kernel
theorem dX7_behind_2 : decode cX7_behind 2 = .ok (.iload_n 3, 1) := by decide +kernel
theorem dX7_behind_3 : decode cX7_behind 3 = .ok (.sipush 226, 3) := by decide +kernel
theorem dX7_behind_6 : decode cX7_behind 6 = .ok (.if_icmp .ge 21, 3) := by decide +kernel
theorem dX7_behind_9 : decode cX7_behind 9 = .ok (.aload_n 0, 1) := by decide +kernel
theorem dX7_behind_10 : decode cX7_behind 10 = .ok (.getfield 23, 3) := by decide +kernel
theorem dX7_behind_13 : decode cX7_behind 13 = .ok (.iload_n 3, 1) := by decide +kernel
theorem dX7_behind_14 : decode cX7_behind 14 = .ok (.aload_n 0, 1) := by decide +kernel
theorem dX7_behind_15 : decode cX7_behind 15 = .ok (.getfield 7, 3) := by decide +kernel
theorem dX7_behind_18 : decode cX7_behind 18 = .ok (.iload_n 3, 1) := by decide +kernel
theorem dX7_behind_19 : decode cX7_behind 19 = .ok (.iaload, 1) := by decide +kernel
theorem dX7_behind_20 : decode cX7_behind 20 = .ok (.iastore, 1) := by decide +kernel
theorem dX7_behind_21 : decode cX7_behind 21 = .ok (.iinc 3 1, 3) := by decide +kernel
theorem dX7_behind_24 : decode cX7_behind 24 = .ok (.goto (-22), 3) := by decide +kernel
theorem dX7_behind_27 : decode cX7_behind 27 = .ok (.iconst 0, 1) := by decide +kernel
theorem dX7_behind_28 : decode cX7_behind 28 = .ok (.istore_n 3, 1) := by decide +kernel
theorem dX7_behind_29 : decode cX7_behind 29 = .ok (.iload_n 3, 1) := by decide +kernel
theorem dX7_behind_30 : decode cX7_behind 30 = .ok (.iload_n 1, 1) := by decide +kernel
theorem dX7_behind_31 : decode cX7_behind 31 = .ok (.if_icmp .ge 21, 3) := by decide +kernel
theorem dX7_behind_34 : decode cX7_behind 34 = .ok (.aload_n 0, 1) := by decide +kernel
theorem dX7_behind_35 : decode cX7_behind 35 = .ok (.aload_n 0, 1) := by decide +kernel
theorem dX7_behind_36 : decode cX7_behind 36 = .ok (.getfield 7, 3) := by decide +kernel
theorem dX7_behind_39 : decode cX7_behind 39 = .ok (.iconst 1, 1) := by decide +kernel
theorem dX7_behind_40 : decode cX7_behind 40 = .ok (.iaload, 1) := by decide +kernel
theorem dX7_behind_41 : decode cX7_behind 41 = .ok (.invokevirtual 135, 3) := by decide +kernel
theorem dX7_behind_44 : decode cX7_behind 44 = .ok (.istore 4, 2) := by decide +kernel
theorem dX7_behind_46 : decode cX7_behind 46 = .ok (.iinc 3 1, 3) := by decide +kernel
theorem dX7_behind_49 : decode cX7_behind 49 = .ok (.goto (-20), 3) := by decide +kernel
theorem dX7_behind_52 : decode cX7_behind 52 = .ok (.iload_n 2, 1) := by decide +kernel
theorem dX7_behind_53 : decode cX7_behind 53 = .ok (.ifCond .ne 10, 3) := by decide +kernel
theorem dX7_behind_56 : decode cX7_behind 56 = .ok (.aload_n 0, 1) := by decide +kernel
theorem dX7_behind_57 : decode cX7_behind 57 = .ok (.invokevirtual 87, 3) := by decide +kernel
theorem dX7_behind_60 : decode cX7_behind 60 = .ok (.goto 42, 3) := by decide +kernel
theorem dX7_behind_63 : decode cX7_behind 63 = .ok (.iload_n 2, 1) := by decide +kernel
theorem dX7_behind_64 : decode cX7_behind 64 = .ok (.iconst 1, 1) := by decide +kernel
theorem dX7_behind_65 : decode cX7_behind 65 = .ok (.if_icmp .ne 10, 3) := by decide +kernel
theorem dX7_behind_68 : decode cX7_behind 68 = .ok (.aload_n 0, 1) := by decide +kernel
theorem dX7_behind_69 : decode cX7_behind 69 = .ok (.invokevirtual 198, 3) := by decide +kernel
theorem dX7_behind_72 : decode cX7_behind 72 = .ok (.goto 30, 3) := by decide +kernel
theorem dX7_behind_75 : decode cX7_behind 75 = .ok (.iload_n 2, 1) := by decide +kernel
theorem dX7_behind_76 : decode cX7_behind 76 = .ok (.iconst 2, 1) := by decide +kernel
theorem dX7_behind_77 : decode cX7_behind 77 = .ok (.if_icmp .ne 21, 3) := by decide +kernel
theorem dX7_behind_80 : decode cX7_behind 80 = .ok (.aload_n 0, 1) := by decide +kernel
theorem dX7_behind_81 : decode cX7_behind 81 = .ok (.getfield 7, 3) := by decide +kernel
theorem dX7_behind_84 : decode cX7_behind 84 = .ok (.bipush 13, 2) := by decide +kernel
theorem dX7_behind_86 : decode cX7_behind 86 = .ok (.iaload, 1) := by decide +kernel
theorem dX7_behind_87 : decode cX7_behind 87 = .ok (.aload_n 0, 1) := by decide +kernel
theorem dX7_behind_88 : decode cX7_behind 88 = .ok (.getfield 23, 3) := by decide +kernel
theorem dX7_behind_91 : decode cX7_behind 91 = .ok (.bipush 13, 2) := by decide +kernel
theorem dX7_behind_93 : decode cX7_behind 93 = .ok (.iaload, 1) := by decide +kernel
theorem dX7_behind_94 : decode cX7_behind 94 = .ok (.isub, 1) := by decide +kernel
theorem dX7_behind_95 : decode cX7_behind 95 = .ok (.goto 7, 3) := by decide +kernel
theorem dX7_behind_98 : decode cX7_behind 98 = .ok (.aload_n 0, 1) := by decide +kernel
theorem dX7_behind_99 : decode cX7_behind 99 = .ok (.invokevirtual 219, 3) := by decide +kernel
theorem dX7_behind_102 : decode cX7_behind 102 = .ok (.istore_n 3, 1) := by decide +kernel
theorem dX7_behind_103 : decode cX7_behind 103 = .ok (.iconst 0, 1) := by decide +kernel
theorem dX7_behind_104 : decode cX7_behind 104 = .ok (.istore 4, 2) := by decide +kernel
theorem dX7_behind_106 : decode cX7_behind 106 = .ok (.iload 4, 2) := by decide +kernel
theorem dX7_behind_108 : decode cX7_behind 108 = .ok (.sipush 226, 3) := by decide +kernel
theorem dX7_behind_111 : decode cX7_behind 111 = .ok (.if_icmp .ge 23, 3) := by decide +kernel
theorem dX7_behind_114 : decode cX7_behind 114 = .ok (.aload_n 0, 1) := by decide +kernel
theorem dX7_behind_115 : decode cX7_behind 115 = .ok (.getfield 7, 3) := by decide +kernel
theorem dX7_behind_118 : decode cX7_behind 118 = .ok (.iload 4, 2) := by decide +kernel
theorem dX7_behind_120 : decode cX7_behind 120 = .ok (.aload_n 0, 1) := by decide +kernel
theorem dX7_behind_121 : decode cX7_behind 121 = .ok (.getfield 23, 3) := by decide +kernel
theorem dX7_behind_124 : decode cX7_behind 124 = .ok (.iload 4, 2) := by decide +kernel
theorem dX7_behind_126 : decode cX7_behind 126 = .ok (.iaload, 1) := by decide +kernel
theorem dX7_behind_127 : decode cX7_behind 127 = .ok (.iastore, 1) := by decide +kernel
theorem dX7_behind_128 : decode cX7_behind 128 = .ok (.iinc 4 1, 3) := by decide +kernel
theorem dX7_behind_131 : decode cX7_behind 131 = .ok (.goto (-25), 3) := by decide +kernel
theorem dX7_behind_134 : decode cX7_behind 134 = .ok (.iload_n 3, 1) := by decide +kernel
theorem dX7_behind_135 : decode cX7_behind 135 = .ok (.ireturn, 1) := by decide +kernel
theorem dX7_ifStill_0 : decode cX7_ifStill 0 = .ok (.aload_n 0, 1) := by decide +kernel
theorem dX7_ifStill_1 : decode cX7_ifStill 1 = .ok (.iconst 0, 1) := by decide +kernel
theorem dX7_ifStill_2 : decode cX7_ifStill 2 = .ok (.putfield 48, 3) := by decide +kernel
theorem dX7_ifStill_5 : decode cX7_ifStill 5 = .ok (.iload_n 1, 1) := by decide +kernel
theorem dX7_ifStill_6 : decode cX7_ifStill 6 = .ok (.iconst 1, 1) := by decide +kernel
theorem dX7_ifStill_7 : decode cX7_ifStill 7 = .ok (.bipush 48, 2) := by decide +kernel
theorem dX7_ifStill_9 : decode cX7_ifStill 9 = .ok (.invokestatic 52, 3) := by decide +kernel
theorem dX7_ifStill_12 : decode cX7_ifStill 12 = .ok (.ifCond .eq 21, 3) := by decide +kernel
theorem dX7_ifStill_15 : decode cX7_ifStill 15 = .ok (.iload_n 2, 1) := by decide +kernel
theorem dX7_ifStill_16 : decode cX7_ifStill 16 = .ok (.iconst 0, 1) := by decide +kernel
theorem dX7_ifStill_17 : decode cX7_ifStill 17 = .ok (.iconst 3, 1) := by decide +kernel
theorem dX7_ifStill_18 : decode cX7_ifStill 18 = .ok (.invokestatic 52, 3) := by decide +kernel
theorem dX7_ifStill_21 : decode cX7_ifStill 21 = .ok (.ifCond .eq 12, 3) := by decide +kernel
theorem dX7_ifStill_24 : decode cX7_ifStill 24 = .ok (.aload_n 0, 1) := by decide +kernel
theorem dX7_ifStill_25 : decode cX7_ifStill 25 = .ok (.iload_n 1, 1) := by decide +kernel
theorem dX7_ifStill_26 : decode cX7_ifStill 26 = .ok (.iload_n 2, 1) := by decide +kernel
theorem dX7_ifStill_27 : decode cX7_ifStill 27 = .ok (.invokevirtual 222, 3) := by decide +kernel
theorem dX7_ifStill_30 : decode cX7_ifStill 30 = .ok (.goto 8, 3) := by decide +kernel
theorem dX7_ifStill_33 : decode cX7_ifStill 33 = .ok (.aload_n 0, 1) := by decide +kernel
theorem dX7_ifStill_34 : decode cX7_ifStill 34 = .ok (.iconst 1, 1) := by decide +kernel
theorem dX7_ifStill_35 : decode cX7_ifStill 35 = .ok (.invokevirtual 59, 3) := by decide +kernel
theorem dX7_ifStill_38 : decode cX7_ifStill 38 = .ok (.ireturn, 1) := by decide +kernel
theorem dX7_stillIn_0 : decode cX7_stillIn 0 = .ok (.aload_n 0, 1) := by decide +kernel
theorem dX7_stillIn_1 : decode cX7_stillIn 1 = .ok (.iconst 0, 1) := by decide +kernel
theorem dX7_stillIn_2 : decode cX7_stillIn 2 = .ok (.putfield 48, 3) := by decide +kernel
theorem dX7_stillIn_5 : decode cX7_stillIn 5 = .ok (.aload_n 0, 1) := by decide +kernel
theorem dX7_stillIn_6 : decode cX7_stillIn 6 = .ok (.iload_n 1, 1) := by decide +kernel
theorem dX7_stillIn_7 : decode cX7_stillIn 7 = .ok (.invokevirtual 141, 3) := by decide +kernel
theorem dX7_stillIn_10 : decode cX7_stillIn 10 = .ok (.ifCond .ne 9, 3) := by decide +kernel
theorem dX7_stillIn_13 : decode cX7_stillIn 13 = .ok (.aload_n 0, 1) := by decide +kernel
theorem dX7_stillIn_14 : decode cX7_stillIn 14 = .ok (.iconst 1, 1) := by decide +kernel
theorem dX7_stillIn_15 : decode cX7_stillIn 15 = .ok (.invokevirtual 59, 3) := by decide +kernel
theorem dX7_stillIn_18 : decode cX7_stillIn 18 = .ok (.ireturn, 1) := by decide +kernel
theorem dX7_stillIn_19 : decode cX7_stillIn 19 = .ok (.aload_n 0, 1) := by decide +kernel
theorem dX7_stillIn_20 : decode cX7_stillIn 20 = .ok (.iload_n 1, 1) := by decide +kernel
theorem dX7_stillIn_21 : decode cX7_stillIn 21 = .ok (.iconst 4, 1) := by decide +kernel
theorem dX7_stillIn_22 : decode cX7_stillIn 22 = .ok (.invokevirtual 66, 3) := by decide +kernel
theorem dX7_stillIn_25 : decode cX7_stillIn 25 = .ok (.istore_n 2, 1) := by decide +kernel
theorem dX7_stillIn_26 : decode cX7_stillIn 26 = .ok (.iconst 0, 1) := by decide +kernel
theorem dX7_stillIn_27 : decode cX7_stillIn 27 = .ok (.istore_n 3, 1) := by decide +kernel
theorem dX7_stillIn_28 : decode cX7_stillIn 28 = .ok (.aload_n 0, 1) := by decide +kernel
theorem dX7_stillIn_29 : decode cX7_stillIn 29 = .ok (.iload_n 1, 1) := by decide +kernel
theorem dX7_stillIn_30 : decode cX7_stillIn 30 = .ok (.invokevirtual 91, 3) := by decide +kernel
theorem dX7_stillIn_33 : decode cX7_stillIn 33 = .ok (.ifCond .eq 14, 3) := by decide +kernel
theorem dX7_stillIn_36 : decode cX7_stillIn 36 = .ok (.aload_n 0, 1) := by decide +kernel
theorem dX7_stillIn_37 : decode cX7_stillIn 37 = .ok (.iload_n 1, 1) := by decide +kernel
theorem dX7_stillIn_38 : decode cX7_stillIn 38 = .ok (.invokevirtual 113, 3) := by decide +kernel
theorem dX7_stillIn_41 : decode cX7_stillIn 41 = .ok (.iinc 3 1, 3) := by decide +kernel
theorem dX7_stillIn_44 : decode cX7_stillIn 44 = .ok (.goto (-16), 3) := by decide +kernel
theorem dX7_stillIn_47 : decode cX7_stillIn 47 = .ok (.aload_n 0, 1) := by decide +kernel
theorem dX7_stillIn_48 : decode cX7_stillIn 48 = .ok (.iload_n 1, 1) := by decide +kernel
theorem dX7_stillIn_49 : decode cX7_stillIn 49 = .ok (.iconst 4, 1) := by decide +kernel
theorem dX7_stillIn_50 : decode cX7_stillIn 50 = .ok (.iload_n 2, 1) := by decide +kernel
theorem dX7_stillIn_51 : decode cX7_stillIn 51 = .ok (.invokevirtual 94, 3) := by decide +kernel
theorem dX7_stillIn_54 : decode cX7_stillIn 54 = .ok (.iload_n 3, 1) := by decide +kernel
theorem dX7_stillIn_55 : decode cX7_stillIn 55 = .ok (.ireturn, 1) := by decide +kernel
theorem dX7_meanError_0 : decode cX7_meanError 0 = .ok (.aload_n 0, 1) := by decide +kernel
theorem dX7_meanError_1 : decode cX7_meanError 1 = .ok (.iconst 0, 1) := by decide +kernel
theorem dX7_meanError_2 : decode cX7_meanError 2 = .ok (.putfield 48, 3) := by decide +kernel
theorem dX7_meanError_5 : decode cX7_meanError 5 = .ok (.iconst 0, 1) := by decide +kernel
theorem dX7_meanError_6 : decode cX7_meanError 6 = .ok (.istore_n 1, 1) := by decide +kernel
theorem dX7_meanError_7 : decode cX7_meanError 7 = .ok (.iconst 0, 1) := by decide +kernel
theorem dX7_meanError_8 : decode cX7_meanError 8 = .ok (.istore_n 2, 1) := by decide +kernel
theorem dX7_meanError_9 : decode cX7_meanError 9 = .ok (.iconst 0, 1) := by decide +kernel
theorem dX7_meanError_10 : decode cX7_meanError 10 = .ok (.istore_n 3, 1) := by decide +kernel
theorem dX7_meanError_11 : decode cX7_meanError 11 = .ok (.iload_n 3, 1) := by decide +kernel
theorem dX7_meanError_12 : decode cX7_meanError 12 = .ok (.aload_n 0, 1) := by decide +kernel
theorem dX7_meanError_13 : decode cX7_meanError 13 = .ok (.getfield 7, 3) := by decide +kernel
theorem dX7_meanError_16 : decode cX7_meanError 16 = .ok (.bipush 15, 2) := by decide +kernel
theorem dX7_meanError_18 : decode cX7_meanError 18 = .ok (.iaload, 1) := by decide +kernel
theorem dX7_meanError_19 : decode cX7_meanError 19 = .ok (.if_icmp .ge 49, 3) := by decide +kernel
theorem dX7_meanError_22 : decode cX7_meanError 22 = .ok (.iload_n 1, 1) := by decide +kernel
theorem dX7_meanError_23 : decode cX7_meanError 23 = .ok (.aload_n 0, 1) := by decide +kernel
theorem dX7_meanError_24 : decode cX7_meanError 24 = .ok (.iload_n 3, 1) := by decide +kernel
theorem dX7_meanError_25 : decode cX7_meanError 25 = .ok (.bipush 7, 2) := by decide +kernel
theorem dX7_meanError_27 : decode cX7_meanError 27 = .ok (.invokevirtual 66, 3) := by decide +kernel
theorem dX7_meanError_30 : decode cX7_meanError 30 = .ok (.ifCond .le 11, 3) := by decide +kernel
theorem dX7_meanError_33 : decode cX7_meanError 33 = .ok (.aload_n 0, 1) := by decide +kernel
theorem dX7_meanError_34 : decode cX7_meanError 34 = .ok (.iload_n 3, 1) := by decide +kernel
theorem dX7_meanError_35 : decode cX7_meanError 35 = .ok (.invokevirtual 207, 3) := by decide +kernel
theorem dX7_meanError_38 : decode cX7_meanError 38 = .ok (.goto 4, 3) := by decide +kernel
theorem dX7_meanError_41 : decode cX7_meanError 41 = .ok (.iconst 0, 1) := by decide +kernel
theorem dX7_meanError_42 : decode cX7_meanError 42 = .ok (.iadd, 1) := by decide +kernel
theorem dX7_meanError_43 : decode cX7_meanError 43 = .ok (.istore_n 1, 1) := by decide +kernel
theorem dX7_meanError_44 : decode cX7_meanError 44 = .ok (.iload_n 2, 1) := by decide +kernel
theorem dX7_meanError_45 : decode cX7_meanError 45 = .ok (.aload_n 0, 1) := by decide +kernel
theorem dX7_meanError_46 : decode cX7_meanError 46 = .ok (.iload_n 3, 1) := by decide +kernel
theorem dX7_meanError_47 : decode cX7_meanError 47 = .ok (.bipush 7, 2) := by decide +kernel
theorem dX7_meanError_49 : decode cX7_meanError 49 = .ok (.invokevirtual 66, 3) := by decide +kernel
theorem dX7_meanError_52 : decode cX7_meanError 52 = .ok (.ifCond .le 7, 3) := by decide +kernel
theorem dX7_meanError_55 : decode cX7_meanError 55 = .ok (.iconst 1, 1) := by decide +kernel
theorem dX7_meanError_56 : decode cX7_meanError 56 = .ok (.goto 4, 3) := by decide +kernel
theorem dX7_meanError_59 : decode cX7_meanError 59 = .ok (.iconst 0, 1) := by decide +kernel
theorem dX7_meanError_60 : decode cX7_meanError 60 = .ok (.iadd, 1) := by decide +kernel
theorem dX7_meanError_61 : decode cX7_meanError 61 = .ok (.istore_n 2, 1) := by decide +kernel
theorem dX7_meanError_62 : decode cX7_meanError 62 = .ok (.iinc 3 1, 3) := by decide +kernel
theorem dX7_meanError_65 : decode cX7_meanError 65 = .ok (.goto (-54), 3) := by decide +kernel
theorem dX7_meanError_68 : decode cX7_meanError 68 = .ok (.iload_n 2, 1) := by decide +kernel
theorem dX7_meanError_69 : decode cX7_meanError 69 = .ok (.ifCond .ne 7, 3) := by decide +kernel
theorem dX7_meanError_72 : decode cX7_meanError 72 = .ok (.dconst 0, 1) := by decide +kernel
theorem dX7_meanError_73 : decode cX7_meanError 73 = .ok (.goto 8, 3) := by decide +kernel
theorem dX7_meanError_76 : decode cX7_meanError 76 = .ok (.iload_n 1, 1) := by decide +kernel
theorem dX7_meanError_77 : decode cX7_meanError 77 = .ok (.i2d, 1) := by decide +kernel
theorem dX7_meanError_78 : decode cX7_meanError 78 = .ok (.iload_n 2, 1) := by decide +kernel
theorem dX7_meanError_79 : decode cX7_meanError 79 = .ok (.i2d, 1) := by decide +kernel
theorem dX7_meanError_80 : decode cX7_meanError 80 = .ok (.ddiv, 1) := by decide +kernel
theorem dX7_meanError_81 : decode cX7_meanError 81 = .ok (.dreturn, 1) := by decide +kernel
end
section
def lw_all : List Cond := lw_tbl.filter goodWord
theorem lw_good : ∀ w ∈ lw_all, w ∈ lw_tbl ∧ goodWord w = true := fun w h => List.mem_filter.mp h
theorem lw_mem {w : Cond} (h : w ∈ lw_tbl) (g : goodWord w = true) : w ∈ lw_all := List.mem_filter.mpr ⟨h, g⟩
theorem lw_t0 {w : Cond} (h : w ∈ tables_1) (g : goodWord w = true) : w ∈ lw_all := lw_mem (List.mem_append_right _ h) g
theorem lw_n0 {w : Cond} (h : w ∈ tables_1_1) : w ∈ lw_tbl := List.mem_append_right _ (List.mem_append_left _ h)
theorem lw_c0 {w : Cond} (h : w ∈ tables_1_1) (g : goodWord w = true) : w ∈ lw_all := lw_t0 (List.mem_append_left _ h) g
theorem lw_n1 {w : Cond} (h : w ∈ tables_1_2) : w ∈ lw_tbl := List.mem_append_right _ (List.mem_append_right _ (List.mem_append_left _ h))
theorem lw_c1 {w : Cond} (h : w ∈ tables_1_2) (g : goodWord w = true) : w ∈ lw_all := lw_t0 (List.mem_append_right _ (List.mem_append_left _ h)) g
theorem lw_n2 {w : Cond} (h : w ∈ tables_1_3) : w ∈ lw_tbl := List.mem_append_right _ (List.mem_append_right _ (List.mem_append_right _ (List.mem_append_left _ h)))
theorem lw_c2 {w : Cond} (h : w ∈ tables_1_3) (g : goodWord w = true) : w ∈ lw_all := lw_t0 (List.mem_append_right _ (List.mem_append_right _ (List.mem_append_left _ h))) g
theorem lw_n3 {w : Cond} (h : w ∈ tables_1_4) : w ∈ lw_tbl := List.mem_append_right _ (List.mem_append_right _ (List.mem_append_right _ (List.mem_append_right _ (List.mem_append_left _ h))))
theorem lw_c3 {w : Cond} (h : w ∈ tables_1_4) (g : goodWord w = true) : w ∈ lw_all := lw_t0 (List.mem_append_right _ (List.mem_append_right _ (List.mem_append_right _ (List.mem_append_left _ h)))) g
theorem lw_n4 {w : Cond} (h : w ∈ tables_1_5) : w ∈ lw_tbl := List.mem_append_right _ (List.mem_append_right _ (List.mem_append_right _ (List.mem_append_right _ (List.mem_append_right _ (List.mem_append_left _ h)))))
theorem lw_c4 {w : Cond} (h : w ∈ tables_1_5) (g : goodWord w = true) : w ∈ lw_all := lw_t0 (List.mem_append_right _ (List.mem_append_right _ (List.mem_append_right _ (List.mem_append_right _ (List.mem_append_left _ h))))) g
theorem lw_n5 {w : Cond} (h : w ∈ tables_1_6) : w ∈ lw_tbl := List.mem_append_right _ (List.mem_append_right _ (List.mem_append_right _ (List.mem_append_right _ (List.mem_append_right _ (List.mem_append_right _ (h))))))
theorem lw_c5 {w : Cond} (h : w ∈ tables_1_6) (g : goodWord w = true) : w ∈ lw_all := lw_t0 (List.mem_append_right _ (List.mem_append_right _ (List.mem_append_right _ (List.mem_append_right _ (List.mem_append_right _ (h)))))) g
theorem lw_sel {y : MethodName} {n : Nat} (h : (y, n) ∈ lw_privs) : Cond.selects y.cls y y ∈ lw_all := lw_mem (List.mem_append_left _ (List.mem_map.mpr ⟨(y, n), h, rfl⟩)) rfl
theorem qi_RL : Cond.initialized RL ∈ lw_all := lw_c0 (List.mem_of_getElem? (i := 0) (by decide +kernel)) rfl
theorem qi_RX6 : Cond.initialized RX6 ∈ lw_all := lw_c0 (List.mem_of_getElem? (i := 1) (by decide +kernel)) rfl
theorem qi_RX3 : Cond.initialized RX3 ∈ lw_all := lw_c0 (List.mem_of_getElem? (i := 2) (by decide +kernel)) rfl
theorem qi_RX5 : Cond.initialized RX5 ∈ lw_all := lw_c0 (List.mem_of_getElem? (i := 3) (by decide +kernel)) rfl
theorem qi_RX0 : Cond.initialized RX0 ∈ lw_all := lw_c0 (List.mem_of_getElem? (i := 4) (by decide +kernel)) rfl
theorem qi_RX1 : Cond.initialized RX1 ∈ lw_all := lw_c0 (List.mem_of_getElem? (i := 5) (by decide +kernel)) rfl
theorem qi_RX4 : Cond.initialized RX4 ∈ lw_all := lw_c0 (List.mem_of_getElem? (i := 6) (by decide +kernel)) rfl
theorem qi_RX2 : Cond.initialized RX2 ∈ lw_all := lw_c0 (List.mem_of_getElem? (i := 7) (by decide +kernel)) rfl
theorem qi_RX7 : Cond.initialized RX7 ∈ lw_all := lw_c0 (List.mem_of_getElem? (i := 8) (by decide +kernel)) rfl
theorem qi_RJ9 : Cond.initialized RJ9 ∈ lw_all := lw_c0 (List.mem_of_getElem? (i := 15) (by decide +kernel)) rfl
theorem qi_RJ6 : Cond.initialized RJ6 ∈ lw_all := lw_c0 (List.mem_of_getElem? (i := 16) (by decide +kernel)) rfl
theorem qk_RL_8 : Cond.classLink RL 8 RX6 ∈ lw_all := lw_c0 (List.mem_of_getElem? (i := 17) (by decide +kernel)) rfl
theorem qa_RX6 : Cond.instantiable RX6 6 ∈ lw_all := lw_c0 (List.mem_of_getElem? (i := 18) (by decide +kernel)) rfl
theorem ql_RL_83 : Cond.methodLink RL 83 yX6_init ∈ lw_all := lw_c0 (List.mem_of_getElem? (i := 19) (by decide +kernel)) rfl
theorem qm_yX6_init : Cond.instanceMethod yX6_init ∈ lw_all := lw_c0 (List.mem_of_getElem? (i := 20) (by decide +kernel)) rfl
theorem qc_yX6_init : Cond.code yX6_init cX6_init 1 none ∈ lw_all := lw_c0 (List.mem_of_getElem? (i := 21) (by decide +kernel)) rfl
theorem ql_RX6_1 : Cond.methodLink RX6 1 objectInit ∈ lw_all := lw_c0 (List.mem_of_getElem? (i := 22) (by decide +kernel)) rfl
theorem qk_RX6_7 : Cond.classLink RX6 7 RX3 ∈ lw_all := lw_c0 (List.mem_of_getElem? (i := 25) (by decide +kernel)) rfl
theorem qa_RX3 : Cond.instantiable RX3 13 ∈ lw_all := lw_c0 (List.mem_of_getElem? (i := 26) (by decide +kernel)) rfl
theorem ql_RX6_9 : Cond.methodLink RX6 9 yX3_init ∈ lw_all := lw_c0 (List.mem_of_getElem? (i := 27) (by decide +kernel)) rfl
theorem qm_yX3_init : Cond.instanceMethod yX3_init ∈ lw_all := lw_c0 (List.mem_of_getElem? (i := 28) (by decide +kernel)) rfl
theorem qc_yX3_init : Cond.code yX3_init cX3_init 2 none ∈ lw_all := lw_c0 (List.mem_of_getElem? (i := 29) (by decide +kernel)) rfl
theorem ql_RX3_3 : Cond.methodLink RX3 3 objectInit ∈ lw_all := lw_c0 (List.mem_of_getElem? (i := 30) (by decide +kernel)) rfl
theorem qk_RX3_9 : Cond.classLink RX3 9 RX5 ∈ lw_all := lw_c0 (List.mem_of_getElem? (i := 31) (by decide +kernel)) rfl
theorem qa_RX5 : Cond.instantiable RX5 12 ∈ lw_all := lw_c0 (List.mem_of_getElem? (i := 33) (by decide +kernel)) rfl
theorem qm_yX5_init : Cond.instanceMethod yX5_init ∈ lw_all := lw_c0 (List.mem_of_getElem? (i := 35) (by decide +kernel)) rfl
theorem qc_yX5_init : Cond.code yX5_init cX5_init 1 none ∈ lw_all := lw_c0 (List.mem_of_getElem? (i := 36) (by decide +kernel)) rfl
theorem ql_RX5_3 : Cond.methodLink RX5 3 objectInit ∈ lw_all := lw_c0 (List.mem_of_getElem? (i := 37) (by decide +kernel)) rfl
theorem qn_RX5_25 : Cond.constant RX5 25 (-999999) ∈ lw_all := lw_c0 (List.mem_of_getElem? (i := 38) (by decide +kernel)) rfl
theorem qf_RX5_9 : Cond.fieldLink RX5 9 "LateThermometers$Thermometer" "readingHours" "[I" ∈ lw_all := lw_c0 (List.mem_of_getElem? (i := 39) (by decide +kernel)) rfl
theorem qf_RX5_15 : Cond.fieldLink RX5 15 "LateThermometers$Thermometer" "readingValues" "[I" ∈ lw_all := lw_c0 (List.mem_of_getElem? (i := 40) (by decide +kernel)) rfl
theorem qf_RX5_45 : Cond.fieldLink RX5 45 "LateThermometers$Thermometer" "kept" "I" ∈ lw_all := lw_c0 (List.mem_of_getElem? (i := 41) (by decide +kernel)) rfl
theorem qf_RX5_18 : Cond.fieldLink RX5 18 "LateThermometers$Thermometer" "lag" "I" ∈ lw_all := lw_c0 (List.mem_of_getElem? (i := 42) (by decide +kernel)) rfl
theorem qf_RX5_32 : Cond.fieldLink RX5 32 "LateThermometers$Thermometer" "offset" "I" ∈ lw_all := lw_c0 (List.mem_of_getElem? (i := 43) (by decide +kernel)) rfl
theorem qf_RX5_29 : Cond.fieldLink RX5 29 "LateThermometers$Thermometer" "row" "I" ∈ lw_all := lw_c0 (List.mem_of_getElem? (i := 44) (by decide +kernel)) rfl
theorem qf_RX3_90 : Cond.fieldLink RX3 90 "LateThermometers$Thermometer" "row" "I" ∈ lw_all := lw_c0 (List.mem_of_getElem? (i := 45) (by decide +kernel)) rfl
theorem qf_RX5_22 : Cond.fieldLink RX5 22 "LateThermometers$Thermometer" "weight" "I" ∈ lw_all := lw_c0 (List.mem_of_getElem? (i := 46) (by decide +kernel)) rfl
theorem qf_RX3_170 : Cond.fieldLink RX3 170 "LateThermometers$Thermometer" "weight" "I" ∈ lw_all := lw_c0 (List.mem_of_getElem? (i := 47) (by decide +kernel)) rfl
theorem qf_RX5_42 : Cond.fieldLink RX5 42 "LateThermometers$Thermometer" "shown" "I" ∈ lw_all := lw_c0 (List.mem_of_getElem? (i := 48) (by decide +kernel)) rfl
theorem qf_RX6_106 : Cond.fieldLink RX6 106 "LateThermometers$Thermometer" "shown" "I" ∈ lw_all := lw_c0 (List.mem_of_getElem? (i := 49) (by decide +kernel)) rfl
theorem qf_RX5_48 : Cond.fieldLink RX5 48 "LateThermometers$Thermometer" "strikes" "I" ∈ lw_all := lw_c0 (List.mem_of_getElem? (i := 50) (by decide +kernel)) rfl
theorem qf_RX6_98 : Cond.fieldLink RX6 98 "LateThermometers$Thermometer" "strikes" "I" ∈ lw_all := lw_c0 (List.mem_of_getElem? (i := 51) (by decide +kernel)) rfl
theorem qf_RX5_35 : Cond.fieldLink RX5 35 "LateThermometers$Thermometer" "spikes" "I" ∈ lw_all := lw_c0 (List.mem_of_getElem? (i := 52) (by decide +kernel)) rfl
theorem qf_RX3_142 : Cond.fieldLink RX3 142 "LateThermometers$Thermometer" "spikes" "I" ∈ lw_all := lw_c0 (List.mem_of_getElem? (i := 53) (by decide +kernel)) rfl
theorem qf_RX5_51 : Cond.fieldLink RX5 51 "LateThermometers$Thermometer" "shutOut" "Z" ∈ lw_all := lw_c0 (List.mem_of_getElem? (i := 54) (by decide +kernel)) rfl
theorem qf_RX3_166 : Cond.fieldLink RX3 166 "LateThermometers$Thermometer" "shutOut" "Z" ∈ lw_all := lw_c0 (List.mem_of_getElem? (i := 55) (by decide +kernel)) rfl
theorem qf_RX5_26 : Cond.fieldLink RX5 26 "LateThermometers$Thermometer" "mended" "I" ∈ lw_all := lw_c0 (List.mem_of_getElem? (i := 56) (by decide +kernel)) rfl
theorem qf_RX3_157 : Cond.fieldLink RX3 157 "LateThermometers$Thermometer" "mended" "I" ∈ lw_all := lw_c0 (List.mem_of_getElem? (i := 57) (by decide +kernel)) rfl
theorem qy_0 : Cond.arrayClass Jvm.ClassFile.FieldType.int ∈ lw_all := lw_c0 (List.mem_of_getElem? (i := 83) (by decide +kernel)) rfl
theorem qk_RX3_29 : Cond.classLink RX3 29 RX0 ∈ lw_all := lw_c0 (List.mem_of_getElem? (i := 84) (by decide +kernel)) rfl
theorem qa_RX0 : Cond.instantiable RX0 2 ∈ lw_all := lw_c0 (List.mem_of_getElem? (i := 85) (by decide +kernel)) rfl
theorem qm_yX0_init : Cond.instanceMethod yX0_init ∈ lw_all := lw_c0 (List.mem_of_getElem? (i := 87) (by decide +kernel)) rfl
theorem qc_yX0_init : Cond.code yX0_init cX0_init 1 none ∈ lw_all := lw_c0 (List.mem_of_getElem? (i := 88) (by decide +kernel)) rfl
theorem ql_RX0_3 : Cond.methodLink RX0 3 objectInit ∈ lw_all := lw_c0 (List.mem_of_getElem? (i := 89) (by decide +kernel)) rfl
theorem qf_RX0_9 : Cond.fieldLink RX0 9 "LateThermometers$Ascending" "numbers" "[I" ∈ lw_all := lw_c0 (List.mem_of_getElem? (i := 90) (by decide +kernel)) rfl
theorem qf_RX0_15 : Cond.fieldLink RX0 15 "LateThermometers$Ascending" "size" "I" ∈ lw_all := lw_c0 (List.mem_of_getElem? (i := 91) (by decide +kernel)) rfl
theorem qn_RX3_36 : Cond.constant RX3 36 (-999999) ∈ lw_all := lw_c0 (List.mem_of_getElem? (i := 97) (by decide +kernel)) rfl
theorem qf_RX3_11 : Cond.fieldLink RX3 11 "LateThermometers$Place" "thermometers" "[LLateThermometers$Thermometer;" ∈ lw_all := lw_c0 (List.mem_of_getElem? (i := 98) (by decide +kernel)) rfl
theorem qf_RX3_18 : Cond.fieldLink RX3 18 "LateThermometers$Place" "spare" "LLateThermometers$Thermometer;" ∈ lw_all := lw_c0 (List.mem_of_getElem? (i := 99) (by decide +kernel)) rfl
theorem qf_RX3_22 : Cond.fieldLink RX3 22 "LateThermometers$Place" "periods" "[I" ∈ lw_all := lw_c0 (List.mem_of_getElem? (i := 100) (by decide +kernel)) rfl
theorem qf_RX3_26 : Cond.fieldLink RX3 26 "LateThermometers$Place" "timesRead" "[I" ∈ lw_all := lw_c0 (List.mem_of_getElem? (i := 101) (by decide +kernel)) rfl
theorem qf_RX3_32 : Cond.fieldLink RX3 32 "LateThermometers$Place" "sorted" "LLateThermometers$Ascending;" ∈ lw_all := lw_c0 (List.mem_of_getElem? (i := 102) (by decide +kernel)) rfl
theorem qf_RX3_37 : Cond.fieldLink RX3 37 "LateThermometers$Place" "meanBefore" "I" ∈ lw_all := lw_c0 (List.mem_of_getElem? (i := 103) (by decide +kernel)) rfl
theorem qf_RX3_50 : Cond.fieldLink RX3 50 "LateThermometers$Place" "size" "I" ∈ lw_all := lw_c0 (List.mem_of_getElem? (i := 104) (by decide +kernel)) rfl
theorem qf_RX6_207 : Cond.fieldLink RX6 207 "LateThermometers$Place" "size" "I" ∈ lw_all := lw_c0 (List.mem_of_getElem? (i := 105) (by decide +kernel)) rfl
theorem qf_RX3_65 : Cond.fieldLink RX3 65 "LateThermometers$Place" "hour" "I" ∈ lw_all := lw_c0 (List.mem_of_getElem? (i := 106) (by decide +kernel)) rfl
theorem qf_RX6_171 : Cond.fieldLink RX6 171 "LateThermometers$Place" "hour" "I" ∈ lw_all := lw_c0 (List.mem_of_getElem? (i := 107) (by decide +kernel)) rfl
theorem qf_RX3_41 : Cond.fieldLink RX3 41 "LateThermometers$Place" "temperature" "I" ∈ lw_all := lw_c0 (List.mem_of_getElem? (i := 108) (by decide +kernel)) rfl
theorem qf_RX6_81 : Cond.fieldLink RX6 81 "LateThermometers$Place" "temperature" "I" ∈ lw_all := lw_c0 (List.mem_of_getElem? (i := 109) (by decide +kernel)) rfl
theorem qf_RX3_68 : Cond.fieldLink RX3 68 "LateThermometers$Place" "readings" "I" ∈ lw_all := lw_c0 (List.mem_of_getElem? (i := 110) (by decide +kernel)) rfl
theorem qf_RX6_223 : Cond.fieldLink RX6 223 "LateThermometers$Place" "readings" "I" ∈ lw_all := lw_c0 (List.mem_of_getElem? (i := 111) (by decide +kernel)) rfl
theorem qf_RX3_71 : Cond.fieldLink RX3 71 "LateThermometers$Place" "spikes" "I" ∈ lw_all := lw_c0 (List.mem_of_getElem? (i := 112) (by decide +kernel)) rfl
theorem qf_RX6_226 : Cond.fieldLink RX6 226 "LateThermometers$Place" "spikes" "I" ∈ lw_all := lw_c0 (List.mem_of_getElem? (i := 113) (by decide +kernel)) rfl
theorem qf_RX3_44 : Cond.fieldLink RX3 44 "LateThermometers$Place" "difference" "I" ∈ lw_all := lw_c0 (List.mem_of_getElem? (i := 114) (by decide +kernel)) rfl
theorem qf_RX6_117 : Cond.fieldLink RX6 117 "LateThermometers$Place" "difference" "I" ∈ lw_all := lw_c0 (List.mem_of_getElem? (i := 115) (by decide +kernel)) rfl
theorem qf_RX3_47 : Cond.fieldLink RX3 47 "LateThermometers$Place" "strikesToShutOut" "I" ∈ lw_all := lw_c0 (List.mem_of_getElem? (i := 116) (by decide +kernel)) rfl
theorem qf_RX6_120 : Cond.fieldLink RX6 120 "LateThermometers$Place" "strikesToShutOut" "I" ∈ lw_all := lw_c0 (List.mem_of_getElem? (i := 117) (by decide +kernel)) rfl
theorem qk_RX6_19 : Cond.classLink RX6 19 RX1 ∈ lw_all := lw_c0 (List.mem_of_getElem? (i := 145) (by decide +kernel)) rfl
theorem qa_RX1 : Cond.instantiable RX1 4 ∈ lw_all := lw_c0 (List.mem_of_getElem? (i := 146) (by decide +kernel)) rfl
theorem ql_RX6_21 : Cond.methodLink RX6 21 yX1_init ∈ lw_all := lw_c0 (List.mem_of_getElem? (i := 147) (by decide +kernel)) rfl
theorem qm_yX1_init : Cond.instanceMethod yX1_init ∈ lw_all := lw_c0 (List.mem_of_getElem? (i := 148) (by decide +kernel)) rfl
theorem qc_yX1_init : Cond.code yX1_init cX1_init 2 none ∈ lw_all := lw_c0 (List.mem_of_getElem? (i := 149) (by decide +kernel)) rfl
theorem ql_RX1_3 : Cond.methodLink RX1 3 objectInit ∈ lw_all := lw_c0 (List.mem_of_getElem? (i := 150) (by decide +kernel)) rfl
theorem qk_RX1_9 : Cond.classLink RX1 9 RX3 ∈ lw_all := lw_c0 (List.mem_of_getElem? (i := 151) (by decide +kernel)) rfl
theorem ql_RX1_17 : Cond.methodLink RX1 17 yX3_init ∈ lw_all := lw_c0 (List.mem_of_getElem? (i := 153) (by decide +kernel)) rfl
theorem qf_RX1_11 : Cond.fieldLink RX1 11 "LateThermometers$History" "states" "[LLateThermometers$Place;" ∈ lw_all := lw_c0 (List.mem_of_getElem? (i := 154) (by decide +kernel)) rfl
theorem qf_RX1_18 : Cond.fieldLink RX1 18 "LateThermometers$History" "spare" "LLateThermometers$Place;" ∈ lw_all := lw_c0 (List.mem_of_getElem? (i := 155) (by decide +kernel)) rfl
theorem qf_RX1_22 : Cond.fieldLink RX1 22 "LateThermometers$History" "next" "I" ∈ lw_all := lw_c0 (List.mem_of_getElem? (i := 156) (by decide +kernel)) rfl
theorem qf_RX1_34 : Cond.fieldLink RX1 34 "LateThermometers$History" "size" "I" ∈ lw_all := lw_c0 (List.mem_of_getElem? (i := 157) (by decide +kernel)) rfl
theorem qf_RX6_156 : Cond.fieldLink RX6 156 "LateThermometers$History" "size" "I" ∈ lw_all := lw_c0 (List.mem_of_getElem? (i := 158) (by decide +kernel)) rfl
theorem qk_RX6_26 : Cond.classLink RX6 26 RX4 ∈ lw_all := lw_c0 (List.mem_of_getElem? (i := 168) (by decide +kernel)) rfl
theorem qa_RX4 : Cond.instantiable RX4 2 ∈ lw_all := lw_c0 (List.mem_of_getElem? (i := 169) (by decide +kernel)) rfl
theorem qm_yX4_init : Cond.instanceMethod yX4_init ∈ lw_all := lw_c0 (List.mem_of_getElem? (i := 171) (by decide +kernel)) rfl
theorem qc_yX4_init : Cond.code yX4_init cX4_init 1 none ∈ lw_all := lw_c0 (List.mem_of_getElem? (i := 172) (by decide +kernel)) rfl
theorem ql_RX4_1 : Cond.methodLink RX4 1 objectInit ∈ lw_all := lw_c0 (List.mem_of_getElem? (i := 173) (by decide +kernel)) rfl
theorem qk_RX4_7 : Cond.classLink RX4 7 RX3 ∈ lw_all := lw_c0 (List.mem_of_getElem? (i := 174) (by decide +kernel)) rfl
theorem ql_RX4_9 : Cond.methodLink RX4 9 yX3_init ∈ lw_all := lw_c0 (List.mem_of_getElem? (i := 175) (by decide +kernel)) rfl
theorem qf_RX4_10 : Cond.fieldLink RX4 10 "LateThermometers$Snapshot" "place" "LLateThermometers$Place;" ∈ lw_all := lw_c0 (List.mem_of_getElem? (i := 176) (by decide +kernel)) rfl
theorem qf_RX6_180 : Cond.fieldLink RX6 180 "LateThermometers$Snapshot" "place" "LLateThermometers$Place;" ∈ lw_all := lw_c0 (List.mem_of_getElem? (i := 177) (by decide +kernel)) rfl
theorem qf_RX4_20 : Cond.fieldLink RX4 20 "LateThermometers$Snapshot" "taken" "Z" ∈ lw_all := lw_c0 (List.mem_of_getElem? (i := 178) (by decide +kernel)) rfl
theorem qf_RX6_174 : Cond.fieldLink RX6 174 "LateThermometers$Snapshot" "taken" "Z" ∈ lw_all := lw_c0 (List.mem_of_getElem? (i := 179) (by decide +kernel)) rfl
theorem qk_RX6_36 : Cond.classLink RX6 36 RX2 ∈ lw_all := lw_c0 (List.mem_of_getElem? (i := 185) (by decide +kernel)) rfl
theorem qa_RX2 : Cond.instantiable RX2 8 ∈ lw_all := lw_c0 (List.mem_of_getElem? (i := 186) (by decide +kernel)) rfl
theorem qm_yX2_init : Cond.instanceMethod yX2_init ∈ lw_all := lw_c0 (List.mem_of_getElem? (i := 188) (by decide +kernel)) rfl
theorem qc_yX2_init : Cond.code yX2_init cX2_init 1 none ∈ lw_all := lw_c0 (List.mem_of_getElem? (i := 189) (by decide +kernel)) rfl
theorem ql_RX2_3 : Cond.methodLink RX2 3 objectInit ∈ lw_all := lw_c0 (List.mem_of_getElem? (i := 190) (by decide +kernel)) rfl
theorem qf_RX2_9 : Cond.fieldLink RX2 9 "LateThermometers$OrderText" "characters" "[C" ∈ lw_all := lw_c0 (List.mem_of_getElem? (i := 191) (by decide +kernel)) rfl
theorem qf_RX2_19 : Cond.fieldLink RX2 19 "LateThermometers$OrderText" "position" "I" ∈ lw_all := lw_c0 (List.mem_of_getElem? (i := 192) (by decide +kernel)) rfl
theorem qf_RX2_56 : Cond.fieldLink RX2 56 "LateThermometers$OrderText" "digit" "I" ∈ lw_all := lw_c0 (List.mem_of_getElem? (i := 193) (by decide +kernel)) rfl
theorem qf_RX2_15 : Cond.fieldLink RX2 15 "LateThermometers$OrderText" "length" "I" ∈ lw_all := lw_c0 (List.mem_of_getElem? (i := 194) (by decide +kernel)) rfl
theorem qf_RX6_132 : Cond.fieldLink RX6 132 "LateThermometers$OrderText" "length" "I" ∈ lw_all := lw_c0 (List.mem_of_getElem? (i := 195) (by decide +kernel)) rfl
theorem qf_RX2_36 : Cond.fieldLink RX2 36 "LateThermometers$OrderText" "kind" "C" ∈ lw_all := lw_c0 (List.mem_of_getElem? (i := 196) (by decide +kernel)) rfl
theorem qf_RX6_267 : Cond.fieldLink RX6 267 "LateThermometers$OrderText" "kind" "C" ∈ lw_all := lw_c0 (List.mem_of_getElem? (i := 197) (by decide +kernel)) rfl
theorem qf_RX2_59 : Cond.fieldLink RX2 59 "LateThermometers$OrderText" "row" "I" ∈ lw_all := lw_c0 (List.mem_of_getElem? (i := 198) (by decide +kernel)) rfl
theorem qf_RX6_271 : Cond.fieldLink RX6 271 "LateThermometers$OrderText" "row" "I" ∈ lw_all := lw_c0 (List.mem_of_getElem? (i := 199) (by decide +kernel)) rfl
theorem qf_RX2_62 : Cond.fieldLink RX2 62 "LateThermometers$OrderText" "number" "I" ∈ lw_all := lw_c0 (List.mem_of_getElem? (i := 200) (by decide +kernel)) rfl
theorem qf_RX6_274 : Cond.fieldLink RX6 274 "LateThermometers$OrderText" "number" "I" ∈ lw_all := lw_c0 (List.mem_of_getElem? (i := 201) (by decide +kernel)) rfl
theorem qf_RX2_65 : Cond.fieldLink RX2 65 "LateThermometers$OrderText" "weight" "I" ∈ lw_all := lw_c0 (List.mem_of_getElem? (i := 202) (by decide +kernel)) rfl
theorem qf_RX6_277 : Cond.fieldLink RX6 277 "LateThermometers$OrderText" "weight" "I" ∈ lw_all := lw_c0 (List.mem_of_getElem? (i := 203) (by decide +kernel)) rfl
theorem qy_1 : Cond.arrayClass Jvm.ClassFile.FieldType.char ∈ lw_all := lw_c0 (List.mem_of_getElem? (i := 221) (by decide +kernel)) rfl
theorem qf_RX6_10 : Cond.fieldLink RX6 10 "LateThermometers" "now" "LLateThermometers$Place;" ∈ lw_all := lw_c0 (List.mem_of_getElem? (i := 222) (by decide +kernel)) rfl
theorem qf_RX6_16 : Cond.fieldLink RX6 16 "LateThermometers" "trial" "LLateThermometers$Place;" ∈ lw_all := lw_c0 (List.mem_of_getElem? (i := 223) (by decide +kernel)) rfl
theorem qf_RX6_22 : Cond.fieldLink RX6 22 "LateThermometers" "history" "LLateThermometers$History;" ∈ lw_all := lw_c0 (List.mem_of_getElem? (i := 224) (by decide +kernel)) rfl
theorem qf_RX6_29 : Cond.fieldLink RX6 29 "LateThermometers" "firstSnapshot" "LLateThermometers$Snapshot;" ∈ lw_all := lw_c0 (List.mem_of_getElem? (i := 225) (by decide +kernel)) rfl
theorem qf_RX6_33 : Cond.fieldLink RX6 33 "LateThermometers" "secondSnapshot" "LLateThermometers$Snapshot;" ∈ lw_all := lw_c0 (List.mem_of_getElem? (i := 226) (by decide +kernel)) rfl
theorem qf_RX6_39 : Cond.fieldLink RX6 39 "LateThermometers" "text" "LLateThermometers$OrderText;" ∈ lw_all := lw_c0 (List.mem_of_getElem? (i := 227) (by decide +kernel)) rfl
theorem ql_RL_119 : Cond.methodLink RL 119 yX6_clearBuffer ∈ lw_all := lw_c1 (List.mem_of_getElem? (i := 1) (by decide +kernel)) rfl
theorem qm_yX6_clearBuffer : Cond.instanceMethod yX6_clearBuffer ∈ lw_all := lw_c1 (List.mem_of_getElem? (i := 2) (by decide +kernel)) rfl
theorem qs_yX6_clearBuffer : Cond.selects RX6 yX6_clearBuffer yX6_clearBuffer ∈ lw_all := lw_c1 (List.mem_of_getElem? (i := 3) (by decide +kernel)) rfl
theorem qc_yX6_clearBuffer : Cond.code yX6_clearBuffer cX6_clearBuffer 2 (some Jvm.ClassFile.FieldType.int) ∈ lw_all := lw_c1 (List.mem_of_getElem? (i := 4) (by decide +kernel)) rfl
theorem ql_RL_123 : Cond.methodLink RL 123 yX6_firstError ∈ lw_all := lw_c1 (List.mem_of_getElem? (i := 5) (by decide +kernel)) rfl
theorem qm_yX6_firstError : Cond.instanceMethod yX6_firstError ∈ lw_all := lw_c1 (List.mem_of_getElem? (i := 6) (by decide +kernel)) rfl
theorem qs_yX6_firstError : Cond.selects RX6 yX6_firstError yX6_firstError ∈ lw_all := lw_c1 (List.mem_of_getElem? (i := 7) (by decide +kernel)) rfl
theorem qc_yX6_firstError : Cond.code yX6_firstError cX6_firstError 1 (some Jvm.ClassFile.FieldType.int) ∈ lw_all := lw_c1 (List.mem_of_getElem? (i := 8) (by decide +kernel)) rfl
theorem ql_RX6_135 : Cond.methodLink RX6 135 yX2_indexOfError ∈ lw_all := lw_c1 (List.mem_of_getElem? (i := 9) (by decide +kernel)) rfl
theorem qm_yX2_indexOfError : Cond.instanceMethod yX2_indexOfError ∈ lw_all := lw_c1 (List.mem_of_getElem? (i := 10) (by decide +kernel)) rfl
theorem qs_yX2_indexOfError : Cond.selects RX2 yX2_indexOfError yX2_indexOfError ∈ lw_all := lw_c1 (List.mem_of_getElem? (i := 11) (by decide +kernel)) rfl
theorem qc_yX2_indexOfError : Cond.code yX2_indexOfError cX2_indexOfError 1 (some Jvm.ClassFile.FieldType.int) ∈ lw_all := lw_c1 (List.mem_of_getElem? (i := 12) (by decide +kernel)) rfl
theorem ql_RX2_22 : Cond.methodLink RX2 22 yX2_readsAll ∈ lw_all := lw_c1 (List.mem_of_getElem? (i := 13) (by decide +kernel)) rfl
theorem qm_yX2_readsAll : Cond.instanceMethod yX2_readsAll ∈ lw_all := lw_c1 (List.mem_of_getElem? (i := 15) (by decide +kernel)) rfl
theorem qc_yX2_readsAll : Cond.code yX2_readsAll cX2_readsAll 2 (some Jvm.ClassFile.FieldType.boolean) ∈ lw_all := lw_c1 (List.mem_of_getElem? (i := 16) (by decide +kernel)) rfl
theorem ql_RX2_26 : Cond.methodLink RX2 26 yX2_goToStart ∈ lw_all := lw_c1 (List.mem_of_getElem? (i := 17) (by decide +kernel)) rfl
theorem qm_yX2_goToStart : Cond.instanceMethod yX2_goToStart ∈ lw_all := lw_c1 (List.mem_of_getElem? (i := 18) (by decide +kernel)) rfl
theorem qs_yX2_goToStart : Cond.selects RX2 yX2_goToStart yX2_goToStart ∈ lw_all := lw_c1 (List.mem_of_getElem? (i := 19) (by decide +kernel)) rfl
theorem qc_yX2_goToStart : Cond.code yX2_goToStart cX2_goToStart 1 none ∈ lw_all := lw_c1 (List.mem_of_getElem? (i := 20) (by decide +kernel)) rfl
theorem ql_RX2_29 : Cond.methodLink RX2 29 yX2_readsOrder ∈ lw_all := lw_c1 (List.mem_of_getElem? (i := 21) (by decide +kernel)) rfl
theorem qm_yX2_readsOrder : Cond.instanceMethod yX2_readsOrder ∈ lw_all := lw_c1 (List.mem_of_getElem? (i := 23) (by decide +kernel)) rfl
theorem qc_yX2_readsOrder : Cond.code yX2_readsOrder cX2_readsOrder 1 (some Jvm.ClassFile.FieldType.boolean) ∈ lw_all := lw_c1 (List.mem_of_getElem? (i := 24) (by decide +kernel)) rfl
theorem ql_RX2_32 : Cond.methodLink RX2 32 yX2_takesSign ∈ lw_all := lw_c1 (List.mem_of_getElem? (i := 25) (by decide +kernel)) rfl
theorem qm_yX2_takesSign : Cond.instanceMethod yX2_takesSign ∈ lw_all := lw_c1 (List.mem_of_getElem? (i := 27) (by decide +kernel)) rfl
theorem qc_yX2_takesSign : Cond.code yX2_takesSign cX2_takesSign 2 (some Jvm.ClassFile.FieldType.boolean) ∈ lw_all := lw_c1 (List.mem_of_getElem? (i := 28) (by decide +kernel)) rfl
theorem ql_RX2_53 : Cond.methodLink RX2 53 yX2_takes ∈ lw_all := lw_c1 (List.mem_of_getElem? (i := 29) (by decide +kernel)) rfl
theorem qm_yX2_takes : Cond.instanceMethod yX2_takes ∈ lw_all := lw_c1 (List.mem_of_getElem? (i := 31) (by decide +kernel)) rfl
theorem qc_yX2_takes : Cond.code yX2_takes cX2_takes 4 (some Jvm.ClassFile.FieldType.boolean) ∈ lw_all := lw_c1 (List.mem_of_getElem? (i := 32) (by decide +kernel)) rfl
theorem ql_RX2_40 : Cond.methodLink RX2 40 yX2_readsRow ∈ lw_all := lw_c1 (List.mem_of_getElem? (i := 33) (by decide +kernel)) rfl
theorem qm_yX2_readsRow : Cond.instanceMethod yX2_readsRow ∈ lw_all := lw_c1 (List.mem_of_getElem? (i := 35) (by decide +kernel)) rfl
theorem qc_yX2_readsRow : Cond.code yX2_readsRow cX2_readsRow 2 (some Jvm.ClassFile.FieldType.boolean) ∈ lw_all := lw_c1 (List.mem_of_getElem? (i := 36) (by decide +kernel)) rfl
theorem ql_RX2_43 : Cond.methodLink RX2 43 yX2_readsNumber ∈ lw_all := lw_c1 (List.mem_of_getElem? (i := 37) (by decide +kernel)) rfl
theorem qm_yX2_readsNumber : Cond.instanceMethod yX2_readsNumber ∈ lw_all := lw_c1 (List.mem_of_getElem? (i := 39) (by decide +kernel)) rfl
theorem qc_yX2_readsNumber : Cond.code yX2_readsNumber cX2_readsNumber 4 (some Jvm.ClassFile.FieldType.boolean) ∈ lw_all := lw_c1 (List.mem_of_getElem? (i := 40) (by decide +kernel)) rfl
theorem ql_RX2_47 : Cond.methodLink RX2 47 yX2_readsWeight ∈ lw_all := lw_c1 (List.mem_of_getElem? (i := 41) (by decide +kernel)) rfl
theorem qm_yX2_readsWeight : Cond.instanceMethod yX2_readsWeight ∈ lw_all := lw_c1 (List.mem_of_getElem? (i := 43) (by decide +kernel)) rfl
theorem qc_yX2_readsWeight : Cond.code yX2_readsWeight cX2_readsWeight 2 (some Jvm.ClassFile.FieldType.boolean) ∈ lw_all := lw_c1 (List.mem_of_getElem? (i := 44) (by decide +kernel)) rfl
theorem ql_RX2_50 : Cond.methodLink RX2 50 yX2_readsDegrees ∈ lw_all := lw_c1 (List.mem_of_getElem? (i := 45) (by decide +kernel)) rfl
theorem qm_yX2_readsDegrees : Cond.instanceMethod yX2_readsDegrees ∈ lw_all := lw_c1 (List.mem_of_getElem? (i := 47) (by decide +kernel)) rfl
theorem qc_yX2_readsDegrees : Cond.code yX2_readsDegrees cX2_readsDegrees 4 (some Jvm.ClassFile.FieldType.boolean) ∈ lw_all := lw_c1 (List.mem_of_getElem? (i := 48) (by decide +kernel)) rfl
theorem ql_RL_156 : Cond.methodLink RL 156 yX6_between ∈ lw_all := lw_c1 (List.mem_of_getElem? (i := 49) (by decide +kernel)) rfl
theorem qm_yX6_between : Cond.instanceMethod yX6_between ∈ lw_all := lw_c1 (List.mem_of_getElem? (i := 50) (by decide +kernel)) rfl
theorem qs_yX6_between : Cond.selects RX6 yX6_between yX6_between ∈ lw_all := lw_c1 (List.mem_of_getElem? (i := 51) (by decide +kernel)) rfl
theorem qc_yX6_between : Cond.code yX6_between cX6_between 3 (some Jvm.ClassFile.FieldType.int) ∈ lw_all := lw_c1 (List.mem_of_getElem? (i := 52) (by decide +kernel)) rfl
theorem ql_RX6_233 : Cond.methodLink RX6 233 yX3_countMended ∈ lw_all := lw_c1 (List.mem_of_getElem? (i := 53) (by decide +kernel)) rfl
theorem qm_yX3_countMended : Cond.instanceMethod yX3_countMended ∈ lw_all := lw_c1 (List.mem_of_getElem? (i := 54) (by decide +kernel)) rfl
theorem qs_yX3_countMended : Cond.selects RX3 yX3_countMended yX3_countMended ∈ lw_all := lw_c1 (List.mem_of_getElem? (i := 55) (by decide +kernel)) rfl
theorem qc_yX3_countMended : Cond.code yX3_countMended cX3_countMended 5 (some Jvm.ClassFile.FieldType.int) ∈ lw_all := lw_c1 (List.mem_of_getElem? (i := 56) (by decide +kernel)) rfl
theorem ql_RX3_53 : Cond.methodLink RX3 53 yX3_at ∈ lw_all := lw_c1 (List.mem_of_getElem? (i := 57) (by decide +kernel)) rfl
theorem qm_yX3_at : Cond.instanceMethod yX3_at ∈ lw_all := lw_c1 (List.mem_of_getElem? (i := 58) (by decide +kernel)) rfl
theorem qs_yX3_at : Cond.selects RX3 yX3_at yX3_at ∈ lw_all := lw_c1 (List.mem_of_getElem? (i := 59) (by decide +kernel)) rfl
theorem qc_yX3_at : Cond.code yX3_at cX3_at 3 (some (Jvm.ClassFile.FieldType.object "LateThermometers$Thermometer")) ∈ lw_all := lw_c1 (List.mem_of_getElem? (i := 60) (by decide +kernel)) rfl
theorem ql_RX3_176 : Cond.methodLink RX3 176 yX5_hasMended ∈ lw_all := lw_c1 (List.mem_of_getElem? (i := 61) (by decide +kernel)) rfl
theorem qm_yX5_hasMended : Cond.instanceMethod yX5_hasMended ∈ lw_all := lw_c1 (List.mem_of_getElem? (i := 62) (by decide +kernel)) rfl
theorem qs_yX5_hasMended : Cond.selects RX5 yX5_hasMended yX5_hasMended ∈ lw_all := lw_c1 (List.mem_of_getElem? (i := 63) (by decide +kernel)) rfl
theorem qc_yX5_hasMended : Cond.code yX5_hasMended cX5_hasMended 1 (some Jvm.ClassFile.FieldType.boolean) ∈ lw_all := lw_c1 (List.mem_of_getElem? (i := 64) (by decide +kernel)) rfl
theorem ql_RL_172 : Cond.methodLink RL 172 yX6_meanError ∈ lw_all := lw_c1 (List.mem_of_getElem? (i := 65) (by decide +kernel)) rfl
theorem qm_yX6_meanError : Cond.instanceMethod yX6_meanError ∈ lw_all := lw_c1 (List.mem_of_getElem? (i := 66) (by decide +kernel)) rfl
theorem qs_yX6_meanError : Cond.selects RX6 yX6_meanError yX6_meanError ∈ lw_all := lw_c1 (List.mem_of_getElem? (i := 67) (by decide +kernel)) rfl
theorem qc_yX6_meanError : Cond.code yX6_meanError cX6_meanError 2 (some Jvm.ClassFile.FieldType.double) ∈ lw_all := lw_c1 (List.mem_of_getElem? (i := 68) (by decide +kernel)) rfl
theorem qn_RX6_248 : Cond.constant RX6 248 (-2147483648) ∈ lw_all := lw_c1 (List.mem_of_getElem? (i := 69) (by decide +kernel)) rfl
theorem qn_RX6_191 : Cond.constant RX6 191 (2147483647) ∈ lw_all := lw_c1 (List.mem_of_getElem? (i := 70) (by decide +kernel)) rfl
theorem ql_RX6_249 : Cond.methodLink RX6 249 yX3_sumOfErrors ∈ lw_all := lw_c1 (List.mem_of_getElem? (i := 71) (by decide +kernel)) rfl
theorem qm_yX3_sumOfErrors : Cond.instanceMethod yX3_sumOfErrors ∈ lw_all := lw_c1 (List.mem_of_getElem? (i := 72) (by decide +kernel)) rfl
theorem qs_yX3_sumOfErrors : Cond.selects RX3 yX3_sumOfErrors yX3_sumOfErrors ∈ lw_all := lw_c1 (List.mem_of_getElem? (i := 73) (by decide +kernel)) rfl
theorem qc_yX3_sumOfErrors : Cond.code yX3_sumOfErrors cX3_sumOfErrors 3 (some Jvm.ClassFile.FieldType.int) ∈ lw_all := lw_c1 (List.mem_of_getElem? (i := 74) (by decide +kernel)) rfl
theorem ql_RX3_185 : Cond.methodLink RX3 185 yX5_error ∈ lw_all := lw_c1 (List.mem_of_getElem? (i := 75) (by decide +kernel)) rfl
theorem qm_yX5_error : Cond.instanceMethod yX5_error ∈ lw_all := lw_c1 (List.mem_of_getElem? (i := 76) (by decide +kernel)) rfl
theorem qs_yX5_error : Cond.selects RX5 yX5_error yX5_error ∈ lw_all := lw_c1 (List.mem_of_getElem? (i := 77) (by decide +kernel)) rfl
theorem qc_yX5_error : Cond.code yX5_error cX5_error 2 (some Jvm.ClassFile.FieldType.int) ∈ lw_all := lw_c1 (List.mem_of_getElem? (i := 78) (by decide +kernel)) rfl
theorem ql_RX5_94 : Cond.methodLink RX5 94 yJ9_abs_0f7a4 ∈ lw_all := lw_c1 (List.mem_of_getElem? (i := 79) (by decide +kernel)) rfl
theorem qt_yJ9_abs_0f7a4 : Cond.static yJ9_abs_0f7a4 ∈ lw_all := lw_c1 (List.mem_of_getElem? (i := 80) (by decide +kernel)) rfl
theorem qc_yJ9_abs_0f7a4 : Cond.code yJ9_abs_0f7a4 cJ9_abs_0f7a4 1 (some Jvm.ClassFile.FieldType.int) ∈ lw_all := lw_c1 (List.mem_of_getElem? (i := 81) (by decide +kernel)) rfl
theorem ql_RL_87 : Cond.methodLink RL 87 yL_thermometer ∈ lw_all := lw_c1 (List.mem_of_getElem? (i := 82) (by decide +kernel)) rfl
theorem qt_yL_thermometer : Cond.static yL_thermometer ∈ lw_all := lw_c1 (List.mem_of_getElem? (i := 83) (by decide +kernel)) rfl
theorem qc_yL_thermometer : Cond.codeWith yL_thermometer cL_thermometer (7 : Nat) (Option.some Jvm.ClassFile.FieldType.int) [((0 : Nat), (14 : Nat), (17 : Nat), (13 : Nat)), ((0 : Nat), (14 : Nat), (21 : Nat), (15 : Nat)), ((0 : Nat), (14 : Nat), (25 : Nat), (17 : Nat))] ∈ lw_all := lw_c1 (List.mem_of_getElem? (i := 84) (by decide +kernel)) rfl
theorem qk_RL_13 : Cond.classLink RL 13 "java/lang/IndexOutOfBoundsException" ∈ lw_all := lw_c1 (List.mem_of_getElem? (i := 85) (by decide +kernel)) rfl
theorem qk_RL_15 : Cond.classLink RL 15 "java/lang/IllegalArgumentException" ∈ lw_all := lw_c1 (List.mem_of_getElem? (i := 86) (by decide +kernel)) rfl
theorem qk_RL_17 : Cond.classLink RL 17 "java/lang/IllegalStateException" ∈ lw_all := lw_c1 (List.mem_of_getElem? (i := 87) (by decide +kernel)) rfl
theorem ql_RL_7 : Cond.methodLink RL 7 yX6_thermometer ∈ lw_all := lw_c1 (List.mem_of_getElem? (i := 88) (by decide +kernel)) rfl
theorem qm_yX6_thermometer : Cond.instanceMethod yX6_thermometer ∈ lw_all := lw_c1 (List.mem_of_getElem? (i := 89) (by decide +kernel)) rfl
theorem qs_yX6_thermometer : Cond.selects RX6 yX6_thermometer yX6_thermometer ∈ lw_all := lw_c1 (List.mem_of_getElem? (i := 90) (by decide +kernel)) rfl
theorem qc_yX6_thermometer : Cond.code yX6_thermometer cX6_thermometer 5 (some Jvm.ClassFile.FieldType.int) ∈ lw_all := lw_c1 (List.mem_of_getElem? (i := 91) (by decide +kernel)) rfl
theorem ql_RX6_43 : Cond.methodLink RX6 43 yX6_checkRow ∈ lw_all := lw_c1 (List.mem_of_getElem? (i := 92) (by decide +kernel)) rfl
theorem qt_yX6_checkRow : Cond.static yX6_checkRow ∈ lw_all := lw_c1 (List.mem_of_getElem? (i := 93) (by decide +kernel)) rfl
theorem qc_yX6_checkRow : Cond.code yX6_checkRow cX6_checkRow 1 none ∈ lw_all := lw_c1 (List.mem_of_getElem? (i := 94) (by decide +kernel)) rfl
theorem qk_RX6_112 : Cond.classLink RX6 112 "java/lang/IndexOutOfBoundsException" ∈ lw_all := lw_c1 (List.mem_of_getElem? (i := 95) (by decide +kernel)) rfl
theorem qy_2 : Cond.arrayClass Jvm.ClassFile.FieldType.byte ∈ lw_all := lw_c1 (List.mem_of_getElem? (i := 162) (by decide +kernel)) rfl
theorem ql_RX6_47 : Cond.methodLink RX6 47 yX6_checkRange ∈ lw_all := lw_c1 (List.mem_of_getElem? (i := 163) (by decide +kernel)) rfl
theorem qt_yX6_checkRange : Cond.static yX6_checkRange ∈ lw_all := lw_c1 (List.mem_of_getElem? (i := 164) (by decide +kernel)) rfl
theorem qc_yX6_checkRange : Cond.code yX6_checkRange cX6_checkRange 3 none ∈ lw_all := lw_c1 (List.mem_of_getElem? (i := 165) (by decide +kernel)) rfl
theorem qk_RX6_142 : Cond.classLink RX6 142 "java/lang/IllegalArgumentException" ∈ lw_all := lw_c1 (List.mem_of_getElem? (i := 166) (by decide +kernel)) rfl
theorem ql_RX6_51 : Cond.methodLink RX6 51 yX3_hasRoom ∈ lw_all := lw_c1 (List.mem_of_getElem? (i := 182) (by decide +kernel)) rfl
theorem qm_yX3_hasRoom : Cond.instanceMethod yX3_hasRoom ∈ lw_all := lw_c1 (List.mem_of_getElem? (i := 183) (by decide +kernel)) rfl
theorem qs_yX3_hasRoom : Cond.selects RX3 yX3_hasRoom yX3_hasRoom ∈ lw_all := lw_c1 (List.mem_of_getElem? (i := 184) (by decide +kernel)) rfl
theorem qc_yX3_hasRoom : Cond.code yX3_hasRoom cX3_hasRoom 1 (some Jvm.ClassFile.FieldType.boolean) ∈ lw_all := lw_c1 (List.mem_of_getElem? (i := 185) (by decide +kernel)) rfl
theorem qk_RX6_55 : Cond.classLink RX6 55 "java/lang/IllegalStateException" ∈ lw_all := lw_c1 (List.mem_of_getElem? (i := 186) (by decide +kernel)) rfl
theorem ql_RX6_62 : Cond.methodLink RX6 62 yX1_save ∈ lw_all := lw_c1 (List.mem_of_getElem? (i := 202) (by decide +kernel)) rfl
theorem qm_yX1_save : Cond.instanceMethod yX1_save ∈ lw_all := lw_c1 (List.mem_of_getElem? (i := 203) (by decide +kernel)) rfl
theorem qs_yX1_save : Cond.selects RX1 yX1_save yX1_save ∈ lw_all := lw_c1 (List.mem_of_getElem? (i := 204) (by decide +kernel)) rfl
theorem qc_yX1_save : Cond.code yX1_save cX1_save 2 none ∈ lw_all := lw_c1 (List.mem_of_getElem? (i := 205) (by decide +kernel)) rfl
theorem ql_RX1_26 : Cond.methodLink RX1 26 yX1_stateAt ∈ lw_all := lw_c1 (List.mem_of_getElem? (i := 206) (by decide +kernel)) rfl
theorem qm_yX1_stateAt : Cond.instanceMethod yX1_stateAt ∈ lw_all := lw_c1 (List.mem_of_getElem? (i := 208) (by decide +kernel)) rfl
theorem qc_yX1_stateAt : Cond.code yX1_stateAt cX1_stateAt 3 (some (Jvm.ClassFile.FieldType.object "LateThermometers$Place")) ∈ lw_all := lw_c1 (List.mem_of_getElem? (i := 209) (by decide +kernel)) rfl
theorem ql_RX1_30 : Cond.methodLink RX1 30 yX3_copyFrom ∈ lw_all := lw_c1 (List.mem_of_getElem? (i := 210) (by decide +kernel)) rfl
theorem qm_yX3_copyFrom : Cond.instanceMethod yX3_copyFrom ∈ lw_all := lw_c1 (List.mem_of_getElem? (i := 211) (by decide +kernel)) rfl
theorem qs_yX3_copyFrom : Cond.selects RX3 yX3_copyFrom yX3_copyFrom ∈ lw_all := lw_c1 (List.mem_of_getElem? (i := 212) (by decide +kernel)) rfl
theorem qc_yX3_copyFrom : Cond.code yX3_copyFrom cX3_copyFrom 3 none ∈ lw_all := lw_c1 (List.mem_of_getElem? (i := 213) (by decide +kernel)) rfl
theorem ql_RX3_57 : Cond.methodLink RX3 57 yX5_copyFrom ∈ lw_all := lw_c1 (List.mem_of_getElem? (i := 214) (by decide +kernel)) rfl
theorem qm_yX5_copyFrom : Cond.instanceMethod yX5_copyFrom ∈ lw_all := lw_c1 (List.mem_of_getElem? (i := 215) (by decide +kernel)) rfl
theorem qs_yX5_copyFrom : Cond.selects RX5 yX5_copyFrom yX5_copyFrom ∈ lw_all := lw_c1 (List.mem_of_getElem? (i := 216) (by decide +kernel)) rfl
theorem qc_yX5_copyFrom : Cond.code yX5_copyFrom cX5_copyFrom 2 none ∈ lw_all := lw_c1 (List.mem_of_getElem? (i := 217) (by decide +kernel)) rfl
theorem qt_yX6_copyInto : Cond.static yX6_copyInto ∈ lw_all := lw_c1 (List.mem_of_getElem? (i := 219) (by decide +kernel)) rfl
theorem qc_yX6_copyInto : Cond.code yX6_copyInto cX6_copyInto 3 none ∈ lw_all := lw_c1 (List.mem_of_getElem? (i := 220) (by decide +kernel)) rfl
theorem ql_RX1_37 : Cond.methodLink RX1 37 yJ9_min_7cf53 ∈ lw_all := lw_c1 (List.mem_of_getElem? (i := 222) (by decide +kernel)) rfl
theorem qt_yJ9_min_7cf53 : Cond.static yJ9_min_7cf53 ∈ lw_all := lw_c1 (List.mem_of_getElem? (i := 223) (by decide +kernel)) rfl
theorem qc_yJ9_min_7cf53 : Cond.code yJ9_min_7cf53 cJ9_min_7cf53 2 (some Jvm.ClassFile.FieldType.int) ∈ lw_all := lw_c1 (List.mem_of_getElem? (i := 224) (by decide +kernel)) rfl
theorem ql_RX6_66 : Cond.methodLink RX6 66 yX3_add ∈ lw_all := lw_c1 (List.mem_of_getElem? (i := 225) (by decide +kernel)) rfl
theorem qm_yX3_add : Cond.instanceMethod yX3_add ∈ lw_all := lw_c1 (List.mem_of_getElem? (i := 226) (by decide +kernel)) rfl
theorem qs_yX3_add : Cond.selects RX3 yX3_add yX3_add ∈ lw_all := lw_c1 (List.mem_of_getElem? (i := 227) (by decide +kernel)) rfl
theorem qc_yX3_add : Cond.code yX3_add cX3_add 6 (some Jvm.ClassFile.FieldType.int) ∈ lw_all := lw_c1 (List.mem_of_getElem? (i := 228) (by decide +kernel)) rfl
theorem ql_RX3_74 : Cond.methodLink RX3 74 yX5_begin ∈ lw_all := lw_c1 (List.mem_of_getElem? (i := 229) (by decide +kernel)) rfl
theorem qm_yX5_begin : Cond.instanceMethod yX5_begin ∈ lw_all := lw_c1 (List.mem_of_getElem? (i := 230) (by decide +kernel)) rfl
theorem qs_yX5_begin : Cond.selects RX5 yX5_begin yX5_begin ∈ lw_all := lw_c1 (List.mem_of_getElem? (i := 231) (by decide +kernel)) rfl
theorem qc_yX5_begin : Cond.code yX5_begin cX5_begin 6 none ∈ lw_all := lw_c1 (List.mem_of_getElem? (i := 232) (by decide +kernel)) rfl
theorem ql_RX5_38 : Cond.methodLink RX5 38 yX5_startAfresh ∈ lw_all := lw_c1 (List.mem_of_getElem? (i := 233) (by decide +kernel)) rfl
theorem qm_yX5_startAfresh : Cond.instanceMethod yX5_startAfresh ∈ lw_all := lw_c1 (List.mem_of_getElem? (i := 234) (by decide +kernel)) rfl
theorem qs_yX5_startAfresh : Cond.selects RX5 yX5_startAfresh yX5_startAfresh ∈ lw_all := lw_c1 (List.mem_of_getElem? (i := 235) (by decide +kernel)) rfl
theorem qc_yX5_startAfresh : Cond.code yX5_startAfresh cX5_startAfresh 2 none ∈ lw_all := lw_c1 (List.mem_of_getElem? (i := 236) (by decide +kernel)) rfl
theorem ql_RL_96 : Cond.methodLink RL 96 yL_hour ∈ lw_all := lw_c1 (List.mem_of_getElem? (i := 237) (by decide +kernel)) rfl
theorem qt_yL_hour : Cond.static yL_hour ∈ lw_all := lw_c1 (List.mem_of_getElem? (i := 238) (by decide +kernel)) rfl
theorem qc_yL_hour : Cond.codeWith yL_hour cL_hour (4 : Nat) (Option.some Jvm.ClassFile.FieldType.int) [((0 : Nat), (9 : Nat), (12 : Nat), (15 : Nat)), ((0 : Nat), (9 : Nat), (15 : Nat), (17 : Nat))] ∈ lw_all := lw_c1 (List.mem_of_getElem? (i := 239) (by decide +kernel)) rfl
theorem ql_RL_19 : Cond.methodLink RL 19 yX6_hour ∈ lw_all := lw_c2 (List.mem_of_getElem? (i := 0) (by decide +kernel)) rfl
theorem qm_yX6_hour : Cond.instanceMethod yX6_hour ∈ lw_all := lw_c2 (List.mem_of_getElem? (i := 1) (by decide +kernel)) rfl
theorem qs_yX6_hour : Cond.selects RX6 yX6_hour yX6_hour ∈ lw_all := lw_c2 (List.mem_of_getElem? (i := 2) (by decide +kernel)) rfl
theorem qc_yX6_hour : Cond.code yX6_hour cX6_hour 2 (some Jvm.ClassFile.FieldType.int) ∈ lw_all := lw_c2 (List.mem_of_getElem? (i := 3) (by decide +kernel)) rfl
theorem ql_RX6_70 : Cond.methodLink RX6 70 yX6_checkHoursLeft ∈ lw_all := lw_c2 (List.mem_of_getElem? (i := 4) (by decide +kernel)) rfl
theorem qm_yX6_checkHoursLeft : Cond.instanceMethod yX6_checkHoursLeft ∈ lw_all := lw_c2 (List.mem_of_getElem? (i := 6) (by decide +kernel)) rfl
theorem qc_yX6_checkHoursLeft : Cond.code yX6_checkHoursLeft cX6_checkHoursLeft 2 none ∈ lw_all := lw_c2 (List.mem_of_getElem? (i := 7) (by decide +kernel)) rfl
theorem ql_RX6_262 : Cond.methodLink RX6 262 yX3_hasHoursLeft ∈ lw_all := lw_c2 (List.mem_of_getElem? (i := 8) (by decide +kernel)) rfl
theorem qm_yX3_hasHoursLeft : Cond.instanceMethod yX3_hasHoursLeft ∈ lw_all := lw_c2 (List.mem_of_getElem? (i := 9) (by decide +kernel)) rfl
theorem qs_yX3_hasHoursLeft : Cond.selects RX3 yX3_hasHoursLeft yX3_hasHoursLeft ∈ lw_all := lw_c2 (List.mem_of_getElem? (i := 10) (by decide +kernel)) rfl
theorem qc_yX3_hasHoursLeft : Cond.code yX3_hasHoursLeft cX3_hasHoursLeft 2 (some Jvm.ClassFile.FieldType.boolean) ∈ lw_all := lw_c2 (List.mem_of_getElem? (i := 11) (by decide +kernel)) rfl
theorem ql_RX6_73 : Cond.methodLink RX6 73 yX3_passHour ∈ lw_all := lw_c2 (List.mem_of_getElem? (i := 13) (by decide +kernel)) rfl
theorem qm_yX3_passHour : Cond.instanceMethod yX3_passHour ∈ lw_all := lw_c2 (List.mem_of_getElem? (i := 14) (by decide +kernel)) rfl
theorem qs_yX3_passHour : Cond.selects RX3 yX3_passHour yX3_passHour ∈ lw_all := lw_c2 (List.mem_of_getElem? (i := 15) (by decide +kernel)) rfl
theorem qc_yX3_passHour : Cond.code yX3_passHour cX3_passHour 3 (some Jvm.ClassFile.FieldType.int) ∈ lw_all := lw_c2 (List.mem_of_getElem? (i := 16) (by decide +kernel)) rfl
theorem ql_RX3_104 : Cond.methodLink RX3 104 yX3_mean ∈ lw_all := lw_c2 (List.mem_of_getElem? (i := 17) (by decide +kernel)) rfl
theorem qm_yX3_mean : Cond.instanceMethod yX3_mean ∈ lw_all := lw_c2 (List.mem_of_getElem? (i := 18) (by decide +kernel)) rfl
theorem qs_yX3_mean : Cond.selects RX3 yX3_mean yX3_mean ∈ lw_all := lw_c2 (List.mem_of_getElem? (i := 19) (by decide +kernel)) rfl
theorem qc_yX3_mean : Cond.code yX3_mean cX3_mean 4 (some Jvm.ClassFile.FieldType.int) ∈ lw_all := lw_c2 (List.mem_of_getElem? (i := 20) (by decide +kernel)) rfl
theorem ql_RX3_153 : Cond.methodLink RX3 153 yX5_isAsked ∈ lw_all := lw_c2 (List.mem_of_getElem? (i := 21) (by decide +kernel)) rfl
theorem qm_yX5_isAsked : Cond.instanceMethod yX5_isAsked ∈ lw_all := lw_c2 (List.mem_of_getElem? (i := 22) (by decide +kernel)) rfl
theorem qs_yX5_isAsked : Cond.selects RX5 yX5_isAsked yX5_isAsked ∈ lw_all := lw_c2 (List.mem_of_getElem? (i := 23) (by decide +kernel)) rfl
theorem qc_yX5_isAsked : Cond.code yX5_isAsked cX5_isAsked 1 (some Jvm.ClassFile.FieldType.boolean) ∈ lw_all := lw_c2 (List.mem_of_getElem? (i := 24) (by decide +kernel)) rfl
theorem qt_yX6_quotient : Cond.static yX6_quotient ∈ lw_all := lw_c2 (List.mem_of_getElem? (i := 26) (by decide +kernel)) rfl
theorem qc_yX6_quotient : Cond.code yX6_quotient cX6_quotient 2 (some Jvm.ClassFile.FieldType.int) ∈ lw_all := lw_c2 (List.mem_of_getElem? (i := 27) (by decide +kernel)) rfl
theorem ql_RX3_108 : Cond.methodLink RX3 108 yX5_follow ∈ lw_all := lw_c2 (List.mem_of_getElem? (i := 28) (by decide +kernel)) rfl
theorem qm_yX5_follow : Cond.instanceMethod yX5_follow ∈ lw_all := lw_c2 (List.mem_of_getElem? (i := 29) (by decide +kernel)) rfl
theorem qs_yX5_follow : Cond.selects RX5 yX5_follow yX5_follow ∈ lw_all := lw_c2 (List.mem_of_getElem? (i := 30) (by decide +kernel)) rfl
theorem qc_yX5_follow : Cond.code yX5_follow cX5_follow 2 none ∈ lw_all := lw_c2 (List.mem_of_getElem? (i := 31) (by decide +kernel)) rfl
theorem ql_RX5_59 : Cond.methodLink RX5 59 yX5_stepFrom ∈ lw_all := lw_c2 (List.mem_of_getElem? (i := 32) (by decide +kernel)) rfl
theorem qm_yX5_stepFrom : Cond.instanceMethod yX5_stepFrom ∈ lw_all := lw_c2 (List.mem_of_getElem? (i := 34) (by decide +kernel)) rfl
theorem qc_yX5_stepFrom : Cond.code yX5_stepFrom cX5_stepFrom 3 (some Jvm.ClassFile.FieldType.int) ∈ lw_all := lw_c2 (List.mem_of_getElem? (i := 35) (by decide +kernel)) rfl
theorem ql_RX3_112 : Cond.methodLink RX3 112 yX3_readRows ∈ lw_all := lw_c2 (List.mem_of_getElem? (i := 37) (by decide +kernel)) rfl
theorem qm_yX3_readRows : Cond.instanceMethod yX3_readRows ∈ lw_all := lw_c2 (List.mem_of_getElem? (i := 39) (by decide +kernel)) rfl
theorem qc_yX3_readRows : Cond.code yX3_readRows cX3_readRows 2 none ∈ lw_all := lw_c2 (List.mem_of_getElem? (i := 40) (by decide +kernel)) rfl
theorem ql_RX3_118 : Cond.methodLink RX3 118 yX3_isReadNow ∈ lw_all := lw_c2 (List.mem_of_getElem? (i := 41) (by decide +kernel)) rfl
theorem qm_yX3_isReadNow : Cond.instanceMethod yX3_isReadNow ∈ lw_all := lw_c2 (List.mem_of_getElem? (i := 43) (by decide +kernel)) rfl
theorem qc_yX3_isReadNow : Cond.code yX3_isReadNow cX3_isReadNow 2 (some Jvm.ClassFile.FieldType.boolean) ∈ lw_all := lw_c2 (List.mem_of_getElem? (i := 44) (by decide +kernel)) rfl
theorem ql_RX3_82 : Cond.methodLink RX3 82 yX3_periodOf ∈ lw_all := lw_c2 (List.mem_of_getElem? (i := 45) (by decide +kernel)) rfl
theorem qm_yX3_periodOf : Cond.instanceMethod yX3_periodOf ∈ lw_all := lw_c2 (List.mem_of_getElem? (i := 46) (by decide +kernel)) rfl
theorem qs_yX3_periodOf : Cond.selects RX3 yX3_periodOf yX3_periodOf ∈ lw_all := lw_c2 (List.mem_of_getElem? (i := 47) (by decide +kernel)) rfl
theorem qc_yX3_periodOf : Cond.code yX3_periodOf cX3_periodOf 2 (some Jvm.ClassFile.FieldType.int) ∈ lw_all := lw_c2 (List.mem_of_getElem? (i := 48) (by decide +kernel)) rfl
theorem qt_yX6_entry : Cond.static yX6_entry ∈ lw_all := lw_c2 (List.mem_of_getElem? (i := 50) (by decide +kernel)) rfl
theorem qc_yX6_entry : Cond.code yX6_entry cX6_entry 2 (some Jvm.ClassFile.FieldType.int) ∈ lw_all := lw_c2 (List.mem_of_getElem? (i := 51) (by decide +kernel)) rfl
theorem qn_RX6_280 : Cond.constant RX6 280 (-999999) ∈ lw_all := lw_c2 (List.mem_of_getElem? (i := 52) (by decide +kernel)) rfl
theorem qt_yX6_remainder : Cond.static yX6_remainder ∈ lw_all := lw_c2 (List.mem_of_getElem? (i := 54) (by decide +kernel)) rfl
theorem qc_yX6_remainder : Cond.code yX6_remainder cX6_remainder 2 (some Jvm.ClassFile.FieldType.int) ∈ lw_all := lw_c2 (List.mem_of_getElem? (i := 55) (by decide +kernel)) rfl
theorem ql_RX3_122 : Cond.methodLink RX3 122 yX5_takeReading ∈ lw_all := lw_c2 (List.mem_of_getElem? (i := 56) (by decide +kernel)) rfl
theorem qm_yX5_takeReading : Cond.instanceMethod yX5_takeReading ∈ lw_all := lw_c2 (List.mem_of_getElem? (i := 57) (by decide +kernel)) rfl
theorem qs_yX5_takeReading : Cond.selects RX5 yX5_takeReading yX5_takeReading ∈ lw_all := lw_c2 (List.mem_of_getElem? (i := 58) (by decide +kernel)) rfl
theorem qc_yX5_takeReading : Cond.code yX5_takeReading cX5_takeReading 2 none ∈ lw_all := lw_c2 (List.mem_of_getElem? (i := 59) (by decide +kernel)) rfl
theorem qt_yX6_putFirst : Cond.static yX6_putFirst ∈ lw_all := lw_c2 (List.mem_of_getElem? (i := 61) (by decide +kernel)) rfl
theorem qc_yX6_putFirst : Cond.code yX6_putFirst cX6_putFirst 3 none ∈ lw_all := lw_c2 (List.mem_of_getElem? (i := 62) (by decide +kernel)) rfl
theorem ql_RX5_71 : Cond.methodLink RX5 71 yJ9_min_7cf53 ∈ lw_all := lw_c2 (List.mem_of_getElem? (i := 63) (by decide +kernel)) rfl
theorem ql_RX5_76 : Cond.methodLink RX5 76 yX5_mendedWith ∈ lw_all := lw_c2 (List.mem_of_getElem? (i := 64) (by decide +kernel)) rfl
theorem qm_yX5_mendedWith : Cond.instanceMethod yX5_mendedWith ∈ lw_all := lw_c2 (List.mem_of_getElem? (i := 65) (by decide +kernel)) rfl
theorem qs_yX5_mendedWith : Cond.selects RX5 yX5_mendedWith yX5_mendedWith ∈ lw_all := lw_c2 (List.mem_of_getElem? (i := 66) (by decide +kernel)) rfl
theorem qc_yX5_mendedWith : Cond.code yX5_mendedWith cX5_mendedWith 5 (some Jvm.ClassFile.FieldType.int) ∈ lw_all := lw_c2 (List.mem_of_getElem? (i := 67) (by decide +kernel)) rfl
theorem ql_RX3_115 : Cond.methodLink RX3 115 yX3_lookForSpikes ∈ lw_all := lw_c2 (List.mem_of_getElem? (i := 69) (by decide +kernel)) rfl
theorem qm_yX3_lookForSpikes : Cond.instanceMethod yX3_lookForSpikes ∈ lw_all := lw_c2 (List.mem_of_getElem? (i := 71) (by decide +kernel)) rfl
theorem qc_yX3_lookForSpikes : Cond.code yX3_lookForSpikes cX3_lookForSpikes 2 none ∈ lw_all := lw_c2 (List.mem_of_getElem? (i := 72) (by decide +kernel)) rfl
theorem ql_RX3_125 : Cond.methodLink RX3 125 yX3_maskOfAsked ∈ lw_all := lw_c2 (List.mem_of_getElem? (i := 73) (by decide +kernel)) rfl
theorem qm_yX3_maskOfAsked : Cond.instanceMethod yX3_maskOfAsked ∈ lw_all := lw_c2 (List.mem_of_getElem? (i := 74) (by decide +kernel)) rfl
theorem qs_yX3_maskOfAsked : Cond.selects RX3 yX3_maskOfAsked yX3_maskOfAsked ∈ lw_all := lw_c2 (List.mem_of_getElem? (i := 75) (by decide +kernel)) rfl
theorem qc_yX3_maskOfAsked : Cond.code yX3_maskOfAsked cX3_maskOfAsked 3 (some Jvm.ClassFile.FieldType.int) ∈ lw_all := lw_c2 (List.mem_of_getElem? (i := 76) (by decide +kernel)) rfl
theorem ql_RX3_128 : Cond.methodLink RX3 128 yJ6_bitCount_0f7a4 ∈ lw_all := lw_c2 (List.mem_of_getElem? (i := 77) (by decide +kernel)) rfl
theorem qt_yJ6_bitCount_0f7a4 : Cond.static yJ6_bitCount_0f7a4 ∈ lw_all := lw_c2 (List.mem_of_getElem? (i := 78) (by decide +kernel)) rfl
theorem qc_yJ6_bitCount_0f7a4 : Cond.code yJ6_bitCount_0f7a4 cJ6_bitCount_0f7a4 1 (some Jvm.ClassFile.FieldType.int) ∈ lw_all := lw_c2 (List.mem_of_getElem? (i := 79) (by decide +kernel)) rfl
theorem qn_RJ6_265 : Cond.constant RJ6 265 (1431655765) ∈ lw_all := lw_c2 (List.mem_of_getElem? (i := 80) (by decide +kernel)) rfl
theorem qn_RJ6_266 : Cond.constant RJ6 266 (858993459) ∈ lw_all := lw_c2 (List.mem_of_getElem? (i := 81) (by decide +kernel)) rfl
theorem qn_RJ6_267 : Cond.constant RJ6 267 (252645135) ∈ lw_all := lw_c2 (List.mem_of_getElem? (i := 82) (by decide +kernel)) rfl
theorem ql_RX3_133 : Cond.methodLink RX3 133 yX5_isAskedAndReadIn ∈ lw_all := lw_c2 (List.mem_of_getElem? (i := 83) (by decide +kernel)) rfl
theorem qm_yX5_isAskedAndReadIn : Cond.instanceMethod yX5_isAskedAndReadIn ∈ lw_all := lw_c2 (List.mem_of_getElem? (i := 84) (by decide +kernel)) rfl
theorem qs_yX5_isAskedAndReadIn : Cond.selects RX5 yX5_isAskedAndReadIn yX5_isAskedAndReadIn ∈ lw_all := lw_c2 (List.mem_of_getElem? (i := 85) (by decide +kernel)) rfl
theorem qc_yX5_isAskedAndReadIn : Cond.code yX5_isAskedAndReadIn cX5_isAskedAndReadIn 2 (some Jvm.ClassFile.FieldType.boolean) ∈ lw_all := lw_c2 (List.mem_of_getElem? (i := 86) (by decide +kernel)) rfl
theorem ql_RX5_84 : Cond.methodLink RX5 84 yX5_isAsked ∈ lw_all := lw_c2 (List.mem_of_getElem? (i := 87) (by decide +kernel)) rfl
theorem ql_RX5_88 : Cond.methodLink RX5 88 yX5_hourAgo ∈ lw_all := lw_c2 (List.mem_of_getElem? (i := 88) (by decide +kernel)) rfl
theorem qm_yX5_hourAgo : Cond.instanceMethod yX5_hourAgo ∈ lw_all := lw_c2 (List.mem_of_getElem? (i := 89) (by decide +kernel)) rfl
theorem qs_yX5_hourAgo : Cond.selects RX5 yX5_hourAgo yX5_hourAgo ∈ lw_all := lw_c2 (List.mem_of_getElem? (i := 90) (by decide +kernel)) rfl
theorem qc_yX5_hourAgo : Cond.code yX5_hourAgo cX5_hourAgo 2 (some Jvm.ClassFile.FieldType.int) ∈ lw_all := lw_c2 (List.mem_of_getElem? (i := 91) (by decide +kernel)) rfl
theorem ql_RX3_136 : Cond.methodLink RX3 136 yX3_compareWithOthers ∈ lw_all := lw_c2 (List.mem_of_getElem? (i := 92) (by decide +kernel)) rfl
theorem qm_yX3_compareWithOthers : Cond.instanceMethod yX3_compareWithOthers ∈ lw_all := lw_c2 (List.mem_of_getElem? (i := 94) (by decide +kernel)) rfl
theorem qc_yX3_compareWithOthers : Cond.code yX3_compareWithOthers cX3_compareWithOthers 3 none ∈ lw_all := lw_c2 (List.mem_of_getElem? (i := 95) (by decide +kernel)) rfl
theorem ql_RX3_143 : Cond.methodLink RX3 143 yX3_middleWithout ∈ lw_all := lw_c2 (List.mem_of_getElem? (i := 96) (by decide +kernel)) rfl
theorem qm_yX3_middleWithout : Cond.instanceMethod yX3_middleWithout ∈ lw_all := lw_c2 (List.mem_of_getElem? (i := 97) (by decide +kernel)) rfl
theorem qs_yX3_middleWithout : Cond.selects RX3 yX3_middleWithout yX3_middleWithout ∈ lw_all := lw_c2 (List.mem_of_getElem? (i := 98) (by decide +kernel)) rfl
theorem qc_yX3_middleWithout : Cond.code yX3_middleWithout cX3_middleWithout 3 (some Jvm.ClassFile.FieldType.int) ∈ lw_all := lw_c2 (List.mem_of_getElem? (i := 99) (by decide +kernel)) rfl
theorem ql_RX3_150 : Cond.methodLink RX3 150 yX0_clear ∈ lw_all := lw_c2 (List.mem_of_getElem? (i := 100) (by decide +kernel)) rfl
theorem qm_yX0_clear : Cond.instanceMethod yX0_clear ∈ lw_all := lw_c2 (List.mem_of_getElem? (i := 101) (by decide +kernel)) rfl
theorem qs_yX0_clear : Cond.selects RX0 yX0_clear yX0_clear ∈ lw_all := lw_c2 (List.mem_of_getElem? (i := 102) (by decide +kernel)) rfl
theorem qc_yX0_clear : Cond.code yX0_clear cX0_clear 1 none ∈ lw_all := lw_c2 (List.mem_of_getElem? (i := 103) (by decide +kernel)) rfl
theorem ql_RX3_160 : Cond.methodLink RX3 160 yX0_insert ∈ lw_all := lw_c2 (List.mem_of_getElem? (i := 104) (by decide +kernel)) rfl
theorem qm_yX0_insert : Cond.instanceMethod yX0_insert ∈ lw_all := lw_c2 (List.mem_of_getElem? (i := 105) (by decide +kernel)) rfl
theorem qs_yX0_insert : Cond.selects RX0 yX0_insert yX0_insert ∈ lw_all := lw_c2 (List.mem_of_getElem? (i := 106) (by decide +kernel)) rfl
theorem qc_yX0_insert : Cond.code yX0_insert cX0_insert 3 none ∈ lw_all := lw_c2 (List.mem_of_getElem? (i := 107) (by decide +kernel)) rfl
theorem ql_RX3_163 : Cond.methodLink RX3 163 yX0_middle ∈ lw_all := lw_c2 (List.mem_of_getElem? (i := 108) (by decide +kernel)) rfl
theorem qm_yX0_middle : Cond.instanceMethod yX0_middle ∈ lw_all := lw_c2 (List.mem_of_getElem? (i := 109) (by decide +kernel)) rfl
theorem qs_yX0_middle : Cond.selects RX0 yX0_middle yX0_middle ∈ lw_all := lw_c2 (List.mem_of_getElem? (i := 110) (by decide +kernel)) rfl
theorem qc_yX0_middle : Cond.code yX0_middle cX0_middle 2 (some Jvm.ClassFile.FieldType.int) ∈ lw_all := lw_c2 (List.mem_of_getElem? (i := 111) (by decide +kernel)) rfl
theorem qn_RX0_19 : Cond.constant RX0 19 (-999999) ∈ lw_all := lw_c2 (List.mem_of_getElem? (i := 112) (by decide +kernel)) rfl
theorem ql_RX3_146 : Cond.methodLink RX3 146 yX5_compareWith ∈ lw_all := lw_c2 (List.mem_of_getElem? (i := 113) (by decide +kernel)) rfl
theorem qm_yX5_compareWith : Cond.instanceMethod yX5_compareWith ∈ lw_all := lw_c2 (List.mem_of_getElem? (i := 114) (by decide +kernel)) rfl
theorem qs_yX5_compareWith : Cond.selects RX5 yX5_compareWith yX5_compareWith ∈ lw_all := lw_c2 (List.mem_of_getElem? (i := 115) (by decide +kernel)) rfl
theorem qc_yX5_compareWith : Cond.code yX5_compareWith cX5_compareWith 3 none ∈ lw_all := lw_c2 (List.mem_of_getElem? (i := 116) (by decide +kernel)) rfl
theorem ql_RX3_139 : Cond.methodLink RX3 139 yX5_shutOutFrom ∈ lw_all := lw_c2 (List.mem_of_getElem? (i := 117) (by decide +kernel)) rfl
theorem qm_yX5_shutOutFrom : Cond.instanceMethod yX5_shutOutFrom ∈ lw_all := lw_c2 (List.mem_of_getElem? (i := 118) (by decide +kernel)) rfl
theorem qs_yX5_shutOutFrom : Cond.selects RX5 yX5_shutOutFrom yX5_shutOutFrom ∈ lw_all := lw_c2 (List.mem_of_getElem? (i := 119) (by decide +kernel)) rfl
theorem qc_yX5_shutOutFrom : Cond.code yX5_shutOutFrom cX5_shutOutFrom 2 none ∈ lw_all := lw_c2 (List.mem_of_getElem? (i := 120) (by decide +kernel)) rfl
theorem ql_RL_100 : Cond.methodLink RL 100 yL_hours ∈ lw_all := lw_c2 (List.mem_of_getElem? (i := 121) (by decide +kernel)) rfl
theorem qt_yL_hours : Cond.static yL_hours ∈ lw_all := lw_c2 (List.mem_of_getElem? (i := 122) (by decide +kernel)) rfl
theorem qc_yL_hours : Cond.codeWith yL_hours cL_hours (5 : Nat) (Option.some Jvm.ClassFile.FieldType.int) [((0 : Nat), (10 : Nat), (13 : Nat), (15 : Nat)), ((0 : Nat), (10 : Nat), (17 : Nat), (17 : Nat))] ∈ lw_all := lw_c2 (List.mem_of_getElem? (i := 123) (by decide +kernel)) rfl
theorem ql_RL_23 : Cond.methodLink RL 23 yX6_hours ∈ lw_all := lw_c2 (List.mem_of_getElem? (i := 124) (by decide +kernel)) rfl
theorem qm_yX6_hours : Cond.instanceMethod yX6_hours ∈ lw_all := lw_c2 (List.mem_of_getElem? (i := 125) (by decide +kernel)) rfl
theorem qs_yX6_hours : Cond.selects RX6 yX6_hours yX6_hours ∈ lw_all := lw_c2 (List.mem_of_getElem? (i := 126) (by decide +kernel)) rfl
theorem qc_yX6_hours : Cond.code yX6_hours cX6_hours 3 (some Jvm.ClassFile.FieldType.int) ∈ lw_all := lw_c2 (List.mem_of_getElem? (i := 127) (by decide +kernel)) rfl
theorem ql_RX6_77 : Cond.methodLink RX6 77 yX3_passHours ∈ lw_all := lw_c2 (List.mem_of_getElem? (i := 128) (by decide +kernel)) rfl
theorem qm_yX3_passHours : Cond.instanceMethod yX3_passHours ∈ lw_all := lw_c2 (List.mem_of_getElem? (i := 129) (by decide +kernel)) rfl
theorem qs_yX3_passHours : Cond.selects RX3 yX3_passHours yX3_passHours ∈ lw_all := lw_c2 (List.mem_of_getElem? (i := 130) (by decide +kernel)) rfl
theorem qc_yX3_passHours : Cond.code yX3_passHours cX3_passHours 5 none ∈ lw_all := lw_c2 (List.mem_of_getElem? (i := 131) (by decide +kernel)) rfl
theorem ql_RX3_93 : Cond.methodLink RX3 93 yJ9_min_7cf53 ∈ lw_all := lw_c2 (List.mem_of_getElem? (i := 132) (by decide +kernel)) rfl
theorem ql_RX3_98 : Cond.methodLink RX3 98 yJ9_max_7cf53 ∈ lw_all := lw_c2 (List.mem_of_getElem? (i := 133) (by decide +kernel)) rfl
theorem qt_yJ9_max_7cf53 : Cond.static yJ9_max_7cf53 ∈ lw_all := lw_c2 (List.mem_of_getElem? (i := 134) (by decide +kernel)) rfl
theorem qc_yJ9_max_7cf53 : Cond.code yJ9_max_7cf53 cJ9_max_7cf53 2 (some Jvm.ClassFile.FieldType.int) ∈ lw_all := lw_c2 (List.mem_of_getElem? (i := 135) (by decide +kernel)) rfl
theorem ql_RX3_101 : Cond.methodLink RX3 101 yX3_passHour ∈ lw_all := lw_c2 (List.mem_of_getElem? (i := 136) (by decide +kernel)) rfl
theorem ql_RL_104 : Cond.methodLink RL 104 yL_period ∈ lw_all := lw_c2 (List.mem_of_getElem? (i := 137) (by decide +kernel)) rfl
theorem qt_yL_period : Cond.static yL_period ∈ lw_all := lw_c2 (List.mem_of_getElem? (i := 138) (by decide +kernel)) rfl
theorem qc_yL_period : Cond.codeWith yL_period cL_period (5 : Nat) (Option.some Jvm.ClassFile.FieldType.int) [((0 : Nat), (10 : Nat), (13 : Nat), (13 : Nat)), ((0 : Nat), (10 : Nat), (17 : Nat), (15 : Nat))] ∈ lw_all := lw_c2 (List.mem_of_getElem? (i := 139) (by decide +kernel)) rfl
theorem ql_RL_27 : Cond.methodLink RL 27 yX6_period ∈ lw_all := lw_c2 (List.mem_of_getElem? (i := 140) (by decide +kernel)) rfl
theorem qm_yX6_period : Cond.instanceMethod yX6_period ∈ lw_all := lw_c2 (List.mem_of_getElem? (i := 141) (by decide +kernel)) rfl
theorem qs_yX6_period : Cond.selects RX6 yX6_period yX6_period ∈ lw_all := lw_c2 (List.mem_of_getElem? (i := 142) (by decide +kernel)) rfl
theorem qc_yX6_period : Cond.code yX6_period cX6_period 4 (some Jvm.ClassFile.FieldType.int) ∈ lw_all := lw_c2 (List.mem_of_getElem? (i := 143) (by decide +kernel)) rfl
theorem ql_RX6_85 : Cond.methodLink RX6 85 yX3_periodOf ∈ lw_all := lw_c2 (List.mem_of_getElem? (i := 144) (by decide +kernel)) rfl
theorem ql_RX6_88 : Cond.methodLink RX6 88 yX3_changePeriod ∈ lw_all := lw_c2 (List.mem_of_getElem? (i := 145) (by decide +kernel)) rfl
theorem qm_yX3_changePeriod : Cond.instanceMethod yX3_changePeriod ∈ lw_all := lw_c2 (List.mem_of_getElem? (i := 146) (by decide +kernel)) rfl
theorem qs_yX3_changePeriod : Cond.selects RX3 yX3_changePeriod yX3_changePeriod ∈ lw_all := lw_c2 (List.mem_of_getElem? (i := 147) (by decide +kernel)) rfl
theorem qc_yX3_changePeriod : Cond.code yX3_changePeriod cX3_changePeriod 3 none ∈ lw_all := lw_c2 (List.mem_of_getElem? (i := 148) (by decide +kernel)) rfl
theorem ql_RL_107 : Cond.methodLink RL 107 yL_calibrate ∈ lw_all := lw_c2 (List.mem_of_getElem? (i := 149) (by decide +kernel)) rfl
theorem qt_yL_calibrate : Cond.static yL_calibrate ∈ lw_all := lw_c2 (List.mem_of_getElem? (i := 150) (by decide +kernel)) rfl
theorem qc_yL_calibrate : Cond.codeWith yL_calibrate cL_calibrate (4 : Nat) (Option.some Jvm.ClassFile.FieldType.int) [((0 : Nat), (9 : Nat), (12 : Nat), (13 : Nat))] ∈ lw_all := lw_c2 (List.mem_of_getElem? (i := 151) (by decide +kernel)) rfl
theorem ql_RL_30 : Cond.methodLink RL 30 yX6_calibrate ∈ lw_all := lw_c2 (List.mem_of_getElem? (i := 152) (by decide +kernel)) rfl
theorem qm_yX6_calibrate : Cond.instanceMethod yX6_calibrate ∈ lw_all := lw_c2 (List.mem_of_getElem? (i := 153) (by decide +kernel)) rfl
theorem qs_yX6_calibrate : Cond.selects RX6 yX6_calibrate yX6_calibrate ∈ lw_all := lw_c2 (List.mem_of_getElem? (i := 154) (by decide +kernel)) rfl
theorem qc_yX6_calibrate : Cond.code yX6_calibrate cX6_calibrate 3 (some Jvm.ClassFile.FieldType.int) ∈ lw_all := lw_c2 (List.mem_of_getElem? (i := 155) (by decide +kernel)) rfl
theorem ql_RX6_91 : Cond.methodLink RX6 91 yX6_checkThermometer ∈ lw_all := lw_c2 (List.mem_of_getElem? (i := 156) (by decide +kernel)) rfl
theorem qm_yX6_checkThermometer : Cond.instanceMethod yX6_checkThermometer ∈ lw_all := lw_c2 (List.mem_of_getElem? (i := 158) (by decide +kernel)) rfl
theorem qc_yX6_checkThermometer : Cond.code yX6_checkThermometer cX6_checkThermometer 2 none ∈ lw_all := lw_c2 (List.mem_of_getElem? (i := 159) (by decide +kernel)) rfl
theorem ql_RX6_256 : Cond.methodLink RX6 256 yX3_has ∈ lw_all := lw_c2 (List.mem_of_getElem? (i := 160) (by decide +kernel)) rfl
theorem qm_yX3_has : Cond.instanceMethod yX3_has ∈ lw_all := lw_c2 (List.mem_of_getElem? (i := 161) (by decide +kernel)) rfl
theorem qs_yX3_has : Cond.selects RX3 yX3_has yX3_has ∈ lw_all := lw_c2 (List.mem_of_getElem? (i := 162) (by decide +kernel)) rfl
theorem qc_yX3_has : Cond.code yX3_has cX3_has 2 (some Jvm.ClassFile.FieldType.boolean) ∈ lw_all := lw_c2 (List.mem_of_getElem? (i := 163) (by decide +kernel)) rfl
theorem ql_RX6_94 : Cond.methodLink RX6 94 yX3_at ∈ lw_all := lw_c2 (List.mem_of_getElem? (i := 165) (by decide +kernel)) rfl
theorem ql_RX6_103 : Cond.methodLink RX6 103 yX5_startAfresh ∈ lw_all := lw_c2 (List.mem_of_getElem? (i := 166) (by decide +kernel)) rfl
theorem ql_RL_110 : Cond.methodLink RL 110 yL_knock ∈ lw_all := lw_c2 (List.mem_of_getElem? (i := 167) (by decide +kernel)) rfl
theorem qt_yL_knock : Cond.static yL_knock ∈ lw_all := lw_c2 (List.mem_of_getElem? (i := 168) (by decide +kernel)) rfl
theorem qc_yL_knock : Cond.codeWith yL_knock cL_knock (5 : Nat) (Option.some Jvm.ClassFile.FieldType.int) [((0 : Nat), (10 : Nat), (13 : Nat), (13 : Nat)), ((0 : Nat), (10 : Nat), (17 : Nat), (15 : Nat)), ((0 : Nat), (10 : Nat), (21 : Nat), (17 : Nat))] ∈ lw_all := lw_c2 (List.mem_of_getElem? (i := 169) (by decide +kernel)) rfl
theorem ql_RL_33 : Cond.methodLink RL 33 yX6_knock ∈ lw_all := lw_c2 (List.mem_of_getElem? (i := 170) (by decide +kernel)) rfl
theorem qm_yX6_knock : Cond.instanceMethod yX6_knock ∈ lw_all := lw_c2 (List.mem_of_getElem? (i := 171) (by decide +kernel)) rfl
theorem qs_yX6_knock : Cond.selects RX6 yX6_knock yX6_knock ∈ lw_all := lw_c2 (List.mem_of_getElem? (i := 172) (by decide +kernel)) rfl
theorem qc_yX6_knock : Cond.code yX6_knock cX6_knock 4 (some Jvm.ClassFile.FieldType.int) ∈ lw_all := lw_c2 (List.mem_of_getElem? (i := 173) (by decide +kernel)) rfl
theorem qn_RX6_111 : Cond.constant RX6 111 (100000) ∈ lw_all := lw_c2 (List.mem_of_getElem? (i := 175) (by decide +kernel)) rfl
theorem ql_RL_113 : Cond.methodLink RL 113 yL_set ∈ lw_all := lw_c2 (List.mem_of_getElem? (i := 176) (by decide +kernel)) rfl
theorem qt_yL_set : Cond.static yL_set ∈ lw_all := lw_c2 (List.mem_of_getElem? (i := 177) (by decide +kernel)) rfl
theorem qc_yL_set : Cond.codeWith yL_set cL_set (5 : Nat) (Option.some Jvm.ClassFile.FieldType.int) [((0 : Nat), (10 : Nat), (13 : Nat), (13 : Nat)), ((0 : Nat), (10 : Nat), (17 : Nat), (15 : Nat))] ∈ lw_all := lw_c2 (List.mem_of_getElem? (i := 178) (by decide +kernel)) rfl
theorem ql_RL_36 : Cond.methodLink RL 36 yX6_set ∈ lw_all := lw_c2 (List.mem_of_getElem? (i := 179) (by decide +kernel)) rfl
theorem qm_yX6_set : Cond.instanceMethod yX6_set ∈ lw_all := lw_c2 (List.mem_of_getElem? (i := 180) (by decide +kernel)) rfl
theorem qs_yX6_set : Cond.selects RX6 yX6_set yX6_set ∈ lw_all := lw_c2 (List.mem_of_getElem? (i := 181) (by decide +kernel)) rfl
theorem qc_yX6_set : Cond.code yX6_set cX6_set 4 (some Jvm.ClassFile.FieldType.int) ∈ lw_all := lw_c2 (List.mem_of_getElem? (i := 182) (by decide +kernel)) rfl
theorem ql_RL_116 : Cond.methodLink RL 116 yL_append ∈ lw_all := lw_c2 (List.mem_of_getElem? (i := 184) (by decide +kernel)) rfl
theorem qt_yL_append : Cond.static yL_append ∈ lw_all := lw_c2 (List.mem_of_getElem? (i := 185) (by decide +kernel)) rfl
theorem qc_yL_append : Cond.codeWith yL_append cL_append (4 : Nat) (Option.some Jvm.ClassFile.FieldType.int) [((0 : Nat), (9 : Nat), (12 : Nat), (15 : Nat)), ((0 : Nat), (9 : Nat), (15 : Nat), (17 : Nat))] ∈ lw_all := lw_c2 (List.mem_of_getElem? (i := 186) (by decide +kernel)) rfl
theorem ql_RL_39 : Cond.methodLink RL 39 yX6_append ∈ lw_all := lw_c2 (List.mem_of_getElem? (i := 187) (by decide +kernel)) rfl
theorem qm_yX6_append : Cond.instanceMethod yX6_append ∈ lw_all := lw_c2 (List.mem_of_getElem? (i := 188) (by decide +kernel)) rfl
theorem qs_yX6_append : Cond.selects RX6 yX6_append yX6_append ∈ lw_all := lw_c2 (List.mem_of_getElem? (i := 189) (by decide +kernel)) rfl
theorem qc_yX6_append : Cond.code yX6_append cX6_append 2 (some Jvm.ClassFile.FieldType.int) ∈ lw_all := lw_c2 (List.mem_of_getElem? (i := 190) (by decide +kernel)) rfl
theorem ql_RX6_123 : Cond.methodLink RX6 123 yX2_isFull ∈ lw_all := lw_c2 (List.mem_of_getElem? (i := 191) (by decide +kernel)) rfl
theorem qm_yX2_isFull : Cond.instanceMethod yX2_isFull ∈ lw_all := lw_c2 (List.mem_of_getElem? (i := 192) (by decide +kernel)) rfl
theorem qs_yX2_isFull : Cond.selects RX2 yX2_isFull yX2_isFull ∈ lw_all := lw_c2 (List.mem_of_getElem? (i := 193) (by decide +kernel)) rfl
theorem qc_yX2_isFull : Cond.code yX2_isFull cX2_isFull 1 (some Jvm.ClassFile.FieldType.boolean) ∈ lw_all := lw_c2 (List.mem_of_getElem? (i := 194) (by decide +kernel)) rfl
theorem ql_RX6_128 : Cond.methodLink RX6 128 yX2_addCharacter ∈ lw_all := lw_c2 (List.mem_of_getElem? (i := 196) (by decide +kernel)) rfl
theorem qm_yX2_addCharacter : Cond.instanceMethod yX2_addCharacter ∈ lw_all := lw_c2 (List.mem_of_getElem? (i := 197) (by decide +kernel)) rfl
theorem qs_yX2_addCharacter : Cond.selects RX2 yX2_addCharacter yX2_addCharacter ∈ lw_all := lw_c2 (List.mem_of_getElem? (i := 198) (by decide +kernel)) rfl
theorem qc_yX2_addCharacter : Cond.code yX2_addCharacter cX2_addCharacter 2 none ∈ lw_all := lw_c2 (List.mem_of_getElem? (i := 199) (by decide +kernel)) rfl
theorem ql_RL_127 : Cond.methodLink RL 127 yL_execute ∈ lw_all := lw_c2 (List.mem_of_getElem? (i := 200) (by decide +kernel)) rfl
theorem qt_yL_execute : Cond.static yL_execute ∈ lw_all := lw_c2 (List.mem_of_getElem? (i := 201) (by decide +kernel)) rfl
theorem qc_yL_execute : Cond.codeWith yL_execute cL_execute (3 : Nat) (Option.some Jvm.ClassFile.FieldType.int) [((0 : Nat), (8 : Nat), (11 : Nat), (15 : Nat))] ∈ lw_all := lw_c2 (List.mem_of_getElem? (i := 202) (by decide +kernel)) rfl
theorem ql_RL_42 : Cond.methodLink RL 42 yX6_execute ∈ lw_all := lw_c2 (List.mem_of_getElem? (i := 203) (by decide +kernel)) rfl
theorem qm_yX6_execute : Cond.instanceMethod yX6_execute ∈ lw_all := lw_c2 (List.mem_of_getElem? (i := 204) (by decide +kernel)) rfl
theorem qs_yX6_execute : Cond.selects RX6 yX6_execute yX6_execute ∈ lw_all := lw_c2 (List.mem_of_getElem? (i := 205) (by decide +kernel)) rfl
theorem qc_yX6_execute : Cond.code yX6_execute cX6_execute 2 (some Jvm.ClassFile.FieldType.int) ∈ lw_all := lw_c2 (List.mem_of_getElem? (i := 206) (by decide +kernel)) rfl
theorem ql_RX6_139 : Cond.methodLink RX6 139 yX2_isComplete ∈ lw_all := lw_c2 (List.mem_of_getElem? (i := 207) (by decide +kernel)) rfl
theorem qm_yX2_isComplete : Cond.instanceMethod yX2_isComplete ∈ lw_all := lw_c2 (List.mem_of_getElem? (i := 208) (by decide +kernel)) rfl
theorem qs_yX2_isComplete : Cond.selects RX2 yX2_isComplete yX2_isComplete ∈ lw_all := lw_c2 (List.mem_of_getElem? (i := 209) (by decide +kernel)) rfl
theorem qc_yX2_isComplete : Cond.code yX2_isComplete cX2_isComplete 1 (some Jvm.ClassFile.FieldType.boolean) ∈ lw_all := lw_c2 (List.mem_of_getElem? (i := 210) (by decide +kernel)) rfl
theorem ql_RX6_147 : Cond.methodLink RX6 147 yX2_goToStart ∈ lw_all := lw_c2 (List.mem_of_getElem? (i := 212) (by decide +kernel)) rfl
theorem ql_RX6_150 : Cond.methodLink RX6 150 yX2_readNextOrder ∈ lw_all := lw_c2 (List.mem_of_getElem? (i := 213) (by decide +kernel)) rfl
theorem qm_yX2_readNextOrder : Cond.instanceMethod yX2_readNextOrder ∈ lw_all := lw_c2 (List.mem_of_getElem? (i := 214) (by decide +kernel)) rfl
theorem qs_yX2_readNextOrder : Cond.selects RX2 yX2_readNextOrder yX2_readNextOrder ∈ lw_all := lw_c2 (List.mem_of_getElem? (i := 215) (by decide +kernel)) rfl
theorem qc_yX2_readNextOrder : Cond.code yX2_readNextOrder cX2_readNextOrder 2 (some Jvm.ClassFile.FieldType.boolean) ∈ lw_all := lw_c2 (List.mem_of_getElem? (i := 216) (by decide +kernel)) rfl
theorem ql_RX6_153 : Cond.methodLink RX6 153 yX6_carriesOut ∈ lw_all := lw_c2 (List.mem_of_getElem? (i := 217) (by decide +kernel)) rfl
theorem qm_yX6_carriesOut : Cond.instanceMethod yX6_carriesOut ∈ lw_all := lw_c2 (List.mem_of_getElem? (i := 219) (by decide +kernel)) rfl
theorem qc_yX6_carriesOut : Cond.code yX6_carriesOut cX6_carriesOut 1 (some Jvm.ClassFile.FieldType.boolean) ∈ lw_all := lw_c2 (List.mem_of_getElem? (i := 220) (by decide +kernel)) rfl
theorem ql_RL_131 : Cond.methodLink RL 131 yL_undo ∈ lw_all := lw_c2 (List.mem_of_getElem? (i := 221) (by decide +kernel)) rfl
theorem qt_yL_undo : Cond.static yL_undo ∈ lw_all := lw_c2 (List.mem_of_getElem? (i := 222) (by decide +kernel)) rfl
theorem qc_yL_undo : Cond.codeWith yL_undo cL_undo (3 : Nat) (Option.some Jvm.ClassFile.FieldType.int) [((0 : Nat), (8 : Nat), (11 : Nat), (17 : Nat))] ∈ lw_all := lw_c2 (List.mem_of_getElem? (i := 223) (by decide +kernel)) rfl
theorem ql_RL_46 : Cond.methodLink RL 46 yX6_undo ∈ lw_all := lw_c2 (List.mem_of_getElem? (i := 224) (by decide +kernel)) rfl
theorem qm_yX6_undo : Cond.instanceMethod yX6_undo ∈ lw_all := lw_c2 (List.mem_of_getElem? (i := 225) (by decide +kernel)) rfl
theorem qs_yX6_undo : Cond.selects RX6 yX6_undo yX6_undo ∈ lw_all := lw_c2 (List.mem_of_getElem? (i := 226) (by decide +kernel)) rfl
theorem qc_yX6_undo : Cond.code yX6_undo cX6_undo 1 (some Jvm.ClassFile.FieldType.int) ∈ lw_all := lw_c2 (List.mem_of_getElem? (i := 227) (by decide +kernel)) rfl
theorem ql_RX6_161 : Cond.methodLink RX6 161 yX1_restoreLatest ∈ lw_all := lw_c2 (List.mem_of_getElem? (i := 229) (by decide +kernel)) rfl
theorem qm_yX1_restoreLatest : Cond.instanceMethod yX1_restoreLatest ∈ lw_all := lw_c2 (List.mem_of_getElem? (i := 230) (by decide +kernel)) rfl
theorem qs_yX1_restoreLatest : Cond.selects RX1 yX1_restoreLatest yX1_restoreLatest ∈ lw_all := lw_c2 (List.mem_of_getElem? (i := 231) (by decide +kernel)) rfl
theorem qc_yX1_restoreLatest : Cond.code yX1_restoreLatest cX1_restoreLatest 2 none ∈ lw_all := lw_c2 (List.mem_of_getElem? (i := 232) (by decide +kernel)) rfl
theorem ql_RL_134 : Cond.methodLink RL 134 yL_keep ∈ lw_all := lw_c2 (List.mem_of_getElem? (i := 233) (by decide +kernel)) rfl
theorem qt_yL_keep : Cond.static yL_keep ∈ lw_all := lw_c2 (List.mem_of_getElem? (i := 234) (by decide +kernel)) rfl
theorem qc_yL_keep : Cond.codeWith yL_keep cL_keep (4 : Nat) (Option.some Jvm.ClassFile.FieldType.int) [((0 : Nat), (9 : Nat), (12 : Nat), (15 : Nat))] ∈ lw_all := lw_c2 (List.mem_of_getElem? (i := 235) (by decide +kernel)) rfl
theorem ql_RL_49 : Cond.methodLink RL 49 yX6_keep ∈ lw_all := lw_c2 (List.mem_of_getElem? (i := 236) (by decide +kernel)) rfl
theorem qm_yX6_keep : Cond.instanceMethod yX6_keep ∈ lw_all := lw_c2 (List.mem_of_getElem? (i := 237) (by decide +kernel)) rfl
theorem qs_yX6_keep : Cond.selects RX6 yX6_keep yX6_keep ∈ lw_all := lw_c2 (List.mem_of_getElem? (i := 238) (by decide +kernel)) rfl
theorem qc_yX6_keep : Cond.code yX6_keep cX6_keep 2 (some Jvm.ClassFile.FieldType.int) ∈ lw_all := lw_c2 (List.mem_of_getElem? (i := 239) (by decide +kernel)) rfl
theorem ql_RX6_164 : Cond.methodLink RX6 164 yX6_snapshotIn ∈ lw_all := lw_c3 (List.mem_of_getElem? (i := 0) (by decide +kernel)) rfl
theorem qm_yX6_snapshotIn : Cond.instanceMethod yX6_snapshotIn ∈ lw_all := lw_c3 (List.mem_of_getElem? (i := 2) (by decide +kernel)) rfl
theorem qc_yX6_snapshotIn : Cond.code yX6_snapshotIn cX6_snapshotIn 2 (some (Jvm.ClassFile.FieldType.object "LateThermometers$Snapshot")) ∈ lw_all := lw_c3 (List.mem_of_getElem? (i := 3) (by decide +kernel)) rfl
theorem ql_RX6_168 : Cond.methodLink RX6 168 yX4_take ∈ lw_all := lw_c3 (List.mem_of_getElem? (i := 4) (by decide +kernel)) rfl
theorem qm_yX4_take : Cond.instanceMethod yX4_take ∈ lw_all := lw_c3 (List.mem_of_getElem? (i := 5) (by decide +kernel)) rfl
theorem qs_yX4_take : Cond.selects RX4 yX4_take yX4_take ∈ lw_all := lw_c3 (List.mem_of_getElem? (i := 6) (by decide +kernel)) rfl
theorem qc_yX4_take : Cond.code yX4_take cX4_take 2 none ∈ lw_all := lw_c3 (List.mem_of_getElem? (i := 7) (by decide +kernel)) rfl
theorem ql_RX4_16 : Cond.methodLink RX4 16 yX3_copyFrom ∈ lw_all := lw_c3 (List.mem_of_getElem? (i := 8) (by decide +kernel)) rfl
theorem ql_RL_137 : Cond.methodLink RL 137 yL_goBack ∈ lw_all := lw_c3 (List.mem_of_getElem? (i := 9) (by decide +kernel)) rfl
theorem qt_yL_goBack : Cond.static yL_goBack ∈ lw_all := lw_c3 (List.mem_of_getElem? (i := 10) (by decide +kernel)) rfl
theorem qc_yL_goBack : Cond.codeWith yL_goBack cL_goBack (4 : Nat) (Option.some Jvm.ClassFile.FieldType.int) [((0 : Nat), (9 : Nat), (12 : Nat), (15 : Nat)), ((0 : Nat), (9 : Nat), (15 : Nat), (17 : Nat))] ∈ lw_all := lw_c3 (List.mem_of_getElem? (i := 11) (by decide +kernel)) rfl
theorem ql_RL_52 : Cond.methodLink RL 52 yX6_goBack ∈ lw_all := lw_c3 (List.mem_of_getElem? (i := 12) (by decide +kernel)) rfl
theorem qm_yX6_goBack : Cond.instanceMethod yX6_goBack ∈ lw_all := lw_c3 (List.mem_of_getElem? (i := 13) (by decide +kernel)) rfl
theorem qs_yX6_goBack : Cond.selects RX6 yX6_goBack yX6_goBack ∈ lw_all := lw_c3 (List.mem_of_getElem? (i := 14) (by decide +kernel)) rfl
theorem qc_yX6_goBack : Cond.code yX6_goBack cX6_goBack 2 (some Jvm.ClassFile.FieldType.int) ∈ lw_all := lw_c3 (List.mem_of_getElem? (i := 15) (by decide +kernel)) rfl
theorem ql_RX6_183 : Cond.methodLink RX6 183 yX3_copyFrom ∈ lw_all := lw_c3 (List.mem_of_getElem? (i := 17) (by decide +kernel)) rfl
theorem ql_RL_140 : Cond.methodLink RL 140 yL_ofThermometer ∈ lw_all := lw_c3 (List.mem_of_getElem? (i := 18) (by decide +kernel)) rfl
theorem qt_yL_ofThermometer : Cond.static yL_ofThermometer ∈ lw_all := lw_c3 (List.mem_of_getElem? (i := 19) (by decide +kernel)) rfl
theorem qc_yL_ofThermometer : Cond.codeWith yL_ofThermometer cL_ofThermometer (5 : Nat) (Option.some Jvm.ClassFile.FieldType.int) [((0 : Nat), (10 : Nat), (13 : Nat), (13 : Nat)), ((0 : Nat), (10 : Nat), (17 : Nat), (15 : Nat))] ∈ lw_all := lw_c3 (List.mem_of_getElem? (i := 20) (by decide +kernel)) rfl
theorem ql_RL_55 : Cond.methodLink RL 55 yX6_ofThermometer ∈ lw_all := lw_c3 (List.mem_of_getElem? (i := 21) (by decide +kernel)) rfl
theorem qm_yX6_ofThermometer : Cond.instanceMethod yX6_ofThermometer ∈ lw_all := lw_c3 (List.mem_of_getElem? (i := 22) (by decide +kernel)) rfl
theorem qs_yX6_ofThermometer : Cond.selects RX6 yX6_ofThermometer yX6_ofThermometer ∈ lw_all := lw_c3 (List.mem_of_getElem? (i := 23) (by decide +kernel)) rfl
theorem qc_yX6_ofThermometer : Cond.code yX6_ofThermometer cX6_ofThermometer 3 (some Jvm.ClassFile.FieldType.int) ∈ lw_all := lw_c3 (List.mem_of_getElem? (i := 24) (by decide +kernel)) rfl
theorem ql_RX6_186 : Cond.methodLink RX6 186 yX5_numberOf ∈ lw_all := lw_c3 (List.mem_of_getElem? (i := 25) (by decide +kernel)) rfl
theorem qm_yX5_numberOf : Cond.instanceMethod yX5_numberOf ∈ lw_all := lw_c3 (List.mem_of_getElem? (i := 26) (by decide +kernel)) rfl
theorem qs_yX5_numberOf : Cond.selects RX5 yX5_numberOf yX5_numberOf ∈ lw_all := lw_c3 (List.mem_of_getElem? (i := 27) (by decide +kernel)) rfl
theorem qc_yX5_numberOf : Cond.code yX5_numberOf cX5_numberOf 2 (some Jvm.ClassFile.FieldType.int) ∈ lw_all := lw_c3 (List.mem_of_getElem? (i := 28) (by decide +kernel)) rfl
theorem ql_RL_143 : Cond.methodLink RL 143 yL_reading ∈ lw_all := lw_c3 (List.mem_of_getElem? (i := 29) (by decide +kernel)) rfl
theorem qt_yL_reading : Cond.static yL_reading ∈ lw_all := lw_c3 (List.mem_of_getElem? (i := 30) (by decide +kernel)) rfl
theorem qc_yL_reading : Cond.codeWith yL_reading cL_reading (6 : Nat) (Option.some Jvm.ClassFile.FieldType.int) [((0 : Nat), (12 : Nat), (15 : Nat), (13 : Nat)), ((0 : Nat), (12 : Nat), (19 : Nat), (15 : Nat))] ∈ lw_all := lw_c3 (List.mem_of_getElem? (i := 31) (by decide +kernel)) rfl
theorem ql_RL_58 : Cond.methodLink RL 58 yX6_reading ∈ lw_all := lw_c3 (List.mem_of_getElem? (i := 32) (by decide +kernel)) rfl
theorem qm_yX6_reading : Cond.instanceMethod yX6_reading ∈ lw_all := lw_c3 (List.mem_of_getElem? (i := 33) (by decide +kernel)) rfl
theorem qs_yX6_reading : Cond.selects RX6 yX6_reading yX6_reading ∈ lw_all := lw_c3 (List.mem_of_getElem? (i := 34) (by decide +kernel)) rfl
theorem qc_yX6_reading : Cond.code yX6_reading cX6_reading 5 (some Jvm.ClassFile.FieldType.int) ∈ lw_all := lw_c3 (List.mem_of_getElem? (i := 35) (by decide +kernel)) rfl
theorem ql_RX6_192 : Cond.methodLink RX6 192 yX5_hourAgo ∈ lw_all := lw_c3 (List.mem_of_getElem? (i := 36) (by decide +kernel)) rfl
theorem ql_RX6_195 : Cond.methodLink RX6 195 yX5_valueAgo ∈ lw_all := lw_c3 (List.mem_of_getElem? (i := 37) (by decide +kernel)) rfl
theorem qm_yX5_valueAgo : Cond.instanceMethod yX5_valueAgo ∈ lw_all := lw_c3 (List.mem_of_getElem? (i := 38) (by decide +kernel)) rfl
theorem qs_yX5_valueAgo : Cond.selects RX5 yX5_valueAgo yX5_valueAgo ∈ lw_all := lw_c3 (List.mem_of_getElem? (i := 39) (by decide +kernel)) rfl
theorem qc_yX5_valueAgo : Cond.code yX5_valueAgo cX5_valueAgo 2 (some Jvm.ClassFile.FieldType.int) ∈ lw_all := lw_c3 (List.mem_of_getElem? (i := 40) (by decide +kernel)) rfl
theorem ql_RL_147 : Cond.methodLink RL 147 yL_row ∈ lw_all := lw_c3 (List.mem_of_getElem? (i := 41) (by decide +kernel)) rfl
theorem qt_yL_row : Cond.static yL_row ∈ lw_all := lw_c3 (List.mem_of_getElem? (i := 42) (by decide +kernel)) rfl
theorem qc_yL_row : Cond.codeWith yL_row cL_row (5 : Nat) (Option.some Jvm.ClassFile.FieldType.int) [((0 : Nat), (10 : Nat), (13 : Nat), (13 : Nat)), ((0 : Nat), (10 : Nat), (17 : Nat), (15 : Nat))] ∈ lw_all := lw_c3 (List.mem_of_getElem? (i := 43) (by decide +kernel)) rfl
theorem ql_RL_62 : Cond.methodLink RL 62 yX6_row ∈ lw_all := lw_c3 (List.mem_of_getElem? (i := 44) (by decide +kernel)) rfl
theorem qm_yX6_row : Cond.instanceMethod yX6_row ∈ lw_all := lw_c3 (List.mem_of_getElem? (i := 45) (by decide +kernel)) rfl
theorem qs_yX6_row : Cond.selects RX6 yX6_row yX6_row ∈ lw_all := lw_c3 (List.mem_of_getElem? (i := 46) (by decide +kernel)) rfl
theorem qc_yX6_row : Cond.code yX6_row cX6_row 3 (some Jvm.ClassFile.FieldType.int) ∈ lw_all := lw_c3 (List.mem_of_getElem? (i := 47) (by decide +kernel)) rfl
theorem ql_RX6_198 : Cond.methodLink RX6 198 yX3_countInRow ∈ lw_all := lw_c3 (List.mem_of_getElem? (i := 48) (by decide +kernel)) rfl
theorem qm_yX3_countInRow : Cond.instanceMethod yX3_countInRow ∈ lw_all := lw_c3 (List.mem_of_getElem? (i := 49) (by decide +kernel)) rfl
theorem qs_yX3_countInRow : Cond.selects RX3 yX3_countInRow yX3_countInRow ∈ lw_all := lw_c3 (List.mem_of_getElem? (i := 50) (by decide +kernel)) rfl
theorem qc_yX3_countInRow : Cond.code yX3_countInRow cX3_countInRow 4 (some Jvm.ClassFile.FieldType.int) ∈ lw_all := lw_c3 (List.mem_of_getElem? (i := 51) (by decide +kernel)) rfl
theorem ql_RX6_201 : Cond.methodLink RX6 201 yX3_hoursUntilRead ∈ lw_all := lw_c3 (List.mem_of_getElem? (i := 52) (by decide +kernel)) rfl
theorem qm_yX3_hoursUntilRead : Cond.instanceMethod yX3_hoursUntilRead ∈ lw_all := lw_c3 (List.mem_of_getElem? (i := 53) (by decide +kernel)) rfl
theorem qs_yX3_hoursUntilRead : Cond.selects RX3 yX3_hoursUntilRead yX3_hoursUntilRead ∈ lw_all := lw_c3 (List.mem_of_getElem? (i := 54) (by decide +kernel)) rfl
theorem qc_yX3_hoursUntilRead : Cond.code yX3_hoursUntilRead cX3_hoursUntilRead 2 (some Jvm.ClassFile.FieldType.int) ∈ lw_all := lw_c3 (List.mem_of_getElem? (i := 55) (by decide +kernel)) rfl
theorem ql_RX6_204 : Cond.methodLink RX6 204 yX3_timesReadOf ∈ lw_all := lw_c3 (List.mem_of_getElem? (i := 56) (by decide +kernel)) rfl
theorem qm_yX3_timesReadOf : Cond.instanceMethod yX3_timesReadOf ∈ lw_all := lw_c3 (List.mem_of_getElem? (i := 57) (by decide +kernel)) rfl
theorem qs_yX3_timesReadOf : Cond.selects RX3 yX3_timesReadOf yX3_timesReadOf ∈ lw_all := lw_c3 (List.mem_of_getElem? (i := 58) (by decide +kernel)) rfl
theorem qc_yX3_timesReadOf : Cond.code yX3_timesReadOf cX3_timesReadOf 2 (some Jvm.ClassFile.FieldType.int) ∈ lw_all := lw_c3 (List.mem_of_getElem? (i := 59) (by decide +kernel)) rfl
theorem ql_RL_150 : Cond.methodLink RL 150 yL_count ∈ lw_all := lw_c3 (List.mem_of_getElem? (i := 60) (by decide +kernel)) rfl
theorem qt_yL_count : Cond.static yL_count ∈ lw_all := lw_c3 (List.mem_of_getElem? (i := 61) (by decide +kernel)) rfl
theorem qc_yL_count : Cond.codeWith yL_count cL_count (4 : Nat) (Option.some Jvm.ClassFile.FieldType.int) [((0 : Nat), (9 : Nat), (12 : Nat), (15 : Nat))] ∈ lw_all := lw_c3 (List.mem_of_getElem? (i := 62) (by decide +kernel)) rfl
theorem ql_RL_65 : Cond.methodLink RL 65 yX6_count ∈ lw_all := lw_c3 (List.mem_of_getElem? (i := 63) (by decide +kernel)) rfl
theorem qm_yX6_count : Cond.instanceMethod yX6_count ∈ lw_all := lw_c3 (List.mem_of_getElem? (i := 64) (by decide +kernel)) rfl
theorem qs_yX6_count : Cond.selects RX6 yX6_count yX6_count ∈ lw_all := lw_c3 (List.mem_of_getElem? (i := 65) (by decide +kernel)) rfl
theorem qc_yX6_count : Cond.code yX6_count cX6_count 2 (some Jvm.ClassFile.FieldType.int) ∈ lw_all := lw_c3 (List.mem_of_getElem? (i := 66) (by decide +kernel)) rfl
theorem ql_RX6_208 : Cond.methodLink RX6 208 yX3_maskOfAsked ∈ lw_all := lw_c3 (List.mem_of_getElem? (i := 67) (by decide +kernel)) rfl
theorem ql_RX6_211 : Cond.methodLink RX6 211 yX3_maskOfShutOut ∈ lw_all := lw_c3 (List.mem_of_getElem? (i := 68) (by decide +kernel)) rfl
theorem qm_yX3_maskOfShutOut : Cond.instanceMethod yX3_maskOfShutOut ∈ lw_all := lw_c3 (List.mem_of_getElem? (i := 69) (by decide +kernel)) rfl
theorem qs_yX3_maskOfShutOut : Cond.selects RX3 yX3_maskOfShutOut yX3_maskOfShutOut ∈ lw_all := lw_c3 (List.mem_of_getElem? (i := 70) (by decide +kernel)) rfl
theorem qc_yX3_maskOfShutOut : Cond.code yX3_maskOfShutOut cX3_maskOfShutOut 3 (some Jvm.ClassFile.FieldType.int) ∈ lw_all := lw_c3 (List.mem_of_getElem? (i := 71) (by decide +kernel)) rfl
theorem ql_RX6_214 : Cond.methodLink RX6 214 yX3_mean ∈ lw_all := lw_c3 (List.mem_of_getElem? (i := 72) (by decide +kernel)) rfl
theorem ql_RX6_217 : Cond.methodLink RX6 217 yX3_slope ∈ lw_all := lw_c3 (List.mem_of_getElem? (i := 73) (by decide +kernel)) rfl
theorem qm_yX3_slope : Cond.instanceMethod yX3_slope ∈ lw_all := lw_c3 (List.mem_of_getElem? (i := 74) (by decide +kernel)) rfl
theorem qs_yX3_slope : Cond.selects RX3 yX3_slope yX3_slope ∈ lw_all := lw_c3 (List.mem_of_getElem? (i := 75) (by decide +kernel)) rfl
theorem qc_yX3_slope : Cond.code yX3_slope cX3_slope 2 (some Jvm.ClassFile.FieldType.int) ∈ lw_all := lw_c3 (List.mem_of_getElem? (i := 76) (by decide +kernel)) rfl
theorem ql_RX6_220 : Cond.methodLink RX6 220 yX3_middleWithout ∈ lw_all := lw_c3 (List.mem_of_getElem? (i := 77) (by decide +kernel)) rfl
theorem ql_RL_153 : Cond.methodLink RL 153 yL_ranked ∈ lw_all := lw_c3 (List.mem_of_getElem? (i := 78) (by decide +kernel)) rfl
theorem qt_yL_ranked : Cond.static yL_ranked ∈ lw_all := lw_c3 (List.mem_of_getElem? (i := 79) (by decide +kernel)) rfl
theorem qc_yL_ranked : Cond.codeWith yL_ranked cL_ranked (5 : Nat) (Option.some Jvm.ClassFile.FieldType.int) [((0 : Nat), (10 : Nat), (13 : Nat), (15 : Nat))] ∈ lw_all := lw_c3 (List.mem_of_getElem? (i := 80) (by decide +kernel)) rfl
theorem ql_RL_68 : Cond.methodLink RL 68 yX6_ranked ∈ lw_all := lw_c3 (List.mem_of_getElem? (i := 81) (by decide +kernel)) rfl
theorem qm_yX6_ranked : Cond.instanceMethod yX6_ranked ∈ lw_all := lw_c3 (List.mem_of_getElem? (i := 82) (by decide +kernel)) rfl
theorem qs_yX6_ranked : Cond.selects RX6 yX6_ranked yX6_ranked ∈ lw_all := lw_c3 (List.mem_of_getElem? (i := 83) (by decide +kernel)) rfl
theorem qc_yX6_ranked : Cond.code yX6_ranked cX6_ranked 3 (some Jvm.ClassFile.FieldType.int) ∈ lw_all := lw_c3 (List.mem_of_getElem? (i := 84) (by decide +kernel)) rfl
theorem ql_RX6_229 : Cond.methodLink RX6 229 yX3_atRank ∈ lw_all := lw_c3 (List.mem_of_getElem? (i := 85) (by decide +kernel)) rfl
theorem qm_yX3_atRank : Cond.instanceMethod yX3_atRank ∈ lw_all := lw_c3 (List.mem_of_getElem? (i := 86) (by decide +kernel)) rfl
theorem qs_yX3_atRank : Cond.selects RX3 yX3_atRank yX3_atRank ∈ lw_all := lw_c3 (List.mem_of_getElem? (i := 87) (by decide +kernel)) rfl
theorem qc_yX3_atRank : Cond.code yX3_atRank cX3_atRank 4 (some Jvm.ClassFile.FieldType.int) ∈ lw_all := lw_c3 (List.mem_of_getElem? (i := 88) (by decide +kernel)) rfl
theorem ql_RX3_179 : Cond.methodLink RX3 179 yX3_countAheadOf ∈ lw_all := lw_c3 (List.mem_of_getElem? (i := 89) (by decide +kernel)) rfl
theorem qm_yX3_countAheadOf : Cond.instanceMethod yX3_countAheadOf ∈ lw_all := lw_c3 (List.mem_of_getElem? (i := 91) (by decide +kernel)) rfl
theorem qc_yX3_countAheadOf : Cond.code yX3_countAheadOf cX3_countAheadOf 7 (some Jvm.ClassFile.FieldType.int) ∈ lw_all := lw_c3 (List.mem_of_getElem? (i := 92) (by decide +kernel)) rfl
theorem ql_RX3_182 : Cond.methodLink RX3 182 yX3_sortKey ∈ lw_all := lw_c3 (List.mem_of_getElem? (i := 93) (by decide +kernel)) rfl
theorem qm_yX3_sortKey : Cond.instanceMethod yX3_sortKey ∈ lw_all := lw_c3 (List.mem_of_getElem? (i := 95) (by decide +kernel)) rfl
theorem qc_yX3_sortKey : Cond.code yX3_sortKey cX3_sortKey 3 (some Jvm.ClassFile.FieldType.int) ∈ lw_all := lw_c3 (List.mem_of_getElem? (i := 96) (by decide +kernel)) rfl
theorem ql_RL_160 : Cond.methodLink RL 160 yL_ifLag ∈ lw_all := lw_c3 (List.mem_of_getElem? (i := 97) (by decide +kernel)) rfl
theorem qt_yL_ifLag : Cond.static yL_ifLag ∈ lw_all := lw_c3 (List.mem_of_getElem? (i := 98) (by decide +kernel)) rfl
theorem qc_yL_ifLag : Cond.codeWith yL_ifLag cL_ifLag (5 : Nat) (Option.some Jvm.ClassFile.FieldType.int) [((0 : Nat), (10 : Nat), (13 : Nat), (13 : Nat)), ((0 : Nat), (10 : Nat), (17 : Nat), (15 : Nat))] ∈ lw_all := lw_c3 (List.mem_of_getElem? (i := 99) (by decide +kernel)) rfl
theorem ql_RL_71 : Cond.methodLink RL 71 yX6_ifLag ∈ lw_all := lw_c3 (List.mem_of_getElem? (i := 100) (by decide +kernel)) rfl
theorem qm_yX6_ifLag : Cond.instanceMethod yX6_ifLag ∈ lw_all := lw_c3 (List.mem_of_getElem? (i := 101) (by decide +kernel)) rfl
theorem qs_yX6_ifLag : Cond.selects RX6 yX6_ifLag yX6_ifLag ∈ lw_all := lw_c3 (List.mem_of_getElem? (i := 102) (by decide +kernel)) rfl
theorem qc_yX6_ifLag : Cond.code yX6_ifLag cX6_ifLag 3 (some Jvm.ClassFile.FieldType.int) ∈ lw_all := lw_c3 (List.mem_of_getElem? (i := 103) (by decide +kernel)) rfl
theorem ql_RX6_236 : Cond.methodLink RX6 236 yX5_mendedWith ∈ lw_all := lw_c3 (List.mem_of_getElem? (i := 104) (by decide +kernel)) rfl
theorem ql_RL_163 : Cond.methodLink RL 163 yL_bestLag ∈ lw_all := lw_c3 (List.mem_of_getElem? (i := 105) (by decide +kernel)) rfl
theorem qt_yL_bestLag : Cond.static yL_bestLag ∈ lw_all := lw_c3 (List.mem_of_getElem? (i := 106) (by decide +kernel)) rfl
theorem qc_yL_bestLag : Cond.codeWith yL_bestLag cL_bestLag (4 : Nat) (Option.some Jvm.ClassFile.FieldType.int) [((0 : Nat), (9 : Nat), (12 : Nat), (13 : Nat))] ∈ lw_all := lw_c3 (List.mem_of_getElem? (i := 107) (by decide +kernel)) rfl
theorem ql_RL_74 : Cond.methodLink RL 74 yX6_bestLag ∈ lw_all := lw_c3 (List.mem_of_getElem? (i := 108) (by decide +kernel)) rfl
theorem qm_yX6_bestLag : Cond.instanceMethod yX6_bestLag ∈ lw_all := lw_c3 (List.mem_of_getElem? (i := 109) (by decide +kernel)) rfl
theorem qs_yX6_bestLag : Cond.selects RX6 yX6_bestLag yX6_bestLag ∈ lw_all := lw_c3 (List.mem_of_getElem? (i := 110) (by decide +kernel)) rfl
theorem qc_yX6_bestLag : Cond.code yX6_bestLag cX6_bestLag 2 (some Jvm.ClassFile.FieldType.int) ∈ lw_all := lw_c3 (List.mem_of_getElem? (i := 111) (by decide +kernel)) rfl
theorem ql_RX6_239 : Cond.methodLink RX6 239 yX5_lagNearestTo ∈ lw_all := lw_c3 (List.mem_of_getElem? (i := 112) (by decide +kernel)) rfl
theorem qm_yX5_lagNearestTo : Cond.instanceMethod yX5_lagNearestTo ∈ lw_all := lw_c3 (List.mem_of_getElem? (i := 113) (by decide +kernel)) rfl
theorem qs_yX5_lagNearestTo : Cond.selects RX5 yX5_lagNearestTo yX5_lagNearestTo ∈ lw_all := lw_c3 (List.mem_of_getElem? (i := 114) (by decide +kernel)) rfl
theorem qc_yX5_lagNearestTo : Cond.code yX5_lagNearestTo cX5_lagNearestTo 6 (some Jvm.ClassFile.FieldType.int) ∈ lw_all := lw_c3 (List.mem_of_getElem? (i := 115) (by decide +kernel)) rfl
theorem ql_RX5_91 : Cond.methodLink RX5 91 yX5_hasMended ∈ lw_all := lw_c3 (List.mem_of_getElem? (i := 116) (by decide +kernel)) rfl
theorem ql_RL_166 : Cond.methodLink RL 166 yL_ifStill ∈ lw_all := lw_c3 (List.mem_of_getElem? (i := 117) (by decide +kernel)) rfl
theorem qt_yL_ifStill : Cond.static yL_ifStill ∈ lw_all := lw_c3 (List.mem_of_getElem? (i := 118) (by decide +kernel)) rfl
theorem qc_yL_ifStill : Cond.codeWith yL_ifStill cL_ifStill (5 : Nat) (Option.some Jvm.ClassFile.FieldType.int) [((0 : Nat), (10 : Nat), (13 : Nat), (15 : Nat))] ∈ lw_all := lw_c3 (List.mem_of_getElem? (i := 119) (by decide +kernel)) rfl
theorem ql_RL_77 : Cond.methodLink RL 77 yX6_ifStill ∈ lw_all := lw_c3 (List.mem_of_getElem? (i := 120) (by decide +kernel)) rfl
theorem qm_yX6_ifStill : Cond.instanceMethod yX6_ifStill ∈ lw_all := lw_c3 (List.mem_of_getElem? (i := 121) (by decide +kernel)) rfl
theorem qs_yX6_ifStill : Cond.selects RX6 yX6_ifStill yX6_ifStill ∈ lw_all := lw_c3 (List.mem_of_getElem? (i := 122) (by decide +kernel)) rfl
theorem qc_yX6_ifStill : Cond.code yX6_ifStill cX6_ifStill 3 (some Jvm.ClassFile.FieldType.int) ∈ lw_all := lw_c3 (List.mem_of_getElem? (i := 123) (by decide +kernel)) rfl
theorem ql_RX6_242 : Cond.methodLink RX6 242 yX3_greatestDistance ∈ lw_all := lw_c3 (List.mem_of_getElem? (i := 124) (by decide +kernel)) rfl
theorem qm_yX3_greatestDistance : Cond.instanceMethod yX3_greatestDistance ∈ lw_all := lw_c3 (List.mem_of_getElem? (i := 125) (by decide +kernel)) rfl
theorem qs_yX3_greatestDistance : Cond.selects RX3 yX3_greatestDistance yX3_greatestDistance ∈ lw_all := lw_c3 (List.mem_of_getElem? (i := 126) (by decide +kernel)) rfl
theorem qc_yX3_greatestDistance : Cond.code yX3_greatestDistance cX3_greatestDistance 3 (some Jvm.ClassFile.FieldType.int) ∈ lw_all := lw_c3 (List.mem_of_getElem? (i := 127) (by decide +kernel)) rfl
theorem ql_RX3_188 : Cond.methodLink RX3 188 yX5_distance ∈ lw_all := lw_c3 (List.mem_of_getElem? (i := 128) (by decide +kernel)) rfl
theorem qm_yX5_distance : Cond.instanceMethod yX5_distance ∈ lw_all := lw_c3 (List.mem_of_getElem? (i := 129) (by decide +kernel)) rfl
theorem qs_yX5_distance : Cond.selects RX5 yX5_distance yX5_distance ∈ lw_all := lw_c3 (List.mem_of_getElem? (i := 130) (by decide +kernel)) rfl
theorem qc_yX5_distance : Cond.code yX5_distance cX5_distance 2 (some Jvm.ClassFile.FieldType.int) ∈ lw_all := lw_c3 (List.mem_of_getElem? (i := 131) (by decide +kernel)) rfl
theorem ql_RL_169 : Cond.methodLink RL 169 yL_stillIn ∈ lw_all := lw_c3 (List.mem_of_getElem? (i := 132) (by decide +kernel)) rfl
theorem qt_yL_stillIn : Cond.static yL_stillIn ∈ lw_all := lw_c3 (List.mem_of_getElem? (i := 133) (by decide +kernel)) rfl
theorem qc_yL_stillIn : Cond.codeWith yL_stillIn cL_stillIn (4 : Nat) (Option.some Jvm.ClassFile.FieldType.int) [((0 : Nat), (9 : Nat), (12 : Nat), (13 : Nat))] ∈ lw_all := lw_c3 (List.mem_of_getElem? (i := 134) (by decide +kernel)) rfl
theorem ql_RL_80 : Cond.methodLink RL 80 yX6_stillIn ∈ lw_all := lw_c3 (List.mem_of_getElem? (i := 135) (by decide +kernel)) rfl
theorem qm_yX6_stillIn : Cond.instanceMethod yX6_stillIn ∈ lw_all := lw_c3 (List.mem_of_getElem? (i := 136) (by decide +kernel)) rfl
theorem qs_yX6_stillIn : Cond.selects RX6 yX6_stillIn yX6_stillIn ∈ lw_all := lw_c3 (List.mem_of_getElem? (i := 137) (by decide +kernel)) rfl
theorem qc_yX6_stillIn : Cond.code yX6_stillIn cX6_stillIn 2 (some Jvm.ClassFile.FieldType.int) ∈ lw_all := lw_c3 (List.mem_of_getElem? (i := 138) (by decide +kernel)) rfl
theorem ql_RX6_245 : Cond.methodLink RX6 245 yX5_hoursUntilStill ∈ lw_all := lw_c3 (List.mem_of_getElem? (i := 139) (by decide +kernel)) rfl
theorem qm_yX5_hoursUntilStill : Cond.instanceMethod yX5_hoursUntilStill ∈ lw_all := lw_c3 (List.mem_of_getElem? (i := 140) (by decide +kernel)) rfl
theorem qs_yX5_hoursUntilStill : Cond.selects RX5 yX5_hoursUntilStill yX5_hoursUntilStill ∈ lw_all := lw_c3 (List.mem_of_getElem? (i := 141) (by decide +kernel)) rfl
theorem qc_yX5_hoursUntilStill : Cond.code yX5_hoursUntilStill cX5_hoursUntilStill 5 (some Jvm.ClassFile.FieldType.int) ∈ lw_all := lw_c3 (List.mem_of_getElem? (i := 142) (by decide +kernel)) rfl
theorem qn_RX5_66 : Cond.constant RX5 66 (100000) ∈ lw_all := lw_c3 (List.mem_of_getElem? (i := 143) (by decide +kernel)) rfl
theorem qk_RL_84 : Cond.classLink RL 84 RX7 ∈ lw_all := lw_c3 (List.mem_of_getElem? (i := 144) (by decide +kernel)) rfl
theorem qa_RX7 : Cond.instantiable RX7 18 ∈ lw_all := lw_c3 (List.mem_of_getElem? (i := 145) (by decide +kernel)) rfl
theorem ql_RL_86 : Cond.methodLink RL 86 yX7_init ∈ lw_all := lw_c3 (List.mem_of_getElem? (i := 146) (by decide +kernel)) rfl
theorem qm_yX7_init : Cond.instanceMethod yX7_init ∈ lw_all := lw_c3 (List.mem_of_getElem? (i := 147) (by decide +kernel)) rfl
theorem qc_yX7_init : Cond.code yX7_init cX7_init 2 none ∈ lw_all := lw_c3 (List.mem_of_getElem? (i := 148) (by decide +kernel)) rfl
theorem ql_RX7_1 : Cond.methodLink RX7 1 objectInit ∈ lw_all := lw_c3 (List.mem_of_getElem? (i := 149) (by decide +kernel)) rfl
theorem qn_RX7_47 : Cond.constant RX7 47 (-999999) ∈ lw_all := lw_c3 (List.mem_of_getElem? (i := 150) (by decide +kernel)) rfl
theorem qf_RX7_7 : Cond.fieldLink RX7 7 "LateThermometersModel" "row" "[I" ∈ lw_all := lw_c3 (List.mem_of_getElem? (i := 151) (by decide +kernel)) rfl
theorem qf_RX7_13 : Cond.fieldLink RX7 13 "LateThermometersModel" "saved" "[I" ∈ lw_all := lw_c3 (List.mem_of_getElem? (i := 152) (by decide +kernel)) rfl
theorem qf_RX7_56 : Cond.fieldLink RX7 56 "LateThermometersModel" "savedMany" "I" ∈ lw_all := lw_c3 (List.mem_of_getElem? (i := 153) (by decide +kernel)) rfl
theorem qf_RX7_16 : Cond.fieldLink RX7 16 "LateThermometersModel" "snapshots" "[I" ∈ lw_all := lw_c3 (List.mem_of_getElem? (i := 154) (by decide +kernel)) rfl
theorem qf_RX7_19 : Cond.fieldLink RX7 19 "LateThermometersModel" "isKept" "[Z" ∈ lw_all := lw_c3 (List.mem_of_getElem? (i := 155) (by decide +kernel)) rfl
theorem qf_RX7_23 : Cond.fieldLink RX7 23 "LateThermometersModel" "aside" "[I" ∈ lw_all := lw_c3 (List.mem_of_getElem? (i := 156) (by decide +kernel)) rfl
theorem qf_RX7_48 : Cond.fieldLink RX7 48 "LateThermometersModel" "thrown" "I" ∈ lw_all := lw_c3 (List.mem_of_getElem? (i := 157) (by decide +kernel)) rfl
theorem qf_RX7_26 : Cond.fieldLink RX7 26 "LateThermometersModel" "sorted" "[I" ∈ lw_all := lw_c3 (List.mem_of_getElem? (i := 158) (by decide +kernel)) rfl
theorem qf_RX7_73 : Cond.fieldLink RX7 73 "LateThermometersModel" "sortedMany" "I" ∈ lw_all := lw_c3 (List.mem_of_getElem? (i := 159) (by decide +kernel)) rfl
theorem qf_RX7_29 : Cond.fieldLink RX7 29 "LateThermometersModel" "isCompared" "[Z" ∈ lw_all := lw_c3 (List.mem_of_getElem? (i := 160) (by decide +kernel)) rfl
theorem qf_RX7_32 : Cond.fieldLink RX7 32 "LateThermometersModel" "buffer" "[I" ∈ lw_all := lw_c3 (List.mem_of_getElem? (i := 161) (by decide +kernel)) rfl
theorem qf_RX7_148 : Cond.fieldLink RX7 148 "LateThermometersModel" "length" "I" ∈ lw_all := lw_c3 (List.mem_of_getElem? (i := 162) (by decide +kernel)) rfl
theorem qf_RX7_151 : Cond.fieldLink RX7 151 "LateThermometersModel" "spot" "I" ∈ lw_all := lw_c3 (List.mem_of_getElem? (i := 163) (by decide +kernel)) rfl
theorem qf_RX7_161 : Cond.fieldLink RX7 161 "LateThermometersModel" "orders" "I" ∈ lw_all := lw_c3 (List.mem_of_getElem? (i := 164) (by decide +kernel)) rfl
theorem qf_RX7_35 : Cond.fieldLink RX7 35 "LateThermometersModel" "letter" "[I" ∈ lw_all := lw_c3 (List.mem_of_getElem? (i := 165) (by decide +kernel)) rfl
theorem qf_RX7_38 : Cond.fieldLink RX7 38 "LateThermometersModel" "one" "[I" ∈ lw_all := lw_c3 (List.mem_of_getElem? (i := 166) (by decide +kernel)) rfl
theorem qf_RX7_41 : Cond.fieldLink RX7 41 "LateThermometersModel" "two" "[I" ∈ lw_all := lw_c3 (List.mem_of_getElem? (i := 167) (by decide +kernel)) rfl
theorem qf_RX7_44 : Cond.fieldLink RX7 44 "LateThermometersModel" "three" "[I" ∈ lw_all := lw_c3 (List.mem_of_getElem? (i := 168) (by decide +kernel)) rfl
theorem qy_3 : Cond.arrayClass Jvm.ClassFile.FieldType.boolean ∈ lw_all := lw_c3 (List.mem_of_getElem? (i := 206) (by decide +kernel)) rfl
theorem ql_RL_93 : Cond.methodLink RL 93 yX7_thrown ∈ lw_all := lw_c3 (List.mem_of_getElem? (i := 207) (by decide +kernel)) rfl
theorem qm_yX7_thrown : Cond.instanceMethod yX7_thrown ∈ lw_all := lw_c3 (List.mem_of_getElem? (i := 208) (by decide +kernel)) rfl
theorem qs_yX7_thrown : Cond.selects RX7 yX7_thrown yX7_thrown ∈ lw_all := lw_c3 (List.mem_of_getElem? (i := 209) (by decide +kernel)) rfl
theorem qc_yX7_thrown : Cond.code yX7_thrown cX7_thrown 1 (some Jvm.ClassFile.FieldType.int) ∈ lw_all := lw_c3 (List.mem_of_getElem? (i := 210) (by decide +kernel)) rfl
theorem ql_RL_133 : Cond.methodLink RL 133 yX7_undo ∈ lw_all := lw_c3 (List.mem_of_getElem? (i := 211) (by decide +kernel)) rfl
theorem qm_yX7_undo : Cond.instanceMethod yX7_undo ∈ lw_all := lw_c3 (List.mem_of_getElem? (i := 212) (by decide +kernel)) rfl
theorem qs_yX7_undo : Cond.selects RX7 yX7_undo yX7_undo ∈ lw_all := lw_c3 (List.mem_of_getElem? (i := 213) (by decide +kernel)) rfl
theorem qc_yX7_undo : Cond.code yX7_undo cX7_undo 2 (some Jvm.ClassFile.FieldType.int) ∈ lw_all := lw_c3 (List.mem_of_getElem? (i := 214) (by decide +kernel)) rfl
theorem ql_RX7_59 : Cond.methodLink RX7 59 yX7_fails ∈ lw_all := lw_c3 (List.mem_of_getElem? (i := 215) (by decide +kernel)) rfl
theorem qm_yX7_fails : Cond.instanceMethod yX7_fails ∈ lw_all := lw_c3 (List.mem_of_getElem? (i := 217) (by decide +kernel)) rfl
theorem qc_yX7_fails : Cond.code yX7_fails cX7_fails 2 (some Jvm.ClassFile.FieldType.int) ∈ lw_all := lw_c3 (List.mem_of_getElem? (i := 218) (by decide +kernel)) rfl
theorem ql_RL_136 : Cond.methodLink RL 136 yX7_keep ∈ lw_all := lw_c3 (List.mem_of_getElem? (i := 219) (by decide +kernel)) rfl
theorem qm_yX7_keep : Cond.instanceMethod yX7_keep ∈ lw_all := lw_c3 (List.mem_of_getElem? (i := 220) (by decide +kernel)) rfl
theorem qs_yX7_keep : Cond.selects RX7 yX7_keep yX7_keep ∈ lw_all := lw_c3 (List.mem_of_getElem? (i := 221) (by decide +kernel)) rfl
theorem qc_yX7_keep : Cond.code yX7_keep cX7_keep 3 (some Jvm.ClassFile.FieldType.int) ∈ lw_all := lw_c3 (List.mem_of_getElem? (i := 222) (by decide +kernel)) rfl
theorem ql_RX7_52 : Cond.methodLink RX7 52 yX7_in ∈ lw_all := lw_c3 (List.mem_of_getElem? (i := 223) (by decide +kernel)) rfl
theorem qt_yX7_in : Cond.static yX7_in ∈ lw_all := lw_c3 (List.mem_of_getElem? (i := 224) (by decide +kernel)) rfl
theorem qc_yX7_in : Cond.code yX7_in cX7_in 3 (some Jvm.ClassFile.FieldType.boolean) ∈ lw_all := lw_c3 (List.mem_of_getElem? (i := 225) (by decide +kernel)) rfl
theorem ql_RL_139 : Cond.methodLink RL 139 yX7_goBack ∈ lw_all := lw_c3 (List.mem_of_getElem? (i := 226) (by decide +kernel)) rfl
theorem qm_yX7_goBack : Cond.instanceMethod yX7_goBack ∈ lw_all := lw_c3 (List.mem_of_getElem? (i := 227) (by decide +kernel)) rfl
theorem qs_yX7_goBack : Cond.selects RX7 yX7_goBack yX7_goBack ∈ lw_all := lw_c3 (List.mem_of_getElem? (i := 228) (by decide +kernel)) rfl
theorem qc_yX7_goBack : Cond.code yX7_goBack cX7_goBack 3 (some Jvm.ClassFile.FieldType.int) ∈ lw_all := lw_c3 (List.mem_of_getElem? (i := 229) (by decide +kernel)) rfl
theorem ql_RX7_63 : Cond.methodLink RX7 63 yX7_save ∈ lw_all := lw_c3 (List.mem_of_getElem? (i := 230) (by decide +kernel)) rfl
theorem qm_yX7_save : Cond.instanceMethod yX7_save ∈ lw_all := lw_c3 (List.mem_of_getElem? (i := 232) (by decide +kernel)) rfl
theorem qc_yX7_save : Cond.code yX7_save cX7_save 2 none ∈ lw_all := lw_c3 (List.mem_of_getElem? (i := 233) (by decide +kernel)) rfl
theorem ql_RL_92 : Cond.methodLink RL 92 yX7_thermometer ∈ lw_all := lw_c3 (List.mem_of_getElem? (i := 234) (by decide +kernel)) rfl
theorem qm_yX7_thermometer : Cond.instanceMethod yX7_thermometer ∈ lw_all := lw_c3 (List.mem_of_getElem? (i := 235) (by decide +kernel)) rfl
theorem qs_yX7_thermometer : Cond.selects RX7 yX7_thermometer yX7_thermometer ∈ lw_all := lw_c3 (List.mem_of_getElem? (i := 236) (by decide +kernel)) rfl
theorem qc_yX7_thermometer : Cond.code yX7_thermometer cX7_thermometer 5 (some Jvm.ClassFile.FieldType.int) ∈ lw_all := lw_c3 (List.mem_of_getElem? (i := 237) (by decide +kernel)) rfl
theorem ql_RX7_122 : Cond.methodLink RX7 122 yX7_isRow ∈ lw_all := lw_c3 (List.mem_of_getElem? (i := 238) (by decide +kernel)) rfl
theorem qt_yX7_isRow : Cond.static yX7_isRow ∈ lw_all := lw_c3 (List.mem_of_getElem? (i := 239) (by decide +kernel)) rfl
theorem qc_yX7_isRow : Cond.code yX7_isRow cX7_isRow 1 (some Jvm.ClassFile.FieldType.boolean) ∈ lw_all := lw_c4 (List.mem_of_getElem? (i := 0) (by decide +kernel)) rfl
theorem ql_RX7_125 : Cond.methodLink RX7 125 yX7_areNumbers ∈ lw_all := lw_c4 (List.mem_of_getElem? (i := 1) (by decide +kernel)) rfl
theorem qt_yX7_areNumbers : Cond.static yX7_areNumbers ∈ lw_all := lw_c4 (List.mem_of_getElem? (i := 2) (by decide +kernel)) rfl
theorem qc_yX7_areNumbers : Cond.code yX7_areNumbers cX7_areNumbers 3 (some Jvm.ClassFile.FieldType.boolean) ∈ lw_all := lw_c4 (List.mem_of_getElem? (i := 3) (by decide +kernel)) rfl
theorem ql_RX7_128 : Cond.methodLink RX7 128 yX7_add ∈ lw_all := lw_c4 (List.mem_of_getElem? (i := 4) (by decide +kernel)) rfl
theorem qm_yX7_add : Cond.instanceMethod yX7_add ∈ lw_all := lw_c4 (List.mem_of_getElem? (i := 6) (by decide +kernel)) rfl
theorem qc_yX7_add : Cond.code yX7_add cX7_add 7 (some Jvm.ClassFile.FieldType.int) ∈ lw_all := lw_c4 (List.mem_of_getElem? (i := 7) (by decide +kernel)) rfl
theorem ql_RX7_94 : Cond.methodLink RX7 94 yX7_put ∈ lw_all := lw_c4 (List.mem_of_getElem? (i := 8) (by decide +kernel)) rfl
theorem qm_yX7_put : Cond.instanceMethod yX7_put ∈ lw_all := lw_c4 (List.mem_of_getElem? (i := 10) (by decide +kernel)) rfl
theorem qc_yX7_put : Cond.code yX7_put cX7_put 4 none ∈ lw_all := lw_c4 (List.mem_of_getElem? (i := 11) (by decide +kernel)) rfl
theorem ql_RL_99 : Cond.methodLink RL 99 yX7_hour ∈ lw_all := lw_c4 (List.mem_of_getElem? (i := 12) (by decide +kernel)) rfl
theorem qm_yX7_hour : Cond.instanceMethod yX7_hour ∈ lw_all := lw_c4 (List.mem_of_getElem? (i := 13) (by decide +kernel)) rfl
theorem qs_yX7_hour : Cond.selects RX7 yX7_hour yX7_hour ∈ lw_all := lw_c4 (List.mem_of_getElem? (i := 14) (by decide +kernel)) rfl
theorem qc_yX7_hour : Cond.code yX7_hour cX7_hour 2 (some Jvm.ClassFile.FieldType.int) ∈ lw_all := lw_c4 (List.mem_of_getElem? (i := 15) (by decide +kernel)) rfl
theorem ql_RX7_132 : Cond.methodLink RX7 132 yX7_isTemperature ∈ lw_all := lw_c4 (List.mem_of_getElem? (i := 16) (by decide +kernel)) rfl
theorem qt_yX7_isTemperature : Cond.static yX7_isTemperature ∈ lw_all := lw_c4 (List.mem_of_getElem? (i := 17) (by decide +kernel)) rfl
theorem qc_yX7_isTemperature : Cond.code yX7_isTemperature cX7_isTemperature 1 (some Jvm.ClassFile.FieldType.boolean) ∈ lw_all := lw_c4 (List.mem_of_getElem? (i := 18) (by decide +kernel)) rfl
theorem ql_RX7_135 : Cond.methodLink RX7 135 yX7_pass ∈ lw_all := lw_c4 (List.mem_of_getElem? (i := 19) (by decide +kernel)) rfl
theorem qm_yX7_pass : Cond.instanceMethod yX7_pass ∈ lw_all := lw_c4 (List.mem_of_getElem? (i := 21) (by decide +kernel)) rfl
theorem qc_yX7_pass : Cond.code yX7_pass cX7_pass 3 (some Jvm.ClassFile.FieldType.int) ∈ lw_all := lw_c4 (List.mem_of_getElem? (i := 22) (by decide +kernel)) rfl
theorem ql_RX7_87 : Cond.methodLink RX7 87 yX7_mean ∈ lw_all := lw_c4 (List.mem_of_getElem? (i := 23) (by decide +kernel)) rfl
theorem qm_yX7_mean : Cond.instanceMethod yX7_mean ∈ lw_all := lw_c4 (List.mem_of_getElem? (i := 25) (by decide +kernel)) rfl
theorem qc_yX7_mean : Cond.code yX7_mean cX7_mean 4 (some Jvm.ClassFile.FieldType.int) ∈ lw_all := lw_c4 (List.mem_of_getElem? (i := 26) (by decide +kernel)) rfl
theorem ql_RX7_76 : Cond.methodLink RX7 76 yX7_isAsked ∈ lw_all := lw_c4 (List.mem_of_getElem? (i := 27) (by decide +kernel)) rfl
theorem qm_yX7_isAsked : Cond.instanceMethod yX7_isAsked ∈ lw_all := lw_c4 (List.mem_of_getElem? (i := 29) (by decide +kernel)) rfl
theorem qc_yX7_isAsked : Cond.code yX7_isAsked cX7_isAsked 2 (some Jvm.ClassFile.FieldType.boolean) ∈ lw_all := lw_c4 (List.mem_of_getElem? (i := 30) (by decide +kernel)) rfl
theorem ql_RX7_66 : Cond.methodLink RX7 66 yX7_of ∈ lw_all := lw_c4 (List.mem_of_getElem? (i := 31) (by decide +kernel)) rfl
theorem qm_yX7_of : Cond.instanceMethod yX7_of ∈ lw_all := lw_c4 (List.mem_of_getElem? (i := 33) (by decide +kernel)) rfl
theorem qc_yX7_of : Cond.code yX7_of cX7_of 3 (some Jvm.ClassFile.FieldType.int) ∈ lw_all := lw_c4 (List.mem_of_getElem? (i := 34) (by decide +kernel)) rfl
theorem ql_RX7_80 : Cond.methodLink RX7 80 yX7_mended ∈ lw_all := lw_c4 (List.mem_of_getElem? (i := 35) (by decide +kernel)) rfl
theorem qm_yX7_mended : Cond.instanceMethod yX7_mended ∈ lw_all := lw_c4 (List.mem_of_getElem? (i := 37) (by decide +kernel)) rfl
theorem qc_yX7_mended : Cond.code yX7_mended cX7_mended 2 (some Jvm.ClassFile.FieldType.int) ∈ lw_all := lw_c4 (List.mem_of_getElem? (i := 38) (by decide +kernel)) rfl
theorem ql_RX7_70 : Cond.methodLink RX7 70 yX7_mendedBy ∈ lw_all := lw_c4 (List.mem_of_getElem? (i := 39) (by decide +kernel)) rfl
theorem qm_yX7_mendedBy : Cond.instanceMethod yX7_mendedBy ∈ lw_all := lw_c4 (List.mem_of_getElem? (i := 41) (by decide +kernel)) rfl
theorem qc_yX7_mendedBy : Cond.code yX7_mendedBy cX7_mendedBy 5 (some Jvm.ClassFile.FieldType.int) ∈ lw_all := lw_c4 (List.mem_of_getElem? (i := 42) (by decide +kernel)) rfl
theorem ql_RX7_113 : Cond.methodLink RX7 113 yX7_follow ∈ lw_all := lw_c4 (List.mem_of_getElem? (i := 43) (by decide +kernel)) rfl
theorem qm_yX7_follow : Cond.instanceMethod yX7_follow ∈ lw_all := lw_c4 (List.mem_of_getElem? (i := 45) (by decide +kernel)) rfl
theorem qc_yX7_follow : Cond.code yX7_follow cX7_follow 2 none ∈ lw_all := lw_c4 (List.mem_of_getElem? (i := 46) (by decide +kernel)) rfl
theorem ql_RX7_91 : Cond.methodLink RX7 91 yX7_changeOf ∈ lw_all := lw_c4 (List.mem_of_getElem? (i := 47) (by decide +kernel)) rfl
theorem qm_yX7_changeOf : Cond.instanceMethod yX7_changeOf ∈ lw_all := lw_c4 (List.mem_of_getElem? (i := 49) (by decide +kernel)) rfl
theorem qc_yX7_changeOf : Cond.code yX7_changeOf cX7_changeOf 2 (some Jvm.ClassFile.FieldType.int) ∈ lw_all := lw_c4 (List.mem_of_getElem? (i := 50) (by decide +kernel)) rfl
theorem ql_RX7_116 : Cond.methodLink RX7 116 yX7_readRows ∈ lw_all := lw_c4 (List.mem_of_getElem? (i := 51) (by decide +kernel)) rfl
theorem qm_yX7_readRows : Cond.instanceMethod yX7_readRows ∈ lw_all := lw_c4 (List.mem_of_getElem? (i := 53) (by decide +kernel)) rfl
theorem qc_yX7_readRows : Cond.code yX7_readRows cX7_readRows 4 (some Jvm.ClassFile.FieldType.int) ∈ lw_all := lw_c4 (List.mem_of_getElem? (i := 54) (by decide +kernel)) rfl
theorem ql_RX7_98 : Cond.methodLink RX7 98 yX7_isDue ∈ lw_all := lw_c4 (List.mem_of_getElem? (i := 55) (by decide +kernel)) rfl
theorem qm_yX7_isDue : Cond.instanceMethod yX7_isDue ∈ lw_all := lw_c4 (List.mem_of_getElem? (i := 57) (by decide +kernel)) rfl
theorem qc_yX7_isDue : Cond.code yX7_isDue cX7_isDue 2 (some Jvm.ClassFile.FieldType.boolean) ∈ lw_all := lw_c4 (List.mem_of_getElem? (i := 58) (by decide +kernel)) rfl
theorem ql_RX7_101 : Cond.methodLink RX7 101 yX7_read ∈ lw_all := lw_c4 (List.mem_of_getElem? (i := 59) (by decide +kernel)) rfl
theorem qm_yX7_read : Cond.instanceMethod yX7_read ∈ lw_all := lw_c4 (List.mem_of_getElem? (i := 61) (by decide +kernel)) rfl
theorem qc_yX7_read : Cond.code yX7_read cX7_read 3 none ∈ lw_all := lw_c4 (List.mem_of_getElem? (i := 62) (by decide +kernel)) rfl
theorem ql_RX7_119 : Cond.methodLink RX7 119 yX7_lookForSpikes ∈ lw_all := lw_c4 (List.mem_of_getElem? (i := 63) (by decide +kernel)) rfl
theorem qm_yX7_lookForSpikes : Cond.instanceMethod yX7_lookForSpikes ∈ lw_all := lw_c4 (List.mem_of_getElem? (i := 65) (by decide +kernel)) rfl
theorem qc_yX7_lookForSpikes : Cond.code yX7_lookForSpikes cX7_lookForSpikes 2 none ∈ lw_all := lw_c4 (List.mem_of_getElem? (i := 66) (by decide +kernel)) rfl
theorem ql_RX7_110 : Cond.methodLink RX7 110 yX7_compare ∈ lw_all := lw_c4 (List.mem_of_getElem? (i := 67) (by decide +kernel)) rfl
theorem qm_yX7_compare : Cond.instanceMethod yX7_compare ∈ lw_all := lw_c4 (List.mem_of_getElem? (i := 69) (by decide +kernel)) rfl
theorem qc_yX7_compare : Cond.code yX7_compare cX7_compare 3 none ∈ lw_all := lw_c4 (List.mem_of_getElem? (i := 70) (by decide +kernel)) rfl
theorem ql_RX7_104 : Cond.methodLink RX7 104 yX7_middleWithout ∈ lw_all := lw_c4 (List.mem_of_getElem? (i := 71) (by decide +kernel)) rfl
theorem qm_yX7_middleWithout : Cond.instanceMethod yX7_middleWithout ∈ lw_all := lw_c4 (List.mem_of_getElem? (i := 73) (by decide +kernel)) rfl
theorem qc_yX7_middleWithout : Cond.code yX7_middleWithout cX7_middleWithout 3 (some Jvm.ClassFile.FieldType.int) ∈ lw_all := lw_c4 (List.mem_of_getElem? (i := 74) (by decide +kernel)) rfl
theorem ql_RX7_83 : Cond.methodLink RX7 83 yX7_sortIn ∈ lw_all := lw_c4 (List.mem_of_getElem? (i := 75) (by decide +kernel)) rfl
theorem qm_yX7_sortIn : Cond.instanceMethod yX7_sortIn ∈ lw_all := lw_c4 (List.mem_of_getElem? (i := 77) (by decide +kernel)) rfl
theorem qc_yX7_sortIn : Cond.code yX7_sortIn cX7_sortIn 3 none ∈ lw_all := lw_c4 (List.mem_of_getElem? (i := 78) (by decide +kernel)) rfl
theorem ql_RX7_107 : Cond.methodLink RX7 107 yX7_size ∈ lw_all := lw_c4 (List.mem_of_getElem? (i := 79) (by decide +kernel)) rfl
theorem qt_yX7_size : Cond.static yX7_size ∈ lw_all := lw_c4 (List.mem_of_getElem? (i := 80) (by decide +kernel)) rfl
theorem qc_yX7_size : Cond.code yX7_size cX7_size 1 (some Jvm.ClassFile.FieldType.int) ∈ lw_all := lw_c4 (List.mem_of_getElem? (i := 81) (by decide +kernel)) rfl
theorem ql_RL_103 : Cond.methodLink RL 103 yX7_hours ∈ lw_all := lw_c4 (List.mem_of_getElem? (i := 82) (by decide +kernel)) rfl
theorem qm_yX7_hours : Cond.instanceMethod yX7_hours ∈ lw_all := lw_c4 (List.mem_of_getElem? (i := 83) (by decide +kernel)) rfl
theorem qs_yX7_hours : Cond.selects RX7 yX7_hours yX7_hours ∈ lw_all := lw_c4 (List.mem_of_getElem? (i := 84) (by decide +kernel)) rfl
theorem qc_yX7_hours : Cond.code yX7_hours cX7_hours 6 (some Jvm.ClassFile.FieldType.int) ∈ lw_all := lw_c4 (List.mem_of_getElem? (i := 85) (by decide +kernel)) rfl
theorem ql_RL_106 : Cond.methodLink RL 106 yX7_period ∈ lw_all := lw_c4 (List.mem_of_getElem? (i := 86) (by decide +kernel)) rfl
theorem qm_yX7_period : Cond.instanceMethod yX7_period ∈ lw_all := lw_c4 (List.mem_of_getElem? (i := 87) (by decide +kernel)) rfl
theorem qs_yX7_period : Cond.selects RX7 yX7_period yX7_period ∈ lw_all := lw_c4 (List.mem_of_getElem? (i := 88) (by decide +kernel)) rfl
theorem qc_yX7_period : Cond.code yX7_period cX7_period 3 (some Jvm.ClassFile.FieldType.int) ∈ lw_all := lw_c4 (List.mem_of_getElem? (i := 89) (by decide +kernel)) rfl
theorem ql_RX7_138 : Cond.methodLink RX7 138 yX7_periodNow ∈ lw_all := lw_c4 (List.mem_of_getElem? (i := 90) (by decide +kernel)) rfl
theorem qm_yX7_periodNow : Cond.instanceMethod yX7_periodNow ∈ lw_all := lw_c4 (List.mem_of_getElem? (i := 92) (by decide +kernel)) rfl
theorem qc_yX7_periodNow : Cond.code yX7_periodNow cX7_periodNow 4 (some Jvm.ClassFile.FieldType.int) ∈ lw_all := lw_c4 (List.mem_of_getElem? (i := 93) (by decide +kernel)) rfl
theorem ql_RL_109 : Cond.methodLink RL 109 yX7_calibrate ∈ lw_all := lw_c4 (List.mem_of_getElem? (i := 94) (by decide +kernel)) rfl
theorem qm_yX7_calibrate : Cond.instanceMethod yX7_calibrate ∈ lw_all := lw_c4 (List.mem_of_getElem? (i := 95) (by decide +kernel)) rfl
theorem qs_yX7_calibrate : Cond.selects RX7 yX7_calibrate yX7_calibrate ∈ lw_all := lw_c4 (List.mem_of_getElem? (i := 96) (by decide +kernel)) rfl
theorem qc_yX7_calibrate : Cond.code yX7_calibrate cX7_calibrate 2 (some Jvm.ClassFile.FieldType.int) ∈ lw_all := lw_c4 (List.mem_of_getElem? (i := 97) (by decide +kernel)) rfl
theorem ql_RX7_141 : Cond.methodLink RX7 141 yX7_is ∈ lw_all := lw_c4 (List.mem_of_getElem? (i := 98) (by decide +kernel)) rfl
theorem qm_yX7_is : Cond.instanceMethod yX7_is ∈ lw_all := lw_c4 (List.mem_of_getElem? (i := 100) (by decide +kernel)) rfl
theorem qc_yX7_is : Cond.code yX7_is cX7_is 2 (some Jvm.ClassFile.FieldType.boolean) ∈ lw_all := lw_c4 (List.mem_of_getElem? (i := 101) (by decide +kernel)) rfl
theorem ql_RX7_144 : Cond.methodLink RX7 144 yX7_calibrateNow ∈ lw_all := lw_c4 (List.mem_of_getElem? (i := 102) (by decide +kernel)) rfl
theorem qm_yX7_calibrateNow : Cond.instanceMethod yX7_calibrateNow ∈ lw_all := lw_c4 (List.mem_of_getElem? (i := 104) (by decide +kernel)) rfl
theorem qc_yX7_calibrateNow : Cond.code yX7_calibrateNow cX7_calibrateNow 4 (some Jvm.ClassFile.FieldType.int) ∈ lw_all := lw_c4 (List.mem_of_getElem? (i := 105) (by decide +kernel)) rfl
theorem ql_RL_112 : Cond.methodLink RL 112 yX7_knock ∈ lw_all := lw_c4 (List.mem_of_getElem? (i := 106) (by decide +kernel)) rfl
theorem qm_yX7_knock : Cond.instanceMethod yX7_knock ∈ lw_all := lw_c4 (List.mem_of_getElem? (i := 107) (by decide +kernel)) rfl
theorem qs_yX7_knock : Cond.selects RX7 yX7_knock yX7_knock ∈ lw_all := lw_c4 (List.mem_of_getElem? (i := 108) (by decide +kernel)) rfl
theorem qc_yX7_knock : Cond.code yX7_knock cX7_knock 4 (some Jvm.ClassFile.FieldType.int) ∈ lw_all := lw_c4 (List.mem_of_getElem? (i := 109) (by decide +kernel)) rfl
theorem qn_RX7_147 : Cond.constant RX7 147 (100000) ∈ lw_all := lw_c4 (List.mem_of_getElem? (i := 110) (by decide +kernel)) rfl
theorem ql_RL_115 : Cond.methodLink RL 115 yX7_set ∈ lw_all := lw_c4 (List.mem_of_getElem? (i := 111) (by decide +kernel)) rfl
theorem qm_yX7_set : Cond.instanceMethod yX7_set ∈ lw_all := lw_c4 (List.mem_of_getElem? (i := 112) (by decide +kernel)) rfl
theorem qs_yX7_set : Cond.selects RX7 yX7_set yX7_set ∈ lw_all := lw_c4 (List.mem_of_getElem? (i := 113) (by decide +kernel)) rfl
theorem qc_yX7_set : Cond.code yX7_set cX7_set 4 (some Jvm.ClassFile.FieldType.int) ∈ lw_all := lw_c4 (List.mem_of_getElem? (i := 114) (by decide +kernel)) rfl
theorem ql_RL_118 : Cond.methodLink RL 118 yX7_append ∈ lw_all := lw_c4 (List.mem_of_getElem? (i := 115) (by decide +kernel)) rfl
theorem qm_yX7_append : Cond.instanceMethod yX7_append ∈ lw_all := lw_c4 (List.mem_of_getElem? (i := 116) (by decide +kernel)) rfl
theorem qs_yX7_append : Cond.selects RX7 yX7_append yX7_append ∈ lw_all := lw_c4 (List.mem_of_getElem? (i := 117) (by decide +kernel)) rfl
theorem qc_yX7_append : Cond.code yX7_append cX7_append 2 (some Jvm.ClassFile.FieldType.int) ∈ lw_all := lw_c4 (List.mem_of_getElem? (i := 118) (by decide +kernel)) rfl
theorem ql_RL_122 : Cond.methodLink RL 122 yX7_clearBuffer ∈ lw_all := lw_c4 (List.mem_of_getElem? (i := 119) (by decide +kernel)) rfl
theorem qm_yX7_clearBuffer : Cond.instanceMethod yX7_clearBuffer ∈ lw_all := lw_c4 (List.mem_of_getElem? (i := 120) (by decide +kernel)) rfl
theorem qs_yX7_clearBuffer : Cond.selects RX7 yX7_clearBuffer yX7_clearBuffer ∈ lw_all := lw_c4 (List.mem_of_getElem? (i := 121) (by decide +kernel)) rfl
theorem qc_yX7_clearBuffer : Cond.code yX7_clearBuffer cX7_clearBuffer 2 (some Jvm.ClassFile.FieldType.int) ∈ lw_all := lw_c4 (List.mem_of_getElem? (i := 122) (by decide +kernel)) rfl
theorem ql_RL_126 : Cond.methodLink RL 126 yX7_firstError ∈ lw_all := lw_c4 (List.mem_of_getElem? (i := 123) (by decide +kernel)) rfl
theorem qm_yX7_firstError : Cond.instanceMethod yX7_firstError ∈ lw_all := lw_c4 (List.mem_of_getElem? (i := 124) (by decide +kernel)) rfl
theorem qs_yX7_firstError : Cond.selects RX7 yX7_firstError yX7_firstError ∈ lw_all := lw_c4 (List.mem_of_getElem? (i := 125) (by decide +kernel)) rfl
theorem qc_yX7_firstError : Cond.code yX7_firstError cX7_firstError 1 (some Jvm.ClassFile.FieldType.int) ∈ lw_all := lw_c4 (List.mem_of_getElem? (i := 126) (by decide +kernel)) rfl
theorem ql_RX7_180 : Cond.methodLink RX7 180 yX7_isComplete ∈ lw_all := lw_c4 (List.mem_of_getElem? (i := 127) (by decide +kernel)) rfl
theorem qm_yX7_isComplete : Cond.instanceMethod yX7_isComplete ∈ lw_all := lw_c4 (List.mem_of_getElem? (i := 129) (by decide +kernel)) rfl
theorem qc_yX7_isComplete : Cond.code yX7_isComplete cX7_isComplete 2 (some Jvm.ClassFile.FieldType.boolean) ∈ lw_all := lw_c4 (List.mem_of_getElem? (i := 130) (by decide +kernel)) rfl
theorem ql_RX7_177 : Cond.methodLink RX7 177 yX7_readOrder ∈ lw_all := lw_c4 (List.mem_of_getElem? (i := 131) (by decide +kernel)) rfl
theorem qm_yX7_readOrder : Cond.instanceMethod yX7_readOrder ∈ lw_all := lw_c4 (List.mem_of_getElem? (i := 133) (by decide +kernel)) rfl
theorem qc_yX7_readOrder : Cond.code yX7_readOrder cX7_readOrder 3 (some Jvm.ClassFile.FieldType.boolean) ∈ lw_all := lw_c4 (List.mem_of_getElem? (i := 134) (by decide +kernel)) rfl
theorem ql_RX7_164 : Cond.methodLink RX7 164 yX7_readNew ∈ lw_all := lw_c4 (List.mem_of_getElem? (i := 135) (by decide +kernel)) rfl
theorem qm_yX7_readNew : Cond.instanceMethod yX7_readNew ∈ lw_all := lw_c4 (List.mem_of_getElem? (i := 137) (by decide +kernel)) rfl
theorem qc_yX7_readNew : Cond.code yX7_readNew cX7_readNew 1 (some Jvm.ClassFile.FieldType.boolean) ∈ lw_all := lw_c4 (List.mem_of_getElem? (i := 138) (by decide +kernel)) rfl
theorem ql_RX7_154 : Cond.methodLink RX7 154 yX7_takes ∈ lw_all := lw_c4 (List.mem_of_getElem? (i := 139) (by decide +kernel)) rfl
theorem qm_yX7_takes : Cond.instanceMethod yX7_takes ∈ lw_all := lw_c4 (List.mem_of_getElem? (i := 141) (by decide +kernel)) rfl
theorem qc_yX7_takes : Cond.code yX7_takes cX7_takes 4 (some Jvm.ClassFile.FieldType.boolean) ∈ lw_all := lw_c4 (List.mem_of_getElem? (i := 142) (by decide +kernel)) rfl
theorem ql_RX7_158 : Cond.methodLink RX7 158 yX7_digit ∈ lw_all := lw_c4 (List.mem_of_getElem? (i := 143) (by decide +kernel)) rfl
theorem qm_yX7_digit : Cond.instanceMethod yX7_digit ∈ lw_all := lw_c4 (List.mem_of_getElem? (i := 145) (by decide +kernel)) rfl
theorem qc_yX7_digit : Cond.code yX7_digit cX7_digit 1 (some Jvm.ClassFile.FieldType.int) ∈ lw_all := lw_c4 (List.mem_of_getElem? (i := 146) (by decide +kernel)) rfl
theorem ql_RX7_168 : Cond.methodLink RX7 168 yX7_readDegrees ∈ lw_all := lw_c4 (List.mem_of_getElem? (i := 147) (by decide +kernel)) rfl
theorem qm_yX7_readDegrees : Cond.instanceMethod yX7_readDegrees ∈ lw_all := lw_c4 (List.mem_of_getElem? (i := 149) (by decide +kernel)) rfl
theorem qc_yX7_readDegrees : Cond.code yX7_readDegrees cX7_readDegrees 3 (some Jvm.ClassFile.FieldType.boolean) ∈ lw_all := lw_c4 (List.mem_of_getElem? (i := 150) (by decide +kernel)) rfl
theorem ql_RX7_171 : Cond.methodLink RX7 171 yX7_readPeriod ∈ lw_all := lw_c4 (List.mem_of_getElem? (i := 151) (by decide +kernel)) rfl
theorem qm_yX7_readPeriod : Cond.instanceMethod yX7_readPeriod ∈ lw_all := lw_c4 (List.mem_of_getElem? (i := 153) (by decide +kernel)) rfl
theorem qc_yX7_readPeriod : Cond.code yX7_readPeriod cX7_readPeriod 1 (some Jvm.ClassFile.FieldType.boolean) ∈ lw_all := lw_c4 (List.mem_of_getElem? (i := 154) (by decide +kernel)) rfl
theorem ql_RX7_174 : Cond.methodLink RX7 174 yX7_readCalibrated ∈ lw_all := lw_c4 (List.mem_of_getElem? (i := 155) (by decide +kernel)) rfl
theorem qm_yX7_readCalibrated : Cond.instanceMethod yX7_readCalibrated ∈ lw_all := lw_c4 (List.mem_of_getElem? (i := 157) (by decide +kernel)) rfl
theorem qc_yX7_readCalibrated : Cond.code yX7_readCalibrated cX7_readCalibrated 1 (some Jvm.ClassFile.FieldType.boolean) ∈ lw_all := lw_c4 (List.mem_of_getElem? (i := 158) (by decide +kernel)) rfl
theorem ql_RL_130 : Cond.methodLink RL 130 yX7_execute ∈ lw_all := lw_c4 (List.mem_of_getElem? (i := 159) (by decide +kernel)) rfl
theorem qm_yX7_execute : Cond.instanceMethod yX7_execute ∈ lw_all := lw_c4 (List.mem_of_getElem? (i := 160) (by decide +kernel)) rfl
theorem qs_yX7_execute : Cond.selects RX7 yX7_execute yX7_execute ∈ lw_all := lw_c4 (List.mem_of_getElem? (i := 161) (by decide +kernel)) rfl
theorem qc_yX7_execute : Cond.code yX7_execute cX7_execute 3 (some Jvm.ClassFile.FieldType.int) ∈ lw_all := lw_c4 (List.mem_of_getElem? (i := 162) (by decide +kernel)) rfl
theorem ql_RX7_183 : Cond.methodLink RX7 183 yX7_canDo ∈ lw_all := lw_c4 (List.mem_of_getElem? (i := 163) (by decide +kernel)) rfl
theorem qm_yX7_canDo : Cond.instanceMethod yX7_canDo ∈ lw_all := lw_c4 (List.mem_of_getElem? (i := 165) (by decide +kernel)) rfl
theorem qc_yX7_canDo : Cond.code yX7_canDo cX7_canDo 2 (some Jvm.ClassFile.FieldType.boolean) ∈ lw_all := lw_c4 (List.mem_of_getElem? (i := 166) (by decide +kernel)) rfl
theorem ql_RX7_186 : Cond.methodLink RX7 186 yX7_doOrder ∈ lw_all := lw_c4 (List.mem_of_getElem? (i := 167) (by decide +kernel)) rfl
theorem qm_yX7_doOrder : Cond.instanceMethod yX7_doOrder ∈ lw_all := lw_c4 (List.mem_of_getElem? (i := 169) (by decide +kernel)) rfl
theorem qc_yX7_doOrder : Cond.code yX7_doOrder cX7_doOrder 2 (some Jvm.ClassFile.FieldType.int) ∈ lw_all := lw_c4 (List.mem_of_getElem? (i := 170) (by decide +kernel)) rfl
theorem ql_RL_142 : Cond.methodLink RL 142 yX7_ofThermometer ∈ lw_all := lw_c4 (List.mem_of_getElem? (i := 171) (by decide +kernel)) rfl
theorem qm_yX7_ofThermometer : Cond.instanceMethod yX7_ofThermometer ∈ lw_all := lw_c4 (List.mem_of_getElem? (i := 172) (by decide +kernel)) rfl
theorem qs_yX7_ofThermometer : Cond.selects RX7 yX7_ofThermometer yX7_ofThermometer ∈ lw_all := lw_c4 (List.mem_of_getElem? (i := 173) (by decide +kernel)) rfl
theorem qc_yX7_ofThermometer : Cond.code yX7_ofThermometer cX7_ofThermometer 3 (some Jvm.ClassFile.FieldType.int) ∈ lw_all := lw_c4 (List.mem_of_getElem? (i := 174) (by decide +kernel)) rfl
theorem ql_RL_146 : Cond.methodLink RL 146 yX7_reading ∈ lw_all := lw_c4 (List.mem_of_getElem? (i := 175) (by decide +kernel)) rfl
theorem qm_yX7_reading : Cond.instanceMethod yX7_reading ∈ lw_all := lw_c4 (List.mem_of_getElem? (i := 176) (by decide +kernel)) rfl
theorem qs_yX7_reading : Cond.selects RX7 yX7_reading yX7_reading ∈ lw_all := lw_c4 (List.mem_of_getElem? (i := 177) (by decide +kernel)) rfl
theorem qc_yX7_reading : Cond.code yX7_reading cX7_reading 4 (some Jvm.ClassFile.FieldType.int) ∈ lw_all := lw_c4 (List.mem_of_getElem? (i := 178) (by decide +kernel)) rfl
theorem ql_RL_149 : Cond.methodLink RL 149 yX7_row ∈ lw_all := lw_c4 (List.mem_of_getElem? (i := 179) (by decide +kernel)) rfl
theorem qm_yX7_row : Cond.instanceMethod yX7_row ∈ lw_all := lw_c4 (List.mem_of_getElem? (i := 180) (by decide +kernel)) rfl
theorem qs_yX7_row : Cond.selects RX7 yX7_row yX7_row ∈ lw_all := lw_c4 (List.mem_of_getElem? (i := 181) (by decide +kernel)) rfl
theorem qc_yX7_row : Cond.code yX7_row cX7_row 3 (some Jvm.ClassFile.FieldType.int) ∈ lw_all := lw_c4 (List.mem_of_getElem? (i := 182) (by decide +kernel)) rfl
theorem ql_RX7_192 : Cond.methodLink RX7 192 yX7_ofRow ∈ lw_all := lw_c4 (List.mem_of_getElem? (i := 183) (by decide +kernel)) rfl
theorem qm_yX7_ofRow : Cond.instanceMethod yX7_ofRow ∈ lw_all := lw_c4 (List.mem_of_getElem? (i := 185) (by decide +kernel)) rfl
theorem qc_yX7_ofRow : Cond.code yX7_ofRow cX7_ofRow 4 (some Jvm.ClassFile.FieldType.int) ∈ lw_all := lw_c4 (List.mem_of_getElem? (i := 186) (by decide +kernel)) rfl
theorem ql_RX7_189 : Cond.methodLink RX7 189 yX7_inRow ∈ lw_all := lw_c4 (List.mem_of_getElem? (i := 187) (by decide +kernel)) rfl
theorem qm_yX7_inRow : Cond.instanceMethod yX7_inRow ∈ lw_all := lw_c4 (List.mem_of_getElem? (i := 189) (by decide +kernel)) rfl
theorem qc_yX7_inRow : Cond.code yX7_inRow cX7_inRow 4 (some Jvm.ClassFile.FieldType.int) ∈ lw_all := lw_c4 (List.mem_of_getElem? (i := 190) (by decide +kernel)) rfl
theorem ql_RL_152 : Cond.methodLink RL 152 yX7_count ∈ lw_all := lw_c4 (List.mem_of_getElem? (i := 191) (by decide +kernel)) rfl
theorem qm_yX7_count : Cond.instanceMethod yX7_count ∈ lw_all := lw_c4 (List.mem_of_getElem? (i := 192) (by decide +kernel)) rfl
theorem qs_yX7_count : Cond.selects RX7 yX7_count yX7_count ∈ lw_all := lw_c4 (List.mem_of_getElem? (i := 193) (by decide +kernel)) rfl
theorem qc_yX7_count : Cond.code yX7_count cX7_count 2 (some Jvm.ClassFile.FieldType.int) ∈ lw_all := lw_c4 (List.mem_of_getElem? (i := 194) (by decide +kernel)) rfl
theorem ql_RX7_204 : Cond.methodLink RX7 204 yX7_number ∈ lw_all := lw_c4 (List.mem_of_getElem? (i := 195) (by decide +kernel)) rfl
theorem qm_yX7_number : Cond.instanceMethod yX7_number ∈ lw_all := lw_c4 (List.mem_of_getElem? (i := 197) (by decide +kernel)) rfl
theorem qc_yX7_number : Cond.code yX7_number cX7_number 2 (some Jvm.ClassFile.FieldType.int) ∈ lw_all := lw_c4 (List.mem_of_getElem? (i := 198) (by decide +kernel)) rfl
theorem ql_RX7_195 : Cond.methodLink RX7 195 yX7_asked ∈ lw_all := lw_c4 (List.mem_of_getElem? (i := 199) (by decide +kernel)) rfl
theorem qm_yX7_asked : Cond.instanceMethod yX7_asked ∈ lw_all := lw_c4 (List.mem_of_getElem? (i := 201) (by decide +kernel)) rfl
theorem qc_yX7_asked : Cond.code yX7_asked cX7_asked 3 (some Jvm.ClassFile.FieldType.int) ∈ lw_all := lw_c4 (List.mem_of_getElem? (i := 202) (by decide +kernel)) rfl
theorem ql_RX7_198 : Cond.methodLink RX7 198 yX7_shutOut ∈ lw_all := lw_c4 (List.mem_of_getElem? (i := 203) (by decide +kernel)) rfl
theorem qm_yX7_shutOut : Cond.instanceMethod yX7_shutOut ∈ lw_all := lw_c4 (List.mem_of_getElem? (i := 205) (by decide +kernel)) rfl
theorem qc_yX7_shutOut : Cond.code yX7_shutOut cX7_shutOut 3 (some Jvm.ClassFile.FieldType.int) ∈ lw_all := lw_c4 (List.mem_of_getElem? (i := 206) (by decide +kernel)) rfl
theorem ql_RX7_201 : Cond.methodLink RX7 201 yX7_slope ∈ lw_all := lw_c4 (List.mem_of_getElem? (i := 207) (by decide +kernel)) rfl
theorem qm_yX7_slope : Cond.instanceMethod yX7_slope ∈ lw_all := lw_c4 (List.mem_of_getElem? (i := 209) (by decide +kernel)) rfl
theorem qc_yX7_slope : Cond.code yX7_slope cX7_slope 2 (some Jvm.ClassFile.FieldType.int) ∈ lw_all := lw_c4 (List.mem_of_getElem? (i := 210) (by decide +kernel)) rfl
theorem ql_RL_155 : Cond.methodLink RL 155 yX7_ranked ∈ lw_all := lw_c4 (List.mem_of_getElem? (i := 211) (by decide +kernel)) rfl
theorem qm_yX7_ranked : Cond.instanceMethod yX7_ranked ∈ lw_all := lw_c4 (List.mem_of_getElem? (i := 212) (by decide +kernel)) rfl
theorem qs_yX7_ranked : Cond.selects RX7 yX7_ranked yX7_ranked ∈ lw_all := lw_c4 (List.mem_of_getElem? (i := 213) (by decide +kernel)) rfl
theorem qc_yX7_ranked : Cond.code yX7_ranked cX7_ranked 3 (some Jvm.ClassFile.FieldType.int) ∈ lw_all := lw_c4 (List.mem_of_getElem? (i := 214) (by decide +kernel)) rfl
theorem ql_RX7_213 : Cond.methodLink RX7 213 yX7_ofRank ∈ lw_all := lw_c4 (List.mem_of_getElem? (i := 215) (by decide +kernel)) rfl
theorem qm_yX7_ofRank : Cond.instanceMethod yX7_ofRank ∈ lw_all := lw_c4 (List.mem_of_getElem? (i := 217) (by decide +kernel)) rfl
theorem qc_yX7_ofRank : Cond.code yX7_ofRank cX7_ofRank 8 (some Jvm.ClassFile.FieldType.int) ∈ lw_all := lw_c4 (List.mem_of_getElem? (i := 218) (by decide +kernel)) rfl
theorem ql_RX7_210 : Cond.methodLink RX7 210 yX7_key ∈ lw_all := lw_c4 (List.mem_of_getElem? (i := 219) (by decide +kernel)) rfl
theorem qm_yX7_key : Cond.instanceMethod yX7_key ∈ lw_all := lw_c4 (List.mem_of_getElem? (i := 221) (by decide +kernel)) rfl
theorem qc_yX7_key : Cond.code yX7_key cX7_key 3 (some Jvm.ClassFile.FieldType.int) ∈ lw_all := lw_c4 (List.mem_of_getElem? (i := 222) (by decide +kernel)) rfl
theorem ql_RX7_207 : Cond.methodLink RX7 207 yX7_off ∈ lw_all := lw_c4 (List.mem_of_getElem? (i := 223) (by decide +kernel)) rfl
theorem qm_yX7_off : Cond.instanceMethod yX7_off ∈ lw_all := lw_c4 (List.mem_of_getElem? (i := 225) (by decide +kernel)) rfl
theorem qc_yX7_off : Cond.code yX7_off cX7_off 2 (some Jvm.ClassFile.FieldType.int) ∈ lw_all := lw_c4 (List.mem_of_getElem? (i := 226) (by decide +kernel)) rfl
theorem ql_RL_159 : Cond.methodLink RL 159 yX7_between ∈ lw_all := lw_c4 (List.mem_of_getElem? (i := 227) (by decide +kernel)) rfl
theorem qm_yX7_between : Cond.instanceMethod yX7_between ∈ lw_all := lw_c4 (List.mem_of_getElem? (i := 228) (by decide +kernel)) rfl
theorem qs_yX7_between : Cond.selects RX7 yX7_between yX7_between ∈ lw_all := lw_c4 (List.mem_of_getElem? (i := 229) (by decide +kernel)) rfl
theorem qc_yX7_between : Cond.code yX7_between cX7_between 5 (some Jvm.ClassFile.FieldType.int) ∈ lw_all := lw_c4 (List.mem_of_getElem? (i := 230) (by decide +kernel)) rfl
theorem ql_RL_162 : Cond.methodLink RL 162 yX7_ifLag ∈ lw_all := lw_c4 (List.mem_of_getElem? (i := 231) (by decide +kernel)) rfl
theorem qm_yX7_ifLag : Cond.instanceMethod yX7_ifLag ∈ lw_all := lw_c4 (List.mem_of_getElem? (i := 232) (by decide +kernel)) rfl
theorem qs_yX7_ifLag : Cond.selects RX7 yX7_ifLag yX7_ifLag ∈ lw_all := lw_c4 (List.mem_of_getElem? (i := 233) (by decide +kernel)) rfl
theorem qc_yX7_ifLag : Cond.code yX7_ifLag cX7_ifLag 3 (some Jvm.ClassFile.FieldType.int) ∈ lw_all := lw_c4 (List.mem_of_getElem? (i := 234) (by decide +kernel)) rfl
theorem ql_RL_165 : Cond.methodLink RL 165 yX7_bestLag ∈ lw_all := lw_c4 (List.mem_of_getElem? (i := 235) (by decide +kernel)) rfl
theorem qm_yX7_bestLag : Cond.instanceMethod yX7_bestLag ∈ lw_all := lw_c4 (List.mem_of_getElem? (i := 236) (by decide +kernel)) rfl
theorem qs_yX7_bestLag : Cond.selects RX7 yX7_bestLag yX7_bestLag ∈ lw_all := lw_c4 (List.mem_of_getElem? (i := 237) (by decide +kernel)) rfl
theorem qc_yX7_bestLag : Cond.code yX7_bestLag cX7_bestLag 2 (some Jvm.ClassFile.FieldType.int) ∈ lw_all := lw_c4 (List.mem_of_getElem? (i := 238) (by decide +kernel)) rfl
theorem ql_RX7_216 : Cond.methodLink RX7 216 yX7_best ∈ lw_all := lw_c4 (List.mem_of_getElem? (i := 239) (by decide +kernel)) rfl
theorem qm_yX7_best : Cond.instanceMethod yX7_best ∈ lw_all := lw_c5 (List.mem_of_getElem? (i := 1) (by decide +kernel)) rfl
theorem qc_yX7_best : Cond.code yX7_best cX7_best 4 (some Jvm.ClassFile.FieldType.int) ∈ lw_all := lw_c5 (List.mem_of_getElem? (i := 2) (by decide +kernel)) rfl
theorem ql_RL_168 : Cond.methodLink RL 168 yX7_ifStill ∈ lw_all := lw_c5 (List.mem_of_getElem? (i := 3) (by decide +kernel)) rfl
theorem qm_yX7_ifStill : Cond.instanceMethod yX7_ifStill ∈ lw_all := lw_c5 (List.mem_of_getElem? (i := 4) (by decide +kernel)) rfl
theorem qs_yX7_ifStill : Cond.selects RX7 yX7_ifStill yX7_ifStill ∈ lw_all := lw_c5 (List.mem_of_getElem? (i := 5) (by decide +kernel)) rfl
theorem qc_yX7_ifStill : Cond.code yX7_ifStill cX7_ifStill 3 (some Jvm.ClassFile.FieldType.int) ∈ lw_all := lw_c5 (List.mem_of_getElem? (i := 6) (by decide +kernel)) rfl
theorem ql_RX7_222 : Cond.methodLink RX7 222 yX7_behind ∈ lw_all := lw_c5 (List.mem_of_getElem? (i := 7) (by decide +kernel)) rfl
theorem qm_yX7_behind : Cond.instanceMethod yX7_behind ∈ lw_all := lw_c5 (List.mem_of_getElem? (i := 9) (by decide +kernel)) rfl
theorem qc_yX7_behind : Cond.code yX7_behind cX7_behind 5 (some Jvm.ClassFile.FieldType.int) ∈ lw_all := lw_c5 (List.mem_of_getElem? (i := 10) (by decide +kernel)) rfl
theorem ql_RX7_219 : Cond.methodLink RX7 219 yX7_widest ∈ lw_all := lw_c5 (List.mem_of_getElem? (i := 11) (by decide +kernel)) rfl
theorem qm_yX7_widest : Cond.instanceMethod yX7_widest ∈ lw_all := lw_c5 (List.mem_of_getElem? (i := 13) (by decide +kernel)) rfl
theorem qc_yX7_widest : Cond.code yX7_widest cX7_widest 4 (some Jvm.ClassFile.FieldType.int) ∈ lw_all := lw_c5 (List.mem_of_getElem? (i := 14) (by decide +kernel)) rfl
theorem ql_RL_171 : Cond.methodLink RL 171 yX7_stillIn ∈ lw_all := lw_c5 (List.mem_of_getElem? (i := 15) (by decide +kernel)) rfl
theorem qm_yX7_stillIn : Cond.instanceMethod yX7_stillIn ∈ lw_all := lw_c5 (List.mem_of_getElem? (i := 16) (by decide +kernel)) rfl
theorem qs_yX7_stillIn : Cond.selects RX7 yX7_stillIn yX7_stillIn ∈ lw_all := lw_c5 (List.mem_of_getElem? (i := 17) (by decide +kernel)) rfl
theorem qc_yX7_stillIn : Cond.code yX7_stillIn cX7_stillIn 4 (some Jvm.ClassFile.FieldType.int) ∈ lw_all := lw_c5 (List.mem_of_getElem? (i := 18) (by decide +kernel)) rfl
theorem ql_RL_176 : Cond.methodLink RL 176 yX7_meanError ∈ lw_all := lw_c5 (List.mem_of_getElem? (i := 19) (by decide +kernel)) rfl
theorem qm_yX7_meanError : Cond.instanceMethod yX7_meanError ∈ lw_all := lw_c5 (List.mem_of_getElem? (i := 20) (by decide +kernel)) rfl
theorem qs_yX7_meanError : Cond.selects RX7 yX7_meanError yX7_meanError ∈ lw_all := lw_c5 (List.mem_of_getElem? (i := 21) (by decide +kernel)) rfl
theorem qc_yX7_meanError : Cond.code yX7_meanError cX7_meanError 4 (some Jvm.ClassFile.FieldType.double) ∈ lw_all := lw_c5 (List.mem_of_getElem? (i := 22) (by decide +kernel)) rfl
theorem qy_4 : Cond.arrayClass Jvm.ClassFile.FieldType.long ∈ lw_all := lw_c5 (List.mem_of_getElem? (i := 23) (by decide +kernel)) rfl
theorem qs_yX2_readsAll : Cond.selects RX2 yX2_readsAll yX2_readsAll ∈ lw_all := lw_sel (n := 8) (by unfold lw_privs lw_privs_1 lw_privs_2 lw_privs_3 lw_privs_4 lw_privs_5; exact List.mem_of_getElem? (i := 0) rfl)
theorem qs_yX2_readsOrder : Cond.selects RX2 yX2_readsOrder yX2_readsOrder ∈ lw_all := lw_sel (n := 8) (by unfold lw_privs lw_privs_1 lw_privs_2 lw_privs_3 lw_privs_4 lw_privs_5; exact List.mem_of_getElem? (i := 1) rfl)
theorem qs_yX2_takesSign : Cond.selects RX2 yX2_takesSign yX2_takesSign ∈ lw_all := lw_sel (n := 8) (by unfold lw_privs lw_privs_1 lw_privs_2 lw_privs_3 lw_privs_4 lw_privs_5; exact List.mem_of_getElem? (i := 2) rfl)
theorem qs_yX2_takes : Cond.selects RX2 yX2_takes yX2_takes ∈ lw_all := lw_sel (n := 8) (by unfold lw_privs lw_privs_1 lw_privs_2 lw_privs_3 lw_privs_4 lw_privs_5; exact List.mem_of_getElem? (i := 3) rfl)
theorem qs_yX2_readsRow : Cond.selects RX2 yX2_readsRow yX2_readsRow ∈ lw_all := lw_sel (n := 8) (by unfold lw_privs lw_privs_1 lw_privs_2 lw_privs_3 lw_privs_4 lw_privs_5; exact List.mem_of_getElem? (i := 4) rfl)
theorem qs_yX2_readsNumber : Cond.selects RX2 yX2_readsNumber yX2_readsNumber ∈ lw_all := lw_sel (n := 8) (by unfold lw_privs lw_privs_1 lw_privs_2 lw_privs_3 lw_privs_4 lw_privs_5; exact List.mem_of_getElem? (i := 5) rfl)
theorem qs_yX2_readsWeight : Cond.selects RX2 yX2_readsWeight yX2_readsWeight ∈ lw_all := lw_sel (n := 8) (by unfold lw_privs lw_privs_1 lw_privs_2 lw_privs_3 lw_privs_4 lw_privs_5; exact List.mem_of_getElem? (i := 6) rfl)
theorem qs_yX2_readsDegrees : Cond.selects RX2 yX2_readsDegrees yX2_readsDegrees ∈ lw_all := lw_sel (n := 8) (by unfold lw_privs lw_privs_1 lw_privs_2 lw_privs_3 lw_privs_4 lw_privs_5; exact List.mem_of_getElem? (i := 7) rfl)
theorem qs_yX1_stateAt : Cond.selects RX1 yX1_stateAt yX1_stateAt ∈ lw_all := lw_sel (n := 4) (by unfold lw_privs lw_privs_1 lw_privs_2 lw_privs_3 lw_privs_4 lw_privs_5; exact List.mem_of_getElem? (i := 9) rfl)
theorem qs_yX6_checkHoursLeft : Cond.selects RX6 yX6_checkHoursLeft yX6_checkHoursLeft ∈ lw_all := lw_sel (n := 6) (by unfold lw_privs lw_privs_1 lw_privs_2 lw_privs_3 lw_privs_4 lw_privs_5; exact List.mem_of_getElem? (i := 10) rfl)
theorem qs_yX5_stepFrom : Cond.selects RX5 yX5_stepFrom yX5_stepFrom ∈ lw_all := lw_sel (n := 12) (by unfold lw_privs lw_privs_1 lw_privs_2 lw_privs_3 lw_privs_4 lw_privs_5; exact List.mem_of_getElem? (i := 11) rfl)
theorem qs_yX3_readRows : Cond.selects RX3 yX3_readRows yX3_readRows ∈ lw_all := lw_sel (n := 13) (by unfold lw_privs lw_privs_1 lw_privs_2 lw_privs_3 lw_privs_4 lw_privs_5; exact List.mem_of_getElem? (i := 12) rfl)
theorem qs_yX3_isReadNow : Cond.selects RX3 yX3_isReadNow yX3_isReadNow ∈ lw_all := lw_sel (n := 13) (by unfold lw_privs lw_privs_1 lw_privs_2 lw_privs_3 lw_privs_4 lw_privs_5; exact List.mem_of_getElem? (i := 13) rfl)
theorem qs_yX3_lookForSpikes : Cond.selects RX3 yX3_lookForSpikes yX3_lookForSpikes ∈ lw_all := lw_sel (n := 13) (by unfold lw_privs lw_privs_1 lw_privs_2 lw_privs_3 lw_privs_4 lw_privs_5; exact List.mem_of_getElem? (i := 14) rfl)
theorem qs_yX3_compareWithOthers : Cond.selects RX3 yX3_compareWithOthers yX3_compareWithOthers ∈ lw_all := lw_sel (n := 13) (by unfold lw_privs lw_privs_1 lw_privs_2 lw_privs_3 lw_privs_4 lw_privs_5; exact List.mem_of_getElem? (i := 15) rfl)
theorem qs_yX6_checkThermometer : Cond.selects RX6 yX6_checkThermometer yX6_checkThermometer ∈ lw_all := lw_sel (n := 6) (by unfold lw_privs lw_privs_1 lw_privs_2 lw_privs_3 lw_privs_4 lw_privs_5; exact List.mem_of_getElem? (i := 16) rfl)
theorem qs_yX6_carriesOut : Cond.selects RX6 yX6_carriesOut yX6_carriesOut ∈ lw_all := lw_sel (n := 6) (by unfold lw_privs lw_privs_1 lw_privs_2 lw_privs_3 lw_privs_4 lw_privs_5; exact List.mem_of_getElem? (i := 17) rfl)
theorem qs_yX6_snapshotIn : Cond.selects RX6 yX6_snapshotIn yX6_snapshotIn ∈ lw_all := lw_sel (n := 6) (by unfold lw_privs lw_privs_1 lw_privs_2 lw_privs_3 lw_privs_4 lw_privs_5; exact List.mem_of_getElem? (i := 18) rfl)
theorem qs_yX3_countAheadOf : Cond.selects RX3 yX3_countAheadOf yX3_countAheadOf ∈ lw_all := lw_sel (n := 13) (by unfold lw_privs lw_privs_1 lw_privs_2 lw_privs_3 lw_privs_4 lw_privs_5; exact List.mem_of_getElem? (i := 19) rfl)
theorem qs_yX3_sortKey : Cond.selects RX3 yX3_sortKey yX3_sortKey ∈ lw_all := lw_sel (n := 13) (by unfold lw_privs lw_privs_1 lw_privs_2 lw_privs_3 lw_privs_4 lw_privs_5; exact List.mem_of_getElem? (i := 20) rfl)
theorem qs_yX7_fails : Cond.selects RX7 yX7_fails yX7_fails ∈ lw_all := lw_sel (n := 18) (by unfold lw_privs lw_privs_1 lw_privs_2 lw_privs_3 lw_privs_4 lw_privs_5; exact List.mem_of_getElem? (i := 21) rfl)
theorem qs_yX7_save : Cond.selects RX7 yX7_save yX7_save ∈ lw_all := lw_sel (n := 18) (by unfold lw_privs lw_privs_1 lw_privs_2 lw_privs_3 lw_privs_4 lw_privs_5; exact List.mem_of_getElem? (i := 22) rfl)
theorem qs_yX7_add : Cond.selects RX7 yX7_add yX7_add ∈ lw_all := lw_sel (n := 18) (by unfold lw_privs lw_privs_1 lw_privs_2 lw_privs_3 lw_privs_4 lw_privs_5; exact List.mem_of_getElem? (i := 23) rfl)
theorem qs_yX7_put : Cond.selects RX7 yX7_put yX7_put ∈ lw_all := lw_sel (n := 18) (by unfold lw_privs lw_privs_1 lw_privs_2 lw_privs_3 lw_privs_4 lw_privs_5; exact List.mem_of_getElem? (i := 24) rfl)
theorem qs_yX7_pass : Cond.selects RX7 yX7_pass yX7_pass ∈ lw_all := lw_sel (n := 18) (by unfold lw_privs lw_privs_1 lw_privs_2 lw_privs_3 lw_privs_4 lw_privs_5; exact List.mem_of_getElem? (i := 25) rfl)
theorem qs_yX7_mean : Cond.selects RX7 yX7_mean yX7_mean ∈ lw_all := lw_sel (n := 18) (by unfold lw_privs lw_privs_1 lw_privs_2 lw_privs_3 lw_privs_4 lw_privs_5; exact List.mem_of_getElem? (i := 26) rfl)
theorem qs_yX7_isAsked : Cond.selects RX7 yX7_isAsked yX7_isAsked ∈ lw_all := lw_sel (n := 18) (by unfold lw_privs lw_privs_1 lw_privs_2 lw_privs_3 lw_privs_4 lw_privs_5; exact List.mem_of_getElem? (i := 27) rfl)
theorem qs_yX7_of : Cond.selects RX7 yX7_of yX7_of ∈ lw_all := lw_sel (n := 18) (by unfold lw_privs lw_privs_1 lw_privs_2 lw_privs_3 lw_privs_4 lw_privs_5; exact List.mem_of_getElem? (i := 28) rfl)
theorem qs_yX7_mended : Cond.selects RX7 yX7_mended yX7_mended ∈ lw_all := lw_sel (n := 18) (by unfold lw_privs lw_privs_1 lw_privs_2 lw_privs_3 lw_privs_4 lw_privs_5; exact List.mem_of_getElem? (i := 29) rfl)
theorem qs_yX7_mendedBy : Cond.selects RX7 yX7_mendedBy yX7_mendedBy ∈ lw_all := lw_sel (n := 18) (by unfold lw_privs lw_privs_1 lw_privs_2 lw_privs_3 lw_privs_4 lw_privs_5; exact List.mem_of_getElem? (i := 30) rfl)
theorem qs_yX7_follow : Cond.selects RX7 yX7_follow yX7_follow ∈ lw_all := lw_sel (n := 18) (by unfold lw_privs lw_privs_1 lw_privs_2 lw_privs_3 lw_privs_4 lw_privs_5; exact List.mem_of_getElem? (i := 31) rfl)
theorem qs_yX7_changeOf : Cond.selects RX7 yX7_changeOf yX7_changeOf ∈ lw_all := lw_sel (n := 18) (by unfold lw_privs lw_privs_1 lw_privs_2 lw_privs_3 lw_privs_4 lw_privs_5; exact List.mem_of_getElem? (i := 32) rfl)
theorem qs_yX7_readRows : Cond.selects RX7 yX7_readRows yX7_readRows ∈ lw_all := lw_sel (n := 18) (by unfold lw_privs lw_privs_1 lw_privs_2 lw_privs_3 lw_privs_4 lw_privs_5; exact List.mem_of_getElem? (i := 33) rfl)
theorem qs_yX7_isDue : Cond.selects RX7 yX7_isDue yX7_isDue ∈ lw_all := lw_sel (n := 18) (by unfold lw_privs lw_privs_1 lw_privs_2 lw_privs_3 lw_privs_4 lw_privs_5; exact List.mem_of_getElem? (i := 34) rfl)
theorem qs_yX7_read : Cond.selects RX7 yX7_read yX7_read ∈ lw_all := lw_sel (n := 18) (by unfold lw_privs lw_privs_1 lw_privs_2 lw_privs_3 lw_privs_4 lw_privs_5; exact List.mem_of_getElem? (i := 35) rfl)
theorem qs_yX7_lookForSpikes : Cond.selects RX7 yX7_lookForSpikes yX7_lookForSpikes ∈ lw_all := lw_sel (n := 18) (by unfold lw_privs lw_privs_1 lw_privs_2 lw_privs_3 lw_privs_4 lw_privs_5; exact List.mem_of_getElem? (i := 36) rfl)
theorem qs_yX7_compare : Cond.selects RX7 yX7_compare yX7_compare ∈ lw_all := lw_sel (n := 18) (by unfold lw_privs lw_privs_1 lw_privs_2 lw_privs_3 lw_privs_4 lw_privs_5; exact List.mem_of_getElem? (i := 37) rfl)
theorem qs_yX7_middleWithout : Cond.selects RX7 yX7_middleWithout yX7_middleWithout ∈ lw_all := lw_sel (n := 18) (by unfold lw_privs lw_privs_1 lw_privs_2 lw_privs_3 lw_privs_4 lw_privs_5; exact List.mem_of_getElem? (i := 38) rfl)
theorem qs_yX7_sortIn : Cond.selects RX7 yX7_sortIn yX7_sortIn ∈ lw_all := lw_sel (n := 18) (by unfold lw_privs lw_privs_1 lw_privs_2 lw_privs_3 lw_privs_4 lw_privs_5; exact List.mem_of_getElem? (i := 39) rfl)
theorem qs_yX7_periodNow : Cond.selects RX7 yX7_periodNow yX7_periodNow ∈ lw_all := lw_sel (n := 18) (by unfold lw_privs lw_privs_1 lw_privs_2 lw_privs_3 lw_privs_4 lw_privs_5; exact List.mem_of_getElem? (i := 40) rfl)
theorem qs_yX7_is : Cond.selects RX7 yX7_is yX7_is ∈ lw_all := lw_sel (n := 18) (by unfold lw_privs lw_privs_1 lw_privs_2 lw_privs_3 lw_privs_4 lw_privs_5; exact List.mem_of_getElem? (i := 41) rfl)
theorem qs_yX7_calibrateNow : Cond.selects RX7 yX7_calibrateNow yX7_calibrateNow ∈ lw_all := lw_sel (n := 18) (by unfold lw_privs lw_privs_1 lw_privs_2 lw_privs_3 lw_privs_4 lw_privs_5; exact List.mem_of_getElem? (i := 42) rfl)
theorem qs_yX7_isComplete : Cond.selects RX7 yX7_isComplete yX7_isComplete ∈ lw_all := lw_sel (n := 18) (by unfold lw_privs lw_privs_1 lw_privs_2 lw_privs_3 lw_privs_4 lw_privs_5; exact List.mem_of_getElem? (i := 43) rfl)
theorem qs_yX7_readOrder : Cond.selects RX7 yX7_readOrder yX7_readOrder ∈ lw_all := lw_sel (n := 18) (by unfold lw_privs lw_privs_1 lw_privs_2 lw_privs_3 lw_privs_4 lw_privs_5; exact List.mem_of_getElem? (i := 44) rfl)
theorem qs_yX7_readNew : Cond.selects RX7 yX7_readNew yX7_readNew ∈ lw_all := lw_sel (n := 18) (by unfold lw_privs lw_privs_1 lw_privs_2 lw_privs_3 lw_privs_4 lw_privs_5; exact List.mem_of_getElem? (i := 45) rfl)
theorem qs_yX7_takes : Cond.selects RX7 yX7_takes yX7_takes ∈ lw_all := lw_sel (n := 18) (by unfold lw_privs lw_privs_1 lw_privs_2 lw_privs_3 lw_privs_4 lw_privs_5; exact List.mem_of_getElem? (i := 46) rfl)
theorem qs_yX7_digit : Cond.selects RX7 yX7_digit yX7_digit ∈ lw_all := lw_sel (n := 18) (by unfold lw_privs lw_privs_1 lw_privs_2 lw_privs_3 lw_privs_4 lw_privs_5; exact List.mem_of_getElem? (i := 47) rfl)
theorem qs_yX7_readDegrees : Cond.selects RX7 yX7_readDegrees yX7_readDegrees ∈ lw_all := lw_sel (n := 18) (by unfold lw_privs lw_privs_1 lw_privs_2 lw_privs_3 lw_privs_4 lw_privs_5; exact List.mem_of_getElem? (i := 48) rfl)
theorem qs_yX7_readPeriod : Cond.selects RX7 yX7_readPeriod yX7_readPeriod ∈ lw_all := lw_sel (n := 18) (by unfold lw_privs lw_privs_1 lw_privs_2 lw_privs_3 lw_privs_4 lw_privs_5; exact List.mem_of_getElem? (i := 49) rfl)
theorem qs_yX7_readCalibrated : Cond.selects RX7 yX7_readCalibrated yX7_readCalibrated ∈ lw_all := lw_sel (n := 18) (by unfold lw_privs lw_privs_1 lw_privs_2 lw_privs_3 lw_privs_4 lw_privs_5; exact List.mem_of_getElem? (i := 50) rfl)
theorem qs_yX7_canDo : Cond.selects RX7 yX7_canDo yX7_canDo ∈ lw_all := lw_sel (n := 18) (by unfold lw_privs lw_privs_1 lw_privs_2 lw_privs_3 lw_privs_4 lw_privs_5; exact List.mem_of_getElem? (i := 51) rfl)
theorem qs_yX7_doOrder : Cond.selects RX7 yX7_doOrder yX7_doOrder ∈ lw_all := lw_sel (n := 18) (by unfold lw_privs lw_privs_1 lw_privs_2 lw_privs_3 lw_privs_4 lw_privs_5; exact List.mem_of_getElem? (i := 52) rfl)
theorem qs_yX7_ofRow : Cond.selects RX7 yX7_ofRow yX7_ofRow ∈ lw_all := lw_sel (n := 18) (by unfold lw_privs lw_privs_1 lw_privs_2 lw_privs_3 lw_privs_4 lw_privs_5; exact List.mem_of_getElem? (i := 53) rfl)
theorem qs_yX7_inRow : Cond.selects RX7 yX7_inRow yX7_inRow ∈ lw_all := lw_sel (n := 18) (by unfold lw_privs lw_privs_1 lw_privs_2 lw_privs_3 lw_privs_4 lw_privs_5; exact List.mem_of_getElem? (i := 54) rfl)
theorem qs_yX7_number : Cond.selects RX7 yX7_number yX7_number ∈ lw_all := lw_sel (n := 18) (by unfold lw_privs lw_privs_1 lw_privs_2 lw_privs_3 lw_privs_4 lw_privs_5; exact List.mem_of_getElem? (i := 55) rfl)
theorem qs_yX7_asked : Cond.selects RX7 yX7_asked yX7_asked ∈ lw_all := lw_sel (n := 18) (by unfold lw_privs lw_privs_1 lw_privs_2 lw_privs_3 lw_privs_4 lw_privs_5; exact List.mem_of_getElem? (i := 56) rfl)
theorem qs_yX7_shutOut : Cond.selects RX7 yX7_shutOut yX7_shutOut ∈ lw_all := lw_sel (n := 18) (by unfold lw_privs lw_privs_1 lw_privs_2 lw_privs_3 lw_privs_4 lw_privs_5; exact List.mem_of_getElem? (i := 57) rfl)
theorem qs_yX7_slope : Cond.selects RX7 yX7_slope yX7_slope ∈ lw_all := lw_sel (n := 18) (by unfold lw_privs lw_privs_1 lw_privs_2 lw_privs_3 lw_privs_4 lw_privs_5; exact List.mem_of_getElem? (i := 58) rfl)
theorem qs_yX7_ofRank : Cond.selects RX7 yX7_ofRank yX7_ofRank ∈ lw_all := lw_sel (n := 18) (by unfold lw_privs lw_privs_1 lw_privs_2 lw_privs_3 lw_privs_4 lw_privs_5; exact List.mem_of_getElem? (i := 59) rfl)
theorem qs_yX7_key : Cond.selects RX7 yX7_key yX7_key ∈ lw_all := lw_sel (n := 18) (by unfold lw_privs lw_privs_1 lw_privs_2 lw_privs_3 lw_privs_4 lw_privs_5; exact List.mem_of_getElem? (i := 60) rfl)
theorem qs_yX7_off : Cond.selects RX7 yX7_off yX7_off ∈ lw_all := lw_sel (n := 18) (by unfold lw_privs lw_privs_1 lw_privs_2 lw_privs_3 lw_privs_4 lw_privs_5; exact List.mem_of_getElem? (i := 61) rfl)
theorem qs_yX7_best : Cond.selects RX7 yX7_best yX7_best ∈ lw_all := lw_sel (n := 18) (by unfold lw_privs lw_privs_1 lw_privs_2 lw_privs_3 lw_privs_4 lw_privs_5; exact List.mem_of_getElem? (i := 62) rfl)
theorem qs_yX7_behind : Cond.selects RX7 yX7_behind yX7_behind ∈ lw_all := lw_sel (n := 18) (by unfold lw_privs lw_privs_1 lw_privs_2 lw_privs_3 lw_privs_4 lw_privs_5; exact List.mem_of_getElem? (i := 63) rfl)
theorem qs_yX7_widest : Cond.selects RX7 yX7_widest yX7_widest ∈ lw_all := lw_sel (n := 18) (by unfold lw_privs lw_privs_1 lw_privs_2 lw_privs_3 lw_privs_4 lw_privs_5; exact List.mem_of_getElem? (i := 64) rfl)
theorem qu_0 : ∀ w ∈ u_ws RX0 TX0 2, w ∈ lw_all := by
  intro w h
  have e : u_ws RX0 TX0 2 = [u_lay RX0 TX0 0, u_lay RX0 TX0 1] := rfl
  rw [e] at h
  simp only [List.mem_cons, List.not_mem_nil, or_false] at h
  rcases h with rfl | rfl
  · exact lw_c0 (List.mem_of_getElem? (i := 92) (by decide +kernel)) rfl
  · exact lw_c0 (List.mem_of_getElem? (i := 94) (by decide +kernel)) rfl
theorem qu_1 : ∀ w ∈ u_ws RX1 TX1 4, w ∈ lw_all := by
  intro w h
  have e : u_ws RX1 TX1 4 = [u_lay RX1 TX1 0, u_lay RX1 TX1 1, u_lay RX1 TX1 2, u_lay RX1 TX1 3] := rfl
  rw [e] at h
  simp only [List.mem_cons, List.not_mem_nil, or_false] at h
  rcases h with rfl | rfl | rfl | rfl
  · exact lw_c0 (List.mem_of_getElem? (i := 159) (by decide +kernel)) rfl
  · exact lw_c0 (List.mem_of_getElem? (i := 161) (by decide +kernel)) rfl
  · exact lw_c0 (List.mem_of_getElem? (i := 163) (by decide +kernel)) rfl
  · exact lw_c0 (List.mem_of_getElem? (i := 165) (by decide +kernel)) rfl
theorem qu_2 : ∀ w ∈ u_ws RX2 TX2 8, w ∈ lw_all := by
  intro w h
  have e : u_ws RX2 TX2 8 = [u_lay RX2 TX2 0, u_lay RX2 TX2 1, u_lay RX2 TX2 2, u_lay RX2 TX2 3, u_lay RX2 TX2 4, u_lay RX2 TX2 5, u_lay RX2 TX2 6, u_lay RX2 TX2 7] := rfl
  rw [e] at h
  simp only [List.mem_cons, List.not_mem_nil, or_false] at h
  rcases h with rfl | rfl | rfl | rfl | rfl | rfl | rfl | rfl
  · exact lw_c0 (List.mem_of_getElem? (i := 204) (by decide +kernel)) rfl
  · exact lw_c0 (List.mem_of_getElem? (i := 206) (by decide +kernel)) rfl
  · exact lw_c0 (List.mem_of_getElem? (i := 208) (by decide +kernel)) rfl
  · exact lw_c0 (List.mem_of_getElem? (i := 210) (by decide +kernel)) rfl
  · exact lw_c0 (List.mem_of_getElem? (i := 212) (by decide +kernel)) rfl
  · exact lw_c0 (List.mem_of_getElem? (i := 214) (by decide +kernel)) rfl
  · exact lw_c0 (List.mem_of_getElem? (i := 216) (by decide +kernel)) rfl
  · exact lw_c0 (List.mem_of_getElem? (i := 218) (by decide +kernel)) rfl
theorem qu_3 : ∀ w ∈ u_ws RX3 TX3 13, w ∈ lw_all := by
  intro w h
  have e : u_ws RX3 TX3 13 = [u_lay RX3 TX3 0, u_lay RX3 TX3 1, u_lay RX3 TX3 2, u_lay RX3 TX3 3, u_lay RX3 TX3 4, u_lay RX3 TX3 5, u_lay RX3 TX3 6, u_lay RX3 TX3 7, u_lay RX3 TX3 8, u_lay RX3 TX3 9, u_lay RX3 TX3 10, u_lay RX3 TX3 11, u_lay RX3 TX3 12] := rfl
  rw [e] at h
  simp only [List.mem_cons, List.not_mem_nil, or_false] at h
  rcases h with rfl | rfl | rfl | rfl | rfl | rfl | rfl | rfl | rfl | rfl | rfl | rfl | rfl
  · exact lw_c0 (List.mem_of_getElem? (i := 118) (by decide +kernel)) rfl
  · exact lw_c0 (List.mem_of_getElem? (i := 120) (by decide +kernel)) rfl
  · exact lw_c0 (List.mem_of_getElem? (i := 122) (by decide +kernel)) rfl
  · exact lw_c0 (List.mem_of_getElem? (i := 124) (by decide +kernel)) rfl
  · exact lw_c0 (List.mem_of_getElem? (i := 126) (by decide +kernel)) rfl
  · exact lw_c0 (List.mem_of_getElem? (i := 128) (by decide +kernel)) rfl
  · exact lw_c0 (List.mem_of_getElem? (i := 130) (by decide +kernel)) rfl
  · exact lw_c0 (List.mem_of_getElem? (i := 132) (by decide +kernel)) rfl
  · exact lw_c0 (List.mem_of_getElem? (i := 134) (by decide +kernel)) rfl
  · exact lw_c0 (List.mem_of_getElem? (i := 136) (by decide +kernel)) rfl
  · exact lw_c0 (List.mem_of_getElem? (i := 138) (by decide +kernel)) rfl
  · exact lw_c0 (List.mem_of_getElem? (i := 140) (by decide +kernel)) rfl
  · exact lw_c0 (List.mem_of_getElem? (i := 142) (by decide +kernel)) rfl
theorem qu_4 : ∀ w ∈ u_ws RX4 TX4 2, w ∈ lw_all := by
  intro w h
  have e : u_ws RX4 TX4 2 = [u_lay RX4 TX4 0, u_lay RX4 TX4 1] := rfl
  rw [e] at h
  simp only [List.mem_cons, List.not_mem_nil, or_false] at h
  rcases h with rfl | rfl
  · exact lw_c0 (List.mem_of_getElem? (i := 180) (by decide +kernel)) rfl
  · exact lw_c0 (List.mem_of_getElem? (i := 182) (by decide +kernel)) rfl
theorem qu_5 : ∀ w ∈ u_ws RX5 TX5 12, w ∈ lw_all := by
  intro w h
  have e : u_ws RX5 TX5 12 = [u_lay RX5 TX5 0, u_lay RX5 TX5 1, u_lay RX5 TX5 2, u_lay RX5 TX5 3, u_lay RX5 TX5 4, u_lay RX5 TX5 5, u_lay RX5 TX5 6, u_lay RX5 TX5 7, u_lay RX5 TX5 8, u_lay RX5 TX5 9, u_lay RX5 TX5 10, u_lay RX5 TX5 11] := rfl
  rw [e] at h
  simp only [List.mem_cons, List.not_mem_nil, or_false] at h
  rcases h with rfl | rfl | rfl | rfl | rfl | rfl | rfl | rfl | rfl | rfl | rfl | rfl
  · exact lw_c0 (List.mem_of_getElem? (i := 58) (by decide +kernel)) rfl
  · exact lw_c0 (List.mem_of_getElem? (i := 60) (by decide +kernel)) rfl
  · exact lw_c0 (List.mem_of_getElem? (i := 62) (by decide +kernel)) rfl
  · exact lw_c0 (List.mem_of_getElem? (i := 64) (by decide +kernel)) rfl
  · exact lw_c0 (List.mem_of_getElem? (i := 66) (by decide +kernel)) rfl
  · exact lw_c0 (List.mem_of_getElem? (i := 68) (by decide +kernel)) rfl
  · exact lw_c0 (List.mem_of_getElem? (i := 70) (by decide +kernel)) rfl
  · exact lw_c0 (List.mem_of_getElem? (i := 72) (by decide +kernel)) rfl
  · exact lw_c0 (List.mem_of_getElem? (i := 74) (by decide +kernel)) rfl
  · exact lw_c0 (List.mem_of_getElem? (i := 76) (by decide +kernel)) rfl
  · exact lw_c0 (List.mem_of_getElem? (i := 78) (by decide +kernel)) rfl
  · exact lw_c0 (List.mem_of_getElem? (i := 80) (by decide +kernel)) rfl
theorem qu_6 : ∀ w ∈ u_ws RX6 TX6 6, w ∈ lw_all := by
  intro w h
  have e : u_ws RX6 TX6 6 = [u_lay RX6 TX6 0, u_lay RX6 TX6 1, u_lay RX6 TX6 2, u_lay RX6 TX6 3, u_lay RX6 TX6 4, u_lay RX6 TX6 5] := rfl
  rw [e] at h
  simp only [List.mem_cons, List.not_mem_nil, or_false] at h
  rcases h with rfl | rfl | rfl | rfl | rfl | rfl
  · exact lw_c0 (List.mem_of_getElem? (i := 228) (by decide +kernel)) rfl
  · exact lw_c0 (List.mem_of_getElem? (i := 230) (by decide +kernel)) rfl
  · exact lw_c0 (List.mem_of_getElem? (i := 232) (by decide +kernel)) rfl
  · exact lw_c0 (List.mem_of_getElem? (i := 234) (by decide +kernel)) rfl
  · exact lw_c0 (List.mem_of_getElem? (i := 236) (by decide +kernel)) rfl
  · exact lw_c0 (List.mem_of_getElem? (i := 238) (by decide +kernel)) rfl
theorem qu_7 : ∀ w ∈ u_ws RX7 TX7 18, w ∈ lw_all := by
  intro w h
  have e : u_ws RX7 TX7 18 = [u_lay RX7 TX7 0, u_lay RX7 TX7 1, u_lay RX7 TX7 2, u_lay RX7 TX7 3, u_lay RX7 TX7 4, u_lay RX7 TX7 5, u_lay RX7 TX7 6, u_lay RX7 TX7 7, u_lay RX7 TX7 8, u_lay RX7 TX7 9, u_lay RX7 TX7 10, u_lay RX7 TX7 11, u_lay RX7 TX7 12, u_lay RX7 TX7 13, u_lay RX7 TX7 14, u_lay RX7 TX7 15, u_lay RX7 TX7 16, u_lay RX7 TX7 17] := rfl
  rw [e] at h
  simp only [List.mem_cons, List.not_mem_nil, or_false] at h
  rcases h with rfl | rfl | rfl | rfl | rfl | rfl | rfl | rfl | rfl | rfl | rfl | rfl | rfl | rfl | rfl | rfl | rfl | rfl
  · exact lw_c3 (List.mem_of_getElem? (i := 169) (by decide +kernel)) rfl
  · exact lw_c3 (List.mem_of_getElem? (i := 171) (by decide +kernel)) rfl
  · exact lw_c3 (List.mem_of_getElem? (i := 173) (by decide +kernel)) rfl
  · exact lw_c3 (List.mem_of_getElem? (i := 175) (by decide +kernel)) rfl
  · exact lw_c3 (List.mem_of_getElem? (i := 177) (by decide +kernel)) rfl
  · exact lw_c3 (List.mem_of_getElem? (i := 179) (by decide +kernel)) rfl
  · exact lw_c3 (List.mem_of_getElem? (i := 181) (by decide +kernel)) rfl
  · exact lw_c3 (List.mem_of_getElem? (i := 183) (by decide +kernel)) rfl
  · exact lw_c3 (List.mem_of_getElem? (i := 185) (by decide +kernel)) rfl
  · exact lw_c3 (List.mem_of_getElem? (i := 187) (by decide +kernel)) rfl
  · exact lw_c3 (List.mem_of_getElem? (i := 189) (by decide +kernel)) rfl
  · exact lw_c3 (List.mem_of_getElem? (i := 191) (by decide +kernel)) rfl
  · exact lw_c3 (List.mem_of_getElem? (i := 193) (by decide +kernel)) rfl
  · exact lw_c3 (List.mem_of_getElem? (i := 195) (by decide +kernel)) rfl
  · exact lw_c3 (List.mem_of_getElem? (i := 197) (by decide +kernel)) rfl
  · exact lw_c3 (List.mem_of_getElem? (i := 199) (by decide +kernel)) rfl
  · exact lw_c3 (List.mem_of_getElem? (i := 201) (by decide +kernel)) rfl
  · exact lw_c3 (List.mem_of_getElem? (i := 203) (by decide +kernel)) rfl
def nestL : List (String × Nat × MethodName × String) := [(RX3, 17, yX5_init, RX6), (RX3, 31, yX0_init, RX6), (RX6, 28, yX4_init, RX6), (RX6, 38, yX2_init, RX6), (RX5, 55, yX6_copyInto, RX6), (RX3, 61, yX6_copyInto, RX6), (RX3, 173, yX6_quotient, RX6), (RX5, 63, yX6_quotient, RX6), (RX3, 78, yX6_entry, RX6), (RX3, 86, yX6_remainder, RX6), (RX5, 67, yX6_putFirst, RX6), (RX5, 80, yX6_entry, RX6)]
def nestW (q : String × Nat × MethodName × String) : Cond := .methodLinkNest q.1 q.2.1 q.2.2.1 q.2.2.2
theorem ql_RX3_17 : (RX3, 17, yX5_init, RX6) ∈ nestL := List.mem_of_getElem? (i := 0) rfl
theorem ql_RX3_31 : (RX3, 31, yX0_init, RX6) ∈ nestL := List.mem_of_getElem? (i := 1) rfl
theorem ql_RX6_28 : (RX6, 28, yX4_init, RX6) ∈ nestL := List.mem_of_getElem? (i := 2) rfl
theorem ql_RX6_38 : (RX6, 38, yX2_init, RX6) ∈ nestL := List.mem_of_getElem? (i := 3) rfl
theorem ql_RX5_55 : (RX5, 55, yX6_copyInto, RX6) ∈ nestL := List.mem_of_getElem? (i := 4) rfl
theorem ql_RX3_61 : (RX3, 61, yX6_copyInto, RX6) ∈ nestL := List.mem_of_getElem? (i := 5) rfl
theorem ql_RX3_173 : (RX3, 173, yX6_quotient, RX6) ∈ nestL := List.mem_of_getElem? (i := 6) rfl
theorem ql_RX5_63 : (RX5, 63, yX6_quotient, RX6) ∈ nestL := List.mem_of_getElem? (i := 7) rfl
theorem ql_RX3_78 : (RX3, 78, yX6_entry, RX6) ∈ nestL := List.mem_of_getElem? (i := 8) rfl
theorem ql_RX3_86 : (RX3, 86, yX6_remainder, RX6) ∈ nestL := List.mem_of_getElem? (i := 9) rfl
theorem ql_RX5_67 : (RX5, 67, yX6_putFirst, RX6) ∈ nestL := List.mem_of_getElem? (i := 10) rfl
theorem ql_RX5_80 : (RX5, 80, yX6_entry, RX6) ∈ nestL := List.mem_of_getElem? (i := 11) rfl
theorem nest_tbl : ∀ q ∈ nestL, nestW q ∈ lw_tbl := by
  have key : ∀ j, j < nestL.length → ∃ q, nestL[j]? = some q ∧ nestW q ∈ lw_tbl := by
    intro j hj
    have hj : j < 12 := hj
    match j, hj with
    | 0, _ => exact ⟨_, rfl, lw_n0 (List.mem_of_getElem? (i := 34) (by decide +kernel))⟩
    | 1, _ => exact ⟨_, rfl, lw_n0 (List.mem_of_getElem? (i := 86) (by decide +kernel))⟩
    | 2, _ => exact ⟨_, rfl, lw_n0 (List.mem_of_getElem? (i := 170) (by decide +kernel))⟩
    | 3, _ => exact ⟨_, rfl, lw_n0 (List.mem_of_getElem? (i := 187) (by decide +kernel))⟩
    | 4, _ => exact ⟨_, rfl, lw_n1 (List.mem_of_getElem? (i := 218) (by decide +kernel))⟩
    | 5, _ => exact ⟨_, rfl, lw_n1 (List.mem_of_getElem? (i := 221) (by decide +kernel))⟩
    | 6, _ => exact ⟨_, rfl, lw_n2 (List.mem_of_getElem? (i := 25) (by decide +kernel))⟩
    | 7, _ => exact ⟨_, rfl, lw_n2 (List.mem_of_getElem? (i := 36) (by decide +kernel))⟩
    | 8, _ => exact ⟨_, rfl, lw_n2 (List.mem_of_getElem? (i := 49) (by decide +kernel))⟩
    | 9, _ => exact ⟨_, rfl, lw_n2 (List.mem_of_getElem? (i := 53) (by decide +kernel))⟩
    | 10, _ => exact ⟨_, rfl, lw_n2 (List.mem_of_getElem? (i := 60) (by decide +kernel))⟩
    | 11, _ => exact ⟨_, rfl, lw_n2 (List.mem_of_getElem? (i := 68) (by decide +kernel))⟩
    | k + 12, h => exact absurd h (by omega)
  intro q hq
  obtain ⟨j, hj⟩ := List.getElem?_of_mem hq
  obtain ⟨q2, h1, h2⟩ := key j (List.getElem?_eq_some_iff.mp hj).1
  rw [hj] at h1
  cases h1
  exact h2
end
section
abbrev vwCl : List vw_C := [(RX0, TX0, 2), (RX1, TX1, 4), (RX2, TX2, 8), (RX3, TX3, 13), (RX4, TX4, 2), (RX5, TX5, 12), (RX6, TX6, 6), (RX7, TX7, 18)]
/-! THE MEMORY: every number of every object and array, by (kind, place, thermometer, slot). Kinds: 0 Ascending, 1 History, 2 OrderText, 3 Place, 4 Snapshot, 5 Thermometer, 6 its readingHours, 7 its readingValues, 8 numbers, 9 states, 10 characters, 11 thermometers, 12 periods, 13 timesRead, 14 LateThermometers, 15 LateThermometersModel, 16 row, 17 saved, 18 snapshots, 19 isKept, 20 aside, 21 sorted, 22 isCompared, 23 buffer, 24 letter, 25 one, 26 two, 27 three, 28 the law's out. Places: 0 now, 1 trial, 2..7 the history's, 8 its spare, 9 and 10 the snapshots'. -/
abbrev Mem : Type := Nat → Nat → Nat → Nat → Int32
abbrev Adr : Type := Nat → Nat → Nat → Nat
def uc (S : Mem) (t P i : Nat) (f : Nat → Int32) : Mem := fun t' P' i' => if t' = t ∧ P' = P ∧ i' = i then f else S t' P' i'
theorem uc_same (S : Mem) (t P i : Nat) (f : Nat → Int32) : uc S t P i f t P i = f := if_pos ⟨rfl, rfl, rfl⟩
theorem uc_ne {S : Mem} {t P i t' P' i' : Nat} {f : Nat → Int32} (h : ¬ (t' = t ∧ P' = P ∧ i' = i)) : uc S t P i f t' P' i' = S t' P' i' := if_neg h
abbrev fs0 (ad : Adr) (P i : Nat) (f : Nat → Int32) : List Value := [.ref (ad 8 P 0), .int (f 1)]
abbrev fs1 (ad : Adr) (P i : Nat) (f : Nat → Int32) : List Value := [.ref (ad 9 0 0), .ref (ad 3 8 0), .int (f 2), .int (f 3)]
abbrev fs2 (ad : Adr) (P i : Nat) (f : Nat → Int32) : List Value := [.ref (ad 10 0 0), .int (f 1), .int (f 2), .int (f 3), .int (f 4), .int (f 5), .int (f 6), .int (f 7)]
abbrev fs3 (ad : Adr) (P i : Nat) (f : Nat → Int32) : List Value := [.ref (ad 11 P 0), .ref (ad 5 P 10), .ref (ad 12 P 0), .ref (ad 13 P 0), .ref (ad 0 P 0), .int (f 5), .int (f 6), .int (f 7), .int (f 8), .int (f 9), .int (f 10), .int (f 11), .int (f 12)]
abbrev fs4 (ad : Adr) (P i : Nat) (f : Nat → Int32) : List Value := [.ref (ad 3 (9 + P) 0), .int (f 1)]
abbrev fs5 (ad : Adr) (P i : Nat) (f : Nat → Int32) : List Value := [.ref (ad 6 P i), .ref (ad 7 P i), .int (f 2), .int (f 3), .int (f 4), .int (f 5), .int (f 6), .int (f 7), .int (f 8), .int (f 9), .int (f 10), .int (f 11)]
abbrev fs14 (ad : Adr) (P i : Nat) (f : Nat → Int32) : List Value := [.ref (ad 3 0 0), .ref (ad 3 1 0), .ref (ad 1 0 0), .ref (ad 4 0 0), .ref (ad 4 1 0), .ref (ad 2 0 0)]
abbrev fs15 (ad : Adr) (P i : Nat) (f : Nat → Int32) : List Value := [.ref (ad 16 0 0), .ref (ad 17 0 0), .int (f 2), .ref (ad 18 0 0), .ref (ad 19 0 0), .ref (ad 20 0 0), .int (f 6), .ref (ad 21 0 0), .int (f 8), .ref (ad 22 0 0), .ref (ad 23 0 0), .int (f 11), .int (f 12), .int (f 13), .ref (ad 24 0 0), .ref (ad 25 0 0), .ref (ad 26 0 0), .ref (ad 27 0 0)]
def cI (ad : Adr) (cy : Nat → ClassId) (t P i : Nat) (f : Nat → Int32) : va_E := match t with
  | 0 => .inr (0, fs0 ad P i f)
  | 1 => .inr (1, fs1 ad P i f)
  | 2 => .inr (2, fs2 ad P i f)
  | 3 => .inr (3, fs3 ad P i f)
  | 4 => .inr (4, fs4 ad P i f)
  | 5 => .inr (5, fs5 ad P i f)
  | 6 => .inl (cy 0, 6, .inl f)
  | 7 => .inl (cy 0, 6, .inl f)
  | 8 => .inl (cy 0, 10, .inl f)
  | 9 => .inl (cy 4, 6, .inr (.inr (.inr (.inr (fun j => some (ad 3 (2 + j) 0))))))
  | 10 => .inl (cy 1, 60, .inl f)
  | 11 => .inl (cy 3, 10, .inr (.inr (.inr (.inr (fun j => some (ad 5 P j))))))
  | 12 => .inl (cy 0, 4, .inl f)
  | 13 => .inl (cy 0, 4, .inl f)
  | 14 => .inr (6, fs14 ad P i f)
  | 15 => .inr (7, fs15 ad P i f)
  | 16 => .inl (cy 0, 226, .inl f)
  | 17 => .inl (cy 0, 1356, .inl f)
  | 18 => .inl (cy 0, 452, .inl f)
  | 19 => .inl (cy 2, 2, .inl f)
  | 20 => .inl (cy 0, 226, .inl f)
  | 21 => .inl (cy 0, 10, .inl f)
  | 22 => .inl (cy 2, 10, .inl f)
  | 23 => .inl (cy 0, 60, .inl f)
  | 24 => .inl (cy 0, 30, .inl f)
  | 25 => .inl (cy 0, 30, .inl f)
  | 26 => .inl (cy 0, 30, .inl f)
  | 27 => .inl (cy 0, 30, .inl f)
  | _ => .inl (cy 0, 0, .inl f)
def idl : List (Nat × Nat × Nat) := (List.range 11).flatMap (fun P => (0, P, 0) :: (3, P, 0) :: (8, P, 0) :: (11, P, 0) :: (12, P, 0) :: (13, P, 0) :: (List.range 11).flatMap (fun i => [(5, P, i), (6, P, i), (7, P, i)])) ++ [(1, 0, 0), (2, 0, 0), (4, 0, 0), (4, 1, 0), (9, 0, 0), (10, 0, 0), (14, 0, 0), (15, 0, 0), (16, 0, 0), (17, 0, 0), (18, 0, 0), (19, 0, 0), (20, 0, 0), (21, 0, 0), (22, 0, 0), (23, 0, 0), (24, 0, 0), (25, 0, 0), (26, 0, 0), (27, 0, 0)]
theorem id_P {P : Nat} (h : P < 11) : (0, P, 0) ∈ idl ∧ (3, P, 0) ∈ idl ∧ (8, P, 0) ∈ idl ∧ (11, P, 0) ∈ idl ∧ (12, P, 0) ∈ idl ∧ (13, P, 0) ∈ idl := by
  have key : ∀ k, k ∈ [(0, P, 0), (3, P, 0), (8, P, 0), (11, P, 0), (12, P, 0), (13, P, 0)] → k ∈ idl := fun k hk => List.mem_append_left _ (List.mem_flatMap.mpr ⟨P, List.mem_range.mpr h, by
    simp only [List.mem_cons, List.not_mem_nil, or_false] at hk
    rcases hk with rfl | rfl | rfl | rfl | rfl | rfl <;> simp⟩)
  exact ⟨key _ (by simp), key _ (by simp), key _ (by simp), key _ (by simp), key _ (by simp), key _ (by simp)⟩
theorem id_T {P i : Nat} (h : P < 11 ∧ i < 11) : (5, P, i) ∈ idl ∧ (6, P, i) ∈ idl ∧ (7, P, i) ∈ idl := by
  have key : ∀ k, k ∈ [(5, P, i), (6, P, i), (7, P, i)] → k ∈ idl := fun k hk => List.mem_append_left _ (List.mem_flatMap.mpr ⟨P, List.mem_range.mpr h.1, by
    simp only [List.mem_cons]
    exact Or.inr (Or.inr (Or.inr (Or.inr (Or.inr (Or.inr (List.mem_flatMap.mpr ⟨i, List.mem_range.mpr h.2, by simpa using hk⟩))))))⟩)
  exact ⟨key _ (by simp), key _ (by simp), key _ (by simp)⟩
def wd (ad : Adr) (cy : Nat → ClassId) (o : Nat → Int64) (S : Mem) : va_W := (ad 28 0 0, .inl (cy 5, 1, .inr (.inl o))) :: idl.map (fun k => (ad k.1 k.2.1 k.2.2, cI ad cy k.1 k.2.1 k.2.2 (S k.1 k.2.1 k.2.2)))
theorem wd_get {ad : Adr} {cy : Nat → ClassId} {o : Nat → Int64} {S : Mem} {t P i : Nat} (h : (t, P, i) ∈ idl) : ∃ k : Nat, (wd ad cy o S)[k + 1]? = some (ad t P i, cI ad cy t P i (S t P i)) ∧ idl[k]? = some (t, P, i) := by
  obtain ⟨k, hk⟩ := List.getElem?_of_mem h
  refine ⟨k, ?_, hk⟩
  show (idl.map _)[k]? = _
  rw [List.getElem?_map, hk]
  rfl
theorem wd_set {A : Nat → Prop} {ad : Adr} {cy : Nat → ClassId} {o : Nat → Int64} {S : Mem} {t P i k : Nat} (hD : va_D A (wd ad cy o S)) (hk : idl[k]? = some (t, P, i)) (f : Nat → Int32) : (wd ad cy o S).set (k + 1) (ad t P i, cI ad cy t P i f) = wd ad cy o (uc S t P i f) := by
  show _ :: (idl.map _).set k _ = _ :: idl.map _
  refine congrArg _ (List.ext_getElem? fun j => ?_)
  rw [List.getElem?_set, List.getElem?_map, List.getElem?_map]
  by_cases h : k = j
  · subst h
    have hl : k < idl.length := (List.getElem?_eq_some_iff.mp hk).1
    rw [if_pos rfl, hk, List.length_map, if_pos hl]
    show some (ad t P i, cI ad cy t P i f) = some (ad t P i, cI ad cy t P i (uc S t P i f t P i))
    rw [uc_same]
  · rw [if_neg h]
    cases hq : idl[j]? with
    | none => rfl
    | some q =>
      show some (ad q.1 q.2.1 q.2.2, cI ad cy q.1 q.2.1 q.2.2 (S q.1 q.2.1 q.2.2)) = some (ad q.1 q.2.1 q.2.2, cI ad cy q.1 q.2.1 q.2.2 (uc S t P i f q.1 q.2.1 q.2.2))
      rw [uc_ne]
      intro hh
      have e : q = (t, P, i) := by rw [← hh.1, ← hh.2.1, ← hh.2.2]
      subst e
      have h1 : (wd ad cy o S)[k + 1]? = some (ad t P i, cI ad cy t P i (S t P i)) := by
        show (idl.map _)[k]? = _
        rw [List.getElem?_map, hk]; rfl
      have h2 : (wd ad cy o S)[j + 1]? = some (ad t P i, cI ad cy t P i (S t P i)) := by
        show (idl.map _)[j]? = _
        rw [List.getElem?_map, hq]; rfl
      have := hD.1 (k + 1) (j + 1) _ _ h1 h2 rfl
      omega
theorem wd_addr {ad : Adr} {cy : Nat → ClassId} {o o' : Nat → Int64} {S S' : Mem} {k : Nat} {q : Nat × va_E} (h : (wd ad cy o S)[k]? = some q) : ∃ q' : Nat × va_E, (wd ad cy o' S')[k]? = some q' ∧ q'.1 = q.1 := by
  cases k with
  | zero => cases h; exact ⟨_, rfl, rfl⟩
  | succ k =>
    have h' : (idl.map (fun k => (ad k.1 k.2.1 k.2.2, cI ad cy k.1 k.2.1 k.2.2 (S k.1 k.2.1 k.2.2))))[k]? = some q := h
    rw [List.getElem?_map] at h'
    cases hq : idl[k]? with
    | none => rw [hq] at h'; cases h'
    | some z =>
      rw [hq] at h'
      cases h'
      refine ⟨(ad z.1 z.2.1 z.2.2, cI ad cy z.1 z.2.1 z.2.2 (S' z.1 z.2.1 z.2.2)), ?_, rfl⟩
      show (idl.map _)[k]? = _
      rw [List.getElem?_map, hq]; rfl
theorem wd_D {A : Nat → Prop} {ad : Adr} {cy : Nat → ClassId} {o o' : Nat → Int64} {S S' : Mem} (h : va_D A (wd ad cy o S)) : va_D A (wd ad cy o' S') := by
  refine ⟨fun i j p q hp hq e => ?_, fun k q hq => ?_⟩
  · obtain ⟨p', hp', ep⟩ := wd_addr (o' := o) (S' := S) hp
    obtain ⟨q', hq', eq⟩ := wd_addr (o' := o) (S' := S) hq
    exact h.1 i j p' q' hp' hq' (by rw [ep, eq, e])
  · obtain ⟨q', hq', eq⟩ := wd_addr (o' := o) (S' := S) hq
    rw [← eq]
    exact h.2 k q' hq'
abbrev tyK (cy : Nat → ClassId) : List (ClassId × FieldType) := [(cy 0, .int), (cy 1, .char), (cy 2, .boolean), (cy 3, .object "LateThermometers$Thermometer"), (cy 4, .object "LateThermometers$Place"), (cy 5, .long)]
def PW (D : va_G) (ad : Adr) (cy : Nat → ClassId) (A : Nat → Prop) (H0 : Heap) (o : Nat → Int64) (S : Mem) (H : Heap) (locs : List Loc) : Prop := va_P D vwCl (wd ad cy o S) H ∧ va_D A (wd ad cy o S) ∧ va_S A H0 H locs
def AW (ad : Adr) (sz : Nat) : Nat → Prop := fun q => (q = ad 28 0 0 ∨ ∃ t P i, (t, P, i) ∈ idl ∧ q = ad t P i) ∨ sz ≤ q
def NX (U : State) : Prop := ∀ q ∈ nestL, va_Nw (nestW q) U
theorem NX.warm {s U : State} (hW : s.WarmedH U.vm) (h : NX s) : NX U := fun q hq => va_Nw.warmM hW (h q hq)
theorem NX.same {u U : State} (hv : u.vm = U.vm) (h : NX u) : NX U := fun q hq => va_Nw.same rfl hv (h q hq)
def KW (D : va_G) (cy : Nat → ClassId) (s : State) : Prop := va_K D vwCl (tyK cy) s ∧ NX s
theorem KW.warm {D : va_G} {cy : Nat → ClassId} {s U : State} (hW : s.WarmedH U.vm) (h : KW D cy s) : KW D cy U := ⟨va_K.moved hW.alike h.1, NX.warm hW h.2⟩
def PreW (D : va_G) (ad : Adr) (cy : Nat → ClassId) (o : Nat → Int64) (S : Mem) (sz : Nat) (U : State) : Prop := U.heap.size = sz ∧ va_P D vwCl (wd ad cy o S) U.heap ∧ KW D cy U ∧ va_D (fun _ => True) (wd ad cy o S)
theorem AW_D {ad : Adr} {cy : Nat → ClassId} {o : Nat → Int64} {S : Mem} {B : Nat → Prop} {sz : Nat} (h : va_D B (wd ad cy o S)) : va_D (AW ad sz) (wd ad cy o S) := by
  refine ⟨h.1, fun k q hq => Or.inl ?_⟩
  cases k with
  | zero => cases hq; exact Or.inl rfl
  | succ k =>
    have h' : (idl.map (fun k => (ad k.1 k.2.1 k.2.2, cI ad cy k.1 k.2.1 k.2.2 (S k.1 k.2.1 k.2.2))))[k]? = some q := hq
    rw [List.getElem?_map] at h'
    cases hz : idl[k]? with
    | none => rw [hz] at h'; cases h'
    | some z =>
      rw [hz] at h'
      cases h'
      exact Or.inr ⟨z.1, z.2.1, z.2.2, List.mem_of_getElem? hz, rfl⟩
theorem AW_le {ad : Adr} {cy : Nat → ClassId} {o : Nat → Int64} {S : Mem} {A : Nat → Prop} {H0 H : Heap} {locs : List Loc} (hD : va_D A (wd ad cy o S)) (hS : va_S A H0 H locs) (hA : ∀ q, H0.size ≤ q → A q) : ∀ q, AW ad H.size q → A q := by
  intro q hq
  rcases hq with (rfl | ⟨t, P, i, hm, rfl⟩) | hq
  · exact hD.2 0 _ rfl
  · obtain ⟨k, hk, -⟩ := wd_get (ad := ad) (cy := cy) (o := o) (S := S) hm
    exact hD.2 _ _ hk
  · exact hA q (Nat.le_trans hS.1 hq)
theorem PreW_blind {D : va_G} {ad : Adr} {cy : Nat → ClassId} {o : Nat → Int64} {S : Mem} {sz : Nat} {av : List Value} : FrameBlind (va_Pc av (PreW D ad cy o S sz)) := fun a U g mk h => ⟨h.1, h.2.1, h.2.2.1, ⟨va_K.moved (u := U) (U := U.calling g mk a) (Vm.Alike.refl U.vm) h.2.2.2.1.1, NX.same (u := U) (U := U.calling g mk a) rfl h.2.2.2.1.2⟩, h.2.2.2.2⟩
def Ci (l : Launch) (y : MethodName) (ws : List Cond) (rm : Room) (D : va_G) (ad : Adr) (cy : Nat → ClassId) (av : List Value) (S S' : Mem) (r : Int32) : Prop := ∀ (o : Nat → Int64) (sz : Nat), Met l y ws rm (va_Pc av (PreW D ad cy o S sz)) (va_Qi (fun (r' : Int32) (_ : Unit) => r' = r) (fun _ t => va_P D vwCl (wd ad cy o S') t.heap) (AW ad sz)) 0 0 (AW ad sz)
def Cv (l : Launch) (y : MethodName) (ws : List Cond) (rm : Room) (D : va_G) (ad : Adr) (cy : Nat → ClassId) (av : List Value) (S S' : Mem) : Prop := ∀ (o : Nat → Int64) (sz : Nat), Met l y ws rm (va_Pc av (PreW D ad cy o S sz)) (va_Qv (fun (_ : Unit) => True) (fun _ t => va_P D vwCl (wd ad cy o S') t.heap) (AW ad sz)) 0 0 (AW ad sz)
def Cr (l : Launch) (y : MethodName) (ws : List Cond) (rm : Room) (D : va_G) (ad : Adr) (cy : Nat → ClassId) (av : List Value) (S S' : Mem) (ra : Nat) : Prop := ∀ (o : Nat → Int64) (sz : Nat), Met l y ws rm (va_Pc av (PreW D ad cy o S sz)) (va_Qr (fun (_ : Unit) => True) (fun _ a t => a = ra ∧ va_P D vwCl (wd ad cy o S') t.heap) (AW ad sz)) 0 0 (AW ad sz)
/-- the words of a method: its code, and all good words -/
abbrev wA (y : MethodName) (cc : ByteArray) (n : Nat) (ret : Option FieldType) : List Cond := Cond.code y cc n ret :: lw_all
theorem good_all {w : Cond} (h : w ∈ lw_all) : w ∈ lw_all ∧ ((w.onTables && w.keeps) = true ∨ ∃ ty, w = .arrayClass ty) := ⟨h, good_of_word (lw_good w h).2⟩
theorem good_wA {y : MethodName} {cc : ByteArray} {n : Nat} {ret : Option FieldType} (h : Cond.code y cc n ret ∈ lw_all) : GoodIn lw_all (wA y cc n ret) := fun w hw => (List.mem_cons.mp hw).elim (fun e => by rw [e]; exact good_all h) good_all
theorem good_V {own C : String} {index : Nat} {y : MethodName} {cc : ByteArray} {n : Nat} {ret : Option FieldType} (h1 : Cond.methodLink own index y ∈ lw_all) (h2 : Cond.instanceMethod y ∈ lw_all) (h3 : Cond.selects C y y ∈ lw_all) (h4 : Cond.initialized C ∈ lw_all) (h5 : Cond.code y cc n ret ∈ lw_all) : GoodIn lw_all (wsV own index C y (wA y cc n ret)) := by
  intro w hw
  rcases List.mem_append.mp hw with h | h
  · simp only [List.mem_cons, List.not_mem_nil, or_false] at h
    rcases h with rfl | rfl | rfl | rfl
    · exact good_all h1
    · exact good_all h2
    · exact good_all h3
    · exact good_all h4
  · exact good_wA h5 w h
theorem good_S {own : String} {index : Nat} {y : MethodName} {cc : ByteArray} {n : Nat} {ret : Option FieldType} (h1 : Cond.methodLink own index y ∈ lw_all) (h2 : Cond.static y ∈ lw_all) (h4 : Cond.initialized y.cls ∈ lw_all) (h5 : Cond.code y cc n ret ∈ lw_all) : GoodIn lw_all (va_wsS own index y (wA y cc n ret)) := by
  intro w hw
  rcases List.mem_append.mp hw with h | h
  · simp only [List.mem_cons, List.not_mem_nil, or_false] at h
    rcases h with rfl | rfl | rfl
    · exact good_all h1
    · exact good_all h2
    · exact good_all h4
  · exact good_wA h5 w h

theorem mkC {l : Launch} {y : MethodName} {cc : ByteArray} {maxL : Nat} {ret : Option FieldType} {rm : Room} {D : va_G} {ad : Adr} {cy : Nat → ClassId} {o : Nat → Int64} {S : Mem} {sz : Nat} {av : List Value} {lv : List (Nat × Value)} {Qc : Array Value → State → Outcome → State → Prop} {own : String} (hy : plainName y.cls = true) (hcl : y.cls = own) (hlv : (lg_sl av).length ≤ maxL) (hl0 : lv_args 0 av = lv) (hrm : rm.cells = 0 ∧ rm.slots = 0)
    (body : ∀ (p : Program) (e : Env) (s : State) (m : MethodId) (below : List Frame) (meth : Method) (c : Code) (ls : Array Slot), s.heap.size = sz → CallFix p m c cc maxL s av.toArray lw_all own → meth.locks = false → meth.sig.returnType = ret → KW D cy s → (∀ q, s.heap.size ≤ q → AW ad sz q) → PW D ad cy (AW ad sz) s.heap o S s.heap [] → lv_has ls maxL lv → W p l e rm s m av.toArray below meth c s.heap [] 0 0 (MQ below Qc av.toArray s 0 0 (AW ad sz)) (F0 m 0 ls [])) : Met l y (wA y cc maxL ret) rm (va_Pc av (PreW D ad cy o S sz)) Qc 0 0 (AW ad sz) := by
  refine Met.ofW (cc := cc) (maxL := maxL) (ret := ret) hy rfl ?_
  intro p e s m args below meth c s₁ B hml hv
  obtain ⟨rfl, hsz, hP, hK, hD⟩ := hv
  have hts : ∀ w ∈ lw_all, w.before av.toArray s = true := fun w hw => atoms_spec (ws := wA y cc maxL ret) B.pre w (List.mem_cons_of_mem _ hw)
  have hown : s.vm.findClass own = some m.cls := by rw [← hcl]; exact findClass_of_methodNamed B.named
  have hl := lv_entry av (n := maxL) hlv
  rw [hl0] at hl
  rw [lg_entry_eq]
  exact body p e s m below meth c _ hsz ⟨B.exec, B.bytes, hml, hown, hts⟩ B.notSynchronized B.returns hK (fun q h => Or.inr (by rw [← hsz]; exact h)) ⟨hP, AW_D hD, va_S.rf⟩ hl
section Rows
variable {p : Program} {l : Launch} {e : Env} {R : Room} {s : State} {m : MethodId} {args : Array Value} {below : List Frame} {meth : Method} {c : Code} {cells slots : Nat} {Q : State → Prop} {ls : Array Slot} {pc : Nat} {rest : List Value} {cc : ByteArray} {nL : Nat} {own : String} {D : va_G} {ad : Adr} {cy : Nat → ClassId} {A : Nat → Prop} {H0 : Heap} {o : Nat → Int64} {S : Mem} {H : Heap} {locs : List Loc}
theorem e_i {sz : Nat} {S' : Mem} {r r1 : Int32} (hM : CallFix p m c cc nL s args lw_all own) (hX : PW D ad cy (AW ad sz) s.heap o S H locs) (hlocks : meth.locks = false) (hret : meth.sig.returnType = some .int) (hq : S = S' ∧ r1 = r) (hdg : decode cc pc = .ok (.ireturn, 1)) : W p l e R s m args below meth c H locs cells slots (MQ below (va_Qi (fun (r' : Int32) (_ : Unit) => r' = r) (fun _ t => va_P D vwCl (wd ad cy o S') t.heap) (AW ad sz)) args s cells slots (AW ad sz)) (F0 m pc ls [.int r1]) :=
  W.iret hM.1 hM.2.1 hret (fun t ht hW => ⟨⟨r1, (), rfl, hq.2, by show va_P D vwCl (wd ad cy o S') t.heap; rw [ht, ← hq.1]; exact hX.1⟩, hX.2.2.F ht⟩) hX.2.2.2.2 hdg hlocks
theorem e_z {sz : Nat} {S' : Mem} {r r1 : Int32} {ty : FieldType} (hM : CallFix p m c cc nL s args lw_all own) (hX : PW D ad cy (AW ad sz) s.heap o S H locs) (hlocks : meth.locks = false) (hret : meth.sig.returnType = some ty) (hn : narrow ty (.int r1) = .int r1) (hq : S = S' ∧ r1 = r) (hdg : decode cc pc = .ok (.ireturn, 1)) : W p l e R s m args below meth c H locs cells slots (MQ below (va_Qi (fun (r' : Int32) (_ : Unit) => r' = r) (fun _ t => va_P D vwCl (wd ad cy o S') t.heap) (AW ad sz)) args s cells slots (AW ad sz)) (F0 m pc ls [.int r1]) :=
  W.zret hM.1 hM.2.1 hret hn (fun t ht hW => ⟨⟨r1, (), rfl, hq.2, by show va_P D vwCl (wd ad cy o S') t.heap; rw [ht, ← hq.1]; exact hX.1⟩, hX.2.2.F ht⟩) hX.2.2.2.2 hdg hlocks
theorem e_v {sz : Nat} {S' : Mem} (hM : CallFix p m c cc nL s args lw_all own) (hX : PW D ad cy (AW ad sz) s.heap o S H locs) (hlocks : meth.locks = false) (hret : meth.sig.returnType = none) (hq : S = S') (hdg : decode cc pc = .ok (.return_, 1)) : W p l e R s m args below meth c H locs cells slots (MQ below (va_Qv (fun (_ : Unit) => True) (fun _ t => va_P D vwCl (wd ad cy o S') t.heap) (AW ad sz)) args s cells slots (AW ad sz)) (F0 m pc ls []) :=
  W.vret hM.1 hM.2.1 hret (fun t ht hW => ⟨⟨(), rfl, trivial, by show va_P D vwCl (wd ad cy o S') t.heap; rw [ht, ← hq]; exact hX.1⟩, hX.2.2.F ht⟩) hX.2.2.2.2 hdg hlocks
theorem e_r {sz : Nat} {S' : Mem} {ra r1 : Nat} {rt : FieldType} (hM : CallFix p m c cc nL s args lw_all own) (hX : PW D ad cy (AW ad sz) s.heap o S H locs) (hlocks : meth.locks = false) (hret : meth.sig.returnType = some rt) (hrt : (∃ n, rt = .object n) ∨ ∃ t, rt = .array t) (hq : S = S' ∧ r1 = ra) (hdg : decode cc pc = .ok (.areturn, 1)) : W p l e R s m args below meth c H locs cells slots (MQ below (va_Qr (fun (_ : Unit) => True) (fun _ a t => a = ra ∧ va_P D vwCl (wd ad cy o S') t.heap) (AW ad sz)) args s cells slots (AW ad sz)) (F0 m pc ls [.ref r1]) :=
  W.aret hM.1 hM.2.1 hret hrt (Or.inr ⟨_, rfl⟩) (fun t ht hW => ⟨⟨(), r1, rfl, trivial, hq.2, by show va_P D vwCl (wd ad cy o S') t.heap; rw [ht, ← hq.1]; exact hX.1⟩, hX.2.2.F ht⟩) hX.2.2.2.2 hdg hlocks
theorem r_get {t P i ci N : Nat} {C : String} {T : u_T} {fs : List Value} {index : Nat} {v : Value} (hM : CallFix p m c cc nL s args lw_all own) (hK : KW D cy s) (hX : PW D ad cy A H0 o S H locs) (hm : (t, P, i) ∈ idl) (hc : cI ad cy t P i (S t P i) = .inr (ci, fs)) (hcl : vwCl[ci]? = some (C, T, N)) (hu : ∀ w ∈ u_ws C T N, w ∈ lw_all) (k : Nat) (hk : k < N) (hlink : Cond.fieldLink own index (T k).1 (T k).2.1 (T k).2.2.1 ∈ lw_all) (hv : fs[k]? = some v) (hdg : decode cc pc = .ok (.getfield index, 3)) (kk : W p l e R s m args below meth c H locs cells slots Q (F0 m (pc + 3) ls (v :: rest))) : W p l e R s m args below meth c H locs cells slots Q (F0 m pc ls (.ref (ad t P i) :: rest)) := by
  obtain ⟨j, hj, -⟩ := wd_get (ad := ad) (cy := cy) (o := o) (S := S) hm
  rw [hc] at hj
  exact va_get hM.1 hM.2.1 hM.2.2.2.2 hu hM.2.2.2.1 hK.1 hX.1 (j + 1) hj hcl k hk (hM.2.2.2.2 _ hlink) (fun _ h9 => h9) hv hdg kk
theorem r_put {t P i ci N : Nat} {C : String} {T : u_T} {fs : List Value} {index : Nat} {v : Value} {ty : FieldType} {f2 : Nat → Int32} (hM : CallFix p m c cc nL s args lw_all own) (hK : KW D cy s) (hX : PW D ad cy A H0 o S H locs) (ty0 : Nat → FieldType) (hty : ∀ k, k < N → parseFieldDescriptor (T k).2.2.1 = some (ty0 k)) (hnm : ∀ a, a < N → ∀ b, b < N → a ≠ b → (T a).2.1 ≠ (T b).2.1) (hm : (t, P, i) ∈ idl) (hc : cI ad cy t P i (S t P i) = .inr (ci, fs)) (hcl : vwCl[ci]? = some (C, T, N)) (hu : ∀ w ∈ u_ws C T N, w ∈ lw_all) (k : Nat) (hk : k < N) (hlink : Cond.fieldLink own index (T k).1 (T k).2.1 (T k).2.2.1 ∈ lw_all) (hfin : (T k).2.2.2 = false) (hd : ty0 k = ty) (hn : narrow ty v = v) (hfit : fits ty v = true) (hlen : k < fs.length) (hset : (.inr (ci, fs.set k v) : va_E) = cI ad cy t P i f2) (hdg : decode cc pc = .ok (.putfield index, 3)) (kk : ∀ S1 : Mem, S1 = uc S t P i f2 → ∀ (H1 : Heap) (locs1 : List Loc), PW D ad cy A H0 o S1 H1 locs1 → W p l e R s m args below meth c H1 locs1 cells slots Q (F0 m (pc + 3) ls rest)) : W p l e R s m args below meth c H locs cells slots Q (F0 m pc ls (v :: .ref (ad t P i) :: rest)) := by
  obtain ⟨j, hj, hz⟩ := wd_get (ad := ad) (cy := cy) (o := o) (S := S) hm
  rw [hc] at hj
  refine va_put hM.1 hM.2.1 hM.2.2.2.2 hu ty0 hty hnm hM.2.2.2.1 hK.1 hX.1 hX.2.1 hX.2.2 (j + 1) hj hcl k hk (hM.2.2.2.2 _ hlink) (fun _ h9 => h9) hfin (by rw [hty k hk, hd]) hn hfit hlen hdg (fun H1 locs1 hP1 hD1 hS1 => ?_)
  rw [hset, wd_set hX.2.1 hz] at hP1 hD1
  exact kk _ rfl H1 locs1 ⟨hP1, hD1, hS1⟩
theorem r_iald {t P i n : Nat} {k : Int32} (hM : CallFix p m c cc nL s args lw_all own) (hK : KW D cy s) (hX : PW D ad cy A H0 o S H locs) (hm : (t, P, i) ∈ idl) (hc : ∀ f, cI ad cy t P i f = .inl (cy 0, n, .inl f)) (hin : vp_in k n) (hdg : decode cc pc = .ok (.iaload, 1)) (kk : W p l e R s m args below meth c H locs cells slots Q (F0 m (pc + 1) ls (.int (S t P i k.toNatClampNeg) :: rest))) : W p l e R s m args below meth c H locs cells slots Q (F0 m pc ls (.int k :: .ref (ad t P i) :: rest)) := by
  obtain ⟨j, hj, -⟩ := wd_get (ad := ad) (cy := cy) (o := o) (S := S) hm
  rw [hc] at hj
  exact va_iald hM.1 hM.2.1 hK.1 hX.1 (j + 1) 0 hj rfl hin hdg kk
theorem r_zald {t P i n : Nat} {k : Int32} (hM : CallFix p m c cc nL s args lw_all own) (hK : KW D cy s) (hX : PW D ad cy A H0 o S H locs) (hm : (t, P, i) ∈ idl) (hc : ∀ f, cI ad cy t P i f = .inl (cy 2, n, .inl f)) (hin : vp_in k n) (hdg : decode cc pc = .ok (.baload, 1)) (kk : W p l e R s m args below meth c H locs cells slots Q (F0 m (pc + 1) ls (.int (S t P i k.toNatClampNeg) :: rest))) : W p l e R s m args below meth c H locs cells slots Q (F0 m pc ls (.int k :: .ref (ad t P i) :: rest)) := by
  obtain ⟨j, hj, -⟩ := wd_get (ad := ad) (cy := cy) (o := o) (S := S) hm
  rw [hc] at hj
  exact va_zald hM.1 hM.2.1 hK.1 hX.1 (j + 1) 2 hj rfl hin hdg kk
theorem r_cald {t P i n : Nat} {k : Int32} (hM : CallFix p m c cc nL s args lw_all own) (hK : KW D cy s) (hX : PW D ad cy A H0 o S H locs) (hm : (t, P, i) ∈ idl) (hc : ∀ f, cI ad cy t P i f = .inl (cy 1, n, .inl f)) (hin : vp_in k n) (hdg : decode cc pc = .ok (.caload, 1)) (kk : W p l e R s m args below meth c H locs cells slots Q (F0 m (pc + 1) ls (.int (S t P i k.toNatClampNeg) :: rest))) : W p l e R s m args below meth c H locs cells slots Q (F0 m pc ls (.int k :: .ref (ad t P i) :: rest)) := by
  obtain ⟨j, hj, -⟩ := wd_get (ad := ad) (cy := cy) (o := o) (S := S) hm
  rw [hc] at hj
  exact va_cald hM.1 hM.2.1 hK.1 hX.1 (j + 1) 1 hj rfl hin hdg kk
theorem r_iast {t P i n : Nat} {k x : Int32} (hM : CallFix p m c cc nL s args lw_all own) (hK : KW D cy s) (hX : PW D ad cy A H0 o S H locs) (hm : (t, P, i) ∈ idl) (hc : ∀ f, cI ad cy t P i f = .inl (cy 0, n, .inl f)) (hin : vp_in k n) (hdg : decode cc pc = .ok (.iastore, 1)) (kk : ∀ S1 : Mem, S1 = uc S t P i (upd (S t P i) k.toNatClampNeg x) → ∀ (H1 : Heap) (locs1 : List Loc), PW D ad cy A H0 o S1 H1 locs1 → W p l e R s m args below meth c H1 locs1 cells slots Q (F0 m (pc + 1) ls rest)) : W p l e R s m args below meth c H locs cells slots Q (F0 m pc ls (.int x :: .int k :: .ref (ad t P i) :: rest)) := by
  obtain ⟨j, hj, hz⟩ := wd_get (ad := ad) (cy := cy) (o := o) (S := S) hm
  rw [hc] at hj
  refine va_iast hM.1 hM.2.1 hK.1 hX.1 hX.2.1 hX.2.2 (j + 1) 0 hj rfl hin hdg (fun H1 locs1 hP1 hD1 hS1 => ?_)
  rw [← hc, wd_set hX.2.1 hz] at hP1 hD1
  exact kk _ rfl H1 locs1 ⟨hP1, hD1, hS1⟩
theorem r_zast {t P i n : Nat} {k x : Int32} (hM : CallFix p m c cc nL s args lw_all own) (hK : KW D cy s) (hX : PW D ad cy A H0 o S H locs) (hm : (t, P, i) ∈ idl) (hc : ∀ f, cI ad cy t P i f = .inl (cy 2, n, .inl f)) (hin : vp_in k n) (hdg : decode cc pc = .ok (.bastore, 1)) (kk : ∀ S1 : Mem, S1 = uc S t P i (upd (S t P i) k.toNatClampNeg (vp_nar .boolean x)) → ∀ (H1 : Heap) (locs1 : List Loc), PW D ad cy A H0 o S1 H1 locs1 → W p l e R s m args below meth c H1 locs1 cells slots Q (F0 m (pc + 1) ls rest)) : W p l e R s m args below meth c H locs cells slots Q (F0 m pc ls (.int x :: .int k :: .ref (ad t P i) :: rest)) := by
  obtain ⟨j, hj, hz⟩ := wd_get (ad := ad) (cy := cy) (o := o) (S := S) hm
  rw [hc] at hj
  refine va_zast hM.1 hM.2.1 hK.1 hX.1 hX.2.1 hX.2.2 (j + 1) 2 hj rfl hin hdg (fun H1 locs1 hP1 hD1 hS1 => ?_)
  rw [← hc, wd_set hX.2.1 hz] at hP1 hD1
  exact kk _ rfl H1 locs1 ⟨hP1, hD1, hS1⟩
theorem r_cast {t P i n : Nat} {k x : Int32} (hM : CallFix p m c cc nL s args lw_all own) (hK : KW D cy s) (hX : PW D ad cy A H0 o S H locs) (hm : (t, P, i) ∈ idl) (hc : ∀ f, cI ad cy t P i f = .inl (cy 1, n, .inl f)) (hin : vp_in k n) (hdg : decode cc pc = .ok (.castore, 1)) (kk : ∀ S1 : Mem, S1 = uc S t P i (upd (S t P i) k.toNatClampNeg (vp_nar .char x)) → ∀ (H1 : Heap) (locs1 : List Loc), PW D ad cy A H0 o S1 H1 locs1 → W p l e R s m args below meth c H1 locs1 cells slots Q (F0 m (pc + 1) ls rest)) : W p l e R s m args below meth c H locs cells slots Q (F0 m pc ls (.int x :: .int k :: .ref (ad t P i) :: rest)) := by
  obtain ⟨j, hj, hz⟩ := wd_get (ad := ad) (cy := cy) (o := o) (S := S) hm
  rw [hc] at hj
  refine va_cast hM.1 hM.2.1 hK.1 hX.1 hX.2.1 hX.2.2 (j + 1) 1 hj rfl hin hdg (fun H1 locs1 hP1 hD1 hS1 => ?_)
  rw [← hc, wd_set hX.2.1 hz] at hP1 hD1
  exact kk _ rfl H1 locs1 ⟨hP1, hD1, hS1⟩
theorem r_alen {t P i t0 : Nat} {cA : ClassId} {x : vp_A} {ty : FieldType} {v : Int32} (hM : CallFix p m c cc nL s args lw_all own) (hK : KW D cy s) (hX : PW D ad cy A H0 o S H locs) (hm : (t, P, i) ∈ idl) (hc : cI ad cy t P i (S t P i) = .inl (cA, x)) (ht : (tyK cy)[t0]? = some (cA, ty)) (hv : Int32.ofNat x.1 = v) (hdg : decode cc pc = .ok (.arraylength, 1)) (kk : W p l e R s m args below meth c H locs cells slots Q (F0 m (pc + 1) ls (.int v :: rest))) : W p l e R s m args below meth c H locs cells slots Q (F0 m pc ls (.ref (ad t P i) :: rest)) := by
  obtain ⟨j, hj, -⟩ := wd_get (ad := ad) (cy := cy) (o := o) (S := S) hm
  rw [hc] at hj
  exact va_alen hM.1 hM.2.1 hK.1 hX.1 (j + 1) t0 hj ht hv hdg kk
theorem r_aald {t P i t0 n : Nat} {cA : ClassId} {C : String} {f : Nat → Option Nat} {k : Int32} {q : Nat} (hM : CallFix p m c cc nL s args lw_all own) (hK : KW D cy s) (hX : PW D ad cy A H0 o S H locs) (hm : (t, P, i) ∈ idl) (hc : cI ad cy t P i (S t P i) = .inl (cA, n, .inr (.inr (.inr (.inr f))))) (ht : (tyK cy)[t0]? = some (cA, .object C)) (hin : vp_in k n) (hq : f k.toNatClampNeg = some q) (hdg : decode cc pc = .ok (.aaload, 1)) (kk : W p l e R s m args below meth c H locs cells slots Q (F0 m (pc + 1) ls (.ref q :: rest))) : W p l e R s m args below meth c H locs cells slots Q (F0 m pc ls (.int k :: .ref (ad t P i) :: rest)) := by
  obtain ⟨j, hj, -⟩ := wd_get (ad := ad) (cy := cy) (o := o) (S := S) hm
  rw [hc] at hj
  refine va_aldq hM.1 hM.2.1 hK.1 hX.1 (j + 1) t0 hj ht hin hdg ?_
  rw [hq]
  exact kk
theorem r_recv {t P i ci N : Nat} {C : String} {T : u_T} {fs : List Value} (hK : KW D cy s) (hX : PW D ad cy A H0 o S H locs) (hm : (t, P, i) ∈ idl) (hc : cI ad cy t P i (S t P i) = .inr (ci, fs)) (hcl : vwCl[ci]? = some (C, T, N)) : ∃ cell : Cell, H[ad t P i]? = some cell ∧ cell.vm.isStatics = false ∧ s.vm.findClass C = some cell.cls := by
  obtain ⟨j, hj, -⟩ := wd_get (ad := ad) (cy := cy) (o := o) (S := S) hm
  rw [hc] at hj
  exact va_recv hK.1 hX.1 hcl hj
theorem cVi {y : MethodName} {ws : List Cond} {rm : Room} {index maxL n : Nat} {bytes : ByteArray} {rt : Option FieldType} {C host : String} {b : Nat} {As st0 : List Value} {S2 : Mem} {r : Int32} (hM : CallFix p m c cc nL s args lw_all own) (hK : KW D cy s) (hX : PW D ad cy A H0 o S H locs) (hA : ∀ q, H0.size ≤ q → A q) (hC : Ci l y ws rm D ad cy (.ref b :: As) S S2 r) (cw : CallW R s args own C index y bytes maxL rt ws rm 0 0 n) (hr : ∃ cell : Cell, H[b]? = some cell ∧ cell.vm.isStatics = false ∧ s.vm.findClass C = some cell.cls) (hn : As.length = n) (hsz : ls.size = nL) (hst : st0 = As.reverse ++ .ref b :: rest) (hW : (rest.map fun v => v.category).sum ≤ 8) (hdg : decode cc pc = .ok (.invokevirtual index, 3)) (hf : cells ≤ R.cells ∧ slots ≤ R.slots) (kk : ∀ S1 : Mem, S1 = S2 → ∀ r1 : Int32, r1 = r → ∀ (H1 : Heap) (locs1 : List Loc), PW D ad cy A H0 o S1 H1 locs1 → W p l e R s m args below meth c H1 locs1 cells slots Q (F0 m (pc + 3) ls (.int r1 :: rest))) : W p l e R s m args below meth c H locs cells slots Q (F0 m pc ls st0) := by
  have hF := AW_le hX.2.1 hX.2.2 hA
  refine va_calli (va_runV (As := As) (rest := rest) hM (hC o H.size) cw ⟨PreW_blind, hr, fun U hU hW => ⟨rfl, by rw [hU], by rw [hU]; exact hX.1, hK.warm hW, hX.2.1.weaken (fun _ _ _ _ => trivial)⟩⟩ rfl hn hsz hst (lv_room hW) hdg hf) hX.2.2 (fun q _ h => hF q h) hF (fun r1 u t H1 locs1 ht hvm hw hB hz1 hk1 hS1 => ?_)
  rw [ht] at hB
  exact kk _ rfl r1 hw H1 locs1 ⟨hB, wd_D hX.2.1, hS1⟩
theorem cSi {y : MethodName} {ws : List Cond} {rm : Room} {index maxL n : Nat} {bytes : ByteArray} {rt : Option FieldType} {C host : String} {b : Nat} {As st0 : List Value} {S2 : Mem} {r : Int32} (hM : CallFix p m c cc nL s args lw_all own) (hK : KW D cy s) (hX : PW D ad cy A H0 o S H locs) (hA : ∀ q, H0.size ≤ q → A q) (hC : Ci l y ws rm D ad cy As S S2 r) (cw : CallB R s args own index y bytes maxL rt ws rm 0 0 n ∧ (Cond.static y).before args s = true) (hn : As.length = n) (hsz : ls.size = nL) (hst : st0 = As.reverse ++ rest) (hW : (rest.map fun v => v.category).sum ≤ 8) (hdg : decode cc pc = .ok (.invokestatic index, 3)) (hf : cells ≤ R.cells ∧ slots ≤ R.slots) (kk : ∀ S1 : Mem, S1 = S2 → ∀ r1 : Int32, r1 = r → ∀ (H1 : Heap) (locs1 : List Loc), PW D ad cy A H0 o S1 H1 locs1 → W p l e R s m args below meth c H1 locs1 cells slots Q (F0 m (pc + 3) ls (.int r1 :: rest))) : W p l e R s m args below meth c H locs cells slots Q (F0 m pc ls st0) := by
  have hF := AW_le hX.2.1 hX.2.2 hA
  refine va_calli (va_runS (As := As) (rest := rest) hM (hC o H.size) cw ⟨PreW_blind, fun U hU hW => ⟨rfl, by rw [hU], by rw [hU]; exact hX.1, hK.warm hW, hX.2.1.weaken (fun _ _ _ _ => trivial)⟩⟩ rfl hn hsz hst (lv_room hW) hdg hf) hX.2.2 (fun q _ h => hF q h) hF (fun r1 u t H1 locs1 ht hvm hw hB hz1 hk1 hS1 => ?_)
  rw [ht] at hB
  exact kk _ rfl r1 hw H1 locs1 ⟨hB, wd_D hX.2.1, hS1⟩
theorem cSNi {y : MethodName} {ws : List Cond} {rm : Room} {index maxL n : Nat} {bytes : ByteArray} {rt : Option FieldType} {C host : String} {b : Nat} {As st0 : List Value} {S2 : Mem} {r : Int32} (hM : CallFix p m c cc nL s args lw_all own) (hK : KW D cy s) (hX : PW D ad cy A H0 o S H locs) (hA : ∀ q, H0.size ≤ q → A q) (hC : Ci l y ws rm D ad cy As S S2 r) (cw : va_CN R s args own index y host bytes maxL rt ws rm 0 0 n ∧ (Cond.static y).before args s = true ∧ True) (hn : As.length = n) (hsz : ls.size = nL) (hst : st0 = As.reverse ++ rest) (hW : (rest.map fun v => v.category).sum ≤ 8) (hdg : decode cc pc = .ok (.invokestatic index, 3)) (hf : cells ≤ R.cells ∧ slots ≤ R.slots) (kk : ∀ S1 : Mem, S1 = S2 → ∀ r1 : Int32, r1 = r → ∀ (H1 : Heap) (locs1 : List Loc), PW D ad cy A H0 o S1 H1 locs1 → W p l e R s m args below meth c H1 locs1 cells slots Q (F0 m (pc + 3) ls (.int r1 :: rest))) : W p l e R s m args below meth c H locs cells slots Q (F0 m pc ls st0) := by
  have hF := AW_le hX.2.1 hX.2.2 hA
  refine va_calli (va_runSN (As := As) (rest := rest) hM (hC o H.size) cw ⟨PreW_blind, fun U hU hW => ⟨rfl, by rw [hU], by rw [hU]; exact hX.1, hK.warm hW, hX.2.1.weaken (fun _ _ _ _ => trivial)⟩⟩ rfl hn hsz hst (lv_room hW) hdg hf) hX.2.2 (fun q _ h => hF q h) hF (fun r1 u t H1 locs1 ht hvm hw hB hz1 hk1 hS1 => ?_)
  rw [ht] at hB
  exact kk _ rfl r1 hw H1 locs1 ⟨hB, wd_D hX.2.1, hS1⟩
theorem cVv {y : MethodName} {ws : List Cond} {rm : Room} {index maxL n : Nat} {bytes : ByteArray} {rt : Option FieldType} {C host : String} {b : Nat} {As st0 : List Value} {S2 : Mem} (hM : CallFix p m c cc nL s args lw_all own) (hK : KW D cy s) (hX : PW D ad cy A H0 o S H locs) (hA : ∀ q, H0.size ≤ q → A q) (hC : Cv l y ws rm D ad cy (.ref b :: As) S S2) (cw : CallW R s args own C index y bytes maxL rt ws rm 0 0 n) (hr : ∃ cell : Cell, H[b]? = some cell ∧ cell.vm.isStatics = false ∧ s.vm.findClass C = some cell.cls) (hn : As.length = n) (hsz : ls.size = nL) (hst : st0 = As.reverse ++ .ref b :: rest) (hW : (rest.map fun v => v.category).sum ≤ 8) (hdg : decode cc pc = .ok (.invokevirtual index, 3)) (hf : cells ≤ R.cells ∧ slots ≤ R.slots) (kk : ∀ S1 : Mem, S1 = S2 → ∀ (H1 : Heap) (locs1 : List Loc), PW D ad cy A H0 o S1 H1 locs1 → W p l e R s m args below meth c H1 locs1 cells slots Q (F0 m (pc + 3) ls rest)) : W p l e R s m args below meth c H locs cells slots Q (F0 m pc ls st0) := by
  have hF := AW_le hX.2.1 hX.2.2 hA
  refine va_callv (va_runV (As := As) (rest := rest) hM (hC o H.size) cw ⟨PreW_blind, hr, fun U hU hW => ⟨rfl, by rw [hU], by rw [hU]; exact hX.1, hK.warm hW, hX.2.1.weaken (fun _ _ _ _ => trivial)⟩⟩ rfl hn hsz hst (lv_room hW) hdg hf) hX.2.2 (fun q _ h => hF q h) hF (fun u t H1 locs1 ht hvm hw hB hz1 hk1 hS1 => ?_)
  rw [ht] at hB
  exact kk _ rfl H1 locs1 ⟨hB, wd_D hX.2.1, hS1⟩
theorem cSv {y : MethodName} {ws : List Cond} {rm : Room} {index maxL n : Nat} {bytes : ByteArray} {rt : Option FieldType} {C host : String} {b : Nat} {As st0 : List Value} {S2 : Mem} (hM : CallFix p m c cc nL s args lw_all own) (hK : KW D cy s) (hX : PW D ad cy A H0 o S H locs) (hA : ∀ q, H0.size ≤ q → A q) (hC : Cv l y ws rm D ad cy As S S2) (cw : CallB R s args own index y bytes maxL rt ws rm 0 0 n ∧ (Cond.static y).before args s = true) (hn : As.length = n) (hsz : ls.size = nL) (hst : st0 = As.reverse ++ rest) (hW : (rest.map fun v => v.category).sum ≤ 8) (hdg : decode cc pc = .ok (.invokestatic index, 3)) (hf : cells ≤ R.cells ∧ slots ≤ R.slots) (kk : ∀ S1 : Mem, S1 = S2 → ∀ (H1 : Heap) (locs1 : List Loc), PW D ad cy A H0 o S1 H1 locs1 → W p l e R s m args below meth c H1 locs1 cells slots Q (F0 m (pc + 3) ls rest)) : W p l e R s m args below meth c H locs cells slots Q (F0 m pc ls st0) := by
  have hF := AW_le hX.2.1 hX.2.2 hA
  refine va_callv (va_runS (As := As) (rest := rest) hM (hC o H.size) cw ⟨PreW_blind, fun U hU hW => ⟨rfl, by rw [hU], by rw [hU]; exact hX.1, hK.warm hW, hX.2.1.weaken (fun _ _ _ _ => trivial)⟩⟩ rfl hn hsz hst (lv_room hW) hdg hf) hX.2.2 (fun q _ h => hF q h) hF (fun u t H1 locs1 ht hvm hw hB hz1 hk1 hS1 => ?_)
  rw [ht] at hB
  exact kk _ rfl H1 locs1 ⟨hB, wd_D hX.2.1, hS1⟩
theorem cSNv {y : MethodName} {ws : List Cond} {rm : Room} {index maxL n : Nat} {bytes : ByteArray} {rt : Option FieldType} {C host : String} {b : Nat} {As st0 : List Value} {S2 : Mem} (hM : CallFix p m c cc nL s args lw_all own) (hK : KW D cy s) (hX : PW D ad cy A H0 o S H locs) (hA : ∀ q, H0.size ≤ q → A q) (hC : Cv l y ws rm D ad cy As S S2) (cw : va_CN R s args own index y host bytes maxL rt ws rm 0 0 n ∧ (Cond.static y).before args s = true ∧ True) (hn : As.length = n) (hsz : ls.size = nL) (hst : st0 = As.reverse ++ rest) (hW : (rest.map fun v => v.category).sum ≤ 8) (hdg : decode cc pc = .ok (.invokestatic index, 3)) (hf : cells ≤ R.cells ∧ slots ≤ R.slots) (kk : ∀ S1 : Mem, S1 = S2 → ∀ (H1 : Heap) (locs1 : List Loc), PW D ad cy A H0 o S1 H1 locs1 → W p l e R s m args below meth c H1 locs1 cells slots Q (F0 m (pc + 3) ls rest)) : W p l e R s m args below meth c H locs cells slots Q (F0 m pc ls st0) := by
  have hF := AW_le hX.2.1 hX.2.2 hA
  refine va_callv (va_runSN (As := As) (rest := rest) hM (hC o H.size) cw ⟨PreW_blind, fun U hU hW => ⟨rfl, by rw [hU], by rw [hU]; exact hX.1, hK.warm hW, hX.2.1.weaken (fun _ _ _ _ => trivial)⟩⟩ rfl hn hsz hst (lv_room hW) hdg hf) hX.2.2 (fun q _ h => hF q h) hF (fun u t H1 locs1 ht hvm hw hB hz1 hk1 hS1 => ?_)
  rw [ht] at hB
  exact kk _ rfl H1 locs1 ⟨hB, wd_D hX.2.1, hS1⟩
theorem cVr {y : MethodName} {ws : List Cond} {rm : Room} {index maxL n : Nat} {bytes : ByteArray} {rt : Option FieldType} {C host : String} {b : Nat} {As st0 : List Value} {S2 : Mem} {ra : Nat} (hM : CallFix p m c cc nL s args lw_all own) (hK : KW D cy s) (hX : PW D ad cy A H0 o S H locs) (hA : ∀ q, H0.size ≤ q → A q) (hC : Cr l y ws rm D ad cy (.ref b :: As) S S2 ra) (cw : CallW R s args own C index y bytes maxL rt ws rm 0 0 n) (hr : ∃ cell : Cell, H[b]? = some cell ∧ cell.vm.isStatics = false ∧ s.vm.findClass C = some cell.cls) (hn : As.length = n) (hsz : ls.size = nL) (hst : st0 = As.reverse ++ .ref b :: rest) (hW : (rest.map fun v => v.category).sum ≤ 8) (hdg : decode cc pc = .ok (.invokevirtual index, 3)) (hf : cells ≤ R.cells ∧ slots ≤ R.slots) (kk : ∀ S1 : Mem, S1 = S2 → ∀ (H1 : Heap) (locs1 : List Loc), PW D ad cy A H0 o S1 H1 locs1 → W p l e R s m args below meth c H1 locs1 cells slots Q (F0 m (pc + 3) ls (.ref ra :: rest))) : W p l e R s m args below meth c H locs cells slots Q (F0 m pc ls st0) := by
  have hF := AW_le hX.2.1 hX.2.2 hA
  refine va_callr (va_runV (As := As) (rest := rest) hM (hC o H.size) cw ⟨PreW_blind, hr, fun U hU hW => ⟨rfl, by rw [hU], by rw [hU]; exact hX.1, hK.warm hW, hX.2.1.weaken (fun _ _ _ _ => trivial)⟩⟩ rfl hn hsz hst (lv_room hW) hdg hf) hX.2.2 (fun q _ h => hF q h) hF (fun u ra1 t H1 locs1 ht hvm hw hB hz1 hk1 hS1 => ?_)
  obtain ⟨rfl, hB⟩ := hB
  rw [ht] at hB
  exact kk _ rfl H1 locs1 ⟨hB, wd_D hX.2.1, hS1⟩
theorem cSr {y : MethodName} {ws : List Cond} {rm : Room} {index maxL n : Nat} {bytes : ByteArray} {rt : Option FieldType} {C host : String} {b : Nat} {As st0 : List Value} {S2 : Mem} {ra : Nat} (hM : CallFix p m c cc nL s args lw_all own) (hK : KW D cy s) (hX : PW D ad cy A H0 o S H locs) (hA : ∀ q, H0.size ≤ q → A q) (hC : Cr l y ws rm D ad cy As S S2 ra) (cw : CallB R s args own index y bytes maxL rt ws rm 0 0 n ∧ (Cond.static y).before args s = true) (hn : As.length = n) (hsz : ls.size = nL) (hst : st0 = As.reverse ++ rest) (hW : (rest.map fun v => v.category).sum ≤ 8) (hdg : decode cc pc = .ok (.invokestatic index, 3)) (hf : cells ≤ R.cells ∧ slots ≤ R.slots) (kk : ∀ S1 : Mem, S1 = S2 → ∀ (H1 : Heap) (locs1 : List Loc), PW D ad cy A H0 o S1 H1 locs1 → W p l e R s m args below meth c H1 locs1 cells slots Q (F0 m (pc + 3) ls (.ref ra :: rest))) : W p l e R s m args below meth c H locs cells slots Q (F0 m pc ls st0) := by
  have hF := AW_le hX.2.1 hX.2.2 hA
  refine va_callr (va_runS (As := As) (rest := rest) hM (hC o H.size) cw ⟨PreW_blind, fun U hU hW => ⟨rfl, by rw [hU], by rw [hU]; exact hX.1, hK.warm hW, hX.2.1.weaken (fun _ _ _ _ => trivial)⟩⟩ rfl hn hsz hst (lv_room hW) hdg hf) hX.2.2 (fun q _ h => hF q h) hF (fun u ra1 t H1 locs1 ht hvm hw hB hz1 hk1 hS1 => ?_)
  obtain ⟨rfl, hB⟩ := hB
  rw [ht] at hB
  exact kk _ rfl H1 locs1 ⟨hB, wd_D hX.2.1, hS1⟩
end Rows
theorem g0 {p : Program} {l : Launch} {e : Env} {R : Room} {s : State} {m : MethodId} {args : Array Value} {below : List Frame} {meth : Method} {c : Code} {cells slots : Nat} {Q : State → Prop} {ls : Array Slot} {pc : Nat} {rest : List Value} {cc : ByteArray} {nL : Nat} {own : String} {D : va_G} {ad : Adr} {cy : Nat → ClassId} {A : Nat → Prop} {H0 : Heap} {o : Nat → Int64} {S : Mem} {H : Heap} {locs : List Loc} {P i index : Nat} {v : Value} (hM : CallFix p m c cc nL s args lw_all own) (hK : KW D cy s) (hX : PW D ad cy A H0 o S H locs) (hm : (0, P, i) ∈ idl) (k : Nat) (hk : k < 2) (hlink : Cond.fieldLink own index (TX0 k).1 (TX0 k).2.1 (TX0 k).2.2.1 ∈ lw_all) (hv : (fs0 ad P i (S 0 P i))[k]? = some v) (hdg : decode cc pc = .ok (.getfield index, 3)) (kk : W p l e R s m args below meth c H locs cells slots Q (F0 m (pc + 3) ls (v :: rest))) : W p l e R s m args below meth c H locs cells slots Q (F0 m pc ls (.ref (ad 0 P i) :: rest)) := r_get hM hK hX hm rfl rfl qu_0 k hk hlink hv hdg kk
theorem v0 {s : State} {H H0 : Heap} {D : va_G} {ad : Adr} {cy : Nat → ClassId} {A : Nat → Prop} {o : Nat → Int64} {S : Mem} {locs : List Loc} {P i : Nat} (hK : KW D cy s) (hX : PW D ad cy A H0 o S H locs) (hm : (0, P, i) ∈ idl) : ∃ cell : Cell, H[ad 0 P i]? = some cell ∧ cell.vm.isStatics = false ∧ s.vm.findClass RX0 = some cell.cls := r_recv hK hX hm rfl rfl
theorem p0_1 {p : Program} {l : Launch} {e : Env} {R : Room} {s : State} {m : MethodId} {args : Array Value} {below : List Frame} {meth : Method} {c : Code} {cells slots : Nat} {Q : State → Prop} {ls : Array Slot} {pc : Nat} {rest : List Value} {cc : ByteArray} {nL : Nat} {own : String} {D : va_G} {ad : Adr} {cy : Nat → ClassId} {A : Nat → Prop} {H0 : Heap} {o : Nat → Int64} {S : Mem} {H : Heap} {locs : List Loc} {P i index : Nat} {x : Int32} (hM : CallFix p m c cc nL s args lw_all own) (hK : KW D cy s) (hX : PW D ad cy A H0 o S H locs) (hm : (0, P, i) ∈ idl) (hlink : Cond.fieldLink own index (TX0 1).1 (TX0 1).2.1 (TX0 1).2.2.1 ∈ lw_all) (hdg : decode cc pc = .ok (.putfield index, 3)) (kk : ∀ S1 : Mem, S1 = uc S 0 P i (upd (S 0 P i) 1 x) → ∀ (H1 : Heap) (locs1 : List Loc), PW D ad cy A H0 o S1 H1 locs1 → W p l e R s m args below meth c H1 locs1 cells slots Q (F0 m (pc + 3) ls rest)) : W p l e R s m args below meth c H locs cells slots Q (F0 m pc ls (.int x :: .ref (ad 0 P i) :: rest)) := r_put (f2 := upd (S 0 P i) 1 x) (ty := .int) hM hK hX tyX0 tyX0_ok nmX0 hm rfl rfl qu_0 1 (by decide) hlink rfl rfl rfl rfl (by simp) rfl hdg kk
theorem g1 {p : Program} {l : Launch} {e : Env} {R : Room} {s : State} {m : MethodId} {args : Array Value} {below : List Frame} {meth : Method} {c : Code} {cells slots : Nat} {Q : State → Prop} {ls : Array Slot} {pc : Nat} {rest : List Value} {cc : ByteArray} {nL : Nat} {own : String} {D : va_G} {ad : Adr} {cy : Nat → ClassId} {A : Nat → Prop} {H0 : Heap} {o : Nat → Int64} {S : Mem} {H : Heap} {locs : List Loc} {P i index : Nat} {v : Value} (hM : CallFix p m c cc nL s args lw_all own) (hK : KW D cy s) (hX : PW D ad cy A H0 o S H locs) (hm : (1, P, i) ∈ idl) (k : Nat) (hk : k < 4) (hlink : Cond.fieldLink own index (TX1 k).1 (TX1 k).2.1 (TX1 k).2.2.1 ∈ lw_all) (hv : (fs1 ad P i (S 1 P i))[k]? = some v) (hdg : decode cc pc = .ok (.getfield index, 3)) (kk : W p l e R s m args below meth c H locs cells slots Q (F0 m (pc + 3) ls (v :: rest))) : W p l e R s m args below meth c H locs cells slots Q (F0 m pc ls (.ref (ad 1 P i) :: rest)) := r_get hM hK hX hm rfl rfl qu_1 k hk hlink hv hdg kk
theorem v1 {s : State} {H H0 : Heap} {D : va_G} {ad : Adr} {cy : Nat → ClassId} {A : Nat → Prop} {o : Nat → Int64} {S : Mem} {locs : List Loc} {P i : Nat} (hK : KW D cy s) (hX : PW D ad cy A H0 o S H locs) (hm : (1, P, i) ∈ idl) : ∃ cell : Cell, H[ad 1 P i]? = some cell ∧ cell.vm.isStatics = false ∧ s.vm.findClass RX1 = some cell.cls := r_recv hK hX hm rfl rfl
theorem p1_2 {p : Program} {l : Launch} {e : Env} {R : Room} {s : State} {m : MethodId} {args : Array Value} {below : List Frame} {meth : Method} {c : Code} {cells slots : Nat} {Q : State → Prop} {ls : Array Slot} {pc : Nat} {rest : List Value} {cc : ByteArray} {nL : Nat} {own : String} {D : va_G} {ad : Adr} {cy : Nat → ClassId} {A : Nat → Prop} {H0 : Heap} {o : Nat → Int64} {S : Mem} {H : Heap} {locs : List Loc} {P i index : Nat} {x : Int32} (hM : CallFix p m c cc nL s args lw_all own) (hK : KW D cy s) (hX : PW D ad cy A H0 o S H locs) (hm : (1, P, i) ∈ idl) (hlink : Cond.fieldLink own index (TX1 2).1 (TX1 2).2.1 (TX1 2).2.2.1 ∈ lw_all) (hdg : decode cc pc = .ok (.putfield index, 3)) (kk : ∀ S1 : Mem, S1 = uc S 1 P i (upd (S 1 P i) 2 x) → ∀ (H1 : Heap) (locs1 : List Loc), PW D ad cy A H0 o S1 H1 locs1 → W p l e R s m args below meth c H1 locs1 cells slots Q (F0 m (pc + 3) ls rest)) : W p l e R s m args below meth c H locs cells slots Q (F0 m pc ls (.int x :: .ref (ad 1 P i) :: rest)) := r_put (f2 := upd (S 1 P i) 2 x) (ty := .int) hM hK hX tyX1 tyX1_ok nmX1 hm rfl rfl qu_1 2 (by decide) hlink rfl rfl rfl rfl (by simp) rfl hdg kk
theorem p1_3 {p : Program} {l : Launch} {e : Env} {R : Room} {s : State} {m : MethodId} {args : Array Value} {below : List Frame} {meth : Method} {c : Code} {cells slots : Nat} {Q : State → Prop} {ls : Array Slot} {pc : Nat} {rest : List Value} {cc : ByteArray} {nL : Nat} {own : String} {D : va_G} {ad : Adr} {cy : Nat → ClassId} {A : Nat → Prop} {H0 : Heap} {o : Nat → Int64} {S : Mem} {H : Heap} {locs : List Loc} {P i index : Nat} {x : Int32} (hM : CallFix p m c cc nL s args lw_all own) (hK : KW D cy s) (hX : PW D ad cy A H0 o S H locs) (hm : (1, P, i) ∈ idl) (hlink : Cond.fieldLink own index (TX1 3).1 (TX1 3).2.1 (TX1 3).2.2.1 ∈ lw_all) (hdg : decode cc pc = .ok (.putfield index, 3)) (kk : ∀ S1 : Mem, S1 = uc S 1 P i (upd (S 1 P i) 3 x) → ∀ (H1 : Heap) (locs1 : List Loc), PW D ad cy A H0 o S1 H1 locs1 → W p l e R s m args below meth c H1 locs1 cells slots Q (F0 m (pc + 3) ls rest)) : W p l e R s m args below meth c H locs cells slots Q (F0 m pc ls (.int x :: .ref (ad 1 P i) :: rest)) := r_put (f2 := upd (S 1 P i) 3 x) (ty := .int) hM hK hX tyX1 tyX1_ok nmX1 hm rfl rfl qu_1 3 (by decide) hlink rfl rfl rfl rfl (by simp) rfl hdg kk
theorem g2 {p : Program} {l : Launch} {e : Env} {R : Room} {s : State} {m : MethodId} {args : Array Value} {below : List Frame} {meth : Method} {c : Code} {cells slots : Nat} {Q : State → Prop} {ls : Array Slot} {pc : Nat} {rest : List Value} {cc : ByteArray} {nL : Nat} {own : String} {D : va_G} {ad : Adr} {cy : Nat → ClassId} {A : Nat → Prop} {H0 : Heap} {o : Nat → Int64} {S : Mem} {H : Heap} {locs : List Loc} {P i index : Nat} {v : Value} (hM : CallFix p m c cc nL s args lw_all own) (hK : KW D cy s) (hX : PW D ad cy A H0 o S H locs) (hm : (2, P, i) ∈ idl) (k : Nat) (hk : k < 8) (hlink : Cond.fieldLink own index (TX2 k).1 (TX2 k).2.1 (TX2 k).2.2.1 ∈ lw_all) (hv : (fs2 ad P i (S 2 P i))[k]? = some v) (hdg : decode cc pc = .ok (.getfield index, 3)) (kk : W p l e R s m args below meth c H locs cells slots Q (F0 m (pc + 3) ls (v :: rest))) : W p l e R s m args below meth c H locs cells slots Q (F0 m pc ls (.ref (ad 2 P i) :: rest)) := r_get hM hK hX hm rfl rfl qu_2 k hk hlink hv hdg kk
theorem v2 {s : State} {H H0 : Heap} {D : va_G} {ad : Adr} {cy : Nat → ClassId} {A : Nat → Prop} {o : Nat → Int64} {S : Mem} {locs : List Loc} {P i : Nat} (hK : KW D cy s) (hX : PW D ad cy A H0 o S H locs) (hm : (2, P, i) ∈ idl) : ∃ cell : Cell, H[ad 2 P i]? = some cell ∧ cell.vm.isStatics = false ∧ s.vm.findClass RX2 = some cell.cls := r_recv hK hX hm rfl rfl
theorem p2_1 {p : Program} {l : Launch} {e : Env} {R : Room} {s : State} {m : MethodId} {args : Array Value} {below : List Frame} {meth : Method} {c : Code} {cells slots : Nat} {Q : State → Prop} {ls : Array Slot} {pc : Nat} {rest : List Value} {cc : ByteArray} {nL : Nat} {own : String} {D : va_G} {ad : Adr} {cy : Nat → ClassId} {A : Nat → Prop} {H0 : Heap} {o : Nat → Int64} {S : Mem} {H : Heap} {locs : List Loc} {P i index : Nat} {x : Int32} (hM : CallFix p m c cc nL s args lw_all own) (hK : KW D cy s) (hX : PW D ad cy A H0 o S H locs) (hm : (2, P, i) ∈ idl) (hlink : Cond.fieldLink own index (TX2 1).1 (TX2 1).2.1 (TX2 1).2.2.1 ∈ lw_all) (hdg : decode cc pc = .ok (.putfield index, 3)) (kk : ∀ S1 : Mem, S1 = uc S 2 P i (upd (S 2 P i) 1 x) → ∀ (H1 : Heap) (locs1 : List Loc), PW D ad cy A H0 o S1 H1 locs1 → W p l e R s m args below meth c H1 locs1 cells slots Q (F0 m (pc + 3) ls rest)) : W p l e R s m args below meth c H locs cells slots Q (F0 m pc ls (.int x :: .ref (ad 2 P i) :: rest)) := r_put (f2 := upd (S 2 P i) 1 x) (ty := .int) hM hK hX tyX2 tyX2_ok nmX2 hm rfl rfl qu_2 1 (by decide) hlink rfl rfl rfl rfl (by simp) rfl hdg kk
theorem p2_2 {p : Program} {l : Launch} {e : Env} {R : Room} {s : State} {m : MethodId} {args : Array Value} {below : List Frame} {meth : Method} {c : Code} {cells slots : Nat} {Q : State → Prop} {ls : Array Slot} {pc : Nat} {rest : List Value} {cc : ByteArray} {nL : Nat} {own : String} {D : va_G} {ad : Adr} {cy : Nat → ClassId} {A : Nat → Prop} {H0 : Heap} {o : Nat → Int64} {S : Mem} {H : Heap} {locs : List Loc} {P i index : Nat} {x : Int32} (hM : CallFix p m c cc nL s args lw_all own) (hK : KW D cy s) (hX : PW D ad cy A H0 o S H locs) (hm : (2, P, i) ∈ idl) (hlink : Cond.fieldLink own index (TX2 2).1 (TX2 2).2.1 (TX2 2).2.2.1 ∈ lw_all) (hdg : decode cc pc = .ok (.putfield index, 3)) (kk : ∀ S1 : Mem, S1 = uc S 2 P i (upd (S 2 P i) 2 x) → ∀ (H1 : Heap) (locs1 : List Loc), PW D ad cy A H0 o S1 H1 locs1 → W p l e R s m args below meth c H1 locs1 cells slots Q (F0 m (pc + 3) ls rest)) : W p l e R s m args below meth c H locs cells slots Q (F0 m pc ls (.int x :: .ref (ad 2 P i) :: rest)) := r_put (f2 := upd (S 2 P i) 2 x) (ty := .int) hM hK hX tyX2 tyX2_ok nmX2 hm rfl rfl qu_2 2 (by decide) hlink rfl rfl rfl rfl (by simp) rfl hdg kk
theorem p2_3 {p : Program} {l : Launch} {e : Env} {R : Room} {s : State} {m : MethodId} {args : Array Value} {below : List Frame} {meth : Method} {c : Code} {cells slots : Nat} {Q : State → Prop} {ls : Array Slot} {pc : Nat} {rest : List Value} {cc : ByteArray} {nL : Nat} {own : String} {D : va_G} {ad : Adr} {cy : Nat → ClassId} {A : Nat → Prop} {H0 : Heap} {o : Nat → Int64} {S : Mem} {H : Heap} {locs : List Loc} {P i index : Nat} {x : Int32} (hM : CallFix p m c cc nL s args lw_all own) (hK : KW D cy s) (hX : PW D ad cy A H0 o S H locs) (hm : (2, P, i) ∈ idl) (hlink : Cond.fieldLink own index (TX2 3).1 (TX2 3).2.1 (TX2 3).2.2.1 ∈ lw_all) (hdg : decode cc pc = .ok (.putfield index, 3)) (kk : ∀ S1 : Mem, S1 = uc S 2 P i (upd (S 2 P i) 3 x) → ∀ (H1 : Heap) (locs1 : List Loc), PW D ad cy A H0 o S1 H1 locs1 → W p l e R s m args below meth c H1 locs1 cells slots Q (F0 m (pc + 3) ls rest)) : W p l e R s m args below meth c H locs cells slots Q (F0 m pc ls (.int x :: .ref (ad 2 P i) :: rest)) := r_put (f2 := upd (S 2 P i) 3 x) (ty := .int) hM hK hX tyX2 tyX2_ok nmX2 hm rfl rfl qu_2 3 (by decide) hlink rfl rfl rfl rfl (by simp) rfl hdg kk
theorem p2_4 {p : Program} {l : Launch} {e : Env} {R : Room} {s : State} {m : MethodId} {args : Array Value} {below : List Frame} {meth : Method} {c : Code} {cells slots : Nat} {Q : State → Prop} {ls : Array Slot} {pc : Nat} {rest : List Value} {cc : ByteArray} {nL : Nat} {own : String} {D : va_G} {ad : Adr} {cy : Nat → ClassId} {A : Nat → Prop} {H0 : Heap} {o : Nat → Int64} {S : Mem} {H : Heap} {locs : List Loc} {P i index : Nat} {x : Int32} (hM : CallFix p m c cc nL s args lw_all own) (hK : KW D cy s) (hX : PW D ad cy A H0 o S H locs) (hm : (2, P, i) ∈ idl) (hn : narrow .char (.int x) = .int x ∧ fits .char (.int x) = true) (hlink : Cond.fieldLink own index (TX2 4).1 (TX2 4).2.1 (TX2 4).2.2.1 ∈ lw_all) (hdg : decode cc pc = .ok (.putfield index, 3)) (kk : ∀ S1 : Mem, S1 = uc S 2 P i (upd (S 2 P i) 4 x) → ∀ (H1 : Heap) (locs1 : List Loc), PW D ad cy A H0 o S1 H1 locs1 → W p l e R s m args below meth c H1 locs1 cells slots Q (F0 m (pc + 3) ls rest)) : W p l e R s m args below meth c H locs cells slots Q (F0 m pc ls (.int x :: .ref (ad 2 P i) :: rest)) := r_put (f2 := upd (S 2 P i) 4 x) (ty := .char) hM hK hX tyX2 tyX2_ok nmX2 hm rfl rfl qu_2 4 (by decide) hlink rfl rfl hn.1 hn.2 (by simp) rfl hdg kk
theorem p2_5 {p : Program} {l : Launch} {e : Env} {R : Room} {s : State} {m : MethodId} {args : Array Value} {below : List Frame} {meth : Method} {c : Code} {cells slots : Nat} {Q : State → Prop} {ls : Array Slot} {pc : Nat} {rest : List Value} {cc : ByteArray} {nL : Nat} {own : String} {D : va_G} {ad : Adr} {cy : Nat → ClassId} {A : Nat → Prop} {H0 : Heap} {o : Nat → Int64} {S : Mem} {H : Heap} {locs : List Loc} {P i index : Nat} {x : Int32} (hM : CallFix p m c cc nL s args lw_all own) (hK : KW D cy s) (hX : PW D ad cy A H0 o S H locs) (hm : (2, P, i) ∈ idl) (hlink : Cond.fieldLink own index (TX2 5).1 (TX2 5).2.1 (TX2 5).2.2.1 ∈ lw_all) (hdg : decode cc pc = .ok (.putfield index, 3)) (kk : ∀ S1 : Mem, S1 = uc S 2 P i (upd (S 2 P i) 5 x) → ∀ (H1 : Heap) (locs1 : List Loc), PW D ad cy A H0 o S1 H1 locs1 → W p l e R s m args below meth c H1 locs1 cells slots Q (F0 m (pc + 3) ls rest)) : W p l e R s m args below meth c H locs cells slots Q (F0 m pc ls (.int x :: .ref (ad 2 P i) :: rest)) := r_put (f2 := upd (S 2 P i) 5 x) (ty := .int) hM hK hX tyX2 tyX2_ok nmX2 hm rfl rfl qu_2 5 (by decide) hlink rfl rfl rfl rfl (by simp) rfl hdg kk
theorem p2_6 {p : Program} {l : Launch} {e : Env} {R : Room} {s : State} {m : MethodId} {args : Array Value} {below : List Frame} {meth : Method} {c : Code} {cells slots : Nat} {Q : State → Prop} {ls : Array Slot} {pc : Nat} {rest : List Value} {cc : ByteArray} {nL : Nat} {own : String} {D : va_G} {ad : Adr} {cy : Nat → ClassId} {A : Nat → Prop} {H0 : Heap} {o : Nat → Int64} {S : Mem} {H : Heap} {locs : List Loc} {P i index : Nat} {x : Int32} (hM : CallFix p m c cc nL s args lw_all own) (hK : KW D cy s) (hX : PW D ad cy A H0 o S H locs) (hm : (2, P, i) ∈ idl) (hlink : Cond.fieldLink own index (TX2 6).1 (TX2 6).2.1 (TX2 6).2.2.1 ∈ lw_all) (hdg : decode cc pc = .ok (.putfield index, 3)) (kk : ∀ S1 : Mem, S1 = uc S 2 P i (upd (S 2 P i) 6 x) → ∀ (H1 : Heap) (locs1 : List Loc), PW D ad cy A H0 o S1 H1 locs1 → W p l e R s m args below meth c H1 locs1 cells slots Q (F0 m (pc + 3) ls rest)) : W p l e R s m args below meth c H locs cells slots Q (F0 m pc ls (.int x :: .ref (ad 2 P i) :: rest)) := r_put (f2 := upd (S 2 P i) 6 x) (ty := .int) hM hK hX tyX2 tyX2_ok nmX2 hm rfl rfl qu_2 6 (by decide) hlink rfl rfl rfl rfl (by simp) rfl hdg kk
theorem p2_7 {p : Program} {l : Launch} {e : Env} {R : Room} {s : State} {m : MethodId} {args : Array Value} {below : List Frame} {meth : Method} {c : Code} {cells slots : Nat} {Q : State → Prop} {ls : Array Slot} {pc : Nat} {rest : List Value} {cc : ByteArray} {nL : Nat} {own : String} {D : va_G} {ad : Adr} {cy : Nat → ClassId} {A : Nat → Prop} {H0 : Heap} {o : Nat → Int64} {S : Mem} {H : Heap} {locs : List Loc} {P i index : Nat} {x : Int32} (hM : CallFix p m c cc nL s args lw_all own) (hK : KW D cy s) (hX : PW D ad cy A H0 o S H locs) (hm : (2, P, i) ∈ idl) (hlink : Cond.fieldLink own index (TX2 7).1 (TX2 7).2.1 (TX2 7).2.2.1 ∈ lw_all) (hdg : decode cc pc = .ok (.putfield index, 3)) (kk : ∀ S1 : Mem, S1 = uc S 2 P i (upd (S 2 P i) 7 x) → ∀ (H1 : Heap) (locs1 : List Loc), PW D ad cy A H0 o S1 H1 locs1 → W p l e R s m args below meth c H1 locs1 cells slots Q (F0 m (pc + 3) ls rest)) : W p l e R s m args below meth c H locs cells slots Q (F0 m pc ls (.int x :: .ref (ad 2 P i) :: rest)) := r_put (f2 := upd (S 2 P i) 7 x) (ty := .int) hM hK hX tyX2 tyX2_ok nmX2 hm rfl rfl qu_2 7 (by decide) hlink rfl rfl rfl rfl (by simp) rfl hdg kk
theorem g3 {p : Program} {l : Launch} {e : Env} {R : Room} {s : State} {m : MethodId} {args : Array Value} {below : List Frame} {meth : Method} {c : Code} {cells slots : Nat} {Q : State → Prop} {ls : Array Slot} {pc : Nat} {rest : List Value} {cc : ByteArray} {nL : Nat} {own : String} {D : va_G} {ad : Adr} {cy : Nat → ClassId} {A : Nat → Prop} {H0 : Heap} {o : Nat → Int64} {S : Mem} {H : Heap} {locs : List Loc} {P i index : Nat} {v : Value} (hM : CallFix p m c cc nL s args lw_all own) (hK : KW D cy s) (hX : PW D ad cy A H0 o S H locs) (hm : (3, P, i) ∈ idl) (k : Nat) (hk : k < 13) (hlink : Cond.fieldLink own index (TX3 k).1 (TX3 k).2.1 (TX3 k).2.2.1 ∈ lw_all) (hv : (fs3 ad P i (S 3 P i))[k]? = some v) (hdg : decode cc pc = .ok (.getfield index, 3)) (kk : W p l e R s m args below meth c H locs cells slots Q (F0 m (pc + 3) ls (v :: rest))) : W p l e R s m args below meth c H locs cells slots Q (F0 m pc ls (.ref (ad 3 P i) :: rest)) := r_get hM hK hX hm rfl rfl qu_3 k hk hlink hv hdg kk
theorem v3 {s : State} {H H0 : Heap} {D : va_G} {ad : Adr} {cy : Nat → ClassId} {A : Nat → Prop} {o : Nat → Int64} {S : Mem} {locs : List Loc} {P i : Nat} (hK : KW D cy s) (hX : PW D ad cy A H0 o S H locs) (hm : (3, P, i) ∈ idl) : ∃ cell : Cell, H[ad 3 P i]? = some cell ∧ cell.vm.isStatics = false ∧ s.vm.findClass RX3 = some cell.cls := r_recv hK hX hm rfl rfl
theorem p3_5 {p : Program} {l : Launch} {e : Env} {R : Room} {s : State} {m : MethodId} {args : Array Value} {below : List Frame} {meth : Method} {c : Code} {cells slots : Nat} {Q : State → Prop} {ls : Array Slot} {pc : Nat} {rest : List Value} {cc : ByteArray} {nL : Nat} {own : String} {D : va_G} {ad : Adr} {cy : Nat → ClassId} {A : Nat → Prop} {H0 : Heap} {o : Nat → Int64} {S : Mem} {H : Heap} {locs : List Loc} {P i index : Nat} {x : Int32} (hM : CallFix p m c cc nL s args lw_all own) (hK : KW D cy s) (hX : PW D ad cy A H0 o S H locs) (hm : (3, P, i) ∈ idl) (hlink : Cond.fieldLink own index (TX3 5).1 (TX3 5).2.1 (TX3 5).2.2.1 ∈ lw_all) (hdg : decode cc pc = .ok (.putfield index, 3)) (kk : ∀ S1 : Mem, S1 = uc S 3 P i (upd (S 3 P i) 5 x) → ∀ (H1 : Heap) (locs1 : List Loc), PW D ad cy A H0 o S1 H1 locs1 → W p l e R s m args below meth c H1 locs1 cells slots Q (F0 m (pc + 3) ls rest)) : W p l e R s m args below meth c H locs cells slots Q (F0 m pc ls (.int x :: .ref (ad 3 P i) :: rest)) := r_put (f2 := upd (S 3 P i) 5 x) (ty := .int) hM hK hX tyX3 tyX3_ok nmX3 hm rfl rfl qu_3 5 (by decide) hlink rfl rfl rfl rfl (by simp) rfl hdg kk
theorem p3_6 {p : Program} {l : Launch} {e : Env} {R : Room} {s : State} {m : MethodId} {args : Array Value} {below : List Frame} {meth : Method} {c : Code} {cells slots : Nat} {Q : State → Prop} {ls : Array Slot} {pc : Nat} {rest : List Value} {cc : ByteArray} {nL : Nat} {own : String} {D : va_G} {ad : Adr} {cy : Nat → ClassId} {A : Nat → Prop} {H0 : Heap} {o : Nat → Int64} {S : Mem} {H : Heap} {locs : List Loc} {P i index : Nat} {x : Int32} (hM : CallFix p m c cc nL s args lw_all own) (hK : KW D cy s) (hX : PW D ad cy A H0 o S H locs) (hm : (3, P, i) ∈ idl) (hlink : Cond.fieldLink own index (TX3 6).1 (TX3 6).2.1 (TX3 6).2.2.1 ∈ lw_all) (hdg : decode cc pc = .ok (.putfield index, 3)) (kk : ∀ S1 : Mem, S1 = uc S 3 P i (upd (S 3 P i) 6 x) → ∀ (H1 : Heap) (locs1 : List Loc), PW D ad cy A H0 o S1 H1 locs1 → W p l e R s m args below meth c H1 locs1 cells slots Q (F0 m (pc + 3) ls rest)) : W p l e R s m args below meth c H locs cells slots Q (F0 m pc ls (.int x :: .ref (ad 3 P i) :: rest)) := r_put (f2 := upd (S 3 P i) 6 x) (ty := .int) hM hK hX tyX3 tyX3_ok nmX3 hm rfl rfl qu_3 6 (by decide) hlink rfl rfl rfl rfl (by simp) rfl hdg kk
theorem p3_7 {p : Program} {l : Launch} {e : Env} {R : Room} {s : State} {m : MethodId} {args : Array Value} {below : List Frame} {meth : Method} {c : Code} {cells slots : Nat} {Q : State → Prop} {ls : Array Slot} {pc : Nat} {rest : List Value} {cc : ByteArray} {nL : Nat} {own : String} {D : va_G} {ad : Adr} {cy : Nat → ClassId} {A : Nat → Prop} {H0 : Heap} {o : Nat → Int64} {S : Mem} {H : Heap} {locs : List Loc} {P i index : Nat} {x : Int32} (hM : CallFix p m c cc nL s args lw_all own) (hK : KW D cy s) (hX : PW D ad cy A H0 o S H locs) (hm : (3, P, i) ∈ idl) (hlink : Cond.fieldLink own index (TX3 7).1 (TX3 7).2.1 (TX3 7).2.2.1 ∈ lw_all) (hdg : decode cc pc = .ok (.putfield index, 3)) (kk : ∀ S1 : Mem, S1 = uc S 3 P i (upd (S 3 P i) 7 x) → ∀ (H1 : Heap) (locs1 : List Loc), PW D ad cy A H0 o S1 H1 locs1 → W p l e R s m args below meth c H1 locs1 cells slots Q (F0 m (pc + 3) ls rest)) : W p l e R s m args below meth c H locs cells slots Q (F0 m pc ls (.int x :: .ref (ad 3 P i) :: rest)) := r_put (f2 := upd (S 3 P i) 7 x) (ty := .int) hM hK hX tyX3 tyX3_ok nmX3 hm rfl rfl qu_3 7 (by decide) hlink rfl rfl rfl rfl (by simp) rfl hdg kk
theorem p3_8 {p : Program} {l : Launch} {e : Env} {R : Room} {s : State} {m : MethodId} {args : Array Value} {below : List Frame} {meth : Method} {c : Code} {cells slots : Nat} {Q : State → Prop} {ls : Array Slot} {pc : Nat} {rest : List Value} {cc : ByteArray} {nL : Nat} {own : String} {D : va_G} {ad : Adr} {cy : Nat → ClassId} {A : Nat → Prop} {H0 : Heap} {o : Nat → Int64} {S : Mem} {H : Heap} {locs : List Loc} {P i index : Nat} {x : Int32} (hM : CallFix p m c cc nL s args lw_all own) (hK : KW D cy s) (hX : PW D ad cy A H0 o S H locs) (hm : (3, P, i) ∈ idl) (hlink : Cond.fieldLink own index (TX3 8).1 (TX3 8).2.1 (TX3 8).2.2.1 ∈ lw_all) (hdg : decode cc pc = .ok (.putfield index, 3)) (kk : ∀ S1 : Mem, S1 = uc S 3 P i (upd (S 3 P i) 8 x) → ∀ (H1 : Heap) (locs1 : List Loc), PW D ad cy A H0 o S1 H1 locs1 → W p l e R s m args below meth c H1 locs1 cells slots Q (F0 m (pc + 3) ls rest)) : W p l e R s m args below meth c H locs cells slots Q (F0 m pc ls (.int x :: .ref (ad 3 P i) :: rest)) := r_put (f2 := upd (S 3 P i) 8 x) (ty := .int) hM hK hX tyX3 tyX3_ok nmX3 hm rfl rfl qu_3 8 (by decide) hlink rfl rfl rfl rfl (by simp) rfl hdg kk
theorem p3_9 {p : Program} {l : Launch} {e : Env} {R : Room} {s : State} {m : MethodId} {args : Array Value} {below : List Frame} {meth : Method} {c : Code} {cells slots : Nat} {Q : State → Prop} {ls : Array Slot} {pc : Nat} {rest : List Value} {cc : ByteArray} {nL : Nat} {own : String} {D : va_G} {ad : Adr} {cy : Nat → ClassId} {A : Nat → Prop} {H0 : Heap} {o : Nat → Int64} {S : Mem} {H : Heap} {locs : List Loc} {P i index : Nat} {x : Int32} (hM : CallFix p m c cc nL s args lw_all own) (hK : KW D cy s) (hX : PW D ad cy A H0 o S H locs) (hm : (3, P, i) ∈ idl) (hlink : Cond.fieldLink own index (TX3 9).1 (TX3 9).2.1 (TX3 9).2.2.1 ∈ lw_all) (hdg : decode cc pc = .ok (.putfield index, 3)) (kk : ∀ S1 : Mem, S1 = uc S 3 P i (upd (S 3 P i) 9 x) → ∀ (H1 : Heap) (locs1 : List Loc), PW D ad cy A H0 o S1 H1 locs1 → W p l e R s m args below meth c H1 locs1 cells slots Q (F0 m (pc + 3) ls rest)) : W p l e R s m args below meth c H locs cells slots Q (F0 m pc ls (.int x :: .ref (ad 3 P i) :: rest)) := r_put (f2 := upd (S 3 P i) 9 x) (ty := .int) hM hK hX tyX3 tyX3_ok nmX3 hm rfl rfl qu_3 9 (by decide) hlink rfl rfl rfl rfl (by simp) rfl hdg kk
theorem p3_10 {p : Program} {l : Launch} {e : Env} {R : Room} {s : State} {m : MethodId} {args : Array Value} {below : List Frame} {meth : Method} {c : Code} {cells slots : Nat} {Q : State → Prop} {ls : Array Slot} {pc : Nat} {rest : List Value} {cc : ByteArray} {nL : Nat} {own : String} {D : va_G} {ad : Adr} {cy : Nat → ClassId} {A : Nat → Prop} {H0 : Heap} {o : Nat → Int64} {S : Mem} {H : Heap} {locs : List Loc} {P i index : Nat} {x : Int32} (hM : CallFix p m c cc nL s args lw_all own) (hK : KW D cy s) (hX : PW D ad cy A H0 o S H locs) (hm : (3, P, i) ∈ idl) (hlink : Cond.fieldLink own index (TX3 10).1 (TX3 10).2.1 (TX3 10).2.2.1 ∈ lw_all) (hdg : decode cc pc = .ok (.putfield index, 3)) (kk : ∀ S1 : Mem, S1 = uc S 3 P i (upd (S 3 P i) 10 x) → ∀ (H1 : Heap) (locs1 : List Loc), PW D ad cy A H0 o S1 H1 locs1 → W p l e R s m args below meth c H1 locs1 cells slots Q (F0 m (pc + 3) ls rest)) : W p l e R s m args below meth c H locs cells slots Q (F0 m pc ls (.int x :: .ref (ad 3 P i) :: rest)) := r_put (f2 := upd (S 3 P i) 10 x) (ty := .int) hM hK hX tyX3 tyX3_ok nmX3 hm rfl rfl qu_3 10 (by decide) hlink rfl rfl rfl rfl (by simp) rfl hdg kk
theorem p3_11 {p : Program} {l : Launch} {e : Env} {R : Room} {s : State} {m : MethodId} {args : Array Value} {below : List Frame} {meth : Method} {c : Code} {cells slots : Nat} {Q : State → Prop} {ls : Array Slot} {pc : Nat} {rest : List Value} {cc : ByteArray} {nL : Nat} {own : String} {D : va_G} {ad : Adr} {cy : Nat → ClassId} {A : Nat → Prop} {H0 : Heap} {o : Nat → Int64} {S : Mem} {H : Heap} {locs : List Loc} {P i index : Nat} {x : Int32} (hM : CallFix p m c cc nL s args lw_all own) (hK : KW D cy s) (hX : PW D ad cy A H0 o S H locs) (hm : (3, P, i) ∈ idl) (hlink : Cond.fieldLink own index (TX3 11).1 (TX3 11).2.1 (TX3 11).2.2.1 ∈ lw_all) (hdg : decode cc pc = .ok (.putfield index, 3)) (kk : ∀ S1 : Mem, S1 = uc S 3 P i (upd (S 3 P i) 11 x) → ∀ (H1 : Heap) (locs1 : List Loc), PW D ad cy A H0 o S1 H1 locs1 → W p l e R s m args below meth c H1 locs1 cells slots Q (F0 m (pc + 3) ls rest)) : W p l e R s m args below meth c H locs cells slots Q (F0 m pc ls (.int x :: .ref (ad 3 P i) :: rest)) := r_put (f2 := upd (S 3 P i) 11 x) (ty := .int) hM hK hX tyX3 tyX3_ok nmX3 hm rfl rfl qu_3 11 (by decide) hlink rfl rfl rfl rfl (by simp) rfl hdg kk
theorem p3_12 {p : Program} {l : Launch} {e : Env} {R : Room} {s : State} {m : MethodId} {args : Array Value} {below : List Frame} {meth : Method} {c : Code} {cells slots : Nat} {Q : State → Prop} {ls : Array Slot} {pc : Nat} {rest : List Value} {cc : ByteArray} {nL : Nat} {own : String} {D : va_G} {ad : Adr} {cy : Nat → ClassId} {A : Nat → Prop} {H0 : Heap} {o : Nat → Int64} {S : Mem} {H : Heap} {locs : List Loc} {P i index : Nat} {x : Int32} (hM : CallFix p m c cc nL s args lw_all own) (hK : KW D cy s) (hX : PW D ad cy A H0 o S H locs) (hm : (3, P, i) ∈ idl) (hlink : Cond.fieldLink own index (TX3 12).1 (TX3 12).2.1 (TX3 12).2.2.1 ∈ lw_all) (hdg : decode cc pc = .ok (.putfield index, 3)) (kk : ∀ S1 : Mem, S1 = uc S 3 P i (upd (S 3 P i) 12 x) → ∀ (H1 : Heap) (locs1 : List Loc), PW D ad cy A H0 o S1 H1 locs1 → W p l e R s m args below meth c H1 locs1 cells slots Q (F0 m (pc + 3) ls rest)) : W p l e R s m args below meth c H locs cells slots Q (F0 m pc ls (.int x :: .ref (ad 3 P i) :: rest)) := r_put (f2 := upd (S 3 P i) 12 x) (ty := .int) hM hK hX tyX3 tyX3_ok nmX3 hm rfl rfl qu_3 12 (by decide) hlink rfl rfl rfl rfl (by simp) rfl hdg kk
theorem g4 {p : Program} {l : Launch} {e : Env} {R : Room} {s : State} {m : MethodId} {args : Array Value} {below : List Frame} {meth : Method} {c : Code} {cells slots : Nat} {Q : State → Prop} {ls : Array Slot} {pc : Nat} {rest : List Value} {cc : ByteArray} {nL : Nat} {own : String} {D : va_G} {ad : Adr} {cy : Nat → ClassId} {A : Nat → Prop} {H0 : Heap} {o : Nat → Int64} {S : Mem} {H : Heap} {locs : List Loc} {P i index : Nat} {v : Value} (hM : CallFix p m c cc nL s args lw_all own) (hK : KW D cy s) (hX : PW D ad cy A H0 o S H locs) (hm : (4, P, i) ∈ idl) (k : Nat) (hk : k < 2) (hlink : Cond.fieldLink own index (TX4 k).1 (TX4 k).2.1 (TX4 k).2.2.1 ∈ lw_all) (hv : (fs4 ad P i (S 4 P i))[k]? = some v) (hdg : decode cc pc = .ok (.getfield index, 3)) (kk : W p l e R s m args below meth c H locs cells slots Q (F0 m (pc + 3) ls (v :: rest))) : W p l e R s m args below meth c H locs cells slots Q (F0 m pc ls (.ref (ad 4 P i) :: rest)) := r_get hM hK hX hm rfl rfl qu_4 k hk hlink hv hdg kk
theorem v4 {s : State} {H H0 : Heap} {D : va_G} {ad : Adr} {cy : Nat → ClassId} {A : Nat → Prop} {o : Nat → Int64} {S : Mem} {locs : List Loc} {P i : Nat} (hK : KW D cy s) (hX : PW D ad cy A H0 o S H locs) (hm : (4, P, i) ∈ idl) : ∃ cell : Cell, H[ad 4 P i]? = some cell ∧ cell.vm.isStatics = false ∧ s.vm.findClass RX4 = some cell.cls := r_recv hK hX hm rfl rfl
theorem p4_1 {p : Program} {l : Launch} {e : Env} {R : Room} {s : State} {m : MethodId} {args : Array Value} {below : List Frame} {meth : Method} {c : Code} {cells slots : Nat} {Q : State → Prop} {ls : Array Slot} {pc : Nat} {rest : List Value} {cc : ByteArray} {nL : Nat} {own : String} {D : va_G} {ad : Adr} {cy : Nat → ClassId} {A : Nat → Prop} {H0 : Heap} {o : Nat → Int64} {S : Mem} {H : Heap} {locs : List Loc} {P i index : Nat} {x : Int32} (hM : CallFix p m c cc nL s args lw_all own) (hK : KW D cy s) (hX : PW D ad cy A H0 o S H locs) (hm : (4, P, i) ∈ idl) (hn : narrow .boolean (.int x) = .int x ∧ fits .boolean (.int x) = true) (hlink : Cond.fieldLink own index (TX4 1).1 (TX4 1).2.1 (TX4 1).2.2.1 ∈ lw_all) (hdg : decode cc pc = .ok (.putfield index, 3)) (kk : ∀ S1 : Mem, S1 = uc S 4 P i (upd (S 4 P i) 1 x) → ∀ (H1 : Heap) (locs1 : List Loc), PW D ad cy A H0 o S1 H1 locs1 → W p l e R s m args below meth c H1 locs1 cells slots Q (F0 m (pc + 3) ls rest)) : W p l e R s m args below meth c H locs cells slots Q (F0 m pc ls (.int x :: .ref (ad 4 P i) :: rest)) := r_put (f2 := upd (S 4 P i) 1 x) (ty := .boolean) hM hK hX tyX4 tyX4_ok nmX4 hm rfl rfl qu_4 1 (by decide) hlink rfl rfl hn.1 hn.2 (by simp) rfl hdg kk
theorem g5 {p : Program} {l : Launch} {e : Env} {R : Room} {s : State} {m : MethodId} {args : Array Value} {below : List Frame} {meth : Method} {c : Code} {cells slots : Nat} {Q : State → Prop} {ls : Array Slot} {pc : Nat} {rest : List Value} {cc : ByteArray} {nL : Nat} {own : String} {D : va_G} {ad : Adr} {cy : Nat → ClassId} {A : Nat → Prop} {H0 : Heap} {o : Nat → Int64} {S : Mem} {H : Heap} {locs : List Loc} {P i index : Nat} {v : Value} (hM : CallFix p m c cc nL s args lw_all own) (hK : KW D cy s) (hX : PW D ad cy A H0 o S H locs) (hm : (5, P, i) ∈ idl) (k : Nat) (hk : k < 12) (hlink : Cond.fieldLink own index (TX5 k).1 (TX5 k).2.1 (TX5 k).2.2.1 ∈ lw_all) (hv : (fs5 ad P i (S 5 P i))[k]? = some v) (hdg : decode cc pc = .ok (.getfield index, 3)) (kk : W p l e R s m args below meth c H locs cells slots Q (F0 m (pc + 3) ls (v :: rest))) : W p l e R s m args below meth c H locs cells slots Q (F0 m pc ls (.ref (ad 5 P i) :: rest)) := r_get hM hK hX hm rfl rfl qu_5 k hk hlink hv hdg kk
theorem v5 {s : State} {H H0 : Heap} {D : va_G} {ad : Adr} {cy : Nat → ClassId} {A : Nat → Prop} {o : Nat → Int64} {S : Mem} {locs : List Loc} {P i : Nat} (hK : KW D cy s) (hX : PW D ad cy A H0 o S H locs) (hm : (5, P, i) ∈ idl) : ∃ cell : Cell, H[ad 5 P i]? = some cell ∧ cell.vm.isStatics = false ∧ s.vm.findClass RX5 = some cell.cls := r_recv hK hX hm rfl rfl
theorem p5_2 {p : Program} {l : Launch} {e : Env} {R : Room} {s : State} {m : MethodId} {args : Array Value} {below : List Frame} {meth : Method} {c : Code} {cells slots : Nat} {Q : State → Prop} {ls : Array Slot} {pc : Nat} {rest : List Value} {cc : ByteArray} {nL : Nat} {own : String} {D : va_G} {ad : Adr} {cy : Nat → ClassId} {A : Nat → Prop} {H0 : Heap} {o : Nat → Int64} {S : Mem} {H : Heap} {locs : List Loc} {P i index : Nat} {x : Int32} (hM : CallFix p m c cc nL s args lw_all own) (hK : KW D cy s) (hX : PW D ad cy A H0 o S H locs) (hm : (5, P, i) ∈ idl) (hlink : Cond.fieldLink own index (TX5 2).1 (TX5 2).2.1 (TX5 2).2.2.1 ∈ lw_all) (hdg : decode cc pc = .ok (.putfield index, 3)) (kk : ∀ S1 : Mem, S1 = uc S 5 P i (upd (S 5 P i) 2 x) → ∀ (H1 : Heap) (locs1 : List Loc), PW D ad cy A H0 o S1 H1 locs1 → W p l e R s m args below meth c H1 locs1 cells slots Q (F0 m (pc + 3) ls rest)) : W p l e R s m args below meth c H locs cells slots Q (F0 m pc ls (.int x :: .ref (ad 5 P i) :: rest)) := r_put (f2 := upd (S 5 P i) 2 x) (ty := .int) hM hK hX tyX5 tyX5_ok nmX5 hm rfl rfl qu_5 2 (by decide) hlink rfl rfl rfl rfl (by simp) rfl hdg kk
theorem p5_3 {p : Program} {l : Launch} {e : Env} {R : Room} {s : State} {m : MethodId} {args : Array Value} {below : List Frame} {meth : Method} {c : Code} {cells slots : Nat} {Q : State → Prop} {ls : Array Slot} {pc : Nat} {rest : List Value} {cc : ByteArray} {nL : Nat} {own : String} {D : va_G} {ad : Adr} {cy : Nat → ClassId} {A : Nat → Prop} {H0 : Heap} {o : Nat → Int64} {S : Mem} {H : Heap} {locs : List Loc} {P i index : Nat} {x : Int32} (hM : CallFix p m c cc nL s args lw_all own) (hK : KW D cy s) (hX : PW D ad cy A H0 o S H locs) (hm : (5, P, i) ∈ idl) (hlink : Cond.fieldLink own index (TX5 3).1 (TX5 3).2.1 (TX5 3).2.2.1 ∈ lw_all) (hdg : decode cc pc = .ok (.putfield index, 3)) (kk : ∀ S1 : Mem, S1 = uc S 5 P i (upd (S 5 P i) 3 x) → ∀ (H1 : Heap) (locs1 : List Loc), PW D ad cy A H0 o S1 H1 locs1 → W p l e R s m args below meth c H1 locs1 cells slots Q (F0 m (pc + 3) ls rest)) : W p l e R s m args below meth c H locs cells slots Q (F0 m pc ls (.int x :: .ref (ad 5 P i) :: rest)) := r_put (f2 := upd (S 5 P i) 3 x) (ty := .int) hM hK hX tyX5 tyX5_ok nmX5 hm rfl rfl qu_5 3 (by decide) hlink rfl rfl rfl rfl (by simp) rfl hdg kk
theorem p5_4 {p : Program} {l : Launch} {e : Env} {R : Room} {s : State} {m : MethodId} {args : Array Value} {below : List Frame} {meth : Method} {c : Code} {cells slots : Nat} {Q : State → Prop} {ls : Array Slot} {pc : Nat} {rest : List Value} {cc : ByteArray} {nL : Nat} {own : String} {D : va_G} {ad : Adr} {cy : Nat → ClassId} {A : Nat → Prop} {H0 : Heap} {o : Nat → Int64} {S : Mem} {H : Heap} {locs : List Loc} {P i index : Nat} {x : Int32} (hM : CallFix p m c cc nL s args lw_all own) (hK : KW D cy s) (hX : PW D ad cy A H0 o S H locs) (hm : (5, P, i) ∈ idl) (hlink : Cond.fieldLink own index (TX5 4).1 (TX5 4).2.1 (TX5 4).2.2.1 ∈ lw_all) (hdg : decode cc pc = .ok (.putfield index, 3)) (kk : ∀ S1 : Mem, S1 = uc S 5 P i (upd (S 5 P i) 4 x) → ∀ (H1 : Heap) (locs1 : List Loc), PW D ad cy A H0 o S1 H1 locs1 → W p l e R s m args below meth c H1 locs1 cells slots Q (F0 m (pc + 3) ls rest)) : W p l e R s m args below meth c H locs cells slots Q (F0 m pc ls (.int x :: .ref (ad 5 P i) :: rest)) := r_put (f2 := upd (S 5 P i) 4 x) (ty := .int) hM hK hX tyX5 tyX5_ok nmX5 hm rfl rfl qu_5 4 (by decide) hlink rfl rfl rfl rfl (by simp) rfl hdg kk
theorem p5_5 {p : Program} {l : Launch} {e : Env} {R : Room} {s : State} {m : MethodId} {args : Array Value} {below : List Frame} {meth : Method} {c : Code} {cells slots : Nat} {Q : State → Prop} {ls : Array Slot} {pc : Nat} {rest : List Value} {cc : ByteArray} {nL : Nat} {own : String} {D : va_G} {ad : Adr} {cy : Nat → ClassId} {A : Nat → Prop} {H0 : Heap} {o : Nat → Int64} {S : Mem} {H : Heap} {locs : List Loc} {P i index : Nat} {x : Int32} (hM : CallFix p m c cc nL s args lw_all own) (hK : KW D cy s) (hX : PW D ad cy A H0 o S H locs) (hm : (5, P, i) ∈ idl) (hlink : Cond.fieldLink own index (TX5 5).1 (TX5 5).2.1 (TX5 5).2.2.1 ∈ lw_all) (hdg : decode cc pc = .ok (.putfield index, 3)) (kk : ∀ S1 : Mem, S1 = uc S 5 P i (upd (S 5 P i) 5 x) → ∀ (H1 : Heap) (locs1 : List Loc), PW D ad cy A H0 o S1 H1 locs1 → W p l e R s m args below meth c H1 locs1 cells slots Q (F0 m (pc + 3) ls rest)) : W p l e R s m args below meth c H locs cells slots Q (F0 m pc ls (.int x :: .ref (ad 5 P i) :: rest)) := r_put (f2 := upd (S 5 P i) 5 x) (ty := .int) hM hK hX tyX5 tyX5_ok nmX5 hm rfl rfl qu_5 5 (by decide) hlink rfl rfl rfl rfl (by simp) rfl hdg kk
theorem p5_6 {p : Program} {l : Launch} {e : Env} {R : Room} {s : State} {m : MethodId} {args : Array Value} {below : List Frame} {meth : Method} {c : Code} {cells slots : Nat} {Q : State → Prop} {ls : Array Slot} {pc : Nat} {rest : List Value} {cc : ByteArray} {nL : Nat} {own : String} {D : va_G} {ad : Adr} {cy : Nat → ClassId} {A : Nat → Prop} {H0 : Heap} {o : Nat → Int64} {S : Mem} {H : Heap} {locs : List Loc} {P i index : Nat} {x : Int32} (hM : CallFix p m c cc nL s args lw_all own) (hK : KW D cy s) (hX : PW D ad cy A H0 o S H locs) (hm : (5, P, i) ∈ idl) (hlink : Cond.fieldLink own index (TX5 6).1 (TX5 6).2.1 (TX5 6).2.2.1 ∈ lw_all) (hdg : decode cc pc = .ok (.putfield index, 3)) (kk : ∀ S1 : Mem, S1 = uc S 5 P i (upd (S 5 P i) 6 x) → ∀ (H1 : Heap) (locs1 : List Loc), PW D ad cy A H0 o S1 H1 locs1 → W p l e R s m args below meth c H1 locs1 cells slots Q (F0 m (pc + 3) ls rest)) : W p l e R s m args below meth c H locs cells slots Q (F0 m pc ls (.int x :: .ref (ad 5 P i) :: rest)) := r_put (f2 := upd (S 5 P i) 6 x) (ty := .int) hM hK hX tyX5 tyX5_ok nmX5 hm rfl rfl qu_5 6 (by decide) hlink rfl rfl rfl rfl (by simp) rfl hdg kk
theorem p5_7 {p : Program} {l : Launch} {e : Env} {R : Room} {s : State} {m : MethodId} {args : Array Value} {below : List Frame} {meth : Method} {c : Code} {cells slots : Nat} {Q : State → Prop} {ls : Array Slot} {pc : Nat} {rest : List Value} {cc : ByteArray} {nL : Nat} {own : String} {D : va_G} {ad : Adr} {cy : Nat → ClassId} {A : Nat → Prop} {H0 : Heap} {o : Nat → Int64} {S : Mem} {H : Heap} {locs : List Loc} {P i index : Nat} {x : Int32} (hM : CallFix p m c cc nL s args lw_all own) (hK : KW D cy s) (hX : PW D ad cy A H0 o S H locs) (hm : (5, P, i) ∈ idl) (hlink : Cond.fieldLink own index (TX5 7).1 (TX5 7).2.1 (TX5 7).2.2.1 ∈ lw_all) (hdg : decode cc pc = .ok (.putfield index, 3)) (kk : ∀ S1 : Mem, S1 = uc S 5 P i (upd (S 5 P i) 7 x) → ∀ (H1 : Heap) (locs1 : List Loc), PW D ad cy A H0 o S1 H1 locs1 → W p l e R s m args below meth c H1 locs1 cells slots Q (F0 m (pc + 3) ls rest)) : W p l e R s m args below meth c H locs cells slots Q (F0 m pc ls (.int x :: .ref (ad 5 P i) :: rest)) := r_put (f2 := upd (S 5 P i) 7 x) (ty := .int) hM hK hX tyX5 tyX5_ok nmX5 hm rfl rfl qu_5 7 (by decide) hlink rfl rfl rfl rfl (by simp) rfl hdg kk
theorem p5_8 {p : Program} {l : Launch} {e : Env} {R : Room} {s : State} {m : MethodId} {args : Array Value} {below : List Frame} {meth : Method} {c : Code} {cells slots : Nat} {Q : State → Prop} {ls : Array Slot} {pc : Nat} {rest : List Value} {cc : ByteArray} {nL : Nat} {own : String} {D : va_G} {ad : Adr} {cy : Nat → ClassId} {A : Nat → Prop} {H0 : Heap} {o : Nat → Int64} {S : Mem} {H : Heap} {locs : List Loc} {P i index : Nat} {x : Int32} (hM : CallFix p m c cc nL s args lw_all own) (hK : KW D cy s) (hX : PW D ad cy A H0 o S H locs) (hm : (5, P, i) ∈ idl) (hlink : Cond.fieldLink own index (TX5 8).1 (TX5 8).2.1 (TX5 8).2.2.1 ∈ lw_all) (hdg : decode cc pc = .ok (.putfield index, 3)) (kk : ∀ S1 : Mem, S1 = uc S 5 P i (upd (S 5 P i) 8 x) → ∀ (H1 : Heap) (locs1 : List Loc), PW D ad cy A H0 o S1 H1 locs1 → W p l e R s m args below meth c H1 locs1 cells slots Q (F0 m (pc + 3) ls rest)) : W p l e R s m args below meth c H locs cells slots Q (F0 m pc ls (.int x :: .ref (ad 5 P i) :: rest)) := r_put (f2 := upd (S 5 P i) 8 x) (ty := .int) hM hK hX tyX5 tyX5_ok nmX5 hm rfl rfl qu_5 8 (by decide) hlink rfl rfl rfl rfl (by simp) rfl hdg kk
theorem p5_9 {p : Program} {l : Launch} {e : Env} {R : Room} {s : State} {m : MethodId} {args : Array Value} {below : List Frame} {meth : Method} {c : Code} {cells slots : Nat} {Q : State → Prop} {ls : Array Slot} {pc : Nat} {rest : List Value} {cc : ByteArray} {nL : Nat} {own : String} {D : va_G} {ad : Adr} {cy : Nat → ClassId} {A : Nat → Prop} {H0 : Heap} {o : Nat → Int64} {S : Mem} {H : Heap} {locs : List Loc} {P i index : Nat} {x : Int32} (hM : CallFix p m c cc nL s args lw_all own) (hK : KW D cy s) (hX : PW D ad cy A H0 o S H locs) (hm : (5, P, i) ∈ idl) (hlink : Cond.fieldLink own index (TX5 9).1 (TX5 9).2.1 (TX5 9).2.2.1 ∈ lw_all) (hdg : decode cc pc = .ok (.putfield index, 3)) (kk : ∀ S1 : Mem, S1 = uc S 5 P i (upd (S 5 P i) 9 x) → ∀ (H1 : Heap) (locs1 : List Loc), PW D ad cy A H0 o S1 H1 locs1 → W p l e R s m args below meth c H1 locs1 cells slots Q (F0 m (pc + 3) ls rest)) : W p l e R s m args below meth c H locs cells slots Q (F0 m pc ls (.int x :: .ref (ad 5 P i) :: rest)) := r_put (f2 := upd (S 5 P i) 9 x) (ty := .int) hM hK hX tyX5 tyX5_ok nmX5 hm rfl rfl qu_5 9 (by decide) hlink rfl rfl rfl rfl (by simp) rfl hdg kk
theorem p5_10 {p : Program} {l : Launch} {e : Env} {R : Room} {s : State} {m : MethodId} {args : Array Value} {below : List Frame} {meth : Method} {c : Code} {cells slots : Nat} {Q : State → Prop} {ls : Array Slot} {pc : Nat} {rest : List Value} {cc : ByteArray} {nL : Nat} {own : String} {D : va_G} {ad : Adr} {cy : Nat → ClassId} {A : Nat → Prop} {H0 : Heap} {o : Nat → Int64} {S : Mem} {H : Heap} {locs : List Loc} {P i index : Nat} {x : Int32} (hM : CallFix p m c cc nL s args lw_all own) (hK : KW D cy s) (hX : PW D ad cy A H0 o S H locs) (hm : (5, P, i) ∈ idl) (hn : narrow .boolean (.int x) = .int x ∧ fits .boolean (.int x) = true) (hlink : Cond.fieldLink own index (TX5 10).1 (TX5 10).2.1 (TX5 10).2.2.1 ∈ lw_all) (hdg : decode cc pc = .ok (.putfield index, 3)) (kk : ∀ S1 : Mem, S1 = uc S 5 P i (upd (S 5 P i) 10 x) → ∀ (H1 : Heap) (locs1 : List Loc), PW D ad cy A H0 o S1 H1 locs1 → W p l e R s m args below meth c H1 locs1 cells slots Q (F0 m (pc + 3) ls rest)) : W p l e R s m args below meth c H locs cells slots Q (F0 m pc ls (.int x :: .ref (ad 5 P i) :: rest)) := r_put (f2 := upd (S 5 P i) 10 x) (ty := .boolean) hM hK hX tyX5 tyX5_ok nmX5 hm rfl rfl qu_5 10 (by decide) hlink rfl rfl hn.1 hn.2 (by simp) rfl hdg kk
theorem p5_11 {p : Program} {l : Launch} {e : Env} {R : Room} {s : State} {m : MethodId} {args : Array Value} {below : List Frame} {meth : Method} {c : Code} {cells slots : Nat} {Q : State → Prop} {ls : Array Slot} {pc : Nat} {rest : List Value} {cc : ByteArray} {nL : Nat} {own : String} {D : va_G} {ad : Adr} {cy : Nat → ClassId} {A : Nat → Prop} {H0 : Heap} {o : Nat → Int64} {S : Mem} {H : Heap} {locs : List Loc} {P i index : Nat} {x : Int32} (hM : CallFix p m c cc nL s args lw_all own) (hK : KW D cy s) (hX : PW D ad cy A H0 o S H locs) (hm : (5, P, i) ∈ idl) (hlink : Cond.fieldLink own index (TX5 11).1 (TX5 11).2.1 (TX5 11).2.2.1 ∈ lw_all) (hdg : decode cc pc = .ok (.putfield index, 3)) (kk : ∀ S1 : Mem, S1 = uc S 5 P i (upd (S 5 P i) 11 x) → ∀ (H1 : Heap) (locs1 : List Loc), PW D ad cy A H0 o S1 H1 locs1 → W p l e R s m args below meth c H1 locs1 cells slots Q (F0 m (pc + 3) ls rest)) : W p l e R s m args below meth c H locs cells slots Q (F0 m pc ls (.int x :: .ref (ad 5 P i) :: rest)) := r_put (f2 := upd (S 5 P i) 11 x) (ty := .int) hM hK hX tyX5 tyX5_ok nmX5 hm rfl rfl qu_5 11 (by decide) hlink rfl rfl rfl rfl (by simp) rfl hdg kk
theorem g14 {p : Program} {l : Launch} {e : Env} {R : Room} {s : State} {m : MethodId} {args : Array Value} {below : List Frame} {meth : Method} {c : Code} {cells slots : Nat} {Q : State → Prop} {ls : Array Slot} {pc : Nat} {rest : List Value} {cc : ByteArray} {nL : Nat} {own : String} {D : va_G} {ad : Adr} {cy : Nat → ClassId} {A : Nat → Prop} {H0 : Heap} {o : Nat → Int64} {S : Mem} {H : Heap} {locs : List Loc} {P i index : Nat} {v : Value} (hM : CallFix p m c cc nL s args lw_all own) (hK : KW D cy s) (hX : PW D ad cy A H0 o S H locs) (hm : (14, P, i) ∈ idl) (k : Nat) (hk : k < 6) (hlink : Cond.fieldLink own index (TX6 k).1 (TX6 k).2.1 (TX6 k).2.2.1 ∈ lw_all) (hv : (fs14 ad P i (S 14 P i))[k]? = some v) (hdg : decode cc pc = .ok (.getfield index, 3)) (kk : W p l e R s m args below meth c H locs cells slots Q (F0 m (pc + 3) ls (v :: rest))) : W p l e R s m args below meth c H locs cells slots Q (F0 m pc ls (.ref (ad 14 P i) :: rest)) := r_get hM hK hX hm rfl rfl qu_6 k hk hlink hv hdg kk
theorem v14 {s : State} {H H0 : Heap} {D : va_G} {ad : Adr} {cy : Nat → ClassId} {A : Nat → Prop} {o : Nat → Int64} {S : Mem} {locs : List Loc} {P i : Nat} (hK : KW D cy s) (hX : PW D ad cy A H0 o S H locs) (hm : (14, P, i) ∈ idl) : ∃ cell : Cell, H[ad 14 P i]? = some cell ∧ cell.vm.isStatics = false ∧ s.vm.findClass RX6 = some cell.cls := r_recv hK hX hm rfl rfl
theorem g15 {p : Program} {l : Launch} {e : Env} {R : Room} {s : State} {m : MethodId} {args : Array Value} {below : List Frame} {meth : Method} {c : Code} {cells slots : Nat} {Q : State → Prop} {ls : Array Slot} {pc : Nat} {rest : List Value} {cc : ByteArray} {nL : Nat} {own : String} {D : va_G} {ad : Adr} {cy : Nat → ClassId} {A : Nat → Prop} {H0 : Heap} {o : Nat → Int64} {S : Mem} {H : Heap} {locs : List Loc} {P i index : Nat} {v : Value} (hM : CallFix p m c cc nL s args lw_all own) (hK : KW D cy s) (hX : PW D ad cy A H0 o S H locs) (hm : (15, P, i) ∈ idl) (k : Nat) (hk : k < 18) (hlink : Cond.fieldLink own index (TX7 k).1 (TX7 k).2.1 (TX7 k).2.2.1 ∈ lw_all) (hv : (fs15 ad P i (S 15 P i))[k]? = some v) (hdg : decode cc pc = .ok (.getfield index, 3)) (kk : W p l e R s m args below meth c H locs cells slots Q (F0 m (pc + 3) ls (v :: rest))) : W p l e R s m args below meth c H locs cells slots Q (F0 m pc ls (.ref (ad 15 P i) :: rest)) := r_get hM hK hX hm rfl rfl qu_7 k hk hlink hv hdg kk
theorem v15 {s : State} {H H0 : Heap} {D : va_G} {ad : Adr} {cy : Nat → ClassId} {A : Nat → Prop} {o : Nat → Int64} {S : Mem} {locs : List Loc} {P i : Nat} (hK : KW D cy s) (hX : PW D ad cy A H0 o S H locs) (hm : (15, P, i) ∈ idl) : ∃ cell : Cell, H[ad 15 P i]? = some cell ∧ cell.vm.isStatics = false ∧ s.vm.findClass RX7 = some cell.cls := r_recv hK hX hm rfl rfl
theorem p15_2 {p : Program} {l : Launch} {e : Env} {R : Room} {s : State} {m : MethodId} {args : Array Value} {below : List Frame} {meth : Method} {c : Code} {cells slots : Nat} {Q : State → Prop} {ls : Array Slot} {pc : Nat} {rest : List Value} {cc : ByteArray} {nL : Nat} {own : String} {D : va_G} {ad : Adr} {cy : Nat → ClassId} {A : Nat → Prop} {H0 : Heap} {o : Nat → Int64} {S : Mem} {H : Heap} {locs : List Loc} {P i index : Nat} {x : Int32} (hM : CallFix p m c cc nL s args lw_all own) (hK : KW D cy s) (hX : PW D ad cy A H0 o S H locs) (hm : (15, P, i) ∈ idl) (hlink : Cond.fieldLink own index (TX7 2).1 (TX7 2).2.1 (TX7 2).2.2.1 ∈ lw_all) (hdg : decode cc pc = .ok (.putfield index, 3)) (kk : ∀ S1 : Mem, S1 = uc S 15 P i (upd (S 15 P i) 2 x) → ∀ (H1 : Heap) (locs1 : List Loc), PW D ad cy A H0 o S1 H1 locs1 → W p l e R s m args below meth c H1 locs1 cells slots Q (F0 m (pc + 3) ls rest)) : W p l e R s m args below meth c H locs cells slots Q (F0 m pc ls (.int x :: .ref (ad 15 P i) :: rest)) := r_put (f2 := upd (S 15 P i) 2 x) (ty := .int) hM hK hX tyX7 tyX7_ok nmX7 hm rfl rfl qu_7 2 (by decide) hlink rfl rfl rfl rfl (by simp) rfl hdg kk
theorem p15_6 {p : Program} {l : Launch} {e : Env} {R : Room} {s : State} {m : MethodId} {args : Array Value} {below : List Frame} {meth : Method} {c : Code} {cells slots : Nat} {Q : State → Prop} {ls : Array Slot} {pc : Nat} {rest : List Value} {cc : ByteArray} {nL : Nat} {own : String} {D : va_G} {ad : Adr} {cy : Nat → ClassId} {A : Nat → Prop} {H0 : Heap} {o : Nat → Int64} {S : Mem} {H : Heap} {locs : List Loc} {P i index : Nat} {x : Int32} (hM : CallFix p m c cc nL s args lw_all own) (hK : KW D cy s) (hX : PW D ad cy A H0 o S H locs) (hm : (15, P, i) ∈ idl) (hlink : Cond.fieldLink own index (TX7 6).1 (TX7 6).2.1 (TX7 6).2.2.1 ∈ lw_all) (hdg : decode cc pc = .ok (.putfield index, 3)) (kk : ∀ S1 : Mem, S1 = uc S 15 P i (upd (S 15 P i) 6 x) → ∀ (H1 : Heap) (locs1 : List Loc), PW D ad cy A H0 o S1 H1 locs1 → W p l e R s m args below meth c H1 locs1 cells slots Q (F0 m (pc + 3) ls rest)) : W p l e R s m args below meth c H locs cells slots Q (F0 m pc ls (.int x :: .ref (ad 15 P i) :: rest)) := r_put (f2 := upd (S 15 P i) 6 x) (ty := .int) hM hK hX tyX7 tyX7_ok nmX7 hm rfl rfl qu_7 6 (by decide) hlink rfl rfl rfl rfl (by simp) rfl hdg kk
theorem p15_8 {p : Program} {l : Launch} {e : Env} {R : Room} {s : State} {m : MethodId} {args : Array Value} {below : List Frame} {meth : Method} {c : Code} {cells slots : Nat} {Q : State → Prop} {ls : Array Slot} {pc : Nat} {rest : List Value} {cc : ByteArray} {nL : Nat} {own : String} {D : va_G} {ad : Adr} {cy : Nat → ClassId} {A : Nat → Prop} {H0 : Heap} {o : Nat → Int64} {S : Mem} {H : Heap} {locs : List Loc} {P i index : Nat} {x : Int32} (hM : CallFix p m c cc nL s args lw_all own) (hK : KW D cy s) (hX : PW D ad cy A H0 o S H locs) (hm : (15, P, i) ∈ idl) (hlink : Cond.fieldLink own index (TX7 8).1 (TX7 8).2.1 (TX7 8).2.2.1 ∈ lw_all) (hdg : decode cc pc = .ok (.putfield index, 3)) (kk : ∀ S1 : Mem, S1 = uc S 15 P i (upd (S 15 P i) 8 x) → ∀ (H1 : Heap) (locs1 : List Loc), PW D ad cy A H0 o S1 H1 locs1 → W p l e R s m args below meth c H1 locs1 cells slots Q (F0 m (pc + 3) ls rest)) : W p l e R s m args below meth c H locs cells slots Q (F0 m pc ls (.int x :: .ref (ad 15 P i) :: rest)) := r_put (f2 := upd (S 15 P i) 8 x) (ty := .int) hM hK hX tyX7 tyX7_ok nmX7 hm rfl rfl qu_7 8 (by decide) hlink rfl rfl rfl rfl (by simp) rfl hdg kk
theorem p15_11 {p : Program} {l : Launch} {e : Env} {R : Room} {s : State} {m : MethodId} {args : Array Value} {below : List Frame} {meth : Method} {c : Code} {cells slots : Nat} {Q : State → Prop} {ls : Array Slot} {pc : Nat} {rest : List Value} {cc : ByteArray} {nL : Nat} {own : String} {D : va_G} {ad : Adr} {cy : Nat → ClassId} {A : Nat → Prop} {H0 : Heap} {o : Nat → Int64} {S : Mem} {H : Heap} {locs : List Loc} {P i index : Nat} {x : Int32} (hM : CallFix p m c cc nL s args lw_all own) (hK : KW D cy s) (hX : PW D ad cy A H0 o S H locs) (hm : (15, P, i) ∈ idl) (hlink : Cond.fieldLink own index (TX7 11).1 (TX7 11).2.1 (TX7 11).2.2.1 ∈ lw_all) (hdg : decode cc pc = .ok (.putfield index, 3)) (kk : ∀ S1 : Mem, S1 = uc S 15 P i (upd (S 15 P i) 11 x) → ∀ (H1 : Heap) (locs1 : List Loc), PW D ad cy A H0 o S1 H1 locs1 → W p l e R s m args below meth c H1 locs1 cells slots Q (F0 m (pc + 3) ls rest)) : W p l e R s m args below meth c H locs cells slots Q (F0 m pc ls (.int x :: .ref (ad 15 P i) :: rest)) := r_put (f2 := upd (S 15 P i) 11 x) (ty := .int) hM hK hX tyX7 tyX7_ok nmX7 hm rfl rfl qu_7 11 (by decide) hlink rfl rfl rfl rfl (by simp) rfl hdg kk
theorem p15_12 {p : Program} {l : Launch} {e : Env} {R : Room} {s : State} {m : MethodId} {args : Array Value} {below : List Frame} {meth : Method} {c : Code} {cells slots : Nat} {Q : State → Prop} {ls : Array Slot} {pc : Nat} {rest : List Value} {cc : ByteArray} {nL : Nat} {own : String} {D : va_G} {ad : Adr} {cy : Nat → ClassId} {A : Nat → Prop} {H0 : Heap} {o : Nat → Int64} {S : Mem} {H : Heap} {locs : List Loc} {P i index : Nat} {x : Int32} (hM : CallFix p m c cc nL s args lw_all own) (hK : KW D cy s) (hX : PW D ad cy A H0 o S H locs) (hm : (15, P, i) ∈ idl) (hlink : Cond.fieldLink own index (TX7 12).1 (TX7 12).2.1 (TX7 12).2.2.1 ∈ lw_all) (hdg : decode cc pc = .ok (.putfield index, 3)) (kk : ∀ S1 : Mem, S1 = uc S 15 P i (upd (S 15 P i) 12 x) → ∀ (H1 : Heap) (locs1 : List Loc), PW D ad cy A H0 o S1 H1 locs1 → W p l e R s m args below meth c H1 locs1 cells slots Q (F0 m (pc + 3) ls rest)) : W p l e R s m args below meth c H locs cells slots Q (F0 m pc ls (.int x :: .ref (ad 15 P i) :: rest)) := r_put (f2 := upd (S 15 P i) 12 x) (ty := .int) hM hK hX tyX7 tyX7_ok nmX7 hm rfl rfl qu_7 12 (by decide) hlink rfl rfl rfl rfl (by simp) rfl hdg kk
theorem p15_13 {p : Program} {l : Launch} {e : Env} {R : Room} {s : State} {m : MethodId} {args : Array Value} {below : List Frame} {meth : Method} {c : Code} {cells slots : Nat} {Q : State → Prop} {ls : Array Slot} {pc : Nat} {rest : List Value} {cc : ByteArray} {nL : Nat} {own : String} {D : va_G} {ad : Adr} {cy : Nat → ClassId} {A : Nat → Prop} {H0 : Heap} {o : Nat → Int64} {S : Mem} {H : Heap} {locs : List Loc} {P i index : Nat} {x : Int32} (hM : CallFix p m c cc nL s args lw_all own) (hK : KW D cy s) (hX : PW D ad cy A H0 o S H locs) (hm : (15, P, i) ∈ idl) (hlink : Cond.fieldLink own index (TX7 13).1 (TX7 13).2.1 (TX7 13).2.2.1 ∈ lw_all) (hdg : decode cc pc = .ok (.putfield index, 3)) (kk : ∀ S1 : Mem, S1 = uc S 15 P i (upd (S 15 P i) 13 x) → ∀ (H1 : Heap) (locs1 : List Loc), PW D ad cy A H0 o S1 H1 locs1 → W p l e R s m args below meth c H1 locs1 cells slots Q (F0 m (pc + 3) ls rest)) : W p l e R s m args below meth c H locs cells slots Q (F0 m pc ls (.int x :: .ref (ad 15 P i) :: rest)) := r_put (f2 := upd (S 15 P i) 13 x) (ty := .int) hM hK hX tyX7 tyX7_ok nmX7 hm rfl rfl qu_7 13 (by decide) hlink rfl rfl rfl rfl (by simp) rfl hdg kk
theorem a6 {ad : Adr} {cy : Nat → ClassId} (P i : Nat) : ∀ f, cI ad cy 6 P i f = .inl (cy 0, 6, .inl f) := fun _ => rfl
theorem a7 {ad : Adr} {cy : Nat → ClassId} (P i : Nat) : ∀ f, cI ad cy 7 P i f = .inl (cy 0, 6, .inl f) := fun _ => rfl
theorem a8 {ad : Adr} {cy : Nat → ClassId} (P i : Nat) : ∀ f, cI ad cy 8 P i f = .inl (cy 0, 10, .inl f) := fun _ => rfl
theorem a10 {ad : Adr} {cy : Nat → ClassId} (P i : Nat) : ∀ f, cI ad cy 10 P i f = .inl (cy 1, 60, .inl f) := fun _ => rfl
theorem a12 {ad : Adr} {cy : Nat → ClassId} (P i : Nat) : ∀ f, cI ad cy 12 P i f = .inl (cy 0, 4, .inl f) := fun _ => rfl
theorem a13 {ad : Adr} {cy : Nat → ClassId} (P i : Nat) : ∀ f, cI ad cy 13 P i f = .inl (cy 0, 4, .inl f) := fun _ => rfl
theorem a16 {ad : Adr} {cy : Nat → ClassId} (P i : Nat) : ∀ f, cI ad cy 16 P i f = .inl (cy 0, 226, .inl f) := fun _ => rfl
theorem a17 {ad : Adr} {cy : Nat → ClassId} (P i : Nat) : ∀ f, cI ad cy 17 P i f = .inl (cy 0, 1356, .inl f) := fun _ => rfl
theorem a18 {ad : Adr} {cy : Nat → ClassId} (P i : Nat) : ∀ f, cI ad cy 18 P i f = .inl (cy 0, 452, .inl f) := fun _ => rfl
theorem a19 {ad : Adr} {cy : Nat → ClassId} (P i : Nat) : ∀ f, cI ad cy 19 P i f = .inl (cy 2, 2, .inl f) := fun _ => rfl
theorem a20 {ad : Adr} {cy : Nat → ClassId} (P i : Nat) : ∀ f, cI ad cy 20 P i f = .inl (cy 0, 226, .inl f) := fun _ => rfl
theorem a21 {ad : Adr} {cy : Nat → ClassId} (P i : Nat) : ∀ f, cI ad cy 21 P i f = .inl (cy 0, 10, .inl f) := fun _ => rfl
theorem a22 {ad : Adr} {cy : Nat → ClassId} (P i : Nat) : ∀ f, cI ad cy 22 P i f = .inl (cy 2, 10, .inl f) := fun _ => rfl
theorem a23 {ad : Adr} {cy : Nat → ClassId} (P i : Nat) : ∀ f, cI ad cy 23 P i f = .inl (cy 0, 60, .inl f) := fun _ => rfl
theorem a24 {ad : Adr} {cy : Nat → ClassId} (P i : Nat) : ∀ f, cI ad cy 24 P i f = .inl (cy 0, 30, .inl f) := fun _ => rfl
theorem a25 {ad : Adr} {cy : Nat → ClassId} (P i : Nat) : ∀ f, cI ad cy 25 P i f = .inl (cy 0, 30, .inl f) := fun _ => rfl
theorem a26 {ad : Adr} {cy : Nat → ClassId} (P i : Nat) : ∀ f, cI ad cy 26 P i f = .inl (cy 0, 30, .inl f) := fun _ => rfl
theorem a27 {ad : Adr} {cy : Nat → ClassId} (P i : Nat) : ∀ f, cI ad cy 27 P i f = .inl (cy 0, 30, .inl f) := fun _ => rfl
theorem nar_z {x : Int32} (h : x = 0 ∨ x = 1) : narrow .boolean (.int x) = .int x ∧ fits .boolean (.int x) = true := by rcases h with rfl | rfl <;> exact ⟨rfl, rfl⟩
end
