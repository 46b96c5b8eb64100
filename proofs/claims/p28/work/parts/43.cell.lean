/-! cell: the script's own row, which is no part of the world -/
def cellF (L : Nat) (xs : Nat → Int32) (k : Int32) : Int32 := if k < Int32.ofNat L then xs k.toNatClampNeg else (1028477387 : Int32) * (k + (1 : Int32))
def PreX (b L : Nat) (xs : Nat → Int32) (sz : Nat) (U : State) : Prop := U.heap.size = sz ∧ va_X b L xs U U.heap ∧ b < sz
theorem PreX_blind {b L : Nat} {xs : Nat → Int32} {sz : Nat} {av : List Value} : FrameBlind (va_Pc av (PreX b L xs sz)) := fun a U g mk h => ⟨h.1, h.2.1, va_X.moved (u := U) (U := U.calling g mk a) (Vm.Alike.refl U.vm) h.2.2.1, h.2.2.2⟩
def rmL_cell : Room := { frames := 0, cells := 0, slots := 0, locals := 0 }
theorem kL_cell {R : Room} {s : State} {args : Array Value} {own : String} {index : Nat} (ht : ∀ w ∈ lw_all, w.before args s = true) (hl : Cond.methodLink own index yL_cell ∈ lw_all) (hf : rmL_cell.frames + 1 ≤ R.frames) (hlo : 8 + (2 + 11) + rmL_cell.locals ≤ R.locals) : CallB R s args own index yL_cell cL_cell 2 (some Jvm.ClassFile.FieldType.int) (wA yL_cell cL_cell 2 (some Jvm.ClassFile.FieldType.int)) rmL_cell 0 0 2 ∧ (Cond.static yL_cell).before args s = true := va_cwS 2 ht (good_S hl qt_yL_cell qi_RL qc_yL_cell) rfl rfl rfl (by decide +kernel) ⟨hf, hlo⟩
theorem met_L_cell (l : Launch) {b L : Nat} {xs : Nat → Int32} {k : Int32} (hk : ∃ j, j < 1000 ∧ k = nI j) (hL : L ≤ 260) : ∀ sz : Nat, Met l yL_cell (wA yL_cell cL_cell 2 (some Jvm.ClassFile.FieldType.int)) rmL_cell (va_Pc [.ref b, .int k] (PreX b L xs sz)) (va_Qi (fun (r : Int32) (_ : Unit) => r = cellF L xs k) (fun _ _ => True) (fun q : Nat => sz ≤ q)) 0 0 (fun q : Nat => sz ≤ q) := by
  intro sz
  refine Met.ofW (cc := cL_cell) (maxL := 2) (ret := some Jvm.ClassFile.FieldType.int) (by decide) rfl ?_
  intro p e s m args below meth c s₁ B hml hv
  obtain ⟨rfl, hsz, hXs, hbl⟩ := hv
  have hts : ∀ w ∈ lw_all, w.before ([.ref b, .int k] : List Value).toArray s = true := fun w hw => atoms_spec (ws := wA yL_cell cL_cell 2 (some Jvm.ClassFile.FieldType.int)) B.pre w (List.mem_cons_of_mem _ hw)
  have hown : s.vm.findClass RL = some m.cls := findClass_of_methodNamed B.named
  have hl := lv_entry [.ref b, .int k] (n := 2) (Nat.le_of_ble_eq_true rfl)
  have hl : lv_has _ 2 [(0, .ref b), (1, .int k)] := hl
  rw [lg_entry_eq]
  generalize (lg_sl [.ref b, .int k] ++ List.replicate (2 - (lg_sl [.ref b, .int k]).length) Slot.unset).toArray = ls at hl ⊢
  have hM : CallFix p m c cL_cell 2 s ([.ref b, .int k] : List Value).toArray lw_all RL := ⟨B.exec, B.bytes, hml, hown, hts⟩
  have hlocks := B.notSynchronized
  have hret := B.returns
  have hS : va_S (fun q : Nat => sz ≤ q) s.heap s.heap [] := va_S.rf
  have hbA : ¬ (fun q : Nat => sz ≤ q) b := Nat.not_le.mpr hbl
  rw [← hsz] at hbl
  refine lv_iload_n hM.1 hM.2.1 dL_cell_0 rfl (lv_at hl 1 rfl) ?_
  refine lv_aload_n hM.1 hM.2.1 dL_cell_1 rfl (lv_at hl 0 rfl) ?_
  refine va_slen hM.1 hM.2.1 hXs hbl hbA hS dL_cell_2 ?_
  refine lv_icmp_ge (tgt := 12) hM.1 hM.2.1 dL_cell_3 (by decide) (fun c1 => ?_) (fun c1 => ?_)
  · refine lv_ldc hM.1 hM.2.1 hM.2.2.2.1 (hM.2.2.2.2 _ qn_RL_7) dL_cell_12 ?_
    refine lv_iload_n hM.1 hM.2.1 dL_cell_14 rfl (lv_at hl 1 rfl) ?_
    refine lv_iconst (v := (1 : Int32)) hM.1 hM.2.1 dL_cell_15 (by decide) ?_
    refine lv_iadd hM.1 hM.2.1 dL_cell_16 ?_
    refine lv_imul hM.1 hM.2.1 dL_cell_17 ?_
    exact W.iret hM.1 hM.2.1 hret (fun t ht hW => ⟨⟨_, (), rfl, by unfold cellF; rw [if_neg (fun h => (Int32.not_lt.mpr c1) h)], trivial⟩, hS.F ht⟩) hS.2.2 dL_cell_18 hlocks
  · have c2 : k < Int32.ofNat L := Int32.not_le.mp c1
    refine lv_aload_n hM.1 hM.2.1 dL_cell_6 rfl (lv_at hl 0 rfl) ?_
    refine lv_iload_n hM.1 hM.2.1 dL_cell_7 rfl (lv_at hl 1 rfl) ?_
    obtain ⟨j, hj, e⟩ := hk
    have hin : vp_in k L := by
      rw [e]
      rw [e] at c2
      exact vp_in_nI ((nI_ltI (by omega) (by omega)).mp c2) (by omega)
    refine va_sld hM.1 hM.2.1 hXs hbl hbA hS hin dL_cell_8 ?_
    refine lv_goto (tgt := 18) hM.1 hM.2.1 dL_cell_9 (by decide) ?_
    exact W.iret hM.1 hM.2.1 hret (fun t ht hW => ⟨⟨_, (), rfl, by unfold cellF; rw [if_pos c2], trivial⟩, hS.F ht⟩) hS.2.2 dL_cell_18 hlocks
theorem c_cell {p : Program} {l : Launch} {e : Env} {R : Room} {s : State} {m : MethodId} {args : Array Value} {below : List Frame} {meth : Method} {c : Code} {cells slots : Nat} {Q : State → Prop} {ls : Array Slot} {pc : Nat} {rest : List Value} {cc : ByteArray} {nL : Nat} {own : String} {D : va_G} {ad : Adr} {cy : Nat → ClassId} {A : Nat → Prop} {o : List Id} {S : Mem} {H : Heap} {locs : List Loc} {rm : Room} {ws : List Cond} {index maxL b L : Nat} {xs : Nat → Int32} {bytes : ByteArray} {rt : Option FieldType} {y : MethodName} {k : Int32} {cf : Int32 → Int32} (hM : CallFix p m c cc nL s args lw_all own) (hX : PW D ad cy A s.heap o S H locs) (hA : ∀ q, s.heap.size ≤ q → A q) (hXs : va_X b L xs s s.heap) (hbl : b < s.heap.size) (hbA : ¬ A b) (hL : L ≤ 260) (hcf : cf = cellF L xs) (hC : ∀ sz : Nat, Met l y ws rm (va_Pc [.ref b, .int k] (PreX b L xs sz)) (va_Qi (fun (r : Int32) (_ : Unit) => r = cellF L xs k) (fun _ _ => True) (fun q : Nat => sz ≤ q)) 0 0 (fun q : Nat => sz ≤ q)) (cw : CallB R s args own index y bytes maxL rt ws rm 0 0 2 ∧ (Cond.static y).before args s = true) (hsz : ls.size = nL) (hst : (.int k :: .ref b :: rest) = ([.ref b, .int k] : List Value).reverse ++ rest) (hW : (rest.map fun v => v.category).sum ≤ 8) (hdg : decode cc pc = .ok (.invokestatic index, 3)) (hf : cells ≤ R.cells ∧ slots ≤ R.slots)
    (kk : ∀ (H1 : Heap) (locs1 : List Loc), PW D ad cy A s.heap o S H1 locs1 → W p l e R s m args below meth c H1 locs1 cells slots Q (F0 m (pc + 3) ls (.int (cf k) :: rest))) : W p l e R s m args below meth c H locs cells slots Q (F0 m pc ls (.int k :: .ref b :: rest)) := by
  have hsz1 : s.heap.size ≤ H.size := hX.2.2.1
  refine va_calli (va_runS (As := [.ref b, .int k]) (rest := rest) hM (hC H.size) cw ⟨PreX_blind, fun U hU hW => ⟨rfl, by rw [hU], by rw [hU]; exact va_X.moved hW.alike (hXs.kept (hX.2.2.2.1 b hbl hbA)), by omega⟩⟩ rfl rfl hsz hst (lv_room hW) hdg hf) hX.2.2 (fun q h1 h2 => absurd h1 (Nat.not_lt.mpr h2)) (fun q h => hA q (Nat.le_trans hsz1 h)) (fun r1 u t H1 locs1 ht hvm hw hB hz1 hk1 hS1 => ?_)
  rw [hw, ← hcf]
  exact kk H1 locs1 ⟨hX.1.kept (fun k q hk => hk1 q.1 (hX.1 k q hk).lt (Nat.not_le.mpr (hX.1 k q hk).lt)), hX.2.1, hS1⟩
