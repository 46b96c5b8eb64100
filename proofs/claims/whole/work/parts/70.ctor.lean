abbrev fz0 : List Value := [.null, .int 0]
theorem fz0_ok : ∀ j, j < 2 → defaultValue (tyX0 j) = vp_V fz0 j := by
  intro j hj
  match j, hj with
  | 0, _ => rfl
  | 1, _ => rfl
  | k + 2, h => exact absurd h (by omega)
abbrev fz1 : List Value := [.null, .null, .int 0, .int 0]
theorem fz1_ok : ∀ j, j < 4 → defaultValue (tyX1 j) = vp_V fz1 j := by
  intro j hj
  match j, hj with
  | 0, _ => rfl
  | 1, _ => rfl
  | 2, _ => rfl
  | 3, _ => rfl
  | k + 4, h => exact absurd h (by omega)
abbrev fz2 : List Value := [.null, .int 0, .int 0, .int 0, .int 0, .int 0, .int 0, .int 0]
theorem fz2_ok : ∀ j, j < 8 → defaultValue (tyX2 j) = vp_V fz2 j := by
  intro j hj
  match j, hj with
  | 0, _ => rfl
  | 1, _ => rfl
  | 2, _ => rfl
  | 3, _ => rfl
  | 4, _ => rfl
  | 5, _ => rfl
  | 6, _ => rfl
  | 7, _ => rfl
  | k + 8, h => exact absurd h (by omega)
abbrev fz3 : List Value := [.null, .null, .null, .null, .null, .int 0, .int 0, .int 0, .int 0, .int 0, .int 0, .int 0, .int 0]
theorem fz3_ok : ∀ j, j < 13 → defaultValue (tyX3 j) = vp_V fz3 j := by
  intro j hj
  match j, hj with
  | 0, _ => rfl
  | 1, _ => rfl
  | 2, _ => rfl
  | 3, _ => rfl
  | 4, _ => rfl
  | 5, _ => rfl
  | 6, _ => rfl
  | 7, _ => rfl
  | 8, _ => rfl
  | 9, _ => rfl
  | 10, _ => rfl
  | 11, _ => rfl
  | 12, _ => rfl
  | k + 13, h => exact absurd h (by omega)
abbrev fz4 : List Value := [.null, .int 0]
theorem fz4_ok : ∀ j, j < 2 → defaultValue (tyX4 j) = vp_V fz4 j := by
  intro j hj
  match j, hj with
  | 0, _ => rfl
  | 1, _ => rfl
  | k + 2, h => exact absurd h (by omega)
abbrev fz5 : List Value := [.null, .null, .int 0, .int 0, .int 0, .int 0, .int 0, .int 0, .int 0, .int 0, .int 0, .int 0]
theorem fz5_ok : ∀ j, j < 12 → defaultValue (tyX5 j) = vp_V fz5 j := by
  intro j hj
  match j, hj with
  | 0, _ => rfl
  | 1, _ => rfl
  | 2, _ => rfl
  | 3, _ => rfl
  | 4, _ => rfl
  | 5, _ => rfl
  | 6, _ => rfl
  | 7, _ => rfl
  | 8, _ => rfl
  | 9, _ => rfl
  | 10, _ => rfl
  | 11, _ => rfl
  | k + 12, h => exact absurd h (by omega)
abbrev fz6 : List Value := [.null, .null, .null, .null, .null, .null]
theorem fz6_ok : ∀ j, j < 6 → defaultValue (tyX6 j) = vp_V fz6 j := by
  intro j hj
  match j, hj with
  | 0, _ => rfl
  | 1, _ => rfl
  | 2, _ => rfl
  | 3, _ => rfl
  | 4, _ => rfl
  | 5, _ => rfl
  | k + 6, h => exact absurd h (by omega)
abbrev fz7 : List Value := [.null, .null, .int 0, .null, .null, .null, .int 0, .null, .int 0, .null, .null, .int 0, .int 0, .int 0, .null, .null, .null, .null]
theorem fz7_ok : ∀ j, j < 18 → defaultValue (tyX7 j) = vp_V fz7 j := by
  intro j hj
  match j, hj with
  | 0, _ => rfl
  | 1, _ => rfl
  | 2, _ => rfl
  | 3, _ => rfl
  | 4, _ => rfl
  | 5, _ => rfl
  | 6, _ => rfl
  | 7, _ => rfl
  | 8, _ => rfl
  | 9, _ => rfl
  | 10, _ => rfl
  | 11, _ => rfl
  | 12, _ => rfl
  | 13, _ => rfl
  | 14, _ => rfl
  | 15, _ => rfl
  | 16, _ => rfl
  | 17, _ => rfl
  | k + 18, h => exact absurd h (by omega)
theorem r_lit {p : Program} {l : Launch} {e : Env} {R : Room} {s : State} {m : MethodId} {args : Array Value} {below : List Frame} {meth : Method} {c : Code} {cells slots : Nat} {Q : State → Prop} {ls : Array Slot} {pc : Nat} {rest : List Value} {H : Heap} {locs : List Loc} {x v : Int32} (h : x = v) (k : W p l e R s m args below meth c H locs cells slots Q (F0 m pc ls (.int v :: rest))) : W p l e R s m args below meth c H locs cells slots Q (F0 m pc ls (.int x :: rest)) := h ▸ k
def S0p (t : Nat) : Nat → Int32 := match t with
  | 3 => upd (upd (upd (upd (fun _ => 0) 5 (-999999)) 8 1000) 11 300) 12 2
  | 5 => upd (upd (upd (fun _ => 0) 3 1) 6 1) 11 (-999999)
  | 12 => upd (upd (upd (upd (fun _ => 0) 0 1) 1 1) 2 1) 3 1
  | _ => fun _ => 0
def plids : List (Nat × Nat) := [(3, 0), (11, 0), (5, 10), (6, 10), (7, 10), (12, 0), (13, 0), (0, 0), (8, 0)] ++ (List.range 10).flatMap (fun i => [(5, i), (6, i), (7, i)])
def pbl (cy : Nat → ClassId) (a : Nat → Nat → Nat) : va_W := plids.map (fun k => (a k.1 k.2, cI (fun t _ i => a t i) cy k.1 0 k.2 (S0p k.1)))
theorem pbl_head (cy : Nat → ClassId) (a : Nat → Nat → Nat) : ∃ fs : List Value, (a 3 0, (.inr (3, fs) : va_E)) ∈ pbl cy a := ⟨_, List.mem_map.mpr ⟨(3, 0), by decide, rfl⟩⟩
theorem mem_at {α : Type} {l : List α} {x : α} (h : x ∈ l) : ∃ k : Nat, l[k]? = some x := List.getElem?_of_mem h
def rmX5_init : Room := { frames := 1, cells := 2, slots := 12, locals := 12 }
set_option maxRecDepth 100000 in
set_option maxHeartbeats 8000000 in
theorem met_X5_init (l : Launch) (D : va_G) (cy : Nat → ClassId) (h0 : Nat) : NI l yX5_init (wA yX5_init cX5_init 1 none) rmX5_init D cy h0 [(h0, .inr (5, fz5))] (fun w1 => ∃ a b : Nat, w1 = [(h0, .inr (5, [.ref a, .ref b, .int 0, .int 1, .int 0, .int 0, .int 1, .int 0, .int 0, .int 0, .int 0, .int (-999999)])), (a, .inl (cy 0, 6, .inl (fun _ => 0))), (b, .inl (cy 0, 6, .inl (fun _ => 0)))]) 2 12 := by
  intro sz
  refine mkN (own := RX5) (by decide) rfl (by decide) ?_
  intro p e s m below meth c ls hsz hM hlocks hret hin hK hO hA hP hD hS hl
  have hin : meth.name = "<init>" := hin
  refine lv_aload_n hM.1 hM.2.1 dX5_init_0 rfl (lv_at hl 0 rfl) ?_
  refine W.objInit hM.1 hM.2.1 hM.2.2.2.1 (hM.2.2.2.2 _ ql_RX5_3) (hM.2.2.2.2 _ qm_objectInit) (hM.2.2.2.2 _ qc_objectInit) rfl (by rw [hM.2.2.1]; exact hl.1) rfl dX5_init_1 (Nat.le_of_ble_eq_true rfl) (Nat.le_of_ble_eq_true rfl) ?_
  refine W.eq (g2 := F0 m 4 ls []) rfl ?_
  refine lv_aload_n hM.1 hM.2.1 dX5_init_4 rfl (lv_at hl 0 rfl) ?_
  refine lv_bipush (v := (6 : Int32)) hM.1 hM.2.1 dX5_init_5 (by decide) ?_
  refine r_newI (N' := 6) hM hK hP hD hS hA qy_0 (by decide) (by decide) (by decide) (Nat.le_of_ble_eq_true rfl) (Nat.le_of_ble_eq_true rfl) dX5_init_7 (fun q1 H hP hD hS => ?_)
  have hP : va_P D vwCl [(h0, .inr (5, [.null, .null, .int 0, .int 0, .int 0, .int 0, .int 0, .int 0, .int 0, .int 0, .int 0, .int 0])), (q1, .inl (cy 0, 6, .inl (fun _ => 0)))] H := hP
  have hD : va_D (va_A [(h0, .inr (5, fz5))] sz) [(h0, .inr (5, [.null, .null, .int 0, .int 0, .int 0, .int 0, .int 0, .int 0, .int 0, .int 0, .int 0, .int 0])), (q1, .inl (cy 0, 6, .inl (fun _ => 0)))] := hD
  refine va_putF (ci := 5) (v := .ref q1) (ty := tyX5 0) (C := RX5) (T := TX5) (N := 12) hM.1 hM.2.1 hM.2.2.2.2 qu_5 tyX5 tyX5_ok nmX5 hM.2.2.2.1 hK.1 hP hD hS 0 rfl rfl 0 (by decide) (hM.2.2.2.2 _ qf_RX5_9) (fun _ h9 => h9) rfl hin rfl (tyX5_ok 0 (by decide)) rfl rfl (by simp) dX5_init_9 (fun H locs hP hD hS => ?_)
  have hP : va_P D vwCl [(h0, .inr (5, [.ref q1, .null, .int 0, .int 0, .int 0, .int 0, .int 0, .int 0, .int 0, .int 0, .int 0, .int 0])), (q1, .inl (cy 0, 6, .inl (fun _ => 0)))] H := hP
  have hD : va_D (va_A [(h0, .inr (5, fz5))] sz) [(h0, .inr (5, [.ref q1, .null, .int 0, .int 0, .int 0, .int 0, .int 0, .int 0, .int 0, .int 0, .int 0, .int 0])), (q1, .inl (cy 0, 6, .inl (fun _ => 0)))] := hD
  refine lv_aload_n hM.1 hM.2.1 dX5_init_12 rfl (lv_at hl 0 rfl) ?_
  refine lv_bipush (v := (6 : Int32)) hM.1 hM.2.1 dX5_init_13 (by decide) ?_
  refine r_newI (N' := 6) hM hK hP hD hS hA qy_0 (by decide) (by decide) (by decide) (Nat.le_of_ble_eq_true rfl) (Nat.le_of_ble_eq_true rfl) dX5_init_15 (fun q2 H hP hD hS => ?_)
  have hP : va_P D vwCl [(h0, .inr (5, [.ref q1, .null, .int 0, .int 0, .int 0, .int 0, .int 0, .int 0, .int 0, .int 0, .int 0, .int 0])), (q1, .inl (cy 0, 6, .inl (fun _ => 0))), (q2, .inl (cy 0, 6, .inl (fun _ => 0)))] H := hP
  have hD : va_D (va_A [(h0, .inr (5, fz5))] sz) [(h0, .inr (5, [.ref q1, .null, .int 0, .int 0, .int 0, .int 0, .int 0, .int 0, .int 0, .int 0, .int 0, .int 0])), (q1, .inl (cy 0, 6, .inl (fun _ => 0))), (q2, .inl (cy 0, 6, .inl (fun _ => 0)))] := hD
  refine va_putF (ci := 5) (v := .ref q2) (ty := tyX5 1) (C := RX5) (T := TX5) (N := 12) hM.1 hM.2.1 hM.2.2.2.2 qu_5 tyX5 tyX5_ok nmX5 hM.2.2.2.1 hK.1 hP hD hS 0 rfl rfl 1 (by decide) (hM.2.2.2.2 _ qf_RX5_15) (fun _ h9 => h9) rfl hin rfl (tyX5_ok 1 (by decide)) rfl rfl (by simp) dX5_init_17 (fun H locs hP hD hS => ?_)
  have hP : va_P D vwCl [(h0, .inr (5, [.ref q1, .ref q2, .int 0, .int 0, .int 0, .int 0, .int 0, .int 0, .int 0, .int 0, .int 0, .int 0])), (q1, .inl (cy 0, 6, .inl (fun _ => 0))), (q2, .inl (cy 0, 6, .inl (fun _ => 0)))] H := hP
  have hD : va_D (va_A [(h0, .inr (5, fz5))] sz) [(h0, .inr (5, [.ref q1, .ref q2, .int 0, .int 0, .int 0, .int 0, .int 0, .int 0, .int 0, .int 0, .int 0, .int 0])), (q1, .inl (cy 0, 6, .inl (fun _ => 0))), (q2, .inl (cy 0, 6, .inl (fun _ => 0)))] := hD
  refine lv_aload_n hM.1 hM.2.1 dX5_init_20 rfl (lv_at hl 0 rfl) ?_
  refine lv_iconst (v := (1 : Int32)) hM.1 hM.2.1 dX5_init_21 (by decide) ?_
  refine va_put (ci := 5) (v := .int (1 : Int32)) (ty := tyX5 3) (C := RX5) (T := TX5) (N := 12) hM.1 hM.2.1 hM.2.2.2.2 qu_5 tyX5 tyX5_ok nmX5 hM.2.2.2.1 hK.1 hP hD hS 0 rfl rfl 3 (by decide) (hM.2.2.2.2 _ qf_RX5_18) (fun _ h9 => h9) rfl (tyX5_ok 3 (by decide)) rfl rfl (by simp) dX5_init_22 (fun H locs hP hD hS => ?_)
  have hP : va_P D vwCl [(h0, .inr (5, [.ref q1, .ref q2, .int 0, .int (1 : Int32), .int 0, .int 0, .int 0, .int 0, .int 0, .int 0, .int 0, .int 0])), (q1, .inl (cy 0, 6, .inl (fun _ => 0))), (q2, .inl (cy 0, 6, .inl (fun _ => 0)))] H := hP
  have hD : va_D (va_A [(h0, .inr (5, fz5))] sz) [(h0, .inr (5, [.ref q1, .ref q2, .int 0, .int (1 : Int32), .int 0, .int 0, .int 0, .int 0, .int 0, .int 0, .int 0, .int 0])), (q1, .inl (cy 0, 6, .inl (fun _ => 0))), (q2, .inl (cy 0, 6, .inl (fun _ => 0)))] := hD
  refine lv_aload_n hM.1 hM.2.1 dX5_init_25 rfl (lv_at hl 0 rfl) ?_
  refine lv_iconst (v := (1 : Int32)) hM.1 hM.2.1 dX5_init_26 (by decide) ?_
  refine va_put (ci := 5) (v := .int (1 : Int32)) (ty := tyX5 6) (C := RX5) (T := TX5) (N := 12) hM.1 hM.2.1 hM.2.2.2.2 qu_5 tyX5 tyX5_ok nmX5 hM.2.2.2.1 hK.1 hP hD hS 0 rfl rfl 6 (by decide) (hM.2.2.2.2 _ qf_RX5_22) (fun _ h9 => h9) rfl (tyX5_ok 6 (by decide)) rfl rfl (by simp) dX5_init_27 (fun H locs hP hD hS => ?_)
  have hP : va_P D vwCl [(h0, .inr (5, [.ref q1, .ref q2, .int 0, .int (1 : Int32), .int 0, .int 0, .int (1 : Int32), .int 0, .int 0, .int 0, .int 0, .int 0])), (q1, .inl (cy 0, 6, .inl (fun _ => 0))), (q2, .inl (cy 0, 6, .inl (fun _ => 0)))] H := hP
  have hD : va_D (va_A [(h0, .inr (5, fz5))] sz) [(h0, .inr (5, [.ref q1, .ref q2, .int 0, .int (1 : Int32), .int 0, .int 0, .int (1 : Int32), .int 0, .int 0, .int 0, .int 0, .int 0])), (q1, .inl (cy 0, 6, .inl (fun _ => 0))), (q2, .inl (cy 0, 6, .inl (fun _ => 0)))] := hD
  refine lv_aload_n hM.1 hM.2.1 dX5_init_30 rfl (lv_at hl 0 rfl) ?_
  refine lv_ldc hM.1 hM.2.1 hM.2.2.2.1 (hM.2.2.2.2 _ qn_RX5_25) dX5_init_31 ?_
  refine va_put (ci := 5) (v := .int (-999999 : Int32)) (ty := tyX5 11) (C := RX5) (T := TX5) (N := 12) hM.1 hM.2.1 hM.2.2.2.2 qu_5 tyX5 tyX5_ok nmX5 hM.2.2.2.1 hK.1 hP hD hS 0 rfl rfl 11 (by decide) (hM.2.2.2.2 _ qf_RX5_26) (fun _ h9 => h9) rfl (tyX5_ok 11 (by decide)) rfl rfl (by simp) dX5_init_33 (fun H locs hP hD hS => ?_)
  have hP : va_P D vwCl [(h0, .inr (5, [.ref q1, .ref q2, .int 0, .int (1 : Int32), .int 0, .int 0, .int (1 : Int32), .int 0, .int 0, .int 0, .int 0, .int (-999999 : Int32)])), (q1, .inl (cy 0, 6, .inl (fun _ => 0))), (q2, .inl (cy 0, 6, .inl (fun _ => 0)))] H := hP
  have hD : va_D (va_A [(h0, .inr (5, fz5))] sz) [(h0, .inr (5, [.ref q1, .ref q2, .int 0, .int (1 : Int32), .int 0, .int 0, .int (1 : Int32), .int 0, .int 0, .int 0, .int 0, .int (-999999 : Int32)])), (q1, .inl (cy 0, 6, .inl (fun _ => 0))), (q2, .inl (cy 0, 6, .inl (fun _ => 0)))] := hD
  refine W.widen (k := 2) (n := 12) (Nat.le_of_ble_eq_true rfl) (Nat.le_of_ble_eq_true rfl) ?_
  exact e_N (w1 := [(h0, .inr (5, [.ref q1, .ref q2, .int 0, .int (1 : Int32), .int 0, .int 0, .int (1 : Int32), .int 0, .int 0, .int 0, .int 0, .int (-999999 : Int32)])), (q1, .inl (cy 0, 6, .inl (fun _ => 0))), (q2, .inl (cy 0, 6, .inl (fun _ => 0)))]) hM hP hD hS hlocks hret ⟨q1, q2, rfl⟩ dX5_init_36
theorem nNX5_init {R : Room} {s : State} {args : Array Value} {own : String} {index : Nat} (ht : ∀ w ∈ lw_all, w.before args s = true) (hl : va_Nw (nestW (own, index, yX5_init, RX6)) s) (hf : rmX5_init.frames + 1 ≤ R.frames) (hlo : 8 + (1 + 11) + rmX5_init.locals ≤ R.locals) : va_CN R s args own index yX5_init RX6 cX5_init 1 none (wA yX5_init cX5_init 1 none) rmX5_init 2 12 0 ∧ yX5_init.name = "<init>" ∧ (Cond.instanceMethod yX5_init).before args s = true := ⟨va_cnB 0 ht (good_wA qc_yX5_init) rfl rfl rfl hl (ht _ qi_RX5) (by decide +kernel) ⟨hf, hlo⟩, rfl, ht _ qm_yX5_init⟩
def rmX0_init : Room := { frames := 1, cells := 1, slots := 10, locals := 12 }
set_option maxRecDepth 100000 in
set_option maxHeartbeats 8000000 in
theorem met_X0_init (l : Launch) (D : va_G) (cy : Nat → ClassId) (h0 : Nat) : NI l yX0_init (wA yX0_init cX0_init 1 none) rmX0_init D cy h0 [(h0, .inr (0, fz0))] (fun w1 => ∃ a : Nat, w1 = [(h0, .inr (0, [.ref a, .int 0])), (a, .inl (cy 0, 10, .inl (fun _ => 0)))]) 1 10 := by
  intro sz
  refine mkN (own := RX0) (by decide) rfl (by decide) ?_
  intro p e s m below meth c ls hsz hM hlocks hret hin hK hO hA hP hD hS hl
  have hin : meth.name = "<init>" := hin
  refine lv_aload_n hM.1 hM.2.1 dX0_init_0 rfl (lv_at hl 0 rfl) ?_
  refine W.objInit hM.1 hM.2.1 hM.2.2.2.1 (hM.2.2.2.2 _ ql_RX0_3) (hM.2.2.2.2 _ qm_objectInit) (hM.2.2.2.2 _ qc_objectInit) rfl (by rw [hM.2.2.1]; exact hl.1) rfl dX0_init_1 (Nat.le_of_ble_eq_true rfl) (Nat.le_of_ble_eq_true rfl) ?_
  refine W.eq (g2 := F0 m 4 ls []) rfl ?_
  refine lv_aload_n hM.1 hM.2.1 dX0_init_4 rfl (lv_at hl 0 rfl) ?_
  refine lv_bipush (v := (10 : Int32)) hM.1 hM.2.1 dX0_init_5 (by decide) ?_
  refine r_newI (N' := 10) hM hK hP hD hS hA qy_0 (by decide) (by decide) (by decide) (Nat.le_of_ble_eq_true rfl) (Nat.le_of_ble_eq_true rfl) dX0_init_7 (fun q1 H hP hD hS => ?_)
  have hP : va_P D vwCl [(h0, .inr (0, [.null, .int 0])), (q1, .inl (cy 0, 10, .inl (fun _ => 0)))] H := hP
  have hD : va_D (va_A [(h0, .inr (0, fz0))] sz) [(h0, .inr (0, [.null, .int 0])), (q1, .inl (cy 0, 10, .inl (fun _ => 0)))] := hD
  refine va_putF (ci := 0) (v := .ref q1) (ty := tyX0 0) (C := RX0) (T := TX0) (N := 2) hM.1 hM.2.1 hM.2.2.2.2 qu_0 tyX0 tyX0_ok nmX0 hM.2.2.2.1 hK.1 hP hD hS 0 rfl rfl 0 (by decide) (hM.2.2.2.2 _ qf_RX0_9) (fun _ h9 => h9) rfl hin rfl (tyX0_ok 0 (by decide)) rfl rfl (by simp) dX0_init_9 (fun H locs hP hD hS => ?_)
  have hP : va_P D vwCl [(h0, .inr (0, [.ref q1, .int 0])), (q1, .inl (cy 0, 10, .inl (fun _ => 0)))] H := hP
  have hD : va_D (va_A [(h0, .inr (0, fz0))] sz) [(h0, .inr (0, [.ref q1, .int 0])), (q1, .inl (cy 0, 10, .inl (fun _ => 0)))] := hD
  refine W.widen (k := 1) (n := 10) (Nat.le_of_ble_eq_true rfl) (Nat.le_of_ble_eq_true rfl) ?_
  exact e_N (w1 := [(h0, .inr (0, [.ref q1, .int 0])), (q1, .inl (cy 0, 10, .inl (fun _ => 0)))]) hM hP hD hS hlocks hret ⟨q1, rfl⟩ dX0_init_12
theorem nNX0_init {R : Room} {s : State} {args : Array Value} {own : String} {index : Nat} (ht : ∀ w ∈ lw_all, w.before args s = true) (hl : va_Nw (nestW (own, index, yX0_init, RX6)) s) (hf : rmX0_init.frames + 1 ≤ R.frames) (hlo : 8 + (1 + 11) + rmX0_init.locals ≤ R.locals) : va_CN R s args own index yX0_init RX6 cX0_init 1 none (wA yX0_init cX0_init 1 none) rmX0_init 1 10 0 ∧ yX0_init.name = "<init>" ∧ (Cond.instanceMethod yX0_init).before args s = true := ⟨va_cnB 0 ht (good_wA qc_yX0_init) rfl rfl rfl hl (ht _ qi_RX0) (by decide +kernel) ⟨hf, hlo⟩, rfl, ht _ qm_yX0_init⟩
def rmX2_init : Room := { frames := 1, cells := 1, slots := 60, locals := 12 }
set_option maxRecDepth 100000 in
set_option maxHeartbeats 8000000 in
theorem met_X2_init (l : Launch) (D : va_G) (cy : Nat → ClassId) (h0 : Nat) : NI l yX2_init (wA yX2_init cX2_init 1 none) rmX2_init D cy h0 [(h0, .inr (2, fz2))] (fun w1 => ∃ a : Nat, w1 = [(h0, .inr (2, [.ref a, .int 0, .int 0, .int 0, .int 0, .int 0, .int 0, .int 0])), (a, .inl (cy 1, 60, .inl (fun _ => 0)))]) 1 60 := by
  intro sz
  refine mkN (own := RX2) (by decide) rfl (by decide) ?_
  intro p e s m below meth c ls hsz hM hlocks hret hin hK hO hA hP hD hS hl
  have hin : meth.name = "<init>" := hin
  refine lv_aload_n hM.1 hM.2.1 dX2_init_0 rfl (lv_at hl 0 rfl) ?_
  refine W.objInit hM.1 hM.2.1 hM.2.2.2.1 (hM.2.2.2.2 _ ql_RX2_3) (hM.2.2.2.2 _ qm_objectInit) (hM.2.2.2.2 _ qc_objectInit) rfl (by rw [hM.2.2.1]; exact hl.1) rfl dX2_init_1 (Nat.le_of_ble_eq_true rfl) (Nat.le_of_ble_eq_true rfl) ?_
  refine W.eq (g2 := F0 m 4 ls []) rfl ?_
  refine lv_aload_n hM.1 hM.2.1 dX2_init_4 rfl (lv_at hl 0 rfl) ?_
  refine lv_bipush (v := (60 : Int32)) hM.1 hM.2.1 dX2_init_5 (by decide) ?_
  refine r_newC (N' := 60) hM hK hP hD hS hA qy_1 (by decide) (by decide) (by decide) (Nat.le_of_ble_eq_true rfl) (Nat.le_of_ble_eq_true rfl) dX2_init_7 (fun q1 H hP hD hS => ?_)
  have hP : va_P D vwCl [(h0, .inr (2, [.null, .int 0, .int 0, .int 0, .int 0, .int 0, .int 0, .int 0])), (q1, .inl (cy 1, 60, .inl (fun _ => 0)))] H := hP
  have hD : va_D (va_A [(h0, .inr (2, fz2))] sz) [(h0, .inr (2, [.null, .int 0, .int 0, .int 0, .int 0, .int 0, .int 0, .int 0])), (q1, .inl (cy 1, 60, .inl (fun _ => 0)))] := hD
  refine va_putF (ci := 2) (v := .ref q1) (ty := tyX2 0) (C := RX2) (T := TX2) (N := 8) hM.1 hM.2.1 hM.2.2.2.2 qu_2 tyX2 tyX2_ok nmX2 hM.2.2.2.1 hK.1 hP hD hS 0 rfl rfl 0 (by decide) (hM.2.2.2.2 _ qf_RX2_9) (fun _ h9 => h9) rfl hin rfl (tyX2_ok 0 (by decide)) rfl rfl (by simp) dX2_init_9 (fun H locs hP hD hS => ?_)
  have hP : va_P D vwCl [(h0, .inr (2, [.ref q1, .int 0, .int 0, .int 0, .int 0, .int 0, .int 0, .int 0])), (q1, .inl (cy 1, 60, .inl (fun _ => 0)))] H := hP
  have hD : va_D (va_A [(h0, .inr (2, fz2))] sz) [(h0, .inr (2, [.ref q1, .int 0, .int 0, .int 0, .int 0, .int 0, .int 0, .int 0])), (q1, .inl (cy 1, 60, .inl (fun _ => 0)))] := hD
  refine W.widen (k := 1) (n := 60) (Nat.le_of_ble_eq_true rfl) (Nat.le_of_ble_eq_true rfl) ?_
  exact e_N (w1 := [(h0, .inr (2, [.ref q1, .int 0, .int 0, .int 0, .int 0, .int 0, .int 0, .int 0])), (q1, .inl (cy 1, 60, .inl (fun _ => 0)))]) hM hP hD hS hlocks hret ⟨q1, rfl⟩ dX2_init_12
theorem nNX2_init {R : Room} {s : State} {args : Array Value} {own : String} {index : Nat} (ht : ∀ w ∈ lw_all, w.before args s = true) (hl : va_Nw (nestW (own, index, yX2_init, RX6)) s) (hf : rmX2_init.frames + 1 ≤ R.frames) (hlo : 8 + (1 + 11) + rmX2_init.locals ≤ R.locals) : va_CN R s args own index yX2_init RX6 cX2_init 1 none (wA yX2_init cX2_init 1 none) rmX2_init 1 60 0 ∧ yX2_init.name = "<init>" ∧ (Cond.instanceMethod yX2_init).before args s = true := ⟨va_cnB 0 ht (good_wA qc_yX2_init) rfl rfl rfl hl (ht _ qi_RX2) (by decide +kernel) ⟨hf, hlo⟩, rfl, ht _ qm_yX2_init⟩
