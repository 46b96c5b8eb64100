theorem ht_arr {args : Array Value} {s : State} {ty : FieldType} (hp : (∀ C, ty ≠ .object C)) (h : (Cond.arrayClass ty).before args s = true) : ∃ c : ClassId, ArrOfT s c ty ∧ va_RA s c ty := by
  obtain ⟨c, k, comp, h1, h2, h3⟩ := Cond.arrayClass_spec h
  refine ⟨c, fun n z => ⟨fun k h => (by cases h), k, h2, comp, h3⟩, ?_⟩
  cases ty with
  | object C => exact absurd rfl (hp C)
  | _ => exact h1
theorem ht_arrO {s : State} {C : String} (h : va_AO C s) : ∃ c : ClassId, ArrOfT s c (.object C) ∧ va_RA s c (.object C) := by
  obtain ⟨comp, c, k, h1, h2, h3, h4, h5⟩ := Cond.arrayOver_spec h
  exact ⟨c, fun n z => ⟨fun k h => (by cases h), k, h3, comp, h4⟩, k, comp, h3, h4, h1, h5⟩
theorem ht_AO {b : Nat} {s : State} (hts : ∀ w ∈ lw_tbl, w.before #[Value.ref b] s = true) : AO s := ⟨va_AO.of (hts _ qo_RX3), va_AO.of (hts _ qo_RX5)⟩
theorem ht_NX {b : Nat} {s : State} (hts : ∀ w ∈ lw_tbl, w.before #[Value.ref b] s = true) : NX s := fun q hq => va_Nw.of rfl (hts _ (nest_tbl q hq))
theorem ht_K {b : Nat} {s : State} (hts : ∀ w ∈ lw_tbl, w.before #[Value.ref b] s = true) : ∃ (D : va_G) (cy : Nat → ClassId), va_K D vwCl (tyK cy) s := by
  have htl : ∀ w ∈ lw_all, w.before #[Value.ref b] s = true := fun w hw => hts w (lw_good w hw).1
  obtain ⟨c0, s0, h0⟩ := u_known (C := RX0) (T := TX0) (N := 2) (n := 2) htl qu_0 (htl _ qa_RX0)
  obtain ⟨c1, s1, h1⟩ := u_known (C := RX1) (T := TX1) (N := 4) (n := 4) htl qu_1 (htl _ qa_RX1)
  obtain ⟨c2, s2, h2⟩ := u_known (C := RX2) (T := TX2) (N := 8) (n := 8) htl qu_2 (htl _ qa_RX2)
  obtain ⟨c3, s3, h3⟩ := u_known (C := RX3) (T := TX3) (N := 13) (n := 13) htl qu_3 (htl _ qa_RX3)
  obtain ⟨c4, s4, h4⟩ := u_known (C := RX4) (T := TX4) (N := 2) (n := 2) htl qu_4 (htl _ qa_RX4)
  obtain ⟨c5, s5, h5⟩ := u_known (C := RX5) (T := TX5) (N := 12) (n := 12) htl qu_5 (htl _ qa_RX5)
  obtain ⟨c6, s6, h6⟩ := u_known (C := RX6) (T := TX6) (N := 6) (n := 6) htl qu_6 (htl _ qa_RX6)
  obtain ⟨y0, z0⟩ := ht_arr (ty := .int) (fun C h => by cases h) (htl _ qy_0)
  obtain ⟨y1, z1⟩ := ht_arr (ty := .char) (fun C h => by cases h) (htl _ qy_1)
  obtain ⟨y2, z2⟩ := ht_arrO (ht_AO hts).2
  obtain ⟨y3, z3⟩ := ht_arrO (ht_AO hts).1
  refine ⟨(fun k => if k = 0 then c0 else if k = 1 then c1 else if k = 2 then c2 else if k = 3 then c3 else if k = 4 then c4 else if k = 5 then c5 else  c6, fun k => if k = 0 then s0 else if k = 1 then s1 else if k = 2 then s2 else if k = 3 then s3 else if k = 4 then s4 else if k = 5 then s5 else  s6), fun k => if k = 0 then y0 else if k = 1 then y1 else if k = 2 then y2 else  y3, ⟨fun k q hq => ?_, fun k q hq => ?_⟩⟩
  · match k, hq with
    | 0, hq => cases hq; exact h0
    | 1, hq => cases hq; exact h1
    | 2, hq => cases hq; exact h2
    | 3, hq => cases hq; exact h3
    | 4, hq => cases hq; exact h4
    | 5, hq => cases hq; exact h5
    | 6, hq => cases hq; exact h6
    | k + 7, hq => simp at hq
  · match k, hq with
    | 0, hq => cases hq; exact z0
    | 1, hq => cases hq; exact z1
    | 2, hq => cases hq; exact z2
    | 3, hq => cases hq; exact z3
    | k + 4, hq => simp at hq
set_option maxRecDepth 100000 in
set_option maxHeartbeats 4000000 in
/-- the law from its entry, with the pure part as a premise -/
theorem whole_start_of (hpure : ∀ cf : Int32 → Int32, vc_L_law cf S0) {p : Program} {e : Env} {s : State} {m : MethodId} {below : List Frame} {meth : Method} {c : Code} (l : Launch) {b L : Nat} {xs : Nat → Int32} (hL : L ≤ 260) (C0 : lw_At p s m meth c b L xs) : W p l e room_1 s m #[Value.ref b] below meth c s.heap [] 0 0 (lw_Z below #[Value.ref b] s) (entryFrame m ([Value.ref b] : List Value).toArray 9) := by
  obtain ⟨hx, hb, hr, hml, hown, hts, hXs, hbl, hlocks, hgv⟩ := id C0
  obtain ⟨D, cy, hK0⟩ := ht_K hts
  have hKs : KW D cy s := ⟨hK0, ht_NX hts⟩
  have hMM : ∀ d : Drawn, CallFix p m c cL_law 9 (s.setDrawn d) #[Value.ref b] lw_all RL := fun d => ⟨hx, hb, hml, hown, dr_words (fun w hw => hts w (lw_good w hw).1) d⟩
  have hd0 := Drawn.sameBut.refl s.drawn lw_cs
  refine W.base ?_
  have hM := hMM s.drawn
  have hK : KW D cy (s.setDrawn s.drawn) := hKs
  have hO : AO (s.setDrawn s.drawn) := ht_AO hts
  have hA : ∀ q : Nat, s.heap.size ≤ q → (fun q : Nat => s.heap.size ≤ q) q := fun _ h => h
  have hbA : ¬ (fun q : Nat => s.heap.size ≤ q) b := Nat.not_le.mpr hbl
  have hS : va_S (fun q : Nat => s.heap.size ≤ q) s.heap s.heap [] := va_S.rf
  have hP : va_P D vwCl [] s.heap := fun k q h => by simp at h
  have hD : va_D (fun q : Nat => s.heap.size ≤ q) [] := ⟨fun i j p q h => by simp at h, fun k q h => by simp at h⟩
  have hl := lv_entry ([.ref b]) (n := 9) (Nat.le_of_ble_eq_true rfl)
  rw [lg_entry_eq]
  generalize (lg_sl ([.ref b]) ++ List.replicate (9 - (lg_sl ([.ref b])).length) Slot.unset).toArray = ls at hl ⊢
  have hl : lv_has ls 9 [(0, .ref b)] := hl
  refine va_new (ci := 6) (fs := fz6) (C := RX6) (T := TX6) (N := 6) hM.1 hM.2.1 hM.2.2.2.2 qu_6 tyX6 tyX6_ok hM.2.2.2.1 (hM.2.2.2.2 _ qk_RL_41) (hM.2.2.2.2 _ qa_RX6) (hM.2.2.2.2 _ qi_RX6) hK.1 hP hD hS hA rfl fz6_ok (Nat.le_of_ble_eq_true rfl) (Nat.le_of_ble_eq_true rfl) dL_law_0 (fun q1 H hP hD hS => ?_)
  refine lv_dup hM.1 hM.2.1 dL_law_3 rfl ?_
  refine c_new (wr := []) (w0 := [(q1, .inr (6, fz6))]) hM hK hO hP hD hS hA (met_X6_init l D cy q1) (nnX6_init hM.2.2.2.2 ql_RL_115 (Nat.le_of_ble_eq_true rfl) (Nat.le_of_ble_eq_true rfl)) hl.1 rfl (Nat.le_of_ble_eq_true rfl) dL_law_4 ⟨(Nat.le_of_ble_eq_true rfl), (Nat.le_of_ble_eq_true rfl)⟩ (fun w1 hw H locs hP hD hS => ?_)
  obtain ⟨hi, st, s1, s2, tx, ch, a0, a1, a8, a2, a3, a4, a5, a6, a7, a9, a10, rfl⟩ := hw
  refine lv_astore_n (lv' := [(1, .ref q1), (0, .ref b)]) hM.1 hM.2.1 dL_law_7 rfl hl (by decide) rfl (fun ls hl => ?_)
  have hP : va_P D vwCl (xbl cy q1 hi st s1 s2 tx ch a0 a1 a8 a2 a3 a4 a5 a6 a7 a9 a10) H := hP
  have hD : va_D (fun q : Nat => s.heap.size ≤ q) (xbl cy q1 hi st s1 s2 tx ch a0 a1 a8 a2 a3 a4 a5 a6 a7 a9 a10) := hD
  refine lv_bipush (v := (60 : Int32)) hM.1 hM.2.1 dL_law_8 (by decide) ?_
  refine r_newI (N' := 60) hM hK hP hD hS hA qy_0 (by decide) (by decide) (by decide) (Nat.le_of_ble_eq_true rfl) (Nat.le_of_ble_eq_true rfl) dL_law_10 (fun r0 H hP hD hS => ?_)
  refine lv_astore_n (lv' := [(2, .ref r0), (1, .ref q1), (0, .ref b)]) hM.1 hM.2.1 dL_law_12 rfl hl (by decide) rfl (fun ls hl => ?_)
  refine lv_bipush (v := (36 : Int32)) hM.1 hM.2.1 dL_law_13 (by decide) ?_
  refine r_newI (N' := 36) hM hK hP hD hS hA qy_0 (by decide) (by decide) (by decide) (Nat.le_of_ble_eq_true rfl) (Nat.le_of_ble_eq_true rfl) dL_law_15 (fun r1 H hP hD hS => ?_)
  refine lv_astore_n (lv' := [(3, .ref r1), (2, .ref r0), (1, .ref q1), (0, .ref b)]) hM.1 hM.2.1 dL_law_17 rfl hl (by decide) rfl (fun ls hl => ?_)
  refine lv_bipush (v := (36 : Int32)) hM.1 hM.2.1 dL_law_18 (by decide) ?_
  refine r_newI (N' := 36) hM hK hP hD hS hA qy_0 (by decide) (by decide) (by decide) (Nat.le_of_ble_eq_true rfl) (Nat.le_of_ble_eq_true rfl) dL_law_20 (fun r2 H hP hD hS => ?_)
  refine lv_astore (lv' := [(4, .ref r2), (3, .ref r1), (2, .ref r0), (1, .ref q1), (0, .ref b)]) hM.1 hM.2.1 dL_law_22 hl (by decide) rfl (fun ls hl => ?_)
  refine lv_bipush (v := (16 : Int32)) hM.1 hM.2.1 dL_law_24 (by decide) ?_
  refine r_newI (N' := 16) hM hK hP hD hS hA qy_0 (by decide) (by decide) (by decide) (Nat.le_of_ble_eq_true rfl) (Nat.le_of_ble_eq_true rfl) dL_law_26 (fun r3 H hP hD hS => ?_)
  refine lv_astore (lv' := [(5, .ref r3), (4, .ref r2), (3, .ref r1), (2, .ref r0), (1, .ref q1), (0, .ref b)]) hM.1 hM.2.1 dL_law_28 hl (by decide) rfl (fun ls hl => ?_)
  have ew : ((((xbl cy q1 hi st s1 s2 tx ch a0 a1 a8 a2 a3 a4 a5 a6 a7 a9 a10 ++ [(r0, .inl (cy 0, 60, .inl (fun _ => 0)))]) ++ [(r1, .inl (cy 0, 36, .inl (fun _ => 0)))]) ++ [(r2, .inl (cy 0, 36, .inl (fun _ => 0)))]) ++ [(r3, .inl (cy 0, 16, .inl (fun _ => 0)))]) = xbl cy q1 hi st s1 s2 tx ch a0 a1 a8 a2 a3 a4 a5 a6 a7 a9 a10 ++ [(r0, .inl (cy 0, 60, .inl (fun _ => 0))), (r1, .inl (cy 0, 36, .inl (fun _ => 0))), (r2, .inl (cy 0, 36, .inl (fun _ => 0))), (r3, .inl (cy 0, 16, .inl (fun _ => 0)))] := by
    rw [List.append_assoc, List.append_assoc, List.append_assoc]; rfl
  rw [ew, made_eq cy a0 a1 a2 a3 a4 a5 a6 a7 a8 a9 a10 q1 hi st s1 s2 tx ch r0 r1 r2 r3] at hP hD
  generalize had : adX a0 a1 a2 a3 a4 a5 a6 a7 a8 a9 a10 q1 hi st s1 s2 tx ch r0 r1 r2 r3 = ad at hP hD
  have e1 : ad 14 0 0 = q1 := by rw [← had]; rfl
  have e2 : ad 15 0 0 = r0 := by rw [← had]; rfl
  have e3 : ad 16 0 0 = r1 := by rw [← had]; rfl
  have e4 : ad 17 0 0 = r2 := by rw [← had]; rfl
  have e5 : ad 18 0 0 = r3 := by rw [← had]; rfl
  obtain ⟨hP, hD⟩ := made_wd hP hD
  rw [← e1, ← e2, ← e3, ← e4, ← e5] at hl
  refine W.widen (k := 500) (n := 4000) (Nat.le_of_ble_eq_true rfl) (Nat.le_of_ble_eq_true rfl) ?_
  exact law_walk (D := D) (ad := ad) (cy := cy) (A := (fun q : Nat => s.heap.size ≤ q)) (L := L) (xs := xs) (b := b) (fun H ls => lw_ret hd0 hM.1 hM.2.1 hr hlocks dL_law_335) hL hM hK hA (fun _ h => h) hXs hbl hbA IN_oL rfl S0 (hpure _) H locs ls ⟨hP, hD, hS⟩ hl
