theorem ht_thL {args : Array Value} {s : State} (hts : ∀ w ∈ lw_tbl, w.before args s = true) : ∀ w ∈ thL, va_Nw w s := by
  have h : thL.all (fun w => decide (w ∈ lw_tbl)) = true := by decide +kernel
  exact fun w hw => va_Nw.of (thL_tab w hw) (hts w (of_decide_eq_true (List.all_eq_true.mp h w hw)))
theorem ht_str {b : Nat} {s : State} (hts : ∀ w ∈ lw_tbl, w.before #[Value.ref b] s = true) (hgv : (Jvm.Cond.and given_1 narrow_1).before #[Value.ref b] s = true) : ∀ q ∈ strL, ∃ sa : Nat, vk_R RX6 q.1 q.2 sa s := by
  have hs := flat_of_before _ hgv
  intro q hq
  simp only [strL, List.mem_cons, List.not_mem_nil, or_false] at hq
  rcases hq with rfl | rfl | rfl | rfl | rfl | rfl | rfl | rfl | rfl | rfl | rfl | rfl
  · obtain ⟨a, -, -, -, h, -⟩ := Cond.exactly_spec (hs (Cond.exactly (Term.string RX6 109) "java/lang/String") (by decide +kernel))
    exact ⟨a, vk_R.of (hts _ qr_RX6_109) h⟩
  · obtain ⟨a, -, -, -, h, -⟩ := Cond.exactly_spec (hs (Cond.exactly (Term.string RX6 114) "java/lang/String") (by decide +kernel))
    exact ⟨a, vk_R.of (hts _ qr_RX6_114) h⟩
  · obtain ⟨a, -, -, -, h, -⟩ := Cond.exactly_spec (hs (Cond.exactly (Term.string RX6 126) "java/lang/String") (by decide +kernel))
    exact ⟨a, vk_R.of (hts _ qr_RX6_126) h⟩
  · obtain ⟨a, -, -, -, h, -⟩ := Cond.exactly_spec (hs (Cond.exactly (Term.string RX6 144) "java/lang/String") (by decide +kernel))
    exact ⟨a, vk_R.of (hts _ qr_RX6_144) h⟩
  · obtain ⟨a, -, -, -, h, -⟩ := Cond.exactly_spec (hs (Cond.exactly (Term.string RX6 159) "java/lang/String") (by decide +kernel))
    exact ⟨a, vk_R.of (hts _ qr_RX6_159) h⟩
  · obtain ⟨a, -, -, -, h, -⟩ := Cond.exactly_spec (hs (Cond.exactly (Term.string RX6 178) "java/lang/String") (by decide +kernel))
    exact ⟨a, vk_R.of (hts _ qr_RX6_178) h⟩
  · obtain ⟨a, -, -, -, h, -⟩ := Cond.exactly_spec (hs (Cond.exactly (Term.string RX6 254) "java/lang/String") (by decide +kernel))
    exact ⟨a, vk_R.of (hts _ qr_RX6_254) h⟩
  · obtain ⟨a, -, -, -, h, -⟩ := Cond.exactly_spec (hs (Cond.exactly (Term.string RX6 256) "java/lang/String") (by decide +kernel))
    exact ⟨a, vk_R.of (hts _ qr_RX6_256) h⟩
  · obtain ⟨a, -, -, -, h, -⟩ := Cond.exactly_spec (hs (Cond.exactly (Term.string RX6 258) "java/lang/String") (by decide +kernel))
    exact ⟨a, vk_R.of (hts _ qr_RX6_258) h⟩
  · obtain ⟨a, -, -, -, h, -⟩ := Cond.exactly_spec (hs (Cond.exactly (Term.string RX6 264) "java/lang/String") (by decide +kernel))
    exact ⟨a, vk_R.of (hts _ qr_RX6_264) h⟩
  · obtain ⟨a, -, -, -, h, -⟩ := Cond.exactly_spec (hs (Cond.exactly (Term.string RX6 269) "java/lang/String") (by decide +kernel))
    exact ⟨a, vk_R.of (hts _ qr_RX6_269) h⟩
  · obtain ⟨a, -, -, -, h, -⟩ := Cond.exactly_spec (hs (Cond.exactly (Term.string RX6 57) "java/lang/String") (by decide +kernel))
    exact ⟨a, vk_R.of (hts _ qr_RX6_57) h⟩
theorem ht_NC {b : Nat} {s : State} (hgv : (Jvm.Cond.and given_1 narrow_1).before #[Value.ref b] s = true) : NC s := by
  have hs := flat_of_before _ hgv
  intro j k hj hk hn
  rcases (show j = 1 ∨ j = 2 ∨ j = 3 by omega) with rfl | rfl | rfl <;> rcases (show k = 1 ∨ k = 2 ∨ k = 3 by omega) with rfl | rfl | rfl
  · exact absurd rfl hn
  · exact va_Nc.of (hs (Cond.not (.castable (exN 1) (exN 2))) (by decide +kernel))
  · exact va_Nc.of (hs (Cond.not (.castable (exN 1) (exN 3))) (by decide +kernel))
  · exact va_Nc.of (hs (Cond.not (.castable (exN 2) (exN 1))) (by decide +kernel))
  · exact absurd rfl hn
  · exact va_Nc.of (hs (Cond.not (.castable (exN 2) (exN 3))) (by decide +kernel))
  · exact va_Nc.of (hs (Cond.not (.castable (exN 3) (exN 1))) (by decide +kernel))
  · exact va_Nc.of (hs (Cond.not (.castable (exN 3) (exN 2))) (by decide +kernel))
  · exact absurd rfl hn
theorem ht_TZ {b : Nat} {s : State} (hts : ∀ w ∈ lw_tbl, w.before #[Value.ref b] s = true) (hgv : (Jvm.Cond.and given_1 narrow_1).before #[Value.ref b] s = true) : TZ (fun q : Nat => s.heap.size ≤ q) s s.heap := by
  have hs := flat_of_before _ hgv
  exact ⟨vx_Zqof (hts _ qz_UNASSIGNED_STACK) (hts _ (lw_good _ qi_java_lang_Throwable).1) (hs (Cond.isRef (.static "java/lang/Throwable" "UNASSIGNED_STACK" "[Ljava/lang/StackTraceElement;")) (by decide +kernel)) (fun a ha => Nat.not_le.mpr ha), vx_Zqof (hts _ qz_SUPPRESSED_SENTINEL) (hts _ (lw_good _ qi_java_lang_Throwable).1) (hs (Cond.isRef (.static "java/lang/Throwable" "SUPPRESSED_SENTINEL" "Ljava/util/List;")) (by decide +kernel)) (fun a ha => Nat.not_le.mpr ha)⟩
theorem ht_arr {args : Array Value} {s : State} {ty : FieldType} (hp : (∀ C, ty ≠ .object C)) (h : (Cond.arrayClass ty).before args s = true) : ∃ c : ClassId, ArrOfT s c ty ∧ va_RA s c ty := by
  obtain ⟨c, k, comp, h1, h2, h3⟩ := Cond.arrayClass_spec h
  refine ⟨c, fun n z => ⟨fun k h => (by cases h), k, h2, comp, h3⟩, ?_⟩
  cases ty with
  | object C => exact absurd rfl (hp C)
  | _ => exact h1
theorem ht_arrO {s : State} {C : String} (h : va_AO C s) : ∃ c : ClassId, ArrOfT s c (.object C) ∧ va_RA s c (.object C) := by
  obtain ⟨comp, c, k, h1, h2, h3, h4, h5⟩ := Cond.arrayOver_spec h
  exact ⟨c, fun n z => ⟨fun k h => (by cases h), k, h3, comp, h4⟩, k, comp, h3, h4, h1, h5⟩
theorem ht_AO {b : Nat} {s : State} (hts : ∀ w ∈ lw_tbl, w.before #[Value.ref b] s = true) : AO s := ⟨va_AO.of (hts _ qo_RX3), va_AO.of (hts _ qo_RX5)⟩
theorem ht_NX {b : Nat} {s : State} (hts : ∀ w ∈ lw_tbl, w.before #[Value.ref b] s = true) : NX s := fun q hq => va_Nw.of rfl (hts _ (nest_tbl q hq))
theorem ht_K {b : Nat} {s : State} (hts : ∀ w ∈ lw_tbl, w.before #[Value.ref b] s = true) : ∃ (D : va_G) (cy : Nat → ClassId), va_K D vwCl (tyK cy) s := by
  have htl : ∀ w ∈ lw_all, w.before #[Value.ref b] s = true := fun w hw => hts w (lw_good w hw).1
  obtain ⟨c0, s0, h0⟩ := u_known (C := RX0) (T := TX0) (N := 2) (n := 2) htl qu_0 (htl _ qa_RX0)
  obtain ⟨c1, s1, h1⟩ := u_known (C := RX1) (T := TX1) (N := 4) (n := 4) htl qu_1 (htl _ qa_RX1)
  obtain ⟨c2, s2, h2⟩ := u_known (C := RX2) (T := TX2) (N := 8) (n := 8) htl qu_2 (htl _ qa_RX2)
  obtain ⟨c3, s3, h3⟩ := u_known (C := RX3) (T := TX3) (N := 13) (n := 13) htl qu_3 (htl _ qa_RX3)
  obtain ⟨c4, s4, h4⟩ := u_known (C := RX4) (T := TX4) (N := 2) (n := 2) htl qu_4 (htl _ qa_RX4)
  obtain ⟨c5, s5, h5⟩ := u_known (C := RX5) (T := TX5) (N := 12) (n := 12) htl qu_5 (htl _ qa_RX5)
  obtain ⟨c6, s6, h6⟩ := u_known (C := RX6) (T := TX6) (N := 6) (n := 6) htl qu_6 (htl _ qa_RX6)
  obtain ⟨c7, s7, h7⟩ := u_known (C := RX7) (T := TX7) (N := 18) (n := 18) htl qu_7 (htl _ qa_RX7)
  obtain ⟨y0, z0⟩ := ht_arr (ty := .int) (fun C h => by cases h) (htl _ qy_0)
  obtain ⟨y1, z1⟩ := ht_arr (ty := .char) (fun C h => by cases h) (htl _ qy_1)
  obtain ⟨y2, z2⟩ := ht_arr (ty := .boolean) (fun C h => by cases h) (htl _ qy_3)
  obtain ⟨y3, z3⟩ := ht_arrO (ht_AO hts).2
  obtain ⟨y4, z4⟩ := ht_arrO (ht_AO hts).1
  obtain ⟨y5, z5⟩ := ht_arr (ty := .long) (fun C h => by cases h) (htl _ qy_4)
  refine ⟨(fun k => if k = 0 then c0 else if k = 1 then c1 else if k = 2 then c2 else if k = 3 then c3 else if k = 4 then c4 else if k = 5 then c5 else if k = 6 then c6 else  c7, fun k => if k = 0 then s0 else if k = 1 then s1 else if k = 2 then s2 else if k = 3 then s3 else if k = 4 then s4 else if k = 5 then s5 else if k = 6 then s6 else  s7), fun k => if k = 0 then y0 else if k = 1 then y1 else if k = 2 then y2 else if k = 3 then y3 else if k = 4 then y4 else  y5, ⟨fun k q hq => ?_, fun k q hq => ?_⟩⟩
  · match k, hq with
    | 0, hq => cases hq; exact h0
    | 1, hq => cases hq; exact h1
    | 2, hq => cases hq; exact h2
    | 3, hq => cases hq; exact h3
    | 4, hq => cases hq; exact h4
    | 5, hq => cases hq; exact h5
    | 6, hq => cases hq; exact h6
    | 7, hq => cases hq; exact h7
    | k + 8, hq => simp at hq
  · match k, hq with
    | 0, hq => cases hq; exact z0
    | 1, hq => cases hq; exact z1
    | 2, hq => cases hq; exact z2
    | 3, hq => cases hq; exact z3
    | 4, hq => cases hq; exact z4
    | 5, hq => cases hq; exact z5
    | k + 6, hq => simp at hq
set_option maxRecDepth 100000 in
set_option maxHeartbeats 4000000 in
/-- the law from its entry, with the pure part as a premise -/
theorem whole_start_of (hpure : ∀ (xs : Nat → Int32) (L : Nat), L ≤ 2560 → ∃ n : Nat, vc_run xs L n 0 S0 (fun _ => 0)) {p : Program} {e : Env} {s : State} {m : MethodId} {below : List Frame} {meth : Method} {c : Code} (l : Launch) (hflags : l.flags = flags0) {b L : Nat} {xs : Nat → Int32} (hL : L ≤ 2560) (C0 : lw_At p s m meth c b L xs) : W p l e room_1 s m #[Value.ref b] below meth c s.heap [] 0 0 (lw_Z below #[Value.ref b] s) (entryFrame m ([Value.ref b] : List Value).toArray 9) := by
  obtain ⟨hx, hb, hr, hml, hown, hts, hXs, hbl, hlocks, hgv⟩ := id C0
  have hl9 : l.stackTraces = false := by
    unfold Launch.stackTraces
    rw [hflags]
    decide
  obtain ⟨D, cy, hK0⟩ := ht_K hts
  have hKs : KW D cy s := ⟨hK0, ht_NX hts⟩
  have hMM : ∀ d : Drawn, CallFix p m c cL_law 9 (s.setDrawn d) #[Value.ref b] lw_all RL := fun d => ⟨hx, hb, hml, hown, dr_words (fun w hw => hts w (lw_good w hw).1) d⟩
  have hd0 := Drawn.sameBut.refl s.drawn lw_cs
  refine W.base ?_
  have hM := hMM s.drawn
  have hK : KW D cy (s.setDrawn s.drawn) := hKs
  have hO : AO (s.setDrawn s.drawn) := ht_AO hts
  have hA : ∀ q : Nat, s.heap.size ≤ q → (fun q : Nat => s.heap.size ≤ q) q := fun _ h => h
  have hS : va_S (fun q : Nat => s.heap.size ≤ q) s.heap s.heap [] := va_S.rf
  have hP : va_P D vwCl [] s.heap := fun k q h => by simp at h
  have hD : va_D (fun q : Nat => s.heap.size ≤ q) [] := ⟨fun i j p q h => by simp at h, fun k q h => by simp at h⟩
  have hl := lv_entry ([.ref b]) (n := 9) (Nat.le_of_ble_eq_true rfl)
  rw [lg_entry_eq]
  generalize (lg_sl ([.ref b]) ++ List.replicate (9 - (lg_sl ([.ref b])).length) Slot.unset).toArray = ls at hl ⊢
  have hl : lv_has ls 9 [(0, .ref b)] := hl
  refine va_new (ci := 6) (fs := fz6) (C := RX6) (T := TX6) (N := 6) hM.1 hM.2.1 hM.2.2.2.2 qu_6 tyX6 tyX6_ok hM.2.2.2.1 (hM.2.2.2.2 _ qk_RL_8) (hM.2.2.2.2 _ qa_RX6) (hM.2.2.2.2 _ qi_RX6) hK.1 hP hD hS hA rfl fz6_ok (Nat.le_of_ble_eq_true rfl) (Nat.le_of_ble_eq_true rfl) dL_law_0 (fun q1 H hP hD hS => ?_)
  refine lv_dup hM.1 hM.2.1 dL_law_3 rfl ?_
  refine c_new (wr := []) (w0 := [(q1, .inr (6, fz6))]) hM hK hO hP hD hS hA (met_X6_init l D cy q1) (nnX6_init hM.2.2.2.2 ql_RL_83 (Nat.le_of_ble_eq_true rfl) (Nat.le_of_ble_eq_true rfl)) hl.1 rfl (Nat.le_of_ble_eq_true rfl) dL_law_4 ⟨(Nat.le_of_ble_eq_true rfl), (Nat.le_of_ble_eq_true rfl)⟩ (fun w1 hw H locs hP hD hS => ?_)
  obtain ⟨hi, st, s1, s2, tx, ch, a0, a1, a8, a2, a3, a4, a5, a6, a7, a9, a10, rfl⟩ := hw
  refine lv_astore_n (lv' := [(1, .ref q1), (0, .ref b)]) hM.1 hM.2.1 dL_law_7 rfl hl (by decide) rfl (fun ls hl => ?_)
  have hP : va_P D vwCl (xbl cy q1 hi st s1 s2 tx ch a0 a1 a8 a2 a3 a4 a5 a6 a7 a9 a10) H := hP
  have hD : va_D (fun q : Nat => s.heap.size ≤ q) (xbl cy q1 hi st s1 s2 tx ch a0 a1 a8 a2 a3 a4 a5 a6 a7 a9 a10) := hD
  refine va_new (ci := 7) (fs := fz7) (C := RX7) (T := TX7) (N := 18) hM.1 hM.2.1 hM.2.2.2.2 qu_7 tyX7 tyX7_ok hM.2.2.2.1 (hM.2.2.2.2 _ qk_RL_84) (hM.2.2.2.2 _ qa_RX7) (hM.2.2.2.2 _ qi_RX7) hK.1 hP hD hS hA rfl fz7_ok (Nat.le_of_ble_eq_true rfl) (Nat.le_of_ble_eq_true rfl) dL_law_8 (fun q2 H hP hD hS => ?_)
  refine lv_dup hM.1 hM.2.1 dL_law_11 rfl ?_
  refine c_new (wr := xbl cy q1 hi st s1 s2 tx ch a0 a1 a8 a2 a3 a4 a5 a6 a7 a9 a10) (w0 := [(q2, .inr (7, fz7))]) hM hK hO hP hD hS hA (met_X7_init l D cy q2) (nnX7_init hM.2.2.2.2 ql_RL_86 (Nat.le_of_ble_eq_true rfl) (Nat.le_of_ble_eq_true rfl)) hl.1 rfl (Nat.le_of_ble_eq_true rfl) dL_law_12 ⟨(Nat.le_of_ble_eq_true rfl), (Nat.le_of_ble_eq_true rfl)⟩ (fun w1 hw H locs hP hD hS => ?_)
  obtain ⟨r0, r1, r2, r3, r4, r5, r6, r7, r8, r9, r10, r11, rfl⟩ := hw
  refine lv_astore_n (lv' := [(2, .ref q2), (1, .ref q1), (0, .ref b)]) hM.1 hM.2.1 dL_law_15 rfl hl (by decide) rfl (fun ls hl => ?_)
  refine lv_iconst (v := (1 : Int32)) hM.1 hM.2.1 dL_law_16 (by decide) ?_
  refine r_newJ (N' := 1) hM hK hP hD hS hA qy_4 (by decide) (by decide) (by decide) (Nat.le_of_ble_eq_true rfl) (Nat.le_of_ble_eq_true rfl) dL_law_17 (fun q3 H hP hD hS => ?_)
  refine lv_astore_n (lv' := [(3, .ref q3), (2, .ref q2), (1, .ref q1), (0, .ref b)]) hM.1 hM.2.1 dL_law_19 rfl hl (by decide) rfl (fun ls hl => ?_)
  refine lv_iconst (v := (0 : Int32)) hM.1 hM.2.1 dL_law_20 (by decide) ?_
  refine lv_istore (lv' := [(4, .int 0), (3, .ref q3), (2, .ref q2), (1, .ref q1), (0, .ref b)]) hM.1 hM.2.1 dL_law_21 hl (by decide) rfl (fun ls hl => ?_)
  rw [made_eq cy a0 a1 a2 a3 a4 a5 a6 a7 a8 a9 a10 q1 q2 q3 hi st s1 s2 tx ch r0 r1 r2 r3 r4 r5 r6 r7 r8 r9 r10 r11] at hP hD
  generalize had : adX a0 a1 a2 a3 a4 a5 a6 a7 a8 a9 a10 q1 q2 q3 hi st s1 s2 tx ch r0 r1 r2 r3 r4 r5 r6 r7 r8 r9 r10 r11 = ad at hP hD
  have e1 : ad 14 0 0 = q1 := by rw [← had]; rfl
  have e2 : ad 15 0 0 = q2 := by rw [← had]; rfl
  have e3 : ad 28 0 0 = q3 := by rw [← had]; rfl
  rw [← e3] at hP hD
  obtain ⟨hP, hD⟩ := made_wd hP hD
  rw [← e1, ← e2, ← e3] at hl
  obtain ⟨n, hn⟩ := hpure xs L hL
  refine W.widen (k := 500 + 0) (n := 8000 + 6 * 0) (Nat.le_of_ble_eq_true rfl) (Nat.le_of_ble_eq_true rfl) ?_
  exact law_loop hl9 hL hMM hKs ⟨ht_thL hts, ht_str hts hgv⟩ (ht_TZ hts hgv) (ht_NC hgv) hXs hbl hlocks hr n 0 S0 (fun _ => 0) (Nat.zero_le _) hn H locs ls s.drawn hd0 ⟨hP, hD, hS⟩ (lv_sub hl [0, 4, 3, 2, 1] rfl)
