/-! would: its four new rows join the world, and leave it at its end -/
def adW (ad : Adr) (q1 q2 q3 q4 : Nat) : Adr := fun t P i => match t with
  | 15 => if P = 1 then q1 else ad 15 P i
  | 16 => if P = 1 then q2 else ad 16 P i
  | 17 => if P = 1 then q3 else ad 17 P i
  | 18 => if P = 1 then q4 else ad 18 P i
  | t => ad t P i
def oW : List Id := oL ++ [(15, 1, 0), (16, 1, 0), (17, 1, 0), (18, 1, 0)]
theorem IN_oW : IN [(15, 0, 0), (16, 0, 0), (17, 0, 0), (18, 0, 0), (15, 1, 0), (16, 1, 0), (17, 1, 0), (18, 1, 0)] oW := ⟨fun k hk => List.mem_append_left _ (IN_oL.1 k hk), List.mem_append_left _ IN_oL.2.1, List.mem_append_left _ IN_oL.2.2.1, List.mem_append_left _ IN_oL.2.2.2.1, List.mem_append_left _ IN_oL.2.2.2.2.1, List.mem_append_right _ (by decide), List.mem_append_right _ (by decide), List.mem_append_right _ (by decide), List.mem_append_right _ (by decide), trivial⟩
theorem adW_cI (ad : Adr) (cy : Nat → ClassId) (q1 q2 q3 q4 t P i : Nat) (f : Nat → Int32) : cI (adW ad q1 q2 q3 q4) cy t P i f = cI ad cy t P i f := by
  unfold cI
  split <;> rfl
theorem oL_P : ∀ k ∈ oL, k.1 ≤ 18 ∧ (15 ≤ k.1 → k.2.1 = 0) := by
  have h : oL.all (fun k => decide (k.1 ≤ 18 ∧ (15 ≤ k.1 → k.2.1 = 0))) = true := by decide +kernel
  exact fun k hk => of_decide_eq_true (List.all_eq_true.mp h k hk)
theorem adW_ad (ad : Adr) (q1 q2 q3 q4 : Nat) {t P i : Nat} (h : 15 ≤ t → P = 0) : adW ad q1 q2 q3 q4 t P i = ad t P i := by
  unfold adW
  split
  · rw [if_neg (by rw [h (by decide)]; decide)]
  · rw [if_neg (by rw [h (by decide)]; decide)]
  · rw [if_neg (by rw [h (by decide)]; decide)]
  · rw [if_neg (by rw [h (by decide)]; decide)]
  · rfl
theorem wdW (ad : Adr) (cy : Nat → ClassId) (q1 q2 q3 q4 : Nat) (S : Mem) : wd (adW ad q1 q2 q3 q4) cy oL S = wd ad cy oL S := by
  refine List.map_congr_left fun k hk => ?_
  rw [adW_cI, adW_ad ad q1 q2 q3 q4 (oL_P k hk).2]
theorem wd_cg {ad : Adr} {cy : Nat → ClassId} {S S' : Mem} (h : ∀ k ∈ oL, S' k.1 k.2.1 k.2.2 = S k.1 k.2.1 k.2.2) : wd ad cy oL S' = wd ad cy oL S := by
  refine List.map_congr_left fun k hk => ?_
  rw [h k hk]
theorem va_P_pre {D : va_G} {w w1 : va_W} {H : Heap} (h : va_P D vwCl (w ++ w1) H) : va_P D vwCl w H := fun k q hk => h k q (by
  rw [List.getElem?_append_left (List.getElem?_eq_some_iff.mp hk).1]; exact hk)
theorem would_S {S S1 S2 S3 S4 : Mem} (e1 : S1 = uc S 15 1 0 (fun _ => 0)) (e2 : S2 = uc S1 16 1 0 (fun _ => 0)) (e3 : S3 = uc S2 17 1 0 (fun _ => 0)) (e4 : S4 = uc S3 18 1 0 (fun _ => 0)) : (∀ k ∈ oL, S4 k.1 k.2.1 k.2.2 = S k.1 k.2.1 k.2.2) ∧ S4 15 1 0 = (fun _ => 0) ∧ S4 16 1 0 = (fun _ => 0) ∧ S4 17 1 0 = (fun _ => 0) ∧ S4 18 1 0 = (fun _ => 0) := by
  subst e4 e3 e2 e1
  refine ⟨fun k hk => ?_, ?_, ?_, ?_, ?_⟩
  · have hp : ¬ (15 ≤ k.1 ∧ k.2.1 = 1) := fun h => by have := (oL_P k hk).2 h.1; omega
    rw [uc_ne (by omega), uc_ne (by omega), uc_ne (by omega), uc_ne (by omega)]
  · rw [uc_ne (by omega), uc_ne (by omega), uc_ne (by omega), uc_same]
  · rw [uc_ne (by omega), uc_ne (by omega), uc_same]
  · rw [uc_ne (by omega), uc_same]
  · rw [uc_same]
theorem wd_new {ad : Adr} {cy : Nat → ClassId} {q1 q2 q3 q4 : Nat} {S S4 : Mem} (h : (∀ k ∈ oL, S4 k.1 k.2.1 k.2.2 = S k.1 k.2.1 k.2.2) ∧ S4 15 1 0 = (fun _ => 0) ∧ S4 16 1 0 = (fun _ => 0) ∧ S4 17 1 0 = (fun _ => 0) ∧ S4 18 1 0 = (fun _ => 0)) : (((wd ad cy oL S ++ [(q1, .inl (cy 0, 60, .inl (fun _ => 0)))]) ++ [(q2, .inl (cy 0, 36, .inl (fun _ => 0)))]) ++ [(q3, .inl (cy 0, 36, .inl (fun _ => 0)))]) ++ [(q4, .inl (cy 0, 16, .inl (fun _ => 0)))] = wd (adW ad q1 q2 q3 q4) cy oW S4 := by
  obtain ⟨h0, h1, h2, h3, h4⟩ := h
  have e : wd (adW ad q1 q2 q3 q4) cy oW S4 = wd (adW ad q1 q2 q3 q4) cy oL S4 ++ [(q1, .inl (cy 0, 60, .inl (S4 15 1 0))), (q2, .inl (cy 0, 36, .inl (S4 16 1 0))), (q3, .inl (cy 0, 36, .inl (S4 17 1 0))), (q4, .inl (cy 0, 16, .inl (S4 18 1 0)))] := by
    unfold wd oW
    rw [List.map_append]
    rfl
  rw [e, wdW, wd_cg h0, h1, h2, h3, h4, List.append_assoc, List.append_assoc, List.append_assoc]
  rfl
set_option maxRecDepth 100000 in
set_option maxHeartbeats 4000000 in
theorem met_L_would (l : Launch) (D : va_G) (ad : Adr) (cy : Nat → ClassId) (S : Mem) (x5 : Int32) {Q : Mem → Int32 → Prop} (hq : vc_L_would S x5 Q) : ∀ sz : Nat, Met l yL_would (wA yL_would cL_would 14 (some Jvm.ClassFile.FieldType.boolean)) rmL_would (va_Pc [.ref (ad 14 0 0), .ref (ad 15 0 0), .ref (ad 16 0 0), .ref (ad 17 0 0), .ref (ad 18 0 0), .int x5] (PreW D ad cy oL S sz)) (Qi D ad cy oL sz Q) 4 148 (AW ad oL sz) := by
  intro sz
  refine mkC (own := RL) (lv := [(0, .ref (ad 14 0 0)), (1, .ref (ad 15 0 0)), (2, .ref (ad 16 0 0)), (3, .ref (ad 17 0 0)), (4, .ref (ad 18 0 0)), (5, .int x5)]) (by decide) rfl (Nat.le_of_ble_eq_true rfl) rfl ?_
  intro p e s m below meth c ls hsz hM hlocks hret hK hA hX hl
  obtain ⟨hP, hD, hS⟩ := hX
  refine lv_bipush (v := (60 : Int32)) hM.1 hM.2.1 dL_would_0 (by decide) ?_
  refine r_newI (N' := 60) hM hK hP hD hS hA qy_0 (by decide) (by decide) (by decide) (Nat.le_of_ble_eq_true rfl) (Nat.le_of_ble_eq_true rfl) dL_would_2 (fun q1 H hP hD hS => ?_)
  refine lv_astore (lv' := [(6, .ref q1), (0, .ref (ad 14 0 0)), (1, .ref (ad 15 0 0)), (2, .ref (ad 16 0 0)), (3, .ref (ad 17 0 0)), (4, .ref (ad 18 0 0)), (5, .int x5)]) hM.1 hM.2.1 dL_would_4 hl (by decide) rfl (fun ls hl => ?_)
  refine lv_bipush (v := (36 : Int32)) hM.1 hM.2.1 dL_would_6 (by decide) ?_
  refine r_newI (N' := 36) hM hK hP hD hS hA qy_0 (by decide) (by decide) (by decide) (Nat.le_of_ble_eq_true rfl) (Nat.le_of_ble_eq_true rfl) dL_would_8 (fun q2 H hP hD hS => ?_)
  refine lv_astore (lv' := [(7, .ref q2), (6, .ref q1), (0, .ref (ad 14 0 0)), (1, .ref (ad 15 0 0)), (2, .ref (ad 16 0 0)), (3, .ref (ad 17 0 0)), (4, .ref (ad 18 0 0)), (5, .int x5)]) hM.1 hM.2.1 dL_would_10 hl (by decide) rfl (fun ls hl => ?_)
  refine lv_bipush (v := (36 : Int32)) hM.1 hM.2.1 dL_would_12 (by decide) ?_
  refine r_newI (N' := 36) hM hK hP hD hS hA qy_0 (by decide) (by decide) (by decide) (Nat.le_of_ble_eq_true rfl) (Nat.le_of_ble_eq_true rfl) dL_would_14 (fun q3 H hP hD hS => ?_)
  refine lv_astore (lv' := [(8, .ref q3), (7, .ref q2), (6, .ref q1), (0, .ref (ad 14 0 0)), (1, .ref (ad 15 0 0)), (2, .ref (ad 16 0 0)), (3, .ref (ad 17 0 0)), (4, .ref (ad 18 0 0)), (5, .int x5)]) hM.1 hM.2.1 dL_would_16 hl (by decide) rfl (fun ls hl => ?_)
  refine lv_bipush (v := (16 : Int32)) hM.1 hM.2.1 dL_would_18 (by decide) ?_
  refine r_newI (N' := 16) hM hK hP hD hS hA qy_0 (by decide) (by decide) (by decide) (Nat.le_of_ble_eq_true rfl) (Nat.le_of_ble_eq_true rfl) dL_would_20 (fun q4 H hP hD hS => ?_)
  refine lv_astore (lv' := [(9, .ref q4), (8, .ref q3), (7, .ref q2), (6, .ref q1), (0, .ref (ad 14 0 0)), (1, .ref (ad 15 0 0)), (2, .ref (ad 16 0 0)), (3, .ref (ad 17 0 0)), (4, .ref (ad 18 0 0)), (5, .int x5)]) hM.1 hM.2.1 dL_would_22 hl (by decide) rfl (fun ls hl => ?_)
  have hq := hq _ rfl _ rfl _ rfl _ rfl
  have hS4 := would_S (S := S) rfl rfl rfl rfl
  generalize uc (uc (uc (uc S 15 1 0 (fun _ => 0)) 16 1 0 (fun _ => 0)) 17 1 0 (fun _ => 0)) 18 1 0 (fun _ => 0) = S4 at hq hS4
  rw [wd_new hS4] at hP hD
  have e1 : q1 = adW ad q1 q2 q3 q4 15 1 0 := rfl
  have e2 : q2 = adW ad q1 q2 q3 q4 16 1 0 := rfl
  have e3 : q3 = adW ad q1 q2 q3 q4 17 1 0 := rfl
  have e4 : q4 = adW ad q1 q2 q3 q4 18 1 0 := rfl
  exact rest_L_would (ad := adW ad q1 q2 q3 q4) (o := oW) hM hlocks hret hK hA IN_oW (fun S' H' locs' hX' => by
    have h := hX'.1
    have e : wd (adW ad q1 q2 q3 q4) cy oW S' = wd (adW ad q1 q2 q3 q4) cy oL S' ++ [(15, 1, 0), (16, 1, 0), (17, 1, 0), (18, 1, 0)].map (fun k => (adW ad q1 q2 q3 q4 k.1 k.2.1 k.2.2, cI (adW ad q1 q2 q3 q4) cy k.1 k.2.1 k.2.2 (S' k.1 k.2.1 k.2.2))) := by
      unfold wd oW
      rw [List.map_append]
    rw [e, wdW] at h
    exact va_P_pre h) S4 H _ ls ⟨hP, hD, hS⟩ hl hq
theorem cSw {p : Program} {l : Launch} {e : Env} {R : Room} {s : State} {m : MethodId} {args : Array Value} {below : List Frame} {meth : Method} {c : Code} {cells slots : Nat} {Q : State → Prop} {ls : Array Slot} {pc : Nat} {rest : List Value} {cc : ByteArray} {nL : Nat} {own : String} {D : va_G} {ad : Adr} {cy : Nat → ClassId} {A : Nat → Prop} {H0 : Heap} {o : List Id} {S : Mem} {H : Heap} {locs : List Loc} {y : MethodName} {ws : List Cond} {rm : Room} {index maxL n mc ms : Nat} {bytes : ByteArray} {rt : Option FieldType} {As st0 : List Value} {Q1 : Mem → Int32 → Prop} (hM : CallFix p m c cc nL s args lw_all own) (hK : KW D cy s) (hX : PW D ad cy A H0 o S H locs) (hA : ∀ q, H0.size ≤ q → A q) (hC : ∀ sz : Nat, Met l y ws rm (va_Pc As (PreW D ad cy o S sz)) (Qi D ad cy o sz Q1) mc ms (AW ad o sz)) (cw : CallB R s args own index y bytes maxL rt ws rm mc ms n ∧ (Cond.static y).before args s = true) (hn : As.length = n) (hsz : ls.size = nL) (hst : st0 = As.reverse ++ rest) (hW : (rest.map fun v => v.category).sum ≤ 8) (hdg : decode cc pc = .ok (.invokestatic index, 3)) (hf : cells + mc ≤ R.cells ∧ slots + ms ≤ R.slots)
    (kk : ∀ (S1 : Mem) (r1 : Int32), Q1 S1 r1 → ∀ (H1 : Heap) (locs1 : List Loc), PW D ad cy A H0 o S1 H1 locs1 → W p l e R s m args below meth c H1 locs1 (cells + mc) (slots + ms) Q (F0 m (pc + 3) ls (.int r1 :: rest))) : W p l e R s m args below meth c H locs cells slots Q (F0 m pc ls st0) := by
  have hF := AW_le hX.2.1 hX.2.2 hA
  refine va_calli (va_runS (As := As) (rest := rest) hM (hC H.size) cw ⟨PreW_blind, fun U hU hW => ⟨rfl, by rw [hU], by rw [hU]; exact hX.1, hK.warm hW, hX.2.1.weaken (fun _ _ _ _ => trivial)⟩⟩ rfl hn hsz hst (lv_room hW) hdg hf) hX.2.2 (fun q _ h => hF q h) hF (fun r1 u t H1 locs1 ht hvm hw hB hz1 hk1 hS1 => ?_)
  rw [ht] at hB
  exact kk u r1 hw H1 locs1 ⟨hB, wd_D hX.2.1, hS1⟩
