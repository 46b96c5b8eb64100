/-! acts -/
theorem RR.mono {B B' : Int} {S : Mem} {s : St} (h : RR B S s) (hB : B ≤ B') : RR B' S s := ⟨h.1, h.2.1, h.2.2.1, by have := h.2.2.2; omega⟩
section
variable {Q : Mem → Int32 → Prop} {S : Mem} {s : St} {x5 x6 : Int32} {B : Int} {i : Nat}
theorem lo_hrs {K : Mem → Int32 → Int32 → Prop} {N : Nat} {d : Int32} (hN : N ≤ 24) (hw : WSs s) (h0 : (s.1 0).toInt + N ≤ 10100) : ∀ (m k : Nat) (S : Mem), k + m = N → LR S 0 (hrs s.2.2 d s.1 s.2.1 k).1 (hrs s.2.2 d s.1 s.2.1 k).2 s.2.2 → (∀ S', FL 0 S S' → LR S' 0 (hrs s.2.2 d s.1 s.2.1 N).1 (hrs s.2.2 d s.1 s.2.1 N).2 s.2.2 → K S' (nI N) d) → vc_L_acts_L489 Q K x5 x6 (m + 1) S (nI N) d (nI k) := by
  intro m
  induction m with
  | zero =>
    intro k S hk h hK
    have e : k = N := by omega
    subst e
    rw [vc_L_acts_L489]
    exact ⟨fun _ => hK S (FL.rf 0 S) h, fun c => absurd (nI_le (Nat.le_refl k) (by omega)) c⟩
  | succ m ih =>
    intro k S hk h hK
    have hws := hrs_ws (d := d) hw k (by omega)
    have J : ∀ w : Int32, w = clT ((hrs s.2.2 d s.1 s.2.1 k).1 1 + d) → vc_L_acts_J540 Q (vc_L_acts_L489 Q K x5 x6 (m + 1)) K x5 x6 S (nI N) d (nI k) w := by
      intro w ew
      subst ew
      unfold vc_L_acts_J540
      refine so_hour hws.1 (clT_rng _) (by rw [hws.2]; omega) h fun S1 f1 h1 => ?_
      rw [← nI_succ]
      exact ih (k + 1) S1 (by omega) h1 (fun S' hf => hK S' (f1.tr hf))
    rw [vc_L_acts_L489, nc_1, h.2.1 1 (by decide)]
    generalize (hrs s.2.2 d s.1 s.2.1 k).1 1 + d = a at J
    have l1 : (5000 : Int32).toInt = 5000 := rfl
    have l2 : (-5000 : Int32).toInt = -5000 := rfl
    refine ⟨fun c => absurd c (nI_ge (by omega) (by omega)), fun _ => ⟨nv_1, fun c => ⟨fun c2 => J a ?_, fun c2 => J _ ?_⟩, fun c => J _ ?_⟩⟩
    · have h1 := i_le.mp c
      have h2 := i_le.mp c2
      have e := clT_id (x := a) (by omega)
      rw [Int32.add_zero] at e
      exact e.symm
    · have h2 := i_lt.mp (Int32.not_le.mp c2)
      unfold clT imin imax
      rw [if_pos (show a < 5000 from i_lt.mpr (by omega)), if_neg (fun hh => by have := i_lt.mp hh; omega)]
    · have h1 := i_lt.mp (Int32.not_le.mp c)
      unfold clT imin imax
      rw [if_neg (fun hh : a < 5000 => by have := i_lt.mp hh; omega), if_pos (by decide)]
theorem so_per (hB : B ≤ 9999) (hr : RR B S s) (hq : ∀ S' s', RR B S' s' → s.2.2 ≤ s'.2.2 → Q S' 1) : vc_L_low S x6 (4 : Int32) (fun (S_10 : Mem) (r_11 : Int32) => vp_in ((4 : Int32) + r_11) 16 ∧ vc_L_low S_10 (x6 >>> ((2 : Int32) &&& 31)) (6 : Int32) (fun (S_13 : Mem) (r_14 : Int32) => vp_in ((4 : Int32) + r_11) 16 ∧ ∀ S_15 : Mem, S_15 = uc S_13 18 0 0 (upd (S_13 18 0 0) ((4 : Int32) + r_11).toNatClampNeg ((1 : Int32) + r_14)) → vp_in ((4 : Int32) + r_11) 16 ∧ vc_X6_period S_15 r_11 (S_15 18 0 0 ((4 : Int32) + r_11).toNatClampNeg) (fun (S_19 : Mem) (r_20 : Int32) => ((¬ r_20 = (S_10 18 0 0 ((4 : Int32) + r_11).toNatClampNeg)) → Q S_19 (0 : Int32)) ∧ ((r_20 = (S_10 18 0 0 ((4 : Int32) + r_11).toNatClampNeg)) → Q S_19 (1 : Int32))))) := by
  obtain ⟨hc, hl, hw, h0⟩ := hr
  have hok : okS s := ⟨hw, by omega⟩
  refine so_low (m := 4) (by decide) (by decide) fun ρ hρ => ?_
  rw [n4c (by omega), hl.2.1 (4 + ρ) (by omega)]
  refine ⟨n4v (by omega), so_low (m := 6) (by decide) (by decide) fun k hk => ⟨n4v (by omega), fun S15 e15 => ?_⟩⟩
  rw [n1p] at e15
  obtain ⟨l15, f15⟩ := hl.setn (by omega) e15
  have c15 : CC S15 s := hc.fc f15.fc
  have hkI := nI_toInt (n := 1 + k) (by omega)
  have ev : S15 18 0 0 (4 + ρ) = nI (1 + k) := (l15.2.1 (4 + ρ) (by omega)).trans pk_us
  rw [ev]
  refine ⟨n4v (by omega), cl_period hρ (by omega) hw c15 fun S19 f19 c19 => st_ne rfl (hq S19 (perS s ρ (nI (1 + k))) ⟨c19, l15.fr f19, (hok.per hρ (by omega)).1, ?_⟩ (Nat.le_refl _))⟩
  show (upd s.1 (4 + ρ) (nI (1 + k)) 0).toInt ≤ B
  rw [pk_un (by omega)]
  exact h0
theorem so_cali (hB : B ≤ 9999) (hr : RR B S s) (hi : i < s.2.2) (hq : ∀ S' s', RR B S' s' → s.2.2 ≤ s'.2.2 → Q S' 1) : vp_in (((10 : Int32) * nI i) + (5 : Int32)) 60 ∧ vp_in (1 : Int32) 16 ∧ vp_in (((10 : Int32) * nI i) + (2 : Int32)) 60 ∧ vp_in (((10 : Int32) * nI i) + (4 : Int32)) 60 ∧ ∀ S_26 : Mem, S_26 = uc S 15 0 0 (upd (S 15 0 0) (((10 : Int32) * nI i) + (4 : Int32)).toNatClampNeg ((S 18 0 0 (1 : Int32).toNatClampNeg) + (S 15 0 0 (((10 : Int32) * nI i) + (2 : Int32)).toNatClampNeg))) → vp_in (((10 : Int32) * nI i) + (5 : Int32)) 60 ∧ ∀ S_29 : Mem, S_29 = uc S_26 15 0 0 (upd (S_26 15 0 0) (((10 : Int32) * nI i) + (5 : Int32)).toNatClampNeg (0 : Int32)) → vp_in (((10 : Int32) * nI i) + (6 : Int32)) 60 ∧ ∀ S_32 : Mem, S_32 = uc S_29 15 0 0 (upd (S_29 15 0 0) (((10 : Int32) * nI i) + (6 : Int32)).toNatClampNeg (0 : Int32)) → vp_in (((10 : Int32) * nI i) + (7 : Int32)) 60 ∧ ∀ S_35 : Mem, S_35 = uc S_32 15 0 0 (upd (S_32 15 0 0) (((10 : Int32) * nI i) + (7 : Int32)).toNatClampNeg (0 : Int32)) → vc_X6_calibrate S_35 (nI i) (fun (S_38 : Mem) (r_39 : Int32) => ((¬ r_39 = (S 15 0 0 (((10 : Int32) * nI i) + (5 : Int32)).toNatClampNeg)) → Q S_38 (0 : Int32)) ∧ ((r_39 = (S 15 0 0 (((10 : Int32) * nI i) + (5 : Int32)).toNatClampNeg)) → Q S_38 (1 : Int32))) := by
  obtain ⟨hc, hl, hw, h0⟩ := hr
  have hok : okS s := ⟨hw, by omega⟩
  have hi6 := hl.six hi
  have hT := hl.2.2 i hi
  rw [tc_4 hi6, tc_5 hi6, tc_6 hi6, tc_7 hi6, tc_2 hi6, nc_1, hl.2.1 1 (by decide), hT.1 2 (by decide), hT.1 5 (by decide)]
  refine ⟨tv_5 hi6, nv_1, tv_2 hi6, tv_4 hi6, fun S26 e26 => ⟨tv_5 hi6, fun S29 e29 => ⟨tv_6 hi6, fun S32 e32 => ⟨tv_7 hi6, fun S35 e35 => ?_⟩⟩⟩⟩
  have t26 := hT.set (by decide) (by decide) e26
  have t29 := t26.set (by decide) (by decide) e29
  have t32 := t29.set (by decide) (by decide) e32
  have f : F6 0 i S S35 := (((F6.u5 (by decide) e26).tr (F6.u5 (by decide) e29)).tr (F6.u5 (by decide) e32)).tr (F6.u5 (by decide) e35)
  have ec : ∀ j, j < 9 → upd (upd (upd (upd (s.2.1 i) 4 (s.1 1 + s.2.1 i 2)) 5 0) 6 0) 7 0 j = calT (s.1 1) (s.2.1 i) j := fun j hj => by
    have hcs : j = 0 ∨ j = 1 ∨ j = 2 ∨ j = 3 ∨ j = 4 ∨ j = 5 ∨ j = 6 ∨ j = 7 ∨ j = 8 := by omega
    rcases hcs with rfl | rfl | rfl | rfl | rfl | rfl | rfl | rfl | rfl <;> rfl
  have t35 : LT S35 0 i (calT (s.1 1) (s.2.1 i)) := LT.mk0 (fun j hj => by
    rw [← ec j hj, e35, uc_same]
    by_cases c : j = 7
    · rw [c, pk_us, pk_us]
    · rw [pk_un (by omega), pk_un c]
      exact t32.1 j hj) rfl
  have c35 : CC S35 s := hc.fc f.fc
  have l35 := hl.one f (fun _ => t35)
  exact cl_cal hi hw c35 fun S38 f38 c38 => st_ne rfl (hq S38 (calS s i) ⟨c38, l35.fr f38, (hok.cal hi).1, h0⟩ (Nat.le_refl _))
theorem so_kno (hB : B ≤ 9999) (hr : RR B S s) (hi : i < s.2.2) (hq : ∀ S' s', RR B S' s' → s.2.2 ≤ s'.2.2 → Q S' 1) {w : Int32} (hx : -3000 ≤ w.toInt ∧ w.toInt ≤ 3000) : vc_L_acts_J272 Q x5 x6 S (nI i) w := by
  have hr' := hr
  obtain ⟨hc, hl, hw, h0⟩ := hr
  have hok : okS s := ⟨hw, by omega⟩
  have hi6 := hl.six hi
  have hT := hl.2.2 i hi
  have h4 := (hw.2 i hi).2.2.2.2.1
  have es : (s.2.1 i 4 + w).toInt = (s.2.1 i 4).toInt + w.toInt := i_add (by omega) (by omega)
  have ea := iabs_i (z := s.2.1 i 4 + w) (by omega)
  have l2 : (20000 : Int32).toInt = 20000 := rfl
  unfold vc_L_acts_J272
  rw [tc_4 hi6, hT.1 4 (by decide)]
  refine ⟨tv_4 hi6, so_size ⟨fun c => ⟨tv_4 hi6, tv_4 hi6, fun S52 e52 => ?_⟩, fun c => cl_of (k := 4) hw hi (by decide) hc ⟨tv_4 hi6, st_ne (hT.1 4 (by decide)).symm (hq S s hr' (Nat.le_refl _))⟩⟩⟩
  have c' := i_le.mp c
  rw [hT.1 4 (by decide)] at e52
  have t52 := hT.set (by decide) (by decide) e52
  have f52 : F6 0 i S S52 := F6.u5 (by decide) e52
  have c52 : CC S52 s := hc.fc f52.fc
  have l52 := hl.one f52 (fun _ => t52)
  refine cl_knock hi hx (by omega) hw c52 fun S55 f55 c55 => ⟨tv_4 hi6, ?_⟩
  have l55 := l52.fr f55
  have e4 : S55 15 0 0 (10 * i + 4) = s.2.1 i 4 + w := by
    rw [show S55 15 0 0 = S52 15 0 0 by rw [f55 15 (by decide)]]
    exact (t52.1 4 (by decide)).trans pk_us
  rw [e4]
  exact st_ne rfl (hq S55 (knkS s i (s.2.1 i 4 + w)) ⟨c55, l55, (hok.knk hi (by omega)).1, h0⟩ (Nat.le_refl _))
theorem so_knock (hB : B ≤ 9999) (hr : RR B S s) (hi : i < s.2.2) (hq : ∀ S' s', RR B S' s' → s.2.2 ≤ s'.2.2 → Q S' 1) : vc_L_low S (x6 >>> ((4 : Int32) &&& 31)) (3 : Int32) (fun (S_42 : Mem) (r_43 : Int32) => ((¬ r_43 = 0) → vc_L_low S_42 (x6 >>> ((6 : Int32) &&& 31)) (800 : Int32) (fun (S_45 : Mem) (r_46 : Int32) => vc_L_acts_J272 Q x5 x6 S_45 (nI i) (r_46 - (400 : Int32)))) ∧ ((r_43 = 0) → vc_L_low S_42 (x6 >>> ((6 : Int32) &&& 31)) (6001 : Int32) (fun (S_63 : Mem) (r_64 : Int32) => vc_L_acts_J272 Q x5 x6 S_63 (nI i) (r_64 - (3000 : Int32))))) := by
  refine so_low (m := 3) (by decide) (by decide) fun k _ => ⟨fun _ => so_low (m := 800) (by decide) (by decide) fun k2 h2 => so_kno hB hr hi hq ?_, fun _ => so_low (m := 6001) (by decide) (by decide) fun k2 h2 => so_kno hB hr hi hq ?_⟩
  · have e : (nI k2 - (400 : Int32)).toInt = (k2 : Int) - 400 := pk_sub_toInt (b := 400) (by omega) (by decide)
    omega
  · have e : (nI k2 - (3000 : Int32)).toInt = (k2 : Int) - 3000 := pk_sub_toInt (b := 3000) (by omega) (by decide)
    omega
theorem so_set1 (hB : B ≤ 9999) (hr : RR B S s) (hq : ∀ S' s', RR B S' s' → s.2.2 ≤ s'.2.2 → Q S' 1) {k : Nat} (hk : k < 2) {v : Int32} (hv : if k = 0 then 10 ≤ v.toInt ∧ v.toInt ≤ 2000 else 1 ≤ v.toInt ∧ v.toInt ≤ 5) : vc_L_acts_J435 Q x5 x6 S (nI k) (s.1 (2 + k)) ((2 : Int32) + nI k) v := by
  obtain ⟨hc, hl, hw, h0⟩ := hr
  have hok : okS s := ⟨hw, by omega⟩
  unfold vc_L_acts_J435
  rw [n2c (by omega)]
  refine ⟨n2v (by omega), fun S88 e88 => ⟨n2v (by omega), ?_⟩⟩
  obtain ⟨l88, f88⟩ := hl.setn (by omega) e88
  have c88 : CC S88 s := hc.fc f88.fc
  rw [(l88.2.1 (2 + k) (by omega)).trans pk_us]
  have hh : (upd s.1 (2 + k) v 0).toInt ≤ B := by
    rw [pk_un (by omega)]
    exact h0
  have hcs : k = 0 ∨ k = 1 := by omega
  rcases hcs with rfl | rfl
  · exact cl_set0 hv hw c88 fun S92 f92 c92 => st_ne rfl (hq S92 (setS s 0 v) ⟨c92, l88.fr f92, (hok.sets (by decide)).1, hh⟩ (Nat.le_refl _))
  · exact cl_set1 hv hw c88 fun S92 f92 c92 => st_ne rfl (hq S92 (setS s 1 v) ⟨c92, l88.fr f92, (hok.sets (by decide)).1, hh⟩ (Nat.le_refl _))
theorem so_hours (hB : B + 24 ≤ 9999) (hr : RR B S s) (hq : ∀ S' s', RR (B + 24) S' s' → s.2.2 ≤ s'.2.2 → Q S' 1) : vc_L_low S x6 (24 : Int32) (fun (S_101 : Mem) (r_102 : Int32) => vc_L_low S_101 (x6 >>> ((5 : Int32) &&& 31)) (201 : Int32) (fun (S_103 : Mem) (r_104 : Int32) => ∃ n : Nat, vc_L_acts_L489 Q (fun (S_111 : Mem) (y14_112 : Int32) (y15_113 : Int32) => vc_X6_hours S_111 y14_112 y15_113 (fun (S_114 : Mem) (r_115 : Int32) => vp_in (1 : Int32) 16 ∧ ((¬ r_115 = (S_114 18 0 0 (1 : Int32).toNatClampNeg)) → Q S_114 (0 : Int32)) ∧ ((r_115 = (S_114 18 0 0 (1 : Int32).toNatClampNeg)) → Q S_114 (1 : Int32)))) x5 x6 n S_103 ((1 : Int32) + r_102) (r_104 - (100 : Int32)) (0 : Int32))) := by
  obtain ⟨hc, hl, hw, h0⟩ := hr
  refine so_low (m := 24) (by decide) (by decide) fun a ha => so_low (m := 201) (by decide) (by decide) fun b hb => ?_
  rw [n1p]
  have ed : (nI b - (100 : Int32)).toInt = (b : Int) - 100 := pk_sub_toInt (b := 100) (by omega) (by decide)
  refine ⟨1 + a + 1, lo_hrs (s := s) (N := 1 + a) (by omega) hw (by omega) (1 + a) 0 S (by omega) hl fun S1 f1 l1 => ?_⟩
  have c1 : CC S1 s := hc.fc f1.fc
  have hws := hrs_ws (d := nI b - 100) hw (1 + a) (by omega)
  refine cl_hours (N := 1 + a) (by omega) (by omega) hw (by omega) c1 fun S2 f2 c2 => ⟨nv_1, ?_⟩
  have l2 := l1.fr f2
  rw [nc_1, l2.2.1 1 (by decide)]
  refine st_ne rfl (hq S2 ((hrs s.2.2 (nI b - 100) s.1 s.2.1 (1 + a)).1, (hrs s.2.2 (nI b - 100) s.1 s.2.1 (1 + a)).2, s.2.2) ⟨c2, l2, hws.1, ?_⟩ (Nat.le_refl _))
  show ((hrs s.2.2 (nI b - 100) s.1 s.2.1 (1 + a)).1 0).toInt ≤ B + 24
  rw [hws.2]
  omega
theorem so_648 (hB : B + 24 ≤ 9999) (hr : RR B S s) (hq : ∀ S' s', RR (B + 24) S' s' → s.2.2 ≤ s'.2.2 → Q S' 1) {w : Int32} (hx : -5000 ≤ w.toInt ∧ w.toInt ≤ 5000) : vc_L_acts_J648 Q x5 x6 S w := by
  obtain ⟨hc, hl, hw, h0⟩ := hr
  have hok : okS s := ⟨hw, by omega⟩
  unfold vc_L_acts_J648
  refine cl_hour hx hw (by omega) hc fun S1 f1 c1 => so_hour hw hx (by omega) (hl.fr f1) fun S2 f2 l2 => st_ne rfl (hq S2 (pasS s w) ⟨c1.fc f2.fc, l2, (hok.pas hx (by omega)).1, ?_⟩ (Nat.le_refl _))
  have hb := hw.1.2.2.1
  show (pasG s.1 s.2.1 s.2.2 w 0).toInt ≤ B + 24
  rw [pasG_0, i_add (by rw [show (1 : Int32).toInt = 1 from rfl]; omega) (by rw [show (1 : Int32).toInt = 1 from rfl]; omega), show (1 : Int32).toInt = 1 from rfl]
  omega
theorem so_616 (hB : B + 24 ≤ 9999) (hr : RR B S s) (hq : ∀ S' s', RR (B + 24) S' s' → s.2.2 ≤ s'.2.2 → Q S' 1) (w : Int32) : vc_L_acts_J616 Q x5 x6 S w := by
  have l1 : (5000 : Int32).toInt = 5000 := rfl
  have l2 : (-5000 : Int32).toInt = -5000 := rfl
  unfold vc_L_acts_J616
  refine ⟨fun c => ⟨fun c2 => so_648 hB hr hq ?_, fun c2 => so_648 hB hr hq (by decide)⟩, fun c => so_648 hB hr hq (by decide)⟩
  have h1 := i_le.mp c
  have h2 := i_le.mp c2
  omega
theorem so_acts (hB : B + 24 ≤ 9999) (hr : RR B S s) (hn : 1 ≤ s.2.2) (hq : ∀ S' s', RR (B + 24) S' s' → s.2.2 ≤ s'.2.2 → Q S' 1) : vc_L_acts S x5 x6 Q := by
  have hr' := hr
  obtain ⟨hc, hl, hw, h0⟩ := hr
  have hn6 := hl.1.1
  have hq0 : ∀ S' s', RR B S' s' → s.2.2 ≤ s'.2.2 → Q S' 1 := fun S' s' h h' => hq S' s' (h.mono (by omega)) h'
  unfold vc_L_acts
  rw [nc_15, hl.n15]
  refine ⟨nv_15, fun _ => ⟨nv_15, so_low (m := s.2.2) (by omega) (by omega) fun i hi => ?_⟩, fun c => absurd c (nI_ne0 (by omega) (by omega))⟩
  unfold vc_L_acts_J22
  refine ⟨fun _ => so_adds (by omega) hr' fun S' s' h h' => ⟨Or.inr rfl, hq0 S' s' h h'.1⟩, fun _ => ⟨fun _ => so_per (by omega) hr' hq0, fun _ => ⟨fun _ => so_cali (by omega) hr' hi hq0, fun _ => ⟨fun _ => so_knock (by omega) hr' hi hq0, fun _ => ⟨fun _ => so_knock (by omega) hr' hi hq0, fun _ => ⟨fun _ => so_knock (by omega) hr' hi hq0, fun _ => ⟨fun _ => ?_, fun _ => ⟨fun _ => so_hours hB hr' hq, fun _ => ⟨fun _ => so_hours hB hr' hq, fun _ => ?_⟩⟩⟩⟩⟩⟩⟩⟩⟩
  · refine so_low (m := 2) (by decide) (by decide) fun k hk => ?_
    rw [n2c (by omega), hl.2.1 (2 + k) (by omega)]
    refine ⟨n2v (by omega), fun c => so_low (m := 5) (by decide) (by decide) fun j hj => so_set1 (by omega) hr' hq0 hk ?_, fun c => so_low (m := 2) (by decide) (by decide) fun j _ => ⟨fun _ => ?_, fun _ => ?_⟩⟩
    · have hk0 : ¬ k = 0 := fun e => c (by rw [e]; rfl)
      have hjI := nI_toInt (n := 1 + j) (by omega)
      rw [if_neg hk0, n1p]
      omega
    · have hk0 : k = 0 := (nI_eq0 (by omega)).mp c
      unfold vc_L_acts_J418
      refine so_low (m := 200) (by decide) (by decide) fun j hj => so_set1 (by omega) hr' hq0 hk ?_
      have e : (10 : Int32) + nI j = nI (10 + j) := nI_add 10 j
      have hjI := nI_toInt (n := 10 + j) (by omega)
      rw [if_pos hk0, e]
      omega
    · have hk0 : k = 0 := (nI_eq0 (by omega)).mp c
      unfold vc_L_acts_J418
      refine so_low (m := 1991) (by decide) (by decide) fun j hj => so_set1 (by omega) hr' hq0 hk ?_
      have e : (10 : Int32) + nI j = nI (10 + j) := nI_add 10 j
      have hjI := nI_toInt (n := 10 + j) (by omega)
      rw [if_pos hk0, e]
      omega
  · exact so_low (m := 3) (by decide) (by decide) fun k _ => ⟨fun _ => ⟨nv_1, so_low (m := 201) (by decide) (by decide) fun j _ => so_616 hB hr' hq _⟩, fun _ => so_low (m := 10001) (by decide) (by decide) fun j _ => so_616 hB hr' hq _⟩
end
