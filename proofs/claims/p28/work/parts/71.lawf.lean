/-! the law's hour: spikes, those shut out, the whole -/
theorem lo_J398 {Q : Mem → Int32 → Prop} {K0 : Mem → Int32 → Int32 → Prop} {K1 : Mem → Int32 → Prop} {S : Mem} {P n i : Nat} {g : Gl} {t : Ts} {x4 y5 w2 y9 d : Int32} (h : LR S P g t n) (hi : i < n) (hd : (y9 = 0 ∧ d = 0) ∨ (y9 = 1 ∧ d = 1)) (hK : ∀ S', FL P S S' → (∀ j, S' 15 P 0 (10 * j + 9) = S 15 P 0 (10 * j + 9)) → LR S' P (upd g 13 (g 13 + d)) (fun k => if k = i then upd (upd (t i) 5 w2) 8 (t i 8 + d) else t k) n → K0 S' y5 (nI i + 1)) : vc_L_hour_J398 Q K0 K1 P x4 S y5 (nI i) ((10 : Int32) * nI i) y9 ((10 : Int32) * nI i + (5 : Int32)) w2 := by
  have hi6 := h.six hi
  unfold vc_L_hour_J398
  refine ⟨tv_5 hi6, fun S1 e1 => ?_⟩
  rw [tc_5 hi6] at e1
  have hT1 := (h.2.2 i hi).set (by decide) (by decide) e1
  have f1 : F6 P i S S1 := F6.u5 (by decide) e1
  have e8 : S1 15 P 0 (10 * i + 8) = t i 8 := (hT1.1 8 (by decide)).trans (pk_un (by decide))
  rw [tc_8 hi6, e8]
  have J : vc_L_hour_J417 Q K0 K1 P x4 S1 y5 (nI i) y9 ((10 : Int32) * nI i + (8 : Int32)) (t i 8) d := by
    unfold vc_L_hour_J417
    refine ⟨tv_8 hi6, fun S2 e2 => ⟨nv_13, ?_⟩⟩
    rw [tc_8 hi6] at e2
    have hT2 := hT1.set (by decide) (by decide) e2
    have f2 : F6 P i S1 S2 := F6.u5 (by decide) e2
    have h2 := h.one (f1.tr f2) (fun _ => hT2)
    rw [nc_13, h2.2.1 13 (by decide)]
    have J2 : vc_L_hour_J434 Q K0 K1 P x4 S2 y5 (nI i) (13 : Int32) (g 13) d := by
      unfold vc_L_hour_J434
      refine ⟨nv_13, fun S3 e3 => ?_⟩
      rw [nc_13] at e3
      obtain ⟨h3, f3⟩ := h2.setn (by decide) e3
      refine hK S3 ((f1.tr f2).fl.tr f3) (fun j => ?_) h3
      rw [e3, uc_t (by decide), e2, uc_same, pk_un (by omega), e1, uc_same, pk_un (by omega)]
    rcases hd with ⟨rfl, rfl⟩ | ⟨rfl, rfl⟩
    · exact ⟨fun _ => J2, fun c => absurd rfl c⟩
    · exact ⟨fun c => absurd c (by decide), fun _ => J2⟩
  refine ⟨tv_8 hi6, ?_⟩
  rcases hd with ⟨rfl, rfl⟩ | ⟨rfl, rfl⟩
  · exact ⟨fun _ => J, fun c => absurd rfl c⟩
  · exact ⟨fun c => absurd c (by decide), fun _ => J⟩
theorem upd_A (t : Th) : upd (upd t 5 (t 5)) 8 (t 8 + 0) = t := funext fun j => by
  unfold upd
  by_cases c : j = 8
  · subst c; rw [if_pos rfl, Int32.add_zero]
  · rw [if_neg c]
    by_cases c5 : j = 5
    · subst c5; rw [if_pos rfl]
    · rw [if_neg c5]
theorem upd_B (t : Th) (x : Int32) : upd (upd t 5 x) 8 (t 8 + 0) = upd t 5 x := funext fun j => by
  unfold upd
  by_cases c : j = 8
  · subst c; rw [if_pos rfl, Int32.add_zero, if_neg (by decide)]
  · rw [if_neg c]
theorem upd_C (t : Th) (x y : Int32) : upd (upd t 5 x) 8 y = upd (upd t 8 y) 5 x := funext fun j => by
  unfold upd
  by_cases c : j = 8
  · subst c; rw [if_pos rfl, if_neg (by decide), if_pos rfl]
  · rw [if_neg c]
    by_cases c5 : j = 5
    · subst c5; rw [if_pos rfl, if_pos rfl]
    · rw [if_neg c5, if_neg c5, if_neg c]
theorem spG_d {g : Gl} {c : Nat} {d : Int32} {c' : Nat} (h : nI c' = nI c + d) (k : Nat) : upd (spG g c) 13 (spG g c 13 + d) k = spG g c' k := by
  by_cases e : k = 13
  · subst e
    rw [pk_us, spG_13, spG_13, h, Int32.add_assoc]
  · rw [pk_un e, spG_k e, spG_k e]
theorem WS.sp {g : Gl} {t : Ts} {n i c : Nat} (hw : WS g t n) : WS (spG g c) (cmM g t n i) n := by
  have h := hw.cg (g' := spG g c) (fun k hk => spG_k (by omega))
  exact ⟨h.1, fun k hk => cmM_wt (h.2 k hk)⟩
theorem cmM_s {g : Gl} {t : Ts} {n i : Nat} {ti : Th} (h : ti = if cmC g t n i then cmpT (midV t (nI i) n) (g 2) (t i) else t i) (k : Nat) : (if k = i then ti else cmM g t n i k) = cmM g t n (i + 1) k := by
  unfold cmM
  by_cases c : k = i
  · subst c
    rw [if_pos rfl, h]
    by_cases c2 : cmC g t n k
    · rw [if_pos c2, if_pos (show k < k + 1 ∧ cmC g t n k from ⟨by omega, c2⟩)]
    · rw [if_neg c2, if_neg (fun hh => c2 hh.2)]
  · rw [if_neg c]
    by_cases c2 : k < i ∧ cmC g t n k
    · rw [if_pos c2, if_pos (show k < i + 1 ∧ cmC g t n k from ⟨by omega, c2.2⟩)]
    · rw [if_neg c2, if_neg (fun hh : k < i + 1 ∧ cmC g t n k => c2 ⟨by omega, hh.2⟩)]
theorem lo_cmp {Q : Mem → Int32 → Prop} {K : Mem → Int32 → Prop} {P n : Nat} {g : Gl} {t : Ts} {x4 y5 : Int32} (hws : WS g t n) (hp : ∀ k, k < 4 → ¬ g (4 + k) = 0) : ∀ (m i : Nat) (S : Mem), i + m = n → LR S P (spG g (cntS g t n (cmB g t n) i)) (cmM g t n i) n → (∀ j, j < i → S 15 P 0 (10 * j + 9) = if cmC g t n j then 1 else 0) → (∀ S', FL P S S' → LR S' P (spG g (cntS g t n (cmB g t n) n)) (cmM g t n n) n → (∀ j, j < n → S' 15 P 0 (10 * j + 9) = if cmC g t n j then 1 else 0) → K S' y5) → vc_L_hour_L248 Q K P x4 (m + 1) S y5 (nI i) := by
  intro m
  induction m with
  | zero =>
    intro i S hi h hF hK
    have e : i = n := by omega
    subst e
    rw [vc_L_hour_L248, nc_15, h.n15]
    exact ⟨nv_15, fun _ => hK S (FL.rf P S) h hF, fun c => absurd (n_le h.1.1) c⟩
  | succ m ih =>
    intro i S hi h hF hK
    have hin : i < n := by omega
    have hi6 := h.six hin
    have hwi : WS (spG g (cntS g t n (cmB g t n) i)) (cmM g t n i) n := hws.sp
    have em : midV (cmM g t n i) (nI i) n = midV t (nI i) n := (midV_cg fun j _ => ⟨(cmM_same g t n i j).1, (cmM_same g t n i j).2.1⟩)
    have ei : cmM g t n i i = t i := if_neg (by omega)
    obtain ⟨ρ, hρ, eρ⟩ := (hws.2 i hin).1
    have hdu : dueT g (t i 0) ↔ g 0 - g 0 / g (4 + ρ) * g (4 + ρ) = 0 := by
      unfold dueT
      rw [eρ, nI_clamp (by omega)]
    have hT : LT S P i (t i) := by
      have := h.2.2 i hin
      rw [ei] at this
      exact this
    have JJ : ∀ w : Int32, w = (if cmC g t n i then 1 else 0) → vc_L_hour_J317 Q (vc_L_hour_L248 Q K P x4 (m + 1)) K P x4 S y5 (nI i) ((10 : Int32) * nI i) (midV t (nI i) n) ((10 : Int32) * nI i + (9 : Int32)) w := by
      intro w ew
      unfold vc_L_hour_J317
      refine ⟨tv_9 hi6, fun S1 e1 => ⟨tv_9 hi6, ?_⟩⟩
      rw [tc_9 hi6] at e1
      have f1 : F6 P i S S1 := F6.u5 (by decide) e1
      have hT1 : LT S1 P i (t i) := hT.set9 e1
      have h1 : LR S1 P (spG g (cntS g t n (cmB g t n) i)) (cmM g t n i) n := (h.one f1 (fun _ => hT1)).cg (fun _ _ => rfl) (fun k _ => by
        by_cases c : k = i
        · subst c; rw [if_pos rfl, ei]
        · rw [if_neg c])
      have fl9 : S1 15 P 0 (10 * i + 9) = w := by rw [e1, uc_same, pk_us]
      have flF : ∀ j, j < i + 1 → S1 15 P 0 (10 * j + 9) = if cmC g t n j then 1 else 0 := fun j hj => by
        by_cases c : j = i
        · subst c; rw [fl9]; exact ew
        · rw [e1, uc_same, pk_un (by omega)]; exact hF j (by omega)
      have fin : ∀ (w2 y9 d : Int32), ((y9 = 0 ∧ d = 0) ∨ (y9 = 1 ∧ d = 1)) → nI (cntS g t n (cmB g t n) (i + 1)) = nI (cntS g t n (cmB g t n) i) + d → upd (upd (t i) 5 w2) 8 (t i 8 + d) = (if cmC g t n i then cmpT (midV t (nI i) n) (g 2) (t i) else t i) → vc_L_hour_J398 Q (vc_L_hour_L248 Q K P x4 (m + 1)) K P x4 S1 y5 (nI i) ((10 : Int32) * nI i) y9 ((10 : Int32) * nI i + (5 : Int32)) w2 := by
        intro w2 y9 d hd hc ht
        refine lo_J398 h1 hin hd fun S' hf hfl h' => ?_
        rw [← nI_succ]
        rw [ei] at h'
        exact ih (i + 1) S' (by omega) (h'.cg (fun k _ => spG_d hc k) (fun k _ => cmM_s ht k)) (fun j hj => by rw [hfl]; exact flF j hj) (fun S'' hf2 => hK S'' ((f1.fl.tr hf).tr hf2))
      have e5 : S1 15 P 0 (10 * i + 5) = t i 5 := hT1.1 5 (by decide)
      rw [tc_9 hi6, fl9]
      by_cases hc : cmC g t n i
      · rw [if_pos hc] at ew
        subst ew
        refine ⟨fun c => absurd rfl c, fun _ => so_own h1 hwi hin (so_size ⟨nv_2, ?_⟩)⟩
        rw [nc_2, h1.2.1 2 (by decide), spG_k (by decide), ei]
        refine ⟨fun cs => ?_, fun cs => ?_⟩
        · unfold vc_L_hour_J353 vc_L_hour_J354
          rw [tc_9 hi6, fl9]
          refine ⟨fun _ => ⟨tv_9 hi6, fun c => absurd rfl c, fun _ => fin 0 0 0 (Or.inl ⟨rfl, rfl⟩) ?_ ?_⟩, fun c => absurd rfl c⟩
          · rw [cntS_k, if_neg (fun hh => hh.2 cs), Int32.add_zero]
          · rw [if_pos hc]
            unfold cmpT
            rw [if_pos cs]
            exact upd_B _ _
        · unfold vc_L_hour_J354
          rw [tc_5 hi6, e5]
          refine ⟨fun c => absurd c (by decide), fun _ => ⟨tv_5 hi6, fin _ 1 1 (Or.inr ⟨rfl, rfl⟩) ?_ ?_⟩⟩
          · rw [cntS_k, if_pos ⟨decide_eq_true hc, cs⟩, nI_succ]
          · rw [if_pos hc]
            unfold cmpT
            rw [if_neg cs]
            exact upd_C _ _ _
      · rw [if_neg hc] at ew
        subst ew
        refine ⟨fun _ => ?_, fun c => absurd c (by decide)⟩
        unfold vc_L_hour_J353 vc_L_hour_J354
        rw [tc_9 hi6, tc_5 hi6, fl9, e5]
        refine ⟨fun _ => ⟨tv_9 hi6, fun _ => ⟨tv_5 hi6, fin _ 0 0 (Or.inl ⟨rfl, rfl⟩) ?_ ?_⟩, fun c => absurd c (by decide)⟩, fun c => absurd rfl c⟩
        · rw [cntS_k, if_neg (fun hh => hc (of_decide_eq_true hh.1)), Int32.add_zero]
        · rw [if_neg hc]
          exact upd_A _
    have J0 : ¬ cmC g t n i → vc_L_hour_J316 Q (vc_L_hour_L248 Q K P x4 (m + 1)) K P x4 S y5 (nI i) ((10 : Int32) * nI i) (midV t (nI i) n) ((10 : Int32) * nI i + (9 : Int32)) := fun hc => by
      unfold vc_L_hour_J316
      exact JJ 0 (by rw [if_neg hc])
    rw [vc_L_hour_L248, nc_15, h.n15]
    refine ⟨nv_15, fun c => absurd c (n_ge h.1.1 hin), fun _ => so_middle h hwi (so_ask h hin ?_)⟩
    rw [em, ei]
    refine z_if (fun ha => ?_) (fun ha => J0 (fun hc => ha hc.1))
    have r0 : S 15 P 0 (10 * i) = nI ρ := (hT.1 0 (by decide)).trans eρ
    rw [tc_0 hi6, r0, nc_0, n4c (by omega), h.2.1 0 (by decide), h.2.1 (4 + ρ) (by omega), spG_k (k := 0) (by decide), spG_k (k := 4 + ρ) (by omega)]
    exact ⟨nv_0, tv_0 hi6, n4v (by omega), hp ρ hρ, fun c => J0 (fun hc => c (hdu.mp hc.2.1)), fun c => ⟨fun c2 => J0 (fun hc => hc.2.2 c2), fun c2 => JJ 1 (by rw [if_pos ⟨ha, hdu.mpr c, c2⟩])⟩⟩
theorem outM_s {g : Gl} {t0 t : Ts} {n i : Nat} {ti : Th} (h : ti = if cmC g t0 n i then outT (g 3) (t i) else t i) (k : Nat) : (if k = i then ti else outM g t0 t n i k) = outM g t0 t n (i + 1) k := by
  unfold outM
  by_cases c : k = i
  · subst c
    rw [if_pos rfl, h]
    by_cases c2 : cmC g t0 n k
    · rw [if_pos c2, if_pos (show k < k + 1 ∧ cmC g t0 n k from ⟨by omega, c2⟩)]
    · rw [if_neg c2, if_neg (fun hh => c2 hh.2)]
  · rw [if_neg c]
    by_cases c2 : k < i ∧ cmC g t0 n k
    · rw [if_pos c2, if_pos (show k < i + 1 ∧ cmC g t0 n k from ⟨by omega, c2.2⟩)]
    · rw [if_neg c2, if_neg (fun hh : k < i + 1 ∧ cmC g t0 n k => c2 ⟨by omega, hh.2⟩)]
theorem upd_self (t : Th) (j : Nat) : upd t j (t j) = t := funext fun k => by
  unfold upd
  by_cases c : k = j
  · subst c; rw [if_pos rfl]
  · rw [if_neg c]
theorem lo_shut {Q : Mem → Int32 → Prop} {K : Mem → Int32 → Prop} {P n : Nat} {g g' : Gl} {t0 t : Ts} {x4 y5 : Int32} (h3 : g' 3 = g 3) : ∀ (m i : Nat) (S : Mem), i + m = n → LR S P g' (outM g t0 t n i) n → (∀ j, j < n → S 15 P 0 (10 * j + 9) = if cmC g t0 n j then 1 else 0) → (∀ S', FL P S S' → LR S' P g' (outM g t0 t n n) n → K S' y5) → vc_L_hour_L445 Q K P x4 (m + 1) S y5 (nI i) := by
  intro m
  induction m with
  | zero =>
    intro i S hi h hF hK
    have e : i = n := by omega
    subst e
    rw [vc_L_hour_L445, nc_15, h.n15]
    exact ⟨nv_15, fun _ => hK S (FL.rf P S) h, fun c => absurd (n_le h.1.1) c⟩
  | succ m ih =>
    intro i S hi h hF hK
    have hin : i < n := by omega
    have hi6 := h.six hin
    have ei : outM g t0 t n i i = t i := if_neg (by omega)
    have hT : LT S P i (t i) := by
      have := h.2.2 i hin
      rw [ei] at this
      exact this
    have J : ∀ w : Int32, upd (t i) 6 w = (if cmC g t0 n i then outT (g 3) (t i) else t i) → vc_L_hour_J506 Q (vc_L_hour_L445 Q K P x4 (m + 1)) K P x4 S y5 (nI i) ((10 : Int32) * nI i + (6 : Int32)) w := by
      intro w ew
      unfold vc_L_hour_J506
      refine ⟨tv_6 hi6, fun S1 e1 => ?_⟩
      rw [tc_6 hi6] at e1
      have hT1 := hT.set (by decide) (by decide) e1
      have f1 : F6 P i S S1 := F6.u5 (by decide) e1
      rw [← nI_succ]
      exact ih (i + 1) S1 (by omega) ((h.one f1 (fun _ => hT1)).cg (fun _ _ => rfl) (fun k _ => outM_s ew k)) (fun j hj => by rw [e1, uc_same, pk_un (by omega)]; exact hF j hj) (fun S' hf => hK S' (f1.fl.tr hf))
    have J6 : upd (t i) 6 (t i 6) = (if cmC g t0 n i then outT (g 3) (t i) else t i) → vc_L_hour_J496 Q (vc_L_hour_L445 Q K P x4 (m + 1)) K P x4 S y5 (nI i) ((10 : Int32) * nI i + (6 : Int32)) := by
      intro ew
      unfold vc_L_hour_J496
      rw [tc_6 hi6, hT.1 6 (by decide)]
      exact ⟨tv_6 hi6, J _ ew⟩
    rw [vc_L_hour_L445, nc_15, h.n15, tc_9 hi6, tc_5 hi6, nc_3, hF i hin, hT.1 5 (by decide), h.2.1 3 (by decide), h3]
    refine ⟨nv_15, fun c => absurd c (n_ge h.1.1 hin), fun _ => ⟨tv_9 hi6, fun c => J6 ?_, fun c => ⟨tv_5 hi6, nv_3, fun c2 => J6 ?_, fun c2 => J 1 ?_⟩⟩⟩
    · rw [upd_self, if_neg (fun hh => c (by rw [if_pos hh]))]
    · have hc : cmC g t0 n i := by
        by_cases hc : cmC g t0 n i
        · exact hc
        · rw [if_neg hc] at c; exact absurd c (by decide)
      rw [upd_self, if_pos hc]
      unfold outT
      rw [if_pos c2]
    · have hc : cmC g t0 n i := by
        by_cases hc : cmC g t0 n i
        · exact hc
        · rw [if_neg hc] at c; exact absurd c (by decide)
      rw [if_pos hc]
      unfold outT
      rw [if_neg c2]
theorem cntD_cg {g : Gl} {t t' : Ts} : ∀ m, (∀ i, i < m → t i 0 = t' i 0) → cntD g t m = cntD g t' m
  | 0, _ => rfl
  | m + 1, h => by
    have ih := cntD_cg (g := g) m (fun i hi => h i (by omega))
    show (if dueT g (t m 0) then cntD g t m + 1 else cntD g t m) = if dueT g (t' m 0) then cntD g t' m + 1 else cntD g t' m
    rw [h m (by omega), ih]
theorem so_hour {Q : Mem → Int32 → Prop} {S : Mem} {P n : Nat} {g : Gl} {t : Ts} {x : Int32} (hw : WS g t n) (hx : -5000 ≤ x.toInt ∧ x.toInt ≤ 5000) (h0 : (g 0).toInt < 10100) (h : LR S P g t n) (hq : ∀ S', FL P S S' → LR S' P (pasG g t n x) (pasT g t n x) n → Q S' (pasN g t n x)) : vc_L_hour S P x Q := by
  have hwU := hw.psU hx h0
  have hpe := pas_eq hw hx h0
  have hp : ∀ k, k < 4 → ¬ g (4 + k) = 0 := fun k hk e => by
    have := (hw.1.2.2.2.2.1 k hk).1
    rw [e] at this
    exact absurd this (by decide)
  unfold vc_L_hour
  refine so_mean h hw ⟨nv_14, fun S3 e3 => ⟨nv_0, nv_0, fun S7 e7 => ⟨nv_1, fun S10 e10 => ?_⟩⟩⟩
  rw [nc_14] at e3
  obtain ⟨h3, f3⟩ := h.setn (by decide) e3
  rw [nc_0, h3.2.1 0 (by decide), pk_un (by decide)] at e7
  obtain ⟨h7, f7⟩ := h3.setn (by decide) e7
  rw [nc_1] at e10
  obtain ⟨h10, f10⟩ := h7.setn (by decide) e10
  have h10 : LR S10 P (preG g t n x) t n := h10
  have f := (f3.tr f7).tr f10
  refine ⟨5, lo_tick (g := preG g t n x) (t := t) (fun k hk => by rw [preG_k (by omega)]; exact hp k hk) 4 0 S10 rfl (h10.cg (fun k _ => (if_neg (by omega) : tickG (preG g t n x) 0 k = preG g t n x k).symm) (fun _ _ => rfl)) (fun S22 f22 h22 => ?_)⟩
  have ek : ∀ k, k < 8 → tickG (preG g t n x) 4 k = preG g t n x k := fun k hk => tickG_k (by omega) (by decide)
  have e1 : tickG (preG g t n x) 4 1 = x := (ek 1 (by decide)).trans preG_1
  refine ⟨n + 1, lo_read (g := tickG (preG g t n x) 4) (t := t) (fun k hk => by rw [ek _ (by omega), preG_k (by omega)]; exact hp k hk) (fun i hi => ⟨(hw.2 i hi).1, lag_ne (hw.2 i hi), by obtain ⟨κ, a, b, -⟩ := (hw.2 i hi).ne; exact ⟨κ, a, b⟩⟩) n 0 S22 (by omega) (h22.cg (fun _ _ => rfl) (fun i _ => (if_neg (by omega) : folR (tickG (preG g t n x) 4) (tickG (preG g t n x) 4 1) t 0 i = t i).symm)) (fun S64 f64 h64 => ⟨nv_12, nv_12, fun S67 e67 => ?_⟩)⟩
  have ef : ∀ i, i < n → folA x t n i = folT x (t i) := fun i hi => if_pos hi
  have eD : cntD (tickG (preG g t n x) 4) t n = cntD (tickG (preG g t n x) 4) (folA x t n) n := cntD_cg n (fun i _ => (folA_k (by decide)).symm)
  rw [nc_12, h64.2.1 12 (by decide), eD] at e67
  obtain ⟨h67, f67⟩ := h64.setn (by decide) e67
  have h67 : LR S67 P (pasR g t n x) (pasU g t n x) n := h67.cg (fun _ _ => rfl) (fun i hi => by
    show (if i < n then (if dueT (tickG (preG g t n x) 4) (t i 0) then readT (tickG (preG g t n x) 4 0) (folT (tickG (preG g t n x) 4 1) (t i)) else folT (tickG (preG g t n x) 4 1) (t i)) else t i) = if i < n ∧ dueT (tickG (preG g t n x) 4) (folA x t n i 0) then readT (tickG (preG g t n x) 4 0) (folA x t n i) else folA x t n i
    rw [if_pos hi, e1, ef i hi, folT_k (by decide)]
    by_cases c : dueT (tickG (preG g t n x) 4) (t i 0)
    · rw [if_pos c, if_pos ⟨hi, c⟩]
    · rw [if_neg c, if_neg (fun hh => c hh.2)])
  have ff := ((f.tr f22).tr f64).tr f67
  rw [eD]
  refine ⟨n + 1, lo_cmp hwU (fun k hk => by rw [pasR_k (by omega) (by omega)]; exact hp k hk) n 0 S67 (by omega) (h67.cg (fun k _ => ?_) (fun i _ => (if_neg (by omega) : cmM (pasR g t n x) (pasU g t n x) n 0 i = pasU g t n x i).symm)) (fun j hj => absurd hj (by omega)) (fun S112 f112 h112 hF => ?_)⟩
  · by_cases e : k = 13
    · subst e
      rw [spG_13]
      exact (Int32.add_zero _).symm
    · exact (spG_k e).symm
  · refine ⟨n + 1, lo_shut (g := pasR g t n x) (t0 := pasU g t n x) (t := cmM (pasR g t n x) (pasU g t n x) n n) (spG_k (by decide)) n 0 S112 (by omega) (h112.cg (fun _ _ => rfl) (fun i _ => (if_neg (by omega) : outM (pasR g t n x) (pasU g t n x) (cmM (pasR g t n x) (pasU g t n x) n n) n 0 i = _).symm)) hF (fun S125 f125 h125 => ?_)⟩
    rw [hpe.2.2]
    exact hq S125 ((ff.tr f112).tr f125) (h125.cg (fun k _ => hpe.1 k) (fun i _ => hpe.2.1 i))
