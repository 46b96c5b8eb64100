/-! would: hours on a copy of the law's rows, at place 1 -/
theorem lo_copy {Q : Mem → Prop} {K : Mem → Prop} {t0 P0 i0 t1 P1 i1 n : Nat} {f : Nat → Int32} (hn : n < 100) (hne : ¬ (t0 = t1 ∧ P0 = P1 ∧ i0 = i1)) : ∀ (m i : Nat) (S : Mem), i + m = n → (∀ k, k < i → S t1 P1 i1 k = f k) → S t0 P0 i0 = f → (∀ S', (∀ k, k < n → S' t1 P1 i1 k = f k) → F1 t1 P1 i1 S S' → K S') → vc_L_copy_L2 Q K t0 P0 i0 n t1 P1 i1 n (m + 1) S (nI i) := by
  intro m
  induction m with
  | zero =>
    intro i S hi h1 h2 hK
    have e : i = n := by omega
    subst e
    rw [vc_L_copy_L2]
    exact ⟨fun _ => hK S h1 (F1.rf _ _ _ S), fun c => absurd (nI_le (Nat.le_refl i) (by omega)) c⟩
  | succ m ih =>
    intro i S hi h1 h2 hK
    have hv : vp_in (nI i) n := vp_in_nI (by omega) (by omega)
    rw [vc_L_copy_L2, nI_clamp (by omega)]
    refine ⟨fun c => absurd c (nI_ge (by omega) (by omega)), fun _ => ⟨hv, hv, fun S1 e => ?_⟩⟩
    have f1 : F1 t1 P1 i1 S S1 := by rw [e]; exact F1.uc _ _ _ _ _
    rw [← nI_succ]
    refine ih (i + 1) S1 (by omega) (fun k hk => ?_) ((f1 _ _ _ hne).trans h2) (fun S' h3 h4 => hK S' h3 (f1.tr h4))
    rw [e, uc_same]
    by_cases c : k = i
    · rw [c, pk_us, h2]
    · rw [pk_un c]; exact h1 k (by omega)
theorem so_copy {Q : Mem → Prop} {S : Mem} {t0 P0 i0 t1 P1 i1 n : Nat} (hn : n < 100) (hne : ¬ (t0 = t1 ∧ P0 = P1 ∧ i0 = i1)) (hq : ∀ S', (∀ k, k < n → S' t1 P1 i1 k = S t0 P0 i0 k) → F1 t1 P1 i1 S S' → Q S') : vc_L_copy S t0 P0 i0 n t1 P1 i1 n Q := ⟨n + 1, lo_copy hn hne n 0 S (by omega) (fun k hk => absurd hk (by omega)) rfl hq⟩
theorem F1.fl {t i P : Nat} {S S' : Mem} (ht : 15 ≤ t) (h : F1 t P i S S') : FL P S S' := fun t' P' i' hn => h t' P' i' (fun hh => hn ⟨by omega, hh.2.1⟩)
theorem LR.fl {P P2 n : Nat} {S S' : Mem} {g : Gl} {t : Ts} (hP : P2 ≠ P) (hf : FL P2 S S') (h : LR S P g t n) : LR S' P g t n := h.eqs (hf _ _ _ (fun hh => hP hh.2.symm)) (hf _ _ _ (fun hh => hP hh.2.symm)) (hf _ _ _ (fun hh => hP hh.2.symm)) (hf _ _ _ (fun hh => hP hh.2.symm))
theorem LR.eqv {P P2 n : Nat} {S S' : Mem} {g : Gl} {t : Ts} (h5 : ∀ k, k < 60 → S' 15 P2 0 k = S 15 P 0 k) (h6 : ∀ k, k < 36 → S' 16 P2 0 k = S 16 P 0 k) (h7 : ∀ k, k < 36 → S' 17 P2 0 k = S 17 P 0 k) (h8 : ∀ k, k < 16 → S' 18 P2 0 k = S 18 P 0 k) (h : LR S P g t n) : LR S' P2 g t n := by
  refine ⟨h.1, fun j hj => (h8 j hj).trans (h.2.1 j hj), fun i hi => ?_⟩
  have hi6 := h.six hi
  obtain ⟨a, b⟩ := h.2.2 i hi
  refine ⟨fun j hj => (h5 _ (by omega)).trans (a j hj), fun κ e hκ k hk => ?_⟩
  rw [h6 _ (by omega), h7 _ (by omega)]
  exact b κ e hκ k hk
theorem clT_id {x : Int32} (hx : -5000 ≤ x.toInt ∧ x.toInt ≤ 5000) : clT (x + 0) = x := by
  have h1 : (5000 : Int32).toInt = 5000 := rfl
  have h2 : (-5000 : Int32).toInt = -5000 := rfl
  rw [Int32.add_zero]
  unfold clT imin imax
  have a1 : (if x < 5000 then x else (5000 : Int32)) = x := by
    by_cases c : x < 5000
    · rw [if_pos c]
    · rw [if_neg c, i_eq]
      have := i_le.mp (i_nlt.mp c)
      omega
  rw [a1]
  by_cases c : -5000 < x
  · rw [if_pos c]
  · rw [if_neg c, i_eq]
    have := i_le.mp (i_nlt.mp c)
    omega
theorem hrs0 {n : Nat} {g : Gl} {t : Ts} (hw : WS g t n) : ∀ k : Nat, (g 0).toInt + k ≤ 10100 → (hrs n 0 g t k).1 1 = g 1
  | 0, _ => rfl
  | k + 1, h => by
    have ih := hrs0 hw k (by omega)
    show pasG (hrs n 0 g t k).1 (hrs n 0 g t k).2 n (clT ((hrs n 0 g t k).1 1 + 0)) 1 = g 1
    rw [pasG_1, ih]
    exact clT_id hw.1.2.2.2.1
section
variable {Q : Mem → Int32 → Prop} {s : St} {N : Nat}
theorem lo_whrs {K : Mem → Prop} (hN : N ≤ 48) (hw : WSs s) (h0 : (s.1 0).toInt + N ≤ 10100) : ∀ (m k : Nat) (S : Mem), k + m = N → LR S 1 (hrs s.2.2 0 s.1 s.2.1 k).1 (hrs s.2.2 0 s.1 s.2.1 k).2 s.2.2 → (∀ S', FL 1 S S' → LR S' 1 (hrs s.2.2 0 s.1 s.2.1 N).1 (hrs s.2.2 0 s.1 s.2.1 N).2 s.2.2 → K S') → vc_L_would_L52 Q K (nI N) (m + 1) S (nI k) := by
  intro m
  induction m with
  | zero =>
    intro k S hk h hK
    have e : k = N := by omega
    subst e
    rw [vc_L_would_L52]
    exact ⟨fun _ => hK S (FL.rf 1 S) h, fun c => absurd (nI_le (Nat.le_refl k) (by omega)) c⟩
  | succ m ih =>
    intro k S hk h hK
    have hws := hrs_ws (d := 0) hw k (by omega)
    have e1 := hrs0 hw k (by omega)
    have hg := hw.1.2.2.2.1
    rw [vc_L_would_L52, nc_1, h.2.1 1 (by decide)]
    refine ⟨fun c => absurd c (nI_ge (by omega) (by omega)), fun _ => ⟨nv_1, so_hour hws.1 (by rw [e1]; exact hg) (by rw [hws.2]; omega) h fun S1 f1 h1 => ?_⟩⟩
    have ec : clT ((hrs s.2.2 0 s.1 s.2.1 k).1 1 + 0) = (hrs s.2.2 0 s.1 s.2.1 k).1 1 := by
      rw [e1]
      exact clT_id hg
    rw [← nI_succ]
    refine ih (k + 1) S1 (by omega) ?_ (fun S' hf => hK S' (f1.tr hf))
    show LR S1 1 (pasG (hrs s.2.2 0 s.1 s.2.1 k).1 (hrs s.2.2 0 s.1 s.2.1 k).2 s.2.2 (clT ((hrs s.2.2 0 s.1 s.2.1 k).1 1 + 0))) (pasT (hrs s.2.2 0 s.1 s.2.1 k).1 (hrs s.2.2 0 s.1 s.2.1 k).2 s.2.2 (clT ((hrs s.2.2 0 s.1 s.2.1 k).1 1 + 0))) s.2.2
    rw [ec]
    exact h1
theorem lo_wide {K : Mem → Int32 → Int32 → Prop} {S : Mem} {x5 : Int32} {g1 : Gl} {t1 : Ts} (hl : LR S 0 s.1 s.2.1 s.2.2) (h1 : LR S 1 g1 t1 s.2.2) (hw1 : WS g1 t1 s.2.2) (e1 : g1 1 = s.1 1) (hK : K S (outS t1 s.2.2) (dstS g1 t1 s.2.2)) : ∀ m i, i + m = s.2.2 → vc_L_would_L91 Q K x5 (m + 1) S (outS t1 i) (dstS g1 t1 i) (nI i) := by
  intro m
  induction m with
  | zero =>
    intro i hi
    have e : i = s.2.2 := by omega
    subst e
    rw [vc_L_would_L91, nc_15, hl.n15]
    exact ⟨nv_15, fun _ => hK, fun c => absurd (n_le hl.1.1) c⟩
  | succ m ih =>
    intro i hi
    have hin : i < s.2.2 := by omega
    have hi6 := hl.six hin
    have hT := h1.2.2 i hin
    have h6 := (hw1.2 i hin).2.2.2.2.2.1
    have hs := ih (i + 1) (by omega)
    rw [nI_succ] at hs
    have eo : outS t1 i ||| (t1 i 6 <<< (nI i &&& 31)) = outS t1 (i + 1) := by
      show _ = if t1 i 6 = 0 then outS t1 i else outS t1 i ||| ((1 : Int32) <<< (nI i &&& 31))
      rcases h6 with e | e
      · rw [e, if_pos rfl, sh0 i hi6, or0]
      · rw [e, if_neg (by decide)]
    have ed : dstS g1 t1 (i + 1) = imax (dstS g1 t1 i) (iabs (t1 i 4 - t1 i 2 - s.1 1)) := by
      rw [← e1]; rfl
    rw [vc_L_would_L91, nc_15, hl.n15, tc_6 hi6, tc_4 hi6, tc_2 hi6, nc_1, hT.1 6 (by decide), hT.1 4 (by decide), hT.1 2 (by decide), hl.2.1 1 (by decide), eo]
    refine ⟨nv_15, fun c => absurd c (n_ge hl.1.1 hin), fun _ => ⟨tv_6 hi6, tv_4 hi6, tv_2 hi6, nv_1, so_size ⟨fun c => ?_, fun c => ?_⟩⟩⟩
    · unfold vc_L_would_J165
      rw [ed] at hs
      unfold imax at hs
      rw [if_neg (Int32.not_lt.mpr c)] at hs
      exact hs
    · unfold vc_L_would_J165
      rw [ed] at hs
      unfold imax at hs
      rw [if_pos (Int32.not_le.mp c)] at hs
      exact hs
theorem so_would {S : Mem} (hN : 1 ≤ N ∧ N ≤ 48) (hc : CC S s) (hl : LR S 0 s.1 s.2.1 s.2.2) (hw : WSs s) (h0 : (s.1 0).toInt + N ≤ 10100) (hq : ∀ S', CC S' s → LR S' 0 s.1 s.2.1 s.2.2 → Q S' 1) : vc_L_would S (nI N) Q := by
  intro S1 e1 S2 e2 S3 e3 S4 e4
  have f4 : FL 1 S S4 := by
    have g1 : FL 1 S S1 := by rw [e1]; exact FL.uc (by decide) _ _
    have g2 : FL 1 S1 S2 := by rw [e2]; exact FL.uc (by decide) _ _
    have g3 : FL 1 S2 S3 := by rw [e3]; exact FL.uc (by decide) _ _
    have g4 : FL 1 S3 S4 := by rw [e4]; exact FL.uc (by decide) _ _
    exact ((g1.tr g2).tr g3).tr g4
  unfold vc_L_wouldR
  refine so_copy (by decide) (by decide) fun S5 c5 g5 => so_copy (by decide) (by decide) fun S6 c6 g6 => so_copy (by decide) (by decide) fun S7 c7 g7 => so_copy (by decide) (by decide) fun S8 c8 g8 => ?_
  have p5 : FL 1 S4 S5 := g5.fl (by decide)
  have p6 : FL 1 S5 S6 := g6.fl (by decide)
  have p7 : FL 1 S6 S7 := g7.fl (by decide)
  have p8 : FL 1 S7 S8 := g8.fl (by decide)
  have l4 : LR S4 0 s.1 s.2.1 s.2.2 := hl.fl (by decide) f4
  have l8 : LR S8 1 s.1 s.2.1 s.2.2 := l4.eqv (P2 := 1) (S' := S8) (fun k hk => by rw [g8 15 1 0 (by omega), g7 15 1 0 (by omega), g6 15 1 0 (by omega)]; exact c5 k hk) (fun k hk => by rw [g8 16 1 0 (by omega), g7 16 1 0 (by omega), c6 k hk, g5 16 0 0 (by omega)]) (fun k hk => by rw [g8 17 1 0 (by omega), c7 k hk, g6 17 0 0 (by omega), g5 17 0 0 (by omega)]) (fun k hk => by rw [c8 k hk, g7 18 0 0 (by omega), g6 18 0 0 (by omega), g5 18 0 0 (by omega)])
  have f8 : FL 1 S S8 := (((f4.tr p5).tr p6).tr p7).tr p8
  refine ⟨N + 1, lo_whrs hN.2 hw h0 N 0 S8 (by omega) l8 fun S9 f9 l9 => ?_⟩
  have fa := f8.tr f9
  have la : LR S9 0 s.1 s.2.1 s.2.2 := hl.fl (by decide) fa
  have ca : CC S9 s := hc.fc fa.fc
  have hws := hrs_ws (d := 0) hw N (by omega)
  refine ⟨s.2.2 + 1, lo_wide la l9 hws.1 (hrs0 hw N (by omega)) ?_ s.2.2 0 (by omega)⟩
  refine cl_if (k := 0) hN (by decide) hw h0 ca rfl fun S10 r10 c10 => so_mean (l9.fr r10) hws.1 (st_ne rfl ?_)
  refine cl_if (k := 1) hN (by decide) hw h0 c10 rfl fun S11 r11 c11 => st_ne rfl ?_
  refine cl_if (k := 2) hN (by decide) hw h0 c11 rfl fun S12 r12 c12 => ?_
  have la12 := ((la.fr r10).fr r11).fr r12
  rw [nc_13, ((l9.fr r10).fr r11).fr r12 |>.2.1 13 (by decide), la12.2.1 13 (by decide)]
  refine ⟨nv_13, nv_13, st_ne rfl ?_⟩
  refine cl_if (k := 3) hN (by decide) hw h0 c12 rfl fun S13 r13 c13 => st_ne rfl ⟨Or.inr rfl, hq S13 c13 (la12.fr r13)⟩
end
