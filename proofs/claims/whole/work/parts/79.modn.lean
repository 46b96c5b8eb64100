/-! the reference: the best lag, the widest, what would be, hours until still -/
theorem nlS_2 (t : Th) (x : Int32) : ∀ k, (nlS t x k).2 = iabs (mendB t (nlS t x k).1 - x)
  | 0 => rfl
  | k + 1 => by
    rw [nlS]
    by_cases c : (nlS t x k).2 ≤ iabs (mendB t (nI (k + 2)) - x)
    · rw [if_pos c]; exact nlS_2 t x k
    · rw [if_neg c]
theorem lx_best {Q : Mem → Int32 → Prop} {K : Mem → Int32 → Prop} {S : Mem} {i : Nat} {g : Gl} {t : Ts} {h : Int} (hi : i < 10) (hw : WT h (t i)) (hm : MR S g t) (hK : K S (nlS (t i) (g 1) 8).1) : ∀ m k, k + m = 8 → vc_X7_best_L17 Q K (nI i) (m + 1) S (nlS (t i) (g 1) k).1 (nI (k + 2)) := by
  intro m
  induction m with
  | zero =>
    intro k hk
    have e : k = 8 := by omega
    subst e
    rw [vc_X7_best_L17]
    exact ⟨fun _ => hK, fun c => absurd (by decide) c⟩
  | succ m ih =>
    intro k hk
    have e := ih (k + 1) (by omega)
    have e2 := nlS_2 (t i) (g 1) k
    rw [vc_X7_best_L17]
    unfold vc_X7_best_J63
    rw [nI_1]
    refine ⟨fun c => absurd (show nI 9 < nI (k + 2) from c) (nI_nlt (by omega) (by omega)), fun _ => sx_mendB hi hw hm ⟨vv1, ?_⟩⟩
    rw [hm.g1]
    refine sx_size (sx_mendB hi hw hm ⟨vv1, ?_⟩)
    rw [hm.g1]
    refine sx_size ⟨fun c => ?_, fun c => ?_⟩
    · rw [← e2] at c
      rw [nlS, if_pos c] at e; exact e
    · rw [← e2] at c
      rw [nlS, if_neg c] at e; exact e
theorem sx_best {Q : Mem → Int32 → Prop} {S : Mem} {i : Nat} {g : Gl} {t : Ts} {h : Int} (hi : i < 10) (hw : WT h (t i)) (hm : MR S g t) (hq : Q S (nlV (t i) (g 1))) : vc_X7_best S (nI i) Q := by
  obtain ⟨κ, d1, d2, -⟩ := hw.2.2.2.2.2.2
  unfold nlV at hq
  refine sx_of (j := 7) hi (by decide) hm ⟨fun c => ?_, fun c => ?_⟩
  · have k0 : 0 < κ := by
      rcases Nat.eq_zero_or_pos κ with e | e
      · rw [e] at d2; exact absurd d2 c
      · exact e
    rw [if_pos (by rw [d2]; exact (nI_lt0 (by omega)).mpr k0)] at hq
    exact ⟨9, lx_best hi hw hm hq 8 0 rfl⟩
  · rw [if_neg (by rw [c]; decide)] at hq
    exact hq
theorem lx_wide {Q : Mem → Int32 → Prop} {K : Mem → Int32 → Prop} {S : Mem} {n : Nat} {g : Gl} {t : Ts} (hn : n ≤ 10) (hg : g 15 = nI n) (h : MR S g t) (hK : K S (dstS g t n)) : ∀ m i, i + m = n → vc_X7_widest_L4 Q K (m + 1) S (dstS g t i) (nI i) := by
  intro m
  induction m with
  | zero =>
    intro i hi
    have e : i = n := by omega
    subst e
    rw [vc_X7_widest_L4]
    exact ⟨vv15, fun _ => hK, fun c => absurd (ix_ge h hg hn) c⟩
  | succ m ih =>
    intro i hi
    have hlt : i < n := by omega
    have e := ih (i + 1) (by omega)
    rw [vc_X7_widest_L4]
    unfold vc_X7_widest_J49
    rw [nI_1]
    refine ⟨vv15, fun c => absurd c (ix_le h hg hlt hn), fun _ => sx_of (j := 4) (by omega) (by decide) h (sx_of (j := 2) (by omega) (by decide) h ⟨vv1, ?_⟩)⟩
    rw [h.g1]
    rw [dstS] at e
    unfold imax at e
    refine sx_size ⟨fun c => ?_, fun c => ?_⟩
    · rw [if_neg (i_nlt.mpr c)] at e; exact e
    · rw [if_pos (i_nle.mp c)] at e; exact e
theorem sx_wide {Q : Mem → Int32 → Prop} {S : Mem} {n : Nat} {g : Gl} {t : Ts} (hn : n ≤ 10) (hg : g 15 = nI n) (h : MR S g t) (hq : Q S (dstS g t n)) : vc_X7_widest S Q := ⟨n + 1, lx_wide hn hg h hq n 0 (by omega)⟩
/-- what would be after N hours -/
def sillV (g : Gl) (g' : Gl) (t' : Ts) (n k : Nat) : Int32 := if k = 0 then meanV t' n else if k = 1 then outS t' n else if k = 2 then g' 13 - g 13 else dstS g' t' n
theorem lx_aside {Q : Mem → Int32 → Prop} {K : Mem → Prop} {x1 x2 : Int32} {r f : Nat → Int32} : ∀ (m y : Nat) (S : Mem), y + m = 226 → S 16 0 0 = r → (∀ p, S 20 0 0 p = if p < y then r p else f p) → (∀ S', F1 20 0 0 S S' → (∀ p, p < 226 → S' 20 0 0 p = r p) → K S') → vc_X7_behind_L2 Q K x1 x2 (m + 1) S (nI y) := by
  intro m
  induction m with
  | zero =>
    intro y S hi hr h hK
    have e : y = 226 := by omega
    subst e
    rw [vc_X7_behind_L2]
    exact ⟨fun _ => hK S (F1.rf _ _ _ S) (fun p hp => by rw [h p, if_pos hp]), fun c => absurd (show nI 226 ≤ nI 226 from nI_le (Nat.le_refl _) (by omega)) c⟩
  | succ m ih =>
    intro y S hi hr h hK
    rw [vc_X7_behind_L2, nI_1, nI_clamp (show y < 2 ^ 31 by omega), hr]
    refine ⟨fun c => absurd (show nI 226 ≤ nI y from c) (nI_ge (by omega) (by omega)), fun _ => ⟨vp_in_nI (by omega) (by decide), vp_in_nI (by omega) (by decide), fun S3 e => ih (y + 1) S3 (by omega) (by rw [e, uc_t (by decide)]; exact hr) (fun p => ?_) (fun S' hf => hK S' ((e ▸ F1.uc 20 0 0 S _ : F1 20 0 0 S S3).tr hf))⟩⟩
    rw [e, uc_same, upd_app]
    by_cases c : p = y
    · rw [if_pos c, if_pos (by omega), c]
    · rw [if_neg c, h p]
      by_cases c2 : p < y
      · rw [if_pos c2, if_pos (by omega)]
      · rw [if_neg c2, if_neg (by omega)]
theorem lx_aback {Q : Mem → Int32 → Prop} {K : Mem → Int32 → Prop} {x1 x2 w : Int32} {r f : Nat → Int32} : ∀ (m y : Nat) (S : Mem), y + m = 226 → S 20 0 0 = f → (∀ p, S 16 0 0 p = if p < y then f p else r p) → (∀ S', F1 16 0 0 S S' → (∀ p, p < 226 → S' 16 0 0 p = f p) → K S' w) → vc_X7_behind_L106 Q K x1 x2 (m + 1) S w (nI y) := by
  intro m
  induction m with
  | zero =>
    intro y S hi hr h hK
    have e : y = 226 := by omega
    subst e
    rw [vc_X7_behind_L106]
    exact ⟨fun _ => hK S (F1.rf _ _ _ S) (fun p hp => by rw [h p, if_pos hp]), fun c => absurd (show nI 226 ≤ nI 226 from nI_le (Nat.le_refl _) (by omega)) c⟩
  | succ m ih =>
    intro y S hi hr h hK
    rw [vc_X7_behind_L106, nI_1, nI_clamp (show y < 2 ^ 31 by omega), hr]
    refine ⟨fun c => absurd (show nI 226 ≤ nI y from c) (nI_ge (by omega) (by omega)), fun _ => ⟨vp_in_nI (by omega) (by decide), vp_in_nI (by omega) (by decide), fun S3 e => ih (y + 1) S3 (by omega) (by rw [e, uc_t (by decide)]; exact hr) (fun p => ?_) (fun S' hf => hK S' ((e ▸ F1.uc 16 0 0 S _ : F1 16 0 0 S S3).tr hf))⟩⟩
    rw [e, uc_same, upd_app]
    by_cases c : p = y
    · rw [if_pos c, if_pos (by omega), c]
    · rw [if_neg c, h p]
      by_cases c2 : p < y
      · rw [if_pos c2, if_pos (by omega)]
      · rw [if_neg c2, if_neg (by omega)]
/-- the row and what stands aside are put back: nothing of what is told has changed -/
def FrB (S S' : Mem) : Prop := (∀ t P' i', t ≠ 15 → t ≠ 16 → t ≠ 20 → t ≠ 21 → t ≠ 22 → S' t P' i' = S t P' i') ∧ ∀ k, k ≠ 8 → S' 15 0 0 k = S 15 0 0 k
theorem FrM.b {S S' : Mem} (h : FrM S S') : FrB S S' := ⟨fun t P' i' a b _ d e => h.1 t P' i' a b d e, h.2⟩
theorem FrS.b {S S' : Mem} (h : FrS S S') : FrB S S' := h.m.b
theorem FrB.tr {S S' S'' : Mem} (h : FrB S S') (h2 : FrB S' S'') : FrB S S'' := ⟨fun t P' i' a b c d e => (h2.1 t P' i' a b c d e).trans (h.1 t P' i' a b c d e), fun k hk => (h2.2 k hk).trans (h.2 k hk)⟩
theorem F1.b {t : Nat} {S S' : Mem} (ht : t = 16 ∨ t = 20) (h : F1 t 0 0 S S') : FrB S S' := ⟨fun t' P' i' _ b c _ _ => h t' P' i' (fun hh => by omega), fun k _ => by rw [h 15 0 0 (fun hh => by omega)]⟩
theorem sx_beh {Q : Mem → Int32 → Prop} {S : Mem} {n N k : Nat} {g : Gl} {t : Ts} (hN : N < 1000) (hk : k < 4) (hw : WS g t n) (h0 : (g 0).toInt + N ≤ 10100) (h : MR S g t) (hq : ∀ S', FrB S S' → MR S' g t → Q S' (sillV g (hrs n 0 g t N).1 (hrs n 0 g t N).2 n k)) : vc_X7_behind S (nI N) (nI k) Q := by
  have hn := hw.1.1
  unfold vc_X7_behind
  rw [nI_lit0]
  refine ⟨227, lx_aside (r := S 16 0 0) (f := S 20 0 0) 226 0 S rfl rfl (fun p => (if_neg (by omega)).symm) fun S6 f6 h6 => ⟨N + 1, lx_beh (g := g) (t := t) hN hw h0 N 0 S6 (by omega) ?_ fun S11 f11 h11 => ?_⟩⟩
  · show MR S6 g t
    unfold MR
    rw [f6 16 0 0 (by decide)]
    exact h
  · have a20 : ∀ p, p < 226 → S11 20 0 0 p = S 16 0 0 p := fun p hp => by rw [f11.1 20 0 0 (by decide) (by decide) (by decide) (by decide)]; exact h6 p hp
    obtain ⟨hw1, -⟩ := hrs_ws (d := 0) hw N (by omega)
    generalize hgt : hrs n 0 g t N = gt at *
    have fin : ∀ S' w, FrS S11 S' → w = sillV g gt.1 gt.2 n k → vc_X7_behind_J102 Q (nI N) (nI k) S' w := fun S' w f e => by
      unfold vc_X7_behind_J102
      rw [nI_lit0]
      refine ⟨227, lx_aback (f := S' 20 0 0) (r := S' 16 0 0) 226 0 S' rfl rfl (fun p => (if_neg (by omega)).symm) fun S22 f22 h22 => ?_⟩
      rw [e]
      refine hq S22 ((((f6.b (by simp)).tr f11.b).tr f.b).tr (f22.b (by simp))) ?_
      refine RT.from (f := S 16 0 0) (b := 0) (fun p hp => ?_) h
      rw [Nat.zero_add, h22 p hp, f.1 20 0 0 (by decide) (by decide)]
      exact a20 p hp
    have hg1 : gt.1 15 = nI n := hw1.1.2.1
    unfold sillV at fin
    have h13 : S11 20 0 0 (13 : Int32).toNatClampNeg = g 13 := (a20 13 (by decide)).trans (h.gl (show 13 < 16 by decide))
    have hc : k = 0 ∨ k = 1 ∨ k = 2 ∨ k = 3 := by omega
    rcases hc with e | e | e | e
    all_goals subst e
    · exact ⟨fun c => absurd rfl c, fun _ => sx_mean hn hg1 (fun i hi => ⟨_, hw1.2 i hi⟩) h11 (fin S11 _ (FrS.rf _) rfl)⟩
    · exact ⟨fun _ => ⟨fun c => absurd rfl c, fun _ => sx_out hn hg1 (fun i hi => (hw1.2 i hi).2.2.2.2.2.1) h11 (fin S11 _ (FrS.rf _) rfl)⟩, fun c => absurd c (by decide)⟩
    · refine ⟨fun _ => ⟨fun _ => ⟨fun c => absurd rfl c, fun _ => ⟨vv13, vv13, fin S11 _ (FrS.rf _) ?_⟩⟩, fun c => absurd c (by decide)⟩, fun c => absurd c (by decide)⟩
      rw [h11.g13, h13]; rfl
    · exact ⟨fun _ => ⟨fun _ => ⟨fun _ => sx_wide hn hg1 h11 (fin S11 _ (FrS.rf _) rfl), fun c => absurd c (by decide)⟩, fun c => absurd c (by decide)⟩, fun c => absurd c (by decide)⟩
theorem lx_stl {Q : Mem → Int32 → Prop} {K : Mem → Int32 → Int32 → Prop} {i N : Nat} {y : Int32} {g : Gl} {t : Ts} (hi : i < 10) (hl : ¬ t i 1 = 0) (hz : (g 1 + t i 2 - stF (t i) (g 1) N) / t i 1 = 0) (hnz : ∀ k, k < N → ¬ (g 1 + t i 2 - stF (t i) (g 1) k) / t i 1 = 0) : ∀ (m k : Nat) (S : Mem), k + m = N → MR S g (setT t i (upd (t i) 4 (stF (t i) (g 1) k))) → (∀ S', FrM S S' → MR S' g (setT t i (upd (t i) 4 (stF (t i) (g 1) N))) → K S' y (nI N)) → vc_X7_stillIn_L28 Q K (nI i) (m + 1) S y (nI k) := by
  intro m
  induction m with
  | zero =>
    intro k S hk h hK
    have e : k = N := by omega
    subst e
    rw [vc_X7_stillIn_L28]
    refine sx_change hi (by rw [setT_same]; exact hl) h ?_
    rw [setT_same]
    exact ⟨fun _ => hK S (FrM.rf S) h, fun c => absurd hz c⟩
  | succ m ih =>
    intro k S hk h hK
    rw [vc_X7_stillIn_L28, nI_1]
    refine sx_change hi (by rw [setT_same]; exact hl) h ?_
    rw [setT_same]
    refine ⟨fun c => absurd c (hnz k (by omega)), fun _ => sx_follow hi (by rw [setT_same]; exact hl) h fun S' hf h' => ih (k + 1) S' (by omega) (h'.cg (fun _ _ => rfl) (fun i' _ j' _ => ?_)) (fun S'' hf2 => hK S'' (hf.tr hf2))⟩
    rw [setT_same]
    unfold setT
    by_cases e : i' = i
    · rw [if_pos e, if_pos e]
      unfold folT
      by_cases e4 : j' = 4
      · rw [e4]
        show _ = stF (t i) (g 1) (k + 1)
        rw [stF]; rfl
      · rw [upd_app, if_neg e4, upd_app, if_neg e4, upd_app, if_neg e4]
    · rw [if_neg e, if_neg e, if_neg e]
/-! the reference: the mean error -/
theorem lx_err {Q : Mem → UInt64 → Prop} {K : Mem → Int32 → Int32 → Prop} {S : Mem} {n : Nat} {g : Gl} {t : Ts} (hn : n ≤ 10) (hg : g 15 = nI n) (hw : ∀ i, i < n → ∃ h, WT h (t i)) (h : MR S g t) (hK : K S (errS g t n) (nI (btN t (-2147483648) 2147483647 n))) : ∀ m i, i + m = n → vc_X7_meanError_L11 Q K (m + 1) S (errS g t i) (nI (btN t (-2147483648) 2147483647 i)) (nI i) := by
  intro m
  induction m with
  | zero =>
    intro i hi
    have e : i = n := by omega
    subst e
    rw [vc_X7_meanError_L11]
    exact ⟨vv15, fun _ => hK, fun c => absurd (ix_ge h hg hn) c⟩
  | succ m ih =>
    intro i hi
    have hlt : i < n := by omega
    have e := ih (i + 1) (by omega)
    obtain ⟨hh, hwi⟩ := hw i hlt
    have hr := i_rng (mended (t i))
    have b1 : ¬ mended (t i) < -2147483648 := fun c => by
      have := i_lt.mp c
      have h1 : (-2147483648 : Int32).toInt = -2147483648 := rfl
      omega
    have b2 : ¬ (2147483647 : Int32) < mended (t i) := fun c => by
      have := i_lt.mp c
      have h1 : (2147483647 : Int32).toInt = 2147483647 := rfl
      omega
    rw [vc_X7_meanError_L11]
    unfold vc_X7_meanError_J42 vc_X7_meanError_J60
    rw [nI_1]
    refine ⟨vv15, fun c => absurd c (ix_le h hg hlt hn), fun _ => sx_of (j := 7) (by omega) (by decide) h ⟨fun c => sx_of (j := 7) (by omega) (by decide) h ⟨fun c2 => ?_, fun c2 => absurd c c2⟩, fun c => sx_off (by omega) hwi h (sx_of (j := 7) (by omega) (by decide) h ⟨fun c2 => absurd c2 c, fun c2 => ?_⟩)⟩⟩
    · have ha : ¬ 0 < t i 7 := fun hh => i_nle.mpr hh c
      rw [errS, if_neg ha, btN, if_neg (fun hh => ha hh.1)] at e
      rw [Int32.add_zero, Int32.add_zero]
      exact e
    · have ha : 0 < t i 7 := i_nle.mp c
      rw [errS, if_pos ha, btN, if_pos ⟨ha, b1, b2⟩, ← nI_1] at e
      exact e
