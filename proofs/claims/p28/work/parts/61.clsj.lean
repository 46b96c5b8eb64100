/-! copies -/
theorem lp_cin {Q : Mem → Prop} {K : Mem → Prop} {t0 P0 i0 t1 P1 i1 n : Nat} {f : Nat → Int32} (hn : n < 100) (hne : ¬ (t1 = t0 ∧ P1 = P0 ∧ i1 = i0)) : ∀ (m i : Nat) (S : Mem), i + m = n → (∀ k, k < i → S t0 P0 i0 k = f k) → S t1 P1 i1 = f → (∀ S', (∀ k, k < n → S' t0 P0 i0 k = f k) → F1 t0 P0 i0 S S' → K S') → vc_X6_copyInto_L2 Q K t0 P0 i0 n t1 P1 i1 n (m + 1) S (nI i) := by
  intro m
  induction m with
  | zero =>
    intro i S hi h hs hK
    have e : i = n := by omega
    subst e
    rw [vc_X6_copyInto_L2]
    exact ⟨fun _ => hK S h (F1.rf _ _ _ S), fun c => absurd (nI_le (Nat.le_refl i) (by omega)) c⟩
  | succ m ih =>
    intro i S hi h hs hK
    have hlt : i < n := by omega
    rw [vc_X6_copyInto_L2, nI_1]
    have hv : vp_in (nI i) n := vp_in_nI hlt (by omega)
    have hc : (nI i).toNatClampNeg = i := nI_clamp (by omega)
    refine ⟨fun c => absurd c (nI_ge hlt (by omega)), fun _ => ⟨fun c => absurd c (nI_ge hlt (by omega)), fun _ => ⟨hv, hv, fun S4 e4 => ?_⟩⟩⟩
    rw [hc, hs] at e4
    refine ih (i + 1) S4 (by omega) (fun k hk => ?_) ?_ (fun S' h' hf => hK S' h' ((e4 ▸ F1.uc t0 P0 i0 S _ : F1 t0 P0 i0 S S4).tr hf))
    · rw [e4, uc_same, upd_app]
      by_cases e : k = i
      · rw [if_pos e, e]
      · rw [if_neg e]; exact h k (by omega)
    · rw [e4, uc_ne hne]; exact hs
theorem sp_cin {Q : Mem → Prop} {S : Mem} {t0 P0 i0 t1 P1 i1 n : Nat} (hn : n < 100) (hne : ¬ (t1 = t0 ∧ P1 = P0 ∧ i1 = i0)) (hq : ∀ S', (∀ k, k < n → S' t0 P0 i0 k = S t1 P1 i1 k) → F1 t0 P0 i0 S S' → Q S') : vc_X6_copyInto S t0 P0 i0 n t1 P1 i1 n Q := ⟨n + 1, lp_cin hn hne n 0 S (by omega) (fun k hk => absurd hk (by omega)) rfl hq⟩
theorem cstep {t P P1 i i1 k0 : Nat} {p : Nat → Prop} {f : Nat → Int32} {S0 S S' : Mem} (hP : P1 ≠ P) (h : (∀ k, p k → S t P i k = f k) ∧ S t P1 i1 = f ∧ F1 t P i S0 S) (e : S' = uc S t P i (upd (S t P i) k0 (S t P1 i1 k0))) : (∀ k, p k ∨ k = k0 → S' t P i k = f k) ∧ S' t P1 i1 = f ∧ F1 t P i S0 S' := by
  obtain ⟨h1, h2, h3⟩ := h
  refine ⟨fun k hk => ?_, ?_, h3.tr (e ▸ F1.uc t P i S _)⟩
  · rw [e, uc_same, upd_app, h2]
    by_cases c : k = k0
    · rw [if_pos c, c]
    · rw [if_neg c]
      rcases hk with hk | hk
      · exact h1 k hk
      · exact absurd hk c
  · rw [e, uc_P hP]; exact h2
theorem TR.eqv {S S' : Mem} {P i P1 i1 : Nat} {t : Th} (h5 : ∀ k, 2 ≤ k → k < 12 → S' 5 P i k = S 5 P1 i1 k) (h6 : ∀ k, k < 6 → S' 6 P i k = S 6 P1 i1 k) (h7 : ∀ k, k < 6 → S' 7 P i k = S 7 P1 i1 k) (h : TR S P1 i1 t) : TR S' P i t := by
  unfold TR
  rw [h5 5 (by decide) (by decide), h5 3 (by decide) (by decide), h5 4 (by decide) (by decide), h5 6 (by decide) (by decide), h5 7 (by decide) (by decide), h5 8 (by decide) (by decide), h5 10 (by decide) (by decide), h5 2 (by decide) (by decide), h5 9 (by decide) (by decide), h5 11 (by decide) (by decide)]
  obtain ⟨a1, a2, a3, a4, a5, a6, a7, a8, a9, a10, a11⟩ := h
  refine ⟨a1, a2, a3, a4, a5, a6, a7, a8, a9, a10, fun κ e hκ k hk => ?_⟩
  rw [h6 k (by omega), h7 k (by omega)]
  exact a11 κ e hκ k hk
theorem sp_copyT {Q : Mem → Prop} {S : Mem} {P i P1 i1 : Nat} {t : Th} (hP : P1 ≠ P) (h6 : t 6 = 0 ∨ t 6 = 1) (h : TR S P1 i1 t) (hq : ∀ S', F5 P i S S' → TR S' P i t → Q S') : vc_X5_copyFrom S P i P1 i1 Q := by
  refine sp_cin (by decide) (fun hh => hP hh.2.1) fun S1 c1 f1 => sp_cin (by decide) (fun hh => hP hh.2.1) fun S2 c2 f2 S3 e3 S5 e5 S7 e7 => ⟨?_, fun S9 e9 S12 e12 S14 e14 S16 e16 S18 e18 S20 e20 S22 e22 => ?_⟩
  all_goals
    have x0 : (∀ k, (fun _ : Nat => False) k → S2 5 P i k = S2 5 P1 i1 k) ∧ S2 5 P1 i1 = S2 5 P1 i1 ∧ F1 5 P i S2 S2 := ⟨fun _ hh => hh.elim, rfl, F1.rf _ _ _ _⟩
    have x3 := cstep (p := fun _ => False) hP x0 e3
    have x5 := cstep (p := fun k => False ∨ k = 2) hP x3 e5
    have x7 := cstep (p := fun k => (False ∨ k = 2) ∨ k = 3) hP x5 e7
    have s12 : S2 5 P1 i1 = S 5 P1 i1 := (f2 5 P1 i1 (fun hh => absurd hh.1 (by decide))).trans (f1 5 P1 i1 (fun hh => absurd hh.1 (by decide)))
  · rw [x7.2.1, s12, h.2.2.2.2.2.2.1]; exact h6
  · have x9 := cstep (p := fun k => ((False ∨ k = 2) ∨ k = 3) ∨ k = 4) hP x7 e9
    have x12 := cstep (p := fun k => (((False ∨ k = 2) ∨ k = 3) ∨ k = 4) ∨ k = 10) hP x9 e12
    have x14 := cstep (p := fun k => ((((False ∨ k = 2) ∨ k = 3) ∨ k = 4) ∨ k = 10) ∨ k = 5) hP x12 e14
    have x16 := cstep (p := fun k => (((((False ∨ k = 2) ∨ k = 3) ∨ k = 4) ∨ k = 10) ∨ k = 5) ∨ k = 6) hP x14 e16
    have x18 := cstep (p := fun k => ((((((False ∨ k = 2) ∨ k = 3) ∨ k = 4) ∨ k = 10) ∨ k = 5) ∨ k = 6) ∨ k = 7) hP x16 e18
    have x20 := cstep (p := fun k => (((((((False ∨ k = 2) ∨ k = 3) ∨ k = 4) ∨ k = 10) ∨ k = 5) ∨ k = 6) ∨ k = 7) ∨ k = 8) hP x18 e20
    have x22 := cstep (p := fun k => ((((((((False ∨ k = 2) ∨ k = 3) ∨ k = 4) ∨ k = 10) ∨ k = 5) ∨ k = 6) ∨ k = 7) ∨ k = 8) ∨ k = 9) hP x20 e22
    refine hq S22 (((f1.five (Or.inr (Or.inl rfl))).tr (f2.five (Or.inr (Or.inr rfl)))).tr (x22.2.2.five (Or.inl rfl))) (h.eqv (fun k h2 h12 => ?_) (fun k hk => ?_) (fun k hk => ?_))
    · rw [x22.1 k (by omega), s12]
    · rw [x22.2.2 6 P i (fun hh => absurd hh.1 (by decide)), f2 6 P i (fun hh => absurd hh.1 (by decide))]
      exact c1 k hk
    · rw [x22.2.2 7 P i (fun hh => absurd hh.1 (by decide)), c2 k hk, f1 7 P1 i1 (fun hh => absurd hh.1 (by decide))]
theorem PR.frP {S S' : Mem} {P P1 n : Nat} {g : Gl} {t : Ts} (hP : P1 ≠ P) (hf : FrP P S S') (h : PR S P1 g t n) : PR S' P1 g t n := h.eqs (hf _ _ _ (fun hh => hP hh.2)) (hf _ _ _ (fun hh => hP hh.2)) (hf _ _ _ (fun hh => hP hh.2)) (fun i _ => ⟨hf _ _ _ (fun hh => hP hh.2), hf _ _ _ (fun hh => hP hh.2), hf _ _ _ (fun hh => hP hh.2)⟩)
theorem lp_copy {Q : Mem → Prop} {K : Mem → Prop} {P P1 n : Nat} {g : Gl} {t : Ts} (hP : P < 11) (hP1 : P1 < 11) (hne : P1 ≠ P) (h6 : ∀ i, i < n → t i 6 = 0 ∨ t i 6 = 1) : ∀ (m i : Nat) (S : Mem), i + m = n → PR S P1 g t n → (∀ j, j < i → TR S P j (t j)) → (∀ S', FrP P S S' → (∀ j, j < n → TR S' P j (t j)) → K S') → vc_X3_copyFrom_L2 Q K P P1 (m + 1) S (nI i) := by
  intro m
  induction m with
  | zero =>
    intro i S hi h ht hK
    have e : i = n := by omega
    subst e
    rw [vc_X3_copyFrom_L2]
    exact ⟨fun _ => hK S (FrP.rf P S) ht, fun c => absurd (lp_ge h.2.1.2 h.2.1.1) c⟩
  | succ m ih =>
    intro i S hi h ht hK
    have hn := h.2.1.1
    have hlt : i < n := by omega
    rw [vc_X3_copyFrom_L2, nI_1]
    refine ⟨fun c => absurd c (lp_le h.2.1.2 i hlt hn), fun _ => sp_at (by omega) (sp_at (by omega) ⟨⟨hP, by omega⟩, ⟨hP1, by omega⟩, sp_copyT hne (h6 i hlt) (h.2.2 i hlt) fun S10 hf hT => ?_⟩)⟩
    refine ih (i + 1) S10 (by omega) (h.frP hne hf.P) (fun j hj => ?_) (fun S' hf2 => hK S' (hf.P.tr hf2))
    by_cases e : j = i
    · rw [e]; exact hT
    · exact (ht j (by omega)).eqs (hf _ _ _ (fun hh => e hh.2.2)) (hf _ _ _ (fun hh => e hh.2.2)) (hf _ _ _ (fun hh => e hh.2.2))
theorem F1.P {t P i : Nat} {S S' : Mem} (ht : t = 0 ∨ t = 3 ∨ t = 5 ∨ t = 6 ∨ t = 7 ∨ t = 8 ∨ t = 12 ∨ t = 13) (h : F1 t P i S S') : FrP P S S' := fun t' P' i' hn => h t' P' i' fun hh => hn ⟨by rw [hh.1]; exact ht, hh.2.1⟩
theorem sp_copy {Q : Mem → Prop} {S : Mem} {P P1 n : Nat} {g : Gl} {t : Ts} (hP : P < 11) (hP1 : P1 < 11) (hne : P1 ≠ P) (h6 : ∀ i, i < n → t i 6 = 0 ∨ t i 6 = 1) (h : PR S P1 g t n) (hq : ∀ S', FrP P S S' → PR S' P g t n → Q S') : vc_X3_copyFrom S P P1 Q := by
  unfold vc_X3_copyFrom
  rw [nI_lit0]
  refine ⟨n + 1, lp_copy hP hP1 hne h6 n 0 S (by omega) h (fun j hj => absurd hj (by omega)) fun S11 hf11 hT11 => ?_⟩
  have g11 := h.frP hne hf11
  refine sp_cin (by decide) (fun hh => hne hh.2.1) fun S12 c12 f12 => sp_cin (by decide) (fun hh => hne hh.2.1) fun S13 c13 f13 S14 e14 S16 e16 S18 e18 S20 e20 S22 e22 S24 e24 S26 e26 S28 e28 => ?_
  have x0 : (∀ k, (fun _ : Nat => False) k → S13 3 P 0 k = S13 3 P1 0 k) ∧ S13 3 P1 0 = S13 3 P1 0 ∧ F1 3 P 0 S13 S13 := ⟨fun _ hh => hh.elim, rfl, F1.rf _ _ _ _⟩
  have x14 := cstep (p := fun _ => False) hne x0 e14
  have x16 := cstep (p := fun k => False ∨ k = 5) hne x14 e16
  have x18 := cstep (p := fun k => (False ∨ k = 5) ∨ k = 6) hne x16 e18
  have x20 := cstep (p := fun k => ((False ∨ k = 5) ∨ k = 6) ∨ k = 7) hne x18 e20
  have x22 := cstep (p := fun k => (((False ∨ k = 5) ∨ k = 6) ∨ k = 7) ∨ k = 8) hne x20 e22
  have x24 := cstep (p := fun k => ((((False ∨ k = 5) ∨ k = 6) ∨ k = 7) ∨ k = 8) ∨ k = 9) hne x22 e24
  have x26 := cstep (p := fun k => (((((False ∨ k = 5) ∨ k = 6) ∨ k = 7) ∨ k = 8) ∨ k = 9) ∨ k = 10) hne x24 e26
  have x28 := cstep (p := fun k => ((((((False ∨ k = 5) ∨ k = 6) ∨ k = 7) ∨ k = 8) ∨ k = 9) ∨ k = 10) ∨ k = 11) hne x26 e28
  have f28 := x28.2.2
  have s3 : S13 3 P1 0 = S11 3 P1 0 := (f13 3 P1 0 (fun hh => absurd hh.1 (by decide))).trans (f12 3 P1 0 (fun hh => absurd hh.1 (by decide)))
  have r : ∀ k, 5 ≤ k → k < 13 → S28 3 P 0 k = S11 3 P1 0 k := fun k h5 h13 => by rw [x28.1 k (by omega), s3]
  have r12 : ∀ k, k < 4 → S28 12 P 0 k = S11 12 P1 0 k := fun k hk => by
    rw [f28 12 P 0 (fun hh => absurd hh.1 (by decide)), f13 12 P 0 (fun hh => absurd hh.1 (by decide))]
    exact c12 k hk
  have r13 : ∀ k, k < 4 → S28 13 P 0 k = S11 13 P1 0 k := fun k hk => by
    rw [f28 13 P 0 (fun hh => absurd hh.1 (by decide)), c13 k hk, f12 13 P1 0 (fun hh => absurd hh.1 (by decide))]
  refine hq S28 (((hf11.tr (f12.P (by simp))).tr (f13.P (by simp))).tr (f28.P (by simp))) ⟨?_, ⟨h.2.1.1, ?_⟩, fun i hi => ?_⟩
  · obtain ⟨a1, a2, a3, a4, a5, a6, a7, a8, a9⟩ := g11.1
    refine ⟨?_, ?_, ?_, ?_, fun k hk => ⟨?_, ?_⟩, ?_, ?_, ?_, ?_⟩
    · rw [r 7 (by decide) (by decide)]; exact a1
    · rw [r 8 (by decide) (by decide)]; exact a2
    · rw [r 11 (by decide) (by decide)]; exact a3
    · rw [r 12 (by decide) (by decide)]; exact a4
    · rw [r12 k hk]; exact (a5 k hk).1
    · rw [r13 k hk]; exact (a5 k hk).2
    · rw [r 9 (by decide) (by decide)]; exact a6
    · rw [r 10 (by decide) (by decide)]; exact a7
    · rw [r 5 (by decide) (by decide)]; exact a8
    · rw [r 6 (by decide) (by decide)]; exact a9
  · rw [r 6 (by decide) (by decide)]; exact g11.2.1.2
  · have q : ∀ t', t' = 5 ∨ t' = 6 ∨ t' = 7 → S28 t' P i = S11 t' P i := fun t' ht' => by
      rw [f28 t' P i (fun hh => by omega), f13 t' P i (fun hh => by omega), f12 t' P i (fun hh => by omega)]
    exact (hT11 i hi).eqs (q 5 (by simp)) (q 6 (by simp)) (q 7 (by simp))
