/-! the reference: spikes -/
abbrev cmC (g : Gl) (t : Ts) (n i : Nat) : Prop := askT (t i) ∧ dueT g (t i 0) ∧ ¬ midV t (nI i) n = -999999
def cmB (g : Gl) (t : Ts) (n : Nat) : Nat → Bool := fun i => decide (cmC g t n i)
def cmM (g : Gl) (t : Ts) (n m : Nat) : Ts := fun i => if i < m ∧ cmC g t n i then cmpT (midV t (nI i) n) (g 2) (t i) else t i
theorem cmM_same (g : Gl) (t : Ts) (n m i : Nat) : (askT (cmM g t n m i) ↔ askT (t i)) ∧ mended (cmM g t n m i) = mended (t i) ∧ cmM g t n m i 0 = t i 0 ∧ cmM g t n m i 7 = t i 7 := by
  unfold cmM
  by_cases c : i < m ∧ cmC g t n i
  · rw [if_pos c]
    refine ⟨?_, cmpT_m, cmpT_k (by decide), cmpT_k (by decide)⟩
    unfold askT
    rw [cmpT_k (k := 7) (by decide), cmpT_k (k := 6) (by decide)]
  · rw [if_neg c]; exact ⟨Iff.rfl, rfl, rfl, rfl⟩
theorem cmM_wt {g : Gl} {t : Ts} {n m i : Nat} {h : Int} (hw : WT h (t i)) : WT h (cmM g t n m i) := by
  unfold cmM
  split
  · exact hw.cmp
  · exact hw
theorem sx_putF {Q : Mem → Prop} {S : Mem} {i j : Nat} {g : Gl} {t : Ts} {x : Th} {y : Int32} (hi : i < 10) (hj : j < 21) (h : MR S g (setT t i x)) (hq : ∀ S', F1 16 0 0 S S' → MR S' g (setT t i (upd x j y)) → Q S') : vc_X7_put S (nI i) (nI j) y Q := by
  refine sx_put hi hj fun S' e => hq S' (e ▸ F1.uc 16 0 0 S _) ?_
  unfold MR
  rw [e, uc_same]
  refine (RT.sett (x := y) h hi hj).cg (fun _ _ => rfl) (fun i' _ j' _ => ?_)
  show (if i' = i then upd (setT t i x i) j y else setT t i x i') j' = _
  rw [setT_same]
  unfold setT
  by_cases e : i' = i
  · rw [if_pos e, if_pos e]
  · rw [if_neg e, if_neg e, if_neg e]
theorem F1.m {S S' : Mem} (h : F1 16 0 0 S S') : FrM S S' := ⟨fun t P' i' _ b _ _ => h t P' i' (fun hh => b hh.1), fun k _ => by rw [h 15 0 0 (fun hh => absurd hh.1 (by decide))]⟩
theorem nar_b : vp_nar .boolean (0 : Int32) = 0 ∧ vp_nar .boolean (1 : Int32) = 1 := by decide +kernel
theorem cntS_k {g : Gl} {t : Ts} {n : Nat} {c : Nat → Bool} {i : Nat} : cntS g t n c (i + 1) = if c i = true ∧ ¬ iabs (mended (t i) - midV t (nI i) n) ≤ g 2 then cntS g t n c i + 1 else cntS g t n c i := rfl
theorem lx_cmp {Q : Mem → Prop} {K : Mem → Prop} {n : Nat} {g : Gl} {t : Ts} (hn : n ≤ 10) (hg : g 15 = nI n) (hp : ∀ k, k < 4 → ¬ g (4 + k) = 0) (hw : ∀ i, i < n → ∃ h, WT h (t i)) : ∀ (m i : Nat) (S : Mem), i + m = n → MR S (spG g (cntS g t n (cmB g t n) i)) (cmM g t n i) → (∀ k, k < i → S 22 0 0 k = if cmC g t n k then 1 else 0) → (∀ S', FrM S S' → MR S' (spG g (cntS g t n (cmB g t n) n)) (cmM g t n n) → (∀ k, k < n → S' 22 0 0 k = if cmC g t n k then 1 else 0) → K S') → vc_X7_lookForSpikes_L2 Q K (m + 1) S (nI i) := by
  intro m
  induction m with
  | zero =>
    intro i S hi h h22 hK
    have e : i = n := by omega
    subst e
    rw [vc_X7_lookForSpikes_L2]
    exact ⟨vv15, fun _ => hK S (FrM.rf S) h h22, fun c => absurd (ix_ge h ((spG_k (by decide)).trans hg) hn) c⟩
  | succ m ih =>
    intro i S hi h h22 hK
    have hlt : i < n := by omega
    obtain ⟨hh, hwi⟩ := hw i hlt
    have c13 : (13 : Int32).toNatClampNeg = 13 := rfl
    have et : cmM g t n i i = t i := if_neg (by omega)
    have emid : midV (cmM g t n i) (nI i) n = midV t (nI i) n := midV_cg fun k _ => ⟨(cmM_same g t n i k).1, (cmM_same g t n i k).2.1⟩
    have hw' : ∀ k, k < n → ∃ h, WT h (cmM g t n i k) := fun k hk => by
      obtain ⟨h1, h2⟩ := hw k hk
      exact ⟨h1, cmM_wt h2⟩
    obtain ⟨ρ, hρ, eρ⟩ := hwi.1
    rw [vc_X7_lookForSpikes_L2, nI_1]
    refine ⟨vv15, fun c => absurd c (ix_le h ((spG_k (by decide)).trans hg) hlt hn), fun _ => sx_mid hn ((spG_k (by decide)).trans hg) hw' h fun S1 hf1 => ?_⟩
    have h1 := hf1.mr h
    have h22b : ∀ k, k < i → S1 22 0 0 k = if cmC g t n k then 1 else 0 := fun k hk => by rw [hf1.1 22 0 0 (by decide) (by decide)]; exact h22 k hk
    rw [emid]
    have no : ¬ cmC g t n i → vc_X7_compare_J42 (fun S_3 => vc_X7_lookForSpikes_L2 Q K (m + 1) S_3 (nI (i + 1))) (nI i) S1 (midV t (nI i) n) (nI i) := fun hc => by
      unfold vc_X7_compare_J42 vc_X7_compare_J43
      refine ⟨vp_in_nI (by omega) (by decide), fun S6 e6 => ⟨vp_in_nI (by omega) (by decide), fun c => ?_, fun c => ?_⟩⟩
      · rw [e6, uc_same, nI_clamp (by omega), upd_app, if_pos rfl, nar_b.1] at c
        exact absurd rfl c
      · rw [nI_clamp (by omega), nar_b.1] at e6
        have h6 : MR S6 (spG g (cntS g t n (cmB g t n) i)) (cmM g t n i) := by
          unfold MR
          rw [e6, uc_t (by decide)]
          exact h1
        refine ih (i + 1) S6 (by omega) (h6.cg (fun k _ => ?_) (fun k _ j _ => ?_)) (fun k hk => ?_) (fun S' hf => hK S' ((hf1.m.tr (e6 ▸ FrM.uc22 S1 _ : FrM S1 S6)).tr hf))
        · rw [cntS_k, if_neg (fun hh => hc (of_decide_eq_true hh.1))]
        · unfold cmM
          by_cases c1 : k < i ∧ cmC g t n k
          · rw [if_pos c1, if_pos ⟨by omega, c1.2⟩]
          · rw [if_neg c1, if_neg (fun h9 => by
              by_cases e : k = i
              · subst e; exact hc h9.2
              · exact c1 ⟨by omega, h9.2⟩)]
        · rw [e6, uc_same, upd_app]
          by_cases e : k = i
          · rw [if_pos e, e, if_neg hc]
          · rw [if_neg e]; exact h22b k (by omega)
    refine sx_asked (by omega) h1 ⟨fun c => ?_, fun c => ?_⟩
    · refine no (fun hc => ?_)
      rw [et, if_pos hc.1] at c
      exact absurd c (by decide)
    · rw [et] at c
      have ha : askT (t i) := by
        by_cases hh : askT (t i)
        · exact hh
        · rw [if_neg hh] at c; exact absurd rfl c
      refine sx_of (j := 0) (by omega) (by decide) h1 ?_
      rw [et, eρ]
      have hdd : dueT (spG g (cntS g t n (cmB g t n) i)) (nI ρ) ↔ dueT g (nI ρ) := dueT_cg (spG_k (by decide)) (fun k hk => spG_k (by omega)) hρ
      refine sx_due hρ (by rw [spG_k (by omega)]; exact hp ρ hρ) h1 ⟨fun c2 => ?_, fun c2 => ⟨fun c3 => ?_, fun c3 => ?_⟩⟩
      · refine no (fun hc => ?_)
        have := hc.2.1
        rw [eρ] at this
        rw [if_pos (hdd.mpr this)] at c2
        exact absurd c2 (by decide)
      · exact no (fun hc => hc.2.2 c3)
      · have hd : dueT g (nI ρ) := by
          by_cases hh : dueT g (nI ρ)
          · exact hh
          · rw [if_neg (fun h9 => hh (hdd.mp h9))] at c2; exact absurd rfl c2
        have hc : cmC g t n i := ⟨ha, by rw [eρ]; exact hd, c3⟩
        unfold vc_X7_compare_J43
        refine ⟨vp_in_nI (by omega) (by decide), fun S6 e6 => ⟨vp_in_nI (by omega) (by decide), fun _ => ?_, fun c => ?_⟩⟩
        · rw [nI_clamp (by omega), nar_b.2] at e6
          have h6 : MR S6 (spG g (cntS g t n (cmB g t n) i)) (setT (cmM g t n i) i (cmM g t n i i)) := by
            rw [setT_id]
            unfold MR
            rw [e6, uc_t (by decide)]
            exact h1
          have h6b : MR S6 (spG g (cntS g t n (cmB g t n) i)) (cmM g t n i) := by rw [setT_id] at h6; exact h6
          have f6 : FrM S S6 := hf1.m.tr (e6 ▸ FrM.uc22 S1 _ : FrM S1 S6)
          have h22c : ∀ S' : Mem, S' 22 0 0 = S6 22 0 0 → ∀ k, k < i + 1 → S' 22 0 0 k = if cmC g t n k then 1 else 0 := fun S' he k hk => by
            rw [he, e6, uc_same, upd_app]
            by_cases e : k = i
            · rw [if_pos e, e, if_pos hc]
            · rw [if_neg e]; exact h22b k (by omega)
          have stepT : ∀ (x : Th), (∀ j, x j = cmpT (midV t (nI i) n) (g 2) (t i) j) → ∀ k, setT (cmM g t n i) i x k = cmM g t n (i + 1) k := fun x hx k => by
            unfold setT cmM
            by_cases e : k = i
            · subst e
              rw [if_pos rfl, if_pos ⟨by omega, hc⟩]
              exact funext hx
            · rw [if_neg e]
              by_cases c1 : k < i ∧ cmC g t n k
              · rw [if_pos c1, if_pos ⟨by omega, c1.2⟩]
              · rw [if_neg c1, if_neg (fun h9 => c1 ⟨by omega, h9.2⟩)]
          refine sx_mend (h := hh) (by omega) (by rw [et]; exact hwi) h6b (sx_size ⟨vv2, ?_⟩)
          rw [h6b.g2, spG_k (by decide), et]
          rw [et] at h6
          refine ⟨fun c4 => sx_putF (j := 5) (by omega) (by decide) h6 fun S17 f17 h17 => ?_, fun c4 => ⟨vv13, vv13, fun S19 e19 => ?_⟩⟩
          · refine ih (i + 1) S17 (by omega) (h17.cg (fun k _ => ?_) (fun k _ j _ => ?_)) (h22c S17 (f17 22 0 0 (fun hh => absurd hh.1 (by decide)))) (fun S' hf => hK S' ((f6.tr f17.m).tr hf))
            · rw [cntS_k, if_neg (fun hh => hh.2 c4)]
            · rw [stepT _ (fun j => ?_) k]
              unfold cmpT
              rw [if_pos c4]
          · rw [h6b.g13, c13, spG_13] at e19
            have h19 : MR S19 (spG g (cntS g t n (cmB g t n) (i + 1))) (setT (cmM g t n i) i (t i)) := by
              rw [e19]
              refine (h6.setg (k := 13) (by decide)).cg (fun k _ => ?_) (fun _ _ _ _ => rfl)
              rw [upd_app]
              by_cases e : k = 13
              · subst e
                rw [if_pos rfl, spG_13, cntS_k, if_pos ⟨decide_eq_true hc, c4⟩, ← nI_1, Int32.add_assoc]
              · rw [if_neg e, spG_k e, spG_k e]
            have f19 : F1 16 0 0 S6 S19 := e19 ▸ F1.uc 16 0 0 S6 _
            refine sx_ofT (j := 8) (by omega) (by decide) h19 (sx_putF (j := 8) (by omega) (by decide) h19 fun S24 f24 h24 => sx_ofT (j := 5) (by omega) (by decide) h24 (sx_putF (j := 5) (by omega) (by decide) h24 fun S27 f27 h27 => ?_))
            have f9 := (f19.tr f24).tr f27
            refine ih (i + 1) S27 (by omega) (h27.cg (fun k _ => rfl) (fun k _ j _ => ?_)) (h22c S27 (f9 22 0 0 (fun hh => absurd hh.1 (by decide)))) (fun S' hf => hK S' ((f6.tr f9.m).tr hf))
            rw [stepT _ (fun j => ?_) k]
            unfold cmpT
            rw [if_neg c4]
            rfl
        · rw [e6, uc_same, nI_clamp (by omega), upd_app, if_pos rfl, nar_b.2] at c
          exact absurd c (by decide)
