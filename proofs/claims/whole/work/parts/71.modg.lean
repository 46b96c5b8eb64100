/-! the reference: shutting out; the same as the system's -/
def outM (g : Gl) (t0 t : Ts) (n m : Nat) : Ts := fun i => if i < m ∧ cmC g t0 n i then outT (g 3) (t i) else t i
theorem lx_shut {Q : Mem → Prop} {K : Mem → Prop} {n : Nat} {g g' : Gl} {t0 t : Ts} (hn : n ≤ 10) (hg : g' 15 = nI n) (h3 : g' 3 = g 3) : ∀ (m i : Nat) (S : Mem), i + m = n → MR S g' (outM g t0 t n i) → (∀ k, k < n → S 22 0 0 k = if cmC g t0 n k then 1 else 0) → (∀ S', FrM S S' → MR S' g' (outM g t0 t n n) → K S') → vc_X7_lookForSpikes_L26 Q K (m + 1) S (nI i) := by
  intro m
  induction m with
  | zero =>
    intro i S hi h h22 hK
    have e : i = n := by omega
    subst e
    rw [vc_X7_lookForSpikes_L26]
    exact ⟨vv15, fun _ => hK S (FrM.rf S) h, fun c => absurd (ix_ge h hg hn) c⟩
  | succ m ih =>
    intro i S hi h h22 hK
    have hlt : i < n := by omega
    have et : outM g t0 t n i i = t i := if_neg (by omega)
    rw [vc_X7_lookForSpikes_L26]
    unfold vc_X7_lookForSpikes_J69
    rw [nI_1, nI_clamp (by omega), h22 i hlt]
    refine ⟨vv15, fun c => absurd c (ix_le h hg hlt hn), fun _ => ⟨vp_in_nI (by omega) (by decide), fun c => ?_, fun c => sx_of (j := 5) (by omega) (by decide) h ⟨vv3, ?_⟩⟩⟩
    · have hc : ¬ cmC g t0 n i := fun hh => by rw [if_pos hh] at c; exact absurd c (by decide)
      refine ih (i + 1) S (by omega) (h.cg (fun _ _ => rfl) (fun k _ j _ => ?_)) h22 hK
      unfold outM
      by_cases c1 : k < i ∧ cmC g t0 n k
      · rw [if_pos c1, if_pos ⟨by omega, c1.2⟩]
      · rw [if_neg c1, if_neg (fun h9 => by
          by_cases e : k = i
          · subst e; exact hc h9.2
          · exact c1 ⟨by omega, h9.2⟩)]
    · have hc : cmC g t0 n i := by
        by_cases hh : cmC g t0 n i
        · exact hh
        · rw [if_neg hh] at c; exact absurd rfl c
      have stepT : ∀ k, setT (outM g t0 t n i) i (outT (g 3) (t i)) k = outM g t0 t n (i + 1) k := fun k => by
        unfold setT outM
        by_cases e : k = i
        · subst e
          rw [if_pos rfl, if_pos ⟨by omega, hc⟩]
        · rw [if_neg e]
          by_cases c1 : k < i ∧ cmC g t0 n k
          · rw [if_pos c1, if_pos ⟨by omega, c1.2⟩]
          · rw [if_neg c1, if_neg (fun h9 => c1 ⟨by omega, h9.2⟩)]
      rw [h.g3, et, h3]
      have h6 : MR S g' (setT (outM g t0 t n i) i (t i)) := by
        have := h
        rw [← setT_id (outM g t0 t n i) i, et] at this
        exact this
      refine ⟨fun c2 => ?_, fun c2 => sx_putF (j := 6) (by omega) (by decide) h6 fun S13 f13 h13 => ?_⟩
      · refine ih (i + 1) S (by omega) (h6.cg (fun _ _ => rfl) (fun k _ j _ => ?_)) h22 hK
        rw [← stepT k]
        unfold outT
        rw [if_pos c2]
      · refine ih (i + 1) S13 (by omega) (h13.cg (fun _ _ => rfl) (fun k _ j _ => ?_)) (fun k hk => by rw [f13 22 0 0 (fun hh => absurd hh.1 (by decide))]; exact h22 k hk) (fun S' hf => hK S' (f13.m.tr hf))
        rw [← stepT k]
        unfold outT
        rw [if_neg c2]
theorem sx_look0 {Q : Mem → Prop} {S : Mem} {n : Nat} {g : Gl} {t : Ts} (hn : n ≤ 10) (hg : g 15 = nI n) (hp : ∀ k, k < 4 → ¬ g (4 + k) = 0) (hw : ∀ i, i < n → ∃ h, WT h (t i)) (h : MR S g t) (hq : ∀ S', FrM S S' → MR S' (spG g (cntS g t n (cmB g t n) n)) (outM g t (cmM g t n n) n n) → Q S') : vc_X7_lookForSpikes S Q := by
  unfold vc_X7_lookForSpikes
  rw [nI_lit0]
  refine ⟨n + 1, lx_cmp hn hg hp hw n 0 S (by omega) (h.cg (fun k _ => ?_) (fun k _ j _ => ?_)) (fun k hk => absurd hk (by omega)) fun S1 f1 h1 h22 => ⟨n + 1, lx_shut (g := g) (t0 := t) (t := cmM g t n n) hn ((spG_k (by decide)).trans hg) (spG_k (by decide)) n 0 S1 (by omega) (h1.cg (fun _ _ => rfl) (fun k _ j _ => ?_)) h22 fun S2 f2 h2 => hq S2 (f1.tr f2) h2⟩⟩
  · by_cases e : k = 13
    · subst e
      rw [spG_13]
      exact (Int32.add_zero _).symm
    · exact (spG_k e).symm
  · exact congrFun (show t k = cmM g t n 0 k from (if_neg (by omega)).symm) j
  · exact congrFun (show cmM g t n n k = outM g t (cmM g t n n) n 0 k from (if_neg (by omega)).symm) j
/-- what is mended lies in bounds -/
theorem mendB_rng {h : Int} {t : Th} {lag : Int32} (hw : WT h t) (hl : 1 ≤ lag.toInt ∧ lag.toInt ≤ 9) (h7 : ¬ t 7 = 0) : -340200 ≤ (mendB t lag).toInt ∧ (mendB t lag).toInt ≤ 340200 := by
  obtain ⟨c0, c1, c2, c3, c4, c6, κ, d1, d2, d3, d4⟩ := hw
  have k0 : 0 < κ := by
    rcases Nat.eq_zero_or_pos κ with e | e
    · rw [e] at d2; exact absurd d2 h7
    · exact e
  have a0 := (d3 0 k0).1
  have a0' : -20000 ≤ (t 10).toInt ∧ (t 10).toInt ≤ 20000 := a0
  unfold mendB
  rw [if_neg h7]
  by_cases c : 1 < t 7
  · rw [if_pos c]
    have k1 : 1 < κ := by
      rw [d2] at c
      exact (nI_ltI (by omega) (by omega)).mp (show nI 1 < nI κ from c)
    have a1 : -20000 ≤ (t 12).toInt ∧ (t 12).toInt ≤ 20000 := (d3 1 k1).1
    have hd : (t 11).toInt < (t 9).toInt := d4 0 k1
    have b0 : 0 ≤ (t 9).toInt := (d3 0 k0).2.1
    have b1 : 0 ≤ (t 11).toInt := (d3 1 k1).2.1
    have r9 := i_rng (t 9)
    have r11 := i_rng (t 11)
    have one : (1 : Int32).toInt = 1 := rfl
    have e1 : (t 10 - t 12).toInt = (t 10).toInt - (t 12).toInt := i_sub (by omega) (by omega)
    have e2 : (lag - 1).toInt = lag.toInt - 1 := by rw [i_sub (by omega) (by omega), one]
    have m1 : -320000 ≤ ((t 10).toInt - (t 12).toInt) * (lag.toInt - 1) ∧ ((t 10).toInt - (t 12).toInt) * (lag.toInt - 1) ≤ 320000 := by
      have q : lag.toInt = 1 ∨ lag.toInt = 2 ∨ lag.toInt = 3 ∨ lag.toInt = 4 ∨ lag.toInt = 5 ∨ lag.toInt = 6 ∨ lag.toInt = 7 ∨ lag.toInt = 8 ∨ lag.toInt = 9 := by omega
      rcases q with q | q | q | q | q | q | q | q | q <;> rw [q] <;> omega
    have e3 : ((t 10 - t 12) * (lag - 1)).toInt = ((t 10).toInt - (t 12).toInt) * (lag.toInt - 1) := by rw [i_mul (by rw [e1, e2]; omega) (by rw [e1, e2]; omega), e1, e2]
    have e4 : (t 9 - t 11).toInt = (t 9).toInt - (t 11).toInt := i_sub (by omega) (by omega)
    have e5 : ((t 10 - t 12) * (lag - 1) / (t 9 - t 11)).toInt = (((t 10).toInt - (t 12).toInt) * (lag.toInt - 1)).tdiv ((t 9).toInt - (t 11).toInt) := by rw [i_div (by omega), e3, e4]
    have hb := tdiv_between (a := ((t 10).toInt - (t 12).toInt) * (lag.toInt - 1)) (b := (t 9).toInt - (t 11).toInt) (by omega)
    have hb2 : -320000 ≤ (((t 10).toInt - (t 12).toInt) * (lag.toInt - 1)).tdiv ((t 9).toInt - (t 11).toInt) ∧ (((t 10).toInt - (t 12).toInt) * (lag.toInt - 1)).tdiv ((t 9).toInt - (t 11).toInt) ≤ 320000 := by
      generalize ((t 10).toInt - (t 12).toInt) * (lag.toInt - 1) = X at *
      rcases Int.le_total 0 X with hc | hc
      · have := hb.1 hc; omega
      · have := hb.2 hc; omega
    have e6 : (t 10 + (t 10 - t 12) * (lag - 1) / (t 9 - t 11)).toInt = (t 10).toInt + (((t 10).toInt - (t 12).toInt) * (lag.toInt - 1)).tdiv ((t 9).toInt - (t 11).toInt) := by rw [i_add (by rw [e5]; omega) (by rw [e5]; omega), e5]
    rw [i_sub (by rw [e6]; omega) (by rw [e6]; omega), e6]
    omega
  · rw [if_neg c]
    rw [i_sub (by omega) (by omega)]
    omega
theorem insA_all {p : Int32 → Prop} : ∀ (m : Nat) (z : Nat → Int32) (x : Int32) (N : Nat), m ≤ N → (∀ k, k < N → k ≠ m → p (z k)) → (∀ k, m < k → k < N + 1 → p (z k)) → p x → (∀ k, k < m → p (z k)) → ∀ k, k < N + 1 → p (insA z m x k)
  | 0, z, x, N, hm, h1, h2, hx, _, k, hk => by
    rw [insA, upd_app]
    by_cases e : k = 0
    · rw [if_pos e]; exact hx
    · rw [if_neg e]; exact h2 k (by omega) hk
  | m + 1, z, x, N, hm, h1, h2, hx, h3, k, hk => by
    rw [insA]
    by_cases c : z m ≤ x
    · rw [if_pos c, upd_app]
      by_cases e : k = m + 1
      · rw [if_pos e]; exact hx
      · rw [if_neg e]
        by_cases e2 : k < m + 1
        · exact h3 k e2
        · exact h2 k (by omega) hk
    · rw [if_neg c]
      refine insA_all m _ x N (by omega) (fun k' hk' hne => ?_) (fun k' hk' hk2 => ?_) hx (fun k' hk' => ?_) k hk
      · rw [upd_app]
        by_cases e : k' = m + 1
        · rw [if_pos e]; exact h3 m (by omega)
        · rw [if_neg e]; exact h1 k' hk' e
      · rw [upd_app]
        by_cases e : k' = m + 1
        · rw [if_pos e]; exact h3 m (by omega)
        · rw [if_neg e]; exact h2 k' (by omega) hk2
      · rw [upd_app, if_neg (by omega)]; exact h3 k' (by omega)
theorem midS_all {p : Int32 → Prop} {t : Ts} {ex : Int32} {n : Nat} (h : ∀ i, i < n → askT (t i) → p (mended (t i))) : ∀ i, i ≤ n → ∀ k, k < (midS t ex i).2 → p ((midS t ex i).1 k)
  | 0, _, k, hk => absurd hk (Nat.not_lt_zero k)
  | i + 1, hi, k, hk => by
    have ih := midS_all (ex := ex) h i (by omega)
    by_cases c : ¬ nI i = ex ∧ askT (t i)
    · have e : midS t ex (i + 1) = (insA (midS t ex i).1 (midS t ex i).2 (mended (t i)), (midS t ex i).2 + 1) := by rw [midS, if_pos c]
      rw [e] at hk ⊢
      exact insA_all _ _ _ (midS t ex i).2 (Nat.le_refl _) (fun k' hk' _ => ih k' hk') (fun k' h1 h2 => absurd h1 (by omega)) (h i (by omega) c.2) ih k hk
    · have e : midS t ex (i + 1) = midS t ex i := by rw [midS, if_neg c]
      rw [e] at hk ⊢
      exact ih k hk
