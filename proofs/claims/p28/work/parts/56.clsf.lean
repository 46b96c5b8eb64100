/-! spikes -/
abbrev askR (g : Gl) (t : Th) : Prop := askT t ∧ t 9 = g 0
theorem sp_askR {S : Mem} {P i κ : Nat} {g : Gl} {t : Th} {Q : Mem → Int32 → Prop} (h : TR S P i t) (h7 : t 7 = nI κ) (hκ : κ ≤ 6) (hq : Q S (if askR g t then 1 else 0)) : vc_X5_isAskedAndReadIn S P i (g 0) Q := by
  refine sp_isAsked h ⟨fun c => ?_, fun c => ?_⟩
  · have ha : ¬ askT t := fun hh => by rw [if_pos hh] at c; exact absurd c (by decide)
    rw [if_neg (fun hh : askR g t => ha hh.1)] at hq
    exact hq
  · have ha : askT t := by
      by_cases hh : askT t
      · exact hh
      · rw [if_neg hh] at c; exact absurd rfl c
    have hpos : 0 < κ := by
      have := ha.1
      rw [h7] at this
      exact (nI_lt0 (by omega)).mp this
    have r := (h.2.2.2.2.2.2.2.2.2.2 κ h7 hκ 0 hpos).1
    unfold vc_X5_hourAgo
    rw [h.2.2.2.2.2.2.2.1, h7]
    refine ⟨fun c2 => absurd c2 (nI_nle hpos (by omega)), fun _ => ?_⟩
    rw [nI_lit0]
    refine sp_entry (by omega) (by omega) ⟨fun c2 => ?_, fun c2 => ?_⟩
    · rw [r] at c2
      rw [if_neg (fun hh : askR g t => c2 hh.2)] at hq
      exact hq
    · rw [r] at c2
      rw [if_pos (show askR g t from ⟨ha, c2⟩)] at hq
      exact hq
def cmpT (mid diff : Int32) (t : Th) : Th := if iabs (mended t - mid) ≤ diff then upd t 5 0 else upd (upd t 8 (t 8 + 1)) 5 (t 5 + 1)
theorem cmpT_k {mid diff : Int32} {t : Th} {k : Nat} (h : k ≠ 5 ∧ k ≠ 8) : cmpT mid diff t k = t k := by
  unfold cmpT
  split
  · exact if_neg h.1
  · rw [upd_app, if_neg h.1]; exact if_neg h.2
theorem mendB_k {t t' : Th} {lag : Int32} (h : t' 2 = t 2 ∧ t' 7 = t 7 ∧ t' 9 = t 9 ∧ t' 10 = t 10 ∧ t' 11 = t 11 ∧ t' 12 = t 12) : mendB t' lag = mendB t lag := by
  unfold mendB
  rw [h.1, h.2.1, h.2.2.1, h.2.2.2.1, h.2.2.2.2.1, h.2.2.2.2.2]
theorem cmpT_m {mid diff : Int32} {t : Th} : mended (cmpT mid diff t) = mended t := by
  unfold mended
  rw [cmpT_k (k := 1) (by decide)]
  exact mendB_k ⟨cmpT_k (by decide), cmpT_k (by decide), cmpT_k (by decide), cmpT_k (by decide), cmpT_k (by decide), cmpT_k (by decide)⟩
theorem sp_cmp {Q : Mem → Prop} {S : Mem} {P i : Nat} {t : Th} {mid diff : Int32} (h : TR S P i t) (hq : ∀ S', F5 P i S S' → TR S' P i (cmpT mid diff t) → Q S') : vc_X5_compareWith S P i mid diff Q := by
  have hm := cmpT_m (mid := mid) (diff := diff) (t := t)
  obtain ⟨h5, h3, h4, h6, h7, h8, h10, h2, h9, h11, hr⟩ := h
  unfold vc_X5_compareWith
  rw [h11]
  refine ⟨fun c S2 e2 => hq S2 (e2 ▸ F5.uc (Or.inl rfl) S _) ?_, fun c S4 e4 S6 e6 => hq S6 ((e4 ▸ F5.uc (Or.inl rfl) S _ : F5 P i S S4).tr (e6 ▸ F5.uc (Or.inl rfl) S4 _)) ?_⟩
  · unfold TR
    rw [hm]
    unfold cmpT
    rw [if_pos c, e2]
    simp only [uc_same, upd_app, uc_t (show (6 : Nat) ≠ 5 by decide), uc_t (show (7 : Nat) ≠ 5 by decide), Nat.reduceEqDiff, reduceIte]
    refine ⟨h5, h3, h4, h6, h7, trivial, h10, h2, h9, h11, fun κ hκ hκ6 k hk => ?_⟩
    have := hr κ hκ hκ6 k hk
    rw [if_neg (by omega), if_neg (by omega)]
    exact this
  · unfold TR
    rw [hm]
    unfold cmpT
    rw [if_neg c, e6, e4]
    simp only [uc_same, upd_app, uc_t (show (6 : Nat) ≠ 5 by decide), uc_t (show (7 : Nat) ≠ 5 by decide), Nat.reduceEqDiff, reduceIte]
    refine ⟨h5, h3, h4, h6, h7, by rw [h8], h10, h2, by rw [h9], h11, fun κ hκ hκ6 k hk => ?_⟩
    have := hr κ hκ hκ6 k hk
    rw [if_neg (by omega), if_neg (by omega), if_neg (by omega), if_neg (by omega)]
    exact this
theorem midS_cg {t t' : Ts} {ex : Int32} {n : Nat} (h : ∀ i, i < n → (askT (t i) ↔ askT (t' i)) ∧ mended (t i) = mended (t' i)) : ∀ i, i ≤ n → midS t ex i = midS t' ex i
  | 0, _ => rfl
  | i + 1, hi => by
    have e := midS_cg (ex := ex) h i (by omega)
    have hi2 := h i (by omega)
    rw [midS, midS, e, hi2.2]
    by_cases c : ¬ nI i = ex ∧ askT (t i)
    · rw [if_pos c, if_pos ⟨c.1, hi2.1.mp c.2⟩]
    · rw [if_neg c, if_neg (fun hh => c ⟨hh.1, hi2.1.mpr hh.2⟩)]
theorem midV_cg {t t' : Ts} {ex : Int32} {n : Nat} (h : ∀ i, i < n → (askT (t i) ↔ askT (t' i)) ∧ mended (t i) = mended (t' i)) : midV t ex n = midV t' ex n := by
  unfold midV
  rw [midS_cg h n (Nat.le_refl n)]
/-- the first m are compared -/
def cmpA (g : Gl) (t : Ts) (n m : Nat) : Ts := fun i => if i < m ∧ askR g (t i) then cmpT (midV t (nI i) n) (g 2) (t i) else t i
def isSp (g : Gl) (t : Ts) (n i : Nat) : Prop := ¬ iabs (mended (t i) - midV t (nI i) n) ≤ g 2
def cntS (g : Gl) (t : Ts) (n : Nat) (c : Nat → Bool) : Nat → Nat
  | 0 => 0
  | i + 1 => if c i = true ∧ ¬ iabs (mended (t i) - midV t (nI i) n) ≤ g 2 then cntS g t n c i + 1 else cntS g t n c i
def spG (g : Gl) (x : Nat) : Gl := upd g 13 (g 13 + nI x)
theorem spG_k {g : Gl} {x k : Nat} (h : k ≠ 13) : spG g x k = g k := by unfold spG; rw [upd_app, if_neg h]
theorem spG_13 {g : Gl} {x : Nat} : spG g x 13 = g 13 + nI x := by unfold spG; rw [upd_app, if_pos rfl]
theorem cmpA_same (g : Gl) (t : Ts) (n m i : Nat) : (askT (cmpA g t n m i) ↔ askT (t i)) ∧ mended (cmpA g t n m i) = mended (t i) ∧ cmpA g t n m i 9 = t i 9 ∧ cmpA g t n m i 7 = t i 7 := by
  unfold cmpA
  by_cases c : i < m ∧ askR g (t i)
  · rw [if_pos c]
    refine ⟨?_, cmpT_m, cmpT_k (by decide), cmpT_k (by decide)⟩
    unfold askT
    rw [cmpT_k (k := 7) (by decide), cmpT_k (k := 6) (by decide)]
  · rw [if_neg c]; exact ⟨Iff.rfl, rfl, rfl, rfl⟩
abbrev cA (g : Gl) (t : Ts) : Nat → Bool := fun i => decide (askR g (t i))
theorem lp_cmp {Q : Mem → Prop} {K : Mem → Prop} {P n : Nat} {g : Gl} {t : Ts} (hP : P < 11) (hw : ∀ i, i < n → ∃ κ, κ ≤ 6 ∧ t i 7 = nI κ) : ∀ (m i : Nat) (S : Mem), i + m = n → PR S P (spG g (cntS g t n (cA g t) i)) (cmpA g t n i) n → (∀ S', FrP P S S' → PR S' P (spG g (cntS g t n (cA g t) n)) (cmpA g t n n) n → K S') → vc_X3_lookForSpikes_L14 Q K P (m + 1) S (nI i) := by
  intro m
  induction m with
  | zero =>
    intro i S hi h hK
    have e : i = n := by omega
    subst e
    rw [vc_X3_lookForSpikes_L14]
    exact ⟨fun _ => hK S (FrP.rf P S) h, fun c => absurd (lp_ge h.2.1.2 h.2.1.1) c⟩
  | succ m ih =>
    intro i S hi h hK
    have hn := h.2.1.1
    have hlt : i < n := by omega
    have hTi := h.2.2 i hlt
    obtain ⟨κ, hκ, eκ⟩ := hw i hlt
    have et : cmpA g t n i i = t i := if_neg (by omega)
    rw [et] at hTi
    have e0 : S 3 P 0 7 = g 0 := h.1.1.trans (spG_k (by decide))
    have e2 : S 3 P 0 11 = g 2 := h.1.2.2.1.trans (spG_k (by decide))
    rw [vc_X3_lookForSpikes_L14]
    unfold vc_X3_lookForSpikes_J42
    rw [nI_1]
    refine ⟨fun c => absurd c (lp_le h.2.1.2 i hlt hn), fun _ => sp_at (by omega) ⟨⟨hP, by omega⟩, ?_⟩⟩
    rw [e0]
    refine sp_askR (g := g) hTi eκ hκ ⟨fun c => ?_, fun c => ?_⟩
    · have ha : ¬ askR g (t i) := fun hh => by rw [if_pos hh] at c; exact absurd c (by decide)
      refine ih (i + 1) S (by omega) (h.cg (fun k hk => ?_) (fun k hk => ?_)) hK
      · rw [cntS, if_neg (fun hh => ha (of_decide_eq_true hh.1))]
      · unfold cmpA
        by_cases c1 : k < i ∧ askR g (t k)
        · rw [if_pos c1, if_pos ⟨by omega, c1.2⟩]
        · rw [if_neg c1, if_neg (fun h9 => by
            by_cases e : k = i
            · subst e; exact ha h9.2
            · exact c1 ⟨by omega, h9.2⟩)]
    · have ha : askR g (t i) := by
        by_cases hh : askR g (t i)
        · exact hh
        · rw [if_neg hh] at c; exact absurd rfl c
      unfold vc_X3_compareWithOthers
      refine sp_at (by omega) ⟨⟨hP, by omega⟩, sp_at (by omega) (sp_mid hP h fun S8 hf8 => ⟨⟨hP, by omega⟩, ?_⟩)⟩
      have h8 := h.f08 hf8
      have hT8 := h8.2.2 i hlt
      rw [et] at hT8
      have emid : midV (cmpA g t n i) (nI i) n = midV t (nI i) n := midV_cg fun k _ => ⟨(cmpA_same g t n i k).1, (cmpA_same g t n i k).2.1⟩
      have e28 : S8 3 P 0 11 = g 2 := h8.1.2.2.1.trans (spG_k (by decide))
      have e9 : S 5 P i 9 = t i 8 := hTi.2.2.2.2.2.2.2.2.1
      rw [emid, e28, e9]
      refine sp_cmp hT8 fun S11 hf11 hT11 => sp_at (by omega) ⟨⟨hP, by omega⟩, fun S16 e16 => ?_⟩
      have h11 := h8.one hf11 hT11
      refine ih (i + 1) S16 (by omega) ?_ (fun S' hf => hK S' (((hf8.P).tr (hf11.P.tr (e16 ▸ FrP.uc (by simp) S11 _ : FrP P S11 S16))).tr hf))
      have e13 : S11 3 P 0 10 = g 13 + nI (cntS g t n (cA g t) i) := h11.1.2.2.2.2.2.2.1
      have e99 : S11 5 P i 9 = cmpT (midV t (nI i) n) (g 2) (t i) 8 := hT11.2.2.2.2.2.2.2.2.1
      rw [e16, e13, e99]
      refine (h11.set3 _ (spG g (cntS g t n (cA g t) (i + 1))) ?_ (fun k h4 h12 => (spG_k (by omega)).trans (spG_k (by omega)).symm) (by rw [upd_app, if_neg (by decide)])).cg (fun _ _ => rfl) (fun k hk => ?_)
      · obtain ⟨a1, a2, a3, a4, a5, a6, a7, a8, a9⟩ := h11.1
        simp only [upd_app, Nat.reduceEqDiff, reduceIte]
        refine ⟨a1, a2, a3, a4, a6, ?_, a8, a9⟩
        show g 13 + nI (cntS g t n (cA g t) i) + (cmpT (midV t (nI i) n) (g 2) (t i) 8 - t i 8) = g 13 + nI (cntS g t n (cA g t) (i + 1))
        unfold cmpT
        rw [cntS]
        by_cases cc : iabs (mended (t i) - midV t (nI i) n) ≤ g 2
        · rw [if_pos cc, if_neg (fun hh => hh.2 cc)]
          show _ + (t i 8 - t i 8) = _
          rw [Int32.sub_self, Int32.add_zero]
        · rw [if_neg cc, if_pos ⟨decide_eq_true ha, cc⟩]
          show _ + (t i 8 + 1 - t i 8) = _
          rw [show t i 8 + 1 - t i 8 = 1 by rw [Int32.add_comm, Int32.add_sub_cancel], Int32.add_assoc, nI_1]
      · show (if k = i then cmpT (midV t (nI i) n) (g 2) (t i) else cmpA g t n i k) = cmpA g t n (i + 1) k
        unfold cmpA
        by_cases e : k = i
        · subst e
          rw [if_pos rfl, if_pos ⟨by omega, ha⟩]
        · rw [if_neg e]
          by_cases c1 : k < i ∧ askR g (t k)
          · rw [if_pos c1, if_pos ⟨by omega, c1.2⟩]
          · rw [if_neg c1, if_neg (fun h9 => c1 ⟨by omega, h9.2⟩)]
def outT (s : Int32) (t : Th) : Th := if t 5 < s then t else upd t 6 1
theorem outT_k {s : Int32} {t : Th} {k : Nat} (h : k ≠ 6) : outT s t k = t k := by
  unfold outT
  split
  · rfl
  · exact if_neg h
theorem outT_m {s : Int32} {t : Th} : mended (outT s t) = mended t := by
  unfold mended
  rw [outT_k (k := 1) (by decide)]
  exact mendB_k ⟨outT_k (by decide), outT_k (by decide), outT_k (by decide), outT_k (by decide), outT_k (by decide), outT_k (by decide)⟩
theorem sp_shut {Q : Mem → Prop} {S : Mem} {P i : Nat} {t : Th} {s : Int32} (h : TR S P i t) (hq : ∀ S', F5 P i S S' → TR S' P i (outT s t) → Q S') : vc_X5_shutOutFrom S P i s Q := by
  have hm := outT_m (s := s) (t := t)
  have h8 := h.2.2.2.2.2.1
  unfold vc_X5_shutOutFrom
  rw [h8]
  refine ⟨fun c => hq S (F5.rf P i S) ?_, fun c S2 e2 => hq S2 (e2 ▸ F5.uc (Or.inl rfl) S _) ?_⟩
  · unfold outT; rw [if_pos c]; exact h
  · obtain ⟨h5, h3, h4, h6, h7, h8, h10, h2, h9, h11, hr⟩ := h
    unfold TR
    rw [hm]
    unfold outT
    rw [if_neg c, e2]
    simp only [uc_same, upd_app, uc_t (show (6 : Nat) ≠ 5 by decide), uc_t (show (7 : Nat) ≠ 5 by decide), Nat.reduceEqDiff, reduceIte]
    refine ⟨h5, h3, h4, h6, h7, h8, trivial, h2, h9, h11, fun κ hκ hκ6 k hk => ?_⟩
    have := hr κ hκ hκ6 k hk
    rw [if_neg (by omega), if_neg (by omega)]
    exact this
def outA (g : Gl) (t : Ts) (m : Nat) : Ts := fun i => if i < m ∧ askR g (t i) then outT (g 3) (t i) else t i
theorem lp_shut {Q : Mem → Prop} {K : Mem → Prop} {P n : Nat} {g : Gl} {t : Ts} (hP : P < 11) (hw : ∀ i, i < n → ∃ κ, κ ≤ 6 ∧ t i 7 = nI κ) : ∀ (m i : Nat) (S : Mem), i + m = n → PR S P g (outA g t i) n → (∀ S', FrP P S S' → PR S' P g (outA g t n) n → K S') → vc_X3_lookForSpikes_L50 Q K P (m + 1) S (nI i) := by
  intro m
  induction m with
  | zero =>
    intro i S hi h hK
    have e : i = n := by omega
    subst e
    rw [vc_X3_lookForSpikes_L50]
    exact ⟨fun _ => hK S (FrP.rf P S) h, fun c => absurd (lp_ge h.2.1.2 h.2.1.1) c⟩
  | succ m ih =>
    intro i S hi h hK
    have hn := h.2.1.1
    have hlt : i < n := by omega
    have hTi := h.2.2 i hlt
    obtain ⟨κ, hκ, eκ⟩ := hw i hlt
    have et : outA g t i i = t i := if_neg (by omega)
    rw [et] at hTi
    have e0 : S 3 P 0 7 = g 0 := h.1.1
    have e3 : S 3 P 0 12 = g 3 := h.1.2.2.2.1
    rw [vc_X3_lookForSpikes_L50]
    unfold vc_X3_lookForSpikes_J85
    rw [nI_1]
    refine ⟨fun c => absurd c (lp_le h.2.1.2 i hlt hn), fun _ => sp_at (by omega) ⟨⟨hP, by omega⟩, ?_⟩⟩
    rw [e0]
    refine sp_askR (g := g) hTi eκ hκ ⟨fun c => ?_, fun c => ?_⟩
    · have ha : ¬ askR g (t i) := fun hh => by rw [if_pos hh] at c; exact absurd c (by decide)
      refine ih (i + 1) S (by omega) (h.cg (fun k hk => rfl) (fun k hk => ?_)) hK
      unfold outA
      by_cases c1 : k < i ∧ askR g (t k)
      · rw [if_pos c1, if_pos ⟨by omega, c1.2⟩]
      · rw [if_neg c1, if_neg (fun h9 => by
          by_cases e : k = i
          · subst e; exact ha h9.2
          · exact c1 ⟨by omega, h9.2⟩)]
    · have ha : askR g (t i) := by
        by_cases hh : askR g (t i)
        · exact hh
        · rw [if_neg hh] at c; exact absurd rfl c
      refine sp_at (by omega) ⟨⟨hP, by omega⟩, ?_⟩
      rw [e3]
      refine sp_shut hTi fun S28 hf hT28 => ?_
      refine ih (i + 1) S28 (by omega) ((h.one hf hT28).cg (fun _ _ => rfl) (fun k hk => ?_)) (fun S' hf2 => hK S' (hf.P.tr hf2))
      show (if k = i then outT (g 3) (t i) else outA g t i k) = outA g t (i + 1) k
      unfold outA
      by_cases e : k = i
      · subst e
        rw [if_pos rfl, if_pos ⟨by omega, ha⟩]
      · rw [if_neg e]
        by_cases c1 : k < i ∧ askR g (t k)
        · rw [if_pos c1, if_pos ⟨by omega, c1.2⟩]
        · rw [if_neg c1, if_neg (fun h9 => c1 ⟨by omega, h9.2⟩)]
