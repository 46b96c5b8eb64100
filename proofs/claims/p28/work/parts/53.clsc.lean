def midS (t : Ts) (ex : Int32) : Nat → (Nat → Int32) × Nat
  | 0 => (fun _ => 0, 0)
  | i + 1 => if ¬ nI i = ex ∧ askT (t i) then (insA (midS t ex i).1 (midS t ex i).2 (mended (t i)), (midS t ex i).2 + 1) else midS t ex i
def midV (t : Ts) (ex : Int32) (n : Nat) : Int32 := if (midS t ex n).2 = 0 then -999999 else (midS t ex n).1 (((midS t ex n).2 - 1) / 2)
theorem midS_le (t : Ts) (ex : Int32) : ∀ i, (midS t ex i).2 ≤ i
  | 0 => Nat.le_refl 0
  | i + 1 => by
    have := midS_le t ex i
    rw [midS]
    split <;> simp <;> omega
theorem lp_mid {Q : Mem → Int32 → Prop} {K : Mem → Prop} {P n : Nat} {g : Gl} {t : Ts} {ex : Int32} (hP : P < 11) : ∀ (m i : Nat) (S : Mem), i + m = n → PR S P g t n → S 0 P 0 1 = nI (midS t ex i).2 → (∀ k, k < (midS t ex i).2 → S 8 P 0 k = (midS t ex i).1 k) → (∀ S', F08 P S S' → S' 0 P 0 1 = nI (midS t ex n).2 → (∀ k, k < (midS t ex n).2 → S' 8 P 0 k = (midS t ex n).1 k) → K S') → vc_X3_middleWithout_L9 Q K P ex (m + 1) S (nI i) := by
  intro m
  induction m with
  | zero =>
    intro i S hi h h1 h2 hK
    have e : i = n := by omega
    subst e
    rw [vc_X3_middleWithout_L9]
    exact ⟨fun _ => hK S (F08.rf P S) h1 h2, fun c => absurd (lp_ge h.2.1.2 h.2.1.1) c⟩
  | succ m ih =>
    intro i S hi h h1 h2 hK
    have hn := h.2.1.1
    have hlt : i < n := by omega
    have hTi := h.2.2 i hlt
    have hle := midS_le t ex i
    rw [vc_X3_middleWithout_L9]
    unfold vc_X3_middleWithout_J48
    rw [nI_1]
    refine ⟨fun c => absurd c (lp_le h.2.1.2 i hlt hn), fun _ => ⟨fun c => ?_, fun c => sp_at (by omega) ⟨⟨hP, by omega⟩, sp_isAsked hTi ⟨fun c2 => ?_, fun c2 => ?_⟩⟩⟩⟩
    · have e : midS t ex (i + 1) = midS t ex i := by rw [midS, if_neg (fun hh => hh.1 c)]
      exact ih (i + 1) S (by omega) h (by rw [e]; exact h1) (by rw [e]; exact h2) hK
    · have ha : ¬ askT (t i) := fun hh => by rw [if_pos hh] at c2; exact absurd c2 (by decide)
      have e : midS t ex (i + 1) = midS t ex i := by rw [midS, if_neg (fun hh => ha hh.2)]
      exact ih (i + 1) S (by omega) h (by rw [e]; exact h1) (by rw [e]; exact h2) hK
    · have ha : askT (t i) := by
        by_cases hh : askT (t i)
        · exact hh
        · rw [if_neg hh] at c2; exact absurd rfl c2
      have e : midS t ex (i + 1) = (insA (midS t ex i).1 (midS t ex i).2 (mended (t i)), (midS t ex i).2 + 1) := by rw [midS, if_pos ⟨c, ha⟩]
      refine sp_at (by omega) ⟨⟨hP, by omega⟩, sp_insert (m := (midS t ex i).2) (by omega) h1 fun S' e8 e0 hf => ?_⟩
      refine ih (i + 1) S' (by omega) (h.f08 hf) (by rw [e]; exact e0) (fun k hk => ?_) (fun S'' hf2 => hK S'' (hf.tr hf2))
      rw [e] at hk ⊢
      rw [e8, hTi.2.2.2.2.2.2.2.2.2.1]
      exact insA_eq h2 k hk
theorem sp_mid {Q : Mem → Int32 → Prop} {S : Mem} {P n : Nat} {g : Gl} {t : Ts} {ex : Int32} (hP : P < 11) (h : PR S P g t n) (hq : ∀ S', F08 P S S' → Q S' (midV t ex n)) : vc_X3_middleWithout S P ex Q := by
  intro S1 e1
  have hf1 : F08 P S S1 := e1 ▸ F08.uc (Or.inl rfl) S _
  refine ⟨n + 1, lp_mid hP n 0 S1 (by omega) (h.f08 hf1) (by rw [e1, uc_same, upd_app, if_pos rfl]; rfl) (fun k hk => absurd hk (Nat.not_lt_zero k)) fun S' hf e0 e8 => ?_⟩
  have hq := hq S' (hf1.tr hf)
  have hle := midS_le t ex n
  have hn := h.2.1.1
  generalize hm : (midS t ex n).2 = mm at *
  unfold midV at hq
  rw [hm] at hq
  refine ⟨by decide, ?_, ?_⟩
  · intro c
    rw [e0] at c
    have : mm = 0 := by
      rcases Nat.eq_zero_or_pos mm with h | h
      · exact h
      · exact absurd c (nI_nle h (by omega))
    rw [if_pos this] at hq
    exact hq
  · intro c
    have hpos : 0 < mm := by
      rcases Nat.eq_zero_or_pos mm with h | h
      · exact absurd (by rw [e0, h]; decide) c
      · exact h
    rw [if_neg (by omega)] at hq
    have ed : (S' 0 P 0 1 - (1 : Int32)) / (2 : Int32) = nI ((mm - 1) / 2) := by
      rw [e0, show nI mm - (1 : Int32) = nI (mm - 1) from pk_sub (a := mm) (b := 1) hpos]
      exact pk_div (a := mm - 1) (d := 2) (by omega) (by omega) (by omega)
    rw [ed]
    refine ⟨fun c2 => absurd c2 (show ¬ nI 10 ≤ nI ((mm - 1) / 2) from nI_ge (by omega) (by decide)), fun _ => ⟨vp_in_nI (by omega) (by decide), ?_⟩⟩
    rw [nI_clamp (by omega), e8 _ (by omega)]
    exact hq
/-! what writes a thermometer -/
def F5 (P i : Nat) (S S' : Mem) : Prop := ∀ t P' i', ¬ ((t = 5 ∨ t = 6 ∨ t = 7) ∧ P' = P ∧ i' = i) → S' t P' i' = S t P' i'
theorem F5.rf (P i : Nat) (S : Mem) : F5 P i S S := fun _ _ _ _ => rfl
theorem F5.tr {P i : Nat} {S S' S'' : Mem} (h : F5 P i S S') (h2 : F5 P i S' S'') : F5 P i S S'' := fun t P' i' hn => (h2 t P' i' hn).trans (h t P' i' hn)
theorem F5.uc {P t i : Nat} (ht : t = 5 ∨ t = 6 ∨ t = 7) (S : Mem) (f : Nat → Int32) : F5 P i S (uc S t P i f) := fun t' P' i' hn => uc_ne fun h => hn ⟨by rw [h.1]; exact ht, h.2⟩
theorem F5.P {P i : Nat} {S S' : Mem} (h : F5 P i S S') : FrP P S S' := fun t P' i' hn => h t P' i' fun hh => hn ⟨by rcases hh.1 with e | e | e <;> simp [e], hh.2.1⟩
/-- one thermometer is another now -/
theorem PR.one {S S' : Mem} {P n i : Nat} {g : Gl} {t : Ts} {ti : Th} (h : PR S P g t n) (hf : F5 P i S S') (hT : TR S' P i ti) : PR S' P g (fun k => if k = i then ti else t k) n := by
  obtain ⟨hg, hs, hTs⟩ := h
  have e3 : S' 3 P 0 = S 3 P 0 := hf _ _ _ (by simp)
  refine ⟨?_, by rw [e3]; exact hs, fun k hk => ?_⟩
  · unfold GR at hg ⊢
    rw [e3, hf 12 P 0 (by simp), hf 13 P 0 (by simp)]
    exact hg
  · show TR S' P k (if k = i then ti else t k)
    by_cases e : k = i
    · subst e
      rw [if_pos rfl]; exact hT
    · rw [if_neg e]
      exact (hTs k hk).eqs (hf _ _ _ (by simp [e])) (hf _ _ _ (by simp [e])) (hf _ _ _ (by simp [e]))
def folT (x : Int32) (t : Th) : Th := upd t 4 (t 4 + (x + t 2 - t 4) / t 1)
theorem mendB_upd {t : Th} {k : Nat} {x lag : Int32} (h : k ≠ 2 ∧ k ≠ 7 ∧ k ≠ 9 ∧ k ≠ 10 ∧ k ≠ 11 ∧ k ≠ 12) : mendB (upd t k x) lag = mendB t lag := by
  have e2 : upd t k x 2 = t 2 := if_neg (Ne.symm h.1)
  have e7 : upd t k x 7 = t 7 := if_neg (Ne.symm h.2.1)
  have e9 : upd t k x 9 = t 9 := if_neg (Ne.symm h.2.2.1)
  have e10 : upd t k x 10 = t 10 := if_neg (Ne.symm h.2.2.2.1)
  have e11 : upd t k x 11 = t 11 := if_neg (Ne.symm h.2.2.2.2.1)
  have e12 : upd t k x 12 = t 12 := if_neg (Ne.symm h.2.2.2.2.2)
  unfold mendB
  rw [e2, e7, e9, e10, e11, e12]
theorem lag_ne {h : Int} {t : Th} (hw : WT h t) : ¬ t 1 = 0 := fun e => by
  have := hw.2.1.1
  rw [e] at this
  exact absurd this (by decide)
theorem sp_follow {Q : Mem → Prop} {S : Mem} {P i : Nat} {t : Th} {x : Int32} (hl : ¬ t 1 = 0) (h : TR S P i t) (hq : ∀ S', F5 P i S S' → TR S' P i (folT x t) → Q S') : vc_X5_follow S P i x Q := by
  obtain ⟨h5, h3, h4, h6, h7, h8, h10, h2, h9, h11, hr⟩ := h
  unfold vc_X5_follow vc_X5_stepFrom
  rw [h4, h3, h7]
  refine sp_quot hl fun S3 e3 => hq S3 (e3 ▸ F5.uc (Or.inl rfl) S _) ?_
  subst e3
  unfold TR folT mended
  rw [mendB_upd (by decide)]
  simp only [uc_same, upd_app, uc_t (show (6 : Nat) ≠ 5 by decide), uc_t (show (7 : Nat) ≠ 5 by decide)]
  refine ⟨h5, h3, h4, h6, rfl, h8, h10, h2, h9, h11, fun κ hκ hκ6 k hk => ?_⟩
  have := hr κ hκ hκ6 k hk
  rw [if_neg (by omega), if_neg (by omega)]
  exact this
