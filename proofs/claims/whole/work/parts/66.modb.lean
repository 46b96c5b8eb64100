/-! the reference: middle -/
def FrS (S S' : Mem) : Prop := (∀ t P' i', t ≠ 15 → t ≠ 21 → S' t P' i' = S t P' i') ∧ ∀ k, k ≠ 8 → S' 15 0 0 k = S 15 0 0 k
theorem FrS.rf (S : Mem) : FrS S S := ⟨fun _ _ _ _ _ => rfl, fun _ _ => rfl⟩
theorem FrS.tr {S S' S'' : Mem} (h : FrS S S') (h2 : FrS S' S'') : FrS S S'' := ⟨fun t P' i' a b => (h2.1 t P' i' a b).trans (h.1 t P' i' a b), fun k hk => (h2.2 k hk).trans (h.2 k hk)⟩
theorem FrS.uc21 (S : Mem) (f : Nat → Int32) : FrS S (uc S 21 0 0 f) := ⟨fun _ _ _ _ h => uc_t h, fun k _ => by rw [uc_t (by decide)]⟩
theorem FrS.uc15 (S : Mem) (x : Int32) : FrS S (uc S 15 0 0 (upd (S 15 0 0) 8 x)) := ⟨fun _ _ _ h _ => uc_t h, fun k hk => by rw [uc_same, upd_app, if_neg hk]⟩
theorem FrS.mr {S S' : Mem} {g : Gl} {t : Ts} (hf : FrS S S') (h : MR S g t) : MR S' g t := by
  unfold MR
  rw [hf.1 16 0 0 (by decide) (by decide)]
  exact h
theorem lx_ins {Q : Mem → Prop} {x : Int32} {K : Mem → Int32 → Prop} : ∀ (m : Nat) (S : Mem), m < 10 → (∀ (S' : Mem) (j : Nat), j ≤ m → upd (S' 21 0 0) j x = insA (S 21 0 0) m x → FrS S S' → S' 15 0 0 = S 15 0 0 → K S' (nI j)) → vc_X7_sortIn_L5 Q K x (m + 1) S (nI m)
  | 0, S, hm, hK => by
    rw [vc_X7_sortIn_L5]
    exact ⟨fun _ => hK S 0 (Nat.le_refl 0) rfl (FrS.rf S) rfl, fun c => absurd (show nI 0 ≤ 0 from by decide) c⟩
  | m + 1, S, hm, hK => by
    rw [vc_X7_sortIn_L5, nI_m1, nI_clamp (show m < 2 ^ 31 by omega), nI_clamp (show m + 1 < 2 ^ 31 by omega)]
    refine ⟨fun c => absurd c (nI_nle (by omega) (by omega)), fun _ => ⟨vp_in_nI (by omega) (by decide), fun c => ?_, fun c => ⟨vp_in_nI (by omega) (by decide), vp_in_nI (by omega) (by decide), fun S6 e6 => ?_⟩⟩⟩
    · exact hK S (m + 1) (Nat.le_refl _) (by rw [insA, if_pos c]) (FrS.rf S) rfl
    · rw [pk_m1]
      refine lx_ins m S6 (by omega) fun S' j hj hu hf h0 => ?_
      have e8 : S6 21 0 0 = upd (S 21 0 0) (m + 1) (S 21 0 0 m) := by rw [e6, uc_same]
      have hf6 : FrS S S6 := by rw [e6]; exact FrS.uc21 S _
      refine hK S' j (by omega) ?_ (hf6.tr hf) ?_
      · rw [hu, e8, insA, if_neg c]
      · rw [h0, e6, uc_t (by decide)]
theorem sx_sort {Q : Mem → Prop} {S : Mem} {m : Nat} {x : Int32} (hm : m < 10) (h : S 15 0 0 8 = nI m) (hq : ∀ S', S' 21 0 0 = insA (S 21 0 0) m x → S' 15 0 0 8 = nI (m + 1) → FrS S S' → Q S') : vc_X7_sortIn S x Q := by
  unfold vc_X7_sortIn
  rw [h]
  refine ⟨m + 1, lx_ins m S hm fun S' j hj hu hf h0 => ?_⟩
  refine ⟨vp_in_nI (by omega) (by decide), fun S11 e11 S14 e14 => ?_⟩
  rw [nI_clamp (by omega)] at e11
  refine hq S14 ?_ ?_ (hf.tr ((e11 ▸ FrS.uc21 S' _ : FrS S' S11).tr (e14 ▸ FrS.uc15 S11 _)))
  · rw [e14, uc_t (by decide), e11, uc_same, hu]
  · rw [e14, uc_same, upd_app, if_pos rfl, e11, uc_t (by decide), h0, h, nI_1]
theorem lx_mid {Q : Mem → Int32 → Prop} {K : Mem → Prop} {n : Nat} {g : Gl} {t : Ts} {ex : Int32} (hn : n ≤ 10) (hg : g 15 = nI n) (hw : ∀ i, i < n → ∃ h, WT h (t i)) : ∀ (m i : Nat) (S : Mem), i + m = n → MR S g t → S 15 0 0 8 = nI (midS t ex i).2 → (∀ k, k < (midS t ex i).2 → S 21 0 0 k = (midS t ex i).1 k) → (∀ S', FrS S S' → S' 15 0 0 8 = nI (midS t ex n).2 → (∀ k, k < (midS t ex n).2 → S' 21 0 0 k = (midS t ex n).1 k) → K S') → vc_X7_middleWithout_L7 Q K ex (m + 1) S (nI i) := by
  intro m
  induction m with
  | zero =>
    intro i S hi h h1 h2 hK
    have e : i = n := by omega
    subst e
    rw [vc_X7_middleWithout_L7]
    exact ⟨vv15, fun _ => hK S (FrS.rf S) h1 h2, fun c => absurd (ix_ge h hg hn) c⟩
  | succ m ih =>
    intro i S hi h h1 h2 hK
    have hlt : i < n := by omega
    have hle := midS_le t ex i
    obtain ⟨hh0, hwi⟩ := hw i hlt
    rw [vc_X7_middleWithout_L7]
    unfold vc_X7_middleWithout_J40
    rw [nI_1]
    refine ⟨vv15, fun c => absurd c (ix_le h hg hlt hn), fun _ => ⟨fun c => ?_, fun c => sx_asked (by omega) h ⟨fun c2 => ?_, fun c2 => ?_⟩⟩⟩
    · have e : midS t ex (i + 1) = midS t ex i := by rw [midS, if_neg (fun hh => hh.1 c)]
      exact ih (i + 1) S (by omega) h (by rw [e]; exact h1) (by rw [e]; exact h2) hK
    · have ha : ¬ askT (t i) := fun hh => by rw [if_pos hh] at c2; exact absurd c2 (by decide)
      have e : midS t ex (i + 1) = midS t ex i := by rw [midS, if_neg (fun hh => ha hh.2)]
      exact ih (i + 1) S (by omega) h (by rw [e]; exact h1) (by rw [e]; exact h2) hK
    · have ha : askT (t i) := by
        by_cases hh : askT (t i)
        · exact hh
        · rw [if_neg hh] at c2; exact absurd rfl c2
      have e : midS t ex (i + 1) = (insA (midS t ex i).1 (midS t ex i).2 (mended (t i)), (midS t ex i).2 + 1) := by rw [midS, if_pos ⟨c, ha⟩]
      refine sx_mend (by omega) hwi h (sx_sort (m := (midS t ex i).2) (by omega) h1 fun S' e8 e0 hf => ?_)
      refine ih (i + 1) S' (by omega) (hf.mr h) (by rw [e]; exact e0) (fun k hk => ?_) (fun S'' hf2 => hK S'' (hf.tr hf2))
      rw [e] at hk ⊢
      rw [e8]
      exact insA_eq h2 k hk
theorem sx_mid {Q : Mem → Int32 → Prop} {S : Mem} {n : Nat} {g : Gl} {t : Ts} {ex : Int32} (hn : n ≤ 10) (hg : g 15 = nI n) (hw : ∀ i, i < n → ∃ h, WT h (t i)) (h : MR S g t) (hq : ∀ S', FrS S S' → Q S' (midV t ex n)) : vc_X7_middleWithout S ex Q := by
  intro S1 e1
  have hf1 : FrS S S1 := e1 ▸ FrS.uc15 S _
  refine ⟨n + 1, lx_mid hn hg hw n 0 S1 (by omega) (hf1.mr h) (by rw [e1, uc_same, upd_app, if_pos rfl]; rfl) (fun k hk => absurd hk (Nat.not_lt_zero k)) fun S' hf e0 e8 => ?_⟩
  have hq := hq S' (hf1.tr hf)
  have hle := midS_le t ex n
  generalize hm : (midS t ex n).2 = mm at *
  unfold midV at hq
  rw [hm] at hq
  refine ⟨?_, ?_⟩
  · intro c
    have hpos : 0 < mm := by
      rcases Nat.eq_zero_or_pos mm with h | h
      · exact absurd (by rw [e0, h]; decide) c
      · exact h
    rw [if_neg (by omega)] at hq
    have ed : (S' 15 0 0 8 - (1 : Int32)) / (2 : Int32) = nI ((mm - 1) / 2) := by
      rw [e0, show nI mm - (1 : Int32) = nI (mm - 1) from pk_sub (a := mm) (b := 1) hpos]
      exact pk_div (a := mm - 1) (d := 2) (by omega) (by omega) (by omega)
    rw [ed]
    refine ⟨by decide, vp_in_nI (by omega) (by decide), ?_⟩
    rw [nI_clamp (by omega), e8 _ (by omega)]
    exact hq
  · intro c
    rw [e0] at c
    have : mm = 0 := (nI_eq0 (by omega)).mp c
    rw [if_pos this] at hq
    exact hq
