def F1 (t P i : Nat) (S S' : Mem) : Prop := ∀ t' P' i', ¬ (t' = t ∧ P' = P ∧ i' = i) → S' t' P' i' = S t' P' i'
theorem F1.rf (t P i : Nat) (S : Mem) : F1 t P i S S := fun _ _ _ _ => rfl
theorem F1.tr {t P i : Nat} {S S' S'' : Mem} (h : F1 t P i S S') (h2 : F1 t P i S' S'') : F1 t P i S S'' := fun t' P' i' hn => (h2 t' P' i' hn).trans (h t' P' i' hn)
theorem F1.uc (t P i : Nat) (S : Mem) (f : Nat → Int32) : F1 t P i S (uc S t P i f) := fun _ _ _ hn => uc_ne hn
theorem F1.five {t P i : Nat} {S S' : Mem} (h : F1 t P i S S') (ht : t = 5 ∨ t = 6 ∨ t = 7) : F5 P i S S' := fun t' P' i' hn => h t' P' i' fun hh => hn ⟨by rw [hh.1]; exact ht, hh.2⟩
theorem lp_put {Q : Mem → Prop} {K : Mem → Prop} {t P i n : Nat} {x : Int32} (hn : n < 100) : ∀ (m : Nat) (S : Mem), m < n → (∀ S', (∀ k, S' t P i k = if 1 ≤ k ∧ k ≤ m then S t P i (k - 1) else S t P i k) → F1 t P i S S' → K S') → vc_X6_putFirst_L5 Q K t P i n x (m + 1) S (nI m)
  | 0, S, hm, hK => by
    rw [vc_X6_putFirst_L5]
    exact ⟨fun _ => hK S (fun k => by rw [if_neg (by omega)]) (F1.rf t P i S), fun c => absurd (show nI 0 ≤ 0 from by decide) c⟩
  | m + 1, S, hm, hK => by
    rw [vc_X6_putFirst_L5, nI_m1, nI_clamp (show m < 2 ^ 31 by omega), nI_clamp (show m + 1 < 2 ^ 31 by omega)]
    refine ⟨fun c => absurd c (nI_nle (by omega) (by omega)), fun _ => ⟨vp_in_nI (by omega) (by omega), vp_in_nI (by omega) (by omega), fun S3 e3 => ?_⟩⟩
    rw [pk_m1]
    refine lp_put hn m S3 (by omega) fun S' hS' hf => hK S' (fun k => ?_) ((e3 ▸ F1.uc t P i S _ : F1 t P i S S3).tr hf)
    have e : ∀ k, S3 t P i k = if k = m + 1 then S t P i m else S t P i k := fun k => by rw [e3, uc_same]; rfl
    rw [hS' k, e, e]
    by_cases h1 : 1 ≤ k ∧ k ≤ m
    · rw [if_pos h1, if_neg (by omega), if_pos (by omega)]
    · rw [if_neg h1]
      by_cases h2 : k = m + 1
      · rw [if_pos h2, if_pos (by omega), h2]; rfl
      · rw [if_neg h2, if_neg (by omega)]
theorem sp_put {Q : Mem → Prop} {S : Mem} {t P i n : Nat} {x : Int32} (h0 : 0 < n) (hn : n < 100) (hq : ∀ S', (∀ k, k < n → S' t P i k = if k = 0 then x else S t P i (k - 1)) → F1 t P i S S' → Q S') : vc_X6_putFirst S t P i n x Q := by
  refine ⟨n - 1 + 1, ?_⟩
  rw [show nI n - (1 : Int32) = nI (n - 1) from pk_sub (a := n) (b := 1) h0]
  refine lp_put hn (n - 1) S (by omega) fun S' hS' hf => ⟨fun c => absurd c (nI_nle h0 (by omega)), fun _ => ⟨by rw [nI_lit0]; exact vp_in_nI h0 (by omega), fun S8 e8 => hq S8 (fun k hk => ?_) (hf.tr (e8 ▸ F1.uc t P i S' _))⟩⟩
  rw [e8, uc_same, upd_app, sb_cl0]
  by_cases e : k = 0
  · rw [if_pos e, if_pos e]
  · rw [if_neg e, if_neg e, hS' k, if_pos (by omega)]
theorem sp_mendW {Q : Mem → Int32 → Prop} {S : Mem} {P i κ : Nat} {t : Th} {lag : Int32} (h2 : S 5 P i 2 = t 7) (h4 : S 5 P i 4 = t 2) (h7 : t 7 = nI κ) (hκ : κ ≤ 6) (hr : ∀ k, k < κ → S 6 P i k = t (9 + 2 * k) ∧ S 7 P i k = t (10 + 2 * k)) (hne : 1 < κ → ¬ t 9 - t 11 = 0) (hq : Q S (mendB t lag)) : vc_X5_mendedWith S P i lag Q := by
  unfold vc_X5_mendedWith
  unfold mendB at hq
  rw [h2]
  refine ⟨fun c => ?_, fun c => ?_⟩
  · rw [if_neg c] at hq
    have hpos : 0 < κ := by
      rcases Nat.eq_zero_or_pos κ with h | h
      · exact absurd (by rw [h7, h]; rfl) c
      · exact h
    have r0 := hr 0 hpos
    rw [nI_lit0]
    refine sp_entry (by omega) (by omega) ⟨fun c2 => ?_, fun c2 => ?_⟩
    · rw [h2] at c2
      have h1 : 1 < κ := by
        rcases Nat.lt_or_ge 1 κ with h | h
        · exact h
        · exact absurd (by rw [h7, show κ = 1 by omega]; rfl) c2
      have r1 := hr 1 h1
      rw [if_pos (by rw [h7]; exact (show nI 1 < nI κ from nI_lt h1 (by omega)))] at hq
      rw [nI_lit1]
      refine sp_entry (by omega) (by omega) (sp_entry (by omega) (by omega) (sp_entry (by omega) (by omega) ?_))
      rw [r0.1, r0.2, r1.1, r1.2]
      refine sp_quot (hne h1) ?_
      rw [h4]
      exact hq
    · rw [h2, h7] at c2
      have h1 : κ = 1 := nI_inj (by omega) (by omega) c2
      rw [if_neg (by rw [h7, h1]; decide)] at hq
      rw [r0.2, h4]
      exact hq
  · rw [if_pos c] at hq
    exact hq
def readT (h : Int32) (t : Th) : Th := fun k => if k = 9 then h else if k = 10 then t 4 else if 11 ≤ k ∧ k < 21 then t (k - 2) else if k = 7 then (if t 7 < 6 then t 7 + 1 else 6) else t k
theorem readT_7 {h : Int32} {t : Th} {κ : Nat} (h7 : t 7 = nI κ) (hκ : κ ≤ 6) : readT h t 7 = nI (if κ < 6 then κ + 1 else 6) := by
  show (if t 7 < 6 then t 7 + 1 else 6) = _
  rw [h7]
  by_cases c : κ < 6
  · rw [if_pos c, if_pos (show nI κ < (6 : Int32) from (show nI κ < nI 6 from nI_lt c (by decide))), nI_1]
  · rw [if_neg c, if_neg (show ¬ nI κ < (6 : Int32) from (show ¬ nI κ < nI 6 from nI_nlt (by omega) (by omega)))]; rfl
/-- the hours of two readings that stand one behind the other differ -/
theorem sub_ne {x y : Int32} (h : y.toInt < x.toInt) : ¬ x - y = 0 := fun e => by
  have : x = y := by
    have := congrArg (· + y) e
    simpa using this
  rw [this] at h
  omega
theorem sp_take {Q : Mem → Prop} {S : Mem} {P i κ : Nat} {t : Th} {x : Int32} (h : TR S P i t) (h7 : t 7 = nI κ) (hκ : κ ≤ 6) (hx : 0 < κ → (t 9).toInt < x.toInt) (hq : ∀ S', F5 P i S S' → TR S' P i (readT x t) → Q S') : vc_X5_takeReading S P i x Q := by
  obtain ⟨h5, h3, h4, h6, h7', h8, h10, h2, h9, h11, hr⟩ := h
  refine sp_put (by decide) (by decide) fun S1 a1 f1 => sp_put (by decide) (by decide) fun S2 a2 f2 S3 e3 => ?_
  have hr := hr κ h7 hκ
  have g1 : S1 5 P i = S 5 P i := f1 _ _ _ (by simp)
  have g2 : S2 5 P i = S 5 P i := (f2 _ _ _ (by simp)).trans g1
  have b6 : S3 6 P i = S1 6 P i := by rw [e3, uc_t (by decide)]; exact f2 _ _ _ (by simp)
  have b7 : S3 7 P i = S2 7 P i := by rw [e3, uc_t (by decide)]
  have b5 : S3 5 P i = upd (S 5 P i) 2 (imin (S 5 P i 2 + 1) 6) := by rw [e3, uc_same, g2]
  have k7 := readT_7 (h := x) h7 hκ
  have k2 : S3 5 P i 2 = readT x t 7 := by
    rw [b5, k7, upd_app, if_pos rfl, h2, h7, nI_1]
    unfold imin
    by_cases c : κ < 6
    · rw [if_pos c, if_neg (show ¬ (6 : Int32) < nI (κ + 1) from (show ¬ nI 6 < nI (κ + 1) from nI_nlt (by omega) (by omega)))]
    · rw [if_neg c, if_pos (show (6 : Int32) < nI (κ + 1) from (show nI 6 < nI (κ + 1) from nI_lt (by omega) (by omega)))]; rfl
  have k4 : S3 5 P i 4 = readT x t 2 := by rw [b5]; exact h4
  have hr' : ∀ k, k < (if κ < 6 then κ + 1 else 6) → S3 6 P i k = readT x t (9 + 2 * k) ∧ S3 7 P i k = readT x t (10 + 2 * k) := by
    intro k hk
    have hk6 : k < 6 := by split at hk <;> omega
    rw [b6, b7, a1 k hk6, a2 k hk6, g1, h7']
    by_cases e : k = 0
    · subst e
      exact ⟨rfl, rfl⟩
    · rw [if_neg e, if_neg e]
      have hkk : k - 1 < κ := by split at hk <;> omega
      have r := hr (k - 1) hkk
      have f7 : S1 7 P i = S 7 P i := f1 _ _ _ (by simp)
      rw [f7, r.1, r.2]
      unfold readT
      rw [if_neg (by omega), if_neg (by omega), if_pos (by omega), if_neg (by omega), if_neg (by omega), if_pos (by omega)]
      exact ⟨congrArg t (by omega), congrArg t (by omega)⟩
  have hlag : S3 5 P i 3 = readT x t 1 := by rw [b5]; exact h3
  refine sp_mendW (t := readT x t) k2 k4 k7 (by split <;> omega) hr' (fun h1 => ?_) fun S7 e7 => hq S7 ?_ ?_
  · have h0 : 0 < κ := by split at h1 <;> omega
    exact sub_ne (hx h0)
  · exact ((f1.five (Or.inr (Or.inl rfl))).tr (f2.five (Or.inr (Or.inr rfl)))).tr ((e3 ▸ F5.uc (Or.inl rfl) S2 _ : F5 P i S2 S3).tr (e7 ▸ F5.uc (Or.inl rfl) S3 _))
  · subst e7
    unfold TR mended
    simp only [uc_same, upd_app, uc_t (show (6 : Nat) ≠ 5 by decide), uc_t (show (7 : Nat) ≠ 5 by decide), if_pos, reduceIte, Nat.reduceEqDiff]
    refine ⟨by rw [b5]; exact h5, hlag, k4, by rw [b5]; exact h6, by rw [b5]; exact h7', by rw [b5]; exact h8, by rw [b5]; exact h10, k2, by rw [b5]; exact h9, by rw [hlag], fun κ2 e2 hk2 k hk => ?_⟩
    rw [k7] at e2
    have := nI_inj (by split <;> omega) (by omega) e2
    exact hr' k (by omega)
