/-! the reference: undo, keep, go back -/
theorem lx_undo {Q : Mem → Int32 → Prop} {K : Mem → Prop} {f r : Nat → Int32} {k : Nat} (hk : k < 6) : ∀ (m y : Nat) (S : Mem), y + m = 226 → S 15 0 0 2 = nI k → S 17 0 0 = f → (∀ p, S 16 0 0 p = if p < y then f (226 * k + p) else r p) → (∀ S', F1 16 0 0 S S' → (∀ p, p < 226 → S' 16 0 0 p = f (226 * k + p)) → K S') → vc_X7_undo_L30 Q K (m + 1) S (nI y) := by
  intro m
  induction m with
  | zero =>
    intro y S hi h2 hf h hK
    have e : y = 226 := by omega
    subst e
    rw [vc_X7_undo_L30]
    exact ⟨fun _ => hK S (F1.rf _ _ _ S) (fun p hp => by rw [h p, if_pos hp]), fun c => absurd (show nI 226 ≤ nI 226 from nI_le (Nat.le_refl _) (by omega)) c⟩
  | succ m ih =>
    intro y S hi h2 hf h hK
    rw [vc_X7_undo_L30, nI_1, h2, m_off (by omega) (by omega), nI_clamp (show y < 2 ^ 31 by omega), nI_clamp (show 226 * k + y < 2 ^ 31 by omega), hf]
    refine ⟨fun c => absurd (show nI 226 ≤ nI y from c) (nI_ge (by omega) (by omega)), fun _ => ⟨vp_in_nI (by omega) (by decide), vp_in_nI (by omega) (by decide), fun S8 e => ih (y + 1) S8 (by omega) (by rw [e, uc_t (by decide)]; exact h2) (by rw [e, uc_t (by decide)]; exact hf) (fun p => ?_) (fun S' hf' => hK S' ((e ▸ F1.uc 16 0 0 S _ : F1 16 0 0 S S8).tr hf'))⟩⟩
    rw [e, uc_same, upd_app]
    by_cases c : p = y
    · rw [if_pos c, if_pos (by omega), c]
    · rw [if_neg c, h p]
      by_cases c2 : p < y
      · rw [if_pos c2, if_pos (by omega)]
      · rw [if_neg c2, if_neg (by omega)]
theorem lx_keep {Q : Mem → Int32 → Prop} {K : Mem → Prop} {f r : Nat → Int32} {k : Nat} (hk : k < 2) : ∀ (m y : Nat) (S : Mem), y + m = 226 → S 16 0 0 = r → (∀ p, S 18 0 0 p = if 226 * k ≤ p ∧ p < 226 * k + y then r (p - 226 * k) else f p) → (∀ S', F1 18 0 0 S S' → (∀ p, S' 18 0 0 p = if 226 * k ≤ p ∧ p < 226 * k + 226 then r (p - 226 * k) else f p) → K S') → vc_X7_keep_L22 Q K (nI k) (m + 1) S (nI y) := by
  intro m
  induction m with
  | zero =>
    intro y S hi hr h hK
    have e : y = 226 := by omega
    subst e
    rw [vc_X7_keep_L22]
    exact ⟨fun _ => hK S (F1.rf _ _ _ S) h, fun c => absurd (show nI 226 ≤ nI 226 from nI_le (Nat.le_refl _) (by omega)) c⟩
  | succ m ih =>
    intro y S hi hr h hK
    rw [vc_X7_keep_L22, nI_1, m_off (by omega) (by omega), nI_clamp (show y < 2 ^ 31 by omega), nI_clamp (show 226 * k + y < 2 ^ 31 by omega), hr]
    refine ⟨fun c => absurd (show nI 226 ≤ nI y from c) (nI_ge (by omega) (by omega)), fun _ => ⟨vp_in_nI (by omega) (by decide), vp_in_nI (by omega) (by decide), fun S4 e => ih (y + 1) S4 (by omega) (by rw [e, uc_t (by decide)]; exact hr) (fun p => ?_) (fun S' hf => hK S' ((e ▸ F1.uc 18 0 0 S _ : F1 18 0 0 S S4).tr hf))⟩⟩
    rw [e, uc_same, upd_app]
    by_cases c : p = 226 * k + y
    · rw [if_pos c, if_pos (by omega), c]
      congr 1
      omega
    · rw [if_neg c, h p]
      by_cases c2 : 226 * k ≤ p ∧ p < 226 * k + y
      · rw [if_pos c2, if_pos (by omega)]
      · rw [if_neg c2, if_neg (by omega)]
theorem lx_back {Q : Mem → Int32 → Prop} {K : Mem → Prop} {f r : Nat → Int32} {k : Nat} (hk : k < 2) : ∀ (m y : Nat) (S : Mem), y + m = 226 → S 18 0 0 = f → (∀ p, S 16 0 0 p = if p < y then f (226 * k + p) else r p) → (∀ S', F1 16 0 0 S S' → (∀ p, p < 226 → S' 16 0 0 p = f (226 * k + p)) → K S') → vc_X7_goBack_L41 Q K (nI k) (m + 1) S (nI y) := by
  intro m
  induction m with
  | zero =>
    intro y S hi hf h hK
    have e : y = 226 := by omega
    subst e
    rw [vc_X7_goBack_L41]
    exact ⟨fun _ => hK S (F1.rf _ _ _ S) (fun p hp => by rw [h p, if_pos hp]), fun c => absurd (show nI 226 ≤ nI 226 from nI_le (Nat.le_refl _) (by omega)) c⟩
  | succ m ih =>
    intro y S hi hf h hK
    rw [vc_X7_goBack_L41, nI_1, m_off (by omega) (by omega), nI_clamp (show y < 2 ^ 31 by omega), nI_clamp (show 226 * k + y < 2 ^ 31 by omega), hf]
    refine ⟨fun c => absurd (show nI 226 ≤ nI y from c) (nI_ge (by omega) (by omega)), fun _ => ⟨vp_in_nI (by omega) (by decide), vp_in_nI (by omega) (by decide), fun S8 e => ih (y + 1) S8 (by omega) (by rw [e, uc_t (by decide)]; exact hf) (fun p => ?_) (fun S' hf' => hK S' ((e ▸ F1.uc 16 0 0 S _ : F1 16 0 0 S S8).tr hf'))⟩⟩
    rw [e, uc_same, upd_app]
    by_cases c : p = y
    · rw [if_pos c, if_pos (by omega), c]
    · rw [if_neg c, h p]
      by_cases c2 : p < y
      · rw [if_pos c2, if_pos (by omega)]
      · rw [if_neg c2, if_neg (by omega)]
