/-! the reference: saved rows -/
theorem m_off {k y : Nat} (hk : k < 100) (hy : y < 10000) : (226 : Int32) * nI k + nI y = nI (226 * k + y) := by
  have e1 : ((226 : Int32) * nI k).toInt = 226 * (k : Int) := by
    rw [i_mul (by rw [nI_toInt (by omega), show (226 : Int32).toInt = 226 from rfl]; omega) (by rw [nI_toInt (by omega), show (226 : Int32).toInt = 226 from rfl]; omega), nI_toInt (by omega), show (226 : Int32).toInt = 226 from rfl]
  refine i_eq.mpr ?_
  rw [i_add (by rw [e1, nI_toInt (by omega)]; omega) (by rw [e1, nI_toInt (by omega)]; omega), e1, nI_toInt (by omega), nI_toInt (by omega)]
  omega
theorem nI_addl {a b : Nat} (h : a + b < 2 ^ 31) : nI a + nI b = nI (a + b) := by
  refine i_eq.mpr ?_
  rw [i_add (by rw [nI_toInt (by omega), nI_toInt (by omega)]; omega) (by rw [nI_toInt (by omega), nI_toInt (by omega)]; omega), nI_toInt (by omega), nI_toInt (by omega), nI_toInt (by omega)]
  omega
def FrV (S S' : Mem) : Prop := (∀ t P' i', t ≠ 15 → t ≠ 17 → S' t P' i' = S t P' i') ∧ ∀ k, k ≠ 2 → S' 15 0 0 k = S 15 0 0 k
theorem FrV.rf (S : Mem) : FrV S S := ⟨fun _ _ _ _ _ => rfl, fun _ _ => rfl⟩
theorem FrV.tr {S S' S'' : Mem} (h : FrV S S') (h2 : FrV S' S'') : FrV S S'' := ⟨fun t P' i' a b => (h2.1 t P' i' a b).trans (h.1 t P' i' a b), fun k hk => (h2.2 k hk).trans (h.2 k hk)⟩
theorem FrV.uc17 (S : Mem) (f : Nat → Int32) : FrV S (uc S 17 0 0 f) := ⟨fun _ _ _ _ h => uc_t h, fun k _ => by rw [uc_t (by decide)]⟩
theorem FrV.uc15 (S : Mem) (x : Int32) : FrV S (uc S 15 0 0 (upd (S 15 0 0) 2 x)) := ⟨fun _ _ _ h _ => uc_t h, fun k hk => by rw [uc_same, upd_app, if_neg hk]⟩
theorem lx_shift {Q : Mem → Prop} {K : Mem → Prop} {f : Nat → Int32} : ∀ (m y : Nat) (S : Mem), y + m = 1130 → (∀ p, S 17 0 0 p = if p < y then f (p + 226) else f p) → (∀ S', F1 17 0 0 S S' → (∀ p, S' 17 0 0 p = if p < 1130 then f (p + 226) else f p) → K S') → vc_X7_save_L11 Q K (m + 1) S (nI y) := by
  intro m
  induction m with
  | zero =>
    intro y S hi h hK
    have e : y = 1130 := by omega
    subst e
    rw [vc_X7_save_L11]
    exact ⟨fun _ => hK S (F1.rf _ _ _ S) h, fun c => absurd (show nI 1130 ≤ nI 1130 from nI_le (Nat.le_refl _) (by omega)) c⟩
  | succ m ih =>
    intro y S hi h hK
    rw [vc_X7_save_L11, nI_1, show nI y + (226 : Int32) = nI (y + 226) from nI_addl (a := y) (b := 226) (by omega), nI_clamp (show y < 2 ^ 31 by omega), nI_clamp (show y + 226 < 2 ^ 31 by omega)]
    refine ⟨fun c => absurd (show nI 1130 ≤ nI y from c) (nI_ge (by omega) (by omega)), fun _ => ⟨vp_in_nI (by omega) (by decide), vp_in_nI (by omega) (by decide), fun S12 e => ih (y + 1) S12 (by omega) (fun p => ?_) (fun S' hf => hK S' ((e ▸ F1.uc 17 0 0 S _ : F1 17 0 0 S S12).tr hf))⟩⟩
    rw [e, uc_same, upd_app]
    by_cases c : p = y
    · rw [if_pos c, if_pos (by omega), h (y + 226), if_neg (by omega), c]
    · rw [if_neg c, h p]
      by_cases c2 : p < y
      · rw [if_pos c2, if_pos (by omega)]
      · rw [if_neg c2, if_neg (by omega)]
theorem lx_scopy {Q : Mem → Prop} {K : Mem → Prop} {f r : Nat → Int32} {k : Nat} (hk : k < 6) : ∀ (m y : Nat) (S : Mem), y + m = 226 → S 15 0 0 2 = nI k → S 16 0 0 = r → (∀ p, S 17 0 0 p = if 226 * k ≤ p ∧ p < 226 * k + y then r (p - 226 * k) else f p) → (∀ S', F1 17 0 0 S S' → (∀ p, S' 17 0 0 p = if 226 * k ≤ p ∧ p < 226 * k + 226 then r (p - 226 * k) else f p) → K S') → vc_X7_save_L52 Q K (m + 1) S (nI y) := by
  intro m
  induction m with
  | zero =>
    intro y S hi h2 hr h hK
    have e : y = 226 := by omega
    subst e
    rw [vc_X7_save_L52]
    exact ⟨fun _ => hK S (F1.rf _ _ _ S) h, fun c => absurd (show nI 226 ≤ nI 226 from nI_le (Nat.le_refl _) (by omega)) c⟩
  | succ m ih =>
    intro y S hi h2 hr h hK
    rw [vc_X7_save_L52, nI_1, h2, m_off (by omega) (by omega), nI_clamp (show y < 2 ^ 31 by omega), nI_clamp (show 226 * k + y < 2 ^ 31 by omega), hr]
    refine ⟨fun c => absurd (show nI 226 ≤ nI y from c) (nI_ge (by omega) (by omega)), fun _ => ⟨vp_in_nI (by omega) (by decide), vp_in_nI (by omega) (by decide), fun S4 e => ih (y + 1) S4 (by omega) (by rw [e, uc_t (by decide)]; exact h2) (by rw [e, uc_t (by decide)]; exact hr) (fun p => ?_) (fun S' hf => hK S' ((e ▸ F1.uc 17 0 0 S _ : F1 17 0 0 S S4).tr hf))⟩⟩
    rw [e, uc_same, upd_app]
    by_cases c : p = 226 * k + y
    · rw [if_pos c, if_pos (by omega), c]
      congr 1
      omega
    · rw [if_neg c, h p]
      by_cases c2 : 226 * k ≤ p ∧ p < 226 * k + y
      · rw [if_pos c2, if_pos (by omega)]
      · rw [if_neg c2, if_neg (by omega)]
theorem F1.v {S S' : Mem} (h : F1 17 0 0 S S') : FrV S S' := ⟨fun t P' i' _ b => h t P' i' (fun hh => b hh.1), fun k _ => by rw [h 15 0 0 (fun hh => absurd hh.1 (by decide))]⟩
theorem RT.from {f f' : Nat → Int32} {b b' : Nat} {g : Gl} {t : Ts} (he : ∀ p, p < 226 → f' (b' + p) = f (b + p)) (h : RT f b g t) : RT f' b' g t := by
  refine ⟨fun k hk => ?_, fun i hi j hj => ?_⟩
  · rw [he k (by omega)]; exact h.1 k hk
  · rw [show b' + 16 + 21 * i + j = b' + (16 + 21 * i + j) by omega, he _ (by omega), show b + (16 + 21 * i + j) = b + 16 + 21 * i + j by omega]
    exact h.2 i hi j hj
def HM (S : Mem) (k : Nat) (h : Nat → St) : Prop := k ≤ 6 ∧ S 15 0 0 2 = nI k ∧ ∀ j, j < k → RT (S 17 0 0) (226 * j) (h j).1 (h j).2.1
theorem sx_save {Q : Mem → Prop} {S : Mem} {k : Nat} {h : Nat → St} {s : St} (hh : HM S k h) (hm : MR S s.1 s.2.1) (hq : ∀ S', FrV S S' → HM S' (pushK k) (pushH k h s) → Q S') : vc_X7_save S Q := by
  obtain ⟨hk, h2, hj⟩ := hh
  have fin : ∀ (k : Nat) (S : Mem) (h : Nat → St), k < 6 → S 15 0 0 2 = nI k → MR S s.1 s.2.1 → (∀ j, j < k → RT (S 17 0 0) (226 * j) (h j).1 (h j).2.1) → (∀ S', FrV S S' → HM S' (k + 1) (fun j => if j = k then s else h j) → Q S') → vc_X7_save_J50 Q S := fun k S h hk h2 hm hj hq => by
    unfold vc_X7_save_J50
    rw [nI_lit0]
    refine ⟨227, lx_scopy (f := S 17 0 0) (r := S 16 0 0) hk 226 0 S rfl h2 rfl (fun p => (if_neg (by omega)).symm) fun S7 f7 h7 S8 e8 => ?_⟩
    have a2 : S7 15 0 0 2 = nI k := by rw [f7 15 0 0 (fun hh => absurd hh.1 (by decide))]; exact h2
    rw [a2, nI_1] at e8
    refine hq S8 (f7.v.tr (e8 ▸ FrV.uc15 S7 _)) ⟨by omega, by rw [e8, uc_same, upd_app, if_pos rfl], fun j hj' => ?_⟩
    have e17 : S8 17 0 0 = S7 17 0 0 := by rw [e8, uc_t (by decide)]
    show RT (S8 17 0 0) (226 * j) (if j = k then s else h j).1 (if j = k then s else h j).2.1
    rw [e17]
    by_cases c : j = k
    · rw [if_pos c]
      refine RT.from (f := S 16 0 0) (b := 0) (fun p hp => ?_) hm
      rw [h7, c, if_pos (by omega)]
      congr 1
      omega
    · rw [if_neg c]
      refine RT.from (f := S 17 0 0) (b := 226 * j) (fun p hp => ?_) (hj j (by omega))
      rw [h7, if_neg (by omega)]
  unfold vc_X7_save
  rw [h2]
  unfold pushK pushH at hq
  by_cases c : k = 6
  · subst c
    refine ⟨fun c => absurd (by decide) c, fun _ => ?_⟩
    rw [nI_lit0]
    refine ⟨1131, lx_shift (f := S 17 0 0) 1130 0 S rfl (fun p => (if_neg (by omega)).symm) fun S15 f15 h15 S16 e16 => ?_⟩
    have a2 : S15 15 0 0 2 = nI 6 := by rw [f15 15 0 0 (fun hh => absurd hh.1 (by decide))]; exact h2
    rw [a2] at e16
    have e17 : S16 17 0 0 = S15 17 0 0 := by rw [e16, uc_t (by decide)]
    refine fin 5 S16 (fun j => h (j + 1)) (by decide) (by rw [e16, uc_same, upd_app, if_pos rfl]; decide) ?_ (fun j hj' => ?_) (fun S' hf h9 => hq S' ((f15.v.tr (e16 ▸ FrV.uc15 S15 _)).tr hf) ?_)
    · unfold MR
      rw [e16, uc_t (by decide), f15 16 0 0 (fun hh => absurd hh.1 (by decide))]
      exact hm
    · rw [e17]
      refine RT.from (f := S 17 0 0) (b := 226 * (j + 1)) (fun p hp => ?_) (hj (j + 1) (by omega))
      rw [h15, if_pos (by omega)]
      congr 1
      omega
    · simp only [if_true]
      exact h9
  · refine ⟨fun _ => fin k S h (by omega) h2 hm hj (fun S' hf h9 => hq S' hf ?_), fun c2 => absurd (nI_inj (b := 6) (by omega) (by omega) (show nI k = nI 6 from c2)) c⟩
    simp only [if_neg c]
    exact h9
