def maskS (t : Ts) : Nat → Int32
  | 0 => 0
  | i + 1 => if askT (t i) then maskS t i ||| ((1 : Int32) <<< (nI i &&& 31)) else maskS t i
def outS (t : Ts) : Nat → Int32
  | 0 => 0
  | i + 1 => if t i 6 = 0 then outS t i else outS t i ||| ((1 : Int32) <<< (nI i &&& 31))
def rowS (t : Ts) (ρ : Int32) : Nat → Int32
  | 0 => 0
  | i + 1 => if t i 0 = ρ then rowS t ρ i + 1 else rowS t ρ i
theorem lp_mask {Q : Mem → Int32 → Prop} {K : Mem → Int32 → Prop} {S : Mem} {P n : Nat} {g : Gl} {t : Ts} (hP : P < 11) (h : PR S P g t n) (hK : K S (maskS t n)) : ∀ m i, i + m = n → vc_X3_maskOfAsked_L4 Q K P (m + 1) S (maskS t i) (nI i) := by
  obtain ⟨-, ⟨hn, hsz⟩, hT⟩ := h
  intro m
  induction m with
  | zero =>
    intro i hi
    have e : i = n := by omega
    subst e
    rw [vc_X3_maskOfAsked_L4]
    exact ⟨fun _ => hK, fun c => absurd (lp_ge hsz hn) c⟩
  | succ m ih =>
    intro i hi
    have hlt : i < n := by omega
    rw [vc_X3_maskOfAsked_L4]
    have e := ih (i + 1) (by omega)
    unfold vc_X3_maskOfAsked_J29
    rw [nI_1]
    refine ⟨fun c => absurd c (lp_le hsz i hlt hn), fun _ => sp_at (by omega) ⟨⟨hP, by omega⟩, sp_isAsked (hT i hlt) ⟨fun c => ?_, fun c => ?_⟩⟩⟩
    · have ha : ¬ askT (t i) := fun hh => by rw [if_pos hh] at c; exact absurd c (by decide)
      rw [maskS, if_neg ha] at e
      exact e
    · have ha : askT (t i) := by
        by_cases hh : askT (t i)
        · exact hh
        · rw [if_neg hh] at c; exact absurd rfl c
      rw [maskS, if_pos ha] at e
      exact e
theorem sp_mask {Q : Mem → Int32 → Prop} {S : Mem} {P n : Nat} {g : Gl} {t : Ts} (hP : P < 11) (h : PR S P g t n) (hq : Q S (maskS t n)) : vc_X3_maskOfAsked S P Q := ⟨n + 1, lp_mask hP h hq n 0 (by omega)⟩
theorem lp_out {Q : Mem → Int32 → Prop} {K : Mem → Int32 → Prop} {S : Mem} {P n : Nat} {g : Gl} {t : Ts} (hP : P < 11) (h : PR S P g t n) (hK : K S (outS t n)) : ∀ m i, i + m = n → vc_X3_maskOfShutOut_L4 Q K P (m + 1) S (outS t i) (nI i) := by
  obtain ⟨-, ⟨hn, hsz⟩, hT⟩ := h
  intro m
  induction m with
  | zero =>
    intro i hi
    have e : i = n := by omega
    subst e
    rw [vc_X3_maskOfShutOut_L4]
    exact ⟨fun _ => hK, fun c => absurd (lp_ge hsz hn) c⟩
  | succ m ih =>
    intro i hi
    have hlt : i < n := by omega
    rw [vc_X3_maskOfShutOut_L4]
    have e := ih (i + 1) (by omega)
    unfold vc_X3_maskOfShutOut_J29
    rw [nI_1]
    have h10 := (hT i hlt).2.2.2.2.2.2.1
    refine ⟨fun c => absurd c (lp_le hsz i hlt hn), fun _ => sp_at (by omega) ⟨⟨hP, by omega⟩, fun c => ?_, fun c => ?_⟩⟩
    · rw [h10] at c; rw [outS, if_pos c] at e; exact e
    · rw [h10] at c; rw [outS, if_neg c] at e; exact e
theorem sp_out {Q : Mem → Int32 → Prop} {S : Mem} {P n : Nat} {g : Gl} {t : Ts} (hP : P < 11) (h : PR S P g t n) (hq : Q S (outS t n)) : vc_X3_maskOfShutOut S P Q := ⟨n + 1, lp_out hP h hq n 0 (by omega)⟩
theorem lp_row {Q : Mem → Int32 → Prop} {K : Mem → Int32 → Prop} {S : Mem} {P n : Nat} {g : Gl} {t : Ts} {ρ : Int32} (hP : P < 11) (h : PR S P g t n) (hK : K S (rowS t ρ n)) : ∀ m i, i + m = n → vc_X3_countInRow_L4 Q K P ρ (m + 1) S (rowS t ρ i) (nI i) := by
  obtain ⟨-, ⟨hn, hsz⟩, hT⟩ := h
  intro m
  induction m with
  | zero =>
    intro i hi
    have e : i = n := by omega
    subst e
    rw [vc_X3_countInRow_L4]
    exact ⟨fun _ => hK, fun c => absurd (lp_ge hsz hn) c⟩
  | succ m ih =>
    intro i hi
    have hlt : i < n := by omega
    rw [vc_X3_countInRow_L4]
    have e := ih (i + 1) (by omega)
    unfold vc_X3_countInRow_J27
    rw [nI_1]
    have h5 := (hT i hlt).1
    refine ⟨fun c => absurd c (lp_le hsz i hlt hn), fun _ => sp_at (by omega) ⟨⟨hP, by omega⟩, fun c => ?_, fun c => ?_⟩⟩
    · rw [h5] at c; rw [rowS, if_neg c] at e; exact e
    · rw [h5] at c; rw [rowS, if_pos c] at e; exact e
theorem sp_row {Q : Mem → Int32 → Prop} {S : Mem} {P n : Nat} {g : Gl} {t : Ts} {ρ : Int32} (hP : P < 11) (h : PR S P g t n) (hq : Q S (rowS t ρ n)) : vc_X3_countInRow S P ρ Q := ⟨n + 1, lp_row hP h hq n 0 (by omega)⟩
def slopeV (g : Gl) (t : Ts) (n : Nat) : Int32 := if meanV t n = -999999 ∨ g 14 = -999999 then -999999 else meanV t n - g 14
theorem sp_slope {Q : Mem → Int32 → Prop} {S : Mem} {P n : Nat} {g : Gl} {t : Ts} (hP : P < 11) (h : PR S P g t n) (hq : Q S (slopeV g t n)) : vc_X3_slope S P Q := by
  refine sp_mean hP h ?_
  have h14 : S 3 P 0 5 = g 14 := h.1.2.2.2.2.2.2.2.1
  rw [h14]
  unfold slopeV at hq
  refine ⟨fun c => ?_, fun c => ⟨fun c2 => ?_, fun c2 => ?_⟩⟩
  · rw [if_pos (Or.inl c)] at hq; exact hq
  · rw [if_neg (fun hh => hh.elim c c2)] at hq; exact hq
  · rw [if_pos (Or.inr c2)] at hq; exact hq
/-! the sorted row -/
def insA : (Nat → Int32) → Nat → Int32 → Nat → Int32
  | z, 0, x => upd z 0 x
  | z, m + 1, x => if z m ≤ x then upd z (m + 1) x else insA (upd z (m + 1) (z m)) m x
theorem insA_agree : ∀ (m : Nat) (z z' : Nat → Int32) (x : Int32) (N : Nat), m ≤ N → (∀ k, k < N → z k = z' k) → (m = N ∨ True) → (∀ k, k < N + 1 → (k ≠ m → k < N → True)) → (∀ k, m < k → k < N + 1 → z k = z' k) → ∀ k, k < N + 1 → insA z m x k = insA z' m x k
  | 0, z, z', x, N, hm, h, _, _, h2, k, hk => by
    show upd z 0 x k = upd z' 0 x k
    unfold upd
    by_cases e : k = 0
    · rw [if_pos e, if_pos e]
    · rw [if_neg e, if_neg e]; exact h2 k (by omega) hk
  | m + 1, z, z', x, N, hm, h, _, _, h2, k, hk => by
    have e0 : z m = z' m := h m (by omega)
    rw [insA, insA, e0]
    by_cases c : z' m ≤ x
    · rw [if_pos c, if_pos c]
      unfold upd
      by_cases e : k = m + 1
      · rw [if_pos e, if_pos e]
      · rw [if_neg e, if_neg e]
        rcases Nat.lt_or_ge k N with hl | hl
        · exact h k hl
        · exact h2 k (by omega) hk
    · rw [if_neg c, if_neg c]
      refine insA_agree m _ _ x N (by omega) (fun j hj => ?_) (Or.inr trivial) (fun _ _ _ _ => trivial) (fun j hj hj2 => ?_) k hk
      · unfold upd
        by_cases e : j = m + 1
        · rw [if_pos e, if_pos e]
        · rw [if_neg e, if_neg e]; exact h j hj
      · unfold upd
        by_cases e : j = m + 1
        · rw [if_pos e, if_pos e]
        · rw [if_neg e, if_neg e]; exact h2 j (by omega) hj2
theorem insA_eq {m : Nat} {z z' : Nat → Int32} {x : Int32} (h : ∀ k, k < m → z k = z' k) : ∀ k, k < m + 1 → insA z m x k = insA z' m x k := insA_agree m z z' x m (Nat.le_refl m) h (Or.inl rfl) (fun _ _ _ _ => trivial) (fun k h1 h2 => by omega)
def F08 (P : Nat) (S S' : Mem) : Prop := ∀ t P' i', ¬ ((t = 0 ∨ t = 8) ∧ P' = P) → S' t P' i' = S t P' i'
theorem F08.rf (P : Nat) (S : Mem) : F08 P S S := fun _ _ _ _ => rfl
theorem F08.tr {P : Nat} {S S' S'' : Mem} (h : F08 P S S') (h2 : F08 P S' S'') : F08 P S S'' := fun t P' i' hn => (h2 t P' i' hn).trans (h t P' i' hn)
theorem F08.uc {P t i : Nat} (ht : t = 0 ∨ t = 8) (S : Mem) (f : Nat → Int32) : F08 P S (uc S t P i f) := fun t' P' i' hn => uc_ne fun h => hn ⟨by rw [h.1]; exact ht, h.2.1⟩
theorem F08.P {P : Nat} {S S' : Mem} (h : F08 P S S') : FrP P S S' := fun t P' i' hn => h t P' i' fun hh => hn ⟨by rcases hh.1 with e | e <;> simp [e], hh.2⟩
theorem TR.eqs {S S' : Mem} {P i : Nat} {t : Th} (h5 : S' 5 P i = S 5 P i) (h6 : S' 6 P i = S 6 P i) (h7 : S' 7 P i = S 7 P i) (h : TR S P i t) : TR S' P i t := by
  unfold TR at h ⊢
  rw [h5, h6, h7]
  exact h
theorem PR.eqs {S S' : Mem} {P n : Nat} {g : Gl} {t : Ts} (h3 : S' 3 P 0 = S 3 P 0) (h12 : S' 12 P 0 = S 12 P 0) (h13 : S' 13 P 0 = S 13 P 0) (hi : ∀ i, i < n → S' 5 P i = S 5 P i ∧ S' 6 P i = S 6 P i ∧ S' 7 P i = S 7 P i) (h : PR S P g t n) : PR S' P g t n := by
  obtain ⟨hg, hs, hT⟩ := h
  refine ⟨?_, ?_, fun i hh => (hT i hh).eqs (hi i hh).1 (hi i hh).2.1 (hi i hh).2.2⟩
  · unfold GR at hg ⊢
    rw [h3, h12, h13]
    exact hg
  · rw [h3]; exact hs
theorem PR.f08 {S S' : Mem} {P n : Nat} {g : Gl} {t : Ts} (hf : F08 P S S') (h : PR S P g t n) : PR S' P g t n := h.eqs (hf _ _ _ (by simp)) (hf _ _ _ (by simp)) (hf _ _ _ (by simp)) (fun i _ => ⟨hf _ _ _ (by simp), hf _ _ _ (by simp), hf _ _ _ (by simp)⟩)
theorem lp_ins {Q : Mem → Prop} {P : Nat} {x : Int32} {K : Mem → Int32 → Prop} : ∀ (m : Nat) (S : Mem), m < 10 → (∀ (S' : Mem) (j : Nat), j ≤ m → upd (S' 8 P 0) j x = insA (S 8 P 0) m x → F08 P S S' → S' 0 P 0 = S 0 P 0 → K S' (nI j)) → vc_X0_insert_L18 Q K P x (m + 1) S (nI m)
  | 0, S, hm, hK => by
    rw [vc_X0_insert_L18]
    exact ⟨fun _ => hK S 0 (Nat.le_refl 0) rfl (F08.rf P S) rfl, fun c => absurd (show nI 0 ≤ 0 from by decide) c⟩
  | m + 1, S, hm, hK => by
    rw [vc_X0_insert_L18, nI_m1, nI_clamp (show m < 2 ^ 31 by omega), nI_clamp (show m + 1 < 2 ^ 31 by omega)]
    refine ⟨fun c => absurd c (nI_nle (by omega) (by omega)), fun _ => ⟨vp_in_nI (by omega) (by decide), fun c => ?_, fun c => ⟨vp_in_nI (by omega) (by decide), vp_in_nI (by omega) (by decide), fun S6 e6 => ?_⟩⟩⟩
    · exact hK S (m + 1) (Nat.le_refl _) (by rw [insA, if_pos c]) (F08.rf P S) rfl
    · rw [pk_m1]
      refine lp_ins m S6 (by omega) fun S' j hj hu hf h0 => ?_
      have e8 : S6 8 P 0 = upd (S 8 P 0) (m + 1) (S 8 P 0 m) := by rw [e6, uc_same]
      have hf6 : F08 P S S6 := by rw [e6]; exact F08.uc (Or.inr rfl) S _
      refine hK S' j (by omega) ?_ (hf6.tr hf) ?_
      · rw [hu, e8, insA, if_neg c]
      · rw [h0, e6, uc_t (by decide)]
theorem sp_insert {Q : Mem → Prop} {S : Mem} {P m : Nat} {x : Int32} (hm : m < 10) (h : S 0 P 0 1 = nI m) (hq : ∀ S', S' 8 P 0 = insA (S 8 P 0) m x → S' 0 P 0 1 = nI (m + 1) → F08 P S S' → Q S') : vc_X0_insert S P x Q := by
  unfold vc_X0_insert
  rw [h]
  refine ⟨fun _ => ⟨m + 1, lp_ins m S hm fun S' j hj hu hf h0 => ?_⟩, fun c => absurd (show nI m < nI 10 from nI_lt hm (by decide)) c⟩
  refine ⟨vp_in_nI (by omega) (by decide), fun S11 e11 S14 e14 => ?_⟩
  rw [nI_clamp (by omega)] at e11
  refine hq S14 ?_ ?_ (hf.tr ((e11 ▸ F08.uc (Or.inr rfl) S' _ : F08 P S' S11).tr (e14 ▸ F08.uc (Or.inl rfl) S11 _)))
  · rw [e14, uc_t (by decide), e11, uc_same, hu]
  · rw [e14, uc_same, upd_app, if_pos rfl, e11, uc_t (by decide), h0, h, nI_1]
