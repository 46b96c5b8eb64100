theorem PR.cg {S : Mem} {P n : Nat} {g g' : Gl} {t t' : Ts} (hg : ∀ k, k < 16 → g k = g' k) (ht : ∀ i, i < n → t i = t' i) (h : PR S P g t n) : PR S P g' t' n := by
  obtain ⟨h1, h2, h3⟩ := h
  refine ⟨?_, h2, fun i hi => by rw [← ht i hi]; exact h3 i hi⟩
  unfold GR at h1 ⊢
  rw [← hg 0 (by decide), ← hg 1 (by decide), ← hg 2 (by decide), ← hg 3 (by decide), ← hg 12 (by decide), ← hg 13 (by decide), ← hg 14 (by decide), ← hg 15 (by decide)]
  obtain ⟨a1, a2, a3, a4, a5, a6⟩ := h1
  exact ⟨a1, a2, a3, a4, fun k hk => by rw [← hg (4 + k) (by omega), ← hg (8 + k) (by omega)]; exact a5 k hk, a6⟩
theorem PR.set3 {S : Mem} {P n : Nat} {g : Gl} {t : Ts} (f : Nat → Int32) (g' : Gl) (h : PR S P g t n) (h1 : f 7 = g' 0 ∧ f 8 = g' 1 ∧ f 11 = g' 2 ∧ f 12 = g' 3 ∧ f 9 = g' 12 ∧ f 10 = g' 13 ∧ f 5 = g' 14 ∧ f 6 = g' 15) (h2 : ∀ k, 4 ≤ k → k < 12 → g' k = g k) (h6 : f 6 = S 3 P 0 6) : PR (uc S 3 P 0 f) P g' t n := by
  obtain ⟨⟨a1, a2, a3, a4, a5, a6⟩, hs, hT⟩ := h
  refine ⟨?_, by rw [uc_same, h6]; exact hs, fun i hi => (hT i hi).eqs (uc_t (by decide)) (uc_t (by decide)) (uc_t (by decide))⟩
  unfold GR
  rw [uc_same, uc_t (show (12 : Nat) ≠ 3 by decide), uc_t (show (13 : Nat) ≠ 3 by decide)]
  exact ⟨h1.1, h1.2.1, h1.2.2.1, h1.2.2.2.1, fun k hk => by rw [h2 (4 + k) (by omega) (by omega), h2 (8 + k) (by omega) (by omega)]; exact a5 k hk, h1.2.2.2.2⟩
theorem PR.set13 {S : Mem} {P n k : Nat} {g : Gl} {t : Ts} {x : Int32} (hk : k < 4) (h : PR S P g t n) : PR (uc S 13 P 0 (upd (S 13 P 0) k x)) P (upd g (8 + k) x) t n := by
  obtain ⟨⟨a1, a2, a3, a4, a5, a6, a7, a8, a9⟩, hs, hT⟩ := h
  refine ⟨?_, by rw [uc_t (by decide)]; exact hs, fun i hi => (hT i hi).eqs (uc_t (by decide)) (uc_t (by decide)) (uc_t (by decide))⟩
  unfold GR
  rw [uc_same, uc_t (show (12 : Nat) ≠ 13 by decide), uc_t (show (3 : Nat) ≠ 13 by decide)]
  simp only [upd_app]
  rw [if_neg (by omega), if_neg (by omega), if_neg (by omega), if_neg (by omega), if_neg (by omega), if_neg (by omega), if_neg (by omega), if_neg (by omega)]
  refine ⟨a1, a2, a3, a4, fun j hj => ⟨by rw [if_neg (by omega)]; exact (a5 j hj).1, ?_⟩, a6, a7, a8, a9⟩
  by_cases e : j = k
  · rw [if_pos e, if_pos (by omega)]
  · rw [if_neg e, if_neg (by omega)]; exact (a5 j hj).2
theorem PR.set12 {S : Mem} {P n k : Nat} {g : Gl} {t : Ts} {x : Int32} (hk : k < 4) (h : PR S P g t n) : PR (uc S 12 P 0 (upd (S 12 P 0) k x)) P (upd g (4 + k) x) t n := by
  obtain ⟨⟨a1, a2, a3, a4, a5, a6, a7, a8, a9⟩, hs, hT⟩ := h
  refine ⟨?_, by rw [uc_t (by decide)]; exact hs, fun i hi => (hT i hi).eqs (uc_t (by decide)) (uc_t (by decide)) (uc_t (by decide))⟩
  unfold GR
  rw [uc_same, uc_t (show (13 : Nat) ≠ 12 by decide), uc_t (show (3 : Nat) ≠ 12 by decide)]
  simp only [upd_app]
  rw [if_neg (by omega), if_neg (by omega), if_neg (by omega), if_neg (by omega), if_neg (by omega), if_neg (by omega), if_neg (by omega), if_neg (by omega)]
  refine ⟨a1, a2, a3, a4, fun j hj => ⟨?_, by rw [if_neg (by omega)]; exact (a5 j hj).2⟩, a6, a7, a8, a9⟩
  by_cases e : j = k
  · rw [if_pos e, if_pos (by omega)]
  · rw [if_neg e, if_neg (by omega)]; exact (a5 j hj).1
abbrev dueT (g : Gl) (x : Int32) : Prop := g 0 - g 0 / g (4 + x.toNatClampNeg) * g (4 + x.toNatClampNeg) = 0
theorem sp_readNow {S : Mem} {P n ρ : Nat} {g : Gl} {t : Ts} {Q : Mem → Int32 → Prop} (h : PR S P g t n) (hρ : ρ < 4) (hp : ¬ g (4 + ρ) = 0) (hq : Q S (if dueT g (nI ρ) then 1 else 0)) : vc_X3_isReadNow S P (nI ρ) Q := by
  have h4 := (h.1.2.2.2.2.1 ρ hρ).1
  have h0 : S 3 P 0 7 = g 0 := h.1.1
  unfold vc_X3_isReadNow vc_X3_periodOf
  refine sp_entry (by omega) (by omega) ?_
  rw [h4, h0]
  unfold dueT at hq
  rw [nI_clamp (by omega)] at hq
  refine sp_rem hp ⟨fun c => ?_, fun c => ?_⟩
  · rw [if_neg c] at hq; exact hq
  · rw [if_pos c] at hq; exact hq
def tickG (g : Gl) (m : Nat) : Gl := fun k => if 8 ≤ k ∧ k < 8 + m ∧ dueT g (nI (k - 8)) then g k + 1 else g k
theorem lp_tick {Q : Mem → Prop} {K : Mem → Prop} {P n : Nat} {g : Gl} {t : Ts} (hp : ∀ k, k < 4 → ¬ g (4 + k) = 0) : ∀ (m i : Nat) (S : Mem), i + m = 4 → PR S P (tickG g i) t n → (∀ S', FrP P S S' → PR S' P (tickG g 4) t n → K S') → vc_X3_readRows_L2 Q K P (m + 1) S (nI i) := by
  intro m
  induction m with
  | zero =>
    intro i S hi h hK
    have e : i = 4 := by omega
    subst e
    rw [vc_X3_readRows_L2]
    exact ⟨fun _ => hK S (FrP.rf P S) h, fun c => absurd (show (4 : Int32) ≤ nI 4 from by decide) c⟩
  | succ m ih =>
    intro i S hi h hK
    have hi4 : i < 4 := by omega
    rw [vc_X3_readRows_L2]
    unfold vc_X3_readRows_J29
    rw [nI_1, nI_clamp (by omega)]
    have e4 : tickG g i (4 + i) = g (4 + i) := if_neg (by omega)
    have e0 : tickG g i 0 = g 0 := if_neg (by omega)
    have ed : dueT (tickG g i) (nI i) ↔ dueT g (nI i) := by
      unfold dueT
      rw [nI_clamp (by omega), e4, e0]
    have estep : ∀ k, k < 16 → k ≠ 8 + i → tickG g i k = tickG g (i + 1) k := fun k _ hk => by
      unfold tickG
      by_cases c : 8 ≤ k ∧ k < 8 + i ∧ dueT g (nI (k - 8))
      · rw [if_pos c, if_pos ⟨c.1, by omega, c.2.2⟩]
      · rw [if_neg c, if_neg (fun hh => c ⟨hh.1, by omega, hh.2.2⟩)]
    refine ⟨fun c => absurd c (show ¬ nI 4 ≤ nI i from nI_ge hi4 (by decide)), fun _ => sp_readNow h hi4 (by rw [e4]; exact hp i hi4) ⟨fun c => ?_, fun c => ⟨vp_in_nI hi4 (by decide), vp_in_nI hi4 (by decide), fun S6 e6 => ?_⟩⟩⟩
    · have hd : ¬ dueT g (nI i) := fun hh => by rw [if_pos (ed.mpr hh)] at c; exact absurd c (by decide)
      refine ih (i + 1) S (by omega) (h.cg (fun k hk => ?_) (fun _ _ => rfl)) hK
      by_cases e : k = 8 + i
      · subst e
        unfold tickG
        rw [if_neg (by omega), if_neg (fun hh => hd (by have := hh.2.2; rw [show 8 + i - 8 = i by omega] at this; exact this))]
      · exact estep k hk e
    · have hd : dueT g (nI i) := by
        by_cases hh : dueT g (nI i)
        · exact hh
        · rw [if_neg (fun h9 => hh (ed.mp h9))] at c; exact absurd rfl c
      have h8 := (h.1.2.2.2.2.1 i hi4).2
      refine ih (i + 1) S6 (by omega) ?_ (fun S' hf => hK S' ((e6 ▸ FrP.uc (by simp) S _ : FrP P S S6).tr hf))
      rw [e6, h8]
      refine (h.set13 hi4).cg (fun k hk => ?_) (fun _ _ => rfl)
      rw [upd_app]
      by_cases e : k = 8 + i
      · subst e
        rw [if_pos rfl]
        unfold tickG
        rw [if_neg (by omega), if_pos ⟨by omega, by omega, by rw [show 8 + i - 8 = i by omega]; exact hd⟩]
      · rw [if_neg e]; exact estep k hk e
def cntD (g : Gl) (t : Ts) : Nat → Nat
  | 0 => 0
  | i + 1 => if dueT g (t i 0) then cntD g t i + 1 else cntD g t i
def rdT (g : Gl) (t : Ts) (m : Nat) : Ts := fun i => if i < m ∧ dueT g (t i 0) then readT (g 0) (t i) else t i
def rdG (g : Gl) (t : Ts) (m : Nat) : Gl := upd g 12 (g 12 + nI (cntD g t m))
theorem lp_rd {Q : Mem → Prop} {K : Mem → Prop} {P n : Nat} {g : Gl} {t : Ts} (hP : P < 11) (hp : ∀ k, k < 4 → ¬ g (4 + k) = 0) (hw : ∀ i, i < n → (∃ ρ, ρ < 4 ∧ t i 0 = nI ρ) ∧ ∃ κ, κ ≤ 6 ∧ t i 7 = nI κ ∧ (0 < κ → (t i 9).toInt < (g 0).toInt)) : ∀ (m i : Nat) (S : Mem), i + m = n → PR S P (rdG g t i) (rdT g t i) n → (∀ S', FrP P S S' → PR S' P (rdG g t n) (rdT g t n) n → K S') → vc_X3_readRows_L37 Q K P (m + 1) S (nI i) := by
  intro m
  induction m with
  | zero =>
    intro i S hi h hK
    have e : i = n := by omega
    subst e
    rw [vc_X3_readRows_L37]
    exact ⟨fun _ => hK S (FrP.rf P S) h, fun c => absurd (lp_ge h.2.1.2 h.2.1.1) c⟩
  | succ m ih =>
    intro i S hi h hK
    have hn := h.2.1.1
    have hlt : i < n := by omega
    have hTi := h.2.2 i hlt
    obtain ⟨⟨ρ, hρ, eρ⟩, κ, hκ, eκ, hh⟩ := hw i hlt
    have et : rdT g t i i = t i := if_neg (by omega)
    rw [et] at hTi
    have eg : ∀ k, k ≠ 12 → rdG g t i k = g k := fun k hk => if_neg hk
    have ed : dueT (rdG g t i) (nI ρ) ↔ dueT g (t i 0) := by
      rw [eρ]
      unfold dueT
      rw [eg 0 (by decide), eg _ (by rw [nI_clamp (by omega)]; omega)]
    rw [vc_X3_readRows_L37]
    unfold vc_X3_readRows_J82
    rw [nI_1]
    refine ⟨fun c => absurd c (lp_le h.2.1.2 i hlt hn), fun _ => sp_at (by omega) ⟨⟨hP, by omega⟩, ?_⟩⟩
    rw [hTi.1, eρ]
    refine sp_readNow h hρ (by rw [eg _ (by omega)]; exact hp ρ hρ) ⟨fun c => ?_, fun c => ?_⟩
    · have hd : ¬ dueT g (t i 0) := fun hh => by rw [if_pos (ed.mpr hh)] at c; exact absurd c (by decide)
      refine ih (i + 1) S (by omega) (h.cg (fun k hk => ?_) (fun k hk => ?_)) hK
      · unfold rdG; rw [cntD, if_neg hd]
      · unfold rdT
        by_cases c1 : k < i ∧ dueT g (t k 0)
        · rw [if_pos c1, if_pos ⟨by omega, c1.2⟩]
        · rw [if_neg c1, if_neg (fun h9 => by
            by_cases e : k = i
            · subst e; exact hd h9.2
            · exact c1 ⟨by omega, h9.2⟩)]
    · have hd : dueT g (t i 0) := by
        by_cases hh : dueT g (t i 0)
        · exact hh
        · rw [if_neg (fun h9 => hh (ed.mp h9))] at c; exact absurd rfl c
      have e0 : S 3 P 0 7 = g 0 := h.1.1.trans (eg 0 (by decide))
      refine sp_at (by omega) ⟨⟨hP, by omega⟩, ?_⟩
      rw [e0]
      refine sp_take hTi eκ hκ hh fun S22 hf22 hT22 S23 e23 => ?_
      have h22 := h.one hf22 hT22
      have e12 : S22 3 P 0 9 = rdG g t i 12 := h22.1.2.2.2.2.2.1
      refine ih (i + 1) S23 (by omega) ?_ (fun S' hf => hK S' ((hf22.P.tr (e23 ▸ FrP.uc (by simp) S22 _ : FrP P S22 S23)).tr hf))
      rw [e23]
      refine (h22.set3 _ (rdG g t (i + 1)) ?_ (fun k h4 h12 => ?_) (by rw [upd_app, if_neg (by decide)])).cg (fun _ _ => rfl) (fun k hk => ?_)
      · obtain ⟨a1, a2, a3, a4, a5, a6, a7, a8, a9⟩ := h22.1
        simp only [upd_app, Nat.reduceEqDiff, reduceIte]
        refine ⟨a1, a2, a3, a4, ?_, a7, a8, a9⟩
        rw [e12]
        show g 12 + nI (cntD g t i) + 1 = g 12 + nI (cntD g t (i + 1))
        rw [cntD, if_pos hd, Int32.add_assoc, nI_1]
      · rw [eg k (by omega)]; exact if_neg (by omega)
      · show (if k = i then readT (g 0) (t i) else rdT g t i k) = rdT g t (i + 1) k
        unfold rdT
        by_cases e : k = i
        · subst e
          rw [if_pos rfl, if_pos ⟨by omega, hd⟩]
        · rw [if_neg e]
          by_cases c1 : k < i ∧ dueT g (t k 0)
          · rw [if_pos c1, if_pos ⟨by omega, c1.2⟩]
          · rw [if_neg c1, if_neg (fun h9 => c1 ⟨by omega, h9.2⟩)]
