/-! the reference: all rows read -/
theorem nIlt_succ {ρ r : Nat} (hρ : ρ < 4) (hr : r < 4) : nI ρ < nI (r + 1) ↔ nI ρ < nI r ∨ nI ρ = nI r := by
  rw [nI_ltI (by omega) (by omega), nI_ltI (by omega) (by omega), nI_eq (by omega) (by omega)]
  omega
theorem dueT_md {g : Gl} {t : Ts} {n q r i ρ : Nat} (hq : q ≤ 4) (hρ : ρ < 4) : dueT (mdG g t n q r i) (nI ρ) ↔ dueT g (nI ρ) := dueT_cg (by rw [mdG_k (by decide), tickG_k (by omega) hq]) (fun k hk => by rw [mdG_k (by omega), tickG_k (by omega) hq]) hρ
theorem lx_rows {Q : Mem → Int32 → Prop} {K : Mem → Int32 → Prop} {n : Nat} {y1 : Int32} {g : Gl} {t : Ts} (hn : n ≤ 10) (hg : g 15 = nI n) (hp : ∀ k, k < 4 → ¬ g (4 + k) = 0) (hw : ∀ i, i < n → ∃ ρ, ρ < 4 ∧ t i 0 = nI ρ) : ∀ (m r : Nat) (S : Mem), r + m = 4 → MR S (mdG g t n r r 0) (mdT g t n r 0) → (∀ S', FrM S S' → MR S' (mdG g t n 4 4 0) (mdT g t n 4 0) → K S' y1) → vc_X7_readRows_L10 Q K (m + 1) S y1 (nI r) := by
  intro m
  induction m with
  | zero =>
    intro r S hi h hK
    have e : r = 4 := by omega
    subst e
    rw [vc_X7_readRows_L10]
    exact ⟨fun _ => hK S (FrM.rf S) h, fun c => absurd (by decide) c⟩
  | succ m ih =>
    intro r S hi h hK
    have hr : r < 4 := by omega
    rw [vc_X7_readRows_L10]
    unfold vc_X7_readRows_J70
    rw [nI_1]
    refine ⟨fun c => absurd (show nI 4 ≤ nI r from c) (nI_ge hr (by omega)), fun _ => sx_due hr (by rw [mdG_k (by omega), tickG_k (by omega) (by omega)]; exact hp r hr) h ⟨fun c => ?_, fun c => ?_⟩⟩
    · have hd : ¬ dueT g (nI r) := fun hh => by rw [if_pos ((dueT_md (by omega) hr).mpr hh)] at c; exact absurd c (by decide)
      have hc := md_cg (g := g) (t := t) (n := n) (q := r + 1) (r := r) (i := 0) (r' := r + 1) (i' := 0) (fun k hk => by
        obtain ⟨ρ, hρ, eρ⟩ := hw k hk
        unfold dn
        rw [eρ, nIlt_succ hρ hr]
        refine ⟨fun hh => ⟨hh.1, Or.inl (Or.inl (hh.2.elim id (fun h9 => absurd h9.2 (by omega))))⟩, fun hh => ⟨hh.1, hh.2.elim (fun h9 => h9.elim Or.inl (fun h8 => absurd (h8 ▸ hh.1) hd)) (fun h9 => absurd h9.2 (by omega))⟩⟩)
      refine ih (r + 1) S (by omega) (h.cg (fun k _ => ?_) (fun k _ j _ => by rw [hc.2 k])) hK
      rw [← hc.1 k]
      by_cases e : k = 12
      · subst e
        rw [mdG_12, mdG_12]
      · rw [mdG_k e, mdG_k e]
        unfold tickG
        by_cases c1 : 8 ≤ k ∧ k < 8 + r ∧ dueT g (nI (k - 8))
        · rw [if_pos c1, if_pos ⟨c1.1, by omega, c1.2.2⟩]
        · rw [if_neg c1, if_neg (fun hh => c1 ⟨hh.1, by
            by_cases e8 : k = 8 + r
            · exact absurd (show dueT g (nI r) by have := hh.2.2; rw [show k - 8 = r by omega] at this; exact this) hd
            · omega, hh.2.2⟩)]
    · have hd : dueT g (nI r) := by
        by_cases hh : dueT g (nI r)
        · exact hh
        · rw [if_neg (fun h9 => hh ((dueT_md (by omega) hr).mp h9))] at c; exact absurd rfl c
      rw [(four_ix r hr).2]
      refine ⟨vp_in_nI (by omega) (by decide), vp_in_nI (by omega) (by decide), fun S7 e7 => ?_⟩
      rw [nI_clamp (by omega), h.gl (k := 8 + r) (by omega)] at e7
      have h7 : MR S7 (mdG g t n (r + 1) r 0) (mdT g t n r 0) := by
        rw [e7]
        refine (h.setg (k := 8 + r) (by omega)).cg (fun k _ => ?_) (fun _ _ _ _ => rfl)
        rw [upd_app]
        by_cases e : k = 12
        · subst e
          rw [if_neg (by omega), mdG_12, mdG_12]
        · rw [mdG_k e, mdG_k e, mdG_k (by omega)]
          unfold tickG
          by_cases e8 : k = 8 + r
          · rw [if_pos e8, if_neg (by omega), if_pos ⟨by omega, by omega, by rw [show k - 8 = r by omega]; exact hd⟩, e8]
          · rw [if_neg e8]
            by_cases c1 : 8 ≤ k ∧ k < 8 + r ∧ dueT g (nI (k - 8))
            · rw [if_pos c1, if_pos ⟨c1.1, by omega, c1.2.2⟩]
            · rw [if_neg c1, if_neg (fun hh => c1 ⟨hh.1, by omega, hh.2.2⟩)]
      have f7 : FrM S S7 := e7 ▸ FrM.uc16 S _
      have hc := md_cg (g := g) (t := t) (n := n) (q := r + 1) (r := r) (i := n) (r' := r + 1) (i' := 0) (fun k hk => by
        obtain ⟨ρ, hρ, eρ⟩ := hw k hk
        unfold dn
        rw [eρ, nIlt_succ hρ hr]
        refine ⟨fun hh => ⟨hh.1, Or.inl (hh.2.elim Or.inl (fun h9 => Or.inr h9.1))⟩, fun hh => ⟨hh.1, hh.2.elim (fun h9 => h9.elim Or.inl (fun h8 => Or.inr ⟨h8, hk⟩)) (fun h9 => absurd h9.2 (by omega))⟩⟩)
      rw [nI_lit0]
      exact ⟨n + 1, lx_rd hn hg hr hd n 0 S7 (by omega) h7 fun S16 f16 h16 => by
        show vc_X7_readRows_L10 Q K (m + 1) S16 y1 (nI r + 1)
        rw [nI_1]
        exact ih (r + 1) S16 (by omega) (h16.cg (fun k _ => hc.1 k) (fun k _ j _ => by rw [hc.2 k])) (fun S' hf => hK S' ((f7.tr f16).tr hf))⟩
theorem dueT_tk {g : Gl} {ρ : Nat} (hρ : ρ < 4) : dueT (tickG g 4) (nI ρ) ↔ dueT g (nI ρ) := dueT_cg (tickG_k (by omega) (by decide)) (fun k hk => tickG_k (by omega) (by decide)) hρ
theorem cntD_B {g : Gl} {t : Ts} {n : Nat} (hw : ∀ i, i < n → ∃ ρ, ρ < 4 ∧ t i 0 = nI ρ) : ∀ i, i ≤ n → cntD (tickG g 4) t i = cntB (dnB g t 4 0) i
  | 0, _ => rfl
  | i + 1, hi => by
    obtain ⟨ρ, hρ, eρ⟩ := hw i (by omega)
    rw [cntD, cntB, cntD_B hw i (by omega)]
    have e : dueT (tickG g 4) (t i 0) ↔ dnB g t 4 0 i = true := by
      unfold dnB
      rw [decide_eq_true_iff, eρ, dueT_tk hρ]
      unfold dn
      rw [eρ]
      exact ⟨fun hh => ⟨hh, Or.inl ((nI_ltI (by omega) (by omega)).mpr hρ)⟩, fun hh => hh.1⟩
    by_cases c : dnB g t 4 0 i = true
    · rw [if_pos (e.mpr c), if_pos c]
    · rw [if_neg (fun hh => c (e.mp hh)), if_neg c]
theorem sx_rows {Q : Mem → Int32 → Prop} {S : Mem} {n : Nat} {g : Gl} {t : Ts} (hn : n ≤ 10) (hg : g 15 = nI n) (hp : ∀ k, k < 4 → ¬ g (4 + k) = 0) (hw : ∀ i, i < n → ∃ ρ, ρ < 4 ∧ t i 0 = nI ρ) (h : MR S g t) (hq : ∀ S', FrM S S' → MR S' (rrG g t n) (rrT g t n) → Q S' (rrG g t n 12 - g 12)) : vc_X7_readRows S Q := by
  unfold vc_X7_readRows
  rw [h.g12, nI_lit0]
  refine ⟨vv12, 5, lx_rows hn hg hp hw 4 0 S rfl (h.cg (fun k _ => ?_) (fun k _ j _ => ?_)) fun S' hf h' => ⟨vv12, ?_⟩⟩
  · by_cases e : k = 12
    · subst e
      have c0 : cntB (dnB g t 0 0) n = 0 := by
        have : ∀ m, m ≤ n → cntB (dnB g t 0 0) m = 0 := by
          intro m
          induction m with
          | zero => exact fun _ => rfl
          | succ m ih =>
            intro hm
            obtain ⟨ρ, hρ, eρ⟩ := hw m (by omega)
            rw [cntB, if_neg, ih (by omega)]
            unfold dnB
            rw [decide_eq_true_iff]
            intro hh
            rcases hh.2 with h1 | h1
            · rw [eρ] at h1
              exact absurd ((nI_ltI (by omega) (by omega)).mp h1) (by omega)
            · omega
        exact this n (Nat.le_refl n)
      rw [mdG_12, c0]
      exact (Int32.add_zero _).symm
    · rw [mdG_k e]
      exact (if_neg (by omega)).symm
  · refine congrFun (?_ : t k = mdT g t n 0 0 k) j
    refine (if_neg (fun hh => ?_)).symm
    obtain ⟨ρ, hρ, eρ⟩ := hw k hh.1
    rcases hh.2.2 with h1 | h1
    · rw [eρ] at h1
      exact absurd ((nI_ltI (by omega) (by omega)).mp h1) (by omega)
    · omega
  · have eg : ∀ k, mdG g t n 4 4 0 k = rrG g t n k := fun k => by
      unfold rrG
      by_cases e : k = 12
      · subst e
        rw [mdG_12, rdG_12, cntD_B hw n (Nat.le_refl n), tickG_k (by omega) (by decide)]
      · rw [mdG_k e, rdG_k e]
    have et : ∀ k, mdT g t n 4 0 k = rrT g t n k := fun k => by
      unfold rrT mdT rdT
      by_cases c : k < n ∧ dn g t 4 0 k
      · obtain ⟨ρ, hρ, eρ⟩ := hw k c.1
        have cd : dueT (tickG g 4) (t k 0) := by rw [eρ, dueT_tk hρ, ← eρ]; exact c.2.1
        rw [if_pos c, if_pos ⟨c.1, cd⟩, tickG_k (by omega) (by decide)]
      · rw [if_neg c]
        refine (if_neg (fun hh => c ⟨hh.1, ?_⟩)).symm
        obtain ⟨ρ, hρ, eρ⟩ := hw k hh.1
        have cd := hh.2
        rw [eρ, dueT_tk hρ] at cd
        unfold dn
        rw [eρ]
        exact ⟨cd, Or.inl ((nI_ltI (by omega) (by omega)).mpr hρ)⟩
    have h9 : MR S' (rrG g t n) (rrT g t n) := h'.cg (fun k _ => eg k) (fun k _ j _ => by rw [et k])
    rw [h9.g12]
    exact hq S' hf h9
