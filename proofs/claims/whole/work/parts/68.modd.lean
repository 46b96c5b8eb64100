/-! the reference: rows read -/
def cntB (p : Nat → Bool) : Nat → Nat
  | 0 => 0
  | m + 1 => if p m = true then cntB p m + 1 else cntB p m
theorem cntB_cg {p q : Nat → Bool} : ∀ n, (∀ k, k < n → p k = q k) → cntB p n = cntB q n
  | 0, _ => rfl
  | n + 1, h => by rw [cntB, cntB, h n (by omega), cntB_cg n (fun k hk => h k (by omega))]
theorem cntB_add {p q : Nat → Bool} {i : Nat} (hp : p i = false) (hq : q i = true) : ∀ n, i < n → (∀ k, k < n → k ≠ i → p k = q k) → cntB q n = cntB p n + 1
  | 0, hi, _ => absurd hi (by omega)
  | n + 1, hi, h => by
    by_cases e : i = n
    · subst e
      rw [cntB, cntB, if_pos hq, hp, if_neg (by decide), cntB_cg i (fun k hk => (h k (by omega) (by omega)).symm)]
    · rw [cntB, cntB, ← h n (by omega) (fun hh => e hh.symm), cntB_add hp hq n (by omega) (fun k hk hk2 => h k (by omega) hk2)]
      split <;> rfl
/-- the rows before r are read, of the row r the thermometers before i -/
abbrev dn (g : Gl) (t : Ts) (r i k : Nat) : Prop := dueT g (t k 0) ∧ (t k 0 < nI r ∨ (t k 0 = nI r ∧ k < i))
def dnB (g : Gl) (t : Ts) (r i : Nat) : Nat → Bool := fun k => decide (dn g t r i k)
def mdT (g : Gl) (t : Ts) (n r i : Nat) : Ts := fun k => if k < n ∧ dn g t r i k then readT (g 0) (t k) else t k
def mdG (g : Gl) (t : Ts) (n q r i : Nat) : Gl := upd (tickG g q) 12 (g 12 + nI (cntB (dnB g t r i) n))
theorem mdG_12 {g : Gl} {t : Ts} {n q r i : Nat} : mdG g t n q r i 12 = g 12 + nI (cntB (dnB g t r i) n) := by unfold mdG; rw [upd_app, if_pos rfl]
theorem mdG_k {g : Gl} {t : Ts} {n q r i k : Nat} (h : k ≠ 12) : mdG g t n q r i k = tickG g q k := by unfold mdG; rw [upd_app, if_neg h]
theorem md_cg {g : Gl} {t : Ts} {n q r i r' i' : Nat} (h : ∀ k, k < n → (dn g t r i k ↔ dn g t r' i' k)) : (∀ k, mdG g t n q r i k = mdG g t n q r' i' k) ∧ ∀ k, mdT g t n r i k = mdT g t n r' i' k := by
  refine ⟨fun k => ?_, fun k => ?_⟩
  · unfold mdG
    rw [cntB_cg n (fun k hk => show dnB g t r i k = dnB g t r' i' k from by unfold dnB; exact decide_eq_decide.mpr (h k hk))]
  · unfold mdT
    by_cases c : k < n ∧ dn g t r i k
    · rw [if_pos c, if_pos ⟨c.1, (h k c.1).mp c.2⟩]
    · rw [if_neg c, if_neg (fun hh => c ⟨hh.1, (h k hh.1).mpr hh.2⟩)]
theorem four_ix : ∀ r, r < 4 → (4 : Int32) + nI r = nI (4 + r) ∧ (8 : Int32) + nI r = nI (8 + r) := by decide +kernel
theorem sx_due {Q : Mem → Int32 → Prop} {S : Mem} {r : Nat} {g : Gl} {t : Ts} (hr : r < 4) (hp : ¬ g (4 + r) = 0) (h : MR S g t) (hq : Q S (if dueT g (nI r) then 1 else 0)) : vc_X7_isDue S (nI r) Q := by
  unfold vc_X7_isDue
  rw [(four_ix r hr).1, nI_clamp (by omega), h.g0, h.gl (k := 4 + r) (by omega)]
  have e : (nI r).toNatClampNeg = r := nI_clamp (by omega)
  unfold dueT at hq
  rw [e] at hq
  refine ⟨vv0, vp_in_nI (by omega) (by decide), hp, fun c => ?_, fun c => ?_⟩
  · rw [if_neg c] at hq; exact hq
  · rw [if_pos c] at hq; exact hq
theorem lx_rd {Q : Mem → Int32 → Prop} {K : Mem → Int32 → Int32 → Prop} {n r : Nat} {y1 : Int32} {g : Gl} {t : Ts} (hn : n ≤ 10) (hg : g 15 = nI n) (hr : r < 4) (hd : dueT g (nI r)) : ∀ (m i : Nat) (S : Mem), i + m = n → MR S (mdG g t n (r + 1) r i) (mdT g t n r i) → (∀ S', FrM S S' → MR S' (mdG g t n (r + 1) r n) (mdT g t n r n) → K S' y1 (nI r)) → vc_X7_readRows_L38 Q K (m + 1) S y1 (nI r) (nI i) := by
  have hg' : ∀ i, mdG g t n (r + 1) r i 15 = nI n := fun i => by rw [mdG_k (by decide), tickG_k (by omega) (by omega)]; exact hg
  intro m
  induction m with
  | zero =>
    intro i S hi h hK
    have e : i = n := by omega
    subst e
    rw [vc_X7_readRows_L38]
    exact ⟨vv15, fun _ => hK S (FrM.rf S) h, fun c => absurd (ix_ge h (hg' i) hn) c⟩
  | succ m ih =>
    intro i S hi h hK
    have hlt : i < n := by omega
    have et : mdT g t n r i i = t i ∨ ¬ t i 0 = nI r := by
      by_cases c : t i 0 = nI r
      · refine Or.inl (if_neg (fun hh => ?_))
        rcases hh.2.2 with h1 | h1
        · rw [c] at h1; exact absurd (i_lt.mp h1) (by omega)
        · omega
      · exact Or.inr c
    have e0 : mdT g t n r i i 0 = t i 0 := by
      unfold mdT
      split
      · exact readT_k (by decide)
      · rfl
    rw [vc_X7_readRows_L38]
    unfold vc_X7_readRows_J64
    rw [nI_1]
    refine ⟨vv15, fun c => absurd c (ix_le h (hg' i) hlt hn), fun _ => sx_of (j := 0) (by omega) (by decide) h ⟨fun c => ?_, fun c => ?_⟩⟩
    · rw [e0] at c
      have hc := md_cg (g := g) (t := t) (n := n) (q := r + 1) (r := r) (i := i) (r' := r) (i' := i + 1) (fun k hk => by
        by_cases e : k = i
        · subst e
          exact ⟨fun hh => ⟨hh.1, hh.2.elim Or.inl (fun h9 => absurd h9.1 c)⟩, fun hh => ⟨hh.1, hh.2.elim Or.inl (fun h9 => absurd h9.1 c)⟩⟩
        · exact ⟨fun hh => ⟨hh.1, hh.2.elim Or.inl (fun h9 => Or.inr ⟨h9.1, by omega⟩)⟩, fun hh => ⟨hh.1, hh.2.elim Or.inl (fun h9 => Or.inr ⟨h9.1, by omega⟩)⟩⟩)
      exact ih (i + 1) S (by omega) (h.cg (fun k _ => hc.1 k) (fun k _ j _ => by rw [hc.2 k])) hK
    · rw [e0] at c
      have et2 : mdT g t n r i i = t i := et.resolve_right (fun hh => hh c)
      refine sx_read (by omega) h fun S15 hf h15 => ih (i + 1) S15 (by omega) (h15.cg (fun k _ => ?_) (fun k _ j _ => ?_)) (fun S' hf2 => hK S' (hf.tr hf2))
      · rw [upd_app, mdG_12]
        by_cases e : k = 12
        · subst e
          rw [if_pos rfl, mdG_12, cntB_add (p := dnB g t r i) (q := dnB g t r (i + 1)) (i := i) ?_ ?_ n hlt (fun k hk hne => ?_), ← nI_1, Int32.add_assoc]
          · unfold dnB
            refine decide_eq_false (fun hh => ?_)
            rcases hh.2 with h1 | h1
            · rw [c] at h1; exact absurd (i_lt.mp h1) (by omega)
            · omega
          · unfold dnB
            refine decide_eq_true ⟨?_, Or.inr ⟨c, by omega⟩⟩
            rw [c]; exact hd
          · unfold dnB
            refine decide_eq_decide.mpr ⟨fun hh => ⟨hh.1, hh.2.elim Or.inl (fun h9 => Or.inr ⟨h9.1, by omega⟩)⟩, fun hh => ⟨hh.1, hh.2.elim Or.inl (fun h9 => Or.inr ⟨h9.1, by omega⟩)⟩⟩
        · rw [if_neg e, mdG_k e, mdG_k e]
      · rw [et2, mdG_k (by decide), tickG_k (by omega) (by omega)]
        unfold setT
        by_cases e : k = i
        · subst e
          rw [if_pos rfl]
          unfold mdT
          rw [if_pos ⟨hlt, by rw [c]; exact hd, Or.inr ⟨c, by omega⟩⟩]
        · rw [if_neg e]
          unfold mdT
          by_cases c2 : k < n ∧ dn g t r i k
          · rw [if_pos c2, if_pos ⟨c2.1, c2.2.1, c2.2.2.elim Or.inl (fun h9 => Or.inr ⟨h9.1, by omega⟩)⟩]
          · rw [if_neg c2, if_neg (fun hh => c2 ⟨hh.1, hh.2.1, hh.2.2.elim Or.inl (fun h9 => Or.inr ⟨h9.1, by omega⟩)⟩)]
