/-! new and calibrated thermometers, periods -/
def newT (x1 x2 x3 x4 x : Int32) : Th := fun k => if k = 0 then x1 else if k = 1 then x2 else if k = 2 then x3 else if k = 3 then x4 else if k = 4 then x + x3 else 0
def calT (x : Int32) (t : Th) : Th := fun k => if k = 4 then x + t 2 else if k = 5 ∨ k = 6 ∨ k = 7 ∨ 9 ≤ k then 0 else t k
theorem mended0 {t : Th} (h : t 7 = 0) : mended t = -999999 := by unfold mended mendB; rw [if_pos h]
theorem none_row {t : Th} (h : t 7 = 0) {κ : Nat} (e : t 7 = nI κ) (hκ : κ ≤ 6) {k : Nat} (hk : k < κ) : False := by
  rw [h] at e
  have := (nI_eq0 (by omega)).mp e.symm
  omega
theorem sp_fresh {Q : Mem → Prop} {S : Mem} {P i : Nat} {x : Int32} {t t' : Th} (h0 : S 5 P i 5 = t' 0) (h1 : S 5 P i 3 = t' 1) (h2 : S 5 P i 4 = t' 2) (h3 : S 5 P i 6 = t' 3) (h8 : S 5 P i 9 = t' 8) (h4 : t' 4 = x + t' 2) (h5 : t' 5 = 0) (h6 : t' 6 = 0) (h7 : t' 7 = 0) (hq : ∀ S', F5 P i S S' → TR S' P i t' → Q S') : vc_X5_startAfresh S P i x Q := by
  intro S1 e1 S3 e3 S5 e5 S7 e7 S9 e9
  have c1 : S1 5 P i = upd (S 5 P i) 7 (x + S 5 P i 4) := by rw [e1, uc_same]
  have c3 : S3 5 P i = upd (S1 5 P i) 2 0 := by rw [e3, uc_same]
  have c5 : S5 5 P i = upd (S3 5 P i) 11 (-999999) := by rw [e5, uc_same]
  have c7 : S7 5 P i = upd (S5 5 P i) 8 0 := by rw [e7, uc_same]
  have c9 : S9 5 P i = upd (S7 5 P i) 10 0 := by rw [e9, uc_same]
  have f : F1 5 P i S S9 := ((((e1 ▸ F1.uc 5 P i S _ : F1 5 P i S S1).tr (e3 ▸ F1.uc 5 P i S1 _ : F1 5 P i S1 S3)).tr (e5 ▸ F1.uc 5 P i S3 _ : F1 5 P i S3 S5)).tr (e7 ▸ F1.uc 5 P i S5 _ : F1 5 P i S5 S7)).tr (e9 ▸ F1.uc 5 P i S7 _ : F1 5 P i S7 S9)
  refine hq S9 (f.five (Or.inl rfl)) ?_
  unfold TR
  rw [c9, c7, c5, c3, c1, mended0 h7, h5, h6, h4]
  simp only [upd_app, Nat.reduceEqDiff, reduceIte]
  exact ⟨h0, h1, h2, h3, by rw [h2], trivial, trivial, h7.symm, h8, trivial, fun κ e hκ k hk => (none_row h7 e hκ hk).elim⟩
theorem sp_cal {Q : Mem → Prop} {S : Mem} {P i : Nat} {x : Int32} {t : Th} (h : TR S P i t) (hq : ∀ S', F5 P i S S' → TR S' P i (calT x t) → Q S') : vc_X5_startAfresh S P i x Q := by
  obtain ⟨a1, a2, a3, a4, a5, a6, a7, a8, a9, a10, a11⟩ := h
  exact sp_fresh (t := t) (t' := calT x t) a1 a2 a3 a4 a9 rfl rfl rfl rfl hq
theorem sp_begin {Q : Mem → Prop} {S : Mem} {P i : Nat} {x1 x2 x3 x4 x : Int32} (hq : ∀ S', F5 P i S S' → TR S' P i (newT x1 x2 x3 x4 x) → Q S') : vc_X5_begin S P i x1 x2 x3 x4 x Q := by
  intro S1 e1 S3 e3 S5 e5 S7 e7 S9 e9
  have c1 : S1 5 P i = upd (S 5 P i) 5 x1 := by rw [e1, uc_same]
  have c3 : S3 5 P i = upd (S1 5 P i) 3 x2 := by rw [e3, uc_same]
  have c5 : S5 5 P i = upd (S3 5 P i) 4 x3 := by rw [e5, uc_same]
  have c7 : S7 5 P i = upd (S5 5 P i) 6 x4 := by rw [e7, uc_same]
  have c9 : S9 5 P i = upd (S7 5 P i) 9 0 := by rw [e9, uc_same]
  have f : F1 5 P i S S9 := ((((e1 ▸ F1.uc 5 P i S _ : F1 5 P i S S1).tr (e3 ▸ F1.uc 5 P i S1 _ : F1 5 P i S1 S3)).tr (e5 ▸ F1.uc 5 P i S3 _ : F1 5 P i S3 S5)).tr (e7 ▸ F1.uc 5 P i S5 _ : F1 5 P i S5 S7)).tr (e9 ▸ F1.uc 5 P i S7 _ : F1 5 P i S7 S9)
  refine sp_fresh (t := newT x1 x2 x3 x4 x) (t' := newT x1 x2 x3 x4 x) ?_ ?_ ?_ ?_ ?_ rfl rfl rfl rfl (fun S' hf hT => hq S' ((f.five (Or.inl rfl)).tr hf) hT)
  all_goals
    rw [c9, c7, c5, c3, c1]
    rfl
def addS (s : St) (x1 x2 x3 x4 : Int32) : St := (upd s.1 15 (s.1 15 + 1), fun i => if i = s.2.2 then newT x1 x2 x3 x4 (s.1 1) else s.2.1 i, s.2.2 + 1)
theorem sp_add {Q : Mem → Int32 → Prop} {S : Mem} {P : Nat} {s : St} {x1 x2 x3 x4 : Int32} (hP : P < 11) (hn : s.2.2 < 10) (h : PRs S P s) (hq : ∀ S', FrP P S S' → PRs S' P (addS s x1 x2 x3 x4) → Q S' (nI s.2.2)) : vc_X3_add S P x1 x2 x3 x4 Q := by
  obtain ⟨g, t, n⟩ := s
  have hn : n < 10 := hn
  have h : PR S P g t n := h
  unfold vc_X3_add
  have e6 := h.2.1.2
  have e15 : g 15 = nI n := h.1.2.2.2.2.2.2.2.2.symm.trans e6
  rw [e6]
  refine sp_at hn ⟨⟨hP, by omega⟩, ?_⟩
  rw [h.1.2.1]
  refine sp_begin fun S5 hf5 hT5 S6 e => ?_
  have c3 : S5 3 P 0 = S 3 P 0 := hf5 _ _ _ (by omega)
  rw [c3, e6, nI_1] at e
  refine hq S6 (hf5.P.tr (e ▸ FrP.uc (by simp) S5 _ : FrP P S5 S6)) ?_
  have q : ∀ t', t' ≠ 3 → ∀ P' i', S6 t' P' i' = S5 t' P' i' := fun t' ht P' i' => by rw [e]; exact uc_t ht
  have q3 : S6 3 P 0 = upd (S 3 P 0) 6 (nI (n + 1)) := by rw [e, uc_same]
  obtain ⟨⟨a1, a2, a3, a4, a5, a6, a7, a8, a9⟩, b, hT⟩ := h
  refine ⟨?_, ⟨by show n + 1 ≤ 10; omega, by rw [q3]; rfl⟩, fun i hi => ?_⟩
  · unfold GR
    rw [q3, q 12 (by decide), q 13 (by decide), hf5 12 P 0 (by omega), hf5 13 P 0 (by omega)]
    have eg : ∀ k, k ≠ 15 → upd g 15 (g 15 + 1) k = g k := fun k hk => if_neg hk
    refine ⟨a1, a2, a3, a4, fun k hk => ⟨?_, ?_⟩, a6, a7, a8, ?_⟩
    · show S 12 P 0 k = upd g 15 (g 15 + 1) (4 + k)
      rw [eg _ (by omega)]; exact (a5 k hk).1
    · show S 13 P 0 k = upd g 15 (g 15 + 1) (8 + k)
      rw [eg _ (by omega)]; exact (a5 k hk).2
    show nI (n + 1) = g 15 + 1
    rw [e15, nI_1]
  · show TR S6 P i (if i = n then newT x1 x2 x3 x4 (g 1) else t i)
    by_cases c : i = n
    · rw [if_pos c, c]
      exact hT5.eqs (q 5 (by decide) _ _) (q 6 (by decide) _ _) (q 7 (by decide) _ _)
    · rw [if_neg c]
      have hi2 : i < n + 1 := hi
      exact (hT i (by omega)).eqs ((q 5 (by decide) _ _).trans (hf5 _ _ _ (by omega))) ((q 6 (by decide) _ _).trans (hf5 _ _ _ (by omega))) ((q 7 (by decide) _ _).trans (hf5 _ _ _ (by omega)))
theorem sp_period {Q : Mem → Prop} {S : Mem} {P k : Nat} {s : St} {x : Int32} (hk : k < 4) (h : PRs S P s) (hq : ∀ S', FrP P S S' → PRs S' P (upd s.1 (4 + k) x, s.2.1, s.2.2) → Q S') : vc_X3_changePeriod S P (nI k) x Q := by
  refine ⟨fun c => absurd c (nI_pos (by omega)), fun _ => ⟨fun c => absurd (show nI 4 ≤ nI k from c) (nI_ge hk (by omega)), fun _ => ⟨vp_in_nI hk (by decide), fun S3 e => ?_⟩⟩⟩
  rw [nI_clamp (by omega)] at e
  exact hq S3 (e ▸ FrP.uc (by simp) S _) (e ▸ h.set12 hk)
