/-! the reference: hours in a row, new and calibrated thermometers, periods -/
theorem clT_I (a : Int32) : (clT a).toInt = max (-5000) (min 5000 a.toInt) := by
  have h1 : (5000 : Int32).toInt = 5000 := rfl
  have h2 : (-5000 : Int32).toInt = -5000 := rfl
  unfold clT imax imin
  by_cases c : a < 5000
  · rw [if_pos c]
    have c' := i_lt.mp c
    by_cases c2 : -5000 < a
    · rw [if_pos c2]
      have := i_lt.mp c2
      omega
    · rw [if_neg c2]
      have := i_le.mp (i_nlt.mp c2)
      omega
  · rw [if_neg c]
    have c' := i_le.mp (i_nlt.mp c)
    rw [if_pos (show (-5000 : Int32) < 5000 by decide)]
    omega
theorem clT_mid {a : Int32} (h : -5000 ≤ a.toInt ∧ a.toInt ≤ 5000) : clT a = a := i_eq.mpr (by rw [clT_I]; omega)
theorem clT_hi {a : Int32} (h : ¬ a ≤ 5000) : clT a = 5000 := i_eq.mpr (by
  have := i_lt.mp (i_nle.mp h)
  have h1 : (5000 : Int32).toInt = 5000 := rfl
  rw [clT_I]; omega)
theorem clT_lo {a : Int32} (h : ¬ (-5000 : Int32) ≤ a) : clT a = -5000 := i_eq.mpr (by
  have := i_lt.mp (i_nle.mp h)
  have h1 : (-5000 : Int32).toInt = -5000 := rfl
  rw [clT_I]; omega)
theorem lx_hrs {Q : Mem → Int32 → Prop} {K : Mem → Prop} {n N : Nat} {d : Int32} {g : Gl} {t : Ts} (hN : N < 1000) (hw : WS g t n) (h0 : (g 0).toInt + N ≤ 10100) : ∀ (m k : Nat) (S : Mem), k + m = N → MR S (hrs n d g t k).1 (hrs n d g t k).2 → (∀ S', FrM S S' → MR S' (hrs n d g t N).1 (hrs n d g t N).2 → K S') → vc_X7_hours_L60 Q K (nI N) d (m + 1) S (nI k) := by
  intro m
  induction m with
  | zero =>
    intro k S hi h hK
    have e : k = N := by omega
    subst e
    rw [vc_X7_hours_L60]
    exact ⟨fun _ => hK S (FrM.rf S) h, fun c => absurd (nI_le (Nat.le_refl k) (by omega)) c⟩
  | succ m ih =>
    intro k S hi h hK
    have hlt : k < N := by omega
    obtain ⟨hw1, hw2⟩ := hrs_ws (d := d) hw k (by omega)
    have go : ∀ x, x = clT ((hrs n d g t k).1 1 + d) → vc_X7_hours_J106 Q (vc_X7_hours_L60 Q K (nI N) d (m + 1)) K (nI N) d S (nI k) x := fun x e => by
      unfold vc_X7_hours_J106
      rw [nI_1, e]
      exact sx_pass hw1 (clT_rng _) (by omega) h fun S2 hf2 h2 => ih (k + 1) S2 (by omega) h2 (fun S' hf => hK S' (hf2.tr hf))
    rw [vc_X7_hours_L60, h.g1]
    refine ⟨fun c => absurd c (nI_ge hlt (by omega)), fun _ => ⟨vv1, fun c => ⟨fun c2 => go _ ?_, fun c2 => go _ (clT_hi c2).symm⟩, fun c => go _ (clT_lo c).symm⟩⟩
    refine (clT_mid ?_).symm
    have a1 := i_le.mp c
    have a2 := i_le.mp c2
    have h1 : (5000 : Int32).toInt = 5000 := rfl
    have h2 : (-5000 : Int32).toInt = -5000 := rfl
    omega
theorem lx_beh {Q : Mem → Int32 → Prop} {K : Mem → Prop} {n N : Nat} {x2 : Int32} {g : Gl} {t : Ts} (hN : N < 1000) (hw : WS g t n) (h0 : (g 0).toInt + N ≤ 10100) : ∀ (m k : Nat) (S : Mem), k + m = N → MR S (hrs n 0 g t k).1 (hrs n 0 g t k).2 → (∀ S', FrM S S' → MR S' (hrs n 0 g t N).1 (hrs n 0 g t N).2 → K S') → vc_X7_behind_L29 Q K (nI N) x2 (m + 1) S (nI k) := by
  intro m
  induction m with
  | zero =>
    intro k S hi h hK
    have e : k = N := by omega
    subst e
    rw [vc_X7_behind_L29]
    exact ⟨fun _ => hK S (FrM.rf S) h, fun c => absurd (nI_le (Nat.le_refl k) (by omega)) c⟩
  | succ m ih =>
    intro k S hi h hK
    have hlt : k < N := by omega
    obtain ⟨hw1, hw2⟩ := hrs_ws (d := 0) hw k (by omega)
    have e : (hrs n 0 g t k).1 1 = clT ((hrs n 0 g t k).1 1 + 0) := by
      rw [Int32.add_zero]
      exact (clT_mid hw1.1.2.2.2.1).symm
    rw [vc_X7_behind_L29, h.g1, nI_1, e]
    exact ⟨fun c => absurd c (nI_ge hlt (by omega)), fun _ => ⟨vv1, sx_pass hw1 (clT_rng _) (by omega) h fun S2 hf2 h2 => ih (k + 1) S2 (by omega) h2 (fun S' hf => hK S' (hf2.tr hf))⟩⟩
def zrT (x : Th) (a b : Nat) : Th := fun j => if a ≤ j ∧ j < b then 0 else x j
theorem lx_add {Q : Mem → Int32 → Prop} {K : Mem → Int32 → Prop} {x1 x2 x3 x4 : Int32} {i : Nat} {g : Gl} {t : Ts} (hi : i < 10) : ∀ (m j : Nat) (S : Mem), j + m = 21 → MR S g (setT t i (zrT (t i) 0 j)) → (∀ S', FrM S S' → MR S' g (setT t i (zrT (t i) 0 21)) → K S' (nI i)) → vc_X7_add_L12 Q K x1 x2 x3 x4 (m + 1) S (nI i) (nI j) := by
  intro m
  induction m with
  | zero =>
    intro j S hj h hK
    have e : j = 21 := by omega
    subst e
    rw [vc_X7_add_L12]
    exact ⟨fun _ => hK S (FrM.rf S) h, fun c => absurd (by decide) c⟩
  | succ m ih =>
    intro j S hj h hK
    rw [vc_X7_add_L12, nI_1]
    refine ⟨fun c => absurd (show nI 21 ≤ nI j from c) (nI_ge (by omega) (by omega)), fun _ => sx_putT hi (by omega) h fun S' hf h' => ih (j + 1) S' (by omega) (h'.cg (fun _ _ => rfl) (fun i' _ j' _ => ?_)) (fun S'' hf2 => hK S'' (hf.tr hf2))⟩
    unfold setT
    by_cases e : i' = i
    · rw [if_pos e, if_pos e, upd_app]
      unfold zrT
      by_cases c : j' = j
      · rw [if_pos c, if_pos (by omega)]
      · rw [if_neg c]
        by_cases c2 : 0 ≤ j' ∧ j' < j
        · rw [if_pos c2, if_pos (by omega)]
        · rw [if_neg c2, if_neg (by omega)]
    · rw [if_neg e, if_neg e]
theorem sx_add {Q : Mem → Int32 → Prop} {S : Mem} {x1 x2 x3 x4 : Int32} {s : St} (hn : s.2.2 < 10) (hg : s.1 15 = nI s.2.2) (h : MR S s.1 s.2.1) (hq : ∀ S', FrM S S' → MR S' (addS s x1 x2 x3 x4).1 (addS s x1 x2 x3 x4).2.1 → Q S' (nI s.2.2)) : vc_X7_add S x1 x2 x3 x4 Q := by
  obtain ⟨g, t, n⟩ := s
  have hn : n < 10 := hn
  have hg : g 15 = nI n := hg
  have h : MR S g t := h
  have c15 : (15 : Int32).toNatClampNeg = 15 := rfl
  refine ⟨vv15, 22, ?_⟩
  rw [h.g15, hg, nI_lit0]
  refine lx_add (g := g) (t := t) hn 21 0 S rfl (h.cg (fun _ _ => rfl) (fun i' _ j' _ => ?_)) fun S4 f4 h4 => sx_putT (j := 0) hn (by decide) h4 fun S6 f6 h6 => sx_putT (j := 1) hn (by decide) h6 fun S7 f7 h7 => sx_putT (j := 2) hn (by decide) h7 fun S8 f8 h8 => sx_putT (j := 3) hn (by decide) h8 fun S9 f9 h9 => ⟨vv1, ?_⟩
  · unfold setT zrT
    by_cases e : i' = n
    · rw [if_pos e, if_neg (by omega), e]
    · rw [if_neg e]
  · rw [h9.g1]
    refine sx_putT (j := 4) hn (by decide) h9 fun S11 f11 h11 => ⟨vv15, vv15, fun S13 e13 => ?_⟩
    rw [h11.g15, c15] at e13
    refine hq S13 ((((((f4.tr f6).tr f7).tr f8).tr f9).tr f11).tr (e13 ▸ FrM.uc16 S11 _)) (e13 ▸ (h11.setg (by decide)).cg (fun _ _ => rfl) (fun i' _ j' hj' => ?_))
    show _ = (if i' = n then newT x1 x2 x3 x4 (g 1) else t i') j'
    unfold setT
    by_cases e : i' = n
    · rw [if_pos e, if_pos e]
      unfold newT
      simp only [upd_app]
      by_cases e0 : j' = 0
      · subst e0; rfl
      by_cases e1 : j' = 1
      · subst e1; rfl
      by_cases e2 : j' = 2
      · subst e2; rfl
      by_cases e3 : j' = 3
      · subst e3; rfl
      by_cases e4 : j' = 4
      · subst e4; rfl
      rw [if_neg e4, if_neg e3, if_neg e2, if_neg e1, if_neg e0, if_neg e0, if_neg e1, if_neg e2, if_neg e3, if_neg e4]
      exact if_pos ⟨Nat.zero_le _, hj'⟩
    · rw [if_neg e, if_neg e]
theorem lx_cal {Q : Mem → Int32 → Prop} {K : Mem → Int32 → Prop} {i : Nat} {y : Int32} {g : Gl} {t : Ts} {x : Th} (hi : i < 10) : ∀ (m j : Nat) (S : Mem), j + m = 12 → MR S g (setT t i (zrT x 9 (9 + j))) → (∀ S', FrM S S' → MR S' g (setT t i (zrT x 9 21)) → K S' y) → vc_X7_calibrateNow_L51 Q K (nI i) (m + 1) S y (nI j) := by
  intro m
  induction m with
  | zero =>
    intro j S hj h hK
    have e : j = 12 := by omega
    subst e
    rw [vc_X7_calibrateNow_L51]
    exact ⟨fun _ => hK S (FrM.rf S) h, fun c => absurd (by decide) c⟩
  | succ m ih =>
    intro j S hj h hK
    rw [vc_X7_calibrateNow_L51, nI_1, show (9 : Int32) + nI j = nI (9 + j) from nI_add 9 j]
    refine ⟨fun c => absurd (show nI 12 ≤ nI j from c) (nI_ge (by omega) (by omega)), fun _ => sx_putT hi (by omega) h fun S' hf h' => ih (j + 1) S' (by omega) (h'.cg (fun _ _ => rfl) (fun i' _ j' _ => ?_)) (fun S'' hf2 => hK S'' (hf.tr hf2))⟩
    unfold setT
    by_cases e : i' = i
    · rw [if_pos e, if_pos e, upd_app]
      unfold zrT
      by_cases c : j' = 9 + j
      · rw [if_pos c, if_pos (by omega)]
      · rw [if_neg c]
        by_cases c2 : 9 ≤ j' ∧ j' < 9 + j
        · rw [if_pos c2, if_pos (by omega)]
        · rw [if_neg c2, if_neg (by omega)]
    · rw [if_neg e, if_neg e]
theorem sx_cal {Q : Mem → Int32 → Prop} {S : Mem} {i : Nat} {g : Gl} {t : Ts} (hi : i < 10) (h : MR S g t) (hq : ∀ S', FrM S S' → MR S' g (setT t i (calT (g 1) (t i))) → Q S' (t i 5)) : vc_X7_calibrateNow S (nI i) Q := by
  refine sx_of (j := 5) hi (by decide) h ⟨vv1, sx_of (j := 2) hi (by decide) h ?_⟩
  rw [h.g1]
  refine sx_putT (j := 4) (t := t) (x := t i) hi (by decide) (by rw [setT_id]; exact h) fun S6 f6 h6 => sx_putT (j := 5) hi (by decide) h6 fun S7 f7 h7 => sx_putT (j := 6) hi (by decide) h7 fun S8 f8 h8 => sx_putT (j := 7) hi (by decide) h8 fun S9 f9 h9 => ⟨13, ?_⟩
  rw [nI_lit0]
  refine lx_cal (x := upd (upd (upd (upd (t i) 4 (g 1 + t i 2)) 5 0) 6 0) 7 0) (g := g) (t := t) hi 12 0 S9 rfl (h9.cg (fun _ _ => rfl) (fun i' _ j' _ => ?_)) fun S' hf h' => hq S' ((((f6.tr f7).tr f8).tr f9).tr hf) (h'.cg (fun _ _ => rfl) (fun i' _ j' hj' => ?_))
  · unfold setT zrT
    by_cases e : i' = i
    · rw [if_pos e, if_pos e, if_neg (by omega)]
    · rw [if_neg e, if_neg e]
  · unfold setT zrT
    by_cases e : i' = i
    · rw [if_pos e, if_pos e]
      unfold calT
      simp only [upd_app]
      by_cases c : 9 ≤ j' ∧ j' < 21
      · rw [if_pos c, if_neg (by omega), if_pos (by omega)]
      · rw [if_neg c]
        by_cases e7 : j' = 7
        · subst e7; rfl
        by_cases e6 : j' = 6
        · subst e6; rfl
        by_cases e5 : j' = 5
        · subst e5; rfl
        by_cases e4 : j' = 4
        · subst e4; rfl
        rw [if_neg e7, if_neg e6, if_neg e5, if_neg e4, if_neg e4, if_neg (by omega)]
    · rw [if_neg e, if_neg e]
theorem sx_per {Q : Mem → Int32 → Prop} {S : Mem} {k : Nat} {x : Int32} {g : Gl} {t : Ts} (hk : k < 4) (h : MR S g t) (hq : ∀ S', FrM S S' → MR S' (upd g (4 + k) x) t → Q S' (g (4 + k))) : vc_X7_periodNow S (nI k) x Q := by
  unfold vc_X7_periodNow
  rw [(four_ix k hk).1, nI_clamp (by omega), h.gl (k := 4 + k) (by omega)]
  exact ⟨vp_in_nI (by omega) (by decide), vp_in_nI (by omega) (by decide), fun S2 e => hq S2 (e ▸ FrM.uc16 S _) (e ▸ h.setg (by omega))⟩
