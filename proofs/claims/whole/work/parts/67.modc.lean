/-! the reference: follow, read -/
def FrM (S S' : Mem) : Prop := (∀ t P' i', t ≠ 15 → t ≠ 16 → t ≠ 21 → t ≠ 22 → S' t P' i' = S t P' i') ∧ ∀ k, k ≠ 8 → S' 15 0 0 k = S 15 0 0 k
theorem FrM.rf (S : Mem) : FrM S S := ⟨fun _ _ _ _ _ _ _ => rfl, fun _ _ => rfl⟩
theorem FrM.tr {S S' S'' : Mem} (h : FrM S S') (h2 : FrM S' S'') : FrM S S'' := ⟨fun t P' i' a b c d => (h2.1 t P' i' a b c d).trans (h.1 t P' i' a b c d), fun k hk => (h2.2 k hk).trans (h.2 k hk)⟩
theorem FrM.uc16 (S : Mem) (f : Nat → Int32) : FrM S (uc S 16 0 0 f) := ⟨fun _ _ _ _ h _ _ => uc_t h, fun k _ => by rw [uc_t (by decide)]⟩
theorem FrM.uc22 (S : Mem) (f : Nat → Int32) : FrM S (uc S 22 0 0 f) := ⟨fun _ _ _ _ _ _ h => uc_t h, fun k _ => by rw [uc_t (by decide)]⟩
theorem FrS.m {S S' : Mem} (h : FrS S S') : FrM S S' := ⟨fun t P' i' a _ c _ => h.1 t P' i' a c, h.2⟩
def setT (t : Ts) (i : Nat) (x : Th) : Ts := fun i' => if i' = i then x else t i'
theorem setT_same (t : Ts) (i : Nat) (x : Th) : setT t i x i = x := if_pos rfl
theorem setT_id (t : Ts) (i : Nat) : setT t i (t i) = t := by
  funext i'
  unfold setT
  by_cases e : i' = i
  · rw [if_pos e, e]
  · rw [if_neg e]
theorem sx_putT {Q : Mem → Prop} {S : Mem} {i j : Nat} {g : Gl} {t : Ts} {x : Th} {y : Int32} (hi : i < 10) (hj : j < 21) (h : MR S g (setT t i x)) (hq : ∀ S', FrM S S' → MR S' g (setT t i (upd x j y)) → Q S') : vc_X7_put S (nI i) (nI j) y Q := by
  refine sx_put hi hj fun S' e => hq S' (e ▸ FrM.uc16 S _) ?_
  unfold MR
  rw [e, uc_same]
  refine (RT.sett (x := y) h hi hj).cg (fun _ _ => rfl) (fun i' _ j' _ => ?_)
  show (if i' = i then upd (setT t i x i) j y else setT t i x i') j' = _
  rw [setT_same]
  unfold setT
  by_cases e : i' = i
  · rw [if_pos e, if_pos e]
  · rw [if_neg e, if_neg e, if_neg e]
theorem sx_ofT {Q : Mem → Int32 → Prop} {S : Mem} {i j : Nat} {g : Gl} {t : Ts} {x : Th} (hi : i < 10) (hj : j < 21) (h : MR S g (setT t i x)) (hq : Q S (x j)) : vc_X7_of S (nI i) (nI j) Q := sx_of hi hj h (by rw [setT_same]; exact hq)
theorem sx_change {Q : Mem → Int32 → Prop} {S : Mem} {i : Nat} {g : Gl} {t : Ts} (hi : i < 10) (hl : ¬ t i 1 = 0) (h : MR S g t) (hq : Q S ((g 1 + t i 2 - t i 4) / t i 1)) : vc_X7_changeOf S (nI i) Q := by
  unfold vc_X7_changeOf
  refine ⟨vv1, sx_of (j := 2) hi (by decide) h (sx_of (j := 4) hi (by decide) h (sx_of (j := 1) hi (by decide) h ⟨hl, ?_⟩))⟩
  rw [h.g1]
  exact hq
theorem sx_follow {Q : Mem → Prop} {S : Mem} {i : Nat} {g : Gl} {t : Ts} (hi : i < 10) (hl : ¬ t i 1 = 0) (h : MR S g t) (hq : ∀ S', FrM S S' → MR S' g (setT t i (folT (g 1) (t i))) → Q S') : vc_X7_follow S (nI i) Q := sx_of (j := 4) hi (by decide) h (sx_change hi hl h (sx_putT (j := 4) (t := t) (x := t i) hi (by decide) (by rw [setT_id]; exact h) hq))
theorem rd_ix : ∀ k, k < 11 → (9 : Int32) + nI (k + 1) = nI (10 + k) ∧ (9 : Int32) + nI (k + 1) - 2 = nI (8 + k) ∧ (nI (k + 1) ≤ 1 ↔ k = 0) ∧ nI (k + 1) + (-1) = nI k := by decide +kernel
def rdX (t : Th) (k : Nat) : Th := fun j => if 10 + k < j ∧ j < 21 then t (j - 2) else t j
theorem lx_read {Q : Mem → Prop} {K : Mem → Prop} {i : Nat} {g : Gl} {t : Ts} (hi : i < 10) : ∀ (k : Nat) (S : Mem), k < 11 → MR S g (setT t i (rdX (t i) k)) → (∀ S', FrM S S' → MR S' g (setT t i (rdX (t i) 0)) → K S') → vc_X7_read_L3 Q K (nI i) (k + 1) S (nI (k + 1)) := by
  intro k
  induction k with
  | zero =>
    intro S hk h hK
    rw [vc_X7_read_L3]
    exact ⟨fun _ => hK S (FrM.rf S) h, fun c => absurd (by decide) c⟩
  | succ k ih =>
    intro S hk h hK
    obtain ⟨e1, e2, e3, e4⟩ := rd_ix (k + 1) hk
    rw [vc_X7_read_L3, e2, e1, e4]
    refine ⟨fun c => absurd (e3.mp c) (by omega), fun _ => sx_ofT hi (by omega) h (sx_putT hi (by omega) h fun S' hf h' => ih S' (by omega) (h'.cg (fun _ _ => rfl) (fun i' _ j' _ => ?_)) (fun S'' hf2 => hK S'' (hf.tr hf2)))⟩
    unfold setT
    by_cases e : i' = i
    · rw [if_pos e, if_pos e, upd_app]
      unfold rdX
      by_cases c : j' = 10 + (k + 1)
      · rw [if_pos c, if_neg (by omega), if_pos (by omega)]
        congr 1
        omega
      · rw [if_neg c]
        by_cases c2 : 10 + (k + 1) < j' ∧ j' < 21
        · rw [if_pos c2, if_pos (by omega)]
        · rw [if_neg c2, if_neg (by omega)]
    · rw [if_neg e, if_neg e]
theorem MR.setg {S : Mem} {g : Gl} {t : Ts} {k : Nat} {x : Int32} (h : MR S g t) (hk : k < 16) : MR (uc S 16 0 0 (upd (S 16 0 0) k x)) (upd g k x) t := by
  unfold MR
  rw [uc_same]
  exact RT.setg h hk
theorem sx_read {Q : Mem → Prop} {S : Mem} {i : Nat} {g : Gl} {t : Ts} (hi : i < 10) (h : MR S g t) (hq : ∀ S', FrM S S' → MR S' (upd g 12 (g 12 + 1)) (setT t i (readT (g 0) (t i))) → Q S') : vc_X7_read S (nI i) Q := by
  have c12 : (12 : Int32).toNatClampNeg = 12 := rfl
  have fin : ∀ (S : Mem) (y : Int32), y = readT (g 0) (t i) 7 → MR S g (setT t i (upd (upd (rdX (t i) 0) 9 (g 0)) 10 (t i 4))) → (∀ S', FrM S S' → MR S' (upd g 12 (g 12 + 1)) (setT t i (readT (g 0) (t i))) → Q S') → vc_X7_read_J90 Q (nI i) S (nI i) 7 y := fun S y hy h hq => by
    refine sx_putT (j := 7) hi (by decide) h fun S14 hf h14 => ⟨vv12, vv12, fun S16 e => ?_⟩
    rw [h14.g12, c12] at e
    refine hq S16 (hf.tr (e ▸ FrM.uc16 S14 _)) (e ▸ (h14.setg (by decide)).cg (fun _ _ => rfl) (fun i' _ j' hj' => ?_))
    unfold setT
    by_cases e : i' = i
    · rw [if_pos e, if_pos e, upd_app, upd_app, upd_app, hy]
      by_cases e7 : j' = 7
      · rw [if_pos e7, e7]
      · rw [if_neg e7]
        by_cases e10 : j' = 10
        · rw [if_pos e10, e10]; rfl
        · rw [if_neg e10]
          by_cases e9 : j' = 9
          · rw [if_pos e9, e9]; rfl
          · rw [if_neg e9]
            unfold rdX readT
            rw [if_neg e9, if_neg e10]
            by_cases c : 11 ≤ j' ∧ j' < 21
            · rw [if_pos (by omega), if_pos c]
            · rw [if_neg (by omega), if_neg c, if_neg e7]
    · rw [if_neg e, if_neg e]
  refine ⟨11, lx_read (t := t) (g := g) hi 10 S (by decide) (h.cg (fun _ _ => rfl) (fun i' _ j' hj' => ?_)) fun S5 hf5 h5 => ⟨vv0, ?_⟩⟩
  · unfold setT rdX
    by_cases e : i' = i
    · rw [if_pos e, if_neg (by omega), e]
    · rw [if_neg e]
  · rw [h5.g0]
    refine sx_putT (j := 9) hi (by decide) h5 fun S7 hf7 h7 => sx_ofT (j := 4) hi (by decide) h7 (sx_putT (j := 10) hi (by decide) h7 fun S10 hf10 h10 => sx_ofT (j := 7) hi (by decide) h10 ?_)
    have fr : FrM S S10 := (hf5.tr hf7).tr hf10
    refine ⟨fun c => ?_, fun c => sx_ofT (j := 7) hi (by decide) h10 ?_⟩
    · refine fin S10 6 ?_ h10 (fun S' hf' => hq S' (fr.tr hf'))
      show 6 = if t i 7 < 6 then t i 7 + 1 else 6
      rw [if_neg (i_nlt.mpr (show 6 ≤ t i 7 from c))]
    · refine fin S10 _ ?_ h10 (fun S' hf' => hq S' (fr.tr hf'))
      show t i 7 + 1 = if t i 7 < 6 then t i 7 + 1 else 6
      rw [if_pos (i_nle.mp (show ¬ 6 ≤ t i 7 from c))]
