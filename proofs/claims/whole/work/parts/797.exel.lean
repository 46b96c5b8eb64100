/-! all orders of a text -/
def exR (os : Nat → Od) : Nat → Nat → St → Nat × St
  | 0, j, s => (j, s)
  | m + 1, j, s => if exB s (os j) = true then exR os m (j + 1) (exD s (os j)) else (j, s)
theorem exR_ok {os : Nat → Od} {n : Nat} (ho : ∀ j, j < n → WO (os j)) : ∀ (m j : Nat) (s : St), j + m = n → okS s → okS (exR os m j s).2
  | 0, _, _, _, hs => hs
  | m + 1, j, s, hj, hs => by
    rw [exR]
    split
    · rename_i c
      exact exR_ok ho m (j + 1) _ (by omega) (exD_ok hs (ho j (by omega)) c)
    · exact hs
theorem exR_le {os : Nat → Od} : ∀ (m j : Nat) (s : St), (exR os m j s).1 ≤ j + m
  | 0, _, _ => Nat.le_refl _
  | m + 1, j, s => by
    rw [exR]
    split
    · have := exR_le (os := os) m (j + 1) (exD s (os j))
      omega
    · show j ≤ j + (m + 1)
      omega
/-- the present place and the reading of the text alone have changed -/
def FrE (S S' : Mem) : Prop := (∀ t P' i', ¬ ((t = 0 ∨ t = 3 ∨ t = 5 ∨ t = 6 ∨ t = 7 ∨ t = 8 ∨ t = 12 ∨ t = 13) ∧ P' = 0) → t ≠ 2 → S' t P' i' = S t P' i') ∧ S' 2 0 0 3 = S 2 0 0 3
theorem FrE.rf (S : Mem) : FrE S S := ⟨fun _ _ _ _ _ => rfl, rfl⟩
theorem FrE.tr {S S' S'' : Mem} (h : FrE S S') (h2 : FrE S' S'') : FrE S S'' := ⟨fun t P' i' a b => (h2.1 t P' i' a b).trans (h.1 t P' i' a b), h2.2.trans h.2⟩
theorem FrE.uc2 {S : Mem} {f : Nat → Int32} (h : f 3 = S 2 0 0 3) : FrE S (uc S 2 0 0 f) := ⟨fun t P' i' _ b => uc_t b, by rw [uc_same]; exact h⟩
theorem FrP.e {S S' : Mem} (h : FrP 0 S S') : FrE S S' := ⟨fun t P' i' a _ => h t P' i' a, by rw [h 2 0 0 (by omega)]⟩
theorem PRs.uc2 {S : Mem} {P : Nat} {s : St} {f : Nat → Int32} (h : PRs S P s) : PRs (uc S 2 0 0 f) P s := h.eqs (uc_t (by decide)) (uc_t (by decide)) (uc_t (by decide)) (fun i _ => ⟨uc_t (by decide), uc_t (by decide), uc_t (by decide)⟩)
theorem uc_id {S : Mem} {t P i : Nat} {f : Nat → Int32} (h : S t P i = f) : S = uc S t P i f := by
  funext t' P' i'
  unfold uc
  by_cases c : t' = t ∧ P' = P ∧ i' = i
  · rw [if_pos c, c.1, c.2.1, c.2.2]; exact h
  · rw [if_neg c]
theorem OdM.cg {A A' : Ar} {k : Nat} {o : Od} (h : ∀ t, 24 ≤ t → t < 28 → A' t = A t) (ho : OdM A k o) : OdM A' k o := by
  unfold OdM
  rw [h 24 (by decide) (by decide), h 25 (by decide) (by decide), h 26 (by decide) (by decide), h 27 (by decide) (by decide)]
  exact ho
section
variable {ℓ : Nat} {b : Nat → Int32} {N : Nat}
def cPos (ℓ : Nat) (b : Nat → Int32) (N j : Nat) : Nat := if j ≤ N then pPos ℓ b j else ℓ
theorem pOrd_end {p : Nat} (h : ℓ ≤ p) : (pOrd ℓ b p).1 = false := by
  have nt : ∀ x, ¬ tkB ℓ b x x p = true := fun x h => by
    have := (tkB_y h).1
    omega
  unfold pOrd
  rw [if_neg (nt _), if_neg (nt _), if_neg (nt _), if_neg (nt _)]
theorem pOk_all (hN : pLast ℓ b N) (ha : pAll ℓ b N) {j : Nat} (hj : j ≤ N) : pOk ℓ b j = true := by
  by_cases e : j = N
  · rw [e]; exact ha.1
  · exact (hN.2.2 j (by omega)).1
theorem pOd_wo (hN : pLast ℓ b N) (ha : pAll ℓ b N) {j : Nat} (hj : j ≤ N) : WO (pOd ℓ b j) := ((pOrd_g ℓ b (pPos ℓ b j)).2.2 (pOk_all hN ha hj)).2
theorem lp_exe {Q : Mem → Int32 → Prop} {X : Mem → Nat → Prop} {K : Mem → Int32 → Prop} (hℓ : ℓ ≤ 60) (hN : pLast ℓ b N) (ha : pAll ℓ b N) : ∀ (m j : Nat) (S : Mem) (f : Nat → Int32) (s : St), j + m = N + 1 → okS s → PRs S 0 s → (∀ i, i < ℓ → S 10 0 0 i = b i) → f 3 = nI ℓ → f 1 = nI (cPos ℓ b N j) → S 2 0 0 3 = nI ℓ → (∀ S', FrE S S' → PRs S' 0 (exR (pOd ℓ b) m j s).2 → K S' (nI (exR (pOd ℓ b) m j s).1)) → vc_X6_execute_L40 Q X K (m + 1) (uc S 2 0 0 f) (nI j) := by
  intro m
  induction m with
  | zero =>
    intro j S f s hj hs hP hx h3 h1 hl hK
    have h20 := hN.1
    have e1 : f 1 = nI ℓ := by rw [h1, cPos, if_neg (by omega)]
    have no := pOrd_end (b := b) (Nat.le_refl ℓ)
    have ge : (pOrd ℓ b ℓ).2.1 = ℓ := by
      have := pOrd_g ℓ b ℓ
      have h1 := this.1
      have h2 := this.2.1 (Nat.le_refl ℓ)
      omega
    rw [vc_X6_execute_L40]
    unfold vc_X2_readNextOrder
    refine ⟨fun c => absurd (show nI 60 ≤ nI j from c) (nI_ge (by omega) (by omega)), fun _ => sp_ord hx hℓ (by omega) h3 e1 (fun ok => absurd no (by rw [ok]; decide)) (fun _ f' a3 a1 => ?_)⟩
    rw [ge] at a1
    refine sp_sg hx hℓ (by omega) a3 a1 (fun c => ?_) (fun c => ⟨Or.inl rfl, fun _ => hK _ (FrE.uc2 (a3.trans hl.symm)) hP.uc2, fun c9 => absurd rfl c9⟩)
    have := (tkB_y c).1
    omega
  | succ m ih =>
    intro j S f s hj hs hP hx h3 h1 hl hK
    have h20 := hN.1
    have hjN : j ≤ N := by omega
    have hpos := hN.pos hjN
    have hend := hN.fin hjN
    have ok := pOk_all hN ha hjN
    have wo := pOd_wo hN ha hjN
    have e1 : f 1 = nI (pPos ℓ b j) := by rw [h1, cPos, if_pos hjN]
    rw [exR] at hK
    rw [vc_X6_execute_L40]
    unfold vc_X2_readNextOrder
    have go : ∀ f', f' 3 = nI ℓ → f' 1 = nI (cPos ℓ b N (j + 1)) → OdC f' (pOd ℓ b j) → vc_X6_carriesOut (uc S 2 0 0 f') (fun (S_10 : Mem) (r_11 : Int32) => ((r_11 = 0) → K S_10 (nI j)) ∧ ((¬ (r_11 = 0)) → vc_X6_execute_L40 Q X K (m + 1) S_10 (nI j + (1 : Int32)))) := fun f' a3 a1 od => by
      have hPf : PRs (uc S 2 0 0 f') 0 s := hP.uc2
      have fe : FrE S (uc S 2 0 0 f') := FrE.uc2 (a3.trans hl.symm)
      refine sp_ex hs hPf wo (by rw [uc_same]; exact od) (fun yb S' hf h' => ⟨fun c9 => absurd c9 (by decide), fun _ => ?_⟩) (fun nb => ⟨fun _ => ?_, fun c9 => absurd rfl c9⟩)
      · rw [if_pos yb] at hK
        have e2 : S' 2 0 0 = f' := by rw [hf 2 0 0 (by omega), uc_same]
        rw [uc_id e2, nI_1]
        exact ih (j + 1) S' f' _ (by omega) (exD_ok hs wo yb) h' (fun i hi => by rw [hf 10 0 0 (by omega), uc_t (by decide)]; exact hx i hi) a3 a1 (by rw [e2]; exact a3) (fun S'' hf2 h2 => hK S'' ((fe.tr hf.e).tr hf2) h2)
      · rw [if_neg (ng nb)] at hK
        exact hK _ fe hPf
    refine ⟨fun c => absurd (show nI 60 ≤ nI j from c) (nI_ge (by omega) (by omega)), fun _ => sp_ord hx hℓ (by omega) h3 e1 (fun _ f' a3 (a1 : f' 1 = nI (pEnd ℓ b j)) od => ?_) (fun no => absurd ok (ng no))⟩
    refine sp_sg hx hℓ (by omega) a3 a1 (fun c => ⟨Or.inr rfl, fun c9 => absurd c9 (by decide), fun _ => go _ (by exact a3) ?_ ?_⟩) (fun c => ⟨Or.inr rfl, fun c9 => absurd c9 (by decide), fun _ => go _ a3 ?_ od⟩)
    · have hlt : j < N := by
        by_cases e : j = N
        · subst e; exact absurd ⟨ok, c⟩ hN.2.1
        · omega
      rw [cPos, if_pos (by omega)]
      rfl
    · exact od
    · have ej : j = N := by
        by_cases hlt : j < N
        · exact absurd (hN.2.2 j hlt).2 (ng c)
        · omega
      subst ej
      rw [cPos, if_neg (by omega), a1, ha.2]
theorem lx_exe {Q : Mem → Int32 → Prop} {K : Mem → Int32 → Prop} {os : Nat → Od} (hN : N ≤ 20) (ho : ∀ j, j < N + 1 → WO (os j)) : ∀ (m j : Nat) (S : Mem) (s : St), j + m = N + 1 → okS s → MR S s.1 s.2.1 → S 15 0 0 13 = nI (N + 1) → (∀ i, i < N + 1 → OdM (fun t => S t 0 0) i (os i)) → (∀ S', FrM S S' → MR S' (exR os m j s).2.1 (exR os m j s).2.2.1 → K S' (nI (exR os m j s).1)) → vc_X7_execute_L24 Q K (m + 1) S (nI j) := by
  intro m
  induction m with
  | zero =>
    intro j S s hj hs hm h13 hod hK
    have ej : j = N + 1 := by omega
    subst ej
    rw [vc_X7_execute_L24, h13]
    exact ⟨fun _ => hK S (FrM.rf S) hm, fun c => absurd (nI_le (Nat.le_refl _) (by omega)) c⟩
  | succ m ih =>
    intro j S s hj hs hm h13 hod hK
    rw [exR] at hK
    rw [vc_X7_execute_L24, h13, nI_1]
    refine ⟨fun c => absurd c (nI_ge (by omega) (by omega)), fun _ => sx_can hs hm (ho j (by omega)) (by omega) (hod j (by omega)) ⟨fun c => ?_, fun c => ?_⟩⟩
    · have nb : ¬ exB s (os j) = true := fun hh => by rw [if_pos hh] at c; exact absurd c (by decide)
      rw [if_neg nb] at hK
      exact hK S (FrM.rf S) hm
    · have yb : exB s (os j) = true := by
        by_cases hh : exB s (os j) = true
        · exact hh
        · rw [if_neg hh] at c; exact absurd rfl c
      rw [if_pos yb] at hK
      refine sx_do hs hm (ho j (by omega)) (by omega) (hod j (by omega)) yb fun S' r hf h' => ih (j + 1) S' _ (by omega) (exD_ok hs (ho j (by omega)) yb) h' (by rw [hf.2 13 (by decide)]; exact h13) (fun i hi => ?_) (fun S'' hf2 h2 => hK S'' (hf.tr hf2) h2)
      exact (hod i hi).cg (fun t h1 h2 => hf.1 t 0 0 (by omega) (by omega) (by omega) (by omega))
end
