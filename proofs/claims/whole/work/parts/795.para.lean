/-! whole texts -/
def pPos (ℓ : Nat) (b : Nat → Int32) : Nat → Nat
  | 0 => 0
  | j + 1 => (pOrd ℓ b (pPos ℓ b j)).2.1 + 1
abbrev pEnd (ℓ : Nat) (b : Nat → Int32) (j : Nat) : Nat := (pOrd ℓ b (pPos ℓ b j)).2.1
abbrev pOk (ℓ : Nat) (b : Nat → Int32) (j : Nat) : Bool := (pOrd ℓ b (pPos ℓ b j)).1
abbrev pOd (ℓ : Nat) (b : Nat → Int32) (j : Nat) : Od := (pOrd ℓ b (pPos ℓ b j)).2.2
abbrev pGo (ℓ : Nat) (b : Nat → Int32) (j : Nat) : Prop := pOk ℓ b j = true ∧ tkB ℓ b 59 59 (pEnd ℓ b j) = true
theorem pPos_b {ℓ : Nat} {b : Nat → Int32} : ∀ j, (∀ i, i < j → pGo ℓ b i) → 3 * j ≤ pPos ℓ b j ∧ pPos ℓ b j ≤ ℓ
  | 0, _ => ⟨Nat.le_refl 0, Nat.zero_le ℓ⟩
  | j + 1, h => by
    obtain ⟨h1, h2⟩ := pPos_b j (fun i hi => h i (by omega))
    obtain ⟨g1, g2⟩ := h j (by omega)
    have gg := (pOrd_g ℓ b (pPos ℓ b j)).2.2 g1
    have l := (tkB_y g2).1
    show 3 * (j + 1) ≤ pEnd ℓ b j + 1 ∧ pEnd ℓ b j + 1 ≤ ℓ
    have : pPos ℓ b j + 2 ≤ pEnd ℓ b j := gg.1
    omega
def pLast (ℓ : Nat) (b : Nat → Int32) (N : Nat) : Prop := N ≤ 20 ∧ ¬ pGo ℓ b N ∧ ∀ i, i < N → pGo ℓ b i
theorem pLast_ex {ℓ : Nat} (b : Nat → Int32) (hℓ : ℓ ≤ 60) : ∃ N, pLast ℓ b N := by
  have go : ∀ m, (∀ i, i < m → pGo ℓ b i) ∨ ∃ N, N < m ∧ ¬ pGo ℓ b N ∧ ∀ i, i < N → pGo ℓ b i := by
    intro m
    induction m with
    | zero => exact Or.inl (fun i hi => absurd hi (Nat.not_lt_zero i))
    | succ m ih =>
      rcases ih with h | ⟨N, h1, h2, h3⟩
      · by_cases c : pGo ℓ b m
        · exact Or.inl (fun i hi => by
            by_cases e : i = m
            · rw [e]; exact c
            · exact h i (by omega))
        · exact Or.inr ⟨m, by omega, c, h⟩
      · exact Or.inr ⟨N, by omega, h2, h3⟩
  rcases go 21 with h | ⟨N, h1, h2, h3⟩
  · have := pPos_b 21 h
    omega
  · exact ⟨N, by omega, h2, h3⟩
theorem pLast.pos {ℓ : Nat} {b : Nat → Int32} {N : Nat} (h : pLast ℓ b N) {j : Nat} (hj : j ≤ N) : 3 * j ≤ pPos ℓ b j ∧ pPos ℓ b j ≤ ℓ := pPos_b j (fun i hi => h.2.2 i (by omega))
theorem pLast.fin {ℓ : Nat} {b : Nat → Int32} {N : Nat} (h : pLast ℓ b N) {j : Nat} (hj : j ≤ N) : pEnd ℓ b j ≤ ℓ := (pOrd_g ℓ b (pPos ℓ b j)).2.1 (h.pos hj).2
abbrev pAll (ℓ : Nat) (b : Nat → Int32) (N : Nat) : Prop := pOk ℓ b N = true ∧ pEnd ℓ b N = ℓ
section
variable {S : Mem} {ℓ : Nat} {b : Nat → Int32} {N : Nat}
theorem lp_all {Q : Mem → Int32 → Prop} {K : Mem → Prop} (hx : ∀ j, j < ℓ → S 10 0 0 j = b j) (hℓ : ℓ ≤ 60) (hN : pLast ℓ b N) (hy : pAll ℓ b N → ∀ f', f' 3 = nI ℓ → f' 1 = nI (pEnd ℓ b N) → Q (uc S 2 0 0 f') 1) (hn : ¬ pAll ℓ b N → ∀ f', f' 3 = nI ℓ → f' 1 = nI (pEnd ℓ b N) → Q (uc S 2 0 0 f') 0) : ∀ (m j : Nat) (f : Nat → Int32), j + m = N → f 3 = nI ℓ → f 1 = nI (pPos ℓ b j) → vc_X2_readsAll_L6 Q K (m + 1) (uc S 2 0 0 f) (nI j) := by
  have key : ∀ (m j : Nat) (f : Nat → Int32), j + m = N → f 3 = nI ℓ → f 1 = nI (pPos ℓ b j) → (j < N → ∀ f', f' 3 = nI ℓ → f' 1 = nI (pPos ℓ b (j + 1)) → vc_X2_readsAll_L6 Q K m (uc S 2 0 0 f') (nI (j + 1))) → vc_X2_readsAll_L6 Q K (m + 1) (uc S 2 0 0 f) (nI j) := by
    intro m j f hm h3 h1 ih
    have hpos := hN.pos (j := j) (by omega)
    have hend := hN.fin (j := j) (by omega)
    have h20 := hN.1
    rw [vc_X2_readsAll_L6, nI_1]
    refine ⟨fun c => absurd (show nI 60 ≤ nI j from c) (nI_ge (by omega) (by omega)), fun _ => sp_ord hx hℓ (by omega) h3 h1 (fun ok f' a3 (a1 : f' 1 = nI (pEnd ℓ b j)) ao => ⟨fun _ => ?_, fun c9 => absurd c9 (by decide)⟩) (fun ok f' a3 (a1 : f' 1 = nI (pEnd ℓ b j)) => ⟨fun c9 => absurd rfl c9, fun _ => ?_⟩)⟩
    · have e : (uc S 2 0 0 f') 2 0 0 = f' := uc_same ..
      rw [e, a1, a3]
      refine ⟨fun c => sp_sg hx hℓ (by omega) a3 a1 (fun c2 => ⟨fun _ => ?_, fun c9 => absurd c9 (by decide)⟩) (fun c2 => ⟨fun c9 => absurd rfl c9, fun _ => ?_⟩), fun c => ?_⟩
      · have hlt : j < N := by
          by_cases e : j = N
          · subst e; exact absurd ⟨ok, c2⟩ hN.2.1
          · omega
        exact ih hlt _ a3 rfl
      · have ej : j = N := by
          by_cases hlt : j < N
          · exact absurd (hN.2.2 j hlt).2 (ng c2)
          · omega
        subst ej
        exact hn (fun hh => c (by rw [hh.2])) f' a3 a1
      · have hl : pEnd ℓ b j = ℓ := nI_inj (by omega) (by omega) c
        have ej : j = N := by
          by_cases hlt : j < N
          · have := (tkB_y (hN.2.2 j hlt).2).1
            omega
          · omega
        subst ej
        exact hy ⟨ok, hl⟩ f' a3 a1
    · have ej : j = N := by
        by_cases hlt : j < N
        · exact absurd (hN.2.2 j hlt).1 (ng ok)
        · omega
      subst ej
      exact hn (fun hh => ng ok hh.1) f' a3 a1
  intro m
  induction m with
  | zero => exact fun j f hj h3 h1 => key 0 j f hj h3 h1 (fun hlt => absurd hlt (by omega))
  | succ m ih => exact fun j f hj h3 h1 => key (m + 1) j f hj h3 h1 (fun _ f' a3 a1 => ih (j + 1) f' (by omega) a3 a1)
theorem sp_all {Q : Mem → Int32 → Prop} (h3 : S 2 0 0 3 = nI ℓ) (hx : ∀ j, j < ℓ → S 10 0 0 j = b j) (hℓ : ℓ ≤ 60) (hN : pLast ℓ b N) (hy : pAll ℓ b N → ∀ f', f' 3 = nI ℓ → f' 1 = nI (pEnd ℓ b N) → Q (uc S 2 0 0 f') 1) (hn : ¬ pAll ℓ b N → ∀ f', f' 3 = nI ℓ → f' 1 = nI (pEnd ℓ b N) → Q (uc S 2 0 0 f') 0) : vc_X2_readsAll S Q := by
  intro S1 e1
  refine ⟨N + 1, ?_⟩
  rw [e1, nI_lit0]
  exact lp_all hx hℓ hN hy hn N 0 _ (by omega) h3 rfl
/-- nothing of the reference's is another but what the reading of a text uses -/
def RQ (S : Mem) (A : Ar) : Prop := ∀ j, j ≠ 12 → j ≠ 13 → A 15 j = S 15 0 0 j
theorem OdM.ra {k i : Nat} {A A' : Ar} {o : Od} (h : RA k A A') (hi : i ≠ k) (ho : OdM A i o) : OdM A' i o := by
  unfold OdM
  rw [h.2 24 (by decide) (by decide) i hi, h.2 25 (by decide) (by decide) i hi, h.2 26 (by decide) (by decide) i hi, h.2 27 (by decide) (by decide) i hi]
  exact ho
theorem lx_all {Q : Mem → Int32 → Prop} (h11 : S 15 0 0 11 = nI ℓ) (hx : ∀ j, j < ℓ → S 23 0 0 j = b j) (hℓ : ℓ ≤ 60) (hN : pLast ℓ b N) (hy : pAll ℓ b N → ∀ A, RQ S A → A 15 12 = nI (pEnd ℓ b N) → A 15 13 = nI (N + 1) → (∀ i, i < N + 1 → OdM A i (pOd ℓ b i)) → Q (MS S A) 1) (hn : ¬ pAll ℓ b N → ∀ A, RQ S A → A 15 12 = nI (pEnd ℓ b N) → Q (MS S A) 0) : ∀ (m j : Nat), j + m = N → (∀ A, RQ S A → A 15 12 = nI (pEnd ℓ b j) → A 15 13 = nI (j + 1) → (∀ i, i < j + 1 → OdM A i (pOd ℓ b i)) → pOk ℓ b j = true → vc_X7_isComplete_L15 Q (fun (S_13 : Mem) (y1_14 : Int32) => vc_X7_isComplete_J38 Q S_13 y1_14) (m + 1) (MS S A) 1) ∧ (∀ A, RQ S A → A 15 12 = nI (pEnd ℓ b j) → pOk ℓ b j = false → vc_X7_isComplete_L15 Q (fun (S_13 : Mem) (y1_14 : Int32) => vc_X7_isComplete_J38 Q S_13 y1_14) (m + 1) (MS S A) 0) := by
  have neg : ∀ m j, j + m = N → ∀ A, RQ S A → A 15 12 = nI (pEnd ℓ b j) → pOk ℓ b j = false → vc_X7_isComplete_L15 Q (fun (S_13 : Mem) (y1_14 : Int32) => vc_X7_isComplete_J38 Q S_13 y1_14) (m + 1) (MS S A) 0 := fun m j hj A rq a12 ok => by
    have ej : j = N := by
      by_cases hlt : j < N
      · exact absurd (hN.2.2 j hlt).1 (ng ok)
      · omega
    subst ej
    rw [vc_X7_isComplete_L15]
    exact ⟨fun _ => ⟨fun _ => hn (fun hh => ng ok hh.1) A rq a12, fun c9 => absurd rfl c9⟩, fun c9 => absurd rfl c9⟩
  have key : ∀ m j, j + m = N → (j < N → (∀ A, RQ S A → A 15 12 = nI (pEnd ℓ b (j + 1)) → A 15 13 = nI (j + 1 + 1) → (∀ i, i < j + 1 + 1 → OdM A i (pOd ℓ b i)) → pOk ℓ b (j + 1) = true → vc_X7_isComplete_L15 Q (fun (S_13 : Mem) (y1_14 : Int32) => vc_X7_isComplete_J38 Q S_13 y1_14) m (MS S A) 1) ∧ (∀ A, RQ S A → A 15 12 = nI (pEnd ℓ b (j + 1)) → pOk ℓ b (j + 1) = false → vc_X7_isComplete_L15 Q (fun (S_13 : Mem) (y1_14 : Int32) => vc_X7_isComplete_J38 Q S_13 y1_14) m (MS S A) 0)) → ∀ A, RQ S A → A 15 12 = nI (pEnd ℓ b j) → A 15 13 = nI (j + 1) → (∀ i, i < j + 1 → OdM A i (pOd ℓ b i)) → pOk ℓ b j = true → vc_X7_isComplete_L15 Q (fun (S_13 : Mem) (y1_14 : Int32) => vc_X7_isComplete_J38 Q S_13 y1_14) (m + 1) (MS S A) 1 := fun m j hj ih A rq a12 a13 ao ok => by
    have hend := hN.fin (j := j) (by omega)
    have h20 := hN.1
    have a11 : A 15 11 = nI ℓ := (rq 11 (by decide) (by decide)).trans h11
    rw [vc_X7_isComplete_L15]
    refine ⟨fun c9 => absurd c9 (by decide), fun _ => sx_tk (k := j + 1) hx hℓ (by omega) a11 a12 a13 (fun c A1 r1 b11 b12 b13 bo => ⟨fun c9 => absurd c9 (by decide), fun _ => ?_⟩) (fun c => ⟨fun _ => ?_, fun c9 => absurd rfl c9⟩)⟩
    · have hlt : j < N := by
        by_cases e : j = N
        · subst e; exact absurd ⟨ok, c⟩ hN.2.1
        · omega
      have hpos := hN.pos (j := j + 1) (by omega)
      obtain ⟨i1, i2⟩ := ih hlt
      have rq1 : RQ S A1 := fun k h1 h2 => (r1.1 k h1 h2).trans (rq k h1 h2)
      have ao1 : ∀ i, i < j + 1 → OdM A1 i (pOd ℓ b i) := fun i hi => (ao i hi).ra r1 (by omega)
      refine sx_ord (k := j + 1) (p := pPos ℓ b (j + 1)) hx hℓ (by omega) (fun _ => by omega) b11 b12 b13 (fun ok2 A2 r2 d12 d13 od => i1 A2 (fun k h1 h2 => (r2.1 k h1 h2).trans (rq1 k h1 h2)) d12 d13 (fun i hi => ?_) ok2) (fun ok2 A2 r2 d12 d13 => i2 A2 (fun k h1 h2 => (r2.1 k h1 h2).trans (rq1 k h1 h2)) d12 ok2)
      by_cases e : i = j + 1
      · rw [e]; exact od
      · exact (ao1 i (by omega)).ra r2 e
    · have ej : j = N := by
        by_cases hlt : j < N
        · exact absurd (hN.2.2 j hlt).2 (ng c)
        · omega
      subst ej
      unfold vc_X7_isComplete_J38
      rw [ms_15, a11, a12]
      refine ⟨fun c9 => absurd c9 (by decide), fun _ => ⟨fun c2 => hn (fun hh => c2 (by rw [hh.2])) A rq a12, fun c2 => hy ⟨ok, nI_inj (by omega) (by omega) c2⟩ A rq a12 a13 ao⟩⟩
  intro m
  induction m with
  | zero => exact fun j hj => ⟨key 0 j hj (fun hlt => absurd hlt (by omega)), neg 0 j hj⟩
  | succ m ih => exact fun j hj => ⟨key (m + 1) j hj (fun _ => ih (j + 1) (by omega)), neg (m + 1) j hj⟩
theorem ms_id (S : Mem) : MS S (fun t => S t 0 0) = S := by
  funext t P i
  unfold MS
  by_cases c : P = 0 ∧ i = 0 ∧ (t = 15 ∨ (24 ≤ t ∧ t < 28))
  · rw [if_pos c, c.1, c.2.1]
  · rw [if_neg c]
theorem sx_all {Q : Mem → Int32 → Prop} (h11 : S 15 0 0 11 = nI ℓ) (hx : ∀ j, j < ℓ → S 23 0 0 j = b j) (hℓ : ℓ ≤ 60) (hN : pLast ℓ b N) (hy : pAll ℓ b N → ∀ A, RQ S A → A 15 12 = nI (pEnd ℓ b N) → A 15 13 = nI (N + 1) → (∀ i, i < N + 1 → OdM A i (pOd ℓ b i)) → Q (MS S A) 1) (hn : ¬ pAll ℓ b N → ∀ A, RQ S A → A 15 12 = nI (pEnd ℓ b N) → Q (MS S A) 0) : vc_X7_isComplete S Q := by
  intro S1 e1 S3 e3
  have s1 : S1 = MS S (uA (fun t => S t 0 0) 15 (upd (S 15 0 0) 12 0)) := by
    rw [e1]
    conv => lhs; rw [← ms_id S]
    rw [ms_uc (Or.inl rfl), ms_15]
  rw [s1, ms_15, ms_uc (Or.inl rfl)] at e3
  have e15 : uA (fun t => S t 0 0) 15 (upd (S 15 0 0) 12 0) 15 = upd (S 15 0 0) 12 0 := if_pos rfl
  rw [e15] at e3
  rw [e3]
  have g15 : uA (uA (fun t => S t 0 0) 15 (upd (S 15 0 0) 12 0)) 15 (upd (upd (S 15 0 0) 12 0) 13 0) 15 = upd (upd (S 15 0 0) 12 0) 13 0 := if_pos rfl
  generalize uA (uA (fun t => S t 0 0) 15 (upd (S 15 0 0) 12 0)) 15 (upd (upd (S 15 0 0) 12 0) 13 0) = A at *
  have rq : RQ S A := fun j h1 h2 => by rw [g15, upd_app, if_neg h2, upd_app, if_neg h1]
  obtain ⟨i1, i2⟩ := lx_all h11 hx hℓ hN hy hn N 0 (by omega)
  refine sx_ord (k := 0) (p := pPos ℓ b 0) hx hℓ (Nat.zero_le _) (fun _ => by decide) ((rq 11 (by decide) (by decide)).trans h11) (by rw [g15]; rfl) (by rw [g15]; rfl) (fun ok A2 r2 d12 d13 od => ⟨N + 1, i1 A2 (fun k h1 h2 => (r2.1 k h1 h2).trans (rq k h1 h2)) d12 d13 (fun i hi => ?_) ok⟩) (fun ok A2 r2 d12 d13 => ⟨N + 1, i2 A2 (fun k h1 h2 => (r2.1 k h1 h2).trans (rq k h1 h2)) d12 ok⟩)
  rw [show i = 0 by omega]; exact od
end
