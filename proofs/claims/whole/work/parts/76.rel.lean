/-! the relation -/
def okS (s : St) : Prop := WSs s ∧ (s.1 0).toInt ≤ 9999
def SnC (S : Mem) (q : Nat → Bool) (z : Nat → St) : Prop := ∀ P, P < 2 → (S 4 P 0 1 = if q P = true then 1 else 0) ∧ (q P = true → PRs S (9 + P) (z P))
def SnM (S : Mem) (q : Nat → Bool) (z : Nat → St) : Prop := ∀ P, P < 2 → (S 19 0 0 P = if q P = true then 1 else 0) ∧ (q P = true → RT (S 18 0 0) (226 * P) (z P).1 (z P).2.1)
def TxC (S : Mem) (ℓ : Nat) (b : Nat → Int32) : Prop := S 2 0 0 3 = nI ℓ ∧ ∀ j, j < ℓ → S 10 0 0 j = b j
def TxM (S : Mem) (ℓ : Nat) (b : Nat → Int32) : Prop := S 15 0 0 11 = nI ℓ ∧ ∀ j, j < ℓ → S 23 0 0 j = b j
def RelC (S : Mem) (s : St) (ν k : Nat) (h : Nat → St) (q : Nat → Bool) (z : Nat → St) (ℓ : Nat) (b : Nat → Int32) : Prop := PRs S 0 s ∧ HR S ν k h ∧ SnC S q z ∧ TxC S ℓ b
def RelM (S : Mem) (s : St) (k : Nat) (h : Nat → St) (q : Nat → Bool) (z : Nat → St) (ℓ : Nat) (b : Nat → Int32) : Prop := MR S s.1 s.2.1 ∧ HM S k h ∧ SnM S q z ∧ TxM S ℓ b
def OkA (s : St) (k : Nat) (h : Nat → St) (q : Nat → Bool) (z : Nat → St) (ℓ : Nat) (b : Nat → Int32) : Prop := okS s ∧ (∀ j, j < k → okS (h j)) ∧ (∀ P, P < 2 → q P = true → okS (z P)) ∧ ℓ ≤ 60 ∧ ∀ j, j < ℓ → 33 ≤ (b j).toInt ∧ (b j).toInt ≤ 126
def Rel (S : Mem) : Prop := ∃ (s : St) (ν k : Nat) (h : Nat → St) (q : Nat → Bool) (z : Nat → St) (ℓ : Nat) (b : Nat → Int32), OkA s k h q z ℓ b ∧ RelC S s ν k h q z ℓ b ∧ RelM S s k h q z ℓ b
/-- the class's side is left as it is -/
def FC (S S' : Mem) : Prop := ∀ t, t < 15 → S' t = S t
/-- the reference's side is left as it is -/
def FR (S S' : Mem) : Prop := ∀ t, 15 ≤ t → S' t = S t
theorem FC.rf (S : Mem) : FC S S := fun _ _ => rfl
theorem FR.rf (S : Mem) : FR S S := fun _ _ => rfl
theorem FC.tr {S S' S'' : Mem} (h : FC S S') (h2 : FC S' S'') : FC S S'' := fun t ht => (h2 t ht).trans (h t ht)
theorem FR.tr {S S' S'' : Mem} (h : FR S S') (h2 : FR S' S'') : FR S S'' := fun t ht => (h2 t ht).trans (h t ht)
theorem FrP.fr {P : Nat} {S S' : Mem} (h : FrP P S S') : FR S S' := fun t ht => funext fun P' => funext fun i' => h t P' i' (fun hh => by omega)
theorem FrH.fr {S S' : Mem} (h : FrH S S') : FR S S' := fun t ht => funext fun P' => funext fun i' => h t P' i' (fun hh => by omega) (fun hh => by omega)
theorem FrM.fc {S S' : Mem} (h : FrM S S') : FC S S' := fun t ht => funext fun P' => funext fun i' => h.1 t P' i' (by omega) (by omega) (by omega) (by omega)
theorem FrV.fc {S S' : Mem} (h : FrV S S') : FC S S' := fun t ht => funext fun P' => funext fun i' => h.1 t P' i' (by omega) (by omega)
theorem FC.uc {t P i : Nat} {f : Nat → Int32} (ht : 15 ≤ t) (S : Mem) : FC S (uc S t P i f) := fun t' ht' => funext fun P' => funext fun i' => uc_t (by omega)
theorem FR.uc {t P i : Nat} {f : Nat → Int32} (ht : t < 15) (S : Mem) : FR S (uc S t P i f) := fun t' ht' => funext fun P' => funext fun i' => uc_t (by omega)
theorem PR.fc {S S' : Mem} {P n : Nat} {g : Gl} {t : Ts} (hf : FC S S') (h : PR S P g t n) : PR S' P g t n := h.eqs (by rw [hf 3 (by decide)]) (by rw [hf 12 (by decide)]) (by rw [hf 13 (by decide)]) (fun i _ => ⟨by rw [hf 5 (by decide)], by rw [hf 6 (by decide)], by rw [hf 7 (by decide)]⟩)
variable {s s' : St} {ν k : Nat} {h : Nat → St} {q : Nat → Bool} {z : Nat → St} {ℓ : Nat} {b : Nat → Int32}
theorem RelC.fc {S S' : Mem} (hf : FC S S') (hc : RelC S s ν k h q z ℓ b) : RelC S' s ν k h q z ℓ b := by
  obtain ⟨h1, ⟨h2, h3, h4, h5⟩, h6, h7, h8⟩ := hc
  refine ⟨h1.fc hf, ⟨h2, by rw [hf 1 (by decide)]; exact h3, by rw [hf 1 (by decide)]; exact h4, fun j hj => (h5 j hj).fc hf⟩, fun P hP => ⟨by rw [hf 4 (by decide)]; exact (h6 P hP).1, fun hq => ((h6 P hP).2 hq).fc hf⟩, by rw [hf 2 (by decide)]; exact h7, fun j hj => by rw [hf 10 (by decide)]; exact h8 j hj⟩
theorem RelM.fr {S S' : Mem} (hf : FR S S') (hm : RelM S s k h q z ℓ b) : RelM S' s k h q z ℓ b := by
  obtain ⟨h1, ⟨h2, h3, h4⟩, h6, h7, h8⟩ := hm
  refine ⟨?_, ⟨h2, by rw [hf 15 (by decide)]; exact h3, fun j hj => by rw [hf 17 (by decide)]; exact h4 j hj⟩, fun P hP => ⟨by rw [hf 19 (by decide)]; exact (h6 P hP).1, fun hq => by rw [hf 18 (by decide)]; exact (h6 P hP).2 hq⟩, by rw [hf 15 (by decide)]; exact h7, fun j hj => by rw [hf 23 (by decide)]; exact h8 j hj⟩
  unfold MR
  rw [hf 16 (by decide)]
  exact h1
theorem RelC.now {S S' : Mem} (hf : FrP 0 S S') (hp : PRs S' 0 s') (hc : RelC S s ν k h q z ℓ b) : RelC S' s' ν k h q z ℓ b := by
  obtain ⟨h1, ⟨h2, h3, h4, h5⟩, h6, h7, h8⟩ := hc
  exact ⟨hp, ⟨h2, by rw [hf 1 0 0 (by omega)]; exact h3, by rw [hf 1 0 0 (by omega)]; exact h4, fun j hj => (h5 j hj).frP (by omega) hf⟩, fun P hP => ⟨by rw [hf 4 P 0 (by omega)]; exact (h6 P hP).1, fun hq => ((h6 P hP).2 hq).frP (by omega) hf⟩, by rw [hf 2 0 0 (by omega)]; exact h7, fun j hj => by rw [hf 10 0 0 (by omega)]; exact h8 j hj⟩
theorem RelC.save {S S' : Mem} {ν' k' : Nat} {h' : Nat → St} (hf : FrH S S') (hr : HR S' ν' k' h') (hc : RelC S s ν k h q z ℓ b) : RelC S' s ν' k' h' q z ℓ b := by
  obtain ⟨h1, -, h6, h7, h8⟩ := hc
  have pr : ∀ (P : Nat) (s : St), P < 2 ∨ 8 ≤ P → PRs S P s → PRs S' P s := fun P s hP hp => hp.eqs (hf _ _ _ (by omega) (by omega)) (hf _ _ _ (by omega) (by omega)) (hf _ _ _ (by omega) (by omega)) (fun i _ => ⟨hf _ _ _ (by omega) (by omega), hf _ _ _ (by omega) (by omega), hf _ _ _ (by omega) (by omega)⟩)
  exact ⟨pr 0 _ (by omega) h1, hr, fun P hP => ⟨by rw [hf 4 P 0 (by omega) (by omega)]; exact (h6 P hP).1, fun hq => pr (9 + P) _ (by omega) ((h6 P hP).2 hq)⟩, by rw [hf 2 0 0 (by omega) (by omega)]; exact h7, fun j hj => by rw [hf 10 0 0 (by omega) (by omega)]; exact h8 j hj⟩
theorem RelM.now {S S' : Mem} (hf : FrM S S') (hp : MR S' s'.1 s'.2.1) (hm : RelM S s k h q z ℓ b) : RelM S' s' k h q z ℓ b := by
  obtain ⟨h1, ⟨h2, h3, h4⟩, h6, h7, h8⟩ := hm
  exact ⟨hp, ⟨h2, by rw [hf.2 2 (by decide)]; exact h3, fun j hj => by rw [hf.1 17 0 0 (by decide) (by decide) (by decide) (by decide)]; exact h4 j hj⟩, fun P hP => ⟨by rw [hf.1 19 0 0 (by decide) (by decide) (by decide) (by decide)]; exact (h6 P hP).1, fun hq => by rw [hf.1 18 0 0 (by decide) (by decide) (by decide) (by decide)]; exact (h6 P hP).2 hq⟩, by rw [hf.2 11 (by decide)]; exact h7, fun j hj => by rw [hf.1 23 0 0 (by decide) (by decide) (by decide) (by decide)]; exact h8 j hj⟩
theorem RelM.save {S S' : Mem} {k' : Nat} {h' : Nat → St} (hf : FrV S S') (hr : HM S' k' h') (hm : RelM S s k h q z ℓ b) : RelM S' s k' h' q z ℓ b := by
  obtain ⟨h1, -, h6, h7, h8⟩ := hm
  refine ⟨?_, hr, fun P hP => ⟨by rw [hf.1 19 0 0 (by decide) (by decide)]; exact (h6 P hP).1, fun hq => by rw [hf.1 18 0 0 (by decide) (by decide)]; exact (h6 P hP).2 hq⟩, by rw [hf.2 11 (by decide)]; exact h7, fun j hj => by rw [hf.1 23 0 0 (by decide) (by decide)]; exact h8 j hj⟩
  unfold MR
  rw [hf.1 16 0 0 (by decide) (by decide)]
  exact h1
theorem RelM.six {S S' : Mem} {x : Int32} (e : S' = uc S 15 0 0 (upd (S 15 0 0) 6 x)) (hm : RelM S s k h q z ℓ b) : RelM S' s k h q z ℓ b ∧ FC S S' ∧ S' 15 0 0 6 = x := by
  obtain ⟨h1, ⟨h2, h3, h4⟩, h6, h7, h8⟩ := hm
  subst e
  refine ⟨⟨?_, ⟨h2, ?_, fun j hj => ?_⟩, fun P hP => ⟨?_, fun hq => ?_⟩, ?_, fun j hj => ?_⟩, FC.uc (by decide) S, by rw [uc_same, upd_app, if_pos rfl]⟩
  · unfold MR; rw [uc_t (by decide)]; exact h1
  · rw [uc_same, upd_app, if_neg (by decide)]; exact h3
  · rw [uc_t (by decide)]; exact h4 j hj
  · rw [uc_t (by decide)]; exact (h6 P hP).1
  · rw [uc_t (by decide)]; exact (h6 P hP).2 hq
  · rw [uc_same, upd_app, if_neg (by decide)]; exact h7
  · rw [uc_t (by decide)]; exact h8 j hj
/-- what follows a call of the reference -/
def Tail (K : Mem → (Nat → Int64) → Prop) (o : Nat → Int64) (c : Int32) (S : Mem) (r : Int32) : Prop :=
  vc_X7_thrown S (fun (S_6 : Mem) (r_7 : Int32) =>
  ((r_7 = c) →
  ((¬ c = 0) →
  K S_6 o) ∧ ((c = 0) →
  (((lg_cmp (o 0) (r.toInt64)) = 0) →
  K S_6 o) ∧ ((¬ (lg_cmp (o 0) (r.toInt64)) = 0) →
  False))) ∧ ((¬ r_7 = c) →
  False))
theorem tail_ok {K : Mem → (Nat → Int64) → Prop} {o : Nat → Int64} {c r : Int32} {S : Mem} (h6 : S 15 0 0 6 = c) (h0 : c = 0 → o 0 = r.toInt64) (hK : K S o) : Tail K o c S r := by
  refine ⟨fun _ => ⟨fun _ => hK, fun hc => ⟨fun _ => hK, fun hn => hn ?_⟩⟩, fun hn => hn h6⟩
  rw [h0 hc]
  unfold lg_cmp
  simp
