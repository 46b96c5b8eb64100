/-! calls: what stands of the class (CZ) and of the reference (MZ) -/
section
variable {S0 S S' : Mem} {s s' : St} {ν k : Nat} {h : Nat → St} {q : Nat → Bool} {z : Nat → St} {ℓ : Nat} {b : Nat → Int32} {c c' : Int32}
def CZ (S0 S : Mem) (s : St) (ν k : Nat) (h : Nat → St) (q : Nat → Bool) (z : Nat → St) (ℓ : Nat) (b : Nat → Int32) : Prop := FR S0 S ∧ RelC S s ν k h q z ℓ b
def MZ (S0 S : Mem) (c : Int32) (s : St) (k : Nat) (h : Nat → St) (q : Nat → Bool) (z : Nat → St) (ℓ : Nat) (b : Nat → Int32) : Prop := FC S0 S ∧ RelM S s k h q z ℓ b ∧ S 15 0 0 6 = c
theorem CZ.ini (hc : RelC S s ν k h q z ℓ b) : CZ S S s ν k h q z ℓ b := ⟨FR.rf S, hc⟩
theorem CZ.now (hc : CZ S0 S s ν k h q z ℓ b) (hf : FrP 0 S S') (hp : PRs S' 0 s') : CZ S0 S' s' ν k h q z ℓ b := ⟨hc.1.tr hf.fr, hc.2.now hf hp⟩
theorem CZ.p (hc : CZ S0 S s ν k h q z ℓ b) : PRs S 0 s := hc.2.1
theorem CZ.save {Q : Mem → Prop} (hs : okS s) (hc : CZ S0 S s ν k h q z ℓ b) (hq : ∀ S', CZ S0 S' s ((ν + 1) % 6) (pushK k) (pushH k h s) q z ℓ b → Q S') : vc_X1_save S 0 Q := sp_save hc.2.2.1 hs.1 hc.2.1 fun S' hf hr => hq S' ⟨hc.1.tr hf.fr, hc.2.save hf hr⟩
theorem CZ.f08 (hc : CZ S0 S s ν k h q z ℓ b) (hf : FrP 0 S S') (hp : PRs S' 0 s) : CZ S0 S' s ν k h q z ℓ b := hc.now hf hp
theorem MZ.ini (hm : RelM S s k h q z ℓ b) : ∀ S1 : Mem, S1 = uc S 15 0 0 (upd (S 15 0 0) 6 (0 : Int32)) → MZ S S1 0 s k h q z ℓ b := fun S1 e => by
  obtain ⟨h1, h2, h3⟩ := hm.six e
  exact ⟨h2, h1, h3⟩
theorem MZ.mr (hm : MZ S0 S c s k h q z ℓ b) : MR S s.1 s.2.1 := hm.2.1.1
theorem MZ.fail {Q : Mem → Int32 → Prop} (hm : MZ S0 S c s k h q z ℓ b) (hq : ∀ S', MZ S0 S' c' s k h q z ℓ b → Q S' 0) : vc_X7_fails S c' Q := fun S1 e => by
  obtain ⟨h1, h2, h3⟩ := hm.2.1.six e
  exact hq S1 ⟨hm.1.tr h2, h1, h3⟩
theorem MZ.now (hm : MZ S0 S c s k h q z ℓ b) (hf : FrM S S') (hp : MR S' s'.1 s'.2.1) : MZ S0 S' c s' k h q z ℓ b := ⟨hm.1.tr hf.fc, hm.2.1.now hf hp, (hf.2 6 (by decide)).trans hm.2.2⟩
theorem MZ.save {Q : Mem → Prop} (hm : MZ S0 S c s k h q z ℓ b) (hq : ∀ S', MZ S0 S' c s (pushK k) (pushH k h s) q z ℓ b → Q S') : vc_X7_save S Q := sx_save hm.2.1.2.1 hm.mr fun S' hf hr => hq S' ⟨hm.1.tr hf.fc, hm.2.1.save hf hr, (hf.2 6 (by decide)).trans hm.2.2⟩
theorem OkA.now (ho : OkA s k h q z ℓ b) (hs : okS s') : OkA s' k h q z ℓ b := ⟨hs, ho.2⟩
theorem OkA.save (ho : OkA s k h q z ℓ b) : OkA s (pushK k) (pushH k h s) q z ℓ b := by
  obtain ⟨h1, h2, h3, h4⟩ := ho
  refine ⟨h1, fun j hj => ?_, h3, h4⟩
  unfold pushK at hj
  unfold pushH
  by_cases e : k = 6
  · rw [if_pos e] at hj ⊢
    by_cases e5 : j = 5
    · rw [if_pos e5]; exact h1
    · rw [if_neg e5]; exact h2 (j + 1) (by omega)
  · rw [if_neg e] at hj ⊢
    by_cases ek : j = k
    · rw [if_pos ek]; exact h1
    · rw [if_neg ek]; exact h2 j (by omega)
theorem Rel.mk {S1 S2 : Mem} (ho : OkA s k h q z ℓ b) (hc : CZ S0 S1 s ν k h q z ℓ b) (hm : MZ S1 S2 c s k h q z ℓ b) : Rel S2 := ⟨s, ν, k, h, q, z, ℓ, b, ho, hc.2.fc hm.1, hm.2.1⟩
theorem fin {S1 S2 : Mem} {K : Mem → (Nat → Int64) → Prop} {o : Nat → Int64} {r : Int32} (hK : ∀ S' o', Rel S' → K S' o') (ho : OkA s k h q z ℓ b) (hc : CZ S0 S1 s ν k h q z ℓ b) (h0 : c = 0 → o 0 = r.toInt64) (hm : MZ S1 S2 c s k h q z ℓ b) : Tail K o c S2 r := tail_ok hm.2.2 h0 (hK S2 o (Rel.mk ho hc hm))
theorem CZ.m {S1 : Mem} (hc : CZ S S1 s' ν k h q z ℓ b) {k' ℓ' : Nat} {h' : Nat → St} {q' : Nat → Bool} {z' : Nat → St} {b' : Nat → Int32} (hm : RelM S s k' h' q' z' ℓ' b') : RelM S1 s k' h' q' z' ℓ' b' := hm.fr hc.1
/-! checks -/
theorem sp_rngY {x lo hi : Int32} {a a' : Int} {Q : Mem → Prop} {X : Mem → Nat → Prop} (ha : lo.toInt = a) (hb : hi.toInt = a') (hx : a ≤ x.toInt ∧ x.toInt ≤ a') (hq : Q S) : vc_X6_checkRange S x lo hi Q X := ⟨fun c => absurd (i_lt.mp c) (by omega), fun _ => ⟨fun _ => hq, fun c => absurd (i_le.mpr (by omega)) c⟩⟩
theorem sp_rngN {x lo hi : Int32} {a a' : Int} {Q : Mem → Prop} {X : Mem → Nat → Prop} (ha : lo.toInt = a) (hb : hi.toInt = a') (hx : ¬ (a ≤ x.toInt ∧ x.toInt ≤ a')) (hq : X S 2) : vc_X6_checkRange S x lo hi Q X := ⟨fun _ => hq, fun c => ⟨fun c2 => absurd (⟨by have := i_le.mp (i_nlt.mp c); omega, by have := i_le.mp c2; omega⟩ : a ≤ x.toInt ∧ x.toInt ≤ a') hx, fun _ => hq⟩⟩
theorem sp_nnY {x : Int32} {Q : Mem → Prop} {X : Mem → Nat → Prop} (hx : 0 ≤ x.toInt) (hq : Q S) : vc_X6_checkNotNegative S x Q X := by
  have l0 : (0 : Int32).toInt = 0 := rfl
  exact ⟨fun _ => hq, fun c => absurd (i_le.mpr (by omega)) c⟩
theorem sp_nnN {x : Int32} {Q : Mem → Prop} {X : Mem → Nat → Prop} (hx : ¬ 0 ≤ x.toInt) (hq : X S 2) : vc_X6_checkNotNegative S x Q X := by
  have l0 : (0 : Int32).toInt = 0 := rfl
  exact ⟨fun c => absurd (by have := i_le.mp c; omega) hx, fun _ => hq⟩
theorem sx_inY {x lo hi : Int32} {a a' : Int} {Q : Mem → Int32 → Prop} (ha : lo.toInt = a) (hb : hi.toInt = a') (hx : a ≤ x.toInt ∧ x.toInt ≤ a') (hq : Q S 1) : vc_X7_in S x lo hi Q := ⟨fun c => absurd (i_lt.mp c) (by omega), fun _ => ⟨fun c => absurd (i_lt.mp c) (by omega), fun _ => hq⟩⟩
theorem sx_inN {x lo hi : Int32} {a a' : Int} {Q : Mem → Int32 → Prop} (ha : lo.toInt = a) (hb : hi.toInt = a') (hx : ¬ (a ≤ x.toInt ∧ x.toInt ≤ a')) (hq : Q S 0) : vc_X7_in S x lo hi Q := ⟨fun _ => hq, fun c => ⟨fun _ => hq, fun c2 => absurd (⟨by have := i_le.mp (i_nlt.mp c); omega, by have := i_le.mp (i_nlt.mp c2); omega⟩ : a ≤ x.toInt ∧ x.toInt ≤ a') hx⟩⟩
theorem row_ex {x : Int32} {m : Nat} (h : 0 ≤ x.toInt ∧ x.toInt ≤ (m : Int)) : ∃ ρ, ρ < m + 1 ∧ x = nI ρ := by
  obtain ⟨j, hj, e⟩ := i_nn h.1
  refine ⟨j, ?_, e⟩
  have := nI_toInt hj
  rw [← e] at this
  omega
theorem sp_crY {x : Int32} {Q : Mem → Prop} {X : Mem → Nat → Prop} (hx : 0 ≤ x.toInt ∧ x.toInt ≤ 3) (hq : Q S) : vc_X6_checkRow S x Q X := by
  have h4 : (4 : Int32).toInt = 4 := rfl
  have h0 : (0 : Int32).toInt = 0 := rfl
  exact ⟨fun c => absurd (i_lt.mp c) (by omega), fun _ => ⟨fun _ => hq, fun c => absurd (i_lt.mpr (by omega)) c⟩⟩
theorem sp_crN {x : Int32} {Q : Mem → Prop} {X : Mem → Nat → Prop} (hx : ¬ (0 ≤ x.toInt ∧ x.toInt ≤ 3)) (hq : X S 1) : vc_X6_checkRow S x Q X := by
  have h4 : (4 : Int32).toInt = 4 := rfl
  have h0 : (0 : Int32).toInt = 0 := rfl
  exact ⟨fun _ => hq, fun c => ⟨fun c2 => absurd (⟨by have := i_le.mp (i_nlt.mp c); omega, by have := i_lt.mp c2; omega⟩ : 0 ≤ x.toInt ∧ x.toInt ≤ 3) hx, fun _ => hq⟩⟩
theorem sx_irY {x : Int32} {Q : Mem → Int32 → Prop} (hx : 0 ≤ x.toInt ∧ x.toInt ≤ 3) (hq : Q S 1) : vc_X7_isRow S x Q := sx_inY rfl rfl hx ⟨Or.inr rfl, hq⟩
theorem sx_irN {x : Int32} {Q : Mem → Int32 → Prop} (hx : ¬ (0 ≤ x.toInt ∧ x.toInt ≤ 3)) (hq : Q S 0) : vc_X7_isRow S x Q := sx_inN rfl rfl hx ⟨Or.inl rfl, hq⟩
abbrev isT (n : Nat) (x : Int32) : Prop := ∃ i, i < n ∧ x = nI i
theorem sp_ctY {x : Int32} {Q : Mem → Prop} {X : Mem → Nat → Prop} (hs : okS s) (hP : PRs S 0 s) (hx : isT s.2.2 x) (hq : Q S) : vc_X6_checkThermometer S x Q X := by
  obtain ⟨i, hi, e⟩ := hx
  exact sp_has hs.1.1.1 hP.n (fun _ _ _ => ⟨fun _ => hq, fun c => absurd c (by decide)⟩) (fun no => absurd e (no i hi))
theorem sp_ctN {x : Int32} {Q : Mem → Prop} {X : Mem → Nat → Prop} (hs : okS s) (hP : PRs S 0 s) (hx : ¬ isT s.2.2 x) (hq : X S 1) : vc_X6_checkThermometer S x Q X := sp_has hs.1.1.1 hP.n (fun i hi e => absurd ⟨i, hi, e⟩ hx) (fun _ => ⟨fun c => absurd rfl c, fun _ => hq⟩)
theorem sx_itY {x : Int32} {Q : Mem → Int32 → Prop} (hs : okS s) (hm : MR S s.1 s.2.1) (hx : isT s.2.2 x) (hq : Q S 1) : vc_X7_is S x Q := by
  obtain ⟨i, hi, e⟩ := hx
  exact sx_is hs.1.1.1 hs.1.1.2.1 hm (fun _ _ _ => hq) (fun no => absurd e (no i hi))
theorem sx_itN {x : Int32} {Q : Mem → Int32 → Prop} (hs : okS s) (hm : MR S s.1 s.2.1) (hx : ¬ isT s.2.2 x) (hq : Q S 0) : vc_X7_is S x Q := sx_is hs.1.1.1 hs.1.1.2.1 hm (fun i hi e => absurd ⟨i, hi, e⟩ hx) (fun _ => hq)
/-- the class has not answered a number: nothing has changed, and the reference fails alike -/
theorem no1 {A B : Prop} (h : B) : ((¬ (0 : Int32) = 0) → A) ∧ (((0 : Int32) = 0) → B) := ⟨fun c => absurd rfl c, fun _ => h⟩
theorem ya1 {A B : Prop} (h : A) : ((¬ (1 : Int32) = 0) → A) ∧ (((1 : Int32) = 0) → B) := ⟨fun _ => h, fun c => absurd c (by decide)⟩
theorem no2 {A B : Prop} (h : A) : (((0 : Int32) = 0) → A) ∧ ((¬ ((0 : Int32) = 0)) → B) := ⟨fun _ => h, fun c => absurd rfl c⟩
theorem ya2 {A B : Prop} (h : B) : (((1 : Int32) = 0) → A) ∧ ((¬ ((1 : Int32) = 0)) → B) := ⟨fun c => absurd c (by decide), fun _ => h⟩
end
