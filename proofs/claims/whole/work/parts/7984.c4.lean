/-! append, clearBuffer, firstError -/
section
variable {S0 S S' : Mem} {s s' : St} {ν k : Nat} {h : Nat → St} {q : Nat → Bool} {z : Nat → St} {ℓ ℓ' : Nat} {b b' : Nat → Int32} {c : Int32}
theorem CZ.text (hc : CZ S0 S s ν k h q z ℓ b) (hf : ∀ t P i, t ≠ 2 → t ≠ 10 → S' t P i = S t P i) (ht : TxC S' ℓ' b') : CZ S0 S' s ν k h q z ℓ' b' := by
  obtain ⟨h1, ⟨h2, h3, h4, h5⟩, h6, -⟩ := hc.2
  have pr : ∀ P s, PRs S P s → PRs S' P s := fun P s hp => hp.eqs (hf _ _ _ (by decide) (by decide)) (hf _ _ _ (by decide) (by decide)) (hf _ _ _ (by decide) (by decide)) (fun i _ => ⟨hf _ _ _ (by decide) (by decide), hf _ _ _ (by decide) (by decide), hf _ _ _ (by decide) (by decide)⟩)
  refine ⟨hc.1.tr (fun t ht => funext fun P => funext fun i => hf t P i (by omega) (by omega)), pr 0 s h1, ⟨h2, by rw [hf 1 0 0 (by decide) (by decide)]; exact h3, by rw [hf 1 0 0 (by decide) (by decide)]; exact h4, fun j hj => pr _ _ (h5 j hj)⟩, fun P hP => ⟨by rw [hf 4 P 0 (by decide) (by decide)]; exact (h6 P hP).1, fun hq => pr _ _ ((h6 P hP).2 hq)⟩, ht⟩
theorem MZ.text (hm : MZ S0 S c s k h q z ℓ b) (hf : ∀ t P i, t < 15 ∨ (16 ≤ t ∧ t < 20) → S' t P i = S t P i) (h2' : S' 15 0 0 2 = S 15 0 0 2) (h6' : S' 15 0 0 6 = S 15 0 0 6) (ht : TxM S' ℓ' b') : MZ S0 S' c s k h q z ℓ' b' := by
  obtain ⟨h1, ⟨h2, h3, h4⟩, h6, -⟩ := hm.2.1
  refine ⟨hm.1.tr (fun t ht => funext fun P => funext fun i => hf t P i (Or.inl ht)), ⟨?_, ⟨h2, h2'.trans h3, fun j hj => ?_⟩, fun P hP => ⟨?_, fun hq => ?_⟩, ht⟩, h6'.trans hm.2.2⟩
  · unfold MR
    rw [hf 16 0 0 (by decide)]; exact h1
  · rw [hf 17 0 0 (by decide)]; exact h4 j hj
  · rw [hf 19 0 0 (by decide)]; exact (h6 P hP).1
  · rw [hf 18 0 0 (by decide)]; exact (h6 P hP).2 hq
theorem OkA.text (ho : OkA s k h q z ℓ b) (hl : ℓ' ≤ 60) (hb : ∀ j, j < ℓ' → 33 ≤ (b' j).toInt ∧ (b' j).toInt ≤ 126) : OkA s k h q z ℓ' b' := ⟨ho.1, ho.2.1, ho.2.2.1, hl, hb⟩
end
theorem char_ok {j : Nat} (hj : j ≤ 126) : vp_nar .char ((nI j).toUInt32 % 65536).toInt32 = nI j := by
  rw [pk_vc, pk_char, pk_tn (by omega), Nat.mod_eq_of_lt (by omega)]
theorem call7_ok {xs : Nat → Int32} {i : Nat} {S : Mem} {o : Nat → Int64} {K : Mem → (Nat → Int64) → Prop} (hr : Rel S) (hK : ∀ S' o', Rel S' → K S' o') : vc_call7 xs i S o K := by
  obtain ⟨s, ν, k, h, q, z, ℓ, b, ho, hc, hm⟩ := hr
  have hs := ho.1
  have hz := CZ.ini hc
  obtain ⟨t1, t2⟩ := hc.2.2.2
  have hl := ho.2.2.2.1
  have hb := ho.2.2.2.2
  unfold vc_call7 vc_L_append vc_X6_append
  generalize xs (i + 1) = x
  by_cases h1 : 33 ≤ x.toInt ∧ x.toInt ≤ 126
  · refine sp_rngY rfl rfl h1 ?_
    unfold vc_X2_isFull
    rw [t1]
    by_cases c : ℓ < 60
    · refine ⟨fun _ => no2 ?_, fun c2 => absurd ((nI_ltI (b := 60) (by omega) (by omega)).mpr c) c2⟩
      unfold vc_X2_addCharacter
      rw [t1]
      refine ⟨fun c2 => absurd c2 (nI_pos (by omega)), fun _ => ⟨fun c2 => absurd (show nI 60 ≤ nI ℓ from c2) (nI_ge (by omega) (by omega)), fun _ => ⟨vp_in_nI (by omega) (by decide), fun S1 e1 S2 e2 => ?_⟩⟩⟩
      obtain ⟨j, hj, ej⟩ := row_ex (x := x) (m := 126) (by omega)
      rw [nI_clamp (by omega), ej, char_ok (by omega), ← ej] at e1
      have e12 : S1 2 0 0 = S 2 0 0 := by rw [e1, uc_t (by decide)]
      rw [e12, t1, nI_1] at e2
      have f2 : ∀ t P i, t ≠ 2 → t ≠ 10 → S2 t P i = S t P i := fun t P i a b => by rw [e2, uc_t a, e1, uc_t b]
      have tx : TxC S2 (ℓ + 1) (upd b ℓ x) := by
        refine ⟨by rw [e2, uc_same, upd_app, if_pos rfl], fun j hj => ?_⟩
        rw [e2, uc_t (by decide), e1, uc_same, upd_app, upd_app]
        by_cases e : j = ℓ
        · rw [if_pos e, if_pos e]
        · rw [if_neg e, if_neg e]; exact t2 j (by omega)
      have hz2 := hz.text f2 tx
      have ok2 : OkA s k h q z (ℓ + 1) (upd b ℓ x) := ho.text (by omega) (fun j hj => by
        show 33 ≤ (if j = ℓ then x else b j).toInt ∧ (if j = ℓ then x else b j).toInt ≤ 126
        by_cases e : j = ℓ
        · rw [if_pos e]; exact h1
        · rw [if_neg e]; exact hb j (by omega))
      rw [tx.1]
      intro S3 e3
      have m3 := MZ.ini (hm.fr hz2.1) S3 e3
      obtain ⟨u1, u2⟩ := m3.2.1.2.2.2
      refine sx_inY rfl rfl h1 (ya1 ?_)
      rw [u1]
      refine ⟨fun _ => ⟨vp_in_nI (by omega) (by decide), fun S4 e4 S5 e5 => ?_⟩, fun c2 => ?_⟩
      · rw [nI_clamp (by omega)] at e4
        have e45 : S4 15 0 0 = S3 15 0 0 := by rw [e4, uc_t (by decide)]
        rw [e45, u1, nI_1] at e5
        have u11 : S5 15 0 0 11 = nI (ℓ + 1) := by rw [e5, uc_same, upd_app, if_pos rfl]
        rw [u11]
        refine fin hK ok2 hz2 (fun _ => rfl) (m3.text (fun t P i ht => ?_) ?_ ?_ ⟨u11, fun j hj => ?_⟩)
        · rw [e5, uc_t (by omega), e4, uc_t (by omega)]
        · rw [e5, uc_same, upd_app, if_neg (by decide)]
        · rw [e5, uc_same, upd_app, if_neg (by decide)]
        · rw [e5, uc_t (by decide), e4, uc_same, upd_app, upd_app]
          by_cases e : j = ℓ
          · rw [if_pos e, if_pos e]
          · rw [if_neg e, if_neg e]; exact u2 j (by omega)
      · have := nI_inj (b := 60) (by omega) (by omega) c2
        omega
    · refine ⟨fun c2 => absurd ((nI_ltI (b := 60) (by omega) (by omega)).mp c2) c, fun _ => ya2 (Or.inr ⟨rfl, ?_⟩)⟩
      intro S3 e3
      have m3 := MZ.ini hm S3 e3
      obtain ⟨u1, u2⟩ := m3.2.1.2.2.2
      refine sx_inY rfl rfl h1 (ya1 ?_)
      rw [u1]
      refine ⟨fun c2 => absurd (show nI ℓ = nI 60 from congrArg nI (by omega)) c2, fun _ => m3.fail fun S4 m4 => fin hK ho hz (fun c => absurd c (by decide)) m4⟩
  · refine sp_rngN rfl rfl h1 (Or.inl ⟨rfl, ?_⟩)
    intro S3 e3
    have m3 := MZ.ini hm S3 e3
    exact sx_inN rfl rfl h1 (no1 (m3.fail fun S4 m4 => fin hK ho hz (fun c => absurd c (by decide)) m4))
theorem eq_ok {A : Prop} {x y : Int32} (e : x = y) (h : A) : (x = y → A) ∧ ((¬ x = y) → False) := ⟨fun _ => h, fun c => c e⟩
theorem call8_ok {xs : Nat → Int32} {i : Nat} {S : Mem} {o : Nat → Int64} {K : Mem → (Nat → Int64) → Prop} (hr : Rel S) (hK : ∀ S' o', Rel S' → K S' o') : vc_call8 xs i S o K := by
  obtain ⟨s, ν, k, h, q, z, ℓ, b, ho, hc, hm⟩ := hr
  have hz := CZ.ini hc
  obtain ⟨t1, t2⟩ := hc.2.2.2
  intro S2 e2
  have tx : TxC S2 0 b := ⟨by rw [e2, uc_same, upd_app, if_pos rfl]; rfl, fun j hj => absurd hj (Nat.not_lt_zero j)⟩
  have hz2 := hz.text (fun t P i a _ => by rw [e2, uc_t a]) tx
  have ok2 : OkA s k h q z 0 b := ho.text (Nat.zero_le _) (fun j hj => absurd hj (Nat.not_lt_zero j))
  rw [t1]
  intro S3 e3 S4 e4
  have m3 := MZ.ini (hm.fr hz2.1) S3 e3
  refine eq_ok m3.2.1.2.2.2.1.symm (hK S4 o (Rel.mk ok2 hz2 (m3.text (fun t P i ht => ?_) ?_ ?_ ⟨?_, fun j hj => absurd hj (Nat.not_lt_zero j)⟩)))
  · rw [e4, uc_t (by omega)]
  · rw [e4, uc_same, upd_app, if_neg (by decide)]
  · rw [e4, uc_same, upd_app, if_neg (by decide)]
  · rw [e4, uc_same, upd_app, if_pos rfl]; rfl
section
variable {S0 S S' : Mem} {s s' : St} {ν k : Nat} {h : Nat → St} {q : Nat → Bool} {z : Nat → St} {ℓ ℓ' : Nat} {b b' : Nat → Int32} {c : Int32}
theorem MZ.parse {A : Ar} (hm : MZ S0 S c s k h q z ℓ b) (hA : RQ S A) : MZ S0 (MS S A) c s k h q z ℓ b := by
  obtain ⟨u1, u2⟩ := hm.2.1.2.2.2
  refine hm.text (fun t P i ht => ms_o (by omega)) ?_ ?_ ⟨?_, fun j hj => ?_⟩
  · rw [ms_15]; exact hA 2 (by decide) (by decide)
  · rw [ms_15]; exact hA 6 (by decide) (by decide)
  · rw [ms_15]; exact (hA 11 (by decide) (by decide)).trans u1
  · rw [ms_o (by decide)]; exact u2 j hj
theorem CZ.two {f : Nat → Int32} (hc : CZ S0 S s ν k h q z ℓ b) (h3 : f 3 = nI ℓ) : CZ S0 (uc S 2 0 0 f) s ν k h q z ℓ b := hc.text (fun t P i a _ => uc_t a) ⟨by rw [uc_same]; exact h3, fun j hj => by rw [uc_t (by decide)]; exact hc.2.2.2.2.2 j hj⟩
end
theorem call9_ok {xs : Nat → Int32} {i : Nat} {S : Mem} {o : Nat → Int64} {K : Mem → (Nat → Int64) → Prop} (hr : Rel S) (hK : ∀ S' o', Rel S' → K S' o') : vc_call9 xs i S o K := by
  obtain ⟨s, ν, k, h, q, z, ℓ, b, ho, hc, hm⟩ := hr
  have hz := CZ.ini hc
  obtain ⟨t1, t2⟩ := hc.2.2.2
  have hl := ho.2.2.2.1
  obtain ⟨N, hN⟩ := pLast_ex b hl
  have go : ∀ f' : Nat → Int32, f' 3 = nI ℓ → f' 1 = nI (pEnd ℓ b N) → vc_X7_firstError (uc S 2 0 0 f') (fun S_96 r_97 => (((uc S 2 0 0 f') 2 0 0 1 = r_97) → K S_96 o) ∧ ((¬ (uc S 2 0 0 f') 2 0 0 1 = r_97) → False)) := fun f' a3 a1 => by
    have hz2 := hz.two a3
    rw [uc_same, a1]
    intro S3 e3
    have m3 := MZ.ini (hm.fr hz2.1) S3 e3
    obtain ⟨u1, u2⟩ := m3.2.1.2.2.2
    refine sx_all u1 u2 hl hN (fun ha A hA a12 _ _ => ya2 ?_) (fun _ A hA a12 => no2 ?_)
    · rw [ms_15]
      refine eq_ok ?_ (hK _ o (Rel.mk ho hz2 (m3.parse hA)))
      rw [hA 11 (by decide) (by decide), u1, ha.2]
    · rw [ms_15]
      exact eq_ok a12.symm (hK _ o (Rel.mk ho hz2 (m3.parse hA)))
  exact sp_all t1 t2 hl hN (fun _ f' a3 a1 => go f' a3 a1) (fun _ f' a3 a1 => go f' a3 a1)
