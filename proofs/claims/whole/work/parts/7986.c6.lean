/-! queries -/
section
variable {S0 S S' : Mem} {s s' : St} {ν k : Nat} {h : Nat → St} {q : Nat → Bool} {z : Nat → St} {ℓ ℓ' : Nat} {b b' : Nat → Int32} {c : Int32}
theorem okS.w (hs : okS s) : ∀ i, i < s.2.2 → ∃ h, WT h (s.2.1 i) := fun i hi => ⟨_, hs.1.2 i hi⟩
theorem MZ.back (hm : MZ S0 S c s k h q z ℓ b) (hf : FrB S S') (hp : MR S' s.1 s.2.1) : MZ S0 S' c s k h q z ℓ b := by
  obtain ⟨u1, u2⟩ := hm.2.1.2.2.2
  obtain ⟨g1, ⟨g2, g3, g4⟩, g6, -⟩ := hm.2.1
  have o : ∀ t P i, t ≠ 15 → t ≠ 16 → (t < 20 ∨ t = 23) → S' t P i = S t P i := fun t P i a b d => hf.1 t P i a b (by omega) (by omega) (by omega)
  exact ⟨hm.1.tr (fun t ht => funext fun P => funext fun i => o t P i (by omega) (by omega) (by omega)), ⟨hp, ⟨g2, (hf.2 2 (by decide)).trans g3, fun j hj => by rw [o 17 0 0 (by decide) (by decide) (by decide)]; exact g4 j hj⟩, fun P hP => ⟨by rw [o 19 0 0 (by decide) (by decide) (by decide)]; exact (g6 P hP).1, fun hq => by rw [o 18 0 0 (by decide) (by decide) (by decide)]; exact (g6 P hP).2 hq⟩, (hf.2 11 (by decide)).trans u1, fun j hj => by rw [o 23 0 0 (by decide) (by decide) (by decide)]; exact u2 j hj⟩, (hf.2 6 (by decide)).trans hm.2.2⟩
theorem CZ.one (hc : CZ S0 S s ν k h q z ℓ b) (hf : FrP 1 S S') : CZ S0 S' s ν k h q z ℓ b := by
  obtain ⟨h1, ⟨h2, h3, h4, h5⟩, h6, h7, h8⟩ := hc.2
  exact ⟨hc.1.tr hf.fr, h1.frP (by decide) hf, ⟨h2, by rw [hf 1 0 0 (by omega)]; exact h3, by rw [hf 1 0 0 (by omega)]; exact h4, fun j hj => (h5 j hj).frP (by omega) hf⟩, fun P hP => ⟨by rw [hf 4 P 0 (by omega)]; exact (h6 P hP).1, fun hq => ((h6 P hP).2 hq).frP (by omega) hf⟩, by rw [hf 2 0 0 (by omega)]; exact h7, fun j hj => by rw [hf 10 0 0 (by omega)]; exact h8 j hj⟩
end
theorem call14_ok {xs : Nat → Int32} {i : Nat} {S : Mem} {o : Nat → Int64} {K : Mem → (Nat → Int64) → Prop} (hr : Rel S) (hK : ∀ S' o', Rel S' → K S' o') : vc_call14 xs i S o K := by
  obtain ⟨s, ν, k, h, q, z, ℓ, b, ho, hc, hm⟩ := hr
  have hs := ho.1
  have hz := CZ.ini hc
  have hn10 : s.2.2 ≤ 10 := hs.1.1.1
  unfold vc_call14 vc_L_ofThermometer vc_X6_ofThermometer
  generalize xs (i + 1) = x1
  generalize xs (i + 2) = x2
  by_cases h1 : isT s.2.2 x1
  · refine sp_ctY hs hc.1 h1 ?_
    by_cases h2 : 0 ≤ x2.toInt ∧ x2.toInt ≤ 9
    · refine sp_rngY rfl rfl h2 ?_
      obtain ⟨j, hj, e1⟩ := h1
      obtain ⟨a, ha, e2⟩ := row_ex (m := 9) h2
      have hw := hs.1.2 j hj
      rw [e1, e2]
      refine sp_at (i := j) (by omega) ⟨⟨by decide, by omega⟩, sp_num (by omega) hw.2.2.2.2.2.1 (hc.1.2.2 j hj) ?_⟩
      intro S3 e3
      have m3 := MZ.ini hm S3 e3
      rw [e2] at h2
      refine sx_itY hs m3.mr ⟨j, hj, rfl⟩ (ya1 (sx_inY rfl rfl h2 (ya1 ⟨fun c => ?_, fun c => ?_⟩)))
      · have ne : ¬ a = 9 := fun e => c (by rw [e]; rfl)
        unfold numV
        rw [if_neg ne]
        exact sx_of (by omega) (by omega) m3.mr (fin hK ho hz (fun _ => rfl) m3)
      · have e : a = 9 := nI_inj (by omega) (by omega) c
        unfold numV
        rw [if_pos e]
        exact sx_mend (by omega) hw m3.mr (fin hK ho hz (fun _ => rfl) m3)
    · refine sp_rngN rfl rfl h2 (Or.inr ⟨rfl, ?_⟩)
      intro S3 e3
      have m3 := MZ.ini hm S3 e3
      exact sx_itY hs m3.mr h1 (ya1 (sx_inN rfl rfl h2 (no1 (m3.fail fun S4 m4 => fin hK ho hz (fun c => absurd c (by decide)) m4))))
  · refine sp_ctN hs hc.1 h1 (Or.inl ⟨rfl, ?_⟩)
    intro S3 e3
    have m3 := MZ.ini hm S3 e3
    exact sx_itN hs m3.mr h1 (no1 (m3.fail fun S4 m4 => fin hK ho hz (fun c => absurd c (by decide)) m4))
theorem ago_ix : ∀ k, k < 6 → ∀ q, q < 2 → (9 : Int32) + 2 * nI k + nI q = nI (9 + 2 * k + q) := by decide +kernel
theorem call15_ok {xs : Nat → Int32} {i : Nat} {S : Mem} {o : Nat → Int64} {K : Mem → (Nat → Int64) → Prop} (hr : Rel S) (hK : ∀ S' o', Rel S' → K S' o') : vc_call15 xs i S o K := by
  obtain ⟨s, ν, k, h, q, z, ℓ, b, ho, hc, hm⟩ := hr
  have hs := ho.1
  have hz := CZ.ini hc
  have hn10 : s.2.2 ≤ 10 := hs.1.1.1
  have l0 : (0 : Int32).toInt = 0 := rfl
  unfold vc_call15 vc_L_reading vc_X6_reading
  generalize xs (i + 1) = x1
  generalize xs (i + 2) = x2
  generalize xs (i + 3) = x3
  have r2 := i_rng x2
  by_cases h1 : isT s.2.2 x1
  · refine sp_ctY hs hc.1 h1 ?_
    by_cases h2 : 0 ≤ x2.toInt
    · refine sp_nnY h2 ?_
      by_cases h3 : 0 ≤ x3.toInt ∧ x3.toInt ≤ 1
      · refine sp_rngY rfl rfl h3 ?_
        obtain ⟨j, hj, e1⟩ := h1
        obtain ⟨a, ha, e2⟩ := i_nn h2
        obtain ⟨y, hy, e3⟩ := row_ex (m := 1) h3
        have hw := hs.1.2 j hj
        obtain ⟨κ, d1, d2, -⟩ := hw.2.2.2.2.2.2
        have hT := hc.1.2.2 j hj
        have md : ∀ o', o' 0 = (ago (s.2.1 j) a y).toInt64 → vc_X7_reading S x1 x2 x3 (fun S4 r5 => Tail K o' 0 S4 r5) := fun o' h0 S4 e4 => by
          have m3 := MZ.ini hm S4 e4
          refine sx_itY hs m3.mr ⟨j, hj, e1⟩ (ya1 ⟨fun c => absurd (i_lt.mp c) (by omega), fun _ => sx_inY rfl rfl h3 (ya1 ?_)⟩)
          rw [e1, e2, e3]
          refine sx_of (j := 7) (by omega) (by decide) m3.mr ⟨fun c => ?_, fun c => ?_⟩
          · unfold ago at h0
            rw [if_pos c] at h0
            exact fin hK ho hz (fun _ => h0) m3
          · unfold ago at h0
            rw [if_neg c] at h0
            have hlt : a < κ := by
              rw [d2] at c
              by_cases hh : κ ≤ a
              · exact absurd (nI_le hh ha) c
              · omega
            rw [ago_ix a (by omega) y (by omega)]
            exact sx_of (by omega) (by omega) m3.mr (fin hK ho hz (fun _ => h0) m3)
        rw [e1] at md
        rw [e2] at md
        rw [e3] at md
        rw [e1, e2, e3]
        have ey : y = 0 ∨ y = 1 := by omega
        refine sp_at (i := j) (by omega) ?_
        rcases ey with ey | ey
        · subst ey
          exact ⟨fun c => absurd rfl c, fun _ => ⟨⟨by decide, by omega⟩, sp_hourAgo d2 d1 hT ha (md _ rfl)⟩⟩
        · subst ey
          exact ⟨fun _ => ⟨⟨by decide, by omega⟩, sp_valueAgo d2 d1 hT ha (md _ rfl)⟩, fun c => absurd (show nI 1 = 0 from c) (by decide)⟩
      · refine sp_rngN rfl rfl h3 (Or.inr ⟨rfl, ?_⟩)
        intro S3 e3
        have m3 := MZ.ini hm S3 e3
        exact sx_itY hs m3.mr h1 (ya1 ⟨fun c => absurd (i_lt.mp c) (by omega), fun _ => sx_inN rfl rfl h3 (no1 (m3.fail fun S4 m4 => fin hK ho hz (fun c => absurd c (by decide)) m4))⟩)
    · refine sp_nnN h2 (Or.inr ⟨rfl, ?_⟩)
      intro S3 e3
      have m3 := MZ.ini hm S3 e3
      exact sx_itY hs m3.mr h1 (ya1 ⟨fun _ => m3.fail fun S4 m4 => fin hK ho hz (fun c => absurd c (by decide)) m4, fun c => absurd (i_lt.mpr (by omega)) c⟩)
  · refine sp_ctN hs hc.1 h1 (Or.inl ⟨rfl, ?_⟩)
    intro S3 e3
    have m3 := MZ.ini hm S3 e3
    exact sx_itN hs m3.mr h1 (no1 (m3.fail fun S4 m4 => fin hK ho hz (fun c => absurd c (by decide)) m4))
def rowV (s : St) (ρ : Nat) (a : Nat) : Int32 := match a with
  | 0 => s.1 (4 + ρ)
  | 1 => rowS s.2.1 (nI ρ) s.2.2
  | 2 => s.1 (4 + ρ) - (s.1 0 - s.1 0 / s.1 (4 + ρ) * s.1 (4 + ρ))
  | _ => s.1 (8 + ρ)
theorem okS.per0 {s : St} {ρ : Nat} (hs : okS s) (hρ : ρ < 4) : ¬ s.1 (4 + ρ) = 0 := fun e => by
  have := (hs.1.1.2.2.2.2.1 ρ hρ).1
  rw [e] at this
  exact absurd this (by decide)
theorem call16_ok {xs : Nat → Int32} {i : Nat} {S : Mem} {o : Nat → Int64} {K : Mem → (Nat → Int64) → Prop} (hr : Rel S) (hK : ∀ S' o', Rel S' → K S' o') : vc_call16 xs i S o K := by
  obtain ⟨s, ν, k, h, q, z, ℓ, b, ho, hc, hm⟩ := hr
  have hs := ho.1
  have hz := CZ.ini hc
  have hn10 : s.2.2 ≤ 10 := hs.1.1.1
  have hg : s.1 15 = nI s.2.2 := hs.1.1.2.1
  unfold vc_call16 vc_L_row vc_X6_row
  generalize xs (i + 1) = x1
  generalize xs (i + 2) = x2
  by_cases h1 : 0 ≤ x1.toInt ∧ x1.toInt ≤ 3
  · refine sp_crY h1 ?_
    by_cases h2 : 0 ≤ x2.toInt ∧ x2.toInt ≤ 3
    · refine sp_rngY rfl rfl h2 ?_
      obtain ⟨ρ, hρ, e1⟩ := row_ex (m := 3) h1
      have hρ : ρ < 4 := hρ
      obtain ⟨a, ha, e2⟩ := row_ex (m := 3) h2
      rw [e1] at h1 ⊢
      rw [e2] at h2 ⊢
      have hp := hs.per0 hρ
      have p4 := (hc.1.1.2.2.2.2.1 ρ hρ).1
      have p8 := (hc.1.1.2.2.2.2.1 ρ hρ).2
      have p0 := hc.1.1.1
      have md : ∀ o', o' 0 = (rowV s ρ a).toInt64 → vc_X7_row S (nI ρ) (nI a) (fun S4 r5 => Tail K o' 0 S4 r5) := fun o' h0 S4 e4 => by
        have m3 := MZ.ini hm S4 e4
        refine sx_irY h1 (ya1 (sx_inY rfl rfl h2 (ya2 ?_)))
        unfold vc_X7_ofRow
        rw [(four_ix ρ hρ).1, (four_ix ρ hρ).2, nI_clamp (by omega), nI_clamp (by omega), m3.mr.gl (k := 4 + ρ) (by omega), m3.mr.gl (k := 8 + ρ) (by omega), m3.mr.g0]
        have v4 : vp_in (nI (4 + ρ)) 226 := vp_in_nI (by omega) (by decide)
        have v8 : vp_in (nI (8 + ρ)) 226 := vp_in_nI (by omega) (by decide)
        have hc : a = 0 ∨ a = 1 ∨ a = 2 ∨ a = 3 := by omega
        rcases hc with e | e | e | e
        all_goals subst e
        · exact ⟨v4, fun c => absurd rfl c, fun _ => fin hK ho hz (fun _ => h0) m3⟩
        · exact ⟨v4, fun _ => ⟨fun c => absurd rfl c, fun _ => sx_row hn10 hg m3.mr (fin hK ho hz (fun _ => h0) m3)⟩, fun c => absurd (show nI 1 = 0 from c) (by decide)⟩
        · exact ⟨v4, fun _ => ⟨fun _ => ⟨fun c => absurd rfl c, fun _ => ⟨vv0, hp, fin hK ho hz (fun _ => h0) m3⟩⟩, fun c => absurd (show nI 2 = nI 1 from c) (by decide)⟩, fun c => absurd (show nI 2 = 0 from c) (by decide)⟩
        · exact ⟨v4, fun _ => ⟨fun _ => ⟨fun _ => ⟨v8, fin hK ho hz (fun _ => h0) m3⟩, fun c => absurd (show nI 3 = nI 2 from c) (by decide)⟩, fun c => absurd (show nI 3 = nI 1 from c) (by decide)⟩, fun c => absurd (show nI 3 = 0 from c) (by decide)⟩
      have hc' : a = 0 ∨ a = 1 ∨ a = 2 ∨ a = 3 := by omega
      rcases hc' with e | e | e | e
      all_goals subst e
      · exact st_yes (by decide) (sp_entry (by omega) (by omega) (md _ (by rw [p4]; rfl)))
      · exact st_no (by decide) (st_yes (by decide) (sp_row (by decide) hc.1 (md _ rfl)))
      · refine st_no (by decide) (st_no (by decide) (st_yes (by decide) ?_))
        unfold vc_X3_hoursUntilRead vc_X3_periodOf
        refine sp_entry (by omega) (by omega) (sp_entry (by omega) (by omega) ?_)
        rw [p4, p0]
        exact sp_rem hp (md _ rfl)
      · exact st_no (by decide) (st_no (by decide) (st_no (by decide) (sp_entry (by omega) (by omega) (md _ (by rw [p8]; rfl)))))
    · refine sp_rngN rfl rfl h2 (Or.inr ⟨rfl, ?_⟩)
      intro S3 e3
      have m3 := MZ.ini hm S3 e3
      exact sx_irY h1 (ya1 (sx_inN rfl rfl h2 (no2 (m3.fail fun S4 m4 => fin hK ho hz (fun c => absurd c (by decide)) m4))))
  · refine sp_crN h1 (Or.inl ⟨rfl, ?_⟩)
    intro S3 e3
    have m3 := MZ.ini hm S3 e3
    exact sx_irN h1 (no1 (m3.fail fun S4 m4 => fin hK ho hz (fun c => absurd c (by decide)) m4))
def cntV (s : St) (k ℓ : Nat) (a : Nat) : Int32 := match a with
  | 0 => s.1 0
  | 1 => s.1 15
  | 2 => s.1 1
  | 3 => maskS s.2.1 s.2.2
  | 4 => outS s.2.1 s.2.2
  | 5 => meanV s.2.1 s.2.2
  | 6 => slopeV s.1 s.2.1 s.2.2
  | 7 => midV s.2.1 (-1) s.2.2
  | 8 => s.1 12
  | 9 => s.1 13
  | 10 => nI k
  | 11 => nI ℓ
  | 12 => s.1 2
  | _ => s.1 3
theorem sp_number {S : Mem} {s : St} {k ℓ a : Nat} {Q : Mem → Int32 → Prop} {X : Mem → Nat → Prop} (ha : a < 14) (hP : PRs S 0 s) (hk : S 1 0 0 3 = nI k) (hl : S 2 0 0 3 = nI ℓ) (hq : ∀ S', FrP 0 S S' → PRs S' 0 s → Q S' (cntV s k ℓ a)) : vc_X6_count S (nI a) Q X := by
  refine sp_rngY (a := 0) (a' := 13) rfl rfl (by rw [nI_toInt (by omega)]; omega) ?_
  have hc : a = 0 ∨ a = 1 ∨ a = 2 ∨ a = 3 ∨ a = 4 ∨ a = 5 ∨ a = 6 ∨ a = 7 ∨ a = 8 ∨ a = 9 ∨ a = 10 ∨ a = 11 ∨ a = 12 ∨ a = 13 := by omega
  rcases hc with e | e | e | e | e | e | e | e | e | e | e | e | e | e
  all_goals subst e
  · exact st_yes (by decide) (by rw [hP.1.1]; exact hq S (FrP.rf 0 S) hP)
  · exact st_no (by decide) (st_yes (by decide) (by rw [hP.1.2.2.2.2.2.2.2.2]; exact hq S (FrP.rf 0 S) hP))
  · exact st_no (by decide) (st_no (by decide) (st_yes (by decide) (by rw [hP.1.2.1]; exact hq S (FrP.rf 0 S) hP)))
  · exact st_no (by decide) (st_no (by decide) (st_no (by decide) (st_yes (by decide) (sp_mask (by decide) hP (hq S (FrP.rf 0 S) hP)))))
  · exact st_no (by decide) (st_no (by decide) (st_no (by decide) (st_no (by decide) (st_yes (by decide) (sp_out (by decide) hP (hq S (FrP.rf 0 S) hP))))))
  · exact st_no (by decide) (st_no (by decide) (st_no (by decide) (st_no (by decide) (st_no (by decide) (st_yes (by decide) (sp_mean (by decide) hP (hq S (FrP.rf 0 S) hP)))))))
  · exact st_no (by decide) (st_no (by decide) (st_no (by decide) (st_no (by decide) (st_no (by decide) (st_no (by decide) (st_yes (by decide) (sp_slope (by decide) hP (hq S (FrP.rf 0 S) hP))))))))
  · exact st_no (by decide) (st_no (by decide) (st_no (by decide) (st_no (by decide) (st_no (by decide) (st_no (by decide) (st_no (by decide) (st_yes (by decide) (sp_mid (by decide) hP fun S' hf => hq S' hf.P (hP.f08 hf)))))))))
  · exact st_no (by decide) (st_no (by decide) (st_no (by decide) (st_no (by decide) (st_no (by decide) (st_no (by decide) (st_no (by decide) (st_no (by decide) (st_yes (by decide) (by rw [hP.1.2.2.2.2.2.1]; exact hq S (FrP.rf 0 S) hP)))))))))
  · exact st_no (by decide) (st_no (by decide) (st_no (by decide) (st_no (by decide) (st_no (by decide) (st_no (by decide) (st_no (by decide) (st_no (by decide) (st_no (by decide) (st_yes (by decide) (by rw [hP.1.2.2.2.2.2.2.1]; exact hq S (FrP.rf 0 S) hP))))))))))
  · exact st_no (by decide) (st_no (by decide) (st_no (by decide) (st_no (by decide) (st_no (by decide) (st_no (by decide) (st_no (by decide) (st_no (by decide) (st_no (by decide) (st_no (by decide) (st_yes (by decide) (by rw [hk]; exact hq S (FrP.rf 0 S) hP)))))))))))
  · exact st_no (by decide) (st_no (by decide) (st_no (by decide) (st_no (by decide) (st_no (by decide) (st_no (by decide) (st_no (by decide) (st_no (by decide) (st_no (by decide) (st_no (by decide) (st_no (by decide) (st_yes (by decide) (by rw [hl]; exact hq S (FrP.rf 0 S) hP))))))))))))
  · exact st_no (by decide) (st_no (by decide) (st_no (by decide) (st_no (by decide) (st_no (by decide) (st_no (by decide) (st_no (by decide) (st_no (by decide) (st_no (by decide) (st_no (by decide) (st_no (by decide) (st_no (by decide) (st_yes (by decide) (by rw [hP.1.2.2.1]; exact hq S (FrP.rf 0 S) hP)))))))))))))
  · exact st_no (by decide) (st_no (by decide) (st_no (by decide) (st_no (by decide) (st_no (by decide) (st_no (by decide) (st_no (by decide) (st_no (by decide) (st_no (by decide) (st_no (by decide) (st_no (by decide) (st_no (by decide) (st_no (by decide) (by rw [hP.1.2.2.2.1]; exact hq S (FrP.rf 0 S) hP)))))))))))))
theorem sx_number {S0 S : Mem} {c : Int32} {s : St} {k : Nat} {h : Nat → St} {q : Nat → Bool} {z : Nat → St} {ℓ : Nat} {b : Nat → Int32} {a : Nat} {Q : Mem → Int32 → Prop} (ha : a < 14) (hs : okS s) (hm : MZ S0 S c s k h q z ℓ b) (hq : ∀ S', MZ S0 S' c s k h q z ℓ b → Q S' (cntV s k ℓ a)) : vc_X7_number S (nI a) Q := by
  have hn : s.2.2 ≤ 10 := hs.1.1.1
  have hg : s.1 15 = nI s.2.2 := hs.1.1.2.1
  have hw : ∀ i, i < s.2.2 → ∃ h, WT h (s.2.1 i) := fun i hi => ⟨_, hs.1.2 i hi⟩
  have hc : a = 0 ∨ a = 1 ∨ a = 2 ∨ a = 3 ∨ a = 4 ∨ a = 5 ∨ a = 6 ∨ a = 7 ∨ a = 8 ∨ a = 9 ∨ a = 10 ∨ a = 11 ∨ a = 12 ∨ a = 13 := by omega
  rcases hc with e | e | e | e | e | e | e | e | e | e | e | e | e | e
  all_goals subst e
  · exact st_yes (by decide) (⟨vv0, by rw [hm.mr.g0]; exact hq S hm⟩)
  · exact st_no (by decide) (st_yes (by decide) (⟨vv15, by rw [hm.mr.g15]; exact hq S hm⟩))
  · exact st_no (by decide) (st_no (by decide) (st_yes (by decide) (⟨vv1, by rw [hm.mr.g1]; exact hq S hm⟩)))
  · exact st_no (by decide) (st_no (by decide) (st_no (by decide) (st_yes (by decide) (sx_msk hn hg hm.mr (hq S hm)))))
  · exact st_no (by decide) (st_no (by decide) (st_no (by decide) (st_no (by decide) (st_yes (by decide) (sx_out hn hg (fun i hi => (hs.1.2 i hi).2.2.2.2.2.1) hm.mr (hq S hm))))))
  · exact st_no (by decide) (st_no (by decide) (st_no (by decide) (st_no (by decide) (st_no (by decide) (st_yes (by decide) (sx_mean hn hg hw hm.mr (hq S hm)))))))
  · exact st_no (by decide) (st_no (by decide) (st_no (by decide) (st_no (by decide) (st_no (by decide) (st_no (by decide) (st_yes (by decide) (sx_slope hn hg hw hm.mr (hq S hm))))))))
  · exact st_no (by decide) (st_no (by decide) (st_no (by decide) (st_no (by decide) (st_no (by decide) (st_no (by decide) (st_no (by decide) (st_yes (by decide) (sx_mid hn hg hw hm.mr fun S' hf => by rw [midV_1 hn]; exact hq S' (hm.now hf.m (hf.mr hm.mr))))))))))
  · exact st_no (by decide) (st_no (by decide) (st_no (by decide) (st_no (by decide) (st_no (by decide) (st_no (by decide) (st_no (by decide) (st_no (by decide) (st_yes (by decide) (⟨vv12, by rw [hm.mr.g12]; exact hq S hm⟩)))))))))
  · exact st_no (by decide) (st_no (by decide) (st_no (by decide) (st_no (by decide) (st_no (by decide) (st_no (by decide) (st_no (by decide) (st_no (by decide) (st_no (by decide) (st_yes (by decide) (⟨vv13, by rw [hm.mr.g13]; exact hq S hm⟩))))))))))
  · exact st_no (by decide) (st_no (by decide) (st_no (by decide) (st_no (by decide) (st_no (by decide) (st_no (by decide) (st_no (by decide) (st_no (by decide) (st_no (by decide) (st_no (by decide) (st_yes (by decide) (by rw [hm.2.1.2.1.2.1]; exact hq S hm)))))))))))
  · exact st_no (by decide) (st_no (by decide) (st_no (by decide) (st_no (by decide) (st_no (by decide) (st_no (by decide) (st_no (by decide) (st_no (by decide) (st_no (by decide) (st_no (by decide) (st_no (by decide) (st_yes (by decide) (by rw [hm.2.1.2.2.2.1]; exact hq S hm))))))))))))
  · exact st_no (by decide) (st_no (by decide) (st_no (by decide) (st_no (by decide) (st_no (by decide) (st_no (by decide) (st_no (by decide) (st_no (by decide) (st_no (by decide) (st_no (by decide) (st_no (by decide) (st_no (by decide) (⟨by rw [show (2 : Int32) + nI 12 - 12 = 2 by decide]; exact vv2, by rw [show (2 : Int32) + nI 12 - 12 = 2 by decide, hm.mr.g2]; exact hq S hm⟩))))))))))))
  · exact st_no (by decide) (st_no (by decide) (st_no (by decide) (st_no (by decide) (st_no (by decide) (st_no (by decide) (st_no (by decide) (st_no (by decide) (st_no (by decide) (st_no (by decide) (st_no (by decide) (st_no (by decide) (⟨by rw [show (2 : Int32) + nI 13 - 12 = 3 by decide]; exact vv3, by rw [show (2 : Int32) + nI 13 - 12 = 3 by decide, hm.mr.g3]; exact hq S hm⟩))))))))))))

theorem call17_ok {xs : Nat → Int32} {i : Nat} {S : Mem} {o : Nat → Int64} {K : Mem → (Nat → Int64) → Prop} (hr : Rel S) (hK : ∀ S' o', Rel S' → K S' o') : vc_call17 xs i S o K := by
  obtain ⟨s, ν, k, h, q, z, ℓ, b, ho, hc, hm⟩ := hr
  have hs := ho.1
  have hz := CZ.ini hc
  unfold vc_call17 vc_L_count
  generalize xs (i + 1) = x
  by_cases h1 : 0 ≤ x.toInt ∧ x.toInt ≤ 13
  · obtain ⟨a, ha, e1⟩ := row_ex (m := 13) h1
    rw [e1] at h1 ⊢
    refine sp_number ha hc.1 hc.2.1.2.2.1 hc.2.2.2.1 fun S1 f1 p1 => ?_
    have hz1 := hz.now f1 p1
    intro S3 e3
    have m3 := MZ.ini (hz1.m hm) S3 e3
    exact sx_inY rfl rfl h1 (ya2 (sx_number ha hs m3 fun S4 m4 => fin hK ho hz1 (fun _ => rfl) m4))
  · unfold vc_X6_count
    refine sp_rngN rfl rfl h1 ⟨rfl, ?_⟩
    intro S3 e3
    have m3 := MZ.ini hm S3 e3
    exact sx_inN rfl rfl h1 (no2 (m3.fail fun S4 m4 => fin hK ho hz (fun c => absurd c (by decide)) m4))
