/-! ranked, between, ifLag, bestLag, ifStill, stillIn -/
theorem call18_ok {xs : Nat → Int32} {i : Nat} {S : Mem} {o : Nat → Int64} {K : Mem → (Nat → Int64) → Prop} (hr : Rel S) (hK : ∀ S' o', Rel S' → K S' o') : vc_call18 xs i S o K := by
  obtain ⟨s, ν, k, h, q, z, ℓ, b, ho, hc, hm⟩ := hr
  have hs := ho.1
  have hz := CZ.ini hc
  have hn10 : s.2.2 ≤ 10 := hs.1.1.1
  have hg : s.1 15 = nI s.2.2 := hs.1.1.2.1
  have l0 : (0 : Int32).toInt = 0 := rfl
  unfold vc_call18 vc_L_ranked vc_X6_ranked
  generalize xs (i + 1) = x1
  generalize xs (i + 2) = x2
  have r2 := i_rng x2
  by_cases h1 : 0 ≤ x1.toInt ∧ x1.toInt ≤ 1
  · refine sp_rngY rfl rfl h1 ?_
    by_cases h2 : 0 ≤ x2.toInt
    · refine sp_nnY h2 (sp_rank (by decide) hc.1 ?_)
      have hkd : x1 = 0 ∨ x1 = 1 := by
        obtain ⟨a, ha, e⟩ := row_ex (m := 1) h1
        have : a = 0 ∨ a = 1 := by omega
        rcases this with e1 | e1
        · exact Or.inl (by rw [e, e1]; rfl)
        · exact Or.inr (by rw [e, e1]; rfl)
      intro S3 e3
      have m3 := MZ.ini hm S3 e3
      exact sx_inY rfl rfl h1 (ya2 ⟨fun c => absurd (i_lt.mp c) (by omega), fun _ => sx_rank hn10 hg hkd hs.1.1.2.2.2.1 hs.w m3.mr (fin hK ho hz (fun _ => rfl) m3)⟩)
    · refine sp_nnN h2 ⟨rfl, ?_⟩
      intro S3 e3
      have m3 := MZ.ini hm S3 e3
      exact sx_inY rfl rfl h1 (ya2 ⟨fun _ => m3.fail fun S4 m4 => fin hK ho hz (fun c => absurd c (by decide)) m4, fun c => absurd (i_lt.mpr (by omega)) c⟩)
  · refine sp_rngN rfl rfl h1 ⟨rfl, ?_⟩
    intro S3 e3
    have m3 := MZ.ini hm S3 e3
    exact sx_inN rfl rfl h1 (no2 (m3.fail fun S4 m4 => fin hK ho hz (fun c => absurd c (by decide)) m4))
theorem call19_ok {xs : Nat → Int32} {i : Nat} {S : Mem} {o : Nat → Int64} {K : Mem → (Nat → Int64) → Prop} (hr : Rel S) (hK : ∀ S' o', Rel S' → K S' o') : vc_call19 xs i S o K := by
  obtain ⟨s, ν, k, h, q, z, ℓ, b, ho, hc, hm⟩ := hr
  have hs := ho.1
  have hz := CZ.ini hc
  have hn10 : s.2.2 ≤ 10 := hs.1.1.1
  have hg : s.1 15 = nI s.2.2 := hs.1.1.2.1
  unfold vc_call19 vc_X6_between
  generalize xs (i + 1) = x1
  generalize xs (i + 2) = x2
  refine sp_btw (by decide) hc.1 ?_
  intro S3 e3
  have m3 := MZ.ini hm S3 e3
  exact ⟨s.2.2 + 1, lx_btw hn10 hg hs.w m3.mr (eq_ok rfl (hK S3 o (Rel.mk ho hz m3))) s.2.2 0 (by omega)⟩
theorem call20_ok {xs : Nat → Int32} {i : Nat} {S : Mem} {o : Nat → Int64} {K : Mem → (Nat → Int64) → Prop} (hr : Rel S) (hK : ∀ S' o', Rel S' → K S' o') : vc_call20 xs i S o K := by
  obtain ⟨s, ν, k, h, q, z, ℓ, b, ho, hc, hm⟩ := hr
  have hs := ho.1
  have hz := CZ.ini hc
  have hn10 : s.2.2 ≤ 10 := hs.1.1.1
  unfold vc_call20 vc_L_ifLag vc_X6_ifLag
  generalize xs (i + 1) = x1
  generalize xs (i + 2) = x2
  by_cases h1 : isT s.2.2 x1
  · refine sp_ctY hs hc.1 h1 ?_
    by_cases h2 : 1 ≤ x2.toInt ∧ x2.toInt ≤ 9
    · refine sp_rngY rfl rfl h2 ?_
      obtain ⟨j, hj, e1⟩ := h1
      have hw := hs.1.2 j hj
      rw [e1]
      refine sp_at (i := j) (by omega) ⟨⟨by decide, by omega⟩, sp_mendT hw (hc.1.2.2 j hj) ?_⟩
      intro S3 e3
      have m3 := MZ.ini hm S3 e3
      exact sx_itY hs m3.mr ⟨j, hj, rfl⟩ (ya1 (sx_inY rfl rfl h2 (ya2 (sx_mendB (by omega) hw m3.mr (fin hK ho hz (fun _ => rfl) m3)))))
    · refine sp_rngN rfl rfl h2 (Or.inr ⟨rfl, ?_⟩)
      intro S3 e3
      have m3 := MZ.ini hm S3 e3
      exact sx_itY hs m3.mr h1 (ya1 (sx_inN rfl rfl h2 (no2 (m3.fail fun S4 m4 => fin hK ho hz (fun c => absurd c (by decide)) m4))))
  · refine sp_ctN hs hc.1 h1 (Or.inl ⟨rfl, ?_⟩)
    intro S3 e3
    have m3 := MZ.ini hm S3 e3
    exact sx_itN hs m3.mr h1 (no1 (m3.fail fun S4 m4 => fin hK ho hz (fun c => absurd c (by decide)) m4))
theorem call21_ok {xs : Nat → Int32} {i : Nat} {S : Mem} {o : Nat → Int64} {K : Mem → (Nat → Int64) → Prop} (hr : Rel S) (hK : ∀ S' o', Rel S' → K S' o') : vc_call21 xs i S o K := by
  obtain ⟨s, ν, k, h, q, z, ℓ, b, ho, hc, hm⟩ := hr
  have hs := ho.1
  have hz := CZ.ini hc
  have hn10 : s.2.2 ≤ 10 := hs.1.1.1
  unfold vc_call21 vc_L_bestLag vc_X6_bestLag
  generalize xs (i + 1) = x1
  by_cases h1 : isT s.2.2 x1
  · refine sp_ctY hs hc.1 h1 ?_
    obtain ⟨j, hj, e1⟩ := h1
    have hw := hs.1.2 j hj
    rw [e1]
    refine sp_at (i := j) (by omega) ⟨⟨by decide, by omega⟩, ?_⟩
    rw [hc.1.1.2.1]
    refine sp_lag hw (hc.1.2.2 j hj) ?_
    intro S3 e3
    have m3 := MZ.ini hm S3 e3
    exact sx_itY hs m3.mr ⟨j, hj, rfl⟩ (ya2 (sx_best (by omega) hw m3.mr (fin hK ho hz (fun _ => rfl) m3)))
  · refine sp_ctN hs hc.1 h1 ⟨rfl, ?_⟩
    intro S3 e3
    have m3 := MZ.ini hm S3 e3
    exact sx_itN hs m3.mr h1 (no2 (m3.fail fun S4 m4 => fin hK ho hz (fun c => absurd c (by decide)) m4))
theorem call22_ok {xs : Nat → Int32} {i : Nat} {S : Mem} {o : Nat → Int64} {K : Mem → (Nat → Int64) → Prop} (hr : Rel S) (hK : ∀ S' o', Rel S' → K S' o') : vc_call22 xs i S o K := by
  obtain ⟨s, ν, k, h, q, z, ℓ, b, ho, hc, hm⟩ := hr
  have hs := ho.1
  have hz := CZ.ini hc
  have h9 := hs.2
  unfold vc_call22 vc_L_ifStill vc_X6_ifStill
  generalize xs (i + 1) = x1
  generalize xs (i + 2) = x2
  by_cases h1 : 1 ≤ x1.toInt ∧ x1.toInt ≤ 48
  · refine sp_rngY rfl rfl h1 ?_
    by_cases h2 : 0 ≤ x2.toInt ∧ x2.toInt ≤ 3
    · refine sp_rngY rfl rfl h2 ?_
      obtain ⟨N, hN, e1⟩ := row_ex (x := x1) (m := 48) (by omega)
      obtain ⟨a, ha, e2⟩ := row_ex (m := 3) h2
      rw [e1] at h1 ⊢
      rw [e2] at h2 ⊢
      refine sp_copy (P := 1) (P1 := 0) (by decide) (by decide) (by decide) hs.1.six hc.1 fun S1 f1 p1 => ?_
      refine sp_hrs (P := 1) (by decide) (by omega) hs.1 (by omega) p1 fun S2 f2 p2 => ?_
      have f12 := f1.tr f2
      have hz2 := hz.one f12
      have md : ∀ S' o', CZ S S' s ν k h q z ℓ b → o' 0 = (sillV s.1 (hrs s.2.2 0 s.1 s.2.1 N).1 (hrs s.2.2 0 s.1 s.2.1 N).2 s.2.2 a).toInt64 → vc_X7_ifStill S' (nI N) (nI a) (fun S4 r5 => Tail K o' 0 S4 r5) := fun S' o' hz' h0 S4 e4 => by
        have m3 := MZ.ini (hz'.m hm) S4 e4
        exact sx_inY rfl rfl h1 (ya2 (sx_inY rfl rfl h2 (ya2 (sx_beh (by omega) (by omega) hs.1 (by omega) m3.mr fun S5 f5 p5 => fin hK ho hz' (fun _ => h0) (m3.back f5 p5)))))
      unfold sillV at md
      have e10 : S2 3 0 0 10 = s.1 13 := hz2.p.1.2.2.2.2.2.2.1
      have hc' : a = 0 ∨ a = 1 ∨ a = 2 ∨ a = 3 := by omega
      rcases hc' with e | e | e | e
      all_goals subst e
      · exact st_yes (by decide) (sp_mean (P := 1) (by decide) p2 (md S2 _ hz2 rfl))
      · exact st_no (by decide) (st_yes (by decide) (sp_out (P := 1) (by decide) p2 (md S2 _ hz2 rfl)))
      · refine st_no (by decide) (st_no (by decide) (st_yes (by decide) ?_))
        rw [e10, p2.1.2.2.2.2.2.2.1]
        exact md S2 _ hz2 rfl
      · exact st_no (by decide) (st_no (by decide) (st_no (by decide) (sp_dst (P := 1) (by decide) p2 (md S2 _ hz2 rfl))))
    · refine sp_rngN rfl rfl h2 ⟨rfl, ?_⟩
      intro S3 e3
      have m3 := MZ.ini hm S3 e3
      exact sx_inY rfl rfl h1 (ya2 (sx_inN rfl rfl h2 (no2 (m3.fail fun S4 m4 => fin hK ho hz (fun c => absurd c (by decide)) m4))))
  · refine sp_rngN rfl rfl h1 ⟨rfl, ?_⟩
    intro S3 e3
    have m3 := MZ.ini hm S3 e3
    exact sx_inN rfl rfl h1 (no2 (m3.fail fun S4 m4 => fin hK ho hz (fun c => absurd c (by decide)) m4))
theorem call23_ok {xs : Nat → Int32} {i : Nat} {S : Mem} {o : Nat → Int64} {K : Mem → (Nat → Int64) → Prop} (hr : Rel S) (hK : ∀ S' o', Rel S' → K S' o') : vc_call23 xs i S o K := by
  obtain ⟨s, ν, k, h, q, z, ℓ, b, ho, hc, hm⟩ := hr
  have hs := ho.1
  have hz := CZ.ini hc
  have hn10 : s.2.2 ≤ 10 := hs.1.1.1
  unfold vc_call23 vc_L_stillIn vc_X6_stillIn
  generalize xs (i + 1) = x1
  by_cases h1 : isT s.2.2 x1
  · refine sp_ctY hs hc.1 h1 ?_
    obtain ⟨j, hj, e1⟩ := h1
    have hw := hs.1.2 j hj
    have hl := lag_ne hw
    obtain ⟨N, n1, n2, n3⟩ := stl_ex (x := s.1 1) hw hs.1.1.2.2.2.1
    rw [e1]
    refine sp_at (i := j) (by omega) ⟨⟨by decide, by omega⟩, ?_⟩
    rw [hc.1.1.2.1]
    refine sp_stl hl (hc.1.2.2 j hj) n1 n2 n3 ?_
    intro S3 e3
    have m3 := MZ.ini hm S3 e3
    refine sx_itY hs m3.mr ⟨j, hj, rfl⟩ (ya1 (sx_of (j := 4) (by omega) (by decide) m3.mr ⟨N + 1, ?_⟩))
    refine lx_stl (g := s.1) (t := s.2.1) (i := j) (N := N) (by omega) hl n2 n3 N 0 S3 (by omega) (m3.mr.cg (fun _ _ => rfl) (fun i' _ j' _ => ?_)) fun S4 f4 h4 => sx_putT (j := 4) (by omega) (by decide) h4 fun S5 f5 h5 => fin hK ho hz (fun _ => rfl) (m3.now (s' := s) (f4.tr f5) (h5.cg (fun _ _ => rfl) (fun i' _ j' _ => ?_)))
    · unfold setT
      by_cases e : i' = j
      · rw [if_pos e, upd_app, e]
        by_cases e4 : j' = 4
        · rw [if_pos e4, e4]; rfl
        · rw [if_neg e4]
      · rw [if_neg e]
    · unfold setT
      by_cases e : i' = j
      · rw [if_pos e, upd_app, upd_app, e]
        by_cases e4 : j' = 4
        · rw [if_pos e4, e4]
        · rw [if_neg e4, if_neg e4]
      · rw [if_neg e]
  · refine sp_ctN hs hc.1 h1 ⟨rfl, ?_⟩
    intro S3 e3
    have m3 := MZ.ini hm S3 e3
    exact sx_itN hs m3.mr h1 (no1 (m3.fail fun S4 m4 => fin hK ho hz (fun c => absurd c (by decide)) m4))
