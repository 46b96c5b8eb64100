/-! thermometer, hours, period, calibrate -/
theorem sx_anY {S : Mem} {x2 x3 x4 : Int32} {Q : Mem → Int32 → Prop} (h2 : 1 ≤ x2.toInt ∧ x2.toInt ≤ 9) (h3 : -200 ≤ x3.toInt ∧ x3.toInt ≤ 200) (h4 : 1 ≤ x4.toInt ∧ x4.toInt ≤ 5) (hq : Q S 1) : vc_X7_areNumbers S x2 x3 x4 Q := sx_inY rfl rfl h2 (ya2 (sx_inY rfl rfl h3 (ya2 (sx_inY rfl rfl h4 (ya2 hq)))))
theorem sx_anN {S : Mem} {x2 x3 x4 : Int32} {Q : Mem → Int32 → Prop} (hn : ¬ ((1 ≤ x2.toInt ∧ x2.toInt ≤ 9) ∧ (-200 ≤ x3.toInt ∧ x3.toInt ≤ 200) ∧ (1 ≤ x4.toInt ∧ x4.toInt ≤ 5))) (hq : Q S 0) : vc_X7_areNumbers S x2 x3 x4 Q := by
  by_cases h2 : 1 ≤ x2.toInt ∧ x2.toInt ≤ 9
  · refine sx_inY rfl rfl h2 (ya2 ?_)
    by_cases h3 : -200 ≤ x3.toInt ∧ x3.toInt ≤ 200
    · refine sx_inY rfl rfl h3 (ya2 (sx_inN (a := 1) (a' := 5) rfl rfl (fun h4 => hn ⟨h2, h3, h4⟩) (no2 hq)))
    · exact sx_inN rfl rfl h3 (no2 hq)
  · exact sx_inN rfl rfl h2 (no2 hq)
theorem call0_ok {xs : Nat → Int32} {i : Nat} {S : Mem} {o : Nat → Int64} {K : Mem → (Nat → Int64) → Prop} (hr : Rel S) (hK : ∀ S' o', Rel S' → K S' o') : vc_call0 xs i S o K := by
  obtain ⟨s, ν, k, h, q, z, ℓ, b, ho, hc, hm⟩ := hr
  have hs := ho.1
  have hz := CZ.ini hc
  have hn10 : s.2.2 ≤ 10 := hs.1.1.1
  have hg : s.1 15 = nI s.2.2 := hs.1.1.2.1
  unfold vc_call0 vc_L_thermometer vc_X6_thermometer
  generalize xs (i + 1) = x1
  generalize xs (i + 2) = x2
  generalize xs (i + 3) = x3
  generalize xs (i + 4) = x4
  by_cases h1 : 0 ≤ x1.toInt ∧ x1.toInt ≤ 3
  · have bad2 : ¬ ((1 ≤ x2.toInt ∧ x2.toInt ≤ 9) ∧ (-200 ≤ x3.toInt ∧ x3.toInt ≤ 200) ∧ (1 ≤ x4.toInt ∧ x4.toInt ≤ 5)) → vc_X7_thermometer S x1 x2 x3 x4 (fun S4 r5 => Tail K o 2 S4 r5) := fun hn S3 e3 => by
      have m3 := MZ.ini hm S3 e3
      exact sx_irY h1 (ya1 (sx_anN hn (no1 (m3.fail fun S4 m4 => fin hK ho hz (fun c => absurd c (by decide)) m4))))
    refine sp_crY h1 ?_
    by_cases h2 : 1 ≤ x2.toInt ∧ x2.toInt ≤ 9
    · refine sp_rngY rfl rfl h2 ?_
      by_cases h3 : -200 ≤ x3.toInt ∧ x3.toInt ≤ 200
      · refine sp_rngY rfl rfl h3 ?_
        by_cases h4 : 1 ≤ x4.toInt ∧ x4.toInt ≤ 5
        · refine sp_rngY rfl rfl h4 (sp_room hn10 hc.1.n ?_)
          by_cases hn : s.2.2 < 10
          · rw [if_pos hn]
            obtain ⟨ρ, hρ, e1⟩ := row_ex (m := 3) h1
            refine ya1 (hz.save hs fun S1 hz1 => sp_add (by decide) hn hz1.p fun S2 hf2 hp2 => ?_)
            have hz2 := hz1.now hf2 hp2
            intro S3 e3
            have m3 := MZ.ini (hz2.m hm) S3 e3
            refine sx_irY h1 (ya1 (sx_anY h2 h3 h4 (ya1 ⟨vv15, ?_⟩)))
            rw [m3.mr.g15, hg]
            refine ⟨fun _ => m3.save fun S4 m4 => sx_add hn hg m4.mr fun S5 hf5 hp5 => fin hK (ho.save.now (hs.add hn hρ e1 h2 h3 h4)) hz2 (fun _ => rfl) (m4.now hf5 hp5), fun c => ?_⟩
            have := nI_inj (b := 10) (by omega) (by omega) c
            omega
          · rw [if_neg hn]
            refine no1 (Or.inr (Or.inr ⟨rfl, ?_⟩))
            intro S3 e3
            have m3 := MZ.ini hm S3 e3
            refine sx_irY h1 (ya1 (sx_anY h2 h3 h4 (ya1 ⟨vv15, ?_⟩)))
            rw [m3.mr.g15, hg]
            refine ⟨fun c => absurd (show nI s.2.2 = nI 10 from congrArg nI (by omega)) c, fun _ => m3.fail fun S4 m4 => fin hK ho hz (fun c => absurd c (by decide)) m4⟩
        · exact sp_rngN rfl rfl h4 (Or.inr (Or.inl ⟨rfl, bad2 (fun hh => h4 hh.2.2)⟩))
      · exact sp_rngN rfl rfl h3 (Or.inr (Or.inl ⟨rfl, bad2 (fun hh => h3 hh.2.1)⟩))
    · exact sp_rngN rfl rfl h2 (Or.inr (Or.inl ⟨rfl, bad2 (fun hh => h2 hh.1)⟩))
  · refine sp_crN h1 (Or.inl ⟨rfl, ?_⟩)
    intro S3 e3
    have m3 := MZ.ini hm S3 e3
    exact sx_irN h1 (no1 (m3.fail fun S4 m4 => fin hK ho hz (fun c => absurd c (by decide)) m4))
def hrsS (s : St) (d : Int32) (N : Nat) : St := ((hrs s.2.2 d s.1 s.2.1 N).1, (hrs s.2.2 d s.1 s.2.1 N).2, s.2.2)
theorem okS.manyh {s : St} {d : Int32} {N : Nat} (hs : okS s) (h : (s.1 0).toInt + N ≤ 9999) : okS (hrsS s d N) := by
  obtain ⟨h1, h2⟩ := hrs_ws (d := d) hs.1 N (by omega)
  refine ⟨h1, ?_⟩
  show ((hrs s.2.2 d s.1 s.2.1 N).1 0).toInt ≤ 9999
  omega
theorem call2_ok {xs : Nat → Int32} {i : Nat} {S : Mem} {o : Nat → Int64} {K : Mem → (Nat → Int64) → Prop} (hr : Rel S) (hK : ∀ S' o', Rel S' → K S' o') : vc_call2 xs i S o K := by
  obtain ⟨s, ν, k, h, q, z, ℓ, b, ho, hc, hm⟩ := hr
  have hs := ho.1
  have hz := CZ.ini hc
  have h0 := hs.1.1.2.2.1
  unfold vc_call2 vc_L_hours vc_X6_hours
  generalize xs (i + 1) = x1
  generalize xs (i + 2) = x2
  by_cases h1 : 1 ≤ x1.toInt ∧ x1.toInt ≤ 24
  · refine sp_rngY rfl rfl h1 ?_
    by_cases h2 : -500 ≤ x2.toInt ∧ x2.toInt ≤ 500
    · refine sp_rngY rfl rfl h2 (sp_left hc.1.1.1 (by omega) ?_)
      obtain ⟨N, hN, e1⟩ := row_ex (x := x1) (m := 24) (by omega)
      have eN : x1.toInt = N := by rw [e1]; exact nI_toInt (by omega)
      have e9 : (s.1 0 + x1).toInt = (s.1 0).toInt + x1.toInt := i_add (by omega) (by omega)
      have h9 : (9999 : Int32).toInt = 9999 := rfl
      by_cases hh : (s.1 0).toInt + x1.toInt ≤ 9999
      · rw [if_pos hh]
        refine ya1 (hz.save hs fun S1 hz1 => ?_)
        rw [e1]
        refine sp_hrs (by decide) (by omega) hs.1 (by omega) hz1.p fun S2 hf2 hp2 => ?_
        have hz2 := hz1.now (s' := hrsS s x2 N) hf2 hp2
        rw [hp2.1.2.1]
        intro S3 e3
        have m3 := MZ.ini (hz2.m hm) S3 e3
        rw [e1] at h1
        refine sx_inY rfl rfl h1 (ya2 (sx_inY rfl rfl h2 (ya1 ⟨vv0, ?_⟩)))
        rw [m3.mr.g0]
        refine ⟨fun _ => m3.save fun S4 m4 => ⟨N + 1, lx_hrs (by omega) hs.1 (by omega) N 0 S4 (by omega) m4.mr fun S5 hf5 hp5 => ⟨vv1, ?_⟩⟩, fun c => absurd (i_le.mpr (by rw [← e1]; omega)) c⟩
        rw [hp5.g1]
        exact fin hK (ho.save.now (hs.manyh (by omega))) hz2 (fun _ => rfl) (m4.now (s' := hrsS s x2 N) hf5 hp5)
      · rw [if_neg hh]
        refine no1 (Or.inr ⟨rfl, ?_⟩)
        intro S3 e3
        have m3 := MZ.ini hm S3 e3
        refine sx_inY rfl rfl h1 (ya2 (sx_inY rfl rfl h2 (ya1 ⟨vv0, ?_⟩)))
        rw [m3.mr.g0]
        refine ⟨fun c => ?_, fun _ => m3.fail fun S4 m4 => fin hK ho hz (fun c => absurd c (by decide)) m4⟩
        have := i_le.mp c
        omega
    · refine sp_rngN rfl rfl h2 (Or.inl ⟨rfl, ?_⟩)
      intro S3 e3
      have m3 := MZ.ini hm S3 e3
      exact sx_inY rfl rfl h1 (ya2 (sx_inN rfl rfl h2 (no1 (m3.fail fun S4 m4 => fin hK ho hz (fun c => absurd c (by decide)) m4))))
  · refine sp_rngN rfl rfl h1 (Or.inl ⟨rfl, ?_⟩)
    intro S3 e3
    have m3 := MZ.ini hm S3 e3
    exact sx_inN rfl rfl h1 (no2 (m3.fail fun S4 m4 => fin hK ho hz (fun c => absurd c (by decide)) m4))
theorem call3_ok {xs : Nat → Int32} {i : Nat} {S : Mem} {o : Nat → Int64} {K : Mem → (Nat → Int64) → Prop} (hr : Rel S) (hK : ∀ S' o', Rel S' → K S' o') : vc_call3 xs i S o K := by
  obtain ⟨s, ν, k, h, q, z, ℓ, b, ho, hc, hm⟩ := hr
  have hs := ho.1
  have hz := CZ.ini hc
  unfold vc_call3 vc_L_period vc_X6_period
  generalize xs (i + 1) = x1
  generalize xs (i + 2) = x2
  by_cases h1 : 0 ≤ x1.toInt ∧ x1.toInt ≤ 3
  · refine sp_crY h1 ?_
    by_cases h2 : 1 ≤ x2.toInt ∧ x2.toInt ≤ 6
    · refine sp_rngY rfl rfl h2 (hz.save hs fun S1 hz1 => ?_)
      obtain ⟨ρ, hρ, e1⟩ := row_ex (m := 3) h1
      have hρ : ρ < 4 := hρ
      rw [e1]
      refine sp_entry (by omega) (by omega) (sp_period hρ hz1.p fun S2 hf2 hp2 => ?_)
      rw [(hz1.p.1.2.2.2.2.1 ρ hρ).1]
      have hz2 := hz1.now (s' := perS s ρ x2) hf2 hp2
      intro S3 e3
      have m3 := MZ.ini (hz2.m hm) S3 e3
      rw [e1] at h1
      exact sx_irY h1 (ya1 (sx_inY rfl rfl h2 (ya1 (m3.save fun S4 m4 => sx_per hρ m4.mr fun S5 hf5 hp5 => fin hK (ho.save.now (hs.per hρ h2)) hz2 (fun _ => rfl) (m4.now (s' := perS s ρ x2) hf5 hp5)))))
    · refine sp_rngN rfl rfl h2 (Or.inr ⟨rfl, ?_⟩)
      intro S3 e3
      have m3 := MZ.ini hm S3 e3
      exact sx_irY h1 (ya1 (sx_inN rfl rfl h2 (no1 (m3.fail fun S4 m4 => fin hK ho hz (fun c => absurd c (by decide)) m4))))
  · refine sp_crN h1 (Or.inl ⟨rfl, ?_⟩)
    intro S3 e3
    have m3 := MZ.ini hm S3 e3
    exact sx_irN h1 (no1 (m3.fail fun S4 m4 => fin hK ho hz (fun c => absurd c (by decide)) m4))
theorem call4_ok {xs : Nat → Int32} {i : Nat} {S : Mem} {o : Nat → Int64} {K : Mem → (Nat → Int64) → Prop} (hr : Rel S) (hK : ∀ S' o', Rel S' → K S' o') : vc_call4 xs i S o K := by
  obtain ⟨s, ν, k, h, q, z, ℓ, b, ho, hc, hm⟩ := hr
  have hs := ho.1
  have hz := CZ.ini hc
  have hn10 : s.2.2 ≤ 10 := hs.1.1.1
  unfold vc_call4 vc_L_calibrate vc_X6_calibrate
  generalize xs (i + 1) = x1
  by_cases h1 : isT s.2.2 x1
  · refine sp_ctY hs hc.1 h1 (hz.save hs fun S1 hz1 => ?_)
    obtain ⟨j, hj, e1⟩ := h1
    rw [e1]
    refine sp_at (i := j) (by omega) ⟨⟨by decide, by omega⟩, sp_at (i := j) (by omega) ⟨⟨by decide, by omega⟩, ?_⟩⟩
    have hT := hz1.p.2.2 j hj
    rw [hz1.p.1.2.1, hT.2.2.2.2.2.1]
    refine sp_cal hT fun S2 hf2 hT2 => ?_
    have hz2 := hz1.now (s' := calS s j) hf2.P (hz1.p.one hf2 hT2)
    intro S3 e3
    have m3 := MZ.ini (hz2.m hm) S3 e3
    exact sx_itY hs m3.mr ⟨j, hj, rfl⟩ (ya1 (m3.save fun S4 m4 => sx_cal (by omega) m4.mr fun S5 hf5 hp5 => fin hK (ho.save.now (hs.cal hj)) hz2 (fun _ => rfl) (m4.now (s' := calS s j) hf5 hp5)))
  · refine sp_ctN hs hc.1 h1 ⟨rfl, ?_⟩
    intro S3 e3
    have m3 := MZ.ini hm S3 e3
    exact sx_itN hs m3.mr h1 (no1 (m3.fail fun S4 m4 => fin hK ho hz (fun c => absurd c (by decide)) m4))
