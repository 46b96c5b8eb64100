/-! thermometer, hour, hours -/
theorem call1_ok {xs : Nat → Int32} {i : Nat} {S : Mem} {o : Nat → Int64} {K : Mem → (Nat → Int64) → Prop} (hr : Rel S) (hK : ∀ S' o', Rel S' → K S' o') : vc_call1 xs i S o K := by
  obtain ⟨s, ν, k, h, q, z, ℓ, b, ho, hc, hm⟩ := hr
  have hs := ho.1
  have hz := CZ.ini hc
  unfold vc_call1 vc_L_hour vc_X6_hour
  generalize xs (i + 1) = x
  by_cases hx : -5000 ≤ x.toInt ∧ x.toInt ≤ 5000
  · refine sp_rngY rfl rfl hx (sp_left (x := 1) hc.1.1.1 (by decide) ?_)
    have h1 : (1 : Int32).toInt = 1 := rfl
    have h9 : (9999 : Int32).toInt = 9999 := rfl
    by_cases hh : (s.1 0).toInt ≤ 9998
    · rw [if_pos (by omega)]
      refine ya1 (hz.save hs fun S1 hz1 => sp_pass (by decide) hs.1 (by omega) hz1.p fun S2 hf2 hp2 => ?_)
      have hz2 := hz1.now (s' := pasS s x) hf2 hp2
      intro S3 e3
      have m3 := MZ.ini (hz2.m hm) S3 e3
      refine sx_inY rfl rfl hx ⟨Or.inr rfl, ya1 ⟨vv0, ?_⟩⟩
      rw [m3.mr.g0]
      refine ⟨fun _ => m3.save fun S4 m4 => sx_pass hs.1 hx (by omega) m4.mr fun S5 hf5 hp5 => fin hK (ho.save.now (hs.pas hx hh)) hz2 (fun _ => rfl) (m4.now (s' := pasS s x) hf5 hp5), fun c => ?_⟩
      rw [c] at hh
      omega
    · rw [if_neg (by omega)]
      refine no1 (Or.inr ⟨rfl, ?_⟩)
      intro S3 e3
      have m3 := MZ.ini hm S3 e3
      refine sx_inY rfl rfl hx ⟨Or.inr rfl, ya1 ⟨vv0, ?_⟩⟩
      rw [m3.mr.g0]
      refine ⟨fun c => absurd (i_eq.mpr ?_) c, fun _ => m3.fail fun S4 m4 => fin hK ho hz (fun c => absurd c (by decide)) m4⟩
      have := hs.2
      omega
  · refine sp_rngN rfl rfl hx (Or.inl ⟨rfl, ?_⟩)
    intro S3 e3
    have m3 := MZ.ini hm S3 e3
    exact sx_inN rfl rfl hx ⟨Or.inl rfl, no1 (m3.fail fun S4 m4 => fin hK ho hz (fun c => absurd c (by decide)) m4)⟩
