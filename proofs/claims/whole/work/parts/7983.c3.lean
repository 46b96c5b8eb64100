/-! knock, set -/
def knkS (s : St) (i : Nat) (y : Int32) : St := (s.1, setT s.2.1 i (upd (s.2.1 i) 4 y), s.2.2)
theorem okS.knk {s : St} {i : Nat} {y : Int32} (hs : okS s) (hi : i < s.2.2) (hy : -20000 ≤ y.toInt ∧ y.toInt ≤ 20000) : okS (knkS s i y) := by
  obtain ⟨⟨hg, hT⟩, h9⟩ := hs
  refine ⟨⟨hg, fun k hk => ?_⟩, h9⟩
  show WT _ (if k = i then upd (s.2.1 i) 4 y else s.2.1 k)
  split
  · exact (hT i hi).cg (fun j h4 _ _ _ => if_neg h4) hy (hT i hi).2.2.2.2.2.1
  · exact hT k hk
theorem TR.knk {S : Mem} {P i : Nat} {t : Th} {y : Int32} (h : TR S P i t) : TR (uc S 5 P i (upd (S 5 P i) 7 y)) P i (upd t 4 y) := by
  obtain ⟨h5, h3, h4, h6, h7, h8, h10, h2, h9, h11, hr⟩ := h
  unfold TR mended
  rw [mendB_upd (by decide)]
  simp only [uc_same, upd_app, uc_t (show (6 : Nat) ≠ 5 by decide), uc_t (show (7 : Nat) ≠ 5 by decide), Nat.reduceEqDiff, reduceIte]
  refine ⟨h5, h3, h4, h6, trivial, h8, h10, h2, h9, h11, fun κ hκ hκ6 k hk => ?_⟩
  have := hr κ hκ hκ6 k hk
  rw [if_neg (by omega), if_neg (by omega)]
  exact this
theorem call5_ok {xs : Nat → Int32} {i : Nat} {S : Mem} {o : Nat → Int64} {K : Mem → (Nat → Int64) → Prop} (hr : Rel S) (hK : ∀ S' o', Rel S' → K S' o') : vc_call5 xs i S o K := by
  obtain ⟨s, ν, k, h, q, z, ℓ, b, ho, hc, hm⟩ := hr
  have hs := ho.1
  have hz := CZ.ini hc
  have hn10 : s.2.2 ≤ 10 := hs.1.1.1
  have l1 : (-20000 : Int32).toInt = -20000 := rfl
  have l2 : (20000 : Int32).toInt = 20000 := rfl
  unfold vc_call5 vc_L_knock vc_X6_knock
  generalize xs (i + 1) = x1
  generalize xs (i + 2) = x2
  by_cases h1 : isT s.2.2 x1
  · refine sp_ctY hs hc.1 h1 ?_
    by_cases h2 : -3000 ≤ x2.toInt ∧ x2.toInt ≤ 3000
    · refine sp_rngY rfl rfl h2 ?_
      obtain ⟨j, hj, e1⟩ := h1
      rw [e1]
      have hT := hc.1.2.2 j hj
      refine sp_at (i := j) (by omega) ⟨⟨by decide, by omega⟩, ?_⟩
      rw [hT.2.2.2.2.1]
      by_cases hy : -20000 ≤ (s.2.1 j 4 + x2).toInt ∧ (s.2.1 j 4 + x2).toInt ≤ 20000
      · refine ⟨fun c => absurd (i_lt.mp c) (by omega), fun _ => ⟨fun _ => hz.save hs fun S1 hz1 => sp_at (i := j) (by omega) ⟨⟨by decide, by omega⟩, fun S2 e2 => ?_⟩, fun c => absurd (i_le.mpr (by omega)) c⟩⟩
        have hT1 := hz1.p.2.2 j hj
        have hf2 : F5 0 j S1 S2 := e2 ▸ F5.uc (Or.inl rfl) S1 _
        have hT2 : TR S2 0 j (upd (s.2.1 j) 4 (s.2.1 j 4 + x2)) := e2 ▸ hT1.knk
        have hz2 := hz1.now (s' := knkS s j (s.2.1 j 4 + x2)) hf2.P (hz1.p.one hf2 hT2)
        intro S3 e3
        have m3 := MZ.ini (hz2.m hm) S3 e3
        exact sx_itY hs m3.mr ⟨j, hj, rfl⟩ (ya1 (sx_inY rfl rfl h2 (ya1 (sx_of (j := 4) (by omega) (by decide) m3.mr (sx_inY rfl rfl hy (ya1 (m3.save fun S4 m4 => sx_putT (j := 4) (t := s.2.1) (x := s.2.1 j) (by omega) (by decide) (by rw [setT_id]; exact m4.mr) fun S5 hf5 hp5 => fin hK (ho.save.now (hs.knk hj hy)) hz2 (fun _ => rfl) (m4.now (s' := knkS s j (s.2.1 j 4 + x2)) hf5 hp5))))))))
      · have bad : vc_X7_knock S (nI j) x2 (fun S4 r5 => Tail K o 3 S4 r5) := fun S3 e3 => by
          have m3 := MZ.ini hm S3 e3
          exact sx_itY hs m3.mr ⟨j, hj, rfl⟩ (ya1 (sx_inY rfl rfl h2 (ya1 (sx_of (j := 4) (by omega) (by decide) m3.mr (sx_inN rfl rfl hy (no1 (m3.fail fun S4 m4 => fin hK ho hz (fun c => absurd c (by decide)) m4)))))))
        refine ⟨fun c => Or.inr (Or.inr ⟨rfl, bad⟩), fun c => ⟨fun c2 => absurd (⟨by have := i_le.mp (i_nlt.mp c); omega, by have := i_le.mp c2; omega⟩ : -20000 ≤ (s.2.1 j 4 + x2).toInt ∧ (s.2.1 j 4 + x2).toInt ≤ 20000) hy, fun c2 => Or.inr (Or.inr ⟨rfl, bad⟩)⟩⟩
    · refine sp_rngN rfl rfl h2 (Or.inr (Or.inl ⟨rfl, ?_⟩))
      intro S3 e3
      have m3 := MZ.ini hm S3 e3
      exact sx_itY hs m3.mr h1 (ya1 (sx_inN rfl rfl h2 (no1 (m3.fail fun S4 m4 => fin hK ho hz (fun c => absurd c (by decide)) m4))))
  · refine sp_ctN hs hc.1 h1 (Or.inl ⟨rfl, ?_⟩)
    intro S3 e3
    have m3 := MZ.ini hm S3 e3
    exact sx_itN hs m3.mr h1 (no1 (m3.fail fun S4 m4 => fin hK ho hz (fun c => absurd c (by decide)) m4))
def setS (s : St) (k : Nat) (x : Int32) : St := (upd s.1 (2 + k) x, s.2.1, s.2.2)
theorem okS.sets {s : St} {k : Nat} {x : Int32} (hs : okS s) (hk : k < 2) : okS (setS s k x) := by
  obtain ⟨⟨⟨b1, b2, b3, b4, b5, b6⟩, hT⟩, h9⟩ := hs
  have eg : ∀ j, (j < 2 ∨ 4 ≤ j) → upd s.1 (2 + k) x j = s.1 j := fun j hj => if_neg (by omega)
  refine ⟨⟨⟨b1, ?_, ?_, ?_, fun j hj => ?_, ?_⟩, ?_⟩, ?_⟩
  · show upd s.1 (2 + k) x 15 = nI s.2.2
    rw [eg 15 (by omega)]; exact b2
  · show 0 ≤ (upd s.1 (2 + k) x 0).toInt ∧ (upd s.1 (2 + k) x 0).toInt ≤ 10100
    rw [eg 0 (by omega)]; exact b3
  · show -5000 ≤ (upd s.1 (2 + k) x 1).toInt ∧ (upd s.1 (2 + k) x 1).toInt ≤ 5000
    rw [eg 1 (by omega)]; exact b4
  · show 1 ≤ (upd s.1 (2 + k) x (4 + j)).toInt ∧ (upd s.1 (2 + k) x (4 + j)).toInt ≤ 6
    rw [eg _ (by omega)]; exact b5 j hj
  · show 0 ≤ (upd s.1 (2 + k) x 12).toInt ∧ (upd s.1 (2 + k) x 12).toInt ≤ 10 * (upd s.1 (2 + k) x 0).toInt
    rw [eg 12 (by omega), eg 0 (by omega)]; exact b6
  · show ∀ i, i < s.2.2 → WT (upd s.1 (2 + k) x 0).toInt (s.2.1 i)
    rw [eg 0 (by omega)]; exact hT
  · show (upd s.1 (2 + k) x 0).toInt ≤ 9999
    rw [eg 0 (by omega)]; exact h9
theorem PRs.sets {S : Mem} {s : St} {k : Nat} {x : Int32} (hk : k < 2) (h : PRs S 0 s) : PRs (uc S 3 0 0 (upd (S 3 0 0) (11 + k) x)) 0 (setS s k x) := by
  have a := h.1
  obtain ⟨a1, a2, a3, a4, a5, a6, a7, a8, a9⟩ := a
  have e : k = 0 ∨ k = 1 := by omega
  refine PR.set3 _ _ h ?_ (fun j h4 h12 => if_neg (by omega)) (if_neg (by omega))
  rcases e with e | e
  · subst e; exact ⟨a1, a2, rfl, a4, a6, a7, a8, a9⟩
  · subst e; exact ⟨a1, a2, a3, rfl, a6, a7, a8, a9⟩
theorem sx_setJ {S0 S : Mem} {c : Int32} {s : St} {k : Nat} {h : Nat → St} {q : Nat → Bool} {z : Nat → St} {ℓ : Nat} {b : Nat → Int32} {j : Nat} {x : Int32} {Q : Mem → Int32 → Prop} (hj : j < 2) (hm : MZ S0 S c s k h q z ℓ b) (hq : ∀ S', MZ S0 S' c (setS s j x) (pushK k) (pushH k h s) q z ℓ b → Q S' (s.1 (2 + j))) : vc_X7_set_J54 Q (nI j) x S := by
  refine hm.save fun S4 m4 => ?_
  rw [show (2 : Int32) + nI j = nI (2 + j) from nI_add 2 j, nI_clamp (by omega), m4.mr.gl (k := 2 + j) (by omega)]
  exact ⟨vp_in_nI (by omega) (by decide), vp_in_nI (by omega) (by decide), fun S5 e5 => hq S5 (m4.now (s' := setS s j x) (e5 ▸ FrM.uc16 S4 _) (e5 ▸ m4.mr.setg (by omega)))⟩
theorem call6_ok {xs : Nat → Int32} {i : Nat} {S : Mem} {o : Nat → Int64} {K : Mem → (Nat → Int64) → Prop} (hr : Rel S) (hK : ∀ S' o', Rel S' → K S' o') : vc_call6 xs i S o K := by
  obtain ⟨s, ν, k, h, q, z, ℓ, b, ho, hc, hm⟩ := hr
  have hs := ho.1
  have hz := CZ.ini hc
  unfold vc_call6 vc_L_set vc_X6_set
  generalize xs (i + 1) = x1
  generalize xs (i + 2) = x2
  by_cases c0 : x1 = 0
  · subst c0
    refine ⟨fun _ => ?_, fun c => absurd rfl c⟩
    unfold vc_X6_set_J19 vc_X6_set_J30 vc_X6_set_J41 vc_X6_set_J76
    refine ⟨fun c => absurd rfl c, fun _ => ⟨fun c => absurd rfl c, fun _ => ?_⟩⟩
    by_cases h2 : 10 ≤ x2.toInt ∧ x2.toInt ≤ 2000
    · refine sp_rngY rfl rfl h2 (hz.save hs fun S1 hz1 => ⟨fun c => absurd rfl c, fun _ => ⟨fun c => absurd rfl c, fun _ S2 e2 => ?_⟩⟩)
      have hp2 : PRs S2 0 (setS s 0 x2) := e2 ▸ hz1.p.sets (k := 0) (x := x2) (by decide)
      have hf2 : FrP 0 S1 S2 := e2 ▸ FrP.uc (by simp) S1 _
      have hz2 := hz1.now hf2 hp2
      rw [hz1.p.1.2.2.1]
      intro S3 e3
      have m3 := MZ.ini (hz2.m hm) S3 e3
      exact sx_inY (a := 0) (a' := 1) rfl rfl (by decide) (ya1 ⟨fun c => absurd rfl c, fun _ => sx_inY rfl rfl h2 (ya2 (sx_setJ (j := 0) (by decide) m3 fun S4 m4 => fin hK (ho.save.now (hs.sets (by decide))) hz2 (fun _ => rfl) m4))⟩)
    · refine sp_rngN rfl rfl h2 (Or.inr ⟨rfl, ?_⟩)
      intro S3 e3
      have m3 := MZ.ini hm S3 e3
      exact sx_inY (a := 0) (a' := 1) rfl rfl (by decide) (ya1 ⟨fun c => absurd rfl c, fun _ => sx_inN rfl rfl h2 (no2 (m3.fail fun S4 m4 => fin hK ho hz (fun c => absurd c (by decide)) m4))⟩)
  · by_cases c1 : x1 = 1
    · subst c1
      refine ⟨fun c => absurd c c0, fun _ => ⟨fun _ => ?_, fun c => absurd rfl c⟩⟩
      unfold vc_X6_set_J19 vc_X6_set_J30 vc_X6_set_J41 vc_X6_set_J76
      refine ⟨fun _ => ⟨fun _ => ?_, fun c => absurd c c0⟩, fun c => absurd c c0⟩
      by_cases h2 : 1 ≤ x2.toInt ∧ x2.toInt ≤ 5
      · refine sp_rngY rfl rfl h2 (hz.save hs fun S1 hz1 => ⟨fun _ => ⟨fun _ S2 e2 => ?_, fun c => absurd c c0⟩, fun c => absurd c c0⟩)
        have hp2 : PRs S2 0 (setS s 1 x2) := e2 ▸ hz1.p.sets (k := 1) (x := x2) (by decide)
        have hf2 : FrP 0 S1 S2 := e2 ▸ FrP.uc (by simp) S1 _
        have hz2 := hz1.now hf2 hp2
        rw [hz1.p.1.2.2.2.1]
        intro S3 e3
        have m3 := MZ.ini (hz2.m hm) S3 e3
        exact sx_inY (a := 0) (a' := 1) rfl rfl (by decide) (ya1 ⟨fun _ => sx_inY rfl rfl h2 (ya1 (sx_setJ (j := 1) (by decide) m3 fun S4 m4 => fin hK (ho.save.now (hs.sets (by decide))) hz2 (fun _ => rfl) m4)), fun c => absurd c c0⟩)
      · refine sp_rngN rfl rfl h2 (Or.inr ⟨rfl, ?_⟩)
        intro S3 e3
        have m3 := MZ.ini hm S3 e3
        exact sx_inY (a := 0) (a' := 1) rfl rfl (by decide) (ya1 ⟨fun _ => sx_inN rfl rfl h2 (no1 (m3.fail fun S4 m4 => fin hK ho hz (fun c => absurd c (by decide)) m4)), fun c => absurd c c0⟩)
    · refine ⟨fun c => absurd c c0, fun _ => ⟨fun c => absurd c c1, fun _ => Or.inl ⟨rfl, ?_⟩⟩⟩
      intro S3 e3
      have m3 := MZ.ini hm S3 e3
      refine sx_inN (a := 0) (a' := 1) rfl rfl (fun hh => ?_) (no1 (m3.fail fun S4 m4 => fin hK ho hz (fun c => absurd c (by decide)) m4))
      have z0 : (0 : Int32).toInt = 0 := rfl
      have z1 : (1 : Int32).toInt = 1 := rfl
      have n0 : ¬ x1.toInt = 0 := fun e => c0 (i_eq.mpr (by omega))
      have n1 : ¬ x1.toInt = 1 := fun e => c1 (i_eq.mpr (by omega))
      omega
