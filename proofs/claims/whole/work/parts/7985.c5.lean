/-! execute, undo, keep, goBack -/
section
variable {S0 S S' : Mem} {s s' : St} {ν k : Nat} {h : Nat → St} {q : Nat → Bool} {z : Nat → St} {ℓ ℓ' : Nat} {b b' : Nat → Int32} {c : Int32}
theorem CZ.exe (hc : CZ S0 S s ν k h q z ℓ b) (hf : FrE S S') (hp : PRs S' 0 s') : CZ S0 S' s' ν k h q z ℓ b := by
  obtain ⟨h1, ⟨h2, h3, h4, h5⟩, h6, h7, h8⟩ := hc.2
  have pr : ∀ P s, P ≠ 0 → PRs S P s → PRs S' P s := fun P s hP hp => hp.eqs (hf.1 _ _ _ (by omega) (by decide)) (hf.1 _ _ _ (by omega) (by decide)) (hf.1 _ _ _ (by omega) (by decide)) (fun i _ => ⟨hf.1 _ _ _ (by omega) (by decide), hf.1 _ _ _ (by omega) (by decide), hf.1 _ _ _ (by omega) (by decide)⟩)
  refine ⟨hc.1.tr (fun t ht => funext fun P => funext fun i => hf.1 t P i (by omega) (by omega)), hp, ⟨h2, by rw [hf.1 1 0 0 (by decide) (by decide)]; exact h3, by rw [hf.1 1 0 0 (by decide) (by decide)]; exact h4, fun j hj => pr _ _ (by omega) (h5 j hj)⟩, fun P hP => ⟨by rw [hf.1 4 P 0 (by omega) (by decide)]; exact (h6 P hP).1, fun hq => pr _ _ (by omega) ((h6 P hP).2 hq)⟩, hf.2.trans h7, fun j hj => by rw [hf.1 10 0 0 (by decide) (by decide)]; exact h8 j hj⟩
theorem MZ.savef {Q : Mem → Prop} (hm : MZ S0 S c s k h q z ℓ b) (hq : ∀ S', FrV S S' → MZ S0 S' c s (pushK k) (pushH k h s) q z ℓ b → Q S') : vc_X7_save S Q := sx_save hm.2.1.2.1 hm.mr fun S' hf hr => hq S' hf ⟨hm.1.tr hf.fc, hm.2.1.save hf hr, (hf.2 6 (by decide)).trans hm.2.2⟩
end
theorem call10_ok {xs : Nat → Int32} {i : Nat} {S : Mem} {o : Nat → Int64} {K : Mem → (Nat → Int64) → Prop} (hr : Rel S) (hK : ∀ S' o', Rel S' → K S' o') : vc_call10 xs i S o K := by
  obtain ⟨s, ν, k, h, q, z, ℓ, b, ho, hc, hm⟩ := hr
  have hs := ho.1
  have hz := CZ.ini hc
  obtain ⟨t1, t2⟩ := hc.2.2.2
  have hl := ho.2.2.2.1
  obtain ⟨N, hN⟩ := pLast_ex b hl
  unfold vc_call10 vc_L_execute vc_X6_execute vc_X2_isComplete
  refine sp_all t1 t2 hl hN (fun ha f' a3 a1 => ⟨Or.inr rfl, ya1 ?_⟩) (fun ha f' a3 a1 => ⟨Or.inl rfl, no1 ⟨rfl, ?_⟩⟩)
  · have hz1 := hz.two a3
    refine hz1.save hs fun S2 hz2 S3 e3 => ⟨N + 1 + 1, ?_⟩
    obtain ⟨v1, v2⟩ := hz2.2.2.2.2
    have hwo : ∀ j, j < N + 1 → WO (pOd ℓ b j) := fun j hj => pOd_wo hN ha (by omega)
    have hok := exR_ok hwo (N + 1) 0 s (by omega) hs
    rw [e3]
    refine lp_exe (S := S2) hl hN ha (N + 1) 0 _ s (by omega) hs hz2.p v2 (by exact v1) (by rfl) v1 fun S4 f4 p4 S5 e5 => ?_
    have hz4 := hz2.exe f4 p4
    have tx : TxC S5 0 b := ⟨by rw [e5, uc_same, upd_app, if_pos rfl]; rfl, fun j hj => absurd hj (Nat.not_lt_zero j)⟩
    have hz5 := hz4.text (fun t P i a _ => by rw [e5, uc_t a]) tx
    have ok5 : OkA (exR (pOd ℓ b) (N + 1) 0 s).2 (pushK k) (pushH k h s) q z 0 b := (ho.save.now hok).text (Nat.zero_le _) (fun j hj => absurd hj (Nat.not_lt_zero j))
    intro S6 e6
    have m6 := MZ.ini (hm.fr hz5.1) S6 e6
    obtain ⟨u1, u2⟩ := m6.2.1.2.2.2
    refine sx_all u1 u2 hl hN (fun _ A hA a12 a13 ao => ya1 ?_) (fun hn => absurd ha hn)
    have m7 := m6.parse hA
    refine m7.savef fun S8 f8 m8 => ⟨N + 1 + 1, ?_⟩
    have g13 : S8 15 0 0 13 = nI (N + 1) := by rw [f8.2 13 (by decide), ms_15]; exact a13
    refine lx_exe (os := pOd ℓ b) hN.1 hwo (N + 1) 0 S8 s (by omega) hs m8.mr g13 (fun j hj => (ao j hj).cg (fun t h1 h2 => ?_)) fun S9 f9 h9 S10 e10 => ?_
    · show S8 t 0 0 = A t
      rw [f8.1 t 0 0 (by omega) (by omega), ms_get (Or.inr ⟨h1, h2⟩)]
    · have m9 := m8.now f9 h9
      refine fin hK ok5 hz5 (fun _ => rfl) (m9.text (fun t P i ht => ?_) ?_ ?_ ⟨?_, fun j hj => absurd hj (Nat.not_lt_zero j)⟩)
      · rw [e10, uc_t (by omega)]
      · rw [e10, uc_same, upd_app, if_neg (by decide)]
      · rw [e10, uc_same, upd_app, if_neg (by decide)]
      · rw [e10, uc_same, upd_app, if_pos rfl]; rfl
  · have hz1 := hz.two a3
    intro S6 e6
    have m6 := MZ.ini (hm.fr hz1.1) S6 e6
    obtain ⟨u1, u2⟩ := m6.2.1.2.2.2
    refine sx_all u1 u2 hl hN (fun ha2 => absurd ha2 ha) (fun _ A hA a12 => no1 ?_)
    exact (m6.parse hA).fail fun S7 m7 => fin hK ho hz1 (fun c => absurd c (by decide)) m7
theorem call11_ok {xs : Nat → Int32} {i : Nat} {S : Mem} {o : Nat → Int64} {K : Mem → (Nat → Int64) → Prop} (hr : Rel S) (hK : ∀ S' o', Rel S' → K S' o') : vc_call11 xs i S o K := by
  obtain ⟨s, ν, k, h, q, z, ℓ, b, ho, hc, hm⟩ := hr
  have hs := ho.1
  have hz := CZ.ini hc
  obtain ⟨h1, hH, h6, h7, h8⟩ := hc
  obtain ⟨⟨hν, hk6⟩, hn2, hn3, hj⟩ := hH
  have hm3 := hm.2.1.2.1
  unfold vc_call11 vc_L_undo vc_X6_undo
  rw [hn3]
  cases k with
  | zero =>
    refine ⟨fun c => absurd rfl c, fun _ => ⟨rfl, ?_⟩⟩
    intro S3 e3
    have m3 := MZ.ini hm S3 e3
    have e2 := m3.2.1.2.1.2.1
    rw [e2]
    exact ⟨fun c => absurd rfl c, fun _ => m3.fail fun S4 m4 => fin hK ho hz (fun c => absurd c (by decide)) m4⟩
  | succ k =>
    have hs' := ho.2.1 k (by omega)
    refine ⟨fun _ => ?_, fun c => absurd c (nI_ne0 (by omega) (by omega))⟩
    refine sp_restore ⟨⟨hν, hk6⟩, hn2, hn3, hj⟩ hs'.1 fun S1 hf1 hH1 hp1 => ?_
    have pr : ∀ P s, 8 ≤ P → PRs S P s → PRs S1 P s := fun P s hP hp => hp.eqs (hf1 _ _ _ (by omega) (by omega)) (hf1 _ _ _ (by omega) (by omega)) (hf1 _ _ _ (by omega) (by omega)) (fun i _ => ⟨hf1 _ _ _ (by omega) (by omega), hf1 _ _ _ (by omega) (by omega), hf1 _ _ _ (by omega) (by omega)⟩)
    have hz1 : CZ S S1 (h k) ((ν + 5) % 6) k h q z ℓ b := by
      refine ⟨fun t ht => funext fun P => funext fun i => hf1 t P i (by omega) (by omega), hp1, hH1, fun P hP => ⟨by rw [hf1 4 P 0 (by omega) (by omega)]; exact (h6 P hP).1, fun hq => pr _ _ (by omega) ((h6 P hP).2 hq)⟩, by rw [hf1 2 0 0 (by omega) (by omega)]; exact h7, fun j hj => by rw [hf1 10 0 0 (by omega) (by omega)]; exact h8 j hj⟩
    have ok1 : OkA (h k) k h q z ℓ b := ⟨hs', fun j hj => ho.2.1 j (by omega), ho.2.2⟩
    rw [hH1.2.2.1]
    intro S3 e3
    have m3 := MZ.ini (hm.fr hz1.1) S3 e3
    obtain ⟨g1, ⟨g2, g3, g4⟩, g6, g7, g8⟩ := m3.2.1
    rw [g3]
    refine ⟨fun _ S4 e4 => ⟨227, ?_⟩, fun c => absurd c (nI_ne0 (by omega) (by omega))⟩
    rw [nI_m1] at e4
    have e42 : S4 15 0 0 2 = nI k := by rw [e4, uc_same, upd_app, if_pos rfl]
    refine lx_undo (f := S4 17 0 0) (r := S4 16 0 0) (k := k) (by omega) 226 0 S4 rfl e42 rfl (fun p => (if_neg (by omega)).symm) fun S5 f5 h5 => ?_
    have e52 : S5 15 0 0 2 = nI k := by rw [f5 15 0 0 (by decide)]; exact e42
    rw [e52]
    have ot : ∀ t P i, t ≠ 15 → t ≠ 16 → S5 t P i = S3 t P i := fun t P i a b => by rw [f5 t P i (fun hh => b hh.1), e4, uc_t a]
    have o15 : ∀ j, j ≠ 2 → S5 15 0 0 j = S3 15 0 0 j := fun j hj => by rw [f5 15 0 0 (by decide), e4, uc_same, upd_app, if_neg hj]
    refine fin hK ok1 hz1 (fun _ => rfl) ⟨m3.1.tr (fun t ht => funext fun P => funext fun i => ot t P i (by omega) (by omega)), ⟨?_, ⟨by omega, e52, fun j hj => ?_⟩, fun P hP => ⟨?_, fun hq => ?_⟩, ?_, fun j hj => ?_⟩, (o15 6 (by decide)).trans m3.2.2⟩
    · refine RT.from (f := S3 17 0 0) (b := 226 * k) (fun p hp => ?_) (g4 k (by omega))
      rw [Nat.zero_add, h5 p hp, e4, uc_t (by decide)]
    · rw [ot 17 0 0 (by decide) (by decide)]; exact g4 j (by omega)
    · rw [ot 19 0 0 (by decide) (by decide)]; exact (g6 P hP).1
    · rw [ot 18 0 0 (by decide) (by decide)]; exact (g6 P hP).2 hq
    · rw [o15 11 (by decide)]; exact g7
    · rw [ot 23 0 0 (by decide) (by decide)]; exact g8 j hj
def putB (q : Nat → Bool) (P : Nat) : Nat → Bool := fun P' => if P' = P then true else q P'
def putZ (z : Nat → St) (P : Nat) (s : St) : Nat → St := fun P' => if P' = P then s else z P'
theorem sp_snap {S : Mem} {P : Nat} {Q : Mem → Nat → Nat → Prop} (hP : P < 2) (hq : Q S P 0) : vc_X6_snapshotIn S (nI P) Q := by
  have e : P = 0 ∨ P = 1 := by omega
  rcases e with e | e
  · subst e; exact ⟨fun c => absurd rfl c, fun _ => hq⟩
  · subst e; exact ⟨fun _ => hq, fun c => absurd (show nI 1 = 0 from c) (by decide)⟩
theorem call12_ok {xs : Nat → Int32} {i : Nat} {S : Mem} {o : Nat → Int64} {K : Mem → (Nat → Int64) → Prop} (hr : Rel S) (hK : ∀ S' o', Rel S' → K S' o') : vc_call12 xs i S o K := by
  obtain ⟨s, ν, k, h, q, z, ℓ, b, ho, hc, hm⟩ := hr
  have hs := ho.1
  have hz := CZ.ini hc
  unfold vc_call12 vc_L_keep vc_X6_keep
  generalize xs (i + 1) = x
  by_cases hx : 0 ≤ x.toInt ∧ x.toInt ≤ 1
  · refine sp_rngY rfl rfl hx ?_
    obtain ⟨P, hP, e1⟩ := row_ex (m := 1) hx
    have hP : P < 2 := hP
    rw [e1] at hx ⊢
    refine sp_snap hP ⟨rfl, hP, sp_copy (by omega) (by omega) (by omega) hs.1.six hc.1 fun S1 f1 p1 S2 e2 => ?_⟩
    obtain ⟨h1, ⟨h2, h3, h4, h5⟩, h6, h7, h8⟩ := hc
    have ot : ∀ t P' i', t ≠ 4 → ¬ ((t = 0 ∨ t = 3 ∨ t = 5 ∨ t = 6 ∨ t = 7 ∨ t = 8 ∨ t = 12 ∨ t = 13) ∧ P' = 9 + P) → S2 t P' i' = S t P' i' := fun t P' i' a b => by rw [e2, uc_t a]; exact f1 t P' i' b
    have pr : ∀ P' s, P' ≠ 9 + P → PRs S P' s → PRs S2 P' s := fun P' s hP' hp => hp.eqs (ot _ _ _ (by decide) (by omega)) (ot _ _ _ (by decide) (by omega)) (ot _ _ _ (by decide) (by omega)) (fun i _ => ⟨ot _ _ _ (by decide) (by omega), ot _ _ _ (by decide) (by omega), ot _ _ _ (by decide) (by omega)⟩)
    have p2 : PRs S2 (9 + P) s := PR.eqs (S := S1) (by rw [e2, uc_t (by decide)]) (by rw [e2, uc_t (by decide)]) (by rw [e2, uc_t (by decide)]) (fun i _ => ⟨by rw [e2, uc_t (by decide)], by rw [e2, uc_t (by decide)], by rw [e2, uc_t (by decide)]⟩) p1
    have hz2 : CZ S S2 s ν k h (putB q P) (putZ z P s) ℓ b := by
      refine ⟨fun t ht => funext fun P' => funext fun i' => ot t P' i' (by omega) (by omega), pr 0 s (by omega) h1, ⟨h2, by rw [ot 1 0 0 (by decide) (by omega)]; exact h3, by rw [ot 1 0 0 (by decide) (by omega)]; exact h4, fun j hj => pr _ _ (by omega) (h5 j hj)⟩, fun P' hP' => ?_, by rw [ot 2 0 0 (by decide) (by omega)]; exact h7, fun j hj => by rw [ot 10 0 0 (by decide) (by omega)]; exact h8 j hj⟩
      unfold putB putZ
      by_cases e : P' = P
      · subst e
        simp only [if_pos]
        exact ⟨by rw [e2, uc_same, upd_app, if_pos rfl], fun _ => p2⟩
      · simp only [if_neg e]
        refine ⟨?_, fun hq => pr _ _ (by omega) ((h6 P' hP').2 hq)⟩
        rw [e2, uc_P e, f1 4 P' 0 (by omega)]
        exact (h6 P' hP').1
    have ok2 : OkA s k h (putB q P) (putZ z P s) ℓ b := by
      refine ⟨hs, ho.2.1, fun P' hP' hq => ?_, ho.2.2.2⟩
      unfold putZ
      unfold putB at hq
      by_cases e : P' = P
      · rw [if_pos e]; exact hs
      · rw [if_neg e]
        rw [if_neg e] at hq
        exact ho.2.2.1 P' hP' hq
    rw [hz2.p.1.1]
    intro S3 e3
    have m3 := MZ.ini (hm.fr hz2.1) S3 e3
    obtain ⟨g1, ⟨g2, g3, g4⟩, g6, g7, g8⟩ := m3.2.1
    refine sx_inY rfl rfl hx (ya1 ⟨227, ?_⟩)
    refine lx_keep (f := S3 18 0 0) (r := S3 16 0 0) (k := P) hP 226 0 S3 rfl rfl (fun p => (if_neg (by omega)).symm) fun S4 f4 h4' => ⟨vp_in_nI hP (by decide), fun S5 e5 => ⟨vv0, ?_⟩⟩
    rw [nI_clamp (by omega), nar_b.2] at e5
    have o5 : ∀ t P' i', t ≠ 18 → t ≠ 19 → S5 t P' i' = S3 t P' i' := fun t P' i' a b => by rw [e5, uc_t b, f4 t P' i' (fun hh => a hh.1)]
    have e16 : S5 16 0 0 = S3 16 0 0 := o5 16 0 0 (by decide) (by decide)
    have g0 : S5 16 0 0 (0 : Int32).toNatClampNeg = s.1 0 := by rw [e16]; exact m3.mr.g0
    rw [g0]
    have e18 : S5 18 0 0 = S4 18 0 0 := by rw [e5, uc_t (by decide)]
    refine fin hK ok2 hz2 (fun _ => rfl) ⟨m3.1.tr (fun t ht => funext fun P' => funext fun i' => o5 t P' i' (by omega) (by omega)), ⟨?_, ⟨g2, by rw [o5 15 0 0 (by decide) (by decide)]; exact g3, fun j hj => by rw [o5 17 0 0 (by decide) (by decide)]; exact g4 j hj⟩, fun P' hP' => ?_, by rw [o5 15 0 0 (by decide) (by decide)]; exact g7, fun j hj => by rw [o5 23 0 0 (by decide) (by decide)]; exact g8 j hj⟩, by rw [o5 15 0 0 (by decide) (by decide)]; exact m3.2.2⟩
    · unfold MR
      rw [e16]; exact g1
    · unfold putB putZ
      by_cases e : P' = P
      · subst e
        simp only [if_pos]
        refine ⟨by rw [e5, uc_same, upd_app, if_pos rfl], fun _ => ?_⟩
        refine RT.from (f := S3 16 0 0) (b := 0) (fun p hp => ?_) g1
        rw [e18, h4', if_pos (by omega)]
        congr 1
        omega
      · simp only [if_neg e]
        refine ⟨?_, fun hq => ?_⟩
        · rw [e5, uc_same, upd_app, if_neg e, f4 19 0 0 (by decide)]; exact (g6 P' hP').1
        · refine RT.from (f := S3 18 0 0) (b := 226 * P') (fun p hp => ?_) ((g6 P' hP').2 hq)
          rw [e18, h4', if_neg (by omega)]
  · refine sp_rngN rfl rfl hx ⟨rfl, ?_⟩
    intro S3 e3
    have m3 := MZ.ini hm S3 e3
    exact sx_inN rfl rfl hx (no1 (m3.fail fun S4 m4 => fin hK ho hz (fun c => absurd c (by decide)) m4))
theorem call13_ok {xs : Nat → Int32} {i : Nat} {S : Mem} {o : Nat → Int64} {K : Mem → (Nat → Int64) → Prop} (hr : Rel S) (hK : ∀ S' o', Rel S' → K S' o') : vc_call13 xs i S o K := by
  obtain ⟨s, ν, k, h, q, z, ℓ, b, ho, hc, hm⟩ := hr
  have hs := ho.1
  have hz := CZ.ini hc
  unfold vc_call13 vc_L_goBack vc_X6_goBack
  generalize xs (i + 1) = x
  by_cases hx : 0 ≤ x.toInt ∧ x.toInt ≤ 1
  · refine sp_rngY rfl rfl hx ?_
    obtain ⟨P, hP, e1⟩ := row_ex (m := 1) hx
    have hP : P < 2 := hP
    rw [e1] at hx ⊢
    refine sp_snap hP ⟨rfl, hP, ?_⟩
    have h6 := hc.2.2.1 P hP
    rw [h6.1]
    by_cases cq : q P = true
    · rw [if_pos cq]
      have hzP := ho.2.2.1 P hP cq
      refine ya1 (hz.save hs fun S1 hz1 => sp_snap hP ⟨rfl, hP, by omega, ?_⟩)
      refine sp_copy (by omega) (by omega) (by omega) hzP.1.six ((hz1.2.2.2.1 P hP).2 cq) fun S2 f2 p2 => ?_
      have hz2 := hz1.now (s' := z P) f2 p2
      rw [hz2.p.1.1]
      intro S3 e3
      have m3 := MZ.ini (hz2.m hm) S3 e3
      have g6 := m3.2.1.2.2.1 P hP
      refine sx_inY rfl rfl hx (ya1 ⟨vp_in_nI hP (by decide), ?_⟩)
      rw [nI_clamp (by omega), g6.1, if_pos cq]
      refine ya1 (m3.save fun S4 m4 => ⟨227, ?_⟩)
      refine lx_back (f := S4 18 0 0) (r := S4 16 0 0) (k := P) hP 226 0 S4 rfl rfl (fun p => (if_neg (by omega)).symm) fun S5 f5 h5 => ⟨vv0, ?_⟩
      have r5 : MR S5 (z P).1 (z P).2.1 := by
        refine RT.from (f := S4 18 0 0) (b := 226 * P) (fun p hp => ?_) ((m4.2.1.2.2.1 P hP).2 cq)
        rw [Nat.zero_add, h5 p hp]
      rw [r5.g0]
      exact fin hK (ho.save.now hzP) hz2 (fun _ => rfl) (m4.now f5.m r5)
    · rw [if_neg cq]
      refine no1 (Or.inr ⟨rfl, ?_⟩)
      intro S3 e3
      have m3 := MZ.ini hm S3 e3
      have g6 := m3.2.1.2.2.1 P hP
      refine sx_inY rfl rfl hx (ya1 ⟨vp_in_nI hP (by decide), ?_⟩)
      rw [nI_clamp (by omega), g6.1, if_neg cq]
      exact no1 (m3.fail fun S4 m4 => fin hK ho hz (fun c => absurd c (by decide)) m4)
  · refine sp_rngN rfl rfl hx (Or.inl ⟨rfl, ?_⟩)
    intro S3 e3
    have m3 := MZ.ini hm S3 e3
    exact sx_inN rfl rfl hx (no1 (m3.fail fun S4 m4 => fin hK ho hz (fun c => absurd c (by decide)) m4))
