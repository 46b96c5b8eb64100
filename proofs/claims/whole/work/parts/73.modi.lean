/-! an hour of the reference -/
theorem cntD_0 {g : Gl} {t : Ts} : ∀ m, cntD g t m = 0 → ∀ i, i < m → ¬ dueT g (t i 0)
  | 0, _, i, hi => absurd hi (by omega)
  | m + 1, h, i, hi => by
    rw [cntD] at h
    by_cases c : dueT g (t m 0)
    · rw [if_pos c] at h; omega
    · rw [if_neg c] at h
      by_cases e : i = m
      · rw [e]; exact c
      · exact cntD_0 m h i (by omega)
theorem pasU_due {g : Gl} {t : Ts} {n : Nat} {x : Int32} (hw : WS g t n) (h0 : (g 0).toInt < 10100) {i : Nat} (hi : i < n) : (dueT (pasR g t n x) (pasU g t n x i 0) ↔ dueT (tickG (preG g t n x) 4) (folA x t n i 0)) ∧ (askT (pasU g t n x i) → (dueT (pasR g t n x) (pasU g t n x i 0) ↔ pasU g t n x i 9 = pasR g t n x 0)) := by
  obtain ⟨⟨b1, b2, b3, b4, b5, b6⟩, hT⟩ := hw
  obtain ⟨⟨ρ, hρ, eρ⟩, c1, c2, c3, c4, c6, κ, d1, d2, d3, d4⟩ := hT i hi
  have hh : (g 0 + 1).toInt = (g 0).toInt + 1 := i_add (by rw [show (1 : Int32).toInt = 1 from rfl]; omega) (by rw [show (1 : Int32).toInt = 1 from rfl]; omega)
  have ef : folA x t n i 0 = nI ρ := (folA_k (by decide)).trans eρ
  have eu : pasU g t n x i 0 = nI ρ := by
    unfold pasU rrT rdT
    split
    · exact (readT_k (by decide)).trans ef
    · exact ef
  have ed : dueT (pasR g t n x) (nI ρ) ↔ dueT (tickG (preG g t n x) 4) (nI ρ) := by
    unfold pasR rrG
    exact dueT_cg (rdG_k (by decide)) (fun k hk => rdG_k (by omega)) hρ
  rw [eu, ef]
  refine ⟨ed, fun ha => ?_⟩
  rw [ed, pasR_0]
  have e0 : tickG (preG g t n x) 4 0 = g 0 + 1 := by rw [tickG_k (by omega) (by decide), preG_0]
  by_cases c : dueT (tickG (preG g t n x) 4) (nI ρ)
  · refine ⟨fun _ => ?_, fun _ => c⟩
    unfold pasU rrT rdT
    rw [if_pos ⟨hi, by rw [ef]; exact c⟩, e0]
    rfl
  · refine ⟨fun hc => absurd hc c, fun hc => ?_⟩
    have e1 : pasU g t n x i = folA x t n i := by
      unfold pasU rrT rdT
      exact if_neg (fun h9 => c (by have := h9.2; rw [ef] at this; exact this))
    rw [e1] at ha hc
    have h7 := askT_ne ha
    rw [folA_k (by decide)] at h7 hc
    have k0 : 0 < κ := by
      rcases Nat.eq_zero_or_pos κ with e | e
      · rw [e] at d2; exact absurd d2 h7
      · exact e
    have h9 : (t i 9).toInt ≤ (g 0).toInt := (d3 0 k0).2.2
    have := i_eq.mp hc
    rw [hh] at this
    omega
theorem look_id {g : Gl} {t : Ts} {n : Nat} (h : ∀ i, i < n → ¬ askR g (t i)) : (∀ k, lookG g t n k = g k) ∧ ∀ i, lookT g t n i = t i := by
  refine ⟨fun k => ?_, fun i => ?_⟩
  · unfold lookG
    by_cases c : 2 ≤ cntK t n
    · rw [if_pos c, cntS_0 (c := cA g t) n (Nat.le_refl n) (fun k hk => decide_eq_false (h k hk))]
      by_cases e : k = 13
      · subst e
        rw [spG_13]
        exact Int32.add_zero _
      · exact spG_k e
    · rw [if_neg c]
  · unfold lookT
    by_cases c : 2 ≤ cntK t n
    · rw [if_pos c]
      have e1 : cmpA g t n n i = t i := if_neg (fun hh => h i hh.1 hh.2)
      unfold outA
      rw [e1]
      exact if_neg (fun hh => h i hh.1 hh.2)
    · rw [if_neg c]
theorem sx_pass {Q : Mem → Int32 → Prop} {S : Mem} {n : Nat} {g : Gl} {t : Ts} {x : Int32} (hw : WS g t n) (hx : -5000 ≤ x.toInt ∧ x.toInt ≤ 5000) (h0 : (g 0).toInt < 10100) (h : MR S g t) (hq : ∀ S', FrM S S' → MR S' (pasG g t n x) (pasT g t n x) → Q S' (pasN g t n x)) : vc_X7_pass S x Q := by
  have hn := hw.1.1
  have hg := hw.1.2.1
  have hwT : ∀ i, i < n → ∃ h, WT h (t i) := fun i hi => ⟨_, hw.2 i hi⟩
  have hwU := hw.psU hx h0
  have c14 : (14 : Int32).toNatClampNeg = 14 := rfl
  have c0 : (0 : Int32).toNatClampNeg = 0 := rfl
  have c1 : (1 : Int32).toNatClampNeg = 1 := rfl
  refine sx_mean hn hg hwT h ⟨vv14, fun S3 e3 => ⟨vv0, vv0, fun S7 e7 => ⟨vv1, fun S10 e10 => ?_⟩⟩⟩
  rw [c14] at e3
  have h3 : MR S3 (upd g 14 (meanV t n)) t := e3 ▸ h.setg (by decide)
  rw [h3.g0, c0, upd_app, if_neg (by decide)] at e7
  have h7 : MR S7 (upd (upd g 14 (meanV t n)) 0 (g 0 + 1)) t := e7 ▸ h3.setg (by decide)
  rw [c1] at e10
  have h10 : MR S10 (preG g t n x) t := e10 ▸ h7.setg (by decide)
  have f10 : FrM S S10 := ((e3 ▸ FrM.uc16 S _ : FrM S S3).tr (e7 ▸ FrM.uc16 S3 _ : FrM S3 S7)).tr (e10 ▸ FrM.uc16 S7 _)
  have hp : ∀ k, k < 4 → ¬ g (4 + k) = 0 := fun k hk e => by
    have := (hw.1.2.2.2.2.1 k hk).1
    rw [e] at this
    exact absurd this (by decide)
  have hg15 : preG g t n x 15 = nI n := (preG_k (by decide)).trans hg
  rw [nI_lit0]
  refine ⟨n + 1, lx_fol (g := preG g t n x) (t := t) hn hg15 (fun i hi => lag_ne (hw.2 i hi)) preG_1 n 0 S10 (by omega) (h10.cg (fun _ _ => rfl) (fun i _ j _ => congrFun (show t i = folA x t 0 i from (if_neg (by omega)).symm) j)) fun S16 f16 h16 => ?_⟩
  refine sx_rows (g := preG g t n x) (t := folA x t n) hn hg15 (fun k hk => by rw [preG_k (by omega)]; exact hp k hk) (fun i hi => by rw [folA_k (by decide)]; exact (hw.2 i hi).1) h16 fun S17 f17 h17 => ?_
  rw [preG_k (by decide)]
  have hgR : pasR g t n x 15 = nI n := hwU.1.2.1
  refine sx_look (g := pasR g t n x) (t := pasU g t n x) hn hgR (fun k hk => by rw [pasR_k (by omega) (by omega)]; exact hp k hk) (fun i hi => ⟨_, hwU.2 i hi⟩) (fun i hi => (pasU_due hw h0 hi).2) h17 fun S19 f19 h19 => hq S19 ((((f10.tr f16).tr f17).tr f19)) ?_
  unfold pasG pasT
  by_cases c : pasR g t n x 12 ≤ g 12
  · rw [if_pos c, if_pos c]
    have hz : cntD (tickG (preG g t n x) 4) (folA x t n) n = 0 := by
      have e12 : pasR g t n x 12 = g 12 + nI (cntD (tickG (preG g t n x) 4) (folA x t n) n) := by
        unfold pasR rrG
        rw [rdG_12, tickG_k (by omega) (by decide), preG_k (by decide)]
      have hle := cntD_le (tickG (preG g t n x) 4) (folA x t n) n
      have hb := hw.1.2.2.2.2.2
      have b3 := hw.1.2.2.1
      have ed : (nI (cntD (tickG (preG g t n x) 4) (folA x t n) n)).toInt = (cntD (tickG (preG g t n x) 4) (folA x t n) n : Nat) := nI_toInt (by omega)
      have c' := i_le.mp c
      rw [e12, i_add (by rw [ed]; omega) (by rw [ed]; omega), ed] at c'
      omega
    have hid := look_id (g := pasR g t n x) (t := pasU g t n x) (n := n) (fun i hi ha => by
      have hd := pasU_due (x := x) hw h0 hi
      exact cntD_0 n hz i hi (hd.1.mp ((hd.2 ha.1).mpr ha.2)))
    exact h19.cg (fun k _ => hid.1 k) (fun i _ j _ => by rw [hid.2 i])
  · rw [if_neg c, if_neg c]
    exact h19
