/-! an hour keeps the numbers as they can be -/
theorem WT.mono {h h' : Int} {t : Th} (hh : h ≤ h') (hw : WT h t) : WT h' t := by
  obtain ⟨c0, c1, c2, c3, c4, c6, κ, d1, d2, d3, d4⟩ := hw
  exact ⟨c0, c1, c2, c3, c4, c6, κ, d1, d2, fun k hk => ⟨(d3 k hk).1, (d3 k hk).2.1, Int.le_trans (d3 k hk).2.2 hh⟩, d4⟩
theorem WT.cg {h : Int} {t t' : Th} (he : ∀ k, k ≠ 4 → k ≠ 5 → k ≠ 6 → k ≠ 8 → t' k = t k) (h4 : -20000 ≤ (t' 4).toInt ∧ (t' 4).toInt ≤ 20000) (h6 : t' 6 = 0 ∨ t' 6 = 1) (hw : WT h t) : WT h t' := by
  obtain ⟨c0, c1, c2, c3, c4, c6, κ, d1, d2, d3, d4⟩ := hw
  unfold WT
  rw [he 0 (by decide) (by decide) (by decide) (by decide), he 1 (by decide) (by decide) (by decide) (by decide), he 2 (by decide) (by decide) (by decide) (by decide), he 3 (by decide) (by decide) (by decide) (by decide), he 7 (by decide) (by decide) (by decide) (by decide)]
  refine ⟨c0, c1, c2, c3, h4, h6, κ, d1, d2, fun k hk => ?_, fun k hk => ?_⟩
  · rw [he (10 + 2 * k) (by omega) (by omega) (by omega) (by omega), he (9 + 2 * k) (by omega) (by omega) (by omega) (by omega)]
    exact d3 k hk
  · rw [he (9 + 2 * (k + 1)) (by omega) (by omega) (by omega) (by omega), he (9 + 2 * k) (by omega) (by omega) (by omega) (by omega)]
    exact d4 k hk
theorem tdiv_between {a b : Int} (hb : 1 ≤ b) : (0 ≤ a → 0 ≤ a.tdiv b ∧ a.tdiv b ≤ a) ∧ (a ≤ 0 → a ≤ a.tdiv b ∧ a.tdiv b ≤ 0) := by
  constructor
  · intro ha
    exact ⟨Int.tdiv_nonneg ha (by omega), Int.tdiv_le_self b ha⟩
  · intro ha
    have h1 : 0 ≤ -a := by omega
    have e : (-a).tdiv b = -(a.tdiv b) := Int.neg_tdiv ..
    have h2 := Int.tdiv_nonneg h1 (show 0 ≤ b by omega)
    have h3 := Int.tdiv_le_self b h1
    rw [e] at h2 h3
    omega
theorem WT.fol {h : Int} {t : Th} {x : Int32} (hx : -5000 ≤ x.toInt ∧ x.toInt ≤ 5000) (hw : WT h t) : WT h (folT x t) := by
  have hw2 := hw
  obtain ⟨c0, c1, c2, c3, c4, c6, -⟩ := hw2
  refine hw.cg (fun k h1 _ _ _ => folT_k h1) ?_ (by rw [folT_k (by decide)]; exact c6)
  have e4 : folT x t 4 = t 4 + (x + t 2 - t 4) / t 1 := by unfold folT; rw [upd_app, if_pos rfl]
  have e1 : (x + t 2).toInt = x.toInt + (t 2).toInt := i_add (by omega) (by omega)
  have e2 : (x + t 2 - t 4).toInt = x.toInt + (t 2).toInt - (t 4).toInt := by rw [i_sub (by omega) (by omega), e1]
  have e3 : ((x + t 2 - t 4) / t 1).toInt = (x.toInt + (t 2).toInt - (t 4).toInt).tdiv (t 1).toInt := by rw [i_div (by omega), e2]
  have hb := tdiv_between (a := x.toInt + (t 2).toInt - (t 4).toInt) c1.1
  have h5 : -20000 ≤ (t 4).toInt + (x.toInt + (t 2).toInt - (t 4).toInt).tdiv (t 1).toInt ∧ (t 4).toInt + (x.toInt + (t 2).toInt - (t 4).toInt).tdiv (t 1).toInt ≤ 20000 := by
    rcases Int.le_total 0 (x.toInt + (t 2).toInt - (t 4).toInt) with hc | hc
    · have := hb.1 hc; omega
    · have := hb.2 hc; omega
  rw [e4, i_add (by rw [e3]; omega) (by rw [e3]; omega), e3]
  exact h5
theorem WT.read {h : Int} {t : Th} {x : Int32} (hx : h < x.toInt) (h0 : 0 ≤ x.toInt) (hw : WT h t) : WT x.toInt (readT x t) := by
  obtain ⟨c0, c1, c2, c3, c4, c6, κ, d1, d2, d3, d4⟩ := hw
  unfold WT
  rw [readT_k (k := 0) (by decide), readT_k (k := 1) (by decide), readT_k (k := 2) (by decide), readT_k (k := 3) (by decide), readT_k (k := 4) (by decide), readT_k (k := 6) (by decide)]
  have e9 : readT x t 9 = x := if_pos rfl
  have e10 : readT x t 10 = t 4 := rfl
  have eh : ∀ k, k < 5 → readT x t (9 + 2 * (k + 1)) = t (9 + 2 * k) := fun k hk => by
    unfold readT
    rw [if_neg (by omega), if_neg (by omega), if_pos (by omega)]
    congr 1
  have ev : ∀ k, k < 5 → readT x t (10 + 2 * (k + 1)) = t (10 + 2 * k) := fun k hk => by
    unfold readT
    rw [if_neg (by omega), if_neg (by omega), if_pos (by omega)]
    congr 1
  refine ⟨c0, c1, c2, c3, c4, c6, if κ < 6 then κ + 1 else 6, by split <;> omega, readT_7 d2 d1, fun k hk => ?_, fun k hk => ?_⟩
  · have hk' : k < κ + 1 ∧ k < 6 := by split at hk <;> omega
    cases k with
    | zero =>
      refine ⟨?_, ?_, ?_⟩
      · show -20000 ≤ (readT x t 10).toInt ∧ (readT x t 10).toInt ≤ 20000
        rw [e10]; exact c4
      · show 0 ≤ (readT x t 9).toInt
        rw [e9]; exact h0
      · show (readT x t 9).toInt ≤ x.toInt
        rw [e9]; exact Int.le_refl _
    | succ k =>
      rw [eh k (by omega), ev k (by omega)]
      have := d3 k (by omega)
      exact ⟨this.1, this.2.1, by omega⟩
  · have hk' : k + 1 < κ + 1 ∧ k + 1 < 6 := by split at hk <;> omega
    cases k with
    | zero =>
      rw [eh 0 (by omega)]
      show (t (9 + 2 * 0)).toInt < (readT x t 9).toInt
      rw [e9]
      have := d3 0 (by omega)
      omega
    | succ k =>
      rw [eh (k + 1) (by omega), eh k (by omega)]
      exact d4 k (by omega)
theorem WT.cmp {h : Int} {t : Th} {mid diff : Int32} (hw : WT h t) : WT h (cmpT mid diff t) := hw.cg (fun k _ h5 _ h8 => cmpT_k ⟨h5, h8⟩) (by rw [cmpT_k (by decide)]; exact hw.2.2.2.2.1) (by rw [cmpT_k (by decide)]; exact hw.2.2.2.2.2.1)
theorem WT.out {h : Int} {t : Th} {s : Int32} (hw : WT h t) : WT h (outT s t) := hw.cg (fun k _ _ h6 _ => outT_k h6) (by rw [outT_k (by decide)]; exact hw.2.2.2.2.1) (by
  unfold outT
  split
  · exact hw.2.2.2.2.2.1
  · exact Or.inr rfl)
theorem cntD_le (g : Gl) (t : Ts) : ∀ i, cntD g t i ≤ i
  | 0 => Nat.le_refl 0
  | i + 1 => by
    have := cntD_le g t i
    rw [cntD]
    split <;> omega
theorem WS.cg {g g' : Gl} {t : Ts} {n : Nat} (he : ∀ k, (k < 8 ∨ k = 12 ∨ k = 15) → g' k = g k) (hw : WS g t n) : WS g' t n := by
  obtain ⟨⟨b1, b2, b3, b4, b5, b6⟩, hT⟩ := hw
  refine ⟨⟨b1, ?_, ?_, ?_, fun k hk => ?_, ?_⟩, ?_⟩
  · rw [he 15 (by decide)]; exact b2
  · rw [he 0 (by decide)]; exact b3
  · rw [he 1 (by decide)]; exact b4
  · rw [he (4 + k) (by omega)]; exact b5 k hk
  · rw [he 12 (by decide), he 0 (by decide)]; exact b6
  · rw [he 0 (by decide)]; exact hT
theorem WS.look {g : Gl} {t : Ts} {n : Nat} (hw : WS g t n) : WS (lookG g t n) (lookT g t n) n := by
  unfold lookG lookT
  by_cases c : 2 ≤ cntK t n
  · rw [if_pos c, if_pos c]
    refine WS.cg (g := g) (fun k hk => spG_k (by omega)) ⟨hw.1, fun i hi => ?_⟩
    have h0 := hw.2 i hi
    have h1 : WT (g 0).toInt (cmpA g t n n i) := by
      unfold cmpA
      split
      · exact h0.cmp
      · exact h0
    unfold outA
    split
    · exact h1.out
    · exact h1
  · rw [if_neg c, if_neg c]; exact hw
theorem rdG_k {g : Gl} {t : Ts} {m k : Nat} (h : k ≠ 12) : rdG g t m k = g k := by unfold rdG; rw [upd_app, if_neg h]
theorem rdG_12 {g : Gl} {t : Ts} {m : Nat} : rdG g t m 12 = g 12 + nI (cntD g t m) := by unfold rdG; rw [upd_app, if_pos rfl]
theorem pasR_k {g : Gl} {t : Ts} {n : Nat} {x : Int32} {k : Nat} (h : k < 8 ∨ k = 13 ∨ k = 15) (h2 : k ≠ 0 ∧ k ≠ 1) : pasR g t n x k = g k := by
  unfold pasR rrG
  rw [rdG_k (by omega), tickG_k (by omega) (by decide), preG_k (by omega)]
theorem pasR_0 {g : Gl} {t : Ts} {n : Nat} {x : Int32} : pasR g t n x 0 = g 0 + 1 := by
  unfold pasR rrG
  rw [rdG_k (by omega), tickG_k (by omega) (by decide), preG_0]
theorem pasR_1 {g : Gl} {t : Ts} {n : Nat} {x : Int32} : pasR g t n x 1 = x := by
  unfold pasR rrG
  rw [rdG_k (by omega), tickG_k (by omega) (by decide), preG_1]
theorem pasR_12 {g : Gl} {t : Ts} {n : Nat} {x : Int32} : ∃ d, d ≤ n ∧ pasR g t n x 12 = g 12 + nI d := by
  refine ⟨_, cntD_le (tickG (preG g t n x) 4) (folA x t n) n, ?_⟩
  unfold pasR rrG
  rw [rdG_12, tickG_k (by omega) (by decide), preG_k (by decide)]
theorem WS.psU {g : Gl} {t : Ts} {n : Nat} {x : Int32} (hx : -5000 ≤ x.toInt ∧ x.toInt ≤ 5000) (h0 : (g 0).toInt < 10100) (hw : WS g t n) : WS (pasR g t n x) (pasU g t n x) n := by
  obtain ⟨⟨b1, b2, b3, b4, b5, b6⟩, hT⟩ := hw
  have hh : (g 0 + 1).toInt = (g 0).toInt + 1 := i_add (by rw [show (1 : Int32).toInt = 1 from rfl]; omega) (by rw [show (1 : Int32).toInt = 1 from rfl]; omega)
  obtain ⟨d, hd, ed⟩ := pasR_12 (g := g) (t := t) (n := n) (x := x)
  have hd2 : (nI d).toInt = d := nI_toInt (by omega)
  refine ⟨⟨b1, ?_, ?_, ?_, fun k hk => ?_, ?_⟩, fun i hi => ?_⟩
  · rw [pasR_k (by omega) (by decide)]; exact b2
  · rw [pasR_0, hh]; omega
  · rw [pasR_1]; exact hx
  · rw [pasR_k (by omega) (by omega)]; exact b5 k hk
  · rw [pasR_0, hh, ed, i_add (by rw [hd2]; omega) (by rw [hd2]; omega), hd2]; omega
  · have h1 : WT (g 0).toInt (folA x t n i) := by
      rw [show folA x t n i = folT x (t i) from if_pos hi]
      exact (hT i hi).fol hx
    have e0 : tickG (preG g t n x) 4 0 = g 0 + 1 := by rw [tickG_k (by omega) (by decide), preG_0]
    rw [pasR_0]
    unfold pasU rrT rdT
    split
    · rw [e0]; exact h1.read (by rw [hh]; omega) (by rw [hh]; omega)
    · exact h1.mono (by rw [hh]; omega)
theorem WS.pas {g : Gl} {t : Ts} {n : Nat} {x : Int32} (hx : -5000 ≤ x.toInt ∧ x.toInt ≤ 5000) (h0 : (g 0).toInt < 10100) (hw : WS g t n) : WS (pasG g t n x) (pasT g t n x) n := by
  have h1 := hw.psU hx h0
  unfold pasG pasT
  by_cases c : pasR g t n x 12 ≤ g 12
  · rw [if_pos c, if_pos c]; exact h1
  · rw [if_neg c, if_neg c]; exact h1.look
theorem pasG_0 {g : Gl} {t : Ts} {n : Nat} {x : Int32} : pasG g t n x 0 = g 0 + 1 := by
  unfold pasG lookG
  split
  · exact pasR_0
  · split
    · rw [spG_k (by decide)]; exact pasR_0
    · exact pasR_0
theorem pasG_1 {g : Gl} {t : Ts} {n : Nat} {x : Int32} : pasG g t n x 1 = x := by
  unfold pasG lookG
  split
  · exact pasR_1
  · split
    · rw [spG_k (by decide)]; exact pasR_1
    · exact pasR_1
