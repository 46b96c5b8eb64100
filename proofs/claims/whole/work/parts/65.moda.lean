/-! the reference: its row -/
theorem i_nlt {x y : Int32} : ¬ x < y ↔ y ≤ x := by rw [i_lt, i_le]; omega
theorem i_nle {x y : Int32} : ¬ x ≤ y ↔ y < x := by rw [i_lt, i_le]; omega
theorem RT.gl {f : Nat → Int32} {g : Gl} {t : Ts} (h : RT f 0 g t) {k : Nat} (hk : k < 16) : f k = g k := by
  have := h.1 k hk
  rw [Nat.zero_add] at this
  exact this
theorem RT.th {f : Nat → Int32} {g : Gl} {t : Ts} (h : RT f 0 g t) {i j : Nat} (hi : i < 10) (hj : j < 21) : f (16 + 21 * i + j) = t i j := by
  have := h.2 i hi j hj
  rw [Nat.zero_add] at this
  exact this
theorem RT.setg {f : Nat → Int32} {g : Gl} {t : Ts} {k : Nat} {x : Int32} (h : RT f 0 g t) (hk : k < 16) : RT (upd f k x) 0 (upd g k x) t := by
  refine ⟨fun k' hk' => ?_, fun i hi j hj => ?_⟩
  · rw [Nat.zero_add, upd_app, upd_app]
    by_cases e : k' = k
    · rw [if_pos e, if_pos e]
    · rw [if_neg e, if_neg e]; exact h.gl hk'
  · rw [Nat.zero_add, upd_app, if_neg (by omega)]
    exact h.th hi hj
theorem RT.sett {f : Nat → Int32} {g : Gl} {t : Ts} {i j : Nat} {x : Int32} (h : RT f 0 g t) (hi : i < 10) (hj : j < 21) : RT (upd f (16 + 21 * i + j) x) 0 g (fun i' => if i' = i then upd (t i) j x else t i') := by
  refine ⟨fun k' hk' => ?_, fun i' hi' j' hj' => ?_⟩
  · rw [Nat.zero_add, upd_app, if_neg (by omega)]
    exact h.gl hk'
  · rw [Nat.zero_add, upd_app]
    show _ = (if i' = i then upd (t i) j x else t i') j'
    by_cases e : i' = i
    · subst e
      rw [if_pos rfl, upd_app]
      by_cases e2 : j' = j
      · rw [if_pos (by omega), if_pos e2]
      · rw [if_neg (by omega), if_neg e2]; exact h.th hi' hj'
    · rw [if_neg e, if_neg (by omega)]; exact h.th hi' hj'
theorem RT.cg {f : Nat → Int32} {b : Nat} {g g' : Gl} {t t' : Ts} (hg : ∀ k, k < 16 → g k = g' k) (ht : ∀ i, i < 10 → ∀ j, j < 21 → t i j = t' i j) (h : RT f b g t) : RT f b g' t' := ⟨fun k hk => (h.1 k hk).trans (hg k hk), fun i hi j hj => (h.2 i hi j hj).trans (ht i hi j hj)⟩
theorem m_ix : ∀ i, i < 10 → ∀ j, j < 21 → (16 : Int32) + 21 * nI i + nI j = nI (16 + 21 * i + j) := by decide +kernel
abbrev MR (S : Mem) (g : Gl) (t : Ts) : Prop := RT (S 16 0 0) 0 g t
theorem sx_of {Q : Mem → Int32 → Prop} {S : Mem} {i j : Nat} {g : Gl} {t : Ts} (hi : i < 10) (hj : j < 21) (h : MR S g t) (hq : Q S (t i j)) : vc_X7_of S (nI i) (nI j) Q := by
  unfold vc_X7_of
  rw [m_ix i hi j hj, nI_clamp (by omega), h.th hi hj]
  exact ⟨vp_in_nI (by omega) (by decide), hq⟩
theorem sx_put {Q : Mem → Prop} {S : Mem} {i j : Nat} {x : Int32} (hi : i < 10) (hj : j < 21) (hq : ∀ S', S' = uc S 16 0 0 (upd (S 16 0 0) (16 + 21 * i + j) x) → Q S') : vc_X7_put S (nI i) (nI j) x Q := by
  unfold vc_X7_put
  rw [m_ix i hi j hj, nI_clamp (by omega)]
  exact ⟨vp_in_nI (by omega) (by decide), hq⟩
theorem vv15 : vp_in (15 : Int32) 226 := vp_in_nI (show 15 < 226 by decide) (by decide)
theorem vv14 : vp_in (14 : Int32) 226 := vp_in_nI (show 14 < 226 by decide) (by decide)
theorem vv13 : vp_in (13 : Int32) 226 := vp_in_nI (show 13 < 226 by decide) (by decide)
theorem vv12 : vp_in (12 : Int32) 226 := vp_in_nI (show 12 < 226 by decide) (by decide)
theorem vv0 : vp_in (0 : Int32) 226 := vp_in_nI (show 0 < 226 by decide) (by decide)
theorem vv1 : vp_in (1 : Int32) 226 := vp_in_nI (show 1 < 226 by decide) (by decide)
theorem vv2 : vp_in (2 : Int32) 226 := vp_in_nI (show 2 < 226 by decide) (by decide)
theorem vv3 : vp_in (3 : Int32) 226 := vp_in_nI (show 3 < 226 by decide) (by decide)
theorem MR.g15 {S : Mem} {g : Gl} {t : Ts} (h : MR S g t) : S 16 0 0 (15 : Int32).toNatClampNeg = g 15 := h.gl (show 15 < 16 by decide)
theorem MR.g14 {S : Mem} {g : Gl} {t : Ts} (h : MR S g t) : S 16 0 0 (14 : Int32).toNatClampNeg = g 14 := h.gl (show 14 < 16 by decide)
theorem MR.g13 {S : Mem} {g : Gl} {t : Ts} (h : MR S g t) : S 16 0 0 (13 : Int32).toNatClampNeg = g 13 := h.gl (show 13 < 16 by decide)
theorem MR.g12 {S : Mem} {g : Gl} {t : Ts} (h : MR S g t) : S 16 0 0 (12 : Int32).toNatClampNeg = g 12 := h.gl (show 12 < 16 by decide)
theorem MR.g0 {S : Mem} {g : Gl} {t : Ts} (h : MR S g t) : S 16 0 0 (0 : Int32).toNatClampNeg = g 0 := h.gl (show 0 < 16 by decide)
theorem MR.g1 {S : Mem} {g : Gl} {t : Ts} (h : MR S g t) : S 16 0 0 (1 : Int32).toNatClampNeg = g 1 := h.gl (show 1 < 16 by decide)
theorem MR.g2 {S : Mem} {g : Gl} {t : Ts} (h : MR S g t) : S 16 0 0 (2 : Int32).toNatClampNeg = g 2 := h.gl (show 2 < 16 by decide)
theorem MR.g3 {S : Mem} {g : Gl} {t : Ts} (h : MR S g t) : S 16 0 0 (3 : Int32).toNatClampNeg = g 3 := h.gl (show 3 < 16 by decide)
theorem ix_le {S : Mem} {g : Gl} {t : Ts} {n i : Nat} (h : MR S g t) (hg : g 15 = nI n) (hi : i < n) (hn : n ≤ 10) : ¬ S 16 0 0 (15 : Int32).toNatClampNeg ≤ nI i := by rw [h.g15, hg]; exact nI_ge hi (by omega)
theorem ix_ge {S : Mem} {g : Gl} {t : Ts} {n : Nat} (h : MR S g t) (hg : g 15 = nI n) (hn : n ≤ 10) : S 16 0 0 (15 : Int32).toNatClampNeg ≤ nI n := by rw [h.g15, hg]; exact nI_le (Nat.le_refl n) (by omega)
theorem sx_size {Q : Mem → Int32 → Prop} {S : Mem} {x : Int32} (hq : Q S (iabs x)) : vc_X7_size S x Q := by
  unfold iabs at hq
  refine ⟨fun c => ?_, fun c => ?_⟩
  · rw [if_pos c] at hq; exact hq
  · rw [if_neg c] at hq
    rw [Int32.zero_sub] at hq
    exact hq
theorem sx_mendB {Q : Mem → Int32 → Prop} {S : Mem} {i : Nat} {g : Gl} {t : Ts} {h : Int} {lag : Int32} (hi : i < 10) (hw : WT h (t i)) (hm : MR S g t) (hq : Q S (mendB (t i) lag)) : vc_X7_mendedBy S (nI i) lag Q := by
  obtain ⟨c0, c1, c2, c3, c4, c6, κ, d1, d2, d3, d4⟩ := hw
  unfold mendB at hq
  unfold vc_X7_mendedBy
  refine sx_of (j := 7) hi (by decide) hm ⟨fun c => ?_, fun c => ?_⟩
  · rw [if_neg c] at hq
    refine sx_of (j := 10) hi (by decide) hm (sx_of (j := 7) hi (by decide) hm ⟨fun c1 => ?_, fun c1 => ?_⟩)
    · rw [if_neg (fun hh => i_nle.mpr hh c1)] at hq
      exact sx_of (j := 2) hi (by decide) hm hq
    · have c1' : 1 < t i 7 := i_nle.mp c1
      rw [if_pos c1'] at hq
      have hk : 1 < κ := by
        rw [d2] at c1'
        exact (nI_ltI (by omega) (by omega)).mp (show nI 1 < nI κ from c1')
      exact sx_of (j := 9) hi (by decide) hm (sx_of (j := 11) hi (by decide) hm (sx_of (j := 12) hi (by decide) hm ⟨sub_ne (d4 0 hk), sx_of (j := 2) hi (by decide) hm hq⟩))
  · rw [if_pos c] at hq
    exact hq
theorem sx_mend {Q : Mem → Int32 → Prop} {S : Mem} {i : Nat} {g : Gl} {t : Ts} {h : Int} (hi : i < 10) (hw : WT h (t i)) (hm : MR S g t) (hq : Q S (mended (t i))) : vc_X7_mended S (nI i) Q := sx_of (j := 1) hi (by decide) hm (sx_mendB hi hw hm hq)
theorem sx_asked {Q : Mem → Int32 → Prop} {S : Mem} {i : Nat} {g : Gl} {t : Ts} (hi : i < 10) (hm : MR S g t) (hq : Q S (if askT (t i) then 1 else 0)) : vc_X7_isAsked S (nI i) Q := by
  unfold vc_X7_isAsked
  refine sx_of (j := 7) hi (by decide) hm ⟨fun c => ?_, fun c => sx_of (j := 6) hi (by decide) hm ⟨fun c2 => ?_, fun c2 => ?_⟩⟩
  · rw [if_neg (fun hh : askT (t i) => i_nle.mpr hh.1 c)] at hq
    exact hq
  · rw [if_neg (fun hh : askT (t i) => c2 hh.2)] at hq
    exact hq
  · rw [if_pos (show askT (t i) from ⟨i_nle.mp c, c2⟩)] at hq
    exact hq
theorem lx_mean {Q : Mem → Int32 → Prop} {K : Mem → Int32 → Int32 → Prop} {S : Mem} {n : Nat} {g : Gl} {t : Ts} (hn : n ≤ 10) (hg : g 15 = nI n) (hw : ∀ i, i < n → ∃ h, WT h (t i)) (hm : MR S g t) (hK : K S (meanS t n).1 (meanS t n).2) : ∀ m i, i + m = n → vc_X7_mean_L6 Q K (m + 1) S (meanS t i).1 (meanS t i).2 (nI i) := by
  intro m
  induction m with
  | zero =>
    intro i hi
    have e : i = n := by omega
    subst e
    rw [vc_X7_mean_L6]
    exact ⟨vv15, fun _ => hK, fun c => absurd (ix_ge hm hg hn) c⟩
  | succ m ih =>
    intro i hi
    have hlt : i < n := by omega
    have e := ih (i + 1) (by omega)
    obtain ⟨h, hwi⟩ := hw i hlt
    rw [vc_X7_mean_L6]
    unfold vc_X7_mean_J49
    rw [nI_1]
    refine ⟨vv15, fun c => absurd c (ix_le hm hg hlt hn), fun _ => sx_asked (by omega) hm ⟨fun c => ?_, fun c => ?_⟩⟩
    · have ha : ¬ askT (t i) := fun hh => by rw [if_pos hh] at c; exact absurd c (by decide)
      rw [meanS, if_neg ha] at e
      exact e
    · have ha : askT (t i) := by
        by_cases hh : askT (t i)
        · exact hh
        · rw [if_neg hh] at c; exact absurd rfl c
      rw [meanS, if_pos ha] at e
      exact sx_mend (by omega) hwi hm (sx_of (j := 3) (by omega) (by decide) hm (sx_of (j := 3) (by omega) (by decide) hm e))
theorem sx_mean {Q : Mem → Int32 → Prop} {S : Mem} {n : Nat} {g : Gl} {t : Ts} (hn : n ≤ 10) (hg : g 15 = nI n) (hw : ∀ i, i < n → ∃ h, WT h (t i)) (hm : MR S g t) (hq : Q S (meanV t n)) : vc_X7_mean S Q := by
  unfold meanV at hq
  refine ⟨n + 1, lx_mean hn hg hw hm ⟨fun c => ?_, fun c => ?_⟩ n 0 (by omega)⟩
  · rw [if_neg c] at hq; exact ⟨c, hq⟩
  · rw [if_pos c] at hq; exact hq
theorem sx_slope {Q : Mem → Int32 → Prop} {S : Mem} {n : Nat} {g : Gl} {t : Ts} (hn : n ≤ 10) (hg : g 15 = nI n) (hw : ∀ i, i < n → ∃ h, WT h (t i)) (hm : MR S g t) (hq : Q S (slopeV g t n)) : vc_X7_slope S Q := by
  unfold slopeV at hq
  refine sx_mean hn hg hw hm ⟨fun c => ?_, fun c => ⟨vv14, fun c2 => ⟨vv14, ?_⟩, fun c2 => ?_⟩⟩
  · rw [if_pos (Or.inl c)] at hq; exact hq
  · rw [hm.g14] at c2 ⊢
    rw [if_neg (fun hh => hh.elim c c2)] at hq; exact hq
  · rw [hm.g14] at c2
    rw [if_pos (Or.inr c2)] at hq; exact hq
