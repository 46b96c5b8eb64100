/-! the law's middle, by counting, is the class's -/
theorem lo_many {Q : Mem → Int32 → Prop} {K : Mem → Int32 → Prop} {S : Mem} {P n : Nat} {g : Gl} {t : Ts} {x : Int32} (h : LR S P g t n) (hK : K S (nI (cn (mc t x) n))) : ∀ m i, i + m = n → vc_L_middle_L6 Q K P x (m + 1) S (nI (cn (mc t x) i)) (nI i) := by
  have hn := h.1.1
  intro m
  induction m with
  | zero =>
    intro i hi
    have e : i = n := by omega
    subst e
    rw [vc_L_middle_L6, nc_15, h.n15]
    exact ⟨nv_15, fun _ => hK, fun c => absurd (n_le hn) c⟩
  | succ m ih =>
    intro i hi
    have hin : i < n := by omega
    have hs := ih (i + 1) (by omega)
    rw [nI_succ] at hs
    rw [vc_L_middle_L6, nc_15, h.n15]
    refine ⟨nv_15, fun c => absurd c (n_ge hn hin), fun _ => ⟨fun c => ?_, fun c => so_ask h hin ?_⟩⟩
    · have e : cn (mc t x) (i + 1) = cn (mc t x) i := by
        rw [cn_s, if_neg (fun hh => (mc_t.mp hh).1 c)]
      rw [e] at hs
      unfold vc_L_middle_J37 vc_L_middle_J38
      rw [Int32.add_zero]
      exact hs
    · refine z_if (fun ha => ?_) (fun ha => ?_)
      · have e : cn (mc t x) (i + 1) = cn (mc t x) i + 1 := by
          rw [cn_s, if_pos (mc_t.mpr ⟨c, ha⟩)]
        rw [e, nI_succ (cn (mc t x) i)] at hs
        unfold vc_L_middle_J38
        exact hs
      · have e : cn (mc t x) (i + 1) = cn (mc t x) i := by
          rw [cn_s, if_neg (fun hh => ha (mc_t.mp hh).2)]
        rw [e] at hs
        unfold vc_L_middle_J37 vc_L_middle_J38
        rw [Int32.add_zero]
        exact hs
theorem lo_bef {Q : Mem → Int32 → Prop} {K : Mem → Int32 → Int32 → Int32 → Prop} {S : Mem} {P n i : Nat} {g : Gl} {t : Ts} {x y5 : Int32} (h : LR S P g t n) (hw : WS g t n) (hi : i < n) (hK : K S y5 (nI i) (nI (rk (mc t x) (mk t) n i))) : ∀ m j, j + m = n → vc_L_middle_L81 Q K P x (m + 1) S y5 (nI i) (nI (rk (mc t x) (mk t) j i)) (nI j) := by
  have hn := h.1.1
  intro m
  induction m with
  | zero =>
    intro j hj
    have e : j = n := by omega
    subst e
    rw [vc_L_middle_L81, nc_15, h.n15]
    exact ⟨nv_15, fun _ => hK, fun c => absurd (n_le hn) c⟩
  | succ m ih =>
    intro j hj
    have hjn : j < n := by omega
    have hs := ih (j + 1) (by omega)
    rw [nI_succ] at hs
    have hno : ¬ (mc t x j && bf (mk t) j i) = true → vc_L_middle_L81 Q K P x (m + 1) S y5 (nI i) (nI (rk (mc t x) (mk t) j i)) (nI j + 1) := fun hh => by
      rw [rk_no hh] at hs; exact hs
    have hye : (mc t x j && bf (mk t) j i) = true → vc_L_middle_L81 Q K P x (m + 1) S y5 (nI i) (nI (rk (mc t x) (mk t) j i) + 1) (nI j + 1) := fun hh => by
      rw [rk_ye hh, nI_succ (rk (mc t x) (mk t) j i)] at hs; exact hs
    have J0 : ¬ (mc t x j && bf (mk t) j i) = true → vc_L_middle_J169 Q (vc_L_middle_L81 Q K P x (m + 1)) K P x S y5 (nI i) (nI j) (nI (rk (mc t x) (mk t) j i)) := fun hh => by
      unfold vc_L_middle_J169 vc_L_middle_J170
      rw [Int32.add_zero]
      exact hno hh
    have J : ∀ w : Int32, (w = if bf (mk t) j i = true then 1 else 0) → vc_L_middle_J140 Q (vc_L_middle_L81 Q K P x (m + 1)) K P x S y5 (nI i) (nI (rk (mc t x) (mk t) j i)) (nI j) w := by
      intro w ew
      subst ew
      unfold vc_L_middle_J140
      refine ⟨fun c => J0 ?_, fun c => so_ask h hjn (z_if (fun ha => z_if (fun hb => ?_) (fun hb => J0 ?_)) (fun ha => J0 ?_))⟩
      · rw [Bool.and_eq_true]
        exact fun hh => (mc_t.mp hh.1).1 c
      · unfold vc_L_middle_J170
        exact hye (by rw [Bool.and_eq_true]; exact ⟨mc_t.mpr ⟨c, ha⟩, hb⟩)
      · rw [Bool.and_eq_true]
        exact fun hh => hb hh.2
      · rw [Bool.and_eq_true]
        exact fun hh => ha (mc_t.mp hh.1).2
    have J1 : bf (mk t) j i = true → vc_L_middle_J135 Q (vc_L_middle_L81 Q K P x (m + 1)) K P x S y5 (nI i) (nI (rk (mc t x) (mk t) j i)) (nI j) := fun hb => by
      unfold vc_L_middle_J135
      exact J 1 (by rw [if_pos hb])
    have J2 : ¬ bf (mk t) j i = true → vc_L_middle_J139 Q (vc_L_middle_L81 Q K P x (m + 1)) K P x S y5 (nI i) (nI (rk (mc t x) (mk t) j i)) (nI j) := fun hb => by
      unfold vc_L_middle_J139
      exact J 0 (by rw [if_neg hb])
    have hbt : bf (mk t) j i = true ↔ (mended (t j) < mended (t i) ∨ (mended (t j) = mended (t i) ∧ j < i)) := bf_t
    rw [vc_L_middle_L81, nc_15, h.n15]
    refine ⟨nv_15, fun c => absurd c (n_ge hn hjn), fun _ => so_own h hw hjn (so_own h hw hi ⟨fun c => J1 (hbt.mpr (Or.inl c)), fun c => so_own h hw hjn (so_own h hw hi ⟨fun c2 => J2 (fun hb => ?_), fun c2 => ⟨fun c3 => J2 (fun hb => ?_), fun c3 => J1 (hbt.mpr (Or.inr ⟨c2, ?_⟩))⟩⟩)⟩)⟩
    · rcases hbt.mp hb with h1 | h1
      · exact c h1
      · exact c2 h1.1
    · have := (nI_leI (a := i) (b := j) (by omega) (by omega)).mp c3
      rcases hbt.mp hb with h1 | h1
      · exact c h1
      · omega
    · have : ¬ i ≤ j := fun hh => c3 ((nI_leI (by omega) (by omega)).mpr hh)
      omega
theorem half_nI {k : Nat} (h1 : 1 ≤ k) (h : k < 100) : (nI k - (1 : Int32)) / (2 : Int32) = nI ((k - 1) / 2) := by
  rw [show nI k - (1 : Int32) = nI (k - 1) from pk_sub (b := 1) h1]
  exact pk_div (d := 2) (by omega) (by decide) (by decide)
theorem lo_mid {Q : Mem → Int32 → Prop} {K : Mem → Prop} {S : Mem} {P n : Nat} {g : Gl} {t : Ts} {x : Int32} (h : LR S P g t n) (hw : WS g t n) (hq : Q S (midV t x n)) (hK : midV t x n = -999999 → K S) : ∀ m i, i + m = n → (∀ j, j < i → mc t x j = true → ¬ rk (mc t x) (mk t) n j = (cn (mc t x) n - 1) / 2) → vc_L_middle_L50 Q K P x (m + 1) S (nI (cn (mc t x) n)) (nI i) := by
  have hn := h.1.1
  have hcn := cn_le (mc t x) n
  intro m
  induction m with
  | zero =>
    intro i hi hno
    have e : i = n := by omega
    subst e
    rw [vc_L_middle_L50, nc_15, h.n15]
    refine ⟨nv_15, fun _ => hK ?_, fun c => absurd (n_le hn) c⟩
    by_cases e0 : cn (mc t x) i = 0
    · exact midV_0 e0
    · obtain ⟨j, hj, hc, hr⟩ := rk_sur (mc t x) (mk t) i ((cn (mc t x) i - 1) / 2) (by omega)
      exact absurd hr (hno j hj hc)
  | succ m ih =>
    intro i hi hno
    have hin : i < n := by omega
    have hs : (mc t x i = true → ¬ rk (mc t x) (mk t) n i = (cn (mc t x) n - 1) / 2) → vc_L_middle_J199 Q (vc_L_middle_L50 Q K P x (m + 1)) K P x S (nI (cn (mc t x) n)) (nI i) := fun hh => by
      unfold vc_L_middle_J199
      rw [← nI_succ]
      refine ih (i + 1) (by omega) (fun j hj hc => ?_)
      by_cases e : j = i
      · rw [e] at hc ⊢; exact hh hc
      · exact hno j (by omega) hc
    rw [vc_L_middle_L50, nc_15, h.n15]
    refine ⟨nv_15, fun c => absurd c (n_ge hn hin), fun _ => ⟨fun c => hs (fun hc => absurd c (mc_t.mp hc).1), fun c => so_ask h hin (z_if (fun ha => ?_) (fun ha => hs (fun hc => absurd (mc_t.mp hc).2 ha)))⟩⟩
    have hc : mc t x i = true := mc_t.mpr ⟨c, ha⟩
    have hb := rk_bd (key := mk t) hin hc
    refine ⟨n + 1, lo_bef h hw hin ?_ n 0 (by omega)⟩
    rw [half_nI (by omega) (by omega)]
    refine ⟨by decide, fun c2 => hs (fun _ hr => c2 (by rw [hr])), fun c2 => so_own h hw hin ?_⟩
    rw [← midV_rk hin hc (nI_inj (by omega) (by omega) c2)]
    exact hq
theorem so_middle {Q : Mem → Int32 → Prop} {S : Mem} {P n : Nat} {g : Gl} {t : Ts} {x : Int32} (h : LR S P g t n) (hw : WS g t n) (hq : Q S (midV t x n)) : vc_L_middle S P x Q :=
  ⟨n + 1, lo_many h ⟨n + 1, lo_mid h hw hq (fun e => by rw [← e]; exact hq) n 0 (by omega) (fun j hj => absurd hj (by omega))⟩ n 0 (by omega)⟩
