/-! areRanked -/
def kc (t : Ts) : Nat → Bool := fun j => decide (0 < t j 7)
theorem kc_t {t : Ts} {j : Nat} : kc t j = true ↔ 0 < t j 7 := ⟨fun h => of_decide_eq_true h, fun h => decide_eq_true h⟩
theorem ctM_cn (t : Ts) : ∀ n, btN t (-2147483648) 2147483647 n = cn (kc t) n
  | 0 => rfl
  | n + 1 => by
    rw [btN_s, cn_s, ctM_cn t n]
    by_cases h : 0 < t n 7
    · rw [if_pos h, if_pos (kc_t.mpr h)]
    · rw [if_neg h, if_neg (fun hh => h (kc_t.mp hh))]
theorem ahN_rk (kd : Int32) (g : Gl) (t : Ts) (i : Nat) : ∀ n, ahN kd g t i n = rk (kc t) (keyV kd g t) n i
  | 0 => rfl
  | n + 1 => by
    have ih := ahN_rk kd g t i n
    show (if rkP kd g t i n then ahN kd g t i n + 1 else ahN kd g t i n) = _
    by_cases h : rkP kd g t i n
    · rw [if_pos h, ih, rk_ye (by rw [Bool.and_eq_true]; exact ⟨kc_t.mpr h.1, bf_t.mpr h.2⟩)]
    · rw [if_neg h, ih, rk_no (by rw [Bool.and_eq_true]; exact fun hh => h ⟨kc_t.mp hh.1, bf_t.mp hh.2⟩)]
theorem rkF_yes {kd : Int32} {g : Gl} {t : Ts} {n : Nat} {x2 : Int32} : ∀ m i, i + m = n → (∃ j, i ≤ j ∧ j < n ∧ rkC kd g t n x2 j) → ∃ j, j < n ∧ rkC kd g t n x2 j ∧ rkF kd g t n x2 m i = nI j
  | 0, i, h, ⟨j, h1, h2, _⟩ => absurd h1 (by omega)
  | m + 1, i, h, ⟨j, h1, h2, h3⟩ => by
    show ∃ j, j < n ∧ rkC kd g t n x2 j ∧ (if rkC kd g t n x2 i then nI i else rkF kd g t n x2 m (i + 1)) = nI j
    by_cases c : rkC kd g t n x2 i
    · exact ⟨i, by omega, c, if_pos c⟩
    · rw [if_neg c]
      refine rkF_yes m (i + 1) (by omega) ⟨j, ?_, h2, h3⟩
      by_cases e : i = j
      · rw [e] at c; exact absurd h3 c
      · omega
theorem rkF_no {kd : Int32} {g : Gl} {t : Ts} {n : Nat} {x2 : Int32} (hno : ∀ j, j < n → ¬ rkC kd g t n x2 j) : ∀ m i, i + m = n → rkF kd g t n x2 m i = -999999
  | 0, i, h => rfl
  | m + 1, i, h => by
    show (if rkC kd g t n x2 i then nI i else rkF kd g t n x2 m (i + 1)) = -999999
    rw [if_neg (hno i (by omega))]
    exact rkF_no hno m (i + 1) (by omega)
theorem keyV_rng {kd : Int32} {g : Gl} {t : Ts} {n i : Nat} (hw : WS g t n) (hi : i < n) (h7 : 0 < t i 7) : (-2000000 : Int32) < keyV kd g t i := by
  have hwT := hw.2 i hi
  have hg := hw.1.2.2.2.1
  have hm := mendB_rng hwT hwT.2.1 (fun e => by rw [e] at h7; exact absurd h7 (by decide))
  have hm : -340200 ≤ (mended (t i)).toInt ∧ (mended (t i)).toInt ≤ 340200 := hm
  have hs : (mended (t i) - g 1).toInt = (mended (t i)).toInt - (g 1).toInt := i_sub (by omega) (by omega)
  have l0 : (0 : Int32).toInt = 0 := rfl
  have l2 : (-2000000 : Int32).toInt = -2000000 := rfl
  have hn : ∀ x : Int32, -400000 ≤ x.toInt ∧ x.toInt ≤ 400000 → (0 - x).toInt = - x.toInt := fun x hx => by
    rw [i_sub (by rw [l0]; omega) (by rw [l0]; omega), l0]
    omega
  rw [i_lt, l2]
  unfold keyV
  split
  · rw [neg_sub0]
    unfold iabs
    split
    · rw [hn _ (by omega)]
      omega
    · rw [hn (0 - (mended (t i) - g 1)) (by rw [hn _ (by omega)]; omega), hn _ (by omega)]
      omega
  · omega
section
variable {Q : Mem → Int32 → Prop} {S : Mem} {s : St} {x5 x6 x7 : Int32}
theorem lo_within {K : Mem → Int32 → Int32 → Prop} (hl : LR S 0 s.1 s.2.1 s.2.2) (hw : WSs s) (hK : K S (nI (ctM s)) (nI (btN s.2.1 x6 x7 s.2.2))) : ∀ m i, i + m = s.2.2 → vc_L_areRanked_L9 Q K x5 x6 x7 (m + 1) S (nI (btN s.2.1 (-2147483648) 2147483647 i)) (nI (btN s.2.1 x6 x7 i)) (nI i) := by
  intro m
  induction m with
  | zero =>
    intro i hi
    have e : i = s.2.2 := by omega
    subst e
    rw [vc_L_areRanked_L9, nc_15, hl.n15]
    exact ⟨nv_15, fun _ => hK, fun c => absurd (n_le hl.1.1) c⟩
  | succ m ih =>
    intro i hi
    have hin : i < s.2.2 := by omega
    have hi6 := hl.six hin
    have hT := hl.2.2 i hin
    have hs := ih (i + 1) (by omega)
    rw [nI_succ] at hs
    have es : btN s.2.1 x6 x7 (i + 1) = if btP s.2.1 x6 x7 i then btN s.2.1 x6 x7 i + 1 else btN s.2.1 x6 x7 i := rfl
    have J87 : ¬ btP s.2.1 x6 x7 i → vc_L_areRanked_J87 Q (vc_L_areRanked_L9 Q K x5 x6 x7 (m + 1)) K x5 x6 x7 S (nI (btN s.2.1 (-2147483648) 2147483647 (i + 1))) (nI i) (nI (btN s.2.1 x6 x7 i)) := fun hh => by
      rw [es, if_neg hh] at hs
      unfold vc_L_areRanked_J87 vc_L_areRanked_J88
      rw [Int32.add_zero]
      exact hs
    have J88 : btP s.2.1 x6 x7 i → vc_L_areRanked_J88 Q (vc_L_areRanked_L9 Q K x5 x6 x7 (m + 1)) K x5 x6 x7 S (nI (btN s.2.1 (-2147483648) 2147483647 (i + 1))) (nI i) (nI (btN s.2.1 x6 x7 i)) 1 := fun hh => by
      rw [es, if_pos hh, nI_succ (btN s.2.1 x6 x7 i)] at hs
      unfold vc_L_areRanked_J88
      exact hs
    have J39 : ∀ w : Int32, nI (btN s.2.1 (-2147483648) 2147483647 i) + w = nI (btN s.2.1 (-2147483648) 2147483647 (i + 1)) → vc_L_areRanked_J39 Q (vc_L_areRanked_L9 Q K x5 x6 x7 (m + 1)) K x5 x6 x7 S (nI (btN s.2.1 x6 x7 i)) (nI i) (nI (btN s.2.1 (-2147483648) 2147483647 i)) w := by
      intro w ew
      unfold vc_L_areRanked_J39
      rw [tc_7 hi6, hT.1 7 (by decide), ew]
      exact ⟨tv_7 hi6, fun c => J87 (fun hh => absurd hh.1 (Int32.not_lt.mpr c)), fun c => so_own hl hw hin ⟨fun c2 => J87 (fun hh => hh.2.1 c2), fun c2 => so_own hl hw hin ⟨fun c3 => J87 (fun hh => hh.2.2 c3), fun c3 => J88 ⟨Int32.not_le.mp c, c2, c3⟩⟩⟩⟩
    rw [vc_L_areRanked_L9, nc_15, hl.n15, tc_7 hi6, hT.1 7 (by decide)]
    refine ⟨nv_15, fun c => absurd c (n_ge hl.1.1 hin), fun _ => ⟨tv_7 hi6, fun c => J39 0 ?_, fun c => J39 1 ?_⟩⟩
    · rw [btN_s, if_neg (Int32.not_lt.mpr c), Int32.add_zero]
    · rw [btN_s, if_pos (Int32.not_le.mp c), nI_succ]
theorem lo_ranks {K : Mem → Int32 → Prop} (hkd : x5 = 0 ∨ x5 = 1) (hc : CC S s) (hl : LR S 0 s.1 s.2.1 s.2.2) (hw : WSs s) (hK : K S 1) : ∀ m r b l, r + m = ctM s → (∀ i, i < s.2.2 → kc s.2.1 i = true → rk (kc s.2.1) (keyV x5 s.1 s.2.1) s.2.2 i = r → (b < keyV x5 s.1 s.2.1 i ∨ (keyV x5 s.1 s.2.1 i = b ∧ ¬ nI i ≤ l))) → vc_L_areRanked_L140 Q K x5 x6 x7 (m + 1) S (nI (ctM s)) 1 b l (nI r) := by
  have hn := hl.1.1
  have hM : ctM s = cn (kc s.2.1) s.2.2 := ctM_cn s.2.1 s.2.2
  have hM6 : ctM s ≤ 6 := by
    have := cn_le (kc s.2.1) s.2.2
    omega
  intro m
  induction m with
  | zero =>
    intro r b l hr hI
    have e : r = ctM s := by omega
    subst e
    rw [vc_L_areRanked_L140]
    exact ⟨fun _ => hK, fun c => absurd (nI_le (Nat.le_refl _) (by omega)) c⟩
  | succ m ih =>
    intro r b l hr hI
    obtain ⟨j0, hj0, hcj0, hrj0⟩ := rk_sur (kc s.2.1) (keyV x5 s.1 s.2.1) s.2.2 r (by omega)
    obtain ⟨i, hi, hci, ei⟩ := rkF_yes (kd := x5) (g := s.1) (t := s.2.1) (x2 := nI r) s.2.2 0 (by omega) ⟨j0, Nat.zero_le _, hj0, kc_t.mp hcj0, by rw [ahN_rk, hrj0]⟩
    have hki : kc s.2.1 i = true := kc_t.mpr hci.1
    have hri : rk (kc s.2.1) (keyV x5 s.1 s.2.1) s.2.2 i = r := by
      have h := hci.2
      rw [ahN_rk] at h
      have hb := rk_bd (key := keyV x5 s.1 s.2.1) hi hki
      exact nI_inj (by omega) (by omega) h
    have hi6 := hl.six hi
    have hT := hl.2.2 i hi
    have hrI := nI_toInt (n := r) (by omega)
    rw [vc_L_areRanked_L140]
    refine ⟨fun c => absurd c (nI_ge (by omega) (by omega)), fun _ => z_1 (cl_ranked hkd (by omega) hc ?_)⟩
    rw [ei, nc_15, hl.n15, tc_7 hi6, hT.1 7 (by decide)]
    refine ⟨fun c => absurd c (nI_pos (by omega)), fun _ => ⟨nv_15, fun c => absurd c (n_ge hn hi), fun _ => ⟨tv_7 hi6, fun c => absurd hci.1 (Int32.not_lt.mpr c), fun _ => ?_⟩⟩⟩
    have J267 : vc_L_areRanked_J267 Q (vc_L_areRanked_L140 Q K x5 x6 x7 (m + 1)) K x5 x6 x7 S (nI (ctM s)) (nI r) (nI i) (keyV x5 s.1 s.2.1 i) := by
      unfold vc_L_areRanked_J267 vc_L_areRanked_J272
      rw [← nI_succ]
      refine ih (r + 1) _ _ (by omega) (fun i2 hi2 hc2 hr2 => ?_)
      have hne : i ≠ i2 := fun e => by rw [e] at hri; omega
      have hb : bf (keyV x5 s.1 s.2.1) i i2 = true := (bf_to _ hne).resolve_right (fun hb => by
        have := rk_le (c := kc s.2.1) (n := s.2.2) hb
        omega)
      rcases bf_t.mp hb with h | h
      · exact Or.inl h
      · exact Or.inr ⟨h.1.symm, nI_ge h.2 (by omega)⟩
    have J239 : vc_L_areRanked_J239 Q (vc_L_areRanked_L140 Q K x5 x6 x7 (m + 1)) K x5 x6 x7 S (nI (ctM s)) 1 b l (nI r) (nI i) (keyV x5 s.1 s.2.1 i) := by
      unfold vc_L_areRanked_J239
      refine z_1 ⟨fun _ => J267, fun c => ?_⟩
      rcases hI i hi hki hri with h | h
      · exact absurd h c
      · exact ⟨fun c2 => absurd h.1 c2, fun _ => ⟨fun c3 => absurd c3 h.2, fun _ => J267⟩⟩
    unfold vc_L_areRanked_J195
    refine ⟨fun _ => ⟨fun c => so_own hl hw hi ⟨nv_1, so_size ?_⟩, fun c => so_own hl hw hi ?_⟩, fun c => absurd c (by decide)⟩
    · rw [nc_1, hl.2.1 1 (by decide)]
      have e : keyV x5 s.1 s.2.1 i = -(iabs (mended (s.2.1 i) - s.1 1)) := if_pos (hkd.resolve_left c)
      rw [e] at J239
      exact J239
    · have e : keyV x5 s.1 s.2.1 i = mended (s.2.1 i) := if_neg (fun hh => by rw [c] at hh; exact absurd hh (by decide))
      rw [e] at J239
      exact J239
theorem so_areR (hkd : x5 = 0 ∨ x5 = 1) (hc : CC S s) (hl : LR S 0 s.1 s.2.1 s.2.2) (hw : WSs s) (hq : Q S 1) : vc_L_areRanked S x5 x6 x7 Q := by
  have hn := hl.1.1
  have hM : ctM s = cn (kc s.2.1) s.2.2 := ctM_cn s.2.1 s.2.2
  have hM6 : ctM s ≤ 6 := by
    have := cn_le (kc s.2.1) s.2.2
    omega
  have hMI := nI_toInt (n := ctM s) (by omega)
  have hno : rkF x5 s.1 s.2.1 s.2.2 (nI (ctM s)) s.2.2 0 = -999999 := rkF_no (fun j hj hh => by
    have h := hh.2
    rw [ahN_rk] at h
    have hb := rk_bd (key := keyV x5 s.1 s.2.1) hj (kc_t.mpr hh.1)
    have := nI_inj (by omega) (by omega) h
    omega) s.2.2 0 (by omega)
  refine ⟨s.2.2 + 1, lo_within hl hw (cl_ranked hkd (by omega) hc (st_ne hno (cl_btw hc (st_ne rfl ?_)))) s.2.2 0 (by omega)⟩
  unfold vc_L_areRanked_J128
  exact ⟨ctM s + 1, lo_ranks hkd hc hl hw ⟨Or.inr rfl, hq⟩ (ctM s) 0 _ _ (by omega) (fun i hi hci _ => Or.inl (keyV_rng hw hi (kc_t.mp hci)))⟩
end
