/-! lags, numbers of a thermometer, readings, hours until still -/
theorem st_no {A B : Prop} {x y : Int32} (h : ¬ x = y) (hB : B) : (x = y → A) ∧ (¬ x = y → B) := ⟨fun c => absurd c h, fun _ => hB⟩
theorem st_yes {A B : Prop} {x y : Int32} (h : x = y) (hA : A) : (x = y → A) ∧ (¬ x = y → B) := ⟨fun _ => hA, fun c => absurd h c⟩
def numV (t : Th) (k : Nat) : Int32 := if k = 9 then mended t else t k
theorem sp_num {Q : Mem → Int32 → Prop} {S : Mem} {P i k : Nat} {t : Th} (hk : k < 10) (h6 : t 6 = 0 ∨ t 6 = 1) (h : TR S P i t) (hq : Q S (numV t k)) : vc_X5_numberOf S P i (nI k) Q := by
  obtain ⟨a1, a2, a3, a4, a5, a6, a7, a8, a9, a10, a11⟩ := h
  unfold vc_X5_numberOf
  unfold numV at hq
  have hc : k = 0 ∨ k = 1 ∨ k = 2 ∨ k = 3 ∨ k = 4 ∨ k = 5 ∨ k = 6 ∨ k = 7 ∨ k = 8 ∨ k = 9 := by omega
  rcases hc with e | e | e | e | e | e | e | e | e | e
  all_goals
    subst e
  · exact st_yes (by decide) (by rw [a1]; exact hq)
  · exact st_no (by decide) (st_yes (by decide) (by rw [a2]; exact hq))
  · exact st_no (by decide) (st_no (by decide) (st_yes (by decide) (by rw [a3]; exact hq)))
  · exact st_no (by decide) (st_no (by decide) (st_no (by decide) (st_yes (by decide) (by rw [a4]; exact hq))))
  · exact st_no (by decide) (st_no (by decide) (st_no (by decide) (st_no (by decide) (st_yes (by decide) (by rw [a5]; exact hq)))))
  · exact st_no (by decide) (st_no (by decide) (st_no (by decide) (st_no (by decide) (st_no (by decide) (st_yes (by decide) (by rw [a6]; exact hq))))))
  · refine st_no (by decide) (st_no (by decide) (st_no (by decide) (st_no (by decide) (st_no (by decide) (st_no (by decide) (st_yes (by decide) ?_))))))
    rw [if_neg (by decide)] at hq
    rw [a7]
    refine ⟨fun c => ?_, fun c => ?_⟩
    · rw [c] at hq; exact hq
    · rcases h6 with h6 | h6
      · exact absurd h6 c
      · rw [h6] at hq; exact hq
  · exact st_no (by decide) (st_no (by decide) (st_no (by decide) (st_no (by decide) (st_no (by decide) (st_no (by decide) (st_no (by decide) (st_yes (by decide) (by rw [a8]; exact hq))))))))
  · exact st_no (by decide) (st_no (by decide) (st_no (by decide) (st_no (by decide) (st_no (by decide) (st_no (by decide) (st_no (by decide) (st_no (by decide) (st_yes (by decide) (by rw [a9]; exact hq)))))))))
  · exact st_no (by decide) (st_no (by decide) (st_no (by decide) (st_no (by decide) (st_no (by decide) (st_no (by decide) (st_no (by decide) (st_no (by decide) (st_no (by decide) (by rw [a10]; exact hq)))))))))
theorem sp_mendT {Q : Mem → Int32 → Prop} {S : Mem} {P i : Nat} {t : Th} {h : Int} {lag : Int32} (hw : WT h t) (hT : TR S P i t) (hq : Q S (mendB t lag)) : vc_X5_mendedWith S P i lag Q := by
  obtain ⟨c0, c1, c2, c3, c4, c6, κ, d1, d2, d3, d4⟩ := hw
  obtain ⟨a1, a2, a3, a4, a5, a6, a7, a8, a9, a10, a11⟩ := hT
  exact sp_mendW a8 a3 d2 d1 (fun k hk => a11 κ d2 d1 k hk) (fun hk => sub_ne (d4 0 hk)) hq
def nlS (t : Th) (x : Int32) : Nat → Int32 × Int32
  | 0 => (1, iabs (mendB t 1 - x))
  | k + 1 => if (nlS t x k).2 ≤ iabs (mendB t (nI (k + 2)) - x) then nlS t x k else (nI (k + 2), iabs (mendB t (nI (k + 2)) - x))
def nlV (t : Th) (x : Int32) : Int32 := if 0 < t 7 then (nlS t x 8).1 else -999999
theorem lp_lag {Q : Mem → Int32 → Prop} {K : Mem → Int32 → Prop} {S : Mem} {P i : Nat} {t : Th} {h : Int} {x : Int32} (hw : WT h t) (hT : TR S P i t) (hK : K S (nlS t x 8).1) : ∀ m k, k + m = 8 → vc_X5_lagNearestTo_L26 Q K P i x (m + 1) S (nlS t x k).1 (nlS t x k).2 (nI (k + 2)) := by
  intro m
  induction m with
  | zero =>
    intro k hk
    have e : k = 8 := by omega
    subst e
    rw [vc_X5_lagNearestTo_L26]
    exact ⟨fun _ => hK, fun c => absurd (by decide) c⟩
  | succ m ih =>
    intro k hk
    have e := ih (k + 1) (by omega)
    rw [vc_X5_lagNearestTo_L26]
    unfold vc_X5_lagNearestTo_J58
    rw [nI_1]
    refine ⟨fun c => absurd (show nI 9 < nI (k + 2) from c) (nI_nlt (by omega) (by omega)), fun _ => sp_mendT hw hT ⟨fun c => ?_, fun c => ?_⟩⟩
    · rw [nlS, if_pos c] at e; exact e
    · rw [nlS, if_neg c] at e; exact e
theorem sp_lag {Q : Mem → Int32 → Prop} {S : Mem} {P i : Nat} {t : Th} {h : Int} {x : Int32} (hw : WT h t) (hT : TR S P i t) (hq : Q S (nlV t x)) : vc_X5_lagNearestTo S P i x Q := by
  unfold nlV at hq
  refine sp_hasM hT ⟨fun c => ?_, fun c => ?_⟩
  · have ha : 0 < t 7 := by
      by_cases hh : 0 < t 7
      · exact hh
      · rw [if_neg hh] at c; exact absurd rfl c
    rw [if_pos ha] at hq
    exact sp_mendT hw hT ⟨9, lp_lag hw hT hq 8 0 rfl⟩
  · have ha : ¬ 0 < t 7 := fun hh => by rw [if_pos hh] at c; exact absurd c (by decide)
    rw [if_neg ha] at hq
    exact hq
theorem i_nn {x : Int32} (h : 0 ≤ x.toInt) : ∃ k, k < 2 ^ 31 ∧ x = nI k := by
  have := i_rng x
  exact ⟨x.toInt.toNat, by omega, i_eq.mpr (by rw [nI_toInt (by omega)]; omega)⟩
def ago (t : Th) (k : Nat) (q : Nat) : Int32 := if t 7 ≤ nI k then -999999 else t (9 + 2 * k + q)
theorem sp_hourAgo {Q : Mem → Int32 → Prop} {S : Mem} {P i κ k : Nat} {t : Th} (h7 : t 7 = nI κ) (hκ : κ ≤ 6) (hT : TR S P i t) (hk : k < 2 ^ 31) (hq : Q S (ago t k 0)) : vc_X5_hourAgo S P i (nI k) Q := by
  obtain ⟨a1, a2, a3, a4, a5, a6, a7, a8, a9, a10, a11⟩ := hT
  unfold vc_X5_hourAgo
  unfold ago at hq
  rw [a8]
  refine ⟨fun c => ?_, fun c => ?_⟩
  · rw [if_pos c] at hq; exact hq
  · rw [if_neg c] at hq
    rw [h7] at c
    have hlt : k < κ := by
      by_cases hh : κ ≤ k
      · exact absurd (nI_le hh hk) c
      · omega
    refine sp_entry (by omega) (by omega) ?_
    rw [(a11 κ h7 hκ k hlt).1]
    exact hq
theorem sp_valueAgo {Q : Mem → Int32 → Prop} {S : Mem} {P i κ k : Nat} {t : Th} (h7 : t 7 = nI κ) (hκ : κ ≤ 6) (hT : TR S P i t) (hk : k < 2 ^ 31) (hq : Q S (ago t k 1)) : vc_X5_valueAgo S P i (nI k) Q := by
  obtain ⟨a1, a2, a3, a4, a5, a6, a7, a8, a9, a10, a11⟩ := hT
  unfold vc_X5_valueAgo
  unfold ago at hq
  rw [a8]
  refine ⟨fun c => ?_, fun c => ?_⟩
  · rw [if_pos c] at hq; exact hq
  · rw [if_neg c] at hq
    rw [h7] at c
    have hlt : k < κ := by
      by_cases hh : κ ≤ k
      · exact absurd (nI_le hh hk) c
      · omega
    refine sp_entry (by omega) (by omega) ?_
    rw [(a11 κ h7 hκ k hlt).2, show 10 + 2 * k = 9 + 2 * k + 1 by omega]
    exact hq
/-- the steps of a thermometer at a temperature kept still -/
def stF (t : Th) (x : Int32) : Nat → Int32
  | 0 => t 4
  | k + 1 => stF t x k + (x + t 2 - stF t x k) / t 1
theorem sp_stl {Q : Mem → Int32 → Prop} {S : Mem} {P i N : Nat} {t : Th} {x : Int32} (hl : ¬ t 1 = 0) (hT : TR S P i t) (hN : N < 100000) (hz : (x + t 2 - stF t x N) / t 1 = 0) (hnz : ∀ k, k < N → ¬ (x + t 2 - stF t x k) / t 1 = 0) (hq : Q S (nI N)) : vc_X5_hoursUntilStill S P i x Q := by
  obtain ⟨a1, a2, a3, a4, a5, a6, a7, a8, a9, a10, a11⟩ := hT
  have lp : ∀ m k, k + m = N → vc_X5_hoursUntilStill_L7 Q (fun S_5 => Q S_5 (100000 : Int32)) P i x (m + 1) S (stF t x k) (nI k) := by
    intro m
    induction m with
    | zero =>
      intro k hk
      have e : k = N := by omega
      subst e
      rw [vc_X5_hoursUntilStill_L7]
      unfold vc_X5_stepFrom
      rw [a3, a2]
      exact ⟨fun c => absurd (show nI 100000 ≤ nI k from c) (nI_ge (by omega) (by omega)), fun _ => sp_quot hl ⟨fun c => absurd hz c, fun _ => hq⟩⟩
    | succ m ih =>
      intro k hk
      have e := ih (k + 1) (by omega)
      rw [stF] at e
      rw [vc_X5_hoursUntilStill_L7, nI_1]
      unfold vc_X5_stepFrom
      rw [a3, a2]
      exact ⟨fun c => absurd (show nI 100000 ≤ nI k from c) (nI_ge (by omega) (by omega)), fun _ => sp_quot hl ⟨fun _ => e, fun c => absurd c (hnz k (by omega))⟩⟩
  unfold vc_X5_hoursUntilStill
  rw [a5]
  exact ⟨N + 1, lp N 0 (by omega)⟩
theorem st_dec {y tg lag : Int} (h1 : 1 ≤ lag) (h9 : lag ≤ 9) (hne : (tg - y).tdiv lag ≠ 0) : (tg - (y + (tg - y).tdiv lag)).natAbs + 1 ≤ (tg - y).natAbs := by
  have hb := tdiv_between (a := tg - y) h1
  rcases Int.le_total 0 (tg - y) with hc | hc
  · have := hb.1 hc; omega
  · have := hb.2 hc; omega
theorem stl_ex {h : Int} {t : Th} {x : Int32} (hw : WT h t) (hx : -5000 ≤ x.toInt ∧ x.toInt ≤ 5000) : ∃ N, N < 100000 ∧ (x + t 2 - stF t x N) / t 1 = 0 ∧ ∀ k, k < N → ¬ (x + t 2 - stF t x k) / t 1 = 0 := by
  obtain ⟨c0, c1, c2, c3, c4, c6, -⟩ := hw
  have e1 : (x + t 2).toInt = x.toInt + (t 2).toInt := i_add (by omega) (by omega)
  have stp : ∀ k, -20000 ≤ (stF t x k).toInt ∧ (stF t x k).toInt ≤ 20000 → ((x + t 2 - stF t x k) / t 1).toInt = (x.toInt + (t 2).toInt - (stF t x k).toInt).tdiv (t 1).toInt ∧ (stF t x (k + 1)).toInt = (stF t x k).toInt + (x.toInt + (t 2).toInt - (stF t x k).toInt).tdiv (t 1).toInt ∧ -20000 ≤ (stF t x (k + 1)).toInt ∧ (stF t x (k + 1)).toInt ≤ 20000 := fun k hk => by
    have e2 : (x + t 2 - stF t x k).toInt = x.toInt + (t 2).toInt - (stF t x k).toInt := by rw [i_sub (by omega) (by omega), e1]
    have e3 : ((x + t 2 - stF t x k) / t 1).toInt = (x.toInt + (t 2).toInt - (stF t x k).toInt).tdiv (t 1).toInt := by rw [i_div (by omega), e2]
    have hb := tdiv_between (a := x.toInt + (t 2).toInt - (stF t x k).toInt) c1.1
    have h5 : -20000 ≤ (stF t x k).toInt + (x.toInt + (t 2).toInt - (stF t x k).toInt).tdiv (t 1).toInt ∧ (stF t x k).toInt + (x.toInt + (t 2).toInt - (stF t x k).toInt).tdiv (t 1).toInt ≤ 20000 := by
      rcases Int.le_total 0 (x.toInt + (t 2).toInt - (stF t x k).toInt) with hc | hc
      · have := hb.1 hc; omega
      · have := hb.2 hc; omega
    have e4 : (stF t x (k + 1)).toInt = (stF t x k).toInt + (x.toInt + (t 2).toInt - (stF t x k).toInt).tdiv (t 1).toInt := by
      rw [stF, i_add (by rw [e3]; omega) (by rw [e3]; omega), e3]
    exact ⟨e3, e4, by rw [e4]; exact h5⟩
  have go : ∀ (D k : Nat), -20000 ≤ (stF t x k).toInt ∧ (stF t x k).toInt ≤ 20000 → (x.toInt + (t 2).toInt - (stF t x k).toInt).natAbs ≤ D → (∀ j, j < k → ¬ (x + t 2 - stF t x j) / t 1 = 0) → ∃ N, N ≤ k + D ∧ (x + t 2 - stF t x N) / t 1 = 0 ∧ ∀ j, j < N → ¬ (x + t 2 - stF t x j) / t 1 = 0 := by
    intro D
    induction D with
    | zero =>
      intro k hk hD hj
      obtain ⟨s1, s2, s3⟩ := stp k hk
      refine ⟨k, by omega, i_eq.mpr ?_, hj⟩
      rw [s1, show x.toInt + (t 2).toInt - (stF t x k).toInt = 0 by omega, Int.zero_tdiv]
      rfl
    | succ D ih =>
      intro k hk hD hj
      obtain ⟨s1, s2, s3⟩ := stp k hk
      by_cases c : (x + t 2 - stF t x k) / t 1 = 0
      · exact ⟨k, by omega, c, hj⟩
      · have cne : (x.toInt + (t 2).toInt - (stF t x k).toInt).tdiv (t 1).toInt ≠ 0 := fun e => c (i_eq.mpr (s1.trans e))
        have hd := st_dec (y := (stF t x k).toInt) (tg := x.toInt + (t 2).toInt) (lag := (t 1).toInt) c1.1 c1.2 cne
        rw [← s2] at hd
        obtain ⟨N, n1, n2, n3⟩ := ih (k + 1) s3 (by omega) (fun j hj2 => by
          by_cases e : j = k
          · rw [e]; exact c
          · exact hj j (by omega))
        exact ⟨N, by omega, n2, n3⟩
  obtain ⟨N, n1, n2, n3⟩ := go (x.toInt + (t 2).toInt - (t 4).toInt).natAbs 0 c4 (Nat.le_refl _) (fun j hj => absurd hj (by omega))
  exact ⟨N, by omega, n2, n3⟩
