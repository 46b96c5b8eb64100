/-! ranks, counts, sums -/
def keyV (kd : Int32) (g : Gl) (t : Ts) (j : Nat) : Int32 := if kd = 1 then -(iabs (mended (t j) - g 1)) else mended (t j)
abbrev rkP (kd : Int32) (g : Gl) (t : Ts) (i j : Nat) : Prop := 0 < t j 7 ∧ (keyV kd g t j < keyV kd g t i ∨ (keyV kd g t j = keyV kd g t i ∧ j < i))
def ahN (kd : Int32) (g : Gl) (t : Ts) (i : Nat) : Nat → Nat
  | 0 => 0
  | m + 1 => if rkP kd g t i m then ahN kd g t i m + 1 else ahN kd g t i m
abbrev rkC (kd : Int32) (g : Gl) (t : Ts) (n : Nat) (x2 : Int32) (i : Nat) : Prop := 0 < t i 7 ∧ nI (ahN kd g t i n) = x2
def rkF (kd : Int32) (g : Gl) (t : Ts) (n : Nat) (x2 : Int32) : Nat → Nat → Int32
  | 0, _ => -999999
  | m + 1, i => if rkC kd g t n x2 i then nI i else rkF kd g t n x2 m (i + 1)
theorem sp_key {Q : Mem → Int32 → Prop} {S : Mem} {P n i : Nat} {kd : Int32} {g : Gl} {t : Ts} (hP : P < 11) (hi : i < n) (h : PR S P g t n) (hq : Q S (keyV kd g t i)) : vc_X3_sortKey S P (nI i) kd Q := by
  have hn := h.2.1.1
  have hm : S 5 P i 11 = mended (t i) := (h.2.2 i hi).2.2.2.2.2.2.2.2.2.1
  have h8 : S 3 P 0 8 = g 1 := h.1.2.1
  unfold keyV at hq
  refine ⟨fun c => sp_at (by omega) ⟨⟨hP, by omega⟩, ?_⟩, fun c => sp_at (by omega) ⟨⟨hP, by omega⟩, ?_⟩⟩
  · rw [if_neg c] at hq
    rw [hm]; exact hq
  · rw [if_pos c] at hq
    unfold vc_X5_error
    rw [hm, h8]; exact hq
theorem lp_ahead {Q : Mem → Int32 → Prop} {K : Mem → Int32 → Prop} {S : Mem} {P n i : Nat} {kd : Int32} {g : Gl} {t : Ts} (hP : P < 11) (hi : i < n) (h : PR S P g t n) (hK : K S (nI (ahN kd g t i n))) : ∀ m j, j + m = n → vc_X3_countAheadOf_L13 Q K P (nI i) kd (m + 1) S (keyV kd g t i) (nI (ahN kd g t i j)) (nI j) := by
  have hn := h.2.1.1
  intro m
  induction m with
  | zero =>
    intro j hj
    have e : j = n := by omega
    subst e
    rw [vc_X3_countAheadOf_L13]
    exact ⟨fun _ => hK, fun c => absurd (lp_ge h.2.1.2 h.2.1.1) c⟩
  | succ m ih =>
    intro j hj
    have hlt : j < n := by omega
    have e := ih (j + 1) (by omega)
    rw [vc_X3_countAheadOf_L13]
    unfold vc_X3_countAheadOf_J61 vc_X3_countAheadOf_J64
    rw [nI_1, nI_1]
    refine ⟨fun c => absurd c (lp_le h.2.1.2 j hlt hn), fun _ => sp_key hP hlt h (sp_at (by omega) ⟨⟨hP, by omega⟩, sp_hasM (h.2.2 j hlt) ⟨fun c => ?_, fun c => ⟨fun c2 => ?_, fun c2 => ⟨fun c3 => ?_, fun c3 => ⟨fun c4 => ?_, fun c4 => ?_⟩⟩⟩⟩⟩)⟩
    · have ha : ¬ 0 < t j 7 := fun hh => by rw [if_pos hh] at c; exact absurd c (by decide)
      rw [ahN, if_neg (fun hh => ha hh.1)] at e
      exact e
    all_goals
      have ha : 0 < t j 7 := by
        by_cases hh : 0 < t j 7
        · exact hh
        · rw [if_neg hh] at c; exact absurd rfl c
    · rw [ahN, if_pos ⟨ha, Or.inl c2⟩] at e
      exact e
    · rw [ahN, if_neg (fun hh => hh.2.elim c2 (fun h9 => c3 h9.1))] at e
      exact e
    · have hle : i ≤ j := by
        by_cases hh : i ≤ j
        · exact hh
        · exact absurd c4 (nI_ge (by omega) (by omega))
      rw [ahN, if_neg (fun hh => hh.2.elim c2 (fun h9 => absurd h9.2 (by omega)))] at e
      exact e
    · have hle : j < i := by
        by_cases hh : i ≤ j
        · exact absurd (nI_le hh (by omega)) c4
        · omega
      rw [ahN, if_pos ⟨ha, Or.inr ⟨c3, hle⟩⟩] at e
      exact e
theorem lp_rank {Q : Mem → Int32 → Prop} {S : Mem} {P n : Nat} {kd x2 : Int32} {g : Gl} {t : Ts} (hP : P < 11) (h : PR S P g t n) : ∀ m i, i + m = n → Q S (rkF kd g t n x2 m i) → vc_X3_atRank_L2 Q (fun S' => Q S' (-999999)) P kd x2 (m + 1) S (nI i) := by
  have hn := h.2.1.1
  intro m
  induction m with
  | zero =>
    intro i hi hq
    have e : i = n := by omega
    subst e
    rw [vc_X3_atRank_L2]
    exact ⟨fun _ => hq, fun c => absurd (lp_ge h.2.1.2 h.2.1.1) c⟩
  | succ m ih =>
    intro i hi hq
    have hlt : i < n := by omega
    rw [vc_X3_atRank_L2]
    unfold vc_X3_atRank_J33
    rw [nI_1]
    rw [rkF] at hq
    refine ⟨fun c => absurd c (lp_le h.2.1.2 i hlt hn), fun _ => sp_at (by omega) ⟨⟨hP, by omega⟩, sp_hasM (h.2.2 i hlt) ⟨fun c => ?_, fun c => ?_⟩⟩⟩
    · have ha : ¬ 0 < t i 7 := fun hh => by rw [if_pos hh] at c; exact absurd c (by decide)
      rw [if_neg (fun hh => ha hh.1)] at hq
      exact ih (i + 1) (by omega) hq
    · have ha : 0 < t i 7 := by
        by_cases hh : 0 < t i 7
        · exact hh
        · rw [if_neg hh] at c; exact absurd rfl c
      refine sp_key hP hlt h ⟨n + 1, lp_ahead hP hlt h ⟨fun c2 => ?_, fun c2 => ?_⟩ n 0 (by omega)⟩
      · rw [if_neg (fun hh => c2 hh.2)] at hq
        exact ih (i + 1) (by omega) hq
      · rw [if_pos ⟨ha, c2⟩] at hq
        exact hq
theorem sp_rank {Q : Mem → Int32 → Prop} {S : Mem} {P n : Nat} {kd x2 : Int32} {g : Gl} {t : Ts} (hP : P < 11) (h : PR S P g t n) (hq : Q S (rkF kd g t n x2 n 0)) : vc_X3_atRank S P kd x2 Q := ⟨n + 1, lp_rank hP h n 0 (by omega) hq⟩
/-- mended temperatures from x1 to x2 -/
abbrev btP (t : Ts) (x1 x2 : Int32) (i : Nat) : Prop := 0 < t i 7 ∧ ¬ mended (t i) < x1 ∧ ¬ x2 < mended (t i)
def btN (t : Ts) (x1 x2 : Int32) : Nat → Nat
  | 0 => 0
  | i + 1 => if btP t x1 x2 i then btN t x1 x2 i + 1 else btN t x1 x2 i
theorem lp_btw {Q : Mem → Int32 → Prop} {K : Mem → Int32 → Prop} {S : Mem} {P n : Nat} {x1 x2 : Int32} {g : Gl} {t : Ts} (hP : P < 11) (h : PR S P g t n) (hK : K S (nI (btN t x1 x2 n))) : ∀ m i, i + m = n → vc_X3_countMendedIn_L5 Q K P x1 x2 (m + 1) S (nI (btN t x1 x2 i)) (nI i) := by
  have hn := h.2.1.1
  intro m
  induction m with
  | zero =>
    intro i hi
    have e : i = n := by omega
    subst e
    rw [vc_X3_countMendedIn_L5]
    exact ⟨fun _ => hK, fun c => absurd (lp_ge h.2.1.2 h.2.1.1) c⟩
  | succ m ih =>
    intro i hi
    have hlt : i < n := by omega
    have e := ih (i + 1) (by omega)
    have hm : S 5 P i 11 = mended (t i) := (h.2.2 i hlt).2.2.2.2.2.2.2.2.2.1
    rw [vc_X3_countMendedIn_L5]
    unfold vc_X3_countMendedIn_J55
    rw [nI_1, nI_1]
    refine ⟨fun c => absurd c (lp_le h.2.1.2 i hlt hn), fun _ => sp_at (by omega) ⟨⟨hP, by omega⟩, sp_hasM (h.2.2 i hlt) ⟨fun c => ?_, fun c => sp_at (by omega) ⟨⟨hP, by omega⟩, ⟨fun c2 => ?_, fun c2 => sp_at (by omega) ⟨⟨hP, by omega⟩, ⟨fun c3 => ?_, fun c3 => ?_⟩⟩⟩⟩⟩⟩⟩
    · have ha : ¬ 0 < t i 7 := fun hh => by rw [if_pos hh] at c; exact absurd c (by decide)
      rw [btN, if_neg (fun hh => ha hh.1)] at e
      exact e
    all_goals
      have ha : 0 < t i 7 := by
        by_cases hh : 0 < t i 7
        · exact hh
        · rw [if_neg hh] at c; exact absurd rfl c
    · rw [hm] at c2
      rw [btN, if_neg (fun hh => hh.2.1 c2)] at e
      exact e
    · rw [hm] at c3
      rw [btN, if_neg (fun hh => hh.2.2 c3)] at e
      exact e
    · rw [hm] at c2 c3
      rw [btN, if_pos ⟨ha, c2, c3⟩] at e
      exact e
theorem sp_btw {Q : Mem → Int32 → Prop} {S : Mem} {P n : Nat} {x1 x2 : Int32} {g : Gl} {t : Ts} (hP : P < 11) (h : PR S P g t n) (hq : Q S (nI (btN t x1 x2 n))) : vc_X3_countMendedIn S P x1 x2 Q := ⟨n + 1, lp_btw hP h hq n 0 (by omega)⟩
theorem bt_all {t : Ts} {i : Nat} (ha : 0 < t i 7) : btP t (-2147483648) 2147483647 i := by
  have r := i_rng (mended (t i))
  refine ⟨ha, fun c => ?_, fun c => ?_⟩
  · have h := i_lt.mp c
    have h1 : (-2147483648 : Int32).toInt = -2147483648 := rfl
    omega
  · have h := i_lt.mp c
    have h1 : (2147483647 : Int32).toInt = 2147483647 := rfl
    omega
/-- the mended ones, all of them -/
theorem lp_cnt {Q : Mem → Int32 → Prop} {K : Mem → Int32 → Prop} {S : Mem} {P n : Nat} {g : Gl} {t : Ts} (hP : P < 11) (h : PR S P g t n) (hK : K S (nI (btN t (-2147483648) 2147483647 n))) : ∀ m i, i + m = n → vc_X3_countMended_L4 Q K P (m + 1) S (nI (btN t (-2147483648) 2147483647 i)) (nI i) := by
  have hn := h.2.1.1
  intro m
  induction m with
  | zero =>
    intro i hi
    have e : i = n := by omega
    subst e
    rw [vc_X3_countMended_L4]
    exact ⟨fun _ => hK, fun c => absurd (lp_ge h.2.1.2 h.2.1.1) c⟩
  | succ m ih =>
    intro i hi
    have hlt : i < n := by omega
    have e := ih (i + 1) (by omega)
    rw [vc_X3_countMended_L4]
    unfold vc_X3_countMended_J26
    rw [nI_1, nI_1]
    refine ⟨fun c => absurd c (lp_le h.2.1.2 i hlt hn), fun _ => sp_at (by omega) ⟨⟨hP, by omega⟩, sp_hasM (h.2.2 i hlt) ⟨fun c => ?_, fun c => ?_⟩⟩⟩
    · have ha : ¬ 0 < t i 7 := fun hh => by rw [if_pos hh] at c; exact absurd c (by decide)
      rw [btN, if_neg (fun hh => ha hh.1)] at e
      exact e
    · have ha : 0 < t i 7 := by
        by_cases hh : 0 < t i 7
        · exact hh
        · rw [if_neg hh] at c; exact absurd rfl c
      rw [btN, if_pos (bt_all ha)] at e
      exact e
theorem sp_cnt {Q : Mem → Int32 → Prop} {S : Mem} {P n : Nat} {g : Gl} {t : Ts} (hP : P < 11) (h : PR S P g t n) (hq : Q S (nI (btN t (-2147483648) 2147483647 n))) : vc_X3_countMended S P Q := ⟨n + 1, lp_cnt hP h hq n 0 (by omega)⟩
def errS (g : Gl) (t : Ts) : Nat → Int32
  | 0 => 0
  | i + 1 => if 0 < t i 7 then errS g t i + iabs (mended (t i) - g 1) else errS g t i
theorem lp_err {Q : Mem → Int32 → Prop} {K : Mem → Int32 → Prop} {S : Mem} {P n : Nat} {g : Gl} {t : Ts} (hP : P < 11) (h : PR S P g t n) (hK : K S (errS g t n)) : ∀ m i, i + m = n → vc_X3_sumOfErrors_L4 Q K P (m + 1) S (errS g t i) (nI i) := by
  have hn := h.2.1.1
  intro m
  induction m with
  | zero =>
    intro i hi
    have e : i = n := by omega
    subst e
    rw [vc_X3_sumOfErrors_L4]
    exact ⟨fun _ => hK, fun c => absurd (lp_ge h.2.1.2 h.2.1.1) c⟩
  | succ m ih =>
    intro i hi
    have hlt : i < n := by omega
    have e := ih (i + 1) (by omega)
    have hm : S 5 P i 11 = mended (t i) := (h.2.2 i hlt).2.2.2.2.2.2.2.2.2.1
    have h8 : S 3 P 0 8 = g 1 := h.1.2.1
    rw [vc_X3_sumOfErrors_L4]
    unfold vc_X3_sumOfErrors_J38
    rw [nI_1]
    refine ⟨fun c => absurd c (lp_le h.2.1.2 i hlt hn), fun _ => sp_at (by omega) ⟨⟨hP, by omega⟩, sp_hasM (h.2.2 i hlt) ⟨fun c => ?_, fun c => sp_at (by omega) ⟨⟨hP, by omega⟩, ?_⟩⟩⟩⟩
    · have ha : ¬ 0 < t i 7 := fun hh => by rw [if_pos hh] at c; exact absurd c (by decide)
      rw [errS, if_neg ha] at e
      exact e
    · have ha : 0 < t i 7 := by
        by_cases hh : 0 < t i 7
        · exact hh
        · rw [if_neg hh] at c; exact absurd rfl c
      unfold vc_X5_error
      rw [hm, h8]
      rw [errS, if_pos ha] at e
      exact e
theorem sp_err {Q : Mem → Int32 → Prop} {S : Mem} {P n : Nat} {g : Gl} {t : Ts} (hP : P < 11) (h : PR S P g t n) (hq : Q S (errS g t n)) : vc_X3_sumOfErrors S P Q := ⟨n + 1, lp_err hP h hq n 0 (by omega)⟩
def dstS (g : Gl) (t : Ts) : Nat → Int32
  | 0 => 0
  | i + 1 => imax (dstS g t i) (iabs (t i 4 - t i 2 - g 1))
theorem lp_dst {Q : Mem → Int32 → Prop} {K : Mem → Int32 → Prop} {S : Mem} {P n : Nat} {g : Gl} {t : Ts} (hP : P < 11) (h : PR S P g t n) (hK : K S (dstS g t n)) : ∀ m i, i + m = n → vc_X3_greatestDistance_L4 Q K P (m + 1) S (dstS g t i) (nI i) := by
  have hn := h.2.1.1
  intro m
  induction m with
  | zero =>
    intro i hi
    have e : i = n := by omega
    subst e
    rw [vc_X3_greatestDistance_L4]
    exact ⟨fun _ => hK, fun c => absurd (lp_ge h.2.1.2 h.2.1.1) c⟩
  | succ m ih =>
    intro i hi
    have hlt : i < n := by omega
    have e := ih (i + 1) (by omega)
    have hT := h.2.2 i hlt
    have h8 : S 3 P 0 8 = g 1 := h.1.2.1
    have h7 : S 5 P i 7 = t i 4 := hT.2.2.2.2.1
    have h4 : S 5 P i 4 = t i 2 := hT.2.2.1
    rw [vc_X3_greatestDistance_L4, nI_1]
    refine ⟨fun c => absurd c (lp_le h.2.1.2 i hlt hn), fun _ => sp_at (by omega) ⟨⟨hP, by omega⟩, ?_⟩⟩
    unfold vc_X5_distance
    rw [h7, h4, h8]
    exact e
theorem sp_dst {Q : Mem → Int32 → Prop} {S : Mem} {P n : Nat} {g : Gl} {t : Ts} (hP : P < 11) (h : PR S P g t n) (hq : Q S (dstS g t n)) : vc_X3_greatestDistance S P Q := ⟨n + 1, lp_dst hP h hq n 0 (by omega)⟩
