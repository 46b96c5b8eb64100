/-! the system's reading methods, over a place that is (g, t) -/
theorem i10 : (10 : Int32) = nI 10 := rfl
theorem sp_at {S : Mem} {P i : Nat} {Q : Mem → Nat → Nat → Prop} (h : i < 10) (hq : Q S P i) : vc_X3_at S P (nI i) Q := by
  unfold vc_X3_at
  refine ⟨fun c => absurd c (nI_pos (by omega)), fun _ => ⟨fun _ => ⟨vp_in_nI h (by decide), by rw [nI_clamp (by omega)]; exact hq⟩, fun c => absurd (show nI i < nI 10 from nI_lt h (by decide)) c⟩⟩
theorem sp_entry {S : Mem} {t P i n k : Nat} {Q : Mem → Int32 → Prop} (h : k < n) (hn : n < 2 ^ 31) (hq : Q S (S t P i k)) : vc_X6_entry S t P i n (nI k) Q := by
  unfold vc_X6_entry
  refine ⟨fun c => absurd c (nI_pos (by omega)), fun _ => ⟨fun c => absurd c (nI_ge h (by omega)), fun _ => ⟨vp_in_nI h hn, by rw [nI_clamp (by omega)]; exact hq⟩⟩⟩
theorem sp_quot {S : Mem} {x y : Int32} {Q : Mem → Int32 → Prop} (h : ¬ y = 0) (hq : Q S (x / y)) : vc_X6_quotient S x y Q := ⟨fun c => ⟨c, hq⟩, fun c => absurd c h⟩
theorem sp_rem {S : Mem} {x y : Int32} {Q : Mem → Int32 → Prop} (h : ¬ y = 0) (hq : Q S (x - x / y * y)) : vc_X6_remainder S x y Q := ⟨fun c => ⟨c, hq⟩, fun c => absurd c h⟩
theorem sp_isAsked {S : Mem} {P i : Nat} {t : Th} {Q : Mem → Int32 → Prop} (h : TR S P i t) (hq : Q S (if askT t then 1 else 0)) : vc_X5_isAsked S P i Q := by
  obtain ⟨-, -, -, -, -, -, h10, h2, -⟩ := h
  unfold vc_X5_isAsked
  rw [h10, h2]
  refine ⟨fun c => ?_, fun c => ⟨fun c2 => ?_, fun c2 => ?_⟩⟩
  · rw [if_neg (fun hh : askT t => absurd hh.1 (Int32.not_lt.mpr c))] at hq; exact hq
  · rw [if_neg (fun hh : askT t => c2 hh.2)] at hq; exact hq
  · rw [if_pos (show askT t from ⟨Int32.not_le.mp c, c2⟩)] at hq; exact hq
theorem sp_hasM {S : Mem} {P i : Nat} {t : Th} {Q : Mem → Int32 → Prop} (h : TR S P i t) (hq : Q S (if 0 < t 7 then 1 else 0)) : vc_X5_hasMended S P i Q := by
  obtain ⟨-, -, -, -, -, -, -, h2, -⟩ := h
  unfold vc_X5_hasMended
  rw [h2]
  refine ⟨fun c => ?_, fun c => ?_⟩
  · rw [if_neg (Int32.not_lt.mpr c)] at hq; exact hq
  · rw [if_pos (Int32.not_le.mp c)] at hq; exact hq
def meanS (t : Ts) : Nat → Int32 × Int32
  | 0 => (0, 0)
  | i + 1 => if askT (t i) then ((meanS t i).1 + mended (t i) * t i 3, (meanS t i).2 + t i 3) else meanS t i
def meanV (t : Ts) (n : Nat) : Int32 := if (meanS t n).2 = 0 then -999999 else (meanS t n).1 / (meanS t n).2
theorem lp_le {S : Mem} {P n : Nat} (h : S 3 P 0 6 = nI n) (i : Nat) (hi : i < n) (hn : n ≤ 10) : ¬ S 3 P 0 6 ≤ nI i := by rw [h]; exact nI_ge hi (by omega)
theorem lp_ge {S : Mem} {P n : Nat} (h : S 3 P 0 6 = nI n) (hn : n ≤ 10) : S 3 P 0 6 ≤ nI n := by rw [h]; exact nI_le (Nat.le_refl n) (by omega)
theorem lp_mean {Q : Mem → Int32 → Prop} {K : Mem → Int32 → Int32 → Prop} {S : Mem} {P n : Nat} {g : Gl} {t : Ts} (hP : P < 11) (h : PR S P g t n) (hK : K S (meanS t n).1 (meanS t n).2) : ∀ m i, i + m = n → vc_X3_mean_L6 Q K P (m + 1) S (meanS t i).1 (meanS t i).2 (nI i) := by
  obtain ⟨-, ⟨hn, hsz⟩, hT⟩ := h
  intro m
  induction m with
  | zero =>
    intro i hi
    have e : i = n := by omega
    subst e
    rw [vc_X3_mean_L6]
    exact ⟨fun _ => hK, fun c => absurd (lp_ge hsz hn) c⟩
  | succ m ih =>
    intro i hi
    have hlt : i < n := by omega
    have hTi := hT i hlt
    rw [vc_X3_mean_L6]
    refine ⟨fun c => absurd c (lp_le hsz i hlt hn), fun _ => sp_at (by omega) ⟨⟨hP, by omega⟩, sp_isAsked hTi ⟨fun c => ?_, fun c => ?_⟩⟩⟩
    · have ha : ¬ askT (t i) := fun hh => by rw [if_pos hh] at c; exact absurd c (by decide)
      have e := ih (i + 1) (by omega)
      rw [meanS, if_neg ha] at e
      unfold vc_X3_mean_J56
      rw [nI_1]
      exact e
    · have ha : askT (t i) := by
        by_cases hh : askT (t i)
        · exact hh
        · rw [if_neg hh] at c; exact absurd rfl c
      have e := ih (i + 1) (by omega)
      rw [meanS, if_pos ha] at e
      refine sp_at (by omega) ⟨⟨hP, by omega⟩, sp_at (by omega) ⟨⟨hP, by omega⟩, sp_at (by omega) ⟨⟨hP, by omega⟩, ?_⟩⟩⟩
      unfold vc_X3_mean_J56
      rw [nI_1, hTi.2.2.2.2.2.2.2.2.2.1, hTi.2.2.2.1]
      exact e
theorem sp_mean {Q : Mem → Int32 → Prop} {S : Mem} {P n : Nat} {g : Gl} {t : Ts} (hP : P < 11) (h : PR S P g t n) (hq : Q S (meanV t n)) : vc_X3_mean S P Q := by
  refine ⟨n + 1, lp_mean hP h ?_ n 0 (by omega)⟩
  unfold meanV at hq
  refine ⟨fun c => sp_quot c ?_, fun c => ?_⟩
  · rw [if_neg c] at hq; exact hq
  · rw [if_pos c] at hq; exact hq
