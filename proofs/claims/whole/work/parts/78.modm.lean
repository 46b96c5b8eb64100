/-! the reference: counts, masks, rows -/
theorem lx_row {Q : Mem → Int32 → Prop} {K : Mem → Int32 → Prop} {S : Mem} {n : Nat} {ρ : Int32} {g : Gl} {t : Ts} (hn : n ≤ 10) (hg : g 15 = nI n) (h : MR S g t) (hK : K S (rowS t ρ n)) : ∀ m i, i + m = n → vc_X7_inRow_L4 Q K ρ (m + 1) S (rowS t ρ i) (nI i) := by
  intro m
  induction m with
  | zero =>
    intro i hi
    have e : i = n := by omega
    subst e
    rw [vc_X7_inRow_L4]
    exact ⟨vv15, fun _ => hK, fun c => absurd (ix_ge h hg hn) c⟩
  | succ m ih =>
    intro i hi
    have hlt : i < n := by omega
    have e := ih (i + 1) (by omega)
    rw [vc_X7_inRow_L4]
    unfold vc_X7_inRow_J31
    rw [nI_1]
    refine ⟨vv15, fun c => absurd c (ix_le h hg hlt hn), fun _ => sx_of (j := 0) (by omega) (by decide) h ⟨fun c => ?_, fun c => ?_⟩⟩
    · rw [rowS, if_neg c] at e
      rw [Int32.add_zero]; exact e
    · rw [rowS, if_pos c] at e
      exact e
theorem sx_row {Q : Mem → Int32 → Prop} {S : Mem} {n : Nat} {ρ : Int32} {g : Gl} {t : Ts} (hn : n ≤ 10) (hg : g 15 = nI n) (h : MR S g t) (hq : Q S (rowS t ρ n)) : vc_X7_inRow S ρ Q := ⟨n + 1, lx_row hn hg h hq n 0 (by omega)⟩
theorem lx_msk {Q : Mem → Int32 → Prop} {K : Mem → Int32 → Prop} {S : Mem} {n : Nat} {g : Gl} {t : Ts} (hn : n ≤ 10) (hg : g 15 = nI n) (h : MR S g t) (hK : K S (maskS t n)) : ∀ m i, i + m = n → vc_X7_asked_L4 Q K (m + 1) S (maskS t i) (nI i) := by
  intro m
  induction m with
  | zero =>
    intro i hi
    have e : i = n := by omega
    subst e
    rw [vc_X7_asked_L4]
    exact ⟨vv15, fun _ => hK, fun c => absurd (ix_ge h hg hn) c⟩
  | succ m ih =>
    intro i hi
    have hlt : i < n := by omega
    have e := ih (i + 1) (by omega)
    rw [vc_X7_asked_L4]
    unfold vc_X7_asked_J31
    rw [nI_1]
    refine ⟨vv15, fun c => absurd c (ix_le h hg hlt hn), fun _ => sx_asked (by omega) h ⟨fun c => ?_, fun c => ?_⟩⟩
    · have ha : ¬ askT (t i) := fun hh => by rw [if_pos hh] at c; exact absurd c (by decide)
      rw [maskS, if_neg ha] at e
      rw [Int32.or_zero]; exact e
    · have ha : askT (t i) := by
        by_cases hh : askT (t i)
        · exact hh
        · rw [if_neg hh] at c; exact absurd rfl c
      rw [maskS, if_pos ha] at e
      exact e
theorem sx_msk {Q : Mem → Int32 → Prop} {S : Mem} {n : Nat} {g : Gl} {t : Ts} (hn : n ≤ 10) (hg : g 15 = nI n) (h : MR S g t) (hq : Q S (maskS t n)) : vc_X7_asked S Q := ⟨n + 1, lx_msk hn hg h hq n 0 (by omega)⟩
theorem shl0 : ∀ i, i < 10 → (0 : Int32) <<< (nI i &&& 31) = 0 := by decide +kernel
theorem lx_out {Q : Mem → Int32 → Prop} {K : Mem → Int32 → Prop} {S : Mem} {n : Nat} {g : Gl} {t : Ts} (hn : n ≤ 10) (hg : g 15 = nI n) (h6 : ∀ i, i < n → t i 6 = 0 ∨ t i 6 = 1) (h : MR S g t) (hK : K S (outS t n)) : ∀ m i, i + m = n → vc_X7_shutOut_L4 Q K (m + 1) S (outS t i) (nI i) := by
  intro m
  induction m with
  | zero =>
    intro i hi
    have e : i = n := by omega
    subst e
    rw [vc_X7_shutOut_L4]
    exact ⟨vv15, fun _ => hK, fun c => absurd (ix_ge h hg hn) c⟩
  | succ m ih =>
    intro i hi
    have hlt : i < n := by omega
    have e := ih (i + 1) (by omega)
    rw [vc_X7_shutOut_L4, nI_1]
    refine ⟨vv15, fun c => absurd c (ix_le h hg hlt hn), fun _ => sx_of (j := 6) (by omega) (by decide) h ?_⟩
    by_cases c : t i 6 = 0
    · rw [outS, if_pos c] at e
      rw [c, shl0 i (by omega), Int32.or_zero]; exact e
    · rw [outS, if_neg c] at e
      rw [(h6 i hlt).resolve_left c]; exact e
theorem sx_out {Q : Mem → Int32 → Prop} {S : Mem} {n : Nat} {g : Gl} {t : Ts} (hn : n ≤ 10) (hg : g 15 = nI n) (h6 : ∀ i, i < n → t i 6 = 0 ∨ t i 6 = 1) (h : MR S g t) (hq : Q S (outS t n)) : vc_X7_shutOut S Q := ⟨n + 1, lx_out hn hg h6 h hq n 0 (by omega)⟩
theorem midV_ex {t : Ts} {n : Nat} {ex ex' : Int32} (hn : n ≤ 10) (h1 : ∀ i, i < 10 → ¬ nI i = ex) (h2 : ∀ i, i < 10 → ¬ nI i = ex') : midV t ex n = midV t ex' n := by
  have : ∀ i, i ≤ n → midS t ex i = midS t ex' i := by
    intro i
    induction i with
    | zero => exact fun _ => rfl
    | succ i ih =>
      intro hi
      rw [midS, midS, ih (by omega)]
      by_cases c : askT (t i)
      · rw [if_pos ⟨h1 i (by omega), c⟩, if_pos ⟨h2 i (by omega), c⟩]
      · rw [if_neg (fun hh => c hh.2), if_neg (fun hh => c hh.2)]
  unfold midV
  rw [this n (Nat.le_refl n)]
theorem midV_1 {t : Ts} {n : Nat} (hn : n ≤ 10) : midV t (-999999) n = midV t (-1) n := midV_ex hn (by decide +kernel) (by decide +kernel)
theorem lx_btw {Q : Mem → Int32 → Prop} {K : Mem → Int32 → Prop} {S : Mem} {n : Nat} {x1 x2 : Int32} {g : Gl} {t : Ts} (hn : n ≤ 10) (hg : g 15 = nI n) (hw : ∀ i, i < n → ∃ h, WT h (t i)) (h : MR S g t) (hK : K S (nI (btN t x1 x2 n))) : ∀ m i, i + m = n → vc_X7_between_L10 Q K x1 x2 (m + 1) S (nI (btN t x1 x2 i)) (nI i) := by
  intro m
  induction m with
  | zero =>
    intro i hi
    have e : i = n := by omega
    subst e
    rw [vc_X7_between_L10]
    exact ⟨vv15, fun _ => hK, fun c => absurd (ix_ge h hg hn) c⟩
  | succ m ih =>
    intro i hi
    have hlt : i < n := by omega
    have e := ih (i + 1) (by omega)
    obtain ⟨hh, hwi⟩ := hw i hlt
    rw [vc_X7_between_L10]
    unfold vc_X7_between_J52 vc_X7_between_J53
    rw [nI_1, nI_1, Int32.add_zero]
    refine ⟨vv15, fun c => absurd c (ix_le h hg hlt hn), fun _ => sx_of (j := 7) (by omega) (by decide) h ⟨fun c => ?_, fun c => sx_mend (by omega) hwi h ⟨fun c2 => ⟨fun _ => ?_, fun c9 => absurd rfl c9⟩, fun c2 => ⟨fun c3 => ⟨fun _ => ?_, fun c9 => absurd rfl c9⟩, fun c3 => ⟨fun c9 => absurd c9 (by decide), fun _ => ?_⟩⟩⟩⟩⟩
    · rw [btN, if_neg (fun hh => i_nle.mpr hh.1 c)] at e
      exact e
    · rw [btN, if_neg (fun hh => hh.2.1 c2)] at e
      exact e
    · rw [btN, if_neg (fun hh => hh.2.2 c3)] at e
      exact e
    · rw [btN, if_pos ⟨i_nle.mp c, c2, c3⟩] at e
      exact e
/-! the reference: ranks -/
theorem sx_off {Q : Mem → Int32 → Prop} {S : Mem} {i : Nat} {g : Gl} {t : Ts} {h : Int} (hi : i < 10) (hw : WT h (t i)) (hm : MR S g t) (hq : Q S (iabs (mended (t i) - g 1))) : vc_X7_off S (nI i) Q := by
  refine sx_mend hi hw hm ⟨vv1, ?_⟩
  rw [hm.g1]
  exact sx_size hq
theorem sx_key {Q : Mem → Int32 → Prop} {S : Mem} {i : Nat} {kd : Int32} {g : Gl} {t : Ts} {h : Int} (hi : i < 10) (hkd : kd = 0 ∨ kd = 1) (hw : WT h (t i)) (hm : MR S g t) (hq : Q S (keyV kd g t i)) : vc_X7_key S (nI i) kd Q := by
  unfold keyV at hq
  refine ⟨fun c => sx_off hi hw hm ?_, fun c => sx_mend hi hw hm ?_⟩
  · rw [if_pos (hkd.resolve_left c)] at hq; exact hq
  · rw [if_neg (by rw [c]; decide)] at hq; exact hq
theorem iabs_I {x : Int32} (h : -2147483648 < x.toInt) : (iabs x).toInt = x.toInt.natAbs := by
  unfold iabs
  have h0 : (0 : Int32).toInt = 0 := rfl
  by_cases c : 0 ≤ x
  · rw [if_pos c]
    have := i_le.mp c
    omega
  · rw [if_neg c]
    have := i_lt.mp (i_nle.mp c)
    have hr := i_rng x
    rw [i_sub (by omega) (by omega)]
    omega
theorem mended_rng {h : Int} {t : Th} (hw : WT h t) : -999999 ≤ (mended t).toInt ∧ (mended t).toInt ≤ 340200 := by
  by_cases c : t 7 = 0
  · rw [mended0 c]; decide
  · have := mendB_rng hw hw.2.1 c
    unfold mended
    omega
theorem key_rng {h : Int} {kd : Int32} {g : Gl} {t : Ts} {i : Nat} (hw : WT h (t i)) (hx : -5000 ≤ (g 1).toInt ∧ (g 1).toInt ≤ 5000) : -1004999 ≤ (keyV kd g t i).toInt ∧ (keyV kd g t i).toInt ≤ 340200 := by
  have hm := mended_rng hw
  unfold keyV
  by_cases c : kd = 1
  · rw [if_pos c]
    have e1 : (mended (t i) - g 1).toInt = (mended (t i)).toInt - (g 1).toInt := i_sub (by omega) (by omega)
    have e2 := iabs_I (x := mended (t i) - g 1) (by omega)
    have e3 : (-(iabs (mended (t i) - g 1))).toInt = -((iabs (mended (t i) - g 1)).toInt) := by
      rw [← Int32.zero_sub, i_sub (by rw [e2, show (0 : Int32).toInt = 0 from rfl]; omega) (by rw [e2, show (0 : Int32).toInt = 0 from rfl]; omega), show (0 : Int32).toInt = 0 from rfl]
      omega
    rw [e3, e2, e1]
    omega
  · rw [if_neg c]
    omega
theorem key_sub {a b : Int32} (ha : -1004999 ≤ a.toInt ∧ a.toInt ≤ 340200) (hb : -1004999 ≤ b.toInt ∧ b.toInt ≤ 340200) : (a - b < 0 ↔ a < b) ∧ (a - b = 0 ↔ a = b) := by
  have e : (a - b).toInt = a.toInt - b.toInt := i_sub (by omega) (by omega)
  have h0 : (0 : Int32).toInt = 0 := rfl
  refine ⟨?_, ?_⟩
  · rw [i_lt, i_lt, e, h0]; omega
  · rw [i_eq, i_eq, e, h0]; omega
theorem lx_ah {Q : Mem → Int32 → Prop} {K : Mem → Int32 → Int32 → Int32 → Prop} {S : Mem} {n i : Nat} {kd x2 y : Int32} {g : Gl} {t : Ts} (hn : n ≤ 10) (hg : g 15 = nI n) (hi : i < n) (hkd : kd = 0 ∨ kd = 1) (hx : -5000 ≤ (g 1).toInt ∧ (g 1).toInt ≤ 5000) (hw : ∀ i, i < n → ∃ h, WT h (t i)) (h : MR S g t) (hK : K S y (nI i) (nI (ahN kd g t i n))) : ∀ m j, j + m = n → vc_X7_ofRank_L24 Q K kd x2 (m + 1) S y (nI i) (nI (ahN kd g t i j)) (nI j) := by
  intro m
  induction m with
  | zero =>
    intro j hj
    have e : j = n := by omega
    subst e
    rw [vc_X7_ofRank_L24]
    exact ⟨vv15, fun _ => hK, fun c => absurd (ix_ge h hg hn) c⟩
  | succ m ih =>
    intro j hj
    have hlt : j < n := by omega
    have e := ih (j + 1) (by omega)
    obtain ⟨hj0, hwj⟩ := hw j hlt
    obtain ⟨hi0, hwi⟩ := hw i hi
    have ks := key_sub (key_rng (kd := kd) (g := g) hwj hx) (key_rng (kd := kd) (g := g) hwi hx)
    rw [vc_X7_ofRank_L24]
    unfold vc_X7_ofRank_J87 vc_X7_ofRank_J83 vc_X7_ofRank_J88
    rw [nI_1, nI_1, Int32.add_zero]
    refine ⟨vv15, fun c => absurd c (ix_le h hg hlt hn), fun _ => sx_key (by omega) hkd hwj h (sx_key (by omega) hkd hwi h (sx_of (j := 7) (by omega) (by decide) h ⟨fun c => ?_, fun c => ⟨fun c2 => ?_, fun c2 => ⟨fun c3 => ?_, fun c3 => ⟨fun c4 => ?_, fun c4 => ?_⟩⟩⟩⟩))⟩
    · rw [ahN, if_neg (fun hh => i_nle.mpr hh.1 c)] at e
      exact e
    · rw [ahN, if_pos ⟨i_nle.mp c, Or.inl (ks.1.mp c2)⟩] at e
      exact e
    · rw [ahN, if_neg (fun hh => hh.2.elim (fun h9 => c2 (ks.1.mpr h9)) (fun h9 => c3 (ks.2.mpr h9.1)))] at e
      exact e
    · have hle : i ≤ j := (nI_leI (by omega) (by omega)).mp c4
      rw [ahN, if_neg (fun hh => hh.2.elim (fun h9 => c2 (ks.1.mpr h9)) (fun h9 => absurd h9.2 (by omega)))] at e
      exact e
    · have hle : j < i := by
        by_cases hh : i ≤ j
        · exact absurd ((nI_leI (by omega) (by omega)).mpr hh) c4
        · omega
      rw [ahN, if_pos ⟨i_nle.mp c, Or.inr ⟨ks.2.mp c3, hle⟩⟩] at e
      exact e
theorem ahN_le (kd : Int32) (g : Gl) (t : Ts) (i : Nat) : ∀ m, ahN kd g t i m ≤ m
  | 0 => Nat.le_refl 0
  | m + 1 => by
    have := ahN_le kd g t i m
    rw [ahN]
    split <;> omega
theorem ahN_mono {kd : Int32} {g : Gl} {t : Ts} {a b : Nat} (h : ∀ j, rkP kd g t a j → rkP kd g t b j) : ∀ m, ahN kd g t a m ≤ ahN kd g t b m
  | 0 => Nat.le_refl 0
  | m + 1 => by
    have := ahN_mono h m
    rw [ahN, ahN]
    by_cases c : rkP kd g t a m
    · rw [if_pos c, if_pos (h m c)]; omega
    · rw [if_neg c]
      split <;> omega
theorem ahN_lt {kd : Int32} {g : Gl} {t : Ts} {a b : Nat} (h : ∀ j, rkP kd g t a j → rkP kd g t b j) (ha : rkP kd g t b a) (hn : ¬ rkP kd g t a a) : ∀ m, a < m → ahN kd g t a m < ahN kd g t b m
  | 0, hm => absurd hm (Nat.not_lt_zero a)
  | m + 1, hm => by
    rw [ahN, ahN]
    by_cases e : a = m
    · subst e
      have := ahN_mono h a
      rw [if_neg hn, if_pos ha]
      omega
    · have := ahN_lt h ha hn m (by omega)
      by_cases c : rkP kd g t a m
      · rw [if_pos c, if_pos (h m c)]; omega
      · rw [if_neg c]
        split <;> omega
theorem rkP_tr {kd : Int32} {g : Gl} {t : Ts} {a b : Nat} (ha : 0 < t a 7) (hb : keyV kd g t a < keyV kd g t b ∨ (keyV kd g t a = keyV kd g t b ∧ a < b)) : (∀ j, rkP kd g t a j → rkP kd g t b j) ∧ rkP kd g t b a ∧ ¬ rkP kd g t a a := by
  refine ⟨fun j hj => ⟨hj.1, ?_⟩, ⟨ha, hb⟩, fun hh => ?_⟩
  · rcases hj.2 with h1 | h1 <;> rcases hb with h2 | h2
    · exact Or.inl (i_lt.mpr (Int.lt_trans (i_lt.mp h1) (i_lt.mp h2)))
    · exact Or.inl (by rw [← h2.1]; exact h1)
    · exact Or.inl (by rw [h1.1]; exact h2)
    · exact Or.inr ⟨h1.1.trans h2.1, Nat.lt_trans h1.2 h2.2⟩
  · rcases hh.2 with h1 | h1
    · exact absurd (i_lt.mp h1) (Int.lt_irrefl _)
    · exact absurd h1.2 (Nat.lt_irrefl _)
theorem rkC_uniq {kd x2 : Int32} {g : Gl} {t : Ts} {n a b : Nat} (hn : n ≤ 10) (ha : a < n) (hb : b < n) (h1 : rkC kd g t n x2 a) (h2 : rkC kd g t n x2 b) : a = b := by
  have e := nI_inj (by have := ahN_le kd g t a n; omega) (by have := ahN_le kd g t b n; omega) (h1.2.trans h2.2.symm)
  have no : ∀ a b, a < n → 0 < t a 7 → ahN kd g t a n = ahN kd g t b n → ¬ (keyV kd g t a < keyV kd g t b ∨ (keyV kd g t a = keyV kd g t b ∧ a < b)) := fun a b ha h7 e hh => by
    obtain ⟨q1, q2, q3⟩ := rkP_tr h7 hh
    have := ahN_lt q1 q2 q3 n ha
    omega
  have n1 := no a b ha h1.1 e
  have n2 := no b a hb h2.1 e.symm
  have k1 : ¬ keyV kd g t a < keyV kd g t b := fun h => n1 (Or.inl h)
  have k2 : ¬ keyV kd g t b < keyV kd g t a := fun h => n2 (Or.inl h)
  have ke : keyV kd g t a = keyV kd g t b := i_eq.mpr (by
    have a1 := i_le.mp (i_nlt.mp k1)
    have a2 := i_le.mp (i_nlt.mp k2)
    omega)
  rcases Nat.lt_trichotomy a b with h | h | h
  · exact absurd (Or.inr ⟨ke, h⟩) n1
  · exact h
  · exact absurd (Or.inr ⟨ke.symm, h⟩) n2
/-- the last one that fits, as the reference keeps it -/
def rkL (kd : Int32) (g : Gl) (t : Ts) (n : Nat) (x2 : Int32) : Nat → Int32
  | 0 => -999999
  | i + 1 => if rkC kd g t n x2 i then nI i else rkL kd g t n x2 i
theorem rkF_none {kd x2 : Int32} {g : Gl} {t : Ts} {n : Nat} : ∀ m i, (∀ j, i ≤ j → j < i + m → ¬ rkC kd g t n x2 j) → rkF kd g t n x2 m i = -999999
  | 0, _, _ => rfl
  | m + 1, i, h => by
    rw [rkF, if_neg (h i (Nat.le_refl i) (by omega))]
    exact rkF_none m (i + 1) (fun j h1 h2 => h j (by omega) (by omega))
theorem rkF_at {kd x2 : Int32} {g : Gl} {t : Ts} {n a : Nat} (ha : rkC kd g t n x2 a) (hu : ∀ j, j < n → rkC kd g t n x2 j → j = a) : ∀ m i, i ≤ a → a < i + m → i + m ≤ n → rkF kd g t n x2 m i = nI a
  | 0, i, h1, h2, _ => absurd h2 (by omega)
  | m + 1, i, h1, h2, h3 => by
    rw [rkF]
    by_cases e : i = a
    · rw [if_pos (by rw [e]; exact ha), e]
    · rw [if_neg (fun hh => e (hu i (by omega) hh))]
      exact rkF_at ha hu m (i + 1) (by omega) (by omega) (by omega)
theorem rkL_none {kd x2 : Int32} {g : Gl} {t : Ts} {n : Nat} : ∀ m, (∀ j, j < m → ¬ rkC kd g t n x2 j) → rkL kd g t n x2 m = -999999
  | 0, _ => rfl
  | m + 1, h => by
    rw [rkL, if_neg (h m (by omega))]
    exact rkL_none m (fun j h1 => h j (by omega))
theorem rkL_at {kd x2 : Int32} {g : Gl} {t : Ts} {n a : Nat} (ha : rkC kd g t n x2 a) (hu : ∀ j, j < n → rkC kd g t n x2 j → j = a) : ∀ m, a < m → m ≤ n → rkL kd g t n x2 m = nI a
  | 0, h2, _ => absurd h2 (by omega)
  | m + 1, h2, h3 => by
    rw [rkL]
    by_cases e : m = a
    · rw [if_pos (by rw [e]; exact ha), e]
    · rw [if_neg (fun hh => e (hu m (by omega) hh))]
      exact rkL_at ha hu m (by omega) (by omega)
theorem rkL_F {kd x2 : Int32} {g : Gl} {t : Ts} {n : Nat} (hn : n ≤ 10) : rkL kd g t n x2 n = rkF kd g t n x2 n 0 := by
  by_cases c : ∃ a, a < n ∧ rkC kd g t n x2 a
  · obtain ⟨a, ha, hc⟩ := c
    have hu : ∀ j, j < n → rkC kd g t n x2 j → j = a := fun j hj hh => rkC_uniq hn hj ha hh hc
    rw [rkL_at hc hu n ha (Nat.le_refl n), rkF_at hc hu n 0 (Nat.zero_le a) (by omega) (by omega)]
  · rw [rkL_none n (fun j hj hh => c ⟨j, hj, hh⟩), rkF_none n 0 (fun j _ hj hh => c ⟨j, by omega, hh⟩)]
theorem lx_rank {Q : Mem → Int32 → Prop} {K : Mem → Int32 → Prop} {S : Mem} {n : Nat} {kd x2 : Int32} {g : Gl} {t : Ts} (hn : n ≤ 10) (hg : g 15 = nI n) (hkd : kd = 0 ∨ kd = 1) (hx : -5000 ≤ (g 1).toInt ∧ (g 1).toInt ≤ 5000) (hw : ∀ i, i < n → ∃ h, WT h (t i)) (h : MR S g t) (hK : K S (rkL kd g t n x2 n)) : ∀ m i, i + m = n → vc_X7_ofRank_L6 Q K kd x2 (m + 1) S (rkL kd g t n x2 i) (nI i) := by
  intro m
  induction m with
  | zero =>
    intro i hi
    have e : i = n := by omega
    subst e
    rw [vc_X7_ofRank_L6]
    exact ⟨vv15, fun _ => hK, fun c => absurd (ix_ge h hg hn) c⟩
  | succ m ih =>
    intro i hi
    have hlt : i < n := by omega
    have e := ih (i + 1) (by omega)
    rw [vc_X7_ofRank_L6]
    refine ⟨vv15, fun c => absurd c (ix_le h hg hlt hn), fun _ => ⟨n + 1, ?_⟩⟩
    refine lx_ah hn hg hlt hkd hx hw h (sx_of (j := 7) (by omega) (by decide) h ?_) n 0 (by omega)
    unfold vc_X7_ofRank_J119 vc_X7_ofRank_J120
    rw [nI_1]
    refine ⟨fun c => ?_, fun c => ⟨fun c2 => ?_, fun c2 => ?_⟩⟩
    · rw [rkL, if_neg (fun hh => i_nle.mpr hh.1 c)] at e
      exact e
    · rw [rkL, if_neg (fun hh => c2 hh.2)] at e
      exact e
    · rw [rkL, if_pos ⟨i_nle.mp c, c2⟩] at e
      exact e
theorem sx_rank {Q : Mem → Int32 → Prop} {S : Mem} {n : Nat} {kd x2 : Int32} {g : Gl} {t : Ts} (hn : n ≤ 10) (hg : g 15 = nI n) (hkd : kd = 0 ∨ kd = 1) (hx : -5000 ≤ (g 1).toInt ∧ (g 1).toInt ≤ 5000) (hw : ∀ i, i < n → ∃ h, WT h (t i)) (h : MR S g t) (hq : Q S (rkF kd g t n x2 n 0)) : vc_X7_ofRank S kd x2 Q := ⟨n + 1, lx_rank hn hg hkd hx hw h (by rw [rkL_F hn]; exact hq) n 0 (by omega)⟩
