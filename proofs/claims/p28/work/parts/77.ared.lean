/-! wouldOne: the best lag, and how long until it is still -/
theorem iabs_i {z : Int32} (h : -1000000 ≤ z.toInt ∧ z.toInt ≤ 1000000) : (iabs z).toInt = (z.toInt.natAbs : Int) := by
  have l0 : (0 : Int32).toInt = 0 := rfl
  unfold iabs
  by_cases c : 0 ≤ z
  · have := i_le.mp c
    rw [if_pos c]
    omega
  · have := i_lt.mp (Int32.not_le.mp c)
    rw [if_neg c, i_sub (by rw [l0]; omega) (by rw [l0]; omega), l0]
    omega
theorem q0 {z l : Int32} (hz : -100000 ≤ z.toInt ∧ z.toInt ≤ 100000) (hl : 1 ≤ l.toInt ∧ l.toInt ≤ 9) : z / l = 0 ↔ iabs z < l := by
  have e : (z / l).toInt = z.toInt.tdiv l.toInt := i_div (by omega)
  have ea := iabs_i (z := z) (by omega)
  have l0 : (0 : Int32).toInt = 0 := rfl
  have hn : (z.toInt.tdiv l.toInt).natAbs = z.toInt.natAbs / l.toInt.natAbs := Int.natAbs_tdiv _ _
  rw [i_eq, e, l0, i_lt, ea]
  have hc : l.toInt = 1 ∨ l.toInt = 2 ∨ l.toInt = 3 ∨ l.toInt = 4 ∨ l.toInt = 5 ∨ l.toInt = 6 ∨ l.toInt = 7 ∨ l.toInt = 8 ∨ l.toInt = 9 := by omega
  have hlN : l.toInt.natAbs = 1 ∨ l.toInt.natAbs = 2 ∨ l.toInt.natAbs = 3 ∨ l.toInt.natAbs = 4 ∨ l.toInt.natAbs = 5 ∨ l.toInt.natAbs = 6 ∨ l.toInt.natAbs = 7 ∨ l.toInt.natAbs = 8 ∨ l.toInt.natAbs = 9 := by omega
  generalize z.toInt.tdiv l.toInt = w at hn
  rcases hlN with h | h | h | h | h | h | h | h | h <;> rw [h] at hn <;> omega
theorem stF_rng {h : Int} {t : Th} {x : Int32} (hw : WT h t) (hx : -5000 ≤ x.toInt ∧ x.toInt ≤ 5000) : ∀ k, -20000 ≤ (stF t x k).toInt ∧ (stF t x k).toInt ≤ 20000
  | 0 => hw.2.2.2.2.1
  | k + 1 => by
    have hk := stF_rng hw hx k
    obtain ⟨c0, c1, c2, c3, c4, c6, -⟩ := hw
    have e1 : (x + t 2).toInt = x.toInt + (t 2).toInt := i_add (by omega) (by omega)
    have e2 : (x + t 2 - stF t x k).toInt = x.toInt + (t 2).toInt - (stF t x k).toInt := by rw [i_sub (by omega) (by omega), e1]
    have e3 : ((x + t 2 - stF t x k) / t 1).toInt = (x.toInt + (t 2).toInt - (stF t x k).toInt).tdiv (t 1).toInt := by rw [i_div (by omega), e2]
    have hb := tdiv_between (a := x.toInt + (t 2).toInt - (stF t x k).toInt) c1.1
    have e4 : (stF t x (k + 1)).toInt = (stF t x k).toInt + (x.toInt + (t 2).toInt - (stF t x k).toInt).tdiv (t 1).toInt := by
      have h9 : -20000 ≤ (stF t x k).toInt + (x.toInt + (t 2).toInt - (stF t x k).toInt).tdiv (t 1).toInt ∧ (stF t x k).toInt + (x.toInt + (t 2).toInt - (stF t x k).toInt).tdiv (t 1).toInt ≤ 20000 := by
        rcases Int.le_total 0 (x.toInt + (t 2).toInt - (stF t x k).toInt) with hc | hc
        · have := hb.1 hc; omega
        · have := hb.2 hc; omega
      rw [stF, i_add (by rw [e3]; omega) (by rw [e3]; omega), e3]
    rw [e4]
    rcases Int.le_total 0 (x.toInt + (t 2).toInt - (stF t x k).toInt) with hc | hc
    · have := hb.1 hc; omega
    · have := hb.2 hc; omega
/-- how far the mended temperature is, at a lag -/
def dI (t : Th) (x : Int32) (l : Nat) : Int := (iabs (mendB t (nI l) - x)).toInt
theorem nlS_ch (t : Th) (x : Int32) : ∀ k, ∃ B, 1 ≤ B ∧ B ≤ k + 1 ∧ nlS t x k = (nI B, iabs (mendB t (nI B) - x)) ∧ (∀ l, 1 ≤ l → l ≤ k + 1 → dI t x B ≤ dI t x l) ∧ ∀ l, 1 ≤ l → l < B → dI t x B < dI t x l
  | 0 => ⟨1, by omega, by omega, rfl, fun l h1 h2 => by rw [show l = 1 by omega]; omega, fun l h1 h2 => by omega⟩
  | k + 1 => by
    obtain ⟨B, b1, b2, b3, b4, b5⟩ := nlS_ch t x k
    have es : nlS t x (k + 1) = if (nlS t x k).2 ≤ iabs (mendB t (nI (k + 2)) - x) then nlS t x k else (nI (k + 2), iabs (mendB t (nI (k + 2)) - x)) := rfl
    by_cases c : (nlS t x k).2 ≤ iabs (mendB t (nI (k + 2)) - x)
    · have c' : dI t x B ≤ dI t x (k + 2) := by
        have := i_le.mp c
        rw [b3] at this
        exact this
      refine ⟨B, b1, by omega, by rw [es, if_pos c]; exact b3, fun l h1 h2 => ?_, b5⟩
      by_cases e : l = k + 2
      · rw [e]; exact c'
      · exact b4 l h1 (by omega)
    · have c' : dI t x (k + 2) < dI t x B := by
        have := i_lt.mp (Int32.not_le.mp c)
        rw [b3] at this
        exact this
      refine ⟨k + 2, by omega, by omega, by rw [es, if_neg c], fun l h1 h2 => ?_, fun l h1 h2 => ?_⟩
      · by_cases e : l = k + 2
        · rw [e]; omega
        · have := b4 l h1 (by omega); omega
      · have := b4 l h1 (by omega); omega
section
variable {Q : Mem → Int32 → Prop} {S : Mem} {s : St} {i : Nat}
theorem lo_lag0 {K : Mem → Int32 → Int32 → Prop} (hc : CC S s) (hl : LR S 0 s.1 s.2.1 s.2.2) (hw : WSs s) (hi : i < s.2.2) (h0 : s.2.1 i 7 = 0) (hK : K S (-999999) 1) : ∀ (k : Nat) (y7 : Int32), k ≤ 9 → vc_L_wouldOne_L14 Q K (nI i) (k + 1) S (-999999) y7 1 (nI k) := by
  intro k
  induction k with
  | zero =>
    intro y7 hk
    rw [vc_L_wouldOne_L14]
    exact ⟨fun _ => hK, fun c => absurd (show nI 0 ≤ 0 by decide) c⟩
  | succ k ih =>
    intro y7 hk
    have hkI := nI_toInt (n := k + 1) (by omega)
    have em : ∀ lag, mendB (s.2.1 i) lag = -999999 := fun lag => if_pos h0
    have hne : ¬ (-999999 : Int32) = nI (k + 1) := fun e => by
      rw [← e] at hkI
      have l9 : (-999999 : Int32).toInt = -999999 := rfl
      omega
    rw [vc_L_wouldOne_L14]
    refine ⟨fun c => absurd c (nI_nle (by omega) (by omega)), fun _ => so_mended hl hw hi (z_1 (cl_ifLag hw hi (by omega) hc (st_ne rfl ?_)))⟩
    rw [em]
    unfold vc_L_wouldOne_J54
    refine ⟨nv_1, so_size ⟨fun _ => ?_, fun c => absurd rfl c⟩⟩
    unfold vc_L_wouldOne_J94 vc_L_wouldOne_J96 vc_L_wouldOne_J112
    refine ⟨fun _ => ?_, fun c => absurd c hne⟩
    rw [pk_m1]
    exact ih y7 (by omega)
theorem lo_lagP {K : Mem → Int32 → Int32 → Prop} (hc : CC S s) (hl : LR S 0 s.1 s.2.1 s.2.2) (hw : WSs s) (hi : i < s.2.2) (h0 : ¬ s.2.1 i 7 = 0) (hK : ∀ B, 1 ≤ B → B ≤ 9 → (∀ l, 1 ≤ l → l ≤ 9 → dI (s.2.1 i) (s.1 1) B ≤ dI (s.2.1 i) (s.1 1) l) → (∀ l, 1 ≤ l → l < B → dI (s.2.1 i) (s.1 1) B < dI (s.2.1 i) (s.1 1) l) → K S (nI B) 1) : ∀ (k : Nat) (y6 y7 : Int32), k ≤ 9 → ((k = 9 ∧ y6 = -999999) ∨ ∃ B, k < B ∧ B ≤ 9 ∧ y6 = nI B ∧ y7 = iabs (mendB (s.2.1 i) (nI B) - s.1 1) ∧ (∀ l, k < l → l ≤ 9 → dI (s.2.1 i) (s.1 1) B ≤ dI (s.2.1 i) (s.1 1) l) ∧ ∀ l, k < l → l < B → dI (s.2.1 i) (s.1 1) B < dI (s.2.1 i) (s.1 1) l) → vc_L_wouldOne_L14 Q K (nI i) (k + 1) S y6 y7 1 (nI k) := by
  intro k
  induction k with
  | zero =>
    intro y6 y7 hk hI
    rcases hI with ⟨h, -⟩ | ⟨B, b1, b2, b3, b4, b5, b6⟩
    · omega
    · rw [vc_L_wouldOne_L14, b3]
      exact ⟨fun _ => hK B (by omega) b2 (fun l h1 h2 => b5 l (by omega) h2) (fun l h1 h2 => b6 l (by omega) h2), fun c => absurd (show nI 0 ≤ 0 by decide) c⟩
  | succ k ih =>
    intro y6 y7 hk hI
    have hkI := nI_toInt (n := k + 1) (by omega)
    have hwT := hw.2 i hi
    have hmr := mendB_rng (lag := nI (k + 1)) hwT (by omega) h0
    have l9 : (-999999 : Int32).toInt = -999999 := rfl
    have hne : ¬ mendB (s.2.1 i) (nI (k + 1)) = -999999 := fun e => by rw [e] at hmr; omega
    have J112 : ∀ (y6 w : Int32), (∃ B, k < B ∧ B ≤ 9 ∧ y6 = nI B ∧ w = iabs (mendB (s.2.1 i) (nI B) - s.1 1) ∧ (∀ l, k < l → l ≤ 9 → dI (s.2.1 i) (s.1 1) B ≤ dI (s.2.1 i) (s.1 1) l) ∧ ∀ l, k < l → l < B → dI (s.2.1 i) (s.1 1) B < dI (s.2.1 i) (s.1 1) l) → vc_L_wouldOne_J112 Q (vc_L_wouldOne_L14 Q K (nI i) (k + 1)) K (nI i) S y6 1 (nI (k + 1)) w := fun y6 w hB => by
      unfold vc_L_wouldOne_J112
      rw [pk_m1]
      exact ih y6 w (by omega) (Or.inr hB)
    have J89 : (∀ l, k + 1 < l → l ≤ 9 → dI (s.2.1 i) (s.1 1) (k + 1) ≤ dI (s.2.1 i) (s.1 1) l) → vc_L_wouldOne_J89 Q (vc_L_wouldOne_L14 Q K (nI i) (k + 1)) K (nI i) S y7 1 (nI (k + 1)) (iabs (mendB (s.2.1 i) (nI (k + 1)) - s.1 1)) := fun hB => by
      unfold vc_L_wouldOne_J89 vc_L_wouldOne_J96
      refine st_ne rfl (J112 _ _ ⟨k + 1, by omega, by omega, rfl, rfl, fun l h1 h2 => ?_, fun l h1 h2 => by omega⟩)
      by_cases e : l = k + 1
      · rw [e]; omega
      · exact hB l (by omega) h2
    rw [vc_L_wouldOne_L14]
    refine ⟨fun c => absurd c (nI_nle (by omega) (by omega)), fun _ => so_mended hl hw hi (z_1 (cl_ifLag hw hi (by omega) hc (st_ne rfl ?_)))⟩
    unfold vc_L_wouldOne_J54
    rw [nc_1, hl.2.1 1 (by decide)]
    refine ⟨nv_1, so_size ⟨fun c => absurd c hne, fun _ => ⟨fun c => J89 (fun l h1 h2 => ?_), fun c => ?_⟩⟩⟩
    · rcases hI with ⟨h, -⟩ | ⟨B, b1, b2, b3, -⟩
      · omega
      · have hBI := nI_toInt (n := B) (by omega)
        rw [b3] at c
        rw [c] at hBI
        omega
    · rcases hI with ⟨-, h⟩ | ⟨B, b1, b2, b3, b4, b5, b6⟩
      · exact absurd h c
      · rw [b3, b4]
        refine ⟨fun c2 => ?_, fun c2 => ?_⟩
        · have c2' : dI (s.2.1 i) (s.1 1) B < dI (s.2.1 i) (s.1 1) (k + 1) := i_lt.mp c2
          unfold vc_L_wouldOne_J94 vc_L_wouldOne_J96
          refine ⟨fun _ => J112 _ _ ⟨B, by omega, b2, rfl, rfl, fun l h1 h2 => ?_, fun l h1 h2 => ?_⟩, fun c3 => absurd (nI_inj (by omega) (by omega) c3) (by omega)⟩
          · by_cases e : l = k + 1
            · rw [e]; omega
            · exact b5 l (by omega) h2
          · by_cases e : l = k + 1
            · rw [e]; exact c2'
            · exact b6 l (by omega) h2
        · have c2' : dI (s.2.1 i) (s.1 1) (k + 1) ≤ dI (s.2.1 i) (s.1 1) B := i_le.mp (i_nlt.mp c2)
          rw [b4] at J89
          exact J89 (fun l h1 h2 => by have := b5 l h1 h2; omega)
theorem lo_stl {K : Mem → Int32 → Int32 → Int32 → Prop} {N : Nat} {y6 y8 : Int32} (hl : LR S 0 s.1 s.2.1 s.2.2) (hw : WSs s) (hi : i < s.2.2) (hN : N < 100000) (hz : (s.1 1 + s.2.1 i 2 - stF (s.2.1 i) (s.1 1) N) / s.2.1 i 1 = 0) (hnz : ∀ k, k < N → ¬ (s.1 1 + s.2.1 i 2 - stF (s.2.1 i) (s.1 1) k) / s.2.1 i 1 = 0) (hK : K S y6 y8 (nI N)) : ∀ m k, k + m = N → vc_L_wouldOne_L138 Q K (nI i) (m + 1) S y6 y8 ((10 : Int32) * nI i) (stF (s.2.1 i) (s.1 1) k) (nI k) := by
  have hi6 := hl.six hi
  have hT := hl.2.2 i hi
  have hwT := hw.2 i hi
  have hg := hw.1.2.2.2.1
  have hr := stF_rng (x := s.1 1) hwT hg
  have c2 := hwT.2.2.1
  have e1 : (s.1 1 + s.2.1 i 2).toInt = (s.1 1).toInt + (s.2.1 i 2).toInt := i_add (by omega) (by omega)
  have eq : ∀ k, ((s.1 1 + s.2.1 i 2 - stF (s.2.1 i) (s.1 1) k) / s.2.1 i 1 = 0 ↔ iabs (s.1 1 + s.2.1 i 2 - stF (s.2.1 i) (s.1 1) k) < s.2.1 i 1) := fun k => by
    have hk := hr k
    have e2 : (s.1 1 + s.2.1 i 2 - stF (s.2.1 i) (s.1 1) k).toInt = (s.1 1).toInt + (s.2.1 i 2).toInt - (stF (s.2.1 i) (s.1 1) k).toInt := by rw [i_sub (by omega) (by omega), e1]
    exact q0 (by omega) hwT.2.1
  intro m
  induction m with
  | zero =>
    intro k hk
    have e : k = N := by omega
    subst e
    rw [vc_L_wouldOne_L138, nc_1, tc_2 hi6, tc_1 hi6, hl.2.1 1 (by decide), hT.1 2 (by decide)]
    refine ⟨nv_1, tv_2 hi6, so_size ⟨tv_1 hi6, ?_⟩⟩
    rw [hT.1 1 (by decide)]
    exact ⟨fun _ => hK, fun c => absurd ((eq k).mp hz) c⟩
  | succ m ih =>
    intro k hk
    rw [vc_L_wouldOne_L138, nc_1, tc_2 hi6, tc_1 hi6, hl.2.1 1 (by decide), hT.1 2 (by decide)]
    refine ⟨nv_1, tv_2 hi6, so_size ⟨tv_1 hi6, ?_⟩⟩
    rw [hl.2.1 1 (by decide), hT.1 2 (by decide), hT.1 1 (by decide)]
    refine ⟨fun c => absurd ((eq k).mpr c) (hnz k (by omega)), fun _ => ⟨nv_1, tv_2 hi6, tv_1 hi6, lag_ne hwT, ?_⟩⟩
    rw [← nI_succ]
    exact ih (k + 1) (by omega)
theorem so_one (hc : CC S s) (hl : LR S 0 s.1 s.2.1 s.2.2) (hw : WSs s) (hi : i < s.2.2) (hq : Q S 1) : vc_L_wouldOne S (nI i) Q := by
  have hi6 := hl.six hi
  have hT := hl.2.2 i hi
  have hwT := hw.2 i hi
  obtain ⟨N, hN, hz, hnz⟩ := stl_ex hwT hw.1.2.2.2.1
  have fin : ∀ best : Int32, best = nlV (s.2.1 i) (s.1 1) → vp_in (((10 : Int32) * (nI i)) + (4 : Int32)) 60 ∧ ∃ n : Nat, vc_L_wouldOne_L138 Q (fun (S_29 : Mem) (y6_30 : Int32) (y8_31 : Int32) (y11_32 : Int32) => ((y8_31 = 0) → Q S_29 (0 : Int32)) ∧ ((¬ (y8_31 = 0)) → vc_X6_bestLag S_29 (nI i) (fun (S_34 : Mem) (r_35 : Int32) => ((¬ r_35 = y6_30) → Q S_34 (0 : Int32)) ∧ ((r_35 = y6_30) → vc_X6_stillIn S_34 (nI i) (fun (S_37 : Mem) (r_38 : Int32) => ((¬ r_38 = y11_32) → Q S_37 (0 : Int32)) ∧ ((r_38 = y11_32) → Q S_37 (1 : Int32))))))) (nI i) n S best 1 ((10 : Int32) * (nI i)) (S 15 0 0 (((10 : Int32) * (nI i)) + (4 : Int32)).toNatClampNeg) (0 : Int32) := by
    intro best eb
    rw [tc_4 hi6, hT.1 4 (by decide)]
    exact ⟨tv_4 hi6, N + 1, lo_stl hl hw hi hN hz hnz (z_1 (cl_best hw hi hc (st_ne eb.symm (cl_still hw hi hc hN hz hnz (st_ne rfl hq))))) N 0 (by omega)⟩
  unfold vc_L_wouldOne
  by_cases h0 : s.2.1 i 7 = 0
  · refine ⟨10, lo_lag0 hc hl hw hi h0 (fin _ ?_) 9 0 (by omega)⟩
    unfold nlV
    rw [h0, if_neg (by decide)]
  · refine ⟨10, lo_lagP hc hl hw hi h0 (fun B b1 b2 b3 b4 => fin _ ?_) 9 (-999999) 0 (by omega) (Or.inl ⟨rfl, rfl⟩)⟩
    obtain ⟨κ, hκ, h7, -⟩ := hwT.ne
    have hpos : 0 < s.2.1 i 7 := by
      rw [h7] at h0 ⊢
      have : κ ≠ 0 := fun e => h0 (by rw [e]; rfl)
      exact (nI_lt0 (by omega)).mpr (by omega)
    obtain ⟨B', c1, c2, c3, c4, c5⟩ := nlS_ch (s.2.1 i) (s.1 1) 8
    unfold nlV
    rw [if_pos hpos, c3]
    have e : B = B' := by
      rcases Nat.lt_trichotomy B B' with h | h | h
      · have d1 := c5 B b1 h
        have d2 := b3 B' c1 c2
        omega
      · exact h
      · have d1 := b4 B' c1 h
        have d2 := c4 B b1 (by omega)
        omega
    rw [e]
end
