/-! the class's calls, as the law makes them: CC is what stands of the class -/
/-- the class's side is left as it is -/
def FC (S S' : Mem) : Prop := ∀ t, t < 15 → S' t = S t
/-- the law's rows are left as they are -/
def FR (S S' : Mem) : Prop := ∀ t, 15 ≤ t → S' t = S t
theorem FC.rf (S : Mem) : FC S S := fun _ _ => rfl
theorem FR.rf (S : Mem) : FR S S := fun _ _ => rfl
theorem FC.tr {S S' S'' : Mem} (h : FC S S') (h2 : FC S' S'') : FC S S'' := fun t ht => (h2 t ht).trans (h t ht)
theorem FR.tr {S S' S'' : Mem} (h : FR S S') (h2 : FR S' S'') : FR S S'' := fun t ht => (h2 t ht).trans (h t ht)
theorem FrP.fr {P : Nat} {S S' : Mem} (h : FrP P S S') : FR S S' := fun t ht => funext fun P' => funext fun i' => h t P' i' (fun hh => by omega)
theorem FrH.fr {S S' : Mem} (h : FrH S S') : FR S S' := fun t ht => funext fun P' => funext fun i' => h t P' i' (fun hh => by omega) (fun hh => by omega)
theorem FL.fc {P : Nat} {S S' : Mem} (h : FL P S S') : FC S S' := fun t ht => funext fun P' => funext fun i' => h t P' i' (fun hh => by omega)
theorem FC.uc {t P i : Nat} {f : Nat → Int32} (ht : 15 ≤ t) (S : Mem) : FC S (uc S t P i f) := fun t' ht' => funext fun P' => funext fun i' => uc_t (by omega)
theorem LR.fr {S S' : Mem} {P n : Nat} {g : Gl} {t : Ts} (hf : FR S S') (h : LR S P g t n) : LR S' P g t n := h.eqs (by rw [hf 15 (by decide)]) (by rw [hf 16 (by decide)]) (by rw [hf 17 (by decide)]) (by rw [hf 18 (by decide)])
theorem PR.fc {S S' : Mem} {P n : Nat} {g : Gl} {t : Ts} (hf : FC S S') (h : PR S P g t n) : PR S' P g t n := h.eqs (by rw [hf 3 (by decide)]) (by rw [hf 12 (by decide)]) (by rw [hf 13 (by decide)]) (fun i _ => ⟨by rw [hf 5 (by decide)], by rw [hf 6 (by decide)], by rw [hf 7 (by decide)]⟩)
def CC (S : Mem) (s : St) : Prop := PRs S 0 s ∧ ∃ (ν k : Nat) (h : Nat → St), HR S ν k h
theorem PRs.n {S : Mem} {P : Nat} {s : St} (h : PRs S P s) : S 3 P 0 6 = nI s.2.2 := h.2.1.2
theorem CC.fc {S S' : Mem} {s : St} (hf : FC S S') (hc : CC S s) : CC S' s := by
  obtain ⟨h1, ν, k, h, h2, h3, h4, h5⟩ := hc
  exact ⟨h1.fc hf, ν, k, h, h2, by rw [hf 1 (by decide)]; exact h3, by rw [hf 1 (by decide)]; exact h4, fun j hj => (h5 j hj).fc hf⟩
theorem CC.now {S S' : Mem} {s s' : St} (hf : FrP 0 S S') (hp : PRs S' 0 s') (hc : CC S s) : CC S' s' := by
  obtain ⟨h1, ν, k, h, h2, h3, h4, h5⟩ := hc
  exact ⟨hp, ν, k, h, h2, by rw [hf 1 0 0 (by omega)]; exact h3, by rw [hf 1 0 0 (by omega)]; exact h4, fun j hj => (h5 j hj).frP (by omega) hf⟩
theorem CC.aside {S S' : Mem} {s : St} (hf : FrP 1 S S') (hc : CC S s) : CC S' s := by
  obtain ⟨h1, ν, k, h, h2, h3, h4, h5⟩ := hc
  exact ⟨h1.frP (by omega) hf, ν, k, h, h2, by rw [hf 1 0 0 (by omega)]; exact h3, by rw [hf 1 0 0 (by omega)]; exact h4, fun j hj => (h5 j hj).frP (by omega) hf⟩
theorem CC.save {Q : Mem → Prop} {S : Mem} {s : St} (hw : WSs s) (hc : CC S s) (hq : ∀ S', FR S S' → CC S' s → Q S') : vc_X1_save S 0 Q := by
  obtain ⟨h1, ν, k, h, hr⟩ := hc
  refine sp_save hr hw h1 fun S' hf hr' => hq S' hf.fr ⟨?_, _, _, _, hr'⟩
  exact h1.eqs (hf _ _ _ (by omega) (by omega)) (hf _ _ _ (by omega) (by omega)) (hf _ _ _ (by omega) (by omega)) (fun i _ => ⟨hf _ _ _ (by omega) (by omega), hf _ _ _ (by omega) (by omega), hf _ _ _ (by omega) (by omega)⟩)
/-! checks -/
theorem i_nlt {x y : Int32} : ¬ x < y ↔ y ≤ x := Int32.not_lt
theorem sp_rng {S : Mem} {x lo hi : Int32} {a a' : Int} {Q : Mem → Prop} (ha : lo.toInt = a) (hb : hi.toInt = a') (hx : a ≤ x.toInt ∧ x.toInt ≤ a') (hq : Q S) : vc_X6_checkRange S x lo hi Q := ⟨fun c => absurd (i_lt.mp c) (by omega), fun _ => ⟨fun _ => hq, fun c => absurd (i_le.mpr (by omega)) c⟩⟩
theorem sp_nn {S : Mem} {x : Int32} {Q : Mem → Prop} (hx : 0 ≤ x.toInt) (hq : Q S) : vc_X6_checkNotNegative S x Q := by
  have l0 : (0 : Int32).toInt = 0 := rfl
  exact ⟨fun _ => hq, fun c => absurd (i_le.mpr (by omega)) c⟩
theorem sp_cr {S : Mem} {ρ : Nat} {Q : Mem → Prop} (hx : ρ < 4) (hq : Q S) : vc_X6_checkRow S (nI ρ) Q := ⟨fun c => absurd c (nI_pos (by omega)), fun _ => ⟨fun _ => hq, fun c => absurd (show nI ρ < nI 4 from nI_lt hx (by decide)) c⟩⟩
theorem sp_has {S : Mem} {P n i : Nat} {Q : Mem → Int32 → Prop} (hn : n ≤ 10) (h6 : S 3 P 0 6 = nI n) (hi : i < n) (hy : Q S 1) : vc_X3_has S P (nI i) Q := by
  unfold vc_X3_has
  rw [h6]
  exact ⟨fun c => absurd c (nI_pos (by omega)), fun _ => ⟨fun c => absurd c (nI_ge hi (by omega)), fun _ => hy⟩⟩
theorem sp_ct {S : Mem} {s : St} {i : Nat} {Q : Mem → Prop} (hn : s.2.2 ≤ 10) (hP : PRs S 0 s) (hi : i < s.2.2) (hq : Q S) : vc_X6_checkThermometer S (nI i) Q := sp_has hn hP.n hi ⟨fun _ => hq, fun c => absurd c (by decide)⟩
theorem sp_room {S : Mem} {P n : Nat} {Q : Mem → Int32 → Prop} (hn : n < 10) (h6 : S 3 P 0 6 = nI n) (hq : Q S 1) : vc_X3_hasRoom S P Q := by
  unfold vc_X3_hasRoom
  rw [h6]
  exact ⟨fun c => absurd c (nI_ge (b := 10) hn (by decide)), fun _ => hq⟩
theorem sp_left {S : Mem} {x h : Int32} {Q : Mem → Prop} (h7 : S 3 0 0 7 = h) (hx : 0 ≤ x.toInt ∧ x.toInt ≤ 100) (hl : h.toInt + x.toInt ≤ 9999) (hq : Q S) : vc_X6_checkHoursLeft S x Q := by
  have h1 : (9999 : Int32).toInt = 9999 := rfl
  have e : ((9999 : Int32) - x).toInt = 9999 - x.toInt := by rw [i_sub (by rw [h1]; omega) (by rw [h1]; omega), h1]
  unfold vc_X6_checkHoursLeft vc_X3_hasHoursLeft
  rw [h7]
  exact ⟨fun c => absurd (i_lt.mp c) (by omega), fun _ => ⟨fun _ => hq, fun c => absurd c (by decide)⟩⟩
section
variable {S : Mem} {s : St} {Q : Mem → Int32 → Prop}
/-! counts -/
theorem cl_count0 (hc : CC S s) (hq : Q S (s.1 0)) : vc_X6_count S (0 : Int32) Q := by
  have e := hc.1.1.1
  rw [← e] at hq
  exact sp_rng (a := 0) (a' := 13) rfl rfl (by decide) (st_yes rfl hq)
theorem cl_count1 (hc : CC S s) (hq : Q S (nI s.2.2)) : vc_X6_count S (1 : Int32) Q := by
  have e := hc.1.n
  rw [← e] at hq
  exact sp_rng (a := 0) (a' := 13) rfl rfl (by decide) (st_no (by decide) (st_yes rfl hq))
theorem cl_count2 (hc : CC S s) (hq : Q S (s.1 1)) : vc_X6_count S (2 : Int32) Q := by
  have e := hc.1.1.2.1
  rw [← e] at hq
  exact sp_rng (a := 0) (a' := 13) rfl rfl (by decide) (st_no (by decide) (st_no (by decide) (st_yes rfl hq)))
theorem cl_count8 (hc : CC S s) (hq : Q S (s.1 12)) : vc_X6_count S (8 : Int32) Q := by
  have e := hc.1.1.2.2.2.2.2.1
  rw [← e] at hq
  exact sp_rng (a := 0) (a' := 13) rfl rfl (by decide) (st_no (by decide) (st_no (by decide) (st_no (by decide) (st_no (by decide) (st_no (by decide) (st_no (by decide) (st_no (by decide) (st_no (by decide) (st_yes rfl hq)))))))))
theorem cl_count9 (hc : CC S s) (hq : Q S (s.1 13)) : vc_X6_count S (9 : Int32) Q := by
  have e := hc.1.1.2.2.2.2.2.2.1
  rw [← e] at hq
  exact sp_rng (a := 0) (a' := 13) rfl rfl (by decide) (st_no (by decide) (st_no (by decide) (st_no (by decide) (st_no (by decide) (st_no (by decide) (st_no (by decide) (st_no (by decide) (st_no (by decide) (st_no (by decide) (st_yes rfl hq))))))))))
theorem cl_count12 (hc : CC S s) (hq : Q S (s.1 2)) : vc_X6_count S (12 : Int32) Q := by
  have e := hc.1.1.2.2.1
  rw [← e] at hq
  exact sp_rng (a := 0) (a' := 13) rfl rfl (by decide) (st_no (by decide) (st_no (by decide) (st_no (by decide) (st_no (by decide) (st_no (by decide) (st_no (by decide) (st_no (by decide) (st_no (by decide) (st_no (by decide) (st_no (by decide) (st_no (by decide) (st_no (by decide) (st_yes rfl hq)))))))))))))
theorem cl_count13 (hc : CC S s) (hq : Q S (s.1 3)) : vc_X6_count S (13 : Int32) Q := by
  have e := hc.1.1.2.2.2.1
  rw [← e] at hq
  exact sp_rng (a := 0) (a' := 13) rfl rfl (by decide) (st_no (by decide) (st_no (by decide) (st_no (by decide) (st_no (by decide) (st_no (by decide) (st_no (by decide) (st_no (by decide) (st_no (by decide) (st_no (by decide) (st_no (by decide) (st_no (by decide) (st_no (by decide) (st_no (by decide) hq)))))))))))))
theorem cl_count3 (hc : CC S s) (hq : Q S (maskS s.2.1 s.2.2)) : vc_X6_count S (3 : Int32) Q := sp_rng (a := 0) (a' := 13) rfl rfl (by decide) (st_no (by decide) (st_no (by decide) (st_no (by decide) (st_yes rfl (sp_mask (by decide) hc.1 hq)))))
theorem cl_count4 (hc : CC S s) (hq : Q S (outS s.2.1 s.2.2)) : vc_X6_count S (4 : Int32) Q := sp_rng (a := 0) (a' := 13) rfl rfl (by decide) (st_no (by decide) (st_no (by decide) (st_no (by decide) (st_no (by decide) (st_yes rfl (sp_out (by decide) hc.1 hq))))))
theorem cl_count5 (hc : CC S s) (hq : Q S (meanV s.2.1 s.2.2)) : vc_X6_count S (5 : Int32) Q := sp_rng (a := 0) (a' := 13) rfl rfl (by decide) (st_no (by decide) (st_no (by decide) (st_no (by decide) (st_no (by decide) (st_no (by decide) (st_yes rfl (sp_mean (by decide) hc.1 hq)))))))
theorem cl_count6 (hc : CC S s) (hq : Q S (slopeV s.1 s.2.1 s.2.2)) : vc_X6_count S (6 : Int32) Q := sp_rng (a := 0) (a' := 13) rfl rfl (by decide) (st_no (by decide) (st_no (by decide) (st_no (by decide) (st_no (by decide) (st_no (by decide) (st_no (by decide) (st_yes rfl (sp_slope (by decide) hc.1 hq))))))))
theorem cl_count7 (hc : CC S s) (hq : ∀ S', FR S S' → CC S' s → Q S' (midV s.2.1 (-1) s.2.2)) : vc_X6_count S (7 : Int32) Q := sp_rng (a := 0) (a' := 13) rfl rfl (by decide) (st_no (by decide) (st_no (by decide) (st_no (by decide) (st_no (by decide) (st_no (by decide) (st_no (by decide) (st_no (by decide) (st_yes rfl (sp_mid (by decide) hc.1 fun S' hf => hq S' hf.P.fr (hc.now hf.P (hc.1.f08 hf)))))))))))
/-! rows -/
theorem pos_ne {x : Int32} (h : 1 ≤ x.toInt) : ¬ x = 0 := fun e => by
  rw [e] at h
  exact absurd h (by decide)
theorem cl_row0 {ρ : Nat} (hρ : ρ < 4) (hc : CC S s) (hq : Q S (s.1 (4 + ρ))) : vc_X6_row S (nI ρ) (0 : Int32) Q := by
  rw [← (hc.1.1.2.2.2.2.1 ρ hρ).1] at hq
  exact sp_cr hρ (sp_rng (a := 0) (a' := 3) rfl rfl (by decide) (st_yes rfl (sp_entry (by omega) (by omega) hq)))
theorem cl_row1 {ρ : Nat} (hρ : ρ < 4) (hc : CC S s) (hq : Q S (rowS s.2.1 (nI ρ) s.2.2)) : vc_X6_row S (nI ρ) (1 : Int32) Q := sp_cr hρ (sp_rng (a := 0) (a' := 3) rfl rfl (by decide) (st_no (by decide) (st_yes rfl (sp_row (by decide) hc.1 hq))))
theorem cl_row2 {ρ : Nat} (hρ : ρ < 4) (hw : WSs s) (hc : CC S s) (hq : Q S (s.1 (4 + ρ) - (s.1 0 - s.1 0 / s.1 (4 + ρ) * s.1 (4 + ρ)))) : vc_X6_row S (nI ρ) (2 : Int32) Q := by
  refine sp_cr hρ (sp_rng (a := 0) (a' := 3) rfl rfl (by decide) (st_no (by decide) (st_no (by decide) (st_yes rfl ?_))))
  unfold vc_X3_hoursUntilRead vc_X3_periodOf
  refine sp_entry (by omega) (by omega) (sp_entry (by omega) (by omega) ?_)
  rw [(hc.1.1.2.2.2.2.1 ρ hρ).1, hc.1.1.1]
  exact sp_rem (pos_ne (hw.1.2.2.2.2.1 ρ hρ).1) hq
theorem cl_row3 {ρ : Nat} (hρ : ρ < 4) (hc : CC S s) (hq : Q S (s.1 (8 + ρ))) : vc_X6_row S (nI ρ) (3 : Int32) Q := by
  rw [← (hc.1.1.2.2.2.2.1 ρ hρ).2] at hq
  exact sp_cr hρ (sp_rng (a := 0) (a' := 3) rfl rfl (by decide) (st_no (by decide) (st_no (by decide) (st_no (by decide) (sp_entry (by omega) (by omega) hq)))))
/-! a thermometer's answers -/
variable {i : Nat}
theorem cl_of {k : Nat} (hw : WSs s) (hi : i < s.2.2) (hk : k < 10) (hc : CC S s) (hq : Q S (numV (s.2.1 i) k)) : vc_X6_ofThermometer S (nI i) (nI k) Q := by
  have hn := hw.1.1
  have h9 : (9 : Int32).toInt = 9 := rfl
  have hkI := nI_toInt (n := k) (by omega)
  exact sp_ct hn hc.1 hi (sp_rng (a := 0) (a' := 9) rfl rfl (by omega) (sp_at (by omega) ⟨by omega, sp_num hk (hw.2 i hi).2.2.2.2.2.1 (hc.1.2.2 i hi) hq⟩))
theorem cl_rd0 {k : Nat} (hw : WSs s) (hi : i < s.2.2) (hk : k < 2 ^ 31) (hc : CC S s) (hq : Q S (ago (s.2.1 i) k 0)) : vc_X6_reading S (nI i) (nI k) (0 : Int32) Q := by
  have hn := hw.1.1
  obtain ⟨κ, hκ, h7, -⟩ := (hw.2 i hi).ne
  have hkI := nI_toInt (n := k) (by omega)
  exact sp_ct hn hc.1 hi (sp_nn (by omega) (sp_rng (a := 0) (a' := 1) rfl rfl (by decide) (sp_at (by omega) ⟨fun c => absurd rfl c, fun _ => ⟨by omega, sp_hourAgo h7 hκ (hc.1.2.2 i hi) hk hq⟩⟩)))
theorem cl_rd1 {k : Nat} (hw : WSs s) (hi : i < s.2.2) (hk : k < 2 ^ 31) (hc : CC S s) (hq : Q S (ago (s.2.1 i) k 1)) : vc_X6_reading S (nI i) (nI k) (1 : Int32) Q := by
  have hn := hw.1.1
  obtain ⟨κ, hκ, h7, -⟩ := (hw.2 i hi).ne
  have hkI := nI_toInt (n := k) (by omega)
  exact sp_ct hn hc.1 hi (sp_nn (by omega) (sp_rng (a := 0) (a' := 1) rfl rfl (by decide) (sp_at (by omega) ⟨fun _ => ⟨by omega, sp_valueAgo h7 hκ (hc.1.2.2 i hi) hk hq⟩, fun c => absurd c (by decide)⟩)))
theorem cl_ranked {kd x : Int32} (hkd : kd = 0 ∨ kd = 1) (hx : 0 ≤ x.toInt) (hc : CC S s) (hq : Q S (rkF kd s.1 s.2.1 s.2.2 x s.2.2 0)) : vc_X6_ranked S kd x Q := sp_rng (a := 0) (a' := 1) rfl rfl (by rcases hkd with rfl | rfl <;> decide) (sp_nn hx (sp_rank (by decide) hc.1 hq))
theorem cl_btw {x1 x2 : Int32} (hc : CC S s) (hq : Q S (nI (btN s.2.1 x1 x2 s.2.2))) : vc_X6_between S x1 x2 Q := sp_btw (by decide) hc.1 hq
theorem cl_ifLag {lag : Int32} (hw : WSs s) (hi : i < s.2.2) (hl : 1 ≤ lag.toInt ∧ lag.toInt ≤ 9) (hc : CC S s) (hq : Q S (mendB (s.2.1 i) lag)) : vc_X6_ifLag S (nI i) lag Q := by
  have hn := hw.1.1
  exact sp_ct hn hc.1 hi (sp_rng (a := 1) (a' := 9) rfl rfl hl (sp_at (by omega) ⟨by omega, sp_mendT (hw.2 i hi) (hc.1.2.2 i hi) hq⟩))
theorem cl_best (hw : WSs s) (hi : i < s.2.2) (hc : CC S s) (hq : Q S (nlV (s.2.1 i) (s.1 1))) : vc_X6_bestLag S (nI i) Q := by
  have hn := hw.1.1
  refine sp_ct hn hc.1 hi (sp_at (by omega) ⟨by omega, ?_⟩)
  rw [hc.1.1.2.1]
  exact sp_lag (hw.2 i hi) (hc.1.2.2 i hi) hq
theorem cl_still {N : Nat} (hw : WSs s) (hi : i < s.2.2) (hc : CC S s) (hN : N < 100000) (hz : (s.1 1 + s.2.1 i 2 - stF (s.2.1 i) (s.1 1) N) / s.2.1 i 1 = 0) (hnz : ∀ k, k < N → ¬ (s.1 1 + s.2.1 i 2 - stF (s.2.1 i) (s.1 1) k) / s.2.1 i 1 = 0) (hq : Q S (nI N)) : vc_X6_stillIn S (nI i) Q := by
  have hn := hw.1.1
  refine sp_ct hn hc.1 hi (sp_at (by omega) ⟨by omega, ?_⟩)
  rw [hc.1.1.2.1]
  exact sp_stl (lag_ne (hw.2 i hi)) (hc.1.2.2 i hi) hN hz hnz hq
end
def ctM (s : St) : Nat := btN s.2.1 (-2147483648) 2147483647 s.2.2
theorem btN_le (t : Ts) (x1 x2 : Int32) : ∀ i, btN t x1 x2 i ≤ i
  | 0 => Nat.le_refl 0
  | i + 1 => by
    have ih := btN_le t x1 x2 i
    show (if btP t x1 x2 i then btN t x1 x2 i + 1 else btN t x1 x2 i) ≤ i + 1
    split <;> omega
theorem cl_err {S : Mem} {s : St} {Q : Mem → UInt64 → Prop} (h6 : s.2.2 ≤ 6) (hc : CC S s) (hq : Q S (if ctM s = 0 then FP.dconst0 else FP.ddiv (FP.i2d (errS s.1 s.2.1 s.2.2)) (FP.i2d (nI (ctM s))))) : vc_X6_meanError S Q := by
  have hb := btN_le s.2.1 (-2147483648) 2147483647 s.2.2
  have hb : ctM s ≤ s.2.2 := hb
  refine sp_cnt (by decide) hc.1 ⟨fun c => sp_err (by decide) hc.1 ?_, fun c => ?_⟩
  · have h0 : ¬ ctM s = 0 := fun e => c (by show nI (ctM s) = 0; rw [e]; rfl)
    rw [if_neg h0] at hq
    exact ⟨fl_vf (fl_div (k := ctM s) _ (by omega) (by omega)), hq⟩
  · have h0 : ctM s = 0 := (nI_eq0 (by omega)).mp c
    rw [if_pos h0] at hq
    exact hq
/-! calls that change -/
section
variable {S : Mem} {s : St} {Q : Mem → Int32 → Prop}
theorem cl_add {x1 x2 x3 x4 : Int32} (h1 : ∃ ρ, ρ < 4 ∧ x1 = nI ρ) (h2 : 1 ≤ x2.toInt ∧ x2.toInt ≤ 9) (h3 : -200 ≤ x3.toInt ∧ x3.toInt ≤ 200) (h4 : 1 ≤ x4.toInt ∧ x4.toInt ≤ 5) (hw : WSs s) (hn : s.2.2 < 10) (hc : CC S s) (hq : ∀ S', FR S S' → CC S' (addS s x1 x2 x3 x4) → Q S' (nI s.2.2)) : vc_X6_thermometer S x1 x2 x3 x4 Q := by
  obtain ⟨ρ, hρ, rfl⟩ := h1
  refine sp_cr hρ (sp_rng (a := 1) (a' := 9) rfl rfl h2 (sp_rng (a := -200) (a' := 200) rfl rfl h3 (sp_rng (a := 1) (a' := 5) rfl rfl h4 (sp_room hn hc.1.n ⟨fun _ => hc.save hw fun S1 f1 c1 => sp_add (by decide) hn c1.1 fun S2 f2 p2 => ?_, fun c => absurd c (by decide)⟩))))
  exact hq S2 (f1.tr f2.fr) (c1.now f2 p2)
theorem cl_hour {x : Int32} (hx : -5000 ≤ x.toInt ∧ x.toInt ≤ 5000) (hw : WSs s) (h0 : (s.1 0).toInt ≤ 9998) (hc : CC S s) (hq : ∀ S', FR S S' → CC S' (pasG s.1 s.2.1 s.2.2 x, pasT s.1 s.2.1 s.2.2 x, s.2.2) → Q S' (pasN s.1 s.2.1 s.2.2 x)) : vc_X6_hour S x Q := by
  have h1 : (1 : Int32).toInt = 1 := rfl
  refine sp_rng (a := -5000) (a' := 5000) rfl rfl hx (sp_left (x := 1) hc.1.1.1 (by decide) (by omega) (hc.save hw fun S1 f1 c1 => sp_pass (by decide) hw (by omega) c1.1 fun S2 f2 p2 => ?_))
  exact hq S2 (f1.tr f2.fr) (c1.now (s' := (pasG s.1 s.2.1 s.2.2 x, pasT s.1 s.2.1 s.2.2 x, s.2.2)) f2 p2)
theorem cl_hours {N : Nat} {d : Int32} (hN : 1 ≤ N ∧ N ≤ 24) (hd : -500 ≤ d.toInt ∧ d.toInt ≤ 500) (hw : WSs s) (h0 : (s.1 0).toInt + N ≤ 9999) (hc : CC S s) (hq : ∀ S', FR S S' → CC S' ((hrs s.2.2 d s.1 s.2.1 N).1, (hrs s.2.2 d s.1 s.2.1 N).2, s.2.2) → Q S' ((hrs s.2.2 d s.1 s.2.1 N).1 1)) : vc_X6_hours S (nI N) d Q := by
  have hNI := nI_toInt (n := N) (by omega)
  refine sp_rng (a := 1) (a' := 24) rfl rfl (by omega) (sp_rng (a := -500) (a' := 500) rfl rfl hd (sp_left hc.1.1.1 (by omega) (by omega) (hc.save hw fun S1 f1 c1 => sp_hrs (by decide) (by omega) hw (by omega) c1.1 fun S2 f2 p2 => ?_)))
  rw [p2.1.2.1]
  exact hq S2 (f1.tr f2.fr) (c1.now (s' := ((hrs s.2.2 d s.1 s.2.1 N).1, (hrs s.2.2 d s.1 s.2.1 N).2, s.2.2)) f2 p2)
theorem cl_period {ρ : Nat} {x : Int32} (hρ : ρ < 4) (hx : 1 ≤ x.toInt ∧ x.toInt ≤ 6) (hw : WSs s) (hc : CC S s) (hq : ∀ S', FR S S' → CC S' (upd s.1 (4 + ρ) x, s.2.1, s.2.2) → Q S' (s.1 (4 + ρ))) : vc_X6_period S (nI ρ) x Q := by
  refine sp_cr hρ (sp_rng (a := 1) (a' := 6) rfl rfl hx (hc.save hw fun S1 f1 c1 => ?_))
  unfold vc_X3_periodOf
  refine sp_entry (by omega) (by omega) (sp_period hρ c1.1 fun S2 f2 p2 => ?_)
  rw [(c1.1.1.2.2.2.2.1 ρ hρ).1]
  exact hq S2 (f1.tr f2.fr) (c1.now (s' := (upd s.1 (4 + ρ) x, s.2.1, s.2.2)) f2 p2)
theorem cl_cal {i : Nat} (hi : i < s.2.2) (hw : WSs s) (hc : CC S s) (hq : ∀ S', FR S S' → CC S' (s.1, fun k => if k = i then calT (s.1 1) (s.2.1 i) else s.2.1 k, s.2.2) → Q S' (s.2.1 i 5)) : vc_X6_calibrate S (nI i) Q := by
  have hn := hw.1.1
  refine sp_ct hn hc.1 hi (hc.save hw fun S1 f1 c1 => sp_at (by omega) ⟨by omega, sp_at (by omega) ⟨by omega, ?_⟩⟩)
  have hT := c1.1.2.2 i hi
  rw [c1.1.1.2.1, hT.2.2.2.2.2.1]
  refine sp_cal hT fun S2 f2 t2 => hq S2 (f1.tr f2.P.fr) (c1.now (s' := (s.1, fun k => if k = i then calT (s.1 1) (s.2.1 i) else s.2.1 k, s.2.2)) f2.P (c1.1.one f2 t2))
theorem TR.shown {S S' : Mem} {P i : Nat} {t : Th} {x : Int32} (h : TR S P i t) (e : S' = uc S 5 P i (upd (S 5 P i) 7 x)) : TR S' P i (upd t 4 x) := by
  obtain ⟨a1, a2, a3, a4, a5, a6, a7, a8, a9, a10, a11⟩ := h
  have em : mended (upd t 4 x) = mended t := by
    unfold mended
    rw [pk_un (by decide), mendB_upd (by decide)]
  subst e
  unfold TR
  rw [em, uc_same, uc_t (by decide), uc_t (by decide), pk_us, pk_us]
  have hl : ∀ κ, upd t 4 x 7 = nI κ → κ ≤ 6 → ∀ k, k < κ → S 6 P i k = upd t 4 x (9 + 2 * k) ∧ S 7 P i k = upd t 4 x (10 + 2 * k) := fun κ e hκ k hk => by
    rw [pk_un (by decide)] at e
    rw [pk_un (by omega), pk_un (by omega)]
    exact a11 κ e hκ k hk
  refine ⟨?_, ?_, ?_, ?_, rfl, ?_, ?_, ?_, ?_, ?_, hl⟩
  all_goals first | (rw [pk_un (by decide), pk_un (by decide)]; assumption) | (rw [pk_un (by decide)]; assumption)
theorem cl_knock {i : Nat} {x : Int32} (hi : i < s.2.2) (hx : -3000 ≤ x.toInt ∧ x.toInt ≤ 3000) (hs : -20000 ≤ (s.2.1 i 4 + x).toInt ∧ (s.2.1 i 4 + x).toInt ≤ 20000) (hw : WSs s) (hc : CC S s) (hq : ∀ S', FR S S' → CC S' (s.1, fun k => if k = i then upd (s.2.1 i) 4 (s.2.1 i 4 + x) else s.2.1 k, s.2.2) → Q S' (s.2.1 i 4 + x + 100000)) : vc_X6_knock S (nI i) x Q := by
  have hn := hw.1.1
  have l1 : (20000 : Int32).toInt = 20000 := rfl
  have l2 : (-20000 : Int32).toInt = -20000 := rfl
  have hT := hc.1.2.2 i hi
  refine sp_ct hn hc.1 hi (sp_rng (a := -3000) (a' := 3000) rfl rfl hx (sp_at (by omega) ⟨by omega, ?_⟩))
  rw [hT.2.2.2.2.1]
  refine ⟨fun c => absurd (i_lt.mp c) (by omega), fun _ => ⟨fun _ => hc.save hw fun S1 f1 c1 => sp_at (by omega) ⟨by omega, fun S2 e2 => ?_⟩, fun c => absurd (i_le.mpr (by omega)) c⟩⟩
  have f2 : F5 0 i S1 S2 := by rw [e2]; exact F5.uc (Or.inl rfl) _ _
  exact hq S2 (f1.tr f2.P.fr) (c1.now (s' := (s.1, fun k => if k = i then upd (s.2.1 i) 4 (s.2.1 i 4 + x) else s.2.1 k, s.2.2)) f2.P (c1.1.one f2 ((c1.1.2.2 i hi).shown e2)))
theorem cl_set0 {x : Int32} (hx : 10 ≤ x.toInt ∧ x.toInt ≤ 2000) (hw : WSs s) (hc : CC S s) (hq : ∀ S', FR S S' → CC S' (upd s.1 2 x, s.2.1, s.2.2) → Q S' (s.1 2)) : vc_X6_set S 0 x Q := by
  unfold vc_X6_set vc_X6_set_J19 vc_X6_set_J30 vc_X6_set_J41 vc_X6_set_J76
  refine ⟨fun _ => ⟨fun c => absurd rfl c, fun _ => ⟨fun c => absurd rfl c, fun _ => sp_rng (a := 10) (a' := 2000) rfl rfl hx (hc.save hw fun S1 f1 c1 => ⟨fun c => absurd rfl c, fun _ => ⟨fun c => absurd rfl c, fun _ => fun S2 e2 => ?_⟩⟩)⟩⟩, fun c => absurd rfl c⟩
  have f2 : FrP 0 S1 S2 := by rw [e2]; exact FrP.uc (by decide) _ _
  obtain ⟨b1, b2, b3, b4, b5, b6, b7, b8, b9⟩ := c1.1.1
  rw [b3]
  refine hq S2 (f1.tr f2.fr) (c1.now (s' := (upd s.1 2 x, s.2.1, s.2.2)) f2 ?_)
  rw [e2]
  refine c1.1.set3 _ (upd s.1 2 x) ?_ (fun k h4 h12 => pk_un (by omega)) (pk_un (by decide))
  simp only [pk_us]
  refine ⟨?_, ?_, trivial, ?_, ?_, ?_, ?_, ?_⟩ <;> rw [pk_un (by decide), pk_un (by decide)] <;> assumption
theorem cl_set1 {x : Int32} (hx : 1 ≤ x.toInt ∧ x.toInt ≤ 5) (hw : WSs s) (hc : CC S s) (hq : ∀ S', FR S S' → CC S' (upd s.1 3 x, s.2.1, s.2.2) → Q S' (s.1 3)) : vc_X6_set S 1 x Q := by
  unfold vc_X6_set vc_X6_set_J19 vc_X6_set_J30 vc_X6_set_J41 vc_X6_set_J76
  refine ⟨fun c => absurd c (by decide), fun _ => ⟨fun _ => ⟨fun _ => ⟨fun _ => sp_rng (a := 1) (a' := 5) rfl rfl hx (hc.save hw fun S1 f1 c1 => ⟨fun _ => ⟨fun _ => fun S2 e2 => ?_, fun c => absurd c (by decide)⟩, fun c => absurd c (by decide)⟩), fun c => absurd c (by decide)⟩, fun c => absurd c (by decide)⟩, fun c => absurd rfl c⟩⟩
  have f2 : FrP 0 S1 S2 := by rw [e2]; exact FrP.uc (by decide) _ _
  obtain ⟨b1, b2, b3, b4, b5, b6, b7, b8, b9⟩ := c1.1.1
  rw [b4]
  refine hq S2 (f1.tr f2.fr) (c1.now (s' := (upd s.1 3 x, s.2.1, s.2.2)) f2 ?_)
  rw [e2]
  refine c1.1.set3 _ (upd s.1 3 x) ?_ (fun k h4 h12 => pk_un (by omega)) (pk_un (by decide))
  simp only [pk_us]
  refine ⟨?_, ?_, ?_, trivial, ?_, ?_, ?_, ?_⟩ <;> rw [pk_un (by decide), pk_un (by decide)] <;> assumption
/-! ifStill: hours on the trial, at place 1 -/
theorem cl_if {N : Nat} {k : Nat} {v : Int32} (hN : 1 ≤ N ∧ N ≤ 48) (hk : k < 4) (hw : WSs s) (h0 : (s.1 0).toInt + N ≤ 10100) (hc : CC S s) (hv : v = match k with
    | 0 => meanV (hrs s.2.2 0 s.1 s.2.1 N).2 s.2.2
    | 1 => outS (hrs s.2.2 0 s.1 s.2.1 N).2 s.2.2
    | 2 => (hrs s.2.2 0 s.1 s.2.1 N).1 13 - s.1 13
    | _ => dstS (hrs s.2.2 0 s.1 s.2.1 N).1 (hrs s.2.2 0 s.1 s.2.1 N).2 s.2.2) (hq : ∀ S', FR S S' → CC S' s → Q S' v) : vc_X6_ifStill S (nI N) (nI k) Q := by
  have hNI := nI_toInt (n := N) (by omega)
  have hkI := nI_toInt (n := k) (by omega)
  refine sp_rng (a := 1) (a' := 48) rfl rfl (by omega) (sp_rng (a := 0) (a' := 3) rfl rfl (by omega) (sp_copy (by decide) (by decide) (by decide) hw.six hc.1 fun S1 f1 p1 => sp_hrs (by decide) (by omega) hw (by omega) p1 fun S2 f2 p2 => ?_))
  have hf : FrP 1 S S2 := f1.tr f2
  have hc2 : CC S2 s := hc.aside hf
  have hq2 := hq S2 hf.fr hc2
  have e0 : S2 3 0 0 10 = s.1 13 := hc2.1.1.2.2.2.2.2.2.1
  have e1 : S2 3 1 0 10 = (hrs s.2.2 0 s.1 s.2.1 N).1 13 := p2.1.2.2.2.2.2.2.1
  rw [e0, e1]
  have hcs : k = 0 ∨ k = 1 ∨ k = 2 ∨ k = 3 := by omega
  rcases hcs with rfl | rfl | rfl | rfl
  · subst hv
    exact st_yes rfl (sp_mean (by decide) p2 hq2)
  · subst hv
    exact st_no (by decide) (st_yes rfl (sp_out (by decide) p2 hq2))
  · subst hv
    exact st_no (by decide) (st_no (by decide) (st_yes rfl hq2))
  · subst hv
    exact st_no (by decide) (st_no (by decide) (st_no (by decide) (sp_dst (by decide) p2 hq2)))
end
