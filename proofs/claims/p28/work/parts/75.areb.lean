/-! areNumbers -/
section
variable {Q : Mem → Int32 → Prop} {S : Mem} {s : St}
theorem lo_next {K : Mem → Int32 → Int32 → Int32 → Int32 → Prop} {ρ a q : Nat} {y6 y8 : Int32} (hl : LR S 0 s.1 s.2.1 s.2.2) (hρ : ρ < 4) (ha : s.1 0 = nI a) (ha2 : a < 20000) (hq : s.1 (4 + ρ) = nI q) (hq1 : 1 ≤ q ∧ q ≤ 6) (hK : K S y6 (nI ρ) y8 (nI (q - a % q))) : ∀ m j, j + m = q - a % q → 1 ≤ j → vc_L_areNumbers_L177 Q K (m + 1) S y6 (nI ρ) y8 (nI j) := by
  have hmod : a % q < q := Nat.mod_lt _ (by omega)
  have e0 : S 18 0 0 0 = nI a := (hl.2.1 0 (by decide)).trans ha
  have e4 : S 18 0 0 (4 + ρ) = nI q := (hl.2.1 (4 + ρ) (by omega)).trans hq
  intro m
  induction m with
  | zero =>
    intro j hj h1
    have ej : j = q - a % q := by omega
    rw [vc_L_areNumbers_L177, nc_0, n4c (by omega), e0, e4, nI_add, pk_rem (by omega) (by omega) (by omega)]
    refine ⟨nv_0, n4v (by omega), nI_ne0 (by omega) (by omega), fun _ => by rw [ej]; exact hK, fun c => absurd ?_ c⟩
    have : (a + j) % q = 0 := by
      rw [ej]
      have hc : q = 1 ∨ q = 2 ∨ q = 3 ∨ q = 4 ∨ q = 5 ∨ q = 6 := by omega
      rcases hc with rfl | rfl | rfl | rfl | rfl | rfl <;> omega
    rw [this]
    decide
  | succ m ih =>
    intro j hj h1
    rw [vc_L_areNumbers_L177, nc_0, n4c (by omega), e0, e4, nI_add, pk_rem (by omega) (by omega) (by omega)]
    have : 0 < (a + j) % q ∧ (a + j) % q < q := by
      refine ⟨?_, Nat.mod_lt _ (by omega)⟩
      have hc : q = 1 ∨ q = 2 ∨ q = 3 ∨ q = 4 ∨ q = 5 ∨ q = 6 := by omega
      rcases hc with rfl | rfl | rfl | rfl | rfl | rfl <;> omega
    refine ⟨nv_0, n4v (by omega), nI_ne0 (by omega) (by omega), fun c => absurd c (nI_nle this.1 (by omega)), fun _ => ?_⟩
    rw [← nI_succ]
    exact ih (j + 1) (by omega) (by omega)
theorem lo_cntr {K : Mem → Int32 → Int32 → Int32 → Int32 → Prop} {ρ : Nat} {y6 y9 : Int32} (hl : LR S 0 s.1 s.2.1 s.2.2) (hK : K S y6 (nI ρ) (rowS s.2.1 (nI ρ) s.2.2) y9) : ∀ m i, i + m = s.2.2 → vc_L_areNumbers_L204 Q K (m + 1) S y6 (nI ρ) (rowS s.2.1 (nI ρ) i) y9 (nI i) := by
  intro m
  induction m with
  | zero =>
    intro i hi
    have e : i = s.2.2 := by omega
    subst e
    rw [vc_L_areNumbers_L204, nc_15, hl.n15]
    exact ⟨nv_15, fun _ => hK, fun c => absurd (n_le hl.1.1) c⟩
  | succ m ih =>
    intro i hi
    have hin : i < s.2.2 := by omega
    have hi6 := hl.six hin
    have hs := ih (i + 1) (by omega)
    rw [nI_succ] at hs
    have er : rowS s.2.1 (nI ρ) (i + 1) = if s.2.1 i 0 = nI ρ then rowS s.2.1 (nI ρ) i + 1 else rowS s.2.1 (nI ρ) i := rfl
    have e0 : S 15 0 0 (10 * i) = s.2.1 i 0 := (hl.2.2 i hin).1 0 (by decide)
    rw [vc_L_areNumbers_L204, nc_15, hl.n15, tc_0 hi6, e0]
    refine ⟨nv_15, fun c => absurd c (n_ge hl.1.1 hin), fun _ => ⟨tv_0 hi6, fun c => ?_, fun c => ?_⟩⟩
    · rw [er, if_neg c] at hs
      unfold vc_L_areNumbers_J233
      rw [Int32.add_zero]
      exact hs
    · rw [er, if_pos c] at hs
      unfold vc_L_areNumbers_J233
      exact hs
theorem next_v {a q : Nat} (hq1 : 1 ≤ q ∧ q ≤ 6) (ha : a < 20000) : nI q - (nI a - nI a / nI q * nI q) = nI (q - a % q) := by
  have hmod : a % q < q := Nat.mod_lt _ (by omega)
  rw [pk_rem (by omega) (by omega) (by omega), pk_sub (by omega)]
theorem lo_lines (hc : CC S s) (hl : LR S 0 s.1 s.2.1 s.2.2) (hw : WSs s) {K : Mem → Int32 → Prop} (hK : K S 1) : ∀ m ρ, ρ + m = 4 → vc_L_areNumbers_L165 Q K (m + 1) S 1 (nI ρ) := by
  intro m
  induction m with
  | zero =>
    intro ρ hρ
    have e : ρ = 4 := by omega
    subst e
    rw [vc_L_areNumbers_L165]
    exact ⟨fun _ => hK, fun c => absurd (show (4 : Int32) ≤ nI 4 by decide) c⟩
  | succ m ih =>
    intro ρ hρ
    have hρ4 : ρ < 4 := by omega
    obtain ⟨a, ha, ea⟩ := i_nn hw.1.2.2.1.1
    have ha2 : a < 20000 := by
      have := hw.1.2.2.1.2
      rw [ea, nI_toInt ha] at this
      omega
    have hb := hw.1.2.2.2.2.1 ρ hρ4
    obtain ⟨q, hq, eq⟩ := i_nn (x := s.1 (4 + ρ)) (by omega)
    rw [eq, nI_toInt hq] at hb
    have hmod : a % q < q := Nat.mod_lt _ (by omega)
    rw [vc_L_areNumbers_L165]
    refine ⟨fun c => absurd c (nI_ge (b := 4) hρ4 (by decide)), fun _ => ⟨q - a % q - 1 + 1, lo_next hl hρ4 ea ha2 eq (by omega) ⟨s.2.2 + 1, lo_cntr hl (z_1 ?_) s.2.2 0 (by omega)⟩ (q - a % q - 1) 1 (by omega) (by omega)⟩⟩
    rw [n4c (by omega), n8c (by omega)]
    refine cl_row0 hρ4 hc ⟨n4v (by omega), st_ne (hl.2.1 (4 + ρ) (by omega)).symm (cl_row1 hρ4 hc (st_ne rfl (cl_row2 hρ4 hw hc (st_ne ?_ (cl_row3 hρ4 hc ⟨n8v (by omega), st_ne (hl.2.1 (8 + ρ) (by omega)).symm ?_⟩)))))⟩
    · rw [ea, eq]
      exact next_v (by omega) ha2
    · unfold vc_L_areNumbers_J311
      rw [← nI_succ]
      exact ih (ρ + 1) (by omega)
theorem so_areN (hc : CC S s) (hl : LR S 0 s.1 s.2.1 s.2.2) (hw : WSs s) (hq : ∀ S', FR S S' → CC S' s → Q S' 1) : vc_L_areNumbers S Q := by
  have J80 : ∀ w0 w1 : Int32, w0 = w1 → vc_L_areNumbers_J80 Q S w0 w1 := by
    intro w0 w1 ew
    unfold vc_L_areNumbers_J80
    refine st_ne ew (cl_count7 hc fun S1 f1 c1 => ?_)
    have l1 := hl.fr f1
    refine so_middle l1 hw (st_ne rfl (cl_count8 c1 ⟨nv_12, ?_⟩))
    rw [nc_12, l1.2.1 12 (by decide)]
    refine st_ne rfl (cl_count9 c1 ⟨nv_13, ?_⟩)
    rw [nc_13, l1.2.1 13 (by decide)]
    refine st_ne rfl (cl_count12 c1 ⟨nv_2, ?_⟩)
    rw [nc_2, l1.2.1 2 (by decide)]
    refine st_ne rfl (cl_count13 c1 ⟨nv_3, ?_⟩)
    rw [nc_3, l1.2.1 3 (by decide)]
    refine st_ne rfl ?_
    unfold vc_L_areNumbers_J160
    exact ⟨5, lo_lines c1 l1 hw ⟨Or.inr rfl, hq S1 f1 c1⟩ 4 0 (by omega)⟩
  refine so_mean hl hw (cl_count0 hc ⟨nv_0, ?_⟩)
  rw [nc_0, hl.2.1 0 (by decide)]
  refine st_ne rfl (cl_count2 hc ⟨nv_1, ?_⟩)
  rw [nc_1, hl.2.1 1 (by decide)]
  refine st_ne rfl (cl_count5 hc (st_ne rfl (cl_count6 hc ?_)))
  rw [nc_14, hl.2.1 14 (by decide)]
  unfold vc_L_areNumbers_J67
  refine ⟨fun c => J80 _ _ ?_, fun c => ⟨nv_14, fun c2 => ⟨nv_14, J80 _ _ ?_⟩, fun c2 => J80 _ _ ?_⟩⟩
  · unfold slopeV
    rw [if_pos (Or.inl c)]
  · unfold slopeV
    rw [if_neg (fun hh => hh.elim c c2)]
  · unfold slopeV
    rw [if_pos (Or.inr c2)]
end
