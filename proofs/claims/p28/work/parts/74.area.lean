/-! areThermometers -/
theorem sh0 : ∀ i, i < 6 → (0 : Int32) <<< (nI i &&& 31) = 0 := by decide +kernel
theorem or0 (x : Int32) : x ||| 0 = x := by simp
theorem st_ne {A B : Prop} {x y : Int32} (h : x = y) (hB : B) : ((¬ x = y) → A) ∧ ((x = y) → B) := ⟨fun c => absurd h c, fun _ => hB⟩
theorem ago_k {t : Th} {κ k q : Nat} (h7 : t 7 = nI κ) (hκ : κ ≤ 6) (hk : k < κ) : ago t k q = t (9 + 2 * k + q) := by
  unfold ago
  rw [h7, if_neg (nI_ge hk (by omega))]
theorem ago_n {t : Th} {κ q : Nat} (h7 : t 7 = nI κ) (hκ : κ ≤ 6) : ago t κ q = -999999 := by
  unfold ago
  rw [h7, if_pos (nI_le (Nat.le_refl κ) (by omega))]
theorem btN_s {t : Ts} {i : Nat} : btN t (-2147483648) 2147483647 (i + 1) = if 0 < t i 7 then btN t (-2147483648) 2147483647 i + 1 else btN t (-2147483648) 2147483647 i := by
  show (if btP t (-2147483648) 2147483647 i then btN t (-2147483648) 2147483647 i + 1 else btN t (-2147483648) 2147483647 i) = _
  by_cases h : 0 < t i 7
  · rw [if_pos h, if_pos (bt_all h)]
  · rw [if_neg h, if_neg (fun hh => h hh.1)]
section
variable {Q : Mem → Int32 → Prop} {S : Mem} {s : St}
theorem lo_nums {K : Mem → Int32 → Int32 → Int32 → Int32 → Int32 → Int32 → Int32 → Prop} {y5 y6 y7 y8 : Int32} {i : Nat} (hc : CC S s) (hl : LR S 0 s.1 s.2.1 s.2.2) (hw : WSs s) (hi : i < s.2.2) (hK : K S y5 y6 y7 y8 1 (nI i) ((10 : Int32) * nI i)) : ∀ m k, k + m = 9 → vc_L_areThermometers_L60 Q K (m + 1) S y5 y6 y7 y8 1 (nI i) ((10 : Int32) * nI i) (nI k) := by
  intro m
  induction m with
  | zero =>
    intro k hk
    have e : k = 9 := by omega
    subst e
    rw [vc_L_areThermometers_L60]
    exact ⟨fun _ => hK, fun c => absurd (show (9 : Int32) ≤ nI 9 by decide) c⟩
  | succ m ih =>
    intro k hk
    have hi6 := hl.six hi
    rw [vc_L_areThermometers_L60, n10p, nI_clamp (by omega)]
    refine ⟨fun c => absurd c (nI_ge (b := 9) (by omega) (by decide)), fun _ => z_1 (cl_of hw hi (by omega) hc ⟨vp_in_nI (by omega) (by decide), ?_⟩)⟩
    refine st_ne ?_ ?_
    · rw [(hl.2.2 i hi).1 k (by omega)]
      unfold numV
      rw [if_neg (by omega)]
    · unfold vc_L_areThermometers_J95
      rw [← nI_succ]
      exact ih (k + 1) (by omega)
theorem lo_reads {K : Mem → Int32 → Int32 → Int32 → Int32 → Int32 → Int32 → Int32 → Prop} {y5 y6 y7 y8 : Int32} {i κ : Nat} (hc : CC S s) (hl : LR S 0 s.1 s.2.1 s.2.2) (hw : WSs s) (hi : i < s.2.2) (h7 : s.2.1 i 7 = nI κ) (hκ : κ ≤ 6) (hK : K S y5 y6 y7 y8 1 (nI i) ((10 : Int32) * nI i)) : ∀ m k, k + m = κ → vc_L_areThermometers_L156 Q K (m + 1) S y5 y6 y7 y8 1 (nI i) ((10 : Int32) * nI i) (nI k) := by
  have hi6 := hl.six hi
  have hT := hl.2.2 i hi
  intro m
  induction m with
  | zero =>
    intro k hk
    have e : k = κ := by omega
    subst e
    rw [vc_L_areThermometers_L156, tc_7 hi6, hT.1 7 (by decide), h7]
    exact ⟨tv_7 hi6, fun _ => hK, fun c => absurd (nI_le (Nat.le_refl k) (by omega)) c⟩
  | succ m ih =>
    intro k hk
    have hr := hT.2 κ h7 hκ k (by omega)
    rw [vc_L_areThermometers_L156, tc_7 hi6, hT.1 7 (by decide), h7, n6p, nI_clamp (by omega)]
    have v6 : vp_in (nI (6 * i + k)) 36 := vp_in_nI (by omega) (by decide)
    refine ⟨tv_7 hi6, fun c => absurd c (nI_ge (by omega) (by omega)), fun _ => z_1 (cl_rd0 hw hi (by omega) hc ⟨v6, st_ne ?_ (cl_rd1 hw hi (by omega) hc ⟨v6, st_ne ?_ ?_⟩)⟩)⟩
    · rw [ago_k h7 hκ (by omega), hr.1, Nat.add_zero]
    · rw [ago_k h7 hκ (by omega), hr.2, show 9 + 2 * k + 1 = 10 + 2 * k by omega]
    · unfold vc_L_areThermometers_J222
      rw [← nI_succ]
      exact ih (k + 1) (by omega)
theorem lo_areT {K : Mem → Int32 → Int32 → Int32 → Int32 → Int32 → Prop} (hc : CC S s) (hl : LR S 0 s.1 s.2.1 s.2.2) (hw : WSs s) (hK : K S (maskS s.2.1 s.2.2) (outS s.2.1 s.2.2) (errS s.1 s.2.1 s.2.2) (nI (ctM s)) 1) : ∀ m i, i + m = s.2.2 → vc_L_areThermometers_L35 Q K (m + 1) S (maskS s.2.1 i) (outS s.2.1 i) (errS s.1 s.2.1 i) (nI (btN s.2.1 (-2147483648) 2147483647 i)) 1 (nI i) := by
  intro m
  induction m with
  | zero =>
    intro i hi
    have e : i = s.2.2 := by omega
    subst e
    rw [vc_L_areThermometers_L35, nc_15, hl.n15]
    exact ⟨nv_15, fun _ => hK, fun c => absurd (n_le hl.1.1) c⟩
  | succ m ih =>
    intro i hi
    have hin : i < s.2.2 := by omega
    have hi6 := hl.six hin
    have hT := hl.2.2 i hin
    obtain ⟨κ, hκ, h7, -⟩ := (hw.2 i hin).ne
    have h6 := (hw.2 i hin).2.2.2.2.2.1
    have hs := ih (i + 1) (by omega)
    rw [nI_succ] at hs
    have hpos : 0 < s.2.1 i 7 ↔ ¬ nI κ ≤ 0 := by rw [h7]; exact Int32.not_le.symm
    -- what is added up
    have J3 : ∀ w : Int32, w = (if 0 < s.2.1 i 7 then 1 else 0) → vc_L_areThermometers_J319 Q (vc_L_areThermometers_L35 Q K (m + 1)) K S (maskS s.2.1 (i + 1)) (outS s.2.1 (i + 1)) (errS s.1 s.2.1 (i + 1)) 1 (nI i) (nI (btN s.2.1 (-2147483648) 2147483647 i)) w := by
      intro w ew
      unfold vc_L_areThermometers_J319
      have e : nI (btN s.2.1 (-2147483648) 2147483647 i) + w = nI (btN s.2.1 (-2147483648) 2147483647 (i + 1)) := by
        rw [btN_s, ew]
        by_cases c : 0 < s.2.1 i 7
        · rw [if_pos c, if_pos c, nI_succ]
        · rw [if_neg c, if_neg c, Int32.add_zero]
      rw [e]
      exact hs
    have J2 : ∀ w : Int32, errS s.1 s.2.1 i + w = errS s.1 s.2.1 (i + 1) → vc_L_areThermometers_J299 Q (vc_L_areThermometers_L35 Q K (m + 1)) K S (maskS s.2.1 (i + 1)) (outS s.2.1 (i + 1)) (nI (btN s.2.1 (-2147483648) 2147483647 i)) 1 (nI i) ((10 : Int32) * nI i) (errS s.1 s.2.1 i) w := by
      intro w ew
      unfold vc_L_areThermometers_J299
      rw [tc_7 hi6, hT.1 7 (by decide), h7, ew]
      exact ⟨tv_7 hi6, fun c => J3 0 (by rw [if_neg (fun hh => hpos.mp hh c)]), fun c => J3 1 (by rw [if_pos (hpos.mpr c)])⟩
    have J1 : ∀ w : Int32, maskS s.2.1 i ||| w = maskS s.2.1 (i + 1) → vc_L_areThermometers_J249 Q (vc_L_areThermometers_L35 Q K (m + 1)) K S (outS s.2.1 i) (errS s.1 s.2.1 i) (nI (btN s.2.1 (-2147483648) 2147483647 i)) 1 (nI i) ((10 : Int32) * nI i) (maskS s.2.1 i) w := by
      intro w ew
      unfold vc_L_areThermometers_J249
      have eo : outS s.2.1 i ||| (s.2.1 i 6 <<< (nI i &&& 31)) = outS s.2.1 (i + 1) := by
        show _ = if s.2.1 i 6 = 0 then outS s.2.1 i else outS s.2.1 i ||| ((1 : Int32) <<< (nI i &&& 31))
        rcases h6 with e | e
        · rw [e, if_pos rfl, sh0 i hi6, or0]
        · rw [e, if_neg (by decide)]
      rw [tc_6 hi6, tc_7 hi6, hT.1 6 (by decide), hT.1 7 (by decide), h7, ew, eo]
      refine ⟨tv_6 hi6, tv_7 hi6, fun c => J2 0 ?_, fun c => so_own hl hw hin ⟨nv_1, so_size ?_⟩⟩
      · rw [Int32.add_zero]
        exact (if_neg (fun hh => hpos.mp hh c)).symm
      · rw [nc_1, hl.2.1 1 (by decide)]
        exact J2 _ (if_pos (hpos.mpr c)).symm
    have J0 : vc_L_areThermometers_J151 Q (vc_L_areThermometers_L35 Q K (m + 1)) K S (maskS s.2.1 i) (outS s.2.1 i) (errS s.1 s.2.1 i) (nI (btN s.2.1 (-2147483648) 2147483647 i)) (nI i) ((10 : Int32) * nI i) 1 := by
      unfold vc_L_areThermometers_J151
      refine ⟨κ + 1, lo_reads hc hl hw hin h7 hκ (so_ask hl hin (z_if (fun ha => J1 _ ?_) (fun ha => J1 0 ?_))) κ 0 (by omega)⟩
      · exact (if_pos ha).symm
      · rw [or0]
        exact (if_neg ha).symm
    rw [vc_L_areThermometers_L35, nc_15, hl.n15]
    refine ⟨nv_15, fun c => absurd c (n_ge hl.1.1 hin), fun _ => z_1 ⟨10, lo_nums hc hl hw hin (z_1 ?_) 9 0 (by omega)⟩⟩
    refine cl_of (k := 9) hw hin (by decide) hc (so_own hl hw hin (st_ne rfl ?_))
    rw [tc_7 hi6, hT.1 7 (by decide), h7]
    exact ⟨tv_7 hi6, cl_rd0 hw hin (by omega) hc (st_ne (ago_n h7 hκ) J0)⟩
theorem so_areT (hc : CC S s) (hl : LR S 0 s.1 s.2.1 s.2.2) (hw : WSs s) (hq : Q S 1) : vc_L_areThermometers S Q := by
  have hn6 := hl.1.1
  refine cl_count1 hc ⟨nv_15, ?_⟩
  rw [nc_15, hl.n15]
  refine st_ne rfl ⟨s.2.2 + 1, lo_areT hc hl hw (z_1 (cl_count3 hc (st_ne rfl (cl_count4 hc (st_ne rfl (cl_err hn6 hc ?_)))))) s.2.2 0 (by omega)⟩
  have hb := btN_le s.2.1 (-2147483648) 2147483647 s.2.2
  have hb : ctM s ≤ s.2.2 := hb
  refine ⟨fun c => ?_, fun c => ?_⟩
  · have h0 : ¬ ctM s = 0 := fun e => c (by rw [e]; rfl)
    rw [if_neg h0]
    have hd := fl_div (k := ctM s) (errS s.1 s.2.1 s.2.2) (by omega) (by omega)
    exact ⟨fl_vf hd, st_ne (fl_cmp hd) hq⟩
  · have h0 : ctM s = 0 := (nI_eq0 (by omega)).mp c
    rw [if_pos h0]
    exact st_ne fl_cmp0 hq
end
