/-! the law's run: forty turns -/
theorem lo_init {K : Mem → Prop} {cf : Int32 → Int32} {t : Ts} : ∀ (m i : Nat) (S : Mem) (g : Gl), i + m = 4 → LR S 0 g t 0 → (∀ S', FL 0 S S' → LR S' 0 (fun k => if 4 + i ≤ k ∧ k < 8 then 1 else g k) t 0 → K S') → vc_L_law_L59 K cf (m + 1) S (nI i) := by
  intro m
  induction m with
  | zero =>
    intro i S g hi h hK
    have e : i = 4 := by omega
    subst e
    rw [vc_L_law_L59]
    exact ⟨fun _ => hK S (FL.rf 0 S) (h.cg (fun k _ => (if_neg (by omega)).symm) (fun _ _ => rfl)), fun c => absurd (show (4 : Int32) ≤ nI 4 by decide) c⟩
  | succ m ih =>
    intro i S g hi h hK
    rw [vc_L_law_L59, n4c (by omega)]
    refine ⟨fun c => absurd c (nI_ge (b := 4) (by omega) (by decide)), fun _ => ⟨n4v (by omega), fun S1 e => ?_⟩⟩
    obtain ⟨h1, f1⟩ := h.setn (by omega) e
    rw [← nI_succ]
    refine ih (i + 1) S1 _ (by omega) h1 (fun S' hf h' => hK S' (f1.tr hf) (h'.cg (fun k _ => ?_) (fun _ _ => rfl)))
    show (if 4 + (i + 1) ≤ k ∧ k < 8 then (1 : Int32) else upd g (4 + i) 1 k) = if 4 + i ≤ k ∧ k < 8 then 1 else g k
    by_cases c : k = 4 + i
    · rw [if_neg (by omega), if_pos (by omega), c, pk_us]
    · rw [pk_un c]
      by_cases c2 : 4 + (i + 1) ≤ k ∧ k < 8
      · rw [if_pos c2, if_pos (by omega)]
      · rw [if_neg c2, if_neg (by omega)]
def g00 : Gl := upd (upd (upd (upd (upd (upd (upd (upd (fun _ => 0) 1 1000) 2 300) 3 2) 14 (-999999)) 4 1) 5 1) 6 1) 7 1
def s00 : St := (g00, fun _ _ => 0, 0)
theorem four_c {p : Nat → Prop} (h0 : p 0) (h1 : p 1) (h2 : p 2) (h3 : p 3) : ∀ k, k < 4 → p k := fun k hk => by
  have hc : k = 0 ∨ k = 1 ∨ k = 2 ∨ k = 3 := by omega
  rcases hc with rfl | rfl | rfl | rfl <;> assumption
theorem CC00 : CC S0 s00 := by
  refine ⟨⟨⟨rfl, rfl, rfl, rfl, four_c ⟨rfl, rfl⟩ ⟨rfl, rfl⟩ ⟨rfl, rfl⟩ ⟨rfl, rfl⟩, rfl, rfl, rfl, rfl⟩, ⟨Nat.zero_le 10, rfl⟩, fun i hi => absurd hi (Nat.not_lt_zero i)⟩, 0, 0, fun _ => s00, ⟨by decide, by decide⟩, rfl, rfl, fun j hj => absurd hj (Nat.not_lt_zero j)⟩
theorem WS00 : WSs s00 := by
  refine ⟨⟨Nat.zero_le 10, rfl, ?_, ?_, ?_, ?_⟩, fun i hi => absurd hi (Nat.not_lt_zero i)⟩
  · show 0 ≤ (g00 0).toInt ∧ (g00 0).toInt ≤ 10100
    decide
  · show -5000 ≤ (g00 1).toInt ∧ (g00 1).toInt ≤ 5000
    decide
  · show ∀ k, k < 4 → 1 ≤ (g00 (4 + k)).toInt ∧ (g00 (4 + k)).toInt ≤ 6
    decide
  · show 0 ≤ (g00 12).toInt ∧ (g00 12).toInt ≤ 10 * (g00 0).toInt
    decide
theorem lo_turn (cf : Int32 → Int32) : ∀ (m r : Nat) (S : Mem) (s : St), r + m = 40 → RR (24 * (r : Int)) S s → 1 ≤ s.2.2 → vc_L_law_L130 cf (m + 1) S 1 (nI r) := by
  intro m
  induction m with
  | zero =>
    intro r S s hr h hn
    have e : r = 40 := by omega
    subst e
    rw [vc_L_law_L130]
    exact ⟨fun _ => rfl, fun c => absurd (show (40 : Int32) ≤ nI 40 by decide) c⟩
  | succ m ih =>
    intro r S s hr h hn
    rw [vc_L_law_L130]
    refine ⟨fun c => absurd c (nI_ge (b := 40) (by omega) (by decide)), fun _ => ⟨fun c => absurd c (by decide), fun _ => ⟨⟨1 + r, by omega, n1p r⟩, fun _ => ?_, fun _ => ?_⟩⟩⟩
    · refine so_low (m := 15) (by decide) (by decide) fun kd _ => so_acts (by omega) h hn fun S26 s26 h26 hn26 => z_1 (so_areT h26.1 h26.2.1 h26.2.2.1 (z_1 (so_areN h26.1 h26.2.1 h26.2.2.1 fun S32 f32 c32 => z_1 ?_)))
      have l32 := h26.2.1.fr f32
      have w32 := h26.2.2.1
      have b32 := h26.2.2.2
      have hB : (24 * (r : Int) + 24) = 24 * ((r + 1 : Nat) : Int) := by omega
      have nx : ∀ S', CC S' s26 → LR S' 0 s26.1 s26.2.1 s26.2.2 → vc_L_law_L130 cf (m + 1) S' 1 (nI r + 1) := fun S' c' l' => by
        rw [← nI_succ]
        exact ih (r + 1) S' s26 (by omega) ⟨c', l', w32, by rw [← hB]; exact b32⟩ (by omega)
      refine so_low (m := 2) (by decide) (by decide) fun a ha => so_low (m := 6000) (by decide) (by decide) fun _ _ => so_low (m := 6000) (by decide) (by decide) fun _ _ => so_areR ?_ c32 l32 w32 (z_1 ⟨nv_15, ?_⟩)
      · have ha' : a = 0 ∨ a = 1 := by omega
        rcases ha' with rfl | rfl
        · exact Or.inl rfl
        · exact Or.inr rfl
      rw [nc_15, l32.n15]
      refine so_low (m := s26.2.2) (by omega) (by have := l32.1.1; omega) fun i hi => so_one c32 l32 w32 hi (z_1 ⟨by decide, fun _ => nx S32 c32 l32, fun _ => so_low (m := 48) (by decide) (by decide) fun h hh => ?_⟩)
      rw [n1p]
      exact so_would (N := 1 + h) (by omega) c32 l32 w32 (by omega) fun S' c' l' => z_1 (nx S' c' l')
    · refine so_acts (by omega) h hn fun S26 s26 h26 hn26 => z_1 (so_areT h26.1 h26.2.1 h26.2.2.1 (z_1 (so_areN h26.1 h26.2.1 h26.2.2.1 fun S32 f32 c32 => z_1 ?_)))
      have l32 := h26.2.1.fr f32
      have w32 := h26.2.2.1
      have b32 := h26.2.2.2
      have hB : (24 * (r : Int) + 24) = 24 * ((r + 1 : Nat) : Int) := by omega
      have nx : ∀ S', CC S' s26 → LR S' 0 s26.1 s26.2.1 s26.2.2 → vc_L_law_L130 cf (m + 1) S' 1 (nI r + 1) := fun S' c' l' => by
        rw [← nI_succ]
        exact ih (r + 1) S' s26 (by omega) ⟨c', l', w32, by rw [← hB]; exact b32⟩ (by omega)
      refine so_low (m := 2) (by decide) (by decide) fun a ha => so_low (m := 6000) (by decide) (by decide) fun _ _ => so_low (m := 6000) (by decide) (by decide) fun _ _ => so_areR ?_ c32 l32 w32 (z_1 ⟨nv_15, ?_⟩)
      · have ha' : a = 0 ∨ a = 1 := by omega
        rcases ha' with rfl | rfl
        · exact Or.inl rfl
        · exact Or.inr rfl
      rw [nc_15, l32.n15]
      refine so_low (m := s26.2.2) (by omega) (by have := l32.1.1; omega) fun i hi => so_one c32 l32 w32 hi (z_1 ⟨by decide, fun _ => nx S32 c32 l32, fun _ => so_low (m := 48) (by decide) (by decide) fun h hh => ?_⟩)
      rw [n1p]
      exact so_would (N := 1 + h) (by omega) c32 l32 w32 (by omega) fun S' c' l' => z_1 (nx S' c' l')
theorem hpure_all (cf : Int32 → Int32) : vc_L_law cf S0 := by
  have l0 : LR S0 0 (fun _ => 0) (fun _ _ => 0) 0 := ⟨⟨Nat.zero_le 6, rfl⟩, fun _ _ => rfl, fun i hi => absurd hi (Nat.not_lt_zero i)⟩
  unfold vc_L_law
  refine ⟨nv_1, fun S1 e1 => ⟨nv_2, fun S4 e4 => ⟨nv_3, fun S7 e7 => ⟨nv_14, fun S10 e10 => ?_⟩⟩⟩⟩
  rw [nc_1] at e1
  rw [nc_2] at e4
  rw [nc_3] at e7
  rw [nc_14] at e10
  obtain ⟨l1, f1⟩ := l0.setn (by decide) e1
  obtain ⟨l4, f4⟩ := l1.setn (by decide) e4
  obtain ⟨l7, f7⟩ := l4.setn (by decide) e7
  obtain ⟨l10, f10⟩ := l7.setn (by decide) e10
  refine ⟨5, lo_init 4 0 S10 _ rfl l10 fun S17 f17 l17 => ?_⟩
  have c17 : CC S17 s00 := CC00.fc ((((f1.tr f4).tr f7).tr f10).tr f17).fc
  have l17' : LR S17 0 s00.1 s00.2.1 s00.2.2 := l17.cg (by
    show ∀ k, k < 16 → (if 4 + 0 ≤ k ∧ k < 8 then (1 : Int32) else upd (upd (upd (upd (fun _ => 0) 1 1000) 2 300) 3 2) 14 (-999999) k) = g00 k
    decide) (fun _ _ => rfl)
  refine so_areT c17 l17' WS00 (z_1 (so_areN c17 l17' WS00 fun S89 f89 c89 => z_1 ⟨⟨0, by decide, rfl⟩, ?_⟩))
  refine so_adds (B := 24 * ((0 : Nat) : Int)) (by decide) ⟨c89, l17'.fr f89, WS00, by show (g00 0).toInt ≤ _; decide⟩ fun S92 s1 h1 hn1 => z_1 ⟨41, by decide, lo_turn cf 40 0 S92 s1 rfl h1 hn1.2⟩
