/-! the law's hour: stores, the lines, the readings -/
theorem LR.cg {S : Mem} {P n : Nat} {g g' : Gl} {t t' : Ts} (hg : ∀ k, k < 16 → g k = g' k) (ht : ∀ i, i < n → t i = t' i) (h : LR S P g t n) : LR S P g' t' n := ⟨⟨h.1.1, by rw [← hg 15 (by decide)]; exact h.1.2⟩, fun j hj => (h.2.1 j hj).trans (hg j hj), fun i hi => by rw [← ht i hi]; exact h.2.2 i hi⟩
theorem LT.eqs {S S' : Mem} {P i : Nat} {t : Th} (h5 : S' 15 P 0 = S 15 P 0) (h6 : S' 16 P 0 = S 16 P 0) (h7 : S' 17 P 0 = S 17 P 0) (h : LT S P i t) : LT S' P i t := by
  unfold LT
  rw [h5, h6, h7]
  exact h
theorem LR.eqs {S S' : Mem} {P n : Nat} {g : Gl} {t : Ts} (h5 : S' 15 P 0 = S 15 P 0) (h6 : S' 16 P 0 = S 16 P 0) (h7 : S' 17 P 0 = S 17 P 0) (h8 : S' 18 P 0 = S 18 P 0) (h : LR S P g t n) : LR S' P g t n := ⟨h.1, fun j hj => by rw [h8]; exact h.2.1 j hj, fun i hi => (h.2.2 i hi).eqs h5 h6 h7⟩
theorem LR.setn {S S' : Mem} {P n k : Nat} {g : Gl} {t : Ts} {x : Int32} (hk : k < 15) (h : LR S P g t n) (e : S' = uc S 18 P 0 (upd (S 18 P 0) k x)) : LR S' P (upd g k x) t n ∧ FL P S S' := by
  subst e
  refine ⟨⟨⟨h.1.1, ?_⟩, fun j hj => ?_, fun i hi => ?_⟩, FL.uc (by decide) _ _⟩
  · rw [pk_un (by omega)]; exact h.1.2
  · rw [uc_same]
    by_cases c : j = k
    · subst c; rw [pk_us, pk_us]
    · rw [pk_un c, pk_un c]; exact h.2.1 j hj
  · exact (h.2.2 i hi).eqs (uc_t (by decide)) (uc_t (by decide)) (uc_t (by decide))
/-- nothing but the numbers and the readings of thermometer i has changed -/
def F6 (P i : Nat) (S S' : Mem) : Prop := (∀ j, ¬ (10 * i ≤ j ∧ j < 10 * i + 10) → S' 15 P 0 j = S 15 P 0 j) ∧ (∀ j, ¬ (6 * i ≤ j ∧ j < 6 * i + 6) → S' 16 P 0 j = S 16 P 0 j ∧ S' 17 P 0 j = S 17 P 0 j) ∧ ∀ t P' i', ¬ ((t = 15 ∨ t = 16 ∨ t = 17) ∧ P' = P ∧ i' = 0) → S' t P' i' = S t P' i'
theorem F6.rf (P i : Nat) (S : Mem) : F6 P i S S := ⟨fun _ _ => rfl, fun _ _ => ⟨rfl, rfl⟩, fun _ _ _ _ => rfl⟩
theorem F6.tr {P i : Nat} {S S' S'' : Mem} (h : F6 P i S S') (h2 : F6 P i S' S'') : F6 P i S S'' := ⟨fun j hj => (h2.1 j hj).trans (h.1 j hj), fun j hj => ⟨(h2.2.1 j hj).1.trans (h.2.1 j hj).1, (h2.2.1 j hj).2.trans (h.2.1 j hj).2⟩, fun t P' i' hn => (h2.2.2 t P' i' hn).trans (h.2.2 t P' i' hn)⟩
theorem F6.fl {P i : Nat} {S S' : Mem} (h : F6 P i S S') : FL P S S' := fun t P' i' hn => h.2.2 t P' i' (fun hh => hn ⟨by omega, hh.2.1⟩)
theorem F6.u5 {P i k : Nat} {S S' : Mem} {x : Int32} (hk : k < 10) (e : S' = uc S 15 P 0 (upd (S 15 P 0) (10 * i + k) x)) : F6 P i S S' := by
  subst e
  refine ⟨fun j hj => ?_, fun j _ => ⟨by rw [uc_t (by decide)], by rw [uc_t (by decide)]⟩, fun t P' i' hn => uc_ne (fun hh => hn ⟨Or.inl hh.1, hh.2⟩)⟩
  rw [uc_same, pk_un (by omega)]
theorem F6.u6 {P i k : Nat} {S S' : Mem} {x : Int32} (hk : k < 6) (e : S' = uc S 16 P 0 (upd (S 16 P 0) (6 * i + k) x)) : F6 P i S S' := by
  subst e
  refine ⟨fun j _ => by rw [uc_t (by decide)], fun j hj => ⟨by rw [uc_same, pk_un (by omega)], by rw [uc_t (by decide)]⟩, fun t P' i' hn => uc_ne (fun hh => hn ⟨Or.inr (Or.inl hh.1), hh.2⟩)⟩
theorem F6.u7 {P i k : Nat} {S S' : Mem} {x : Int32} (hk : k < 6) (e : S' = uc S 17 P 0 (upd (S 17 P 0) (6 * i + k) x)) : F6 P i S S' := by
  subst e
  refine ⟨fun j _ => by rw [uc_t (by decide)], fun j hj => ⟨by rw [uc_t (by decide)], by rw [uc_same, pk_un (by omega)]⟩, fun t P' i' hn => uc_ne (fun hh => hn ⟨Or.inr (Or.inr hh.1), hh.2⟩)⟩
theorem LR.one {S S' : Mem} {P n i : Nat} {g : Gl} {t : Ts} {ti : Th} (h : LR S P g t n) (hf : F6 P i S S') (hT : i < n → LT S' P i ti) : LR S' P g (fun k => if k = i then ti else t k) n := by
  refine ⟨h.1, fun j hj => by rw [hf.2.2 18 P 0 (by omega)]; exact h.2.1 j hj, fun k hk => ?_⟩
  show LT S' P k (if k = i then ti else t k)
  by_cases c : k = i
  · subst c
    rw [if_pos rfl]
    exact hT hk
  · rw [if_neg c]
    obtain ⟨a, b⟩ := h.2.2 k hk
    refine ⟨fun j hj => ?_, fun κ e hκ q hq => ?_⟩
    · rw [hf.1 _ (by omega)]
      exact a j hj
    · have := hf.2.1 (6 * k + q) (by omega)
      rw [this.1, this.2]
      exact b κ e hκ q hq
theorem LT.set {S S' : Mem} {P i j : Nat} {t : Th} {x : Int32} (hj : j < 9) (h7 : j ≠ 7) (h : LT S P i t) (e : S' = uc S 15 P 0 (upd (S 15 P 0) (10 * i + j) x)) : LT S' P i (upd t j x) := by
  subst e
  refine ⟨fun k hk => ?_, fun κ e hκ q hq => ?_⟩
  · rw [uc_same]
    by_cases c : k = j
    · subst c; rw [pk_us, pk_us]
    · rw [pk_un (by omega), pk_un c]; exact h.1 k hk
  · rw [pk_un (by omega)] at e
    rw [uc_t (by decide), uc_t (by decide), pk_un (by omega), pk_un (by omega)]
    exact h.2 κ e hκ q hq
/-- the scratch number of a thermometer is no part of it -/
theorem LT.set9 {S S' : Mem} {P i : Nat} {t : Th} {x : Int32} (h : LT S P i t) (e : S' = uc S 15 P 0 (upd (S 15 P 0) (10 * i + 9) x)) : LT S' P i t := by
  subst e
  refine ⟨fun k hk => ?_, fun κ e hκ q hq => ?_⟩
  · rw [uc_same, pk_un (by omega)]; exact h.1 k hk
  · rw [uc_t (by decide), uc_t (by decide)]
    exact h.2 κ e hκ q hq
theorem lo_tick {Q : Mem → Int32 → Prop} {K : Mem → Int32 → Prop} {P n : Nat} {g : Gl} {t : Ts} {x4 y5 : Int32} (hp : ∀ k, k < 4 → ¬ g (4 + k) = 0) : ∀ (m i : Nat) (S : Mem), i + m = 4 → LR S P (tickG g i) t n → (∀ S', FL P S S' → LR S' P (tickG g 4) t n → K S' y5) → vc_L_hour_L29 Q K P x4 (m + 1) S y5 (nI i) := by
  intro m
  induction m with
  | zero =>
    intro i S hi h hK
    have e : i = 4 := by omega
    subst e
    rw [vc_L_hour_L29]
    exact ⟨fun _ => hK S (FL.rf P S) h, fun c => absurd (show (4 : Int32) ≤ nI 4 by decide) c⟩
  | succ m ih =>
    intro i S hi h hK
    have hi4 : i < 4 := by omega
    have e0 : S 18 P 0 0 = g 0 := (h.2.1 0 (by decide)).trans (tickG_k (by omega) (by omega))
    have e4 : S 18 P 0 (4 + i) = g (4 + i) := (h.2.1 (4 + i) (by omega)).trans (tickG_k (by omega) (by omega))
    have e8 : S 18 P 0 (8 + i) = g (8 + i) := (h.2.1 (8 + i) (by omega)).trans (if_neg (by omega))
    have hd : dueT g (nI i) ↔ g 0 - g 0 / g (4 + i) * g (4 + i) = 0 := by
      unfold dueT
      rw [nI_clamp (by omega)]
    have J : ∀ w : Int32, g (8 + i) + w = (if dueT g (nI i) then g (8 + i) + 1 else g (8 + i)) → vc_L_hour_J61 Q (vc_L_hour_L29 Q K P x4 (m + 1)) K P x4 S y5 (nI i) ((8 : Int32) + nI i) (g (8 + i)) w := by
      intro w ew
      unfold vc_L_hour_J61
      refine ⟨n8v (by omega), fun S1 e1 => ?_⟩
      rw [n8c (by omega), ew] at e1
      obtain ⟨h1, f1⟩ := h.setn (by omega) e1
      rw [← nI_succ]
      refine ih (i + 1) S1 (by omega) (h1.cg (fun k hk => ?_) (fun _ _ => rfl)) (fun S' hf h' => hK S' (f1.tr hf) h')
      by_cases c : k = 8 + i
      · subst c
        rw [pk_us]
        unfold tickG
        rw [show 8 + i - 8 = i by omega]
        by_cases cd : dueT g (nI i)
        · rw [if_pos cd, if_pos ⟨by omega, by omega, cd⟩]
        · rw [if_neg cd, if_neg (fun hh => cd hh.2.2)]
      · rw [pk_un c]
        unfold tickG
        by_cases cd : 8 ≤ k ∧ k < 8 + i ∧ dueT g (nI (k - 8))
        · rw [if_pos cd, if_pos ⟨cd.1, by omega, cd.2.2⟩]
        · rw [if_neg cd, if_neg (fun hh => cd ⟨hh.1, by omega, hh.2.2⟩)]
    rw [vc_L_hour_L29, nc_0, n4c (by omega), n8c (by omega), e0, e4, e8]
    refine ⟨fun c => absurd c (nI_ge (b := 4) hi4 (by decide)), fun _ => ⟨n8v (by omega), nv_0, n4v (by omega), hp i hi4, fun c => J 0 ?_, fun c => J 1 ?_⟩⟩
    · rw [if_neg (fun hh => c (hd.mp hh)), Int32.add_zero]
    · rw [if_pos (hd.mpr c)]
theorem lo_shift {Q : Mem → Int32 → Prop} {K : Mem → Int32 → Int32 → Int32 → Prop} {P i : Nat} {x4 y5 y7 : Int32} (hi : i < 6) : ∀ (m : Nat) (S : Mem), m < 6 → (∀ S', (∀ j, S' 16 P 0 j = if 6 * i + 1 ≤ j ∧ j ≤ 6 * i + m then S 16 P 0 (j - 1) else S 16 P 0 j) → (∀ j, S' 17 P 0 j = if 6 * i + 1 ≤ j ∧ j ≤ 6 * i + m then S 17 P 0 (j - 1) else S 17 P 0 j) → (∀ t P' i', ¬ ((t = 16 ∨ t = 17) ∧ P' = P ∧ i' = 0) → S' t P' i' = S t P' i') → K S' y5 (nI i) y7) → vc_L_hour_L122 Q K P x4 (m + 1) S y5 (nI i) y7 (nI m)
  | 0, S, hm, hK => by
    rw [vc_L_hour_L122]
    exact ⟨fun _ => hK S (fun j => (if_neg (by omega)).symm) (fun j => (if_neg (by omega)).symm) (fun _ _ _ _ => rfl), fun c => absurd (show nI 0 ≤ 0 by decide) c⟩
  | m + 1, S, hm, hK => by
    have e1 : (6 : Int32) * nI i + nI (m + 1) = nI (6 * i + m + 1) := n6p i (m + 1)
    have e2 : nI (6 * i + m + 1) - 1 = nI (6 * i + m) := nI_m1 (6 * i + m)
    rw [vc_L_hour_L122, e1, e2, nI_clamp (by omega), nI_clamp (by omega), pk_m1]
    have v1 : vp_in (nI (6 * i + m)) 36 := vp_in_nI (by omega) (by decide)
    have v2 : vp_in (nI (6 * i + m + 1)) 36 := vp_in_nI (by omega) (by decide)
    refine ⟨fun c => absurd c (nI_nle (by omega) (by omega)), fun _ => ⟨v1, v2, fun S1 e3 => ⟨v1, v2, fun S2 e4 => ?_⟩⟩⟩
    have a16 : ∀ j, S2 16 P 0 j = if j = 6 * i + m + 1 then S 16 P 0 (6 * i + m) else S 16 P 0 j := fun j => by
      rw [e4, uc_t (by decide), e3, uc_same]; rfl
    have a17 : ∀ j, S2 17 P 0 j = if j = 6 * i + m + 1 then S 17 P 0 (6 * i + m) else S 17 P 0 j := fun j => by
      rw [e4, uc_same, e3, uc_t (by decide)]; rfl
    refine lo_shift hi m S2 (by omega) (fun S' h16 h17 hfr => hK S' (fun j => ?_) (fun j => ?_) (fun t P' i' hn => ?_))
    · rw [h16]
      by_cases c1 : 6 * i + 1 ≤ j ∧ j ≤ 6 * i + m
      · rw [if_pos c1, if_pos (by omega), a16, if_neg (by omega)]
      · rw [if_neg c1, a16]
        by_cases c2 : j = 6 * i + m + 1
        · rw [if_pos c2, if_pos (by omega), c2, show 6 * i + m + 1 - 1 = 6 * i + m by omega]
        · rw [if_neg c2, if_neg (by omega)]
    · rw [h17]
      by_cases c1 : 6 * i + 1 ≤ j ∧ j ≤ 6 * i + m
      · rw [if_pos c1, if_pos (by omega), a17, if_neg (by omega)]
      · rw [if_neg c1, a17]
        by_cases c2 : j = 6 * i + m + 1
        · rw [if_pos c2, if_pos (by omega), c2, show 6 * i + m + 1 - 1 = 6 * i + m by omega]
        · rw [if_neg c2, if_neg (by omega)]
    · rw [hfr t P' i' hn, e4, uc_ne (fun hh => hn ⟨Or.inr hh.1, hh.2⟩), e3, uc_ne (fun hh => hn ⟨Or.inl hh.1, hh.2⟩)]
theorem so_change {Q : Mem → Int32 → Prop} {S : Mem} {P n i : Nat} {g : Gl} {t : Ts} {ti : Th} (h : LR S P g t n) (hi : i < 6) (hT : LT S P i ti) (hl : ¬ ti 1 = 0) (hq : Q S ((g 1 + ti 2 - ti 4) / ti 1)) : vc_L_change S P (nI i) Q := by
  unfold vc_L_change
  rw [nc_1, tc_2 hi, tc_4 hi, tc_1 hi, h.2.1 1 (by decide), hT.1 2 (by decide), hT.1 4 (by decide), hT.1 1 (by decide)]
  exact ⟨nv_1, tv_2 hi, tv_4 hi, tv_1 hi, hl, hq⟩
def folR (g : Gl) (x : Int32) (t : Ts) (m : Nat) : Ts := fun j => if j < m then (if dueT g (t j 0) then readT (g 0) (folT x (t j)) else folT x (t j)) else t j
theorem folR_s {g : Gl} {x : Int32} {t : Ts} {i : Nat} {ti : Th} (h : ti = if dueT g (t i 0) then readT (g 0) (folT x (t i)) else folT x (t i)) (k : Nat) : (if k = i then ti else folR g x t i k) = folR g x t (i + 1) k := by
  unfold folR
  by_cases c : k = i
  · subst c
    rw [if_pos rfl, if_pos (by omega), h]
  · rw [if_neg c]
    by_cases c2 : k < i
    · rw [if_pos c2, if_pos (show k < i + 1 by omega)]
    · rw [if_neg c2, if_neg (show ¬ k < i + 1 by omega)]
/-- what a reading leaves in the law's rows -/
theorem LT.read {S S1 S2 : Mem} {P i κ : Nat} {t : Th} {x kp : Int32} (hi : i < 6) (h7 : t 7 = nI κ) (hκ : κ ≤ 6) (h : LT S P i t) (h15 : S2 15 P 0 = upd (S 15 P 0) (10 * i + 7) kp) (hk : kp = nI (if κ < 6 then κ + 1 else 6)) (g16 : ∀ j, S1 16 P 0 j = if 6 * i + 1 ≤ j ∧ j ≤ 6 * i + 5 then S 16 P 0 (j - 1) else S 16 P 0 j) (g17 : ∀ j, S1 17 P 0 j = if 6 * i + 1 ≤ j ∧ j ≤ 6 * i + 5 then S 17 P 0 (j - 1) else S 17 P 0 j) (h16 : S2 16 P 0 = upd (S1 16 P 0) (6 * i) x) (h17 : S2 17 P 0 = upd (S1 17 P 0) (6 * i) (t 4)) : LT S2 P i (readT x t) := by
  have e7 := readT_7 (h := x) h7 hκ
  refine ⟨fun j hj => ?_, fun κ' e hκ' q hq => ?_⟩
  · rw [h15]
    by_cases c : j = 7
    · subst c
      rw [pk_us, e7]; exact hk
    · rw [pk_un (by omega), readT_k (by omega)]
      exact h.1 j hj
  · have eκ : κ' = if κ < 6 then κ + 1 else 6 := nI_inj (by omega) (by split <;> omega) (e.symm.trans e7)
    rw [h16, h17]
    by_cases c : q = 0
    · subst c
      rw [Nat.add_zero, pk_us, pk_us]
      exact ⟨rfl, rfl⟩
    · have hq1 : q - 1 < κ := by
        split at eκ <;> omega
      have hr := h.2 κ h7 hκ (q - 1) hq1
      rw [pk_un (by omega), pk_un (by omega), g16, g17, if_pos (by omega), if_pos (by omega), show 6 * i + q - 1 = 6 * i + (q - 1) by omega, hr.1, hr.2]
      have r1 : readT x t (9 + 2 * q) = t (9 + 2 * (q - 1)) := by
        unfold readT
        rw [if_neg (by omega), if_neg (by omega), if_pos (by omega)]
        congr 1
        omega
      have r2 : readT x t (10 + 2 * q) = t (10 + 2 * (q - 1)) := by
        unfold readT
        rw [if_neg (by omega), if_neg (by omega), if_pos (by omega)]
        congr 1
        omega
      exact ⟨r1.symm, r2.symm⟩
theorem lo_read {Q : Mem → Int32 → Prop} {K : Mem → Int32 → Prop} {P n : Nat} {g : Gl} {t : Ts} {x4 : Int32} (hp : ∀ k, k < 4 → ¬ g (4 + k) = 0) (hw : ∀ i, i < n → (∃ ρ, ρ < 4 ∧ t i 0 = nI ρ) ∧ (¬ t i 1 = 0) ∧ ∃ κ, κ ≤ 6 ∧ t i 7 = nI κ) : ∀ (m i : Nat) (S : Mem), i + m = n → LR S P g (folR g (g 1) t i) n → (∀ S', FL P S S' → LR S' P g (folR g (g 1) t n) n → K S' (nI (cntD g t n))) → vc_L_hour_L72 Q K P x4 (m + 1) S (nI (cntD g t i)) (nI i) := by
  intro m
  induction m with
  | zero =>
    intro i S hi h hK
    have e : i = n := by omega
    subst e
    rw [vc_L_hour_L72, nc_15, h.n15]
    exact ⟨nv_15, fun _ => hK S (FL.rf P S) h, fun c => absurd (n_le h.1.1) c⟩
  | succ m ih =>
    intro i S hi h hK
    have hin : i < n := by omega
    have hi6 := h.six hin
    have hT : LT S P i (t i) := by
      have := h.2.2 i hin
      rw [show folR g (g 1) t i i = t i from if_neg (by omega)] at this
      exact this
    obtain ⟨⟨ρ, hρ, eρ⟩, hl, κ, hκ, h7⟩ := hw i hin
    have hd : dueT g (t i 0) ↔ g 0 - g 0 / g (4 + ρ) * g (4 + ρ) = 0 := by
      unfold dueT
      rw [eρ, nI_clamp (by omega)]
    rw [vc_L_hour_L72, nc_15, h.n15]
    refine ⟨nv_15, fun c => absurd c (n_ge h.1.1 hin), fun _ => ⟨tv_4 hi6, so_change h hi6 hT hl ⟨tv_4 hi6, fun S1 e1 => ?_⟩⟩⟩
    rw [tc_4 hi6, hT.1 4 (by decide)] at e1
    have hT1 : LT S1 P i (folT (g 1) (t i)) := hT.set (by decide) (by decide) e1
    have f1 : F6 P i S S1 := F6.u5 (by decide) e1
    have r18 : S1 18 P 0 = S 18 P 0 := f1.2.2 18 P 0 (by omega)
    have r0 : S1 15 P 0 (10 * i) = nI ρ := (hT1.1 0 (by decide)).trans eρ
    rw [tc_0 hi6, r0, nc_0, n4c (by omega), r18, h.2.1 0 (by decide), h.2.1 (4 + ρ) (by omega)]
    refine ⟨nv_0, tv_0 hi6, n4v (by omega), hp ρ hρ, fun c => ?_, fun c => ?_⟩
    · have hnd : ¬ dueT g (t i 0) := fun hh => c (hd.mp hh)
      have h1 := (h.one f1 (fun _ => hT1)).cg (fun _ _ => rfl) (fun k _ => folR_s (if_neg hnd).symm k)
      unfold vc_L_hour_J230
      rw [← nI_succ]
      have e : cntD g t (i + 1) = cntD g t i := if_neg hnd
      rw [← e]
      exact ih (i + 1) S1 (by omega) h1 (fun S' hf h' => hK S' (f1.fl.tr hf) h')
    · have hyd : dueT g (t i 0) := hd.mpr c
      refine ⟨6, lo_shift hi6 5 S1 (by decide) (fun S2 g16 g17 gf => ⟨nv_0, hv_0 hi6, fun S3 e3 => ⟨tv_4 hi6, hv_0 hi6, fun S4 e4 => ?_⟩⟩)⟩
      have f2 : F6 P i S1 S2 := ⟨fun j _ => by rw [gf 15 P 0 (by omega)], fun j hj => ⟨by rw [g16, if_neg (by omega)], by rw [g17, if_neg (by omega)]⟩, fun t' P' i' hn => gf t' P' i' (fun hh => hn ⟨by omega, hh.2⟩)⟩
      have s18 : S2 18 P 0 = S 18 P 0 := (gf 18 P 0 (by omega)).trans r18
      rw [hc_0 hi6, s18, h.2.1 0 (by decide)] at e3
      have f3 : F6 P i S2 S3 := F6.u6 (k := 0) (by decide) e3
      have t15 : S3 15 P 0 = S1 15 P 0 := by rw [e3, uc_t (by decide), gf 15 P 0 (by omega)]
      rw [hc_0 hi6, tc_4 hi6, t15, hT1.1 4 (by decide)] at e4
      have f4 : F6 P i S3 S4 := F6.u7 (k := 0) (by decide) e4
      have u15 : S4 15 P 0 = S1 15 P 0 := by rw [e4, uc_t (by decide)]; exact t15
      have u7 : S4 15 P 0 (10 * i + 7) = nI κ := by rw [u15, hT1.1 7 (by decide), folT_k (by decide)]; exact h7
      rw [tc_7 hi6, u7]
      have J : ∀ w : Int32, nI κ + w = nI (if κ < 6 then κ + 1 else 6) → vc_L_hour_J225 Q (vc_L_hour_L72 Q K P x4 (m + 1)) K P x4 S4 (nI (cntD g t i)) (nI i) ((10 : Int32) * nI i + (7 : Int32)) (nI κ) w := by
        intro w ew
        unfold vc_L_hour_J225
        refine ⟨tv_7 hi6, fun S5 e5 => ?_⟩
        rw [tc_7 hi6] at e5
        have f5 : F6 P i S4 S5 := F6.u5 (by decide) e5
        have f := (((f1.tr f2).tr f3).tr f4).tr f5
        have hT5 : LT S5 P i (readT (g 0) (folT (g 1) (t i))) := LT.read (S1 := S2) (kp := nI κ + w) hi6 ((folT_k (by decide)).trans h7) hκ hT1 (by rw [e5, uc_same, u15]) ew g16 g17 (by rw [e5, uc_t (by decide), e4, uc_t (by decide), e3, uc_same]) (by rw [e5, uc_t (by decide), e4, uc_same, e3, uc_t (by decide)])
        have h1 := (h.one f (fun _ => hT5)).cg (fun _ _ => rfl) (fun k _ => folR_s (if_pos hyd).symm k)
        unfold vc_L_hour_J230
        rw [← nI_succ, ← nI_succ]
        have e : cntD g t (i + 1) = cntD g t i + 1 := if_pos hyd
        rw [← e]
        exact ih (i + 1) S5 (by omega) h1 (fun S' hf h' => hK S' (f.fl.tr hf) h')
      refine ⟨tv_7 hi6, tv_7 hi6, fun c6 => J 0 ?_, fun c6 => J 1 ?_⟩
      · have : 6 ≤ κ := (nI_leI (a := 6) (by decide) (by omega)).mp c6
        rw [Int32.add_zero, if_neg (by omega), show κ = 6 by omega]
      · have : ¬ 6 ≤ κ := fun hh => c6 ((nI_leI (a := 6) (by decide) (by omega)).mpr hh)
        rw [if_pos (by omega), nI_succ]
