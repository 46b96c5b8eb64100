/-! the law's rows at place P: g and t as the reference lays them (rows 15..18 of the memory) -/
def LT (S : Mem) (P i : Nat) (t : Th) : Prop := (∀ j, j < 9 → S 15 P 0 (10 * i + j) = t j) ∧ ∀ κ, t 7 = nI κ → κ ≤ 6 → ∀ k, k < κ → S 16 P 0 (6 * i + k) = t (9 + 2 * k) ∧ S 17 P 0 (6 * i + k) = t (10 + 2 * k)
def LR (S : Mem) (P : Nat) (g : Gl) (t : Ts) (n : Nat) : Prop := (n ≤ 6 ∧ g 15 = nI n) ∧ (∀ j, j < 16 → S 18 P 0 j = g j) ∧ ∀ i, i < n → LT S P i (t i)
/-- nothing but the law's rows at P has changed -/
def FL (P : Nat) (S S' : Mem) : Prop := ∀ t P' i', ¬ (15 ≤ t ∧ P' = P) → S' t P' i' = S t P' i'
theorem FL.rf (P : Nat) (S : Mem) : FL P S S := fun _ _ _ _ => rfl
theorem FL.tr {P : Nat} {S S' S'' : Mem} (h : FL P S S') (h2 : FL P S' S'') : FL P S S'' := fun t P' i' hn => (h2 t P' i' hn).trans (h t P' i' hn)
theorem FL.uc {P t i : Nat} (ht : 15 ≤ t) (S : Mem) (f : Nat → Int32) : FL P S (uc S t P i f) := fun t' P' i' hn => uc_ne fun h => hn ⟨by rw [h.1]; exact ht, h.2.1⟩
theorem n10 (i : Nat) : (10 : Int32) * nI i = nI (10 * i) := pk_mul 10 i
theorem n10p (i j : Nat) : (10 : Int32) * nI i + nI j = nI (10 * i + j) := by rw [n10, nI_add]
theorem n6 (i : Nat) : (6 : Int32) * nI i = nI (6 * i) := pk_mul 6 i
theorem n6p (i j : Nat) : (6 : Int32) * nI i + nI j = nI (6 * i + j) := by rw [n6, nI_add]
theorem tx_0 (i : Nat) : ((10 : Int32) * nI i) = nI (10 * i) := n10 i
theorem tv_0 {i : Nat} (hi : i < 6) : vp_in ((10 : Int32) * nI i) 60 := by rw [tx_0]; exact vp_in_nI (by omega) (by decide)
theorem tc_0 {i : Nat} (hi : i < 6) : ((10 : Int32) * nI i).toNatClampNeg = 10 * i := by rw [tx_0, nI_clamp (by omega)]
theorem tx_1 (i : Nat) : ((10 : Int32) * nI i + (1 : Int32)) = nI (10 * i + 1) := n10p i 1
theorem tv_1 {i : Nat} (hi : i < 6) : vp_in ((10 : Int32) * nI i + (1 : Int32)) 60 := by rw [tx_1]; exact vp_in_nI (by omega) (by decide)
theorem tc_1 {i : Nat} (hi : i < 6) : ((10 : Int32) * nI i + (1 : Int32)).toNatClampNeg = 10 * i + 1 := by rw [tx_1, nI_clamp (by omega)]
theorem tx_2 (i : Nat) : ((10 : Int32) * nI i + (2 : Int32)) = nI (10 * i + 2) := n10p i 2
theorem tv_2 {i : Nat} (hi : i < 6) : vp_in ((10 : Int32) * nI i + (2 : Int32)) 60 := by rw [tx_2]; exact vp_in_nI (by omega) (by decide)
theorem tc_2 {i : Nat} (hi : i < 6) : ((10 : Int32) * nI i + (2 : Int32)).toNatClampNeg = 10 * i + 2 := by rw [tx_2, nI_clamp (by omega)]
theorem tx_3 (i : Nat) : ((10 : Int32) * nI i + (3 : Int32)) = nI (10 * i + 3) := n10p i 3
theorem tv_3 {i : Nat} (hi : i < 6) : vp_in ((10 : Int32) * nI i + (3 : Int32)) 60 := by rw [tx_3]; exact vp_in_nI (by omega) (by decide)
theorem tc_3 {i : Nat} (hi : i < 6) : ((10 : Int32) * nI i + (3 : Int32)).toNatClampNeg = 10 * i + 3 := by rw [tx_3, nI_clamp (by omega)]
theorem tx_4 (i : Nat) : ((10 : Int32) * nI i + (4 : Int32)) = nI (10 * i + 4) := n10p i 4
theorem tv_4 {i : Nat} (hi : i < 6) : vp_in ((10 : Int32) * nI i + (4 : Int32)) 60 := by rw [tx_4]; exact vp_in_nI (by omega) (by decide)
theorem tc_4 {i : Nat} (hi : i < 6) : ((10 : Int32) * nI i + (4 : Int32)).toNatClampNeg = 10 * i + 4 := by rw [tx_4, nI_clamp (by omega)]
theorem tx_5 (i : Nat) : ((10 : Int32) * nI i + (5 : Int32)) = nI (10 * i + 5) := n10p i 5
theorem tv_5 {i : Nat} (hi : i < 6) : vp_in ((10 : Int32) * nI i + (5 : Int32)) 60 := by rw [tx_5]; exact vp_in_nI (by omega) (by decide)
theorem tc_5 {i : Nat} (hi : i < 6) : ((10 : Int32) * nI i + (5 : Int32)).toNatClampNeg = 10 * i + 5 := by rw [tx_5, nI_clamp (by omega)]
theorem tx_6 (i : Nat) : ((10 : Int32) * nI i + (6 : Int32)) = nI (10 * i + 6) := n10p i 6
theorem tv_6 {i : Nat} (hi : i < 6) : vp_in ((10 : Int32) * nI i + (6 : Int32)) 60 := by rw [tx_6]; exact vp_in_nI (by omega) (by decide)
theorem tc_6 {i : Nat} (hi : i < 6) : ((10 : Int32) * nI i + (6 : Int32)).toNatClampNeg = 10 * i + 6 := by rw [tx_6, nI_clamp (by omega)]
theorem tx_7 (i : Nat) : ((10 : Int32) * nI i + (7 : Int32)) = nI (10 * i + 7) := n10p i 7
theorem tv_7 {i : Nat} (hi : i < 6) : vp_in ((10 : Int32) * nI i + (7 : Int32)) 60 := by rw [tx_7]; exact vp_in_nI (by omega) (by decide)
theorem tc_7 {i : Nat} (hi : i < 6) : ((10 : Int32) * nI i + (7 : Int32)).toNatClampNeg = 10 * i + 7 := by rw [tx_7, nI_clamp (by omega)]
theorem tx_8 (i : Nat) : ((10 : Int32) * nI i + (8 : Int32)) = nI (10 * i + 8) := n10p i 8
theorem tv_8 {i : Nat} (hi : i < 6) : vp_in ((10 : Int32) * nI i + (8 : Int32)) 60 := by rw [tx_8]; exact vp_in_nI (by omega) (by decide)
theorem tc_8 {i : Nat} (hi : i < 6) : ((10 : Int32) * nI i + (8 : Int32)).toNatClampNeg = 10 * i + 8 := by rw [tx_8, nI_clamp (by omega)]
theorem tx_9 (i : Nat) : ((10 : Int32) * nI i + (9 : Int32)) = nI (10 * i + 9) := n10p i 9
theorem tv_9 {i : Nat} (hi : i < 6) : vp_in ((10 : Int32) * nI i + (9 : Int32)) 60 := by rw [tx_9]; exact vp_in_nI (by omega) (by decide)
theorem tc_9 {i : Nat} (hi : i < 6) : ((10 : Int32) * nI i + (9 : Int32)).toNatClampNeg = 10 * i + 9 := by rw [tx_9, nI_clamp (by omega)]
theorem hx_0 (i : Nat) : ((6 : Int32) * nI i) = nI (6 * i) := n6 i
theorem hv_0 {i : Nat} (hi : i < 6) : vp_in ((6 : Int32) * nI i) 36 := by rw [hx_0]; exact vp_in_nI (by omega) (by decide)
theorem hc_0 {i : Nat} (hi : i < 6) : ((6 : Int32) * nI i).toNatClampNeg = 6 * i := by rw [hx_0, nI_clamp (by omega)]
theorem hx_1 (i : Nat) : ((6 : Int32) * nI i + (1 : Int32)) = nI (6 * i + 1) := n6p i 1
theorem hv_1 {i : Nat} (hi : i < 6) : vp_in ((6 : Int32) * nI i + (1 : Int32)) 36 := by rw [hx_1]; exact vp_in_nI (by omega) (by decide)
theorem hc_1 {i : Nat} (hi : i < 6) : ((6 : Int32) * nI i + (1 : Int32)).toNatClampNeg = 6 * i + 1 := by rw [hx_1, nI_clamp (by omega)]
theorem hx_2 (i : Nat) : ((6 : Int32) * nI i + (2 : Int32)) = nI (6 * i + 2) := n6p i 2
theorem hv_2 {i : Nat} (hi : i < 6) : vp_in ((6 : Int32) * nI i + (2 : Int32)) 36 := by rw [hx_2]; exact vp_in_nI (by omega) (by decide)
theorem hc_2 {i : Nat} (hi : i < 6) : ((6 : Int32) * nI i + (2 : Int32)).toNatClampNeg = 6 * i + 2 := by rw [hx_2, nI_clamp (by omega)]
theorem hx_3 (i : Nat) : ((6 : Int32) * nI i + (3 : Int32)) = nI (6 * i + 3) := n6p i 3
theorem hv_3 {i : Nat} (hi : i < 6) : vp_in ((6 : Int32) * nI i + (3 : Int32)) 36 := by rw [hx_3]; exact vp_in_nI (by omega) (by decide)
theorem hc_3 {i : Nat} (hi : i < 6) : ((6 : Int32) * nI i + (3 : Int32)).toNatClampNeg = 6 * i + 3 := by rw [hx_3, nI_clamp (by omega)]
theorem hx_4 (i : Nat) : ((6 : Int32) * nI i + (4 : Int32)) = nI (6 * i + 4) := n6p i 4
theorem hv_4 {i : Nat} (hi : i < 6) : vp_in ((6 : Int32) * nI i + (4 : Int32)) 36 := by rw [hx_4]; exact vp_in_nI (by omega) (by decide)
theorem hc_4 {i : Nat} (hi : i < 6) : ((6 : Int32) * nI i + (4 : Int32)).toNatClampNeg = 6 * i + 4 := by rw [hx_4, nI_clamp (by omega)]
theorem hx_5 (i : Nat) : ((6 : Int32) * nI i + (5 : Int32)) = nI (6 * i + 5) := n6p i 5
theorem hv_5 {i : Nat} (hi : i < 6) : vp_in ((6 : Int32) * nI i + (5 : Int32)) 36 := by rw [hx_5]; exact vp_in_nI (by omega) (by decide)
theorem hc_5 {i : Nat} (hi : i < 6) : ((6 : Int32) * nI i + (5 : Int32)).toNatClampNeg = 6 * i + 5 := by rw [hx_5, nI_clamp (by omega)]
theorem nv_0 : vp_in (0 : Int32) 16 := vp_in_nI (n := 0) (by decide) (by decide)
theorem nc_0 : (0 : Int32).toNatClampNeg = 0 := by decide
theorem nv_1 : vp_in (1 : Int32) 16 := vp_in_nI (n := 1) (by decide) (by decide)
theorem nc_1 : (1 : Int32).toNatClampNeg = 1 := by decide
theorem nv_2 : vp_in (2 : Int32) 16 := vp_in_nI (n := 2) (by decide) (by decide)
theorem nc_2 : (2 : Int32).toNatClampNeg = 2 := by decide
theorem nv_3 : vp_in (3 : Int32) 16 := vp_in_nI (n := 3) (by decide) (by decide)
theorem nc_3 : (3 : Int32).toNatClampNeg = 3 := by decide
theorem nv_4 : vp_in (4 : Int32) 16 := vp_in_nI (n := 4) (by decide) (by decide)
theorem nc_4 : (4 : Int32).toNatClampNeg = 4 := by decide
theorem nv_5 : vp_in (5 : Int32) 16 := vp_in_nI (n := 5) (by decide) (by decide)
theorem nc_5 : (5 : Int32).toNatClampNeg = 5 := by decide
theorem nv_6 : vp_in (6 : Int32) 16 := vp_in_nI (n := 6) (by decide) (by decide)
theorem nc_6 : (6 : Int32).toNatClampNeg = 6 := by decide
theorem nv_7 : vp_in (7 : Int32) 16 := vp_in_nI (n := 7) (by decide) (by decide)
theorem nc_7 : (7 : Int32).toNatClampNeg = 7 := by decide
theorem nv_8 : vp_in (8 : Int32) 16 := vp_in_nI (n := 8) (by decide) (by decide)
theorem nc_8 : (8 : Int32).toNatClampNeg = 8 := by decide
theorem nv_9 : vp_in (9 : Int32) 16 := vp_in_nI (n := 9) (by decide) (by decide)
theorem nc_9 : (9 : Int32).toNatClampNeg = 9 := by decide
theorem nv_10 : vp_in (10 : Int32) 16 := vp_in_nI (n := 10) (by decide) (by decide)
theorem nc_10 : (10 : Int32).toNatClampNeg = 10 := by decide
theorem nv_11 : vp_in (11 : Int32) 16 := vp_in_nI (n := 11) (by decide) (by decide)
theorem nc_11 : (11 : Int32).toNatClampNeg = 11 := by decide
theorem nv_12 : vp_in (12 : Int32) 16 := vp_in_nI (n := 12) (by decide) (by decide)
theorem nc_12 : (12 : Int32).toNatClampNeg = 12 := by decide
theorem nv_13 : vp_in (13 : Int32) 16 := vp_in_nI (n := 13) (by decide) (by decide)
theorem nc_13 : (13 : Int32).toNatClampNeg = 13 := by decide
theorem nv_14 : vp_in (14 : Int32) 16 := vp_in_nI (n := 14) (by decide) (by decide)
theorem nc_14 : (14 : Int32).toNatClampNeg = 14 := by decide
theorem nv_15 : vp_in (15 : Int32) 16 := vp_in_nI (n := 15) (by decide) (by decide)
theorem nc_15 : (15 : Int32).toNatClampNeg = 15 := by decide
theorem n8p (i : Nat) : (8 : Int32) + nI i = nI (8 + i) := nI_add 8 i
theorem n4p (i : Nat) : (4 : Int32) + nI i = nI (4 + i) := nI_add 4 i
theorem n2p (i : Nat) : (2 : Int32) + nI i = nI (2 + i) := nI_add 2 i
theorem n1p (i : Nat) : (1 : Int32) + nI i = nI (1 + i) := nI_add 1 i
theorem n4v {i : Nat} (h : i < 12) : vp_in ((4 : Int32) + nI i) 16 := by rw [n4p]; exact vp_in_nI (by omega) (by decide)
theorem n4c {i : Nat} (h : i < 12) : ((4 : Int32) + nI i).toNatClampNeg = 4 + i := by rw [n4p, nI_clamp (by omega)]
theorem n8v {i : Nat} (h : i < 8) : vp_in ((8 : Int32) + nI i) 16 := by rw [n8p]; exact vp_in_nI (by omega) (by decide)
theorem n8c {i : Nat} (h : i < 8) : ((8 : Int32) + nI i).toNatClampNeg = 8 + i := by rw [n8p, nI_clamp (by omega)]
theorem n2v {i : Nat} (h : i < 14) : vp_in ((2 : Int32) + nI i) 16 := by rw [n2p]; exact vp_in_nI (by omega) (by decide)
theorem n2c {i : Nat} (h : i < 14) : ((2 : Int32) + nI i).toNatClampNeg = 2 + i := by rw [n2p, nI_clamp (by omega)]
theorem z_if {p A B : Prop} {dp : Decidable p} (h1 : p → B) (h0 : ¬ p → A) : (((if p then (1 : Int32) else 0) = 0) → A) ∧ ((¬ ((if p then (1 : Int32) else 0) = 0)) → B) := by
  by_cases h : p
  · rw [if_pos h]; exact ⟨fun c => absurd c (by decide), fun _ => h1 h⟩
  · rw [if_neg h]; exact ⟨fun _ => h0 h, fun c => absurd rfl c⟩
theorem z_1 {A B : Prop} (h : B) : (((1 : Int32) = 0) → A) ∧ ((¬ ((1 : Int32) = 0)) → B) := ⟨fun c => absurd c (by decide), fun _ => h⟩
theorem z_0 {A B : Prop} (h : A) : (((0 : Int32) = 0) → A) ∧ ((¬ ((0 : Int32) = 0)) → B) := ⟨fun _ => h, fun c => absurd rfl c⟩
theorem ne_eq {x y : Int32} {A B : Prop} (e : x = y) (h : B) : ((¬ x = y) → A) ∧ ((x = y) → B) := ⟨fun c => absurd e c, fun _ => h⟩
/-- low(value, m) is in 0 .. m - 1 -/
theorem so_low {Q : Mem → Int32 → Prop} {S : Mem} {x : Int32} {m : Nat} (h0 : 0 < m) (hm : m < 2 ^ 31) (hq : ∀ k, k < m → Q S (nI k)) : vc_L_low S x (nI m) Q := by
  unfold vc_L_low
  obtain ⟨j, hj, e⟩ := pk_andE x (m := (2147483647 : Int32)) 31 (by decide +kernel)
  rw [e, pk_rem hj h0 hm]
  exact ⟨nI_ne0 h0 hm, hq _ (Nat.mod_lt _ h0)⟩
theorem neg_sub0 (x : Int32) : -x = 0 - x := by simp
theorem so_size {Q : Mem → Int32 → Prop} {S : Mem} {x : Int32} (hq : Q S (iabs x)) : vc_L_size S x Q := by
  unfold iabs at hq
  refine ⟨fun c => ?_, fun c => ?_⟩
  · rw [if_pos c] at hq; exact hq
  · rw [if_neg c] at hq; rw [neg_sub0]; exact hq
theorem so_asked {Q : Mem → Int32 → Prop} {S : Mem} {P i : Nat} {t : Th} (hi : i < 6) (h : LT S P i t) (hq : Q S (if askT t then 1 else 0)) : vc_L_asked S P (nI i) Q := by
  unfold vc_L_asked
  rw [tc_7 hi, tc_6 hi, h.1 7 (by decide), h.1 6 (by decide)]
  refine ⟨tv_7 hi, fun c => ?_, fun c => ⟨tv_6 hi, fun c2 => ?_, fun c2 => ?_⟩⟩
  · rw [if_neg (fun hh : askT t => absurd hh.1 (Int32.not_lt.mpr c))] at hq; exact hq
  · rw [if_neg (fun hh : askT t => c2 hh.2)] at hq; exact hq
  · rw [if_pos (show askT t from ⟨Int32.not_le.mp c, c2⟩)] at hq; exact hq
theorem so_mendK {Q : Mem → Int32 → Prop} {S : Mem} {P i κ : Nat} {t : Th} {lag : Int32} (hi : i < 6) (h : LT S P i t) (h7 : t 7 = nI κ) (hκ : κ ≤ 6) (hne : 1 < κ → ¬ t 9 - t 11 = 0) (hq : Q S (mendB t lag)) : vc_L_mended S P (nI i) lag Q := by
  have e7 := h.1 7 (by decide)
  have e2 := h.1 2 (by decide)
  have hr := h.2 κ h7 hκ
  have J : ∀ w : Int32, 0 < κ → Q S (t 10 + w - t 2) → vc_L_mended_J66 Q P (nI i) lag S w := by
    intro w h0 hq
    have e := (hr 0 h0).2
    rw [Nat.add_zero] at e
    unfold vc_L_mended_J66
    rw [hc_0 hi, tc_2 hi, e2, e]
    exact ⟨hv_0 hi, tv_2 hi, hq⟩
  unfold mendB at hq
  unfold vc_L_mended
  rw [tc_7 hi, hc_0 hi, hc_1 hi, e7, h7]
  rw [h7] at hq
  refine ⟨tv_7 hi, fun c => ⟨fun c2 => ?_, fun c2 => ?_⟩, fun c => ?_⟩
  · have c3 : 1 < κ := (nI_leI (a := 2) (by decide) (by omega)).mp c2
    have a0 := hr 0 (by omega)
    have a1 := hr 1 c3
    rw [Nat.add_zero] at a0
    rw [if_neg (nI_ne0 (by omega) (by omega)), if_pos (show (1 : Int32) < nI κ from (nI_ltI (a := 1) (by decide) (by omega)).mpr c3)] at hq
    rw [a0.1, a0.2, a1.1, a1.2]
    exact ⟨hv_0 hi, hv_1 hi, hv_0 hi, hv_1 hi, hne c3, J _ (by omega) hq⟩
  · have c3 : ¬ 2 ≤ κ := fun hh => c2 ((nI_leI (a := 2) (by decide) (by omega)).mpr hh)
    have c4 : 1 ≤ κ := (nI_leI (a := 1) (by decide) (by omega)).mp c
    rw [if_neg (nI_ne0 (by omega) (by omega)), if_neg (show ¬ (1 : Int32) < nI κ from fun hh => c3 ((nI_ltI (a := 1) (by decide) (by omega)).mp hh))] at hq
    refine J _ (by omega) ?_
    rw [Int32.add_zero]
    exact hq
  · have c3 : κ = 0 := by
      have : ¬ 1 ≤ κ := fun hh => c ((nI_leI (a := 1) (by decide) (by omega)).mpr hh)
      omega
    rw [c3, if_pos (show nI 0 = 0 from nI_0)] at hq
    exact hq
theorem WT.ne {h : Int} {t : Th} (hw : WT h t) : ∃ κ, κ ≤ 6 ∧ t 7 = nI κ ∧ (1 < κ → ¬ t 9 - t 11 = 0) := by
  obtain ⟨-, -, -, -, -, -, κ, hκ, h7, -, hd⟩ := hw
  exact ⟨κ, hκ, h7, fun h1 => sub_ne (hd 0 h1)⟩
theorem LR.six {S : Mem} {P n : Nat} {g : Gl} {t : Ts} (h : LR S P g t n) {i : Nat} (hi : i < n) : i < 6 := Nat.lt_of_lt_of_le hi h.1.1
theorem LR.n15 {S : Mem} {P n : Nat} {g : Gl} {t : Ts} (h : LR S P g t n) : S 18 P 0 15 = nI n := (h.2.1 15 (by decide)).trans h.1.2
theorem so_mended {Q : Mem → Int32 → Prop} {S : Mem} {P n i : Nat} {g : Gl} {t : Ts} {lag : Int32} (h : LR S P g t n) (hw : WS g t n) (hi : i < n) (hq : Q S (mendB (t i) lag)) : vc_L_mended S P (nI i) lag Q := by
  obtain ⟨κ, hκ, h7, hne⟩ := (hw.2 i hi).ne
  exact so_mendK (h.six hi) (h.2.2 i hi) h7 hκ hne hq
theorem so_own {Q : Mem → Int32 → Prop} {S : Mem} {P n i : Nat} {g : Gl} {t : Ts} (h : LR S P g t n) (hw : WS g t n) (hi : i < n) (hq : Q S (mended (t i))) : vc_L_own S P (nI i) Q := by
  have e1 := (h.2.2 i hi).1 1 (by decide)
  unfold vc_L_own
  rw [tc_1 (h.six hi), e1]
  exact ⟨tv_1 (h.six hi), so_mended h hw hi hq⟩
theorem so_ask {Q : Mem → Int32 → Prop} {S : Mem} {P n i : Nat} {g : Gl} {t : Ts} (h : LR S P g t n) (hi : i < n) (hq : Q S (if askT (t i) then 1 else 0)) : vc_L_asked S P (nI i) Q := so_asked (h.six hi) (h.2.2 i hi) hq
theorem n_ge {n i : Nat} (hn : n ≤ 6) (hi : i < n) : ¬ nI n ≤ nI i := nI_ge hi (by omega)
theorem n_le {n : Nat} (hn : n ≤ 6) : nI n ≤ nI n := nI_le (Nat.le_refl n) (by omega)
theorem lo_mean {Q : Mem → Int32 → Prop} {K : Mem → Int32 → Int32 → Prop} {S : Mem} {P n : Nat} {g : Gl} {t : Ts} (h : LR S P g t n) (hw : WS g t n) (hK : K S (meanS t n).1 (meanS t n).2) : ∀ m i, i + m = n → vc_L_mean_L9 Q K P (m + 1) S (meanS t i).1 (meanS t i).2 (nI i) := by
  have hn := h.1.1
  intro m
  induction m with
  | zero =>
    intro i hi
    have e : i = n := by omega
    subst e
    rw [vc_L_mean_L9, nc_15, h.n15]
    exact ⟨nv_15, fun _ => hK, fun c => absurd (n_le hn) c⟩
  | succ m ih =>
    intro i hi
    have hin : i < n := by omega
    have e3 := (h.2.2 i hin).1 3 (by decide)
    have hs := ih (i + 1) (by omega)
    rw [nI_succ] at hs
    rw [vc_L_mean_L9, nc_15, h.n15]
    refine ⟨nv_15, fun c => absurd c (n_ge hn hin), fun _ => so_ask h hin ?_⟩
    rw [tc_3 (h.six hin), e3]
    by_cases ha : askT (t i)
    · have e : meanS t (i + 1) = ((meanS t i).1 + mended (t i) * t i 3, (meanS t i).2 + t i 3) := if_pos ha
      rw [e] at hs
      rw [if_pos ha]
      refine z_1 ⟨tv_3 (h.six hin), so_own h hw hin ?_⟩
      unfold vc_L_mean_J51
      refine so_ask h hin ?_
      rw [if_pos ha, tc_3 (h.six hin), e3]
      refine z_1 ⟨tv_3 (h.six hin), ?_⟩
      unfold vc_L_mean_J78
      rw [Int32.mul_comm]
      exact hs
    · have e : meanS t (i + 1) = meanS t i := if_neg ha
      rw [e] at hs
      rw [if_neg ha]
      refine z_0 ?_
      unfold vc_L_mean_J51
      refine so_ask h hin ?_
      rw [if_neg ha]
      refine z_0 ?_
      unfold vc_L_mean_J78
      rw [Int32.add_zero, Int32.add_zero]
      exact hs
theorem meanW {g : Gl} {t : Ts} {n : Nat} (hw : WS g t n) : ∀ i, i ≤ n → 0 ≤ (meanS t i).2.toInt ∧ (meanS t i).2.toInt ≤ 5 * i
  | 0, _ => ⟨show (0 : Int) ≤ (0 : Int32).toInt by decide, show (0 : Int32).toInt ≤ 5 * ((0 : Nat) : Int) by decide⟩
  | i + 1, hi => by
    have ih := meanW hw i (by omega)
    have hn := hw.1.1
    have h3 := (hw.2 i (by omega)).2.2.2.1
    by_cases ha : askT (t i)
    · have e : meanS t (i + 1) = ((meanS t i).1 + mended (t i) * t i 3, (meanS t i).2 + t i 3) := if_pos ha
      rw [e]
      have := i_add (x := (meanS t i).2) (y := t i 3) (by omega) (by omega)
      show 0 ≤ ((meanS t i).2 + t i 3).toInt ∧ ((meanS t i).2 + t i 3).toInt ≤ 5 * ((i + 1 : Nat) : Int)
      omega
    · have e : meanS t (i + 1) = meanS t i := if_neg ha
      rw [e]
      omega
theorem so_mean {Q : Mem → Int32 → Prop} {S : Mem} {P n : Nat} {g : Gl} {t : Ts} (h : LR S P g t n) (hw : WS g t n) (hq : Q S (meanV t n)) : vc_L_mean S P Q := by
  refine ⟨n + 1, lo_mean h hw ?_ n 0 (by omega)⟩
  have hb := meanW hw n (Nat.le_refl n)
  have l0 : (0 : Int32).toInt = 0 := rfl
  unfold meanV at hq
  refine ⟨fun c => ?_, fun c => ?_⟩
  · have e : (meanS t n).2 = 0 := i_eq.mpr (by have := i_le.mp c; omega)
    rw [if_pos e] at hq
    exact hq
  · have e : ¬ (meanS t n).2 = 0 := fun hh => c (by rw [hh]; exact Int32.le_refl 0)
    rw [if_neg e] at hq
    exact ⟨e, hq⟩
