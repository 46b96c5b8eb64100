/-! what stays well when something is added, calibrated, set (from whole) -/
def setT (t : Ts) (i : Nat) (x : Th) : Ts := fun k => if k = i then x else t k
def okS (s : St) : Prop := WSs s ∧ (s.1 0).toInt ≤ 9999
def calS (s : St) (i : Nat) : St := (s.1, fun k => if k = i then calT (s.1 1) (s.2.1 i) else s.2.1 k, s.2.2)
def pasS (s : St) (x : Int32) : St := (pasG s.1 s.2.1 s.2.2 x, pasT s.1 s.2.1 s.2.2 x, s.2.2)
def perS (s : St) (k : Nat) (x : Int32) : St := (upd s.1 (4 + k) x, s.2.1, s.2.2)
theorem WT.new {h : Int} {x1 x2 x3 x4 x : Int32} {ρ : Nat} (hρ : ρ < 4) (e1 : x1 = nI ρ) (h2 : 1 ≤ x2.toInt ∧ x2.toInt ≤ 9) (h3 : -200 ≤ x3.toInt ∧ x3.toInt ≤ 200) (h4 : 1 ≤ x4.toInt ∧ x4.toInt ≤ 5) (hx : -5000 ≤ x.toInt ∧ x.toInt ≤ 5000) : WT h (newT x1 x2 x3 x4 x) := by
  refine ⟨⟨ρ, hρ, e1⟩, h2, h3, h4, ?_, Or.inl rfl, 0, Nat.zero_le 6, rfl, fun k hk => absurd hk (Nat.not_lt_zero k), fun k hk => absurd hk (Nat.not_lt_zero _)⟩
  show -20000 ≤ (x + x3).toInt ∧ (x + x3).toInt ≤ 20000
  rw [i_add (by omega) (by omega)]
  omega
theorem WT.cal {h : Int} {t : Th} {x : Int32} (hx : -5000 ≤ x.toInt ∧ x.toInt ≤ 5000) (hw : WT h t) : WT h (calT x t) := by
  obtain ⟨c0, c1, c2, c3, c4, c6, -⟩ := hw
  refine ⟨c0, c1, c2, c3, ?_, Or.inl rfl, 0, Nat.zero_le 6, rfl, fun k hk => absurd hk (Nat.not_lt_zero k), fun k hk => absurd hk (Nat.not_lt_zero _)⟩
  show -20000 ≤ (x + t 2).toInt ∧ (x + t 2).toInt ≤ 20000
  rw [i_add (by omega) (by omega)]
  omega
theorem okS.add {s : St} {x1 x2 x3 x4 : Int32} {ρ : Nat} (hs : okS s) (hn : s.2.2 < 10) (hρ : ρ < 4) (e1 : x1 = nI ρ) (h2 : 1 ≤ x2.toInt ∧ x2.toInt ≤ 9) (h3 : -200 ≤ x3.toInt ∧ x3.toInt ≤ 200) (h4 : 1 ≤ x4.toInt ∧ x4.toInt ≤ 5) : okS (addS s x1 x2 x3 x4) := by
  obtain ⟨g, t, n⟩ := s
  obtain ⟨⟨⟨b1, b2, b3, b4, b5, b6⟩, hT⟩, h9⟩ := hs
  have b2 : g 15 = nI n := b2
  have eg : ∀ k, k ≠ 15 → upd g 15 (g 15 + 1) k = g k := fun k hk => if_neg hk
  have e0 := eg 0 (by decide)
  refine ⟨⟨⟨hn, ?_, ?_, ?_, fun k hk => ?_, ?_⟩, fun i hi => ?_⟩, ?_⟩
  · show g 15 + 1 = nI (n + 1)
    rw [b2, nI_1]
  · show 0 ≤ (upd g 15 (g 15 + 1) 0).toInt ∧ (upd g 15 (g 15 + 1) 0).toInt ≤ 10100
    rw [e0]; exact b3
  · show -5000 ≤ (upd g 15 (g 15 + 1) 1).toInt ∧ (upd g 15 (g 15 + 1) 1).toInt ≤ 5000
    rw [eg 1 (by decide)]; exact b4
  · show 1 ≤ (upd g 15 (g 15 + 1) (4 + k)).toInt ∧ (upd g 15 (g 15 + 1) (4 + k)).toInt ≤ 6
    rw [eg (4 + k) (by omega)]; exact b5 k hk
  · show 0 ≤ (upd g 15 (g 15 + 1) 12).toInt ∧ (upd g 15 (g 15 + 1) 12).toInt ≤ 10 * (upd g 15 (g 15 + 1) 0).toInt
    rw [e0, eg 12 (by decide)]; exact b6
  · show WT (upd g 15 (g 15 + 1) 0).toInt (if i = n then newT x1 x2 x3 x4 (g 1) else t i)
    rw [e0]
    by_cases c : i = n
    · rw [if_pos c]; exact WT.new hρ e1 h2 h3 h4 b4
    · rw [if_neg c]
      have hi' : i < n + 1 := hi
      exact hT i (show i < n by omega)
  · show (upd g 15 (g 15 + 1) 0).toInt ≤ 9999
    rw [e0]; exact h9
theorem okS.cal {s : St} {i : Nat} (hs : okS s) (hi : i < s.2.2) : okS (calS s i) := by
  obtain ⟨⟨hg, hT⟩, h9⟩ := hs
  refine ⟨⟨hg, fun k hk => ?_⟩, h9⟩
  show WT _ (if k = i then calT (s.1 1) (s.2.1 i) else s.2.1 k)
  split
  · exact (hT i hi).cal hg.2.2.2.1
  · exact hT k hk
theorem okS.per {s : St} {k : Nat} {x : Int32} (hs : okS s) (hk : k < 4) (hx : 1 ≤ x.toInt ∧ x.toInt ≤ 6) : okS (perS s k x) := by
  obtain ⟨⟨⟨b1, b2, b3, b4, b5, b6⟩, hT⟩, h9⟩ := hs
  have eg : ∀ j, j ≠ 4 + k → upd s.1 (4 + k) x j = s.1 j := fun j hj => if_neg hj
  refine ⟨⟨⟨b1, ?_, ?_, ?_, fun j hj => ?_, ?_⟩, ?_⟩, ?_⟩
  · show upd s.1 (4 + k) x 15 = _
    rw [eg 15 (by omega)]; exact b2
  · show 0 ≤ (upd s.1 (4 + k) x 0).toInt ∧ (upd s.1 (4 + k) x 0).toInt ≤ 10100
    rw [eg 0 (by omega)]; exact b3
  · show -5000 ≤ (upd s.1 (4 + k) x 1).toInt ∧ (upd s.1 (4 + k) x 1).toInt ≤ 5000
    rw [eg 1 (by omega)]; exact b4
  · show 1 ≤ (upd s.1 (4 + k) x (4 + j)).toInt ∧ (upd s.1 (4 + k) x (4 + j)).toInt ≤ 6
    by_cases c : j = k
    · rw [c, upd_app, if_pos rfl]; exact hx
    · rw [eg _ (by omega)]; exact b5 j hj
  · show 0 ≤ (upd s.1 (4 + k) x 12).toInt ∧ (upd s.1 (4 + k) x 12).toInt ≤ 10 * (upd s.1 (4 + k) x 0).toInt
    rw [eg 12 (by omega), eg 0 (by omega)]; exact b6
  · show ∀ i, i < s.2.2 → WT (upd s.1 (4 + k) x 0).toInt (s.2.1 i)
    rw [eg 0 (by omega)]; exact hT
  · show (upd s.1 (4 + k) x 0).toInt ≤ 9999
    rw [eg 0 (by omega)]; exact h9
theorem okS.pas {s : St} {x : Int32} (hs : okS s) (hx : -5000 ≤ x.toInt ∧ x.toInt ≤ 5000) (h : (s.1 0).toInt ≤ 9998) : okS (pasS s x) := by
  have h0 := hs.1.1.2.2.1
  refine ⟨hs.1.pas hx (by omega), ?_⟩
  show (pasG s.1 s.2.1 s.2.2 x 0).toInt ≤ 9999
  rw [pasG_0, i_add (by rw [show (1 : Int32).toInt = 1 from rfl]; omega) (by rw [show (1 : Int32).toInt = 1 from rfl]; omega), show (1 : Int32).toInt = 1 from rfl]
  omega
def knkS (s : St) (i : Nat) (y : Int32) : St := (s.1, setT s.2.1 i (upd (s.2.1 i) 4 y), s.2.2)
theorem okS.knk {s : St} {i : Nat} {y : Int32} (hs : okS s) (hi : i < s.2.2) (hy : -20000 ≤ y.toInt ∧ y.toInt ≤ 20000) : okS (knkS s i y) := by
  obtain ⟨⟨hg, hT⟩, h9⟩ := hs
  refine ⟨⟨hg, fun k hk => ?_⟩, h9⟩
  show WT _ (if k = i then upd (s.2.1 i) 4 y else s.2.1 k)
  split
  · exact (hT i hi).cg (fun j h4 _ _ _ => if_neg h4) hy (hT i hi).2.2.2.2.2.1
  · exact hT k hk
def setS (s : St) (k : Nat) (x : Int32) : St := (upd s.1 (2 + k) x, s.2.1, s.2.2)
theorem okS.sets {s : St} {k : Nat} {x : Int32} (hs : okS s) (hk : k < 2) : okS (setS s k x) := by
  obtain ⟨⟨⟨b1, b2, b3, b4, b5, b6⟩, hT⟩, h9⟩ := hs
  have eg : ∀ j, (j < 2 ∨ 4 ≤ j) → upd s.1 (2 + k) x j = s.1 j := fun j hj => if_neg (by omega)
  refine ⟨⟨⟨b1, ?_, ?_, ?_, fun j hj => ?_, ?_⟩, ?_⟩, ?_⟩
  · show upd s.1 (2 + k) x 15 = nI s.2.2
    rw [eg 15 (by omega)]; exact b2
  · show 0 ≤ (upd s.1 (2 + k) x 0).toInt ∧ (upd s.1 (2 + k) x 0).toInt ≤ 10100
    rw [eg 0 (by omega)]; exact b3
  · show -5000 ≤ (upd s.1 (2 + k) x 1).toInt ∧ (upd s.1 (2 + k) x 1).toInt ≤ 5000
    rw [eg 1 (by omega)]; exact b4
  · show 1 ≤ (upd s.1 (2 + k) x (4 + j)).toInt ∧ (upd s.1 (2 + k) x (4 + j)).toInt ≤ 6
    rw [eg _ (by omega)]; exact b5 j hj
  · show 0 ≤ (upd s.1 (2 + k) x 12).toInt ∧ (upd s.1 (2 + k) x 12).toInt ≤ 10 * (upd s.1 (2 + k) x 0).toInt
    rw [eg 12 (by omega), eg 0 (by omega)]; exact b6
  · show ∀ i, i < s.2.2 → WT (upd s.1 (2 + k) x 0).toInt (s.2.1 i)
    rw [eg 0 (by omega)]; exact hT
  · show (upd s.1 (2 + k) x 0).toInt ≤ 9999
    rw [eg 0 (by omega)]; exact h9
/-! adds -/
def RR (B : Int) (S : Mem) (s : St) : Prop := CC S s ∧ LR S 0 s.1 s.2.1 s.2.2 ∧ WSs s ∧ (s.1 0).toInt ≤ B
theorem RR.ok {B : Int} {S : Mem} {s : St} (h : RR B S s) (hB : B ≤ 9999) : okS s := ⟨h.2.2.1, by have := h.2.2.2; omega⟩
theorem F6.fc {P i : Nat} {S S' : Mem} (h : F6 P i S S') : FC S S' := h.fl.fc
theorem LT.mk0 {S : Mem} {P i : Nat} {t : Th} (h : ∀ j, j < 9 → S 15 P 0 (10 * i + j) = t j) (h7 : t 7 = 0) : LT S P i t := ⟨h, fun κ e hκ k hk => absurd hk (by
  have : κ = 0 := (nI_eq0 (by omega)).mp (e.symm.trans h7)
  omega)⟩
theorem LR.add {S S1 S' : Mem} {n : Nat} {g : Gl} {t : Ts} {tn : Th} (hn : n < 6) (h : LR S 0 g t n) (hf : F6 0 n S S1) (hT : LT S1 0 n tn) (e : S' = uc S1 18 0 0 (upd (S1 18 0 0) 15 (nI (n + 1)))) : LR S' 0 (upd g 15 (nI (n + 1))) (fun i => if i = n then tn else t i) (n + 1) := by
  subst e
  refine ⟨⟨by omega, pk_us⟩, fun j hj => ?_, fun i hi => ?_⟩
  · rw [uc_same]
    by_cases c : j = 15
    · rw [c, pk_us, pk_us]
    · rw [pk_un c, pk_un c, hf.2.2 18 0 0 (by omega)]
      exact h.2.1 j hj
  · have h1 := (h.one (ti := tn) hf (fun hh => absurd hh (by omega)))
    show LT _ 0 i (if i = n then tn else t i)
    refine LT.eqs (S := S1) (uc_t (by decide)) (uc_t (by decide)) (uc_t (by decide)) ?_
    by_cases c : i = n
    · rw [if_pos c, c]; exact hT
    · have := h1.2.2 i (by omega)
      exact this
theorem lo_zero {Q : Mem → Int32 → Prop} {K : Mem → Int32 → Prop} {x3 : Int32} {n : Nat} (hn : n < 6) : ∀ (m k : Nat) (S : Mem), k + m = 10 → (∀ j, j < k → S 15 0 0 (10 * n + j) = 0) → (∀ S', F6 0 n S S' → (∀ j, j < 10 → S' 15 0 0 (10 * n + j) = 0) → K S' ((10 : Int32) * nI n)) → vc_L_adds_L37 Q K x3 (m + 1) S ((10 : Int32) * nI n) (nI k) := by
  intro m
  induction m with
  | zero =>
    intro k S hk h0 hK
    have e : k = 10 := by omega
    subst e
    rw [vc_L_adds_L37]
    exact ⟨fun _ => hK S (F6.rf 0 n S) h0, fun c => absurd (show (10 : Int32) ≤ nI 10 by decide) c⟩
  | succ m ih =>
    intro k S hk h0 hK
    rw [vc_L_adds_L37, n10p, nI_clamp (by omega)]
    refine ⟨fun c => absurd c (nI_ge (b := 10) (by omega) (by decide)), fun _ => ⟨vp_in_nI (by omega) (by decide), fun S1 e => ?_⟩⟩
    have f1 : F6 0 n S S1 := F6.u5 (by omega) e
    rw [← nI_succ]
    refine ih (k + 1) S1 (by omega) (fun j hj => ?_) (fun S' hf h' => hK S' (f1.tr hf) h')
    rw [e, uc_same]
    by_cases c : j = k
    · rw [c, pk_us]
    · rw [pk_un (by omega)]; exact h0 j (by omega)
theorem newT_eq (x1 x2 x3 x4 x : Int32) : upd (upd (upd (upd (upd (fun _ => 0) 0 x1) 1 x2) 2 x3) 3 x4) 4 (x + x3) = newT x1 x2 x3 x4 x := funext fun k => by
  unfold newT upd
  by_cases c0 : k = 0
  · subst c0; rfl
  · by_cases c1 : k = 1
    · subst c1; rfl
    · by_cases c2 : k = 2
      · subst c2; rfl
      · by_cases c3 : k = 3
        · subst c3; rfl
        · rw [if_neg c3, if_neg c2, if_neg c1, if_neg c0, if_neg c0, if_neg c1, if_neg c2, if_neg c3]
theorem so_adds {Q : Mem → Int32 → Prop} {S : Mem} {s : St} {x : Int32} {B : Int} (hB : B ≤ 9999) (hr : RR B S s) (hq : ∀ S' s', RR B S' s' → s.2.2 ≤ s'.2.2 ∧ 1 ≤ s'.2.2 → Q S' 1) : vc_L_adds S x Q := by
  obtain ⟨hc, hl, hw, h0⟩ := hr
  have hok : okS s := ⟨hw, by omega⟩
  unfold vc_L_adds
  rw [nc_15, hl.n15]
  refine ⟨nv_15, fun c6 => ⟨nv_15, ?_⟩, fun c6 => ?_⟩
  · have hn : s.2.2 < 6 := by
      have : s.2.2 ≠ 6 := fun e => c6 (by rw [e]; rfl)
      have := hl.1.1
      omega
    refine ⟨11, lo_zero hn 10 0 S (by omega) (fun j hj => absurd hj (by omega)) fun S8 f8 z8 => ?_⟩
    refine so_low (m := 5) (by decide) (by decide) fun k1 hk1 => ⟨by decide, ?_⟩
    have e4 : (nI k1 - nI k1 / (4 : Int32) * (4 : Int32)) = nI (k1 % 4) := pk_rem (d := 4) (by omega) (by decide) (by decide)
    rw [e4]
    have hT8 : LT S8 0 s.2.2 (fun _ => 0) := LT.mk0 (fun j hj => z8 j (by omega)) rfl
    refine ⟨tv_0 hn, fun S13 e13 => ?_⟩
    rw [tc_0 hn] at e13
    have hT13 := hT8.set (j := 0) (by decide) (by decide) e13
    have f13 : F6 0 s.2.2 S8 S13 := F6.u5 (k := 0) (by decide) e13
    refine so_low (m := 9) (by decide) (by decide) fun k2 hk2 => ⟨tv_1 hn, fun S18 e18 => ?_⟩
    rw [tc_1 hn, n1p] at e18
    have hT18 := hT13.set (j := 1) (by decide) (by decide) e18
    have f18 : F6 0 s.2.2 S13 S18 := F6.u5 (by decide) e18
    refine so_low (m := 401) (by decide) (by decide) fun k3 hk3 => ⟨tv_2 hn, fun S23 e23 => ?_⟩
    rw [tc_2 hn] at e23
    have hT23 := hT18.set (j := 2) (by decide) (by decide) e23
    have f23 : F6 0 s.2.2 S18 S23 := F6.u5 (by decide) e23
    refine so_low (m := 5) (by decide) (by decide) fun k4 hk4 => ⟨tv_3 hn, fun S28 e28 => ⟨nv_1, tv_2 hn, tv_4 hn, fun S33 e33 => ⟨nv_15, nv_15, fun S37 e37 => ?_⟩⟩⟩
    rw [tc_3 hn, n1p] at e28
    have hT28 := hT23.set (j := 3) (by decide) (by decide) e28
    have f28 : F6 0 s.2.2 S23 S28 := F6.u5 (by decide) e28
    have fa := (((f8.tr f13).tr f18).tr f23).tr f28
    have g1 : S28 18 0 0 1 = s.1 1 := by rw [fa.2.2 18 0 0 (by omega)]; exact hl.2.1 1 (by decide)
    have g2 : S28 15 0 0 (10 * s.2.2 + 2) = nI k3 - 200 := (hT28.1 2 (by decide)).trans (by rw [pk_un (by decide), pk_us])
    rw [tc_4 hn, nc_1, tc_2 hn, g1, g2] at e33
    have hT33 := hT28.set (j := 4) (by decide) (by decide) e33
    rw [newT_eq] at hT33
    have f33 : F6 0 s.2.2 S28 S33 := F6.u5 (by decide) e33
    have fb := fa.tr f33
    have g15 : S33 18 0 0 15 = nI s.2.2 := by rw [fb.2.2 18 0 0 (by omega)]; exact hl.n15
    rw [g15, ← nI_succ] at e37
    have l37 := hl.add hn fb hT33 e37
    have r15 : S37 15 0 0 = S33 15 0 0 := by rw [e37, uc_t (by decide)]
    have h1 : ∃ ρ, ρ < 4 ∧ nI (k1 % 4) = nI ρ := ⟨k1 % 4, Nat.mod_lt _ (by decide), rfl⟩
    have i2 := nI_toInt (n := 1 + k2) (by omega)
    have i3 : (nI k3 - (200 : Int32)).toInt = (k3 : Int) - 200 := pk_sub_toInt (b := 200) (by omega) (by decide)
    have i4 := nI_toInt (n := 1 + k4) (by omega)
    have fc37 : FC S S37 := fb.fc.tr (by rw [e37]; exact FC.uc (by decide) _)
    have c37 : CC S37 s := hc.fc fc37
    rw [tc_0 hn, tc_1 hn, tc_2 hn, tc_3 hn, r15]
    rw [show S33 15 0 0 (10 * s.2.2) = nI (k1 % 4) from hT33.1 0 (by decide), hT33.1 1 (by decide), hT33.1 2 (by decide), hT33.1 3 (by decide)]
    refine ⟨tv_0 hn, tv_1 hn, tv_2 hn, tv_3 hn, cl_add (x2 := nI (1 + k2)) (x3 := nI k3 - 200) (x4 := nI (1 + k4)) h1 (by omega) (by omega) (by omega) hw (by omega) c37 fun S44 f44 c44 => ⟨nv_15, ?_⟩⟩
    have l44 := l37.fr f44
    have hok2 := okS.add (s := s) (x1 := nI (k1 % 4)) (x2 := nI (1 + k2)) (x3 := nI k3 - 200) (x4 := nI (1 + k4)) (ρ := k1 % 4) hok (by omega) (Nat.mod_lt _ (by decide)) rfl (by omega) (by omega) (by omega)
    have eg : s.1 15 + 1 = nI (s.2.2 + 1) := by rw [hw.1.2.1, nI_succ]
    have l44' : LR S44 0 (addS s (nI (k1 % 4)) (nI (1 + k2)) (nI k3 - 200) (nI (1 + k4))).1 (addS s (nI (k1 % 4)) (nI (1 + k2)) (nI k3 - 200) (nI (1 + k4))).2.1 (s.2.2 + 1) := by
      refine l44.cg (fun k _ => ?_) (fun i _ => rfl)
      show upd s.1 15 (nI (s.2.2 + 1)) k = upd s.1 15 (s.1 15 + 1) k
      rw [eg]
    rw [l44.n15, show nI (s.2.2 + 1) - (1 : Int32) = nI s.2.2 from nI_m1 _]
    refine st_ne rfl (hq S44 (addS s (nI (k1 % 4)) (nI (1 + k2)) (nI k3 - 200) (nI (1 + k4))) ⟨c44, l44', hok2.1, ?_⟩ ⟨?_, ?_⟩)
    · show (upd s.1 15 (s.1 15 + 1) 0).toInt ≤ B
      rw [pk_un (by decide)]
      exact h0
    · show s.2.2 ≤ s.2.2 + 1
      omega
    · show 1 ≤ s.2.2 + 1
      omega
  · have hn : s.2.2 = 6 := nI_inj (by have := hl.1.1; omega) (by decide) c6
    exact cl_count1 hc (st_ne c6 (hq S s ⟨hc, hl, hw, h0⟩ ⟨Nat.le_refl _, by omega⟩))
