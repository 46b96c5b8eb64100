/-! orders carried out -/
def calS (s : St) (i : Nat) : St := (s.1, fun k => if k = i then calT (s.1 1) (s.2.1 i) else s.2.1 k, s.2.2)
def pasS (s : St) (x : Int32) : St := (pasG s.1 s.2.1 s.2.2 x, pasT s.1 s.2.1 s.2.2 x, s.2.2)
def perS (s : St) (k : Nat) (x : Int32) : St := (upd s.1 (4 + k) x, s.2.1, s.2.2)
theorem WT.new {h : Int} {x1 x2 x3 x4 x : Int32} {ρ : Nat} (hρ : ρ < 4) (e1 : x1 = nI ρ) (h2 : 1 ≤ x2.toInt ∧ x2.toInt ≤ 9) (h3 : -200 ≤ x3.toInt ∧ x3.toInt ≤ 200) (h4 : 1 ≤ x4.toInt ∧ x4.toInt ≤ 5) (hx : -5000 ≤ x.toInt ∧ x.toInt ≤ 5000) : WT h (newT x1 x2 x3 x4 x) := by
  refine ⟨⟨ρ, hρ, e1⟩, h2, h3, h4, ?_, Or.inl rfl, 0, Nat.zero_le 6, rfl, fun k hk => absurd hk (Nat.not_lt_zero k), fun k hk => absurd hk (Nat.not_lt_zero _)⟩
  show -20000 ≤ (x + x3).toInt ∧ (x + x3).toInt ≤ 20000
  rw [i_add (by omega) (by omega)]
  omega
theorem WT.cal {h : Int} {t : Th} {x : Int32} (hx : -5000 ≤ x.toInt ∧ x.toInt ≤ 5000) (hw : WT h t) : WT h (calT x t) := by
  obtain ⟨c0, c1, c2, c3, c4, c6, -⟩ := hw
  refine ⟨c0, c1, c2, c3, ?_, Or.inl rfl, 0, Nat.zero_le 6, rfl, fun k hk => absurd hk (Nat.not_lt_zero k), fun k hk => absurd hk (Nat.not_lt_zero _)⟩
  show -20000 ≤ (x + t 2).toInt ∧ (x + t 2).toInt ≤ 20000
  rw [i_add (by omega) (by omega)]
  omega
theorem okS.add {s : St} {x1 x2 x3 x4 : Int32} {ρ : Nat} (hs : okS s) (hn : s.2.2 < 10) (hρ : ρ < 4) (e1 : x1 = nI ρ) (h2 : 1 ≤ x2.toInt ∧ x2.toInt ≤ 9) (h3 : -200 ≤ x3.toInt ∧ x3.toInt ≤ 200) (h4 : 1 ≤ x4.toInt ∧ x4.toInt ≤ 5) : okS (addS s x1 x2 x3 x4) := by
  obtain ⟨g, t, n⟩ := s
  obtain ⟨⟨⟨b1, b2, b3, b4, b5, b6⟩, hT⟩, h9⟩ := hs
  have b2 : g 15 = nI n := b2
  have eg : ∀ k, k ≠ 15 → upd g 15 (g 15 + 1) k = g k := fun k hk => if_neg hk
  have e0 := eg 0 (by decide)
  refine ⟨⟨⟨hn, ?_, ?_, ?_, fun k hk => ?_, ?_⟩, fun i hi => ?_⟩, ?_⟩
  · show g 15 + 1 = nI (n + 1)
    rw [b2, nI_1]
  · show 0 ≤ (upd g 15 (g 15 + 1) 0).toInt ∧ (upd g 15 (g 15 + 1) 0).toInt ≤ 10100
    rw [e0]; exact b3
  · show -5000 ≤ (upd g 15 (g 15 + 1) 1).toInt ∧ (upd g 15 (g 15 + 1) 1).toInt ≤ 5000
    rw [eg 1 (by decide)]; exact b4
  · show 1 ≤ (upd g 15 (g 15 + 1) (4 + k)).toInt ∧ (upd g 15 (g 15 + 1) (4 + k)).toInt ≤ 6
    rw [eg (4 + k) (by omega)]; exact b5 k hk
  · show 0 ≤ (upd g 15 (g 15 + 1) 12).toInt ∧ (upd g 15 (g 15 + 1) 12).toInt ≤ 10 * (upd g 15 (g 15 + 1) 0).toInt
    rw [e0, eg 12 (by decide)]; exact b6
  · show WT (upd g 15 (g 15 + 1) 0).toInt (if i = n then newT x1 x2 x3 x4 (g 1) else t i)
    rw [e0]
    by_cases c : i = n
    · rw [if_pos c]; exact WT.new hρ e1 h2 h3 h4 b4
    · rw [if_neg c]
      have hi' : i < n + 1 := hi
      exact hT i (show i < n by omega)
  · show (upd g 15 (g 15 + 1) 0).toInt ≤ 9999
    rw [e0]; exact h9
theorem okS.cal {s : St} {i : Nat} (hs : okS s) (hi : i < s.2.2) : okS (calS s i) := by
  obtain ⟨⟨hg, hT⟩, h9⟩ := hs
  refine ⟨⟨hg, fun k hk => ?_⟩, h9⟩
  show WT _ (if k = i then calT (s.1 1) (s.2.1 i) else s.2.1 k)
  split
  · exact (hT i hi).cal hg.2.2.2.1
  · exact hT k hk
theorem okS.per {s : St} {k : Nat} {x : Int32} (hs : okS s) (hk : k < 4) (hx : 1 ≤ x.toInt ∧ x.toInt ≤ 6) : okS (perS s k x) := by
  obtain ⟨⟨⟨b1, b2, b3, b4, b5, b6⟩, hT⟩, h9⟩ := hs
  have eg : ∀ j, j ≠ 4 + k → upd s.1 (4 + k) x j = s.1 j := fun j hj => if_neg hj
  refine ⟨⟨⟨b1, ?_, ?_, ?_, fun j hj => ?_, ?_⟩, ?_⟩, ?_⟩
  · show upd s.1 (4 + k) x 15 = _
    rw [eg 15 (by omega)]; exact b2
  · show 0 ≤ (upd s.1 (4 + k) x 0).toInt ∧ (upd s.1 (4 + k) x 0).toInt ≤ 10100
    rw [eg 0 (by omega)]; exact b3
  · show -5000 ≤ (upd s.1 (4 + k) x 1).toInt ∧ (upd s.1 (4 + k) x 1).toInt ≤ 5000
    rw [eg 1 (by omega)]; exact b4
  · show 1 ≤ (upd s.1 (4 + k) x (4 + j)).toInt ∧ (upd s.1 (4 + k) x (4 + j)).toInt ≤ 6
    by_cases c : j = k
    · rw [c, upd_app, if_pos rfl]; exact hx
    · rw [eg _ (by omega)]; exact b5 j hj
  · show 0 ≤ (upd s.1 (4 + k) x 12).toInt ∧ (upd s.1 (4 + k) x 12).toInt ≤ 10 * (upd s.1 (4 + k) x 0).toInt
    rw [eg 12 (by omega), eg 0 (by omega)]; exact b6
  · show ∀ i, i < s.2.2 → WT (upd s.1 (4 + k) x 0).toInt (s.2.1 i)
    rw [eg 0 (by omega)]; exact hT
  · show (upd s.1 (4 + k) x 0).toInt ≤ 9999
    rw [eg 0 (by omega)]; exact h9
theorem okS.pas {s : St} {x : Int32} (hs : okS s) (hx : -5000 ≤ x.toInt ∧ x.toInt ≤ 5000) (h : (s.1 0).toInt ≤ 9998) : okS (pasS s x) := by
  have h0 := hs.1.1.2.2.1
  refine ⟨hs.1.pas hx (by omega), ?_⟩
  show (pasG s.1 s.2.1 s.2.2 x 0).toInt ≤ 9999
  rw [pasG_0, i_add (by rw [show (1 : Int32).toInt = 1 from rfl]; omega) (by rw [show (1 : Int32).toInt = 1 from rfl]; omega), show (1 : Int32).toInt = 1 from rfl]
  omega
theorem sp_has {S : Mem} {P n : Nat} {x : Int32} {Q : Mem → Int32 → Prop} (hn : n ≤ 10) (h6 : S 3 P 0 6 = nI n) (hy : ∀ i, i < n → x = nI i → Q S 1) (hq : (∀ i, i < n → ¬ x = nI i) → Q S 0) : vc_X3_has S P x Q := by
  unfold vc_X3_has
  rw [h6]
  refine ⟨fun c => hq (fun i hi e => ?_), fun c => ?_⟩
  · rw [e] at c; exact absurd c (nI_pos (by omega))
  · obtain ⟨j, hj, e⟩ := nI_of c
    rw [e]
    refine ⟨fun c2 => hq (fun i hi e2 => ?_), fun c2 => hy j ?_ e⟩
    · have := (nI_leI (by omega) hj).mp c2
      have := nI_inj hj (by omega) (e.symm.trans e2)
      omega
    · by_cases hh : n ≤ j
      · exact absurd ((nI_leI (by omega) hj).mpr hh) c2
      · omega
theorem sx_is {S : Mem} {n : Nat} {g : Gl} {t : Ts} {x : Int32} {Q : Mem → Int32 → Prop} (hn : n ≤ 10) (hg : g 15 = nI n) (h : MR S g t) (hy : ∀ i, i < n → x = nI i → Q S 1) (hq : (∀ i, i < n → ¬ x = nI i) → Q S 0) : vc_X7_is S x Q := by
  unfold vc_X7_is
  rw [h.g15, hg]
  have e1 : (nI n - 1).toInt = (n : Int) - 1 := by
    rw [i_sub (by rw [nI_toInt (by omega), show (1 : Int32).toInt = 1 from rfl]; omega) (by rw [nI_toInt (by omega), show (1 : Int32).toInt = 1 from rfl]; omega), nI_toInt (by omega)]
    rfl
  refine ⟨vv15, fun c => ⟨Or.inl rfl, hq (fun i hi e => ?_)⟩, fun c => ?_⟩
  · rw [e] at c; exact absurd c (nI_pos (by omega))
  · obtain ⟨j, hj, e⟩ := nI_of c
    have ej : x.toInt = j := by rw [e]; exact nI_toInt hj
    refine ⟨fun c2 => ⟨Or.inl rfl, hq (fun i hi e2 => ?_)⟩, fun c2 => ⟨Or.inr rfl, hy j ?_ e⟩⟩
    · have := i_lt.mp c2
      have := nI_inj hj (by omega) (e.symm.trans e2)
      omega
    · have := i_le.mp (i_nlt.mp c2)
      omega
def exB (s : St) (o : Od) : Bool := if o.1 = 116 then decide (s.2.2 < 10) else if o.1 = 104 then decide ((s.1 0).toInt ≤ 9998) else if o.1 = 112 then true else decide (o.2.1.toInt < (s.2.2 : Int))
def exD (s : St) (o : Od) : St := if o.1 = 116 then addS s o.2.1 o.2.2.1 0 o.2.2.2 else if o.1 = 104 then pasS s (100 * o.2.1) else if o.1 = 112 then perS s o.2.1.toNatClampNeg o.2.2.1 else calS s o.2.1.toNatClampNeg
theorem exB_t {s : St} {x y z : Int32} : exB s (116, x, y, z) = decide (s.2.2 < 10) := rfl
theorem exB_h {s : St} {x y z : Int32} : exB s (104, x, y, z) = decide ((s.1 0).toInt ≤ 9998) := rfl
theorem exB_p {s : St} {x y z : Int32} : exB s (112, x, y, z) = true := rfl
theorem exB_c {s : St} {k : Nat} {y z : Int32} (hk : k < 10) : exB s (99, nI k, y, z) = decide (k < s.2.2) := by
  show decide ((nI k).toInt < (s.2.2 : Int)) = _
  rw [nI_toInt (by omega)]
  exact decide_eq_decide.mpr (by omega)
theorem exD_t {s : St} {x y z : Int32} : exD s (116, x, y, z) = addS s x y 0 z := rfl
theorem exD_h {s : St} {x y z : Int32} : exD s (104, x, y, z) = pasS s (100 * x) := rfl
theorem exD_p {s : St} {k : Nat} {y z : Int32} (hk : k < 4) : exD s (112, nI k, y, z) = perS s k y := by
  show perS s (nI k).toNatClampNeg y = _
  rw [nI_clamp (by omega)]
theorem exD_c {s : St} {k : Nat} {y z : Int32} (hk : k < 10) : exD s (99, nI k, y, z) = calS s k := by
  show calS s (nI k).toNatClampNeg = _
  rw [nI_clamp (by omega)]
theorem deg_rng {x : Int32} (h : -50 ≤ x.toInt ∧ x.toInt ≤ 50) : -5000 ≤ (100 * x).toInt ∧ (100 * x).toInt ≤ 5000 := by
  have h1 : (100 : Int32).toInt = 100 := rfl
  rw [i_mul (by rw [h1]; omega) (by rw [h1]; omega), h1]
  omega
theorem exD_ok {s : St} {o : Od} (hs : okS s) (ho : WO o) (hb : exB s o = true) : okS (exD s o) := by
  rcases ho with ⟨ρ, k, w, hρ, hk, hw, e⟩ | ⟨x, hx, e⟩ | ⟨ρ, k, hρ, hk, e⟩ | ⟨k, hk, e⟩
  all_goals subst e
  · rw [exB_t] at hb
    rw [exD_t]
    exact hs.add (of_decide_eq_true hb) hρ rfl (by rw [nI_toInt (by omega)]; omega) (by decide) (by rw [nI_toInt (by omega)]; omega)
  · rw [exB_h] at hb
    rw [exD_h]
    exact hs.pas (deg_rng hx) (of_decide_eq_true hb)
  · rw [exD_p hρ]
    exact hs.per hρ (by rw [nI_toInt (by omega)]; omega)
  · rw [exB_c hk] at hb
    rw [exD_c hk]
    exact hs.cal (of_decide_eq_true hb)
theorem PRs.n {S : Mem} {P : Nat} {s : St} (h : PRs S P s) : S 3 P 0 6 = nI s.2.2 := h.2.1.2
theorem sp_room {S : Mem} {P n : Nat} {Q : Mem → Int32 → Prop} (hn : n ≤ 10) (h6 : S 3 P 0 6 = nI n) (hq : Q S (if n < 10 then 1 else 0)) : vc_X3_hasRoom S P Q := by
  unfold vc_X3_hasRoom
  rw [h6]
  refine ⟨fun c => ?_, fun c => ?_⟩
  · have := (nI_leI (a := 10) (by omega) (by omega)).mp c
    rw [if_neg (by omega)] at hq; exact hq
  · rw [if_pos (by
      by_cases hh : 10 ≤ n
      · exact absurd ((nI_leI (a := 10) (by omega) (by omega)).mpr hh) c
      · omega)] at hq; exact hq
theorem sp_left {S : Mem} {P : Nat} {x h : Int32} {Q : Mem → Int32 → Prop} (h7 : S 3 P 0 7 = h) (hx : 0 ≤ x.toInt ∧ x.toInt ≤ 100) (hq : Q S (if h.toInt + x.toInt ≤ 9999 then 1 else 0)) : vc_X3_hasHoursLeft S P x Q := by
  have h1 : (9999 : Int32).toInt = 9999 := rfl
  have e : ((9999 : Int32) - x).toInt = 9999 - x.toInt := by rw [i_sub (by rw [h1]; omega) (by rw [h1]; omega), h1]
  unfold vc_X3_hasHoursLeft
  rw [h7]
  refine ⟨fun c => ?_, fun c => ?_⟩
  · have := i_lt.mp c
    rw [if_neg (by omega)] at hq; exact hq
  · have := i_le.mp (i_nlt.mp c)
    rw [if_pos (by omega)] at hq; exact hq
theorem sp_ex {S : Mem} {s : St} {o : Od} {Q : Mem → Int32 → Prop} (hs : okS s) (hP : PRs S 0 s) (ho : WO o) (hc : OdC (S 2 0 0) o) (hy : exB s o = true → ∀ S', FrP 0 S S' → PRs S' 0 (exD s o) → Q S' 1) (hn : exB s o = false → Q S 0) : vc_X6_carriesOut S Q := by
  obtain ⟨c4, c5, c6, c7, c8⟩ := hc
  have hn10 : s.2.2 ≤ 10 := hs.1.1.1
  unfold vc_X6_carriesOut
  rcases ho with ⟨ρ, k, w, hρ, hk, hw, e⟩ | ⟨x, hx, e⟩ | ⟨ρ, k, hρ, hk, e⟩ | ⟨k, hk, e⟩
  all_goals subst e
  · have c5 : S 2 0 0 5 = nI ρ := c5 (Or.inl rfl)
    have c6 : S 2 0 0 6 = nI k := c6 (Or.inl rfl)
    have c7 : S 2 0 0 7 = nI w := c7 rfl
    have c4 : S 2 0 0 4 = 0 := c4.trans kCl_t
    rw [exB_t] at hy hn
    rw [c4]
    refine ⟨fun _ => sp_room hn10 hP.n ⟨fun c => ?_, fun c => ?_⟩, fun c => absurd rfl c⟩
    · have hlt : s.2.2 < 10 := by
        by_cases hh : s.2.2 < 10
        · exact hh
        · rw [if_neg hh] at c; exact absurd rfl c
      rw [c5, c6, c7]
      exact sp_add (by decide) hlt hP fun S' hf h' => hy (decide_eq_true hlt) S' hf h'
    · refine hn (decide_eq_false (fun hh => ?_))
      rw [if_pos hh] at c; exact absurd c (by decide)
  · have c6 : S 2 0 0 6 = x := c8 (Or.inl rfl)
    have c4 : S 2 0 0 4 = 1 := c4.trans kCl_h
    rw [exB_h] at hy hn
    rw [c4]
    refine ⟨fun c => absurd (show (1 : Int32) = 0 from c) (by decide), fun _ => ⟨fun _ => sp_left (x := 1) hP.1.1 (by decide) ⟨fun c => ?_, fun c => ?_⟩, fun c => absurd rfl c⟩⟩
    · have hlt : (s.1 0).toInt + (1 : Int32).toInt ≤ 9999 := by
        by_cases hh : (s.1 0).toInt + (1 : Int32).toInt ≤ 9999
        · exact hh
        · rw [if_neg hh] at c; exact absurd rfl c
      have h1 : (1 : Int32).toInt = 1 := rfl
      rw [c6, Int32.mul_comm]
      exact sp_pass (by decide) hs.1 (by omega) hP fun S' hf h' => hy (decide_eq_true (by omega)) S' hf h'
    · refine hn (decide_eq_false (fun hh => ?_))
      have h1 : (1 : Int32).toInt = 1 := rfl
      rw [if_pos (by omega)] at c; exact absurd c (by decide)
  · have c5 : S 2 0 0 5 = nI ρ := c5 (Or.inr rfl)
    have c6 : S 2 0 0 6 = nI k := c6 (Or.inr rfl)
    have c4 : S 2 0 0 4 = 2 := c4.trans kCl_p
    rw [exD_p hρ] at hy
    rw [c4]
    refine ⟨fun c => absurd (show (2 : Int32) = 0 from c) (by decide), fun _ => ⟨fun c => absurd (show (2 : Int32) = 1 from c) (by decide), fun _ => ⟨fun _ => ?_, fun c => absurd rfl c⟩⟩⟩
    rw [c5, c6]
    exact sp_period hρ hP fun S' hf h' => hy exB_p S' hf h'
  · have c6 : S 2 0 0 6 = nI k := c8 (Or.inr rfl)
    rw [exB_c hk] at hy hn
    have c4 : S 2 0 0 4 = 3 := c4.trans kCl_c
    rw [exD_c hk] at hy
    rw [c4]
    refine ⟨fun c => absurd (show (3 : Int32) = 0 from c) (by decide), fun _ => ⟨fun c => absurd (show (3 : Int32) = 1 from c) (by decide), fun _ => ⟨fun c => absurd (show (3 : Int32) = 2 from c) (by decide), fun _ => ?_⟩⟩⟩
    rw [c6]
    refine sp_has hn10 hP.n (fun i hi e => ⟨fun _ => ?_, fun c => absurd c (by decide)⟩) (fun no => ⟨fun c => absurd rfl c, fun _ => hn (decide_eq_false (fun hh => no k hh rfl))⟩)
    have ei : k = i := nI_inj (by omega) (by omega) e
    subst ei
    rw [c6]
    refine sp_at (i := k) (by omega) ⟨⟨by decide, by omega⟩, ?_⟩
    rw [hP.1.2.1]
    exact sp_cal (hP.2.2 k hi) fun S' hf hT => hy (decide_eq_true hi) S' hf.P (hP.one hf hT)
theorem sx_can {S : Mem} {s : St} {o : Od} {j : Nat} {Q : Mem → Int32 → Prop} (hs : okS s) (hm : MR S s.1 s.2.1) (ho : WO o) (hj : j < 30) (hc : OdM (fun t => S t 0 0) j o) (hq : Q S (if exB s o = true then 1 else 0)) : vc_X7_canDo S (nI j) Q := by
  obtain ⟨c4, c5, c6, c7⟩ := hc
  have c4 : S 24 0 0 j = o.1 := c4
  have c5 : S 25 0 0 j = o.2.1 := c5
  have hn10 : s.2.2 ≤ 10 := hs.1.1.1
  have hg : s.1 15 = nI s.2.2 := hs.1.1.2.1
  have vj : vp_in (nI j) 30 := vp_in_nI hj (by decide)
  unfold vc_X7_canDo
  rw [nI_clamp (by omega), c4, c5, hm.g0, hm.g15, hg]
  rcases ho with ⟨ρ, k, w, hρ, hk, hw, e⟩ | ⟨x, hx, e⟩ | ⟨ρ, k, hρ, hk, e⟩ | ⟨k, hk, e⟩
  all_goals subst e
  · rw [exB_t] at hq
    refine ⟨vj, fun c => absurd rfl c, fun _ => ⟨vv15, fun c => ?_, fun c => ?_⟩⟩
    · have := (nI_leI (a := 10) (by omega) (by omega)).mp c
      rw [if_neg (fun hh => absurd (of_decide_eq_true hh) (by omega))] at hq; exact hq
    · have : s.2.2 < 10 := by
        by_cases hh : 10 ≤ s.2.2
        · exact absurd ((nI_leI (a := 10) (by omega) (by omega)).mpr hh) c
        · omega
      rw [if_pos (decide_eq_true this)] at hq; exact hq
  · rw [exB_h] at hq
    have h1 : (9999 : Int32).toInt = 9999 := rfl
    refine ⟨vj, fun _ => ⟨vj, fun c => absurd rfl c, fun _ => ⟨vv0, fun c => ?_, fun c => ?_⟩⟩, fun c => absurd (show (104 : Int32) = 116 from c) (by decide)⟩
    · have := i_le.mp c
      rw [if_neg (fun hh => absurd (of_decide_eq_true hh) (by omega))] at hq; exact hq
    · have := i_lt.mp (i_nle.mp c)
      rw [if_pos (decide_eq_true (by omega))] at hq; exact hq
  · rw [exB_p, if_pos rfl] at hq
    exact ⟨vj, fun _ => ⟨vj, fun _ => ⟨vj, fun _ => hq, fun c => absurd rfl c⟩, fun c => absurd (show (112 : Int32) = 104 from c) (by decide)⟩, fun c => absurd (show (112 : Int32) = 116 from c) (by decide)⟩
  · rw [exB_c hk] at hq
    refine ⟨vj, fun _ => ⟨vj, fun _ => ⟨vj, fun c => absurd (show (99 : Int32) = 112 from c) (by decide), fun _ => ⟨vj, sx_is hn10 hg hm (fun i hi e => ⟨fun c => absurd c (by decide), fun _ => ?_⟩) (fun no => ⟨fun _ => ?_, fun c => absurd rfl c⟩)⟩⟩, fun c => absurd (show (99 : Int32) = 104 from c) (by decide)⟩, fun c => absurd (show (99 : Int32) = 116 from c) (by decide)⟩
    · have ei : k = i := nI_inj (by omega) (by omega) e
      rw [if_pos (decide_eq_true (by omega))] at hq; exact hq
    · rw [if_neg (fun hh => no k (of_decide_eq_true hh) rfl)] at hq; exact hq
theorem sx_do {S : Mem} {s : St} {o : Od} {j : Nat} {Q : Mem → Int32 → Prop} (hs : okS s) (hm : MR S s.1 s.2.1) (ho : WO o) (hj : j < 30) (hc : OdM (fun t => S t 0 0) j o) (hb : exB s o = true) (hq : ∀ S' r, FrM S S' → MR S' (exD s o).1 (exD s o).2.1 → Q S' r) : vc_X7_doOrder S (nI j) Q := by
  obtain ⟨c4, c5, c6, c7⟩ := hc
  have c4 : S 24 0 0 j = o.1 := c4
  have c5 : S 25 0 0 j = o.2.1 := c5
  have hn10 : s.2.2 ≤ 10 := hs.1.1.1
  have hg : s.1 15 = nI s.2.2 := hs.1.1.2.1
  have vj : vp_in (nI j) 30 := vp_in_nI hj (by decide)
  unfold vc_X7_doOrder
  rw [nI_clamp (by omega), c4, c5]
  rcases ho with ⟨ρ, k, w, hρ, hk, hw, e⟩ | ⟨x, hx, e⟩ | ⟨ρ, k, hρ, hk, e⟩ | ⟨k, hk, e⟩
  all_goals subst e
  · rw [exB_t] at hb
    have c6 : S 26 0 0 j = nI k := c6 (Or.inl rfl)
    have c7 : S 27 0 0 j = nI w := c7 rfl
    rw [c6, c7]
    exact ⟨vj, fun c => absurd (show (116 : Int32) = 104 from c) (by decide), fun _ => ⟨fun c => absurd (show (116 : Int32) = 112 from c) (by decide), fun _ => ⟨fun _ => ⟨vj, vj, vj, sx_add (of_decide_eq_true hb) hg hm fun S' hf h' => hq S' _ hf h'⟩, fun c => absurd rfl c⟩⟩⟩
  · rw [exB_h] at hb
    have := of_decide_eq_true hb
    exact ⟨vj, fun _ => ⟨vj, sx_pass hs.1 (deg_rng hx) (by omega) hm fun S' hf h' => hq S' _ hf h'⟩, fun c => absurd rfl c⟩
  · have c6 : S 26 0 0 j = nI k := c6 (Or.inr rfl)
    rw [c6]
    rw [exD_p hρ] at hq
    exact ⟨vj, fun c => absurd (show (112 : Int32) = 104 from c) (by decide), fun _ => ⟨fun _ => ⟨vj, vj, sx_per hρ hm fun S' hf h' => hq S' _ hf h'⟩, fun c => absurd rfl c⟩⟩
  · rw [exB_c hk] at hb
    rw [exD_c hk] at hq
    refine ⟨vj, fun c => absurd (show (99 : Int32) = 104 from c) (by decide), fun _ => ⟨fun c => absurd (show (99 : Int32) = 112 from c) (by decide), fun _ => ⟨fun c => absurd (show (99 : Int32) = 116 from c) (by decide), fun _ => ⟨vj, sx_cal hk hm fun S' hf h' => hq S' _ hf h'⟩⟩⟩⟩
