theorem dueT_tk {g : Gl} {ρ : Nat} (hρ : ρ < 4) : dueT (tickG g 4) (nI ρ) ↔ dueT g (nI ρ) := dueT_cg (tickG_k (by omega) (by decide)) (fun k hk => tickG_k (by omega) (by decide)) hρ
abbrev cmC (g : Gl) (t : Ts) (n i : Nat) : Prop := askT (t i) ∧ dueT g (t i 0) ∧ ¬ midV t (nI i) n = -999999
def cmB (g : Gl) (t : Ts) (n : Nat) : Nat → Bool := fun i => decide (cmC g t n i)
def cmM (g : Gl) (t : Ts) (n m : Nat) : Ts := fun i => if i < m ∧ cmC g t n i then cmpT (midV t (nI i) n) (g 2) (t i) else t i
theorem cmM_same (g : Gl) (t : Ts) (n m i : Nat) : (askT (cmM g t n m i) ↔ askT (t i)) ∧ mended (cmM g t n m i) = mended (t i) ∧ cmM g t n m i 0 = t i 0 ∧ cmM g t n m i 7 = t i 7 := by
  unfold cmM
  by_cases c : i < m ∧ cmC g t n i
  · rw [if_pos c]
    refine ⟨?_, cmpT_m, cmpT_k (by decide), cmpT_k (by decide)⟩
    unfold askT
    rw [cmpT_k (k := 7) (by decide), cmpT_k (k := 6) (by decide)]
  · rw [if_neg c]; exact ⟨Iff.rfl, rfl, rfl, rfl⟩
theorem cmM_wt {g : Gl} {t : Ts} {n m i : Nat} {h : Int} (hw : WT h (t i)) : WT h (cmM g t n m i) := by
  unfold cmM
  split
  · exact hw.cmp
  · exact hw
theorem cntS_k {g : Gl} {t : Ts} {n : Nat} {c : Nat → Bool} {i : Nat} : cntS g t n c (i + 1) = if c i = true ∧ ¬ iabs (mended (t i) - midV t (nI i) n) ≤ g 2 then cntS g t n c i + 1 else cntS g t n c i := rfl
def outM (g : Gl) (t0 t : Ts) (n m : Nat) : Ts := fun i => if i < m ∧ cmC g t0 n i then outT (g 3) (t i) else t i
theorem mendB_rng {h : Int} {t : Th} {lag : Int32} (hw : WT h t) (hl : 1 ≤ lag.toInt ∧ lag.toInt ≤ 9) (h7 : ¬ t 7 = 0) : -340200 ≤ (mendB t lag).toInt ∧ (mendB t lag).toInt ≤ 340200 := by
  obtain ⟨c0, c1, c2, c3, c4, c6, κ, d1, d2, d3, d4⟩ := hw
  have k0 : 0 < κ := by
    rcases Nat.eq_zero_or_pos κ with e | e
    · rw [e] at d2; exact absurd d2 h7
    · exact e
  have a0 := (d3 0 k0).1
  have a0' : -20000 ≤ (t 10).toInt ∧ (t 10).toInt ≤ 20000 := a0
  unfold mendB
  rw [if_neg h7]
  by_cases c : 1 < t 7
  · rw [if_pos c]
    have k1 : 1 < κ := by
      rw [d2] at c
      exact (nI_ltI (by omega) (by omega)).mp (show nI 1 < nI κ from c)
    have a1 : -20000 ≤ (t 12).toInt ∧ (t 12).toInt ≤ 20000 := (d3 1 k1).1
    have hd : (t 11).toInt < (t 9).toInt := d4 0 k1
    have b0 : 0 ≤ (t 9).toInt := (d3 0 k0).2.1
    have b1 : 0 ≤ (t 11).toInt := (d3 1 k1).2.1
    have r9 := i_rng (t 9)
    have r11 := i_rng (t 11)
    have one : (1 : Int32).toInt = 1 := rfl
    have e1 : (t 10 - t 12).toInt = (t 10).toInt - (t 12).toInt := i_sub (by omega) (by omega)
    have e2 : (lag - 1).toInt = lag.toInt - 1 := by rw [i_sub (by omega) (by omega), one]
    have m1 : -320000 ≤ ((t 10).toInt - (t 12).toInt) * (lag.toInt - 1) ∧ ((t 10).toInt - (t 12).toInt) * (lag.toInt - 1) ≤ 320000 := by
      have q : lag.toInt = 1 ∨ lag.toInt = 2 ∨ lag.toInt = 3 ∨ lag.toInt = 4 ∨ lag.toInt = 5 ∨ lag.toInt = 6 ∨ lag.toInt = 7 ∨ lag.toInt = 8 ∨ lag.toInt = 9 := by omega
      rcases q with q | q | q | q | q | q | q | q | q <;> rw [q] <;> omega
    have e3 : ((t 10 - t 12) * (lag - 1)).toInt = ((t 10).toInt - (t 12).toInt) * (lag.toInt - 1) := by rw [i_mul (by rw [e1, e2]; omega) (by rw [e1, e2]; omega), e1, e2]
    have e4 : (t 9 - t 11).toInt = (t 9).toInt - (t 11).toInt := i_sub (by omega) (by omega)
    have e5 : ((t 10 - t 12) * (lag - 1) / (t 9 - t 11)).toInt = (((t 10).toInt - (t 12).toInt) * (lag.toInt - 1)).tdiv ((t 9).toInt - (t 11).toInt) := by rw [i_div (by omega), e3, e4]
    have hb := tdiv_between (a := ((t 10).toInt - (t 12).toInt) * (lag.toInt - 1)) (b := (t 9).toInt - (t 11).toInt) (by omega)
    have hb2 : -320000 ≤ (((t 10).toInt - (t 12).toInt) * (lag.toInt - 1)).tdiv ((t 9).toInt - (t 11).toInt) ∧ (((t 10).toInt - (t 12).toInt) * (lag.toInt - 1)).tdiv ((t 9).toInt - (t 11).toInt) ≤ 320000 := by
      generalize ((t 10).toInt - (t 12).toInt) * (lag.toInt - 1) = X at *
      rcases Int.le_total 0 X with hc | hc
      · have := hb.1 hc; omega
      · have := hb.2 hc; omega
    have e6 : (t 10 + (t 10 - t 12) * (lag - 1) / (t 9 - t 11)).toInt = (t 10).toInt + (((t 10).toInt - (t 12).toInt) * (lag.toInt - 1)).tdiv ((t 9).toInt - (t 11).toInt) := by rw [i_add (by rw [e5]; omega) (by rw [e5]; omega), e5]
    rw [i_sub (by rw [e6]; omega) (by rw [e6]; omega), e6]
    omega
  · rw [if_neg c]
    rw [i_sub (by omega) (by omega)]
    omega
theorem insA_all {p : Int32 → Prop} : ∀ (m : Nat) (z : Nat → Int32) (x : Int32) (N : Nat), m ≤ N → (∀ k, k < N → k ≠ m → p (z k)) → (∀ k, m < k → k < N + 1 → p (z k)) → p x → (∀ k, k < m → p (z k)) → ∀ k, k < N + 1 → p (insA z m x k)
  | 0, z, x, N, hm, h1, h2, hx, _, k, hk => by
    rw [insA, upd_app]
    by_cases e : k = 0
    · rw [if_pos e]; exact hx
    · rw [if_neg e]; exact h2 k (by omega) hk
  | m + 1, z, x, N, hm, h1, h2, hx, h3, k, hk => by
    rw [insA]
    by_cases c : z m ≤ x
    · rw [if_pos c, upd_app]
      by_cases e : k = m + 1
      · rw [if_pos e]; exact hx
      · rw [if_neg e]
        by_cases e2 : k < m + 1
        · exact h3 k e2
        · exact h2 k (by omega) hk
    · rw [if_neg c]
      refine insA_all m _ x N (by omega) (fun k' hk' hne => ?_) (fun k' hk' hk2 => ?_) hx (fun k' hk' => ?_) k hk
      · rw [upd_app]
        by_cases e : k' = m + 1
        · rw [if_pos e]; exact h3 m (by omega)
        · rw [if_neg e]; exact h1 k' hk' e
      · rw [upd_app]
        by_cases e : k' = m + 1
        · rw [if_pos e]; exact h3 m (by omega)
        · rw [if_neg e]; exact h2 k' (by omega) hk2
      · rw [upd_app, if_neg (by omega)]; exact h3 k' (by omega)
theorem midS_all {p : Int32 → Prop} {t : Ts} {ex : Int32} {n : Nat} (h : ∀ i, i < n → askT (t i) → p (mended (t i))) : ∀ i, i ≤ n → ∀ k, k < (midS t ex i).2 → p ((midS t ex i).1 k)
  | 0, _, k, hk => absurd hk (Nat.not_lt_zero k)
  | i + 1, hi, k, hk => by
    have ih := midS_all (ex := ex) h i (by omega)
    by_cases c : ¬ nI i = ex ∧ askT (t i)
    · have e : midS t ex (i + 1) = (insA (midS t ex i).1 (midS t ex i).2 (mended (t i)), (midS t ex i).2 + 1) := by rw [midS, if_pos c]
      rw [e] at hk ⊢
      exact insA_all _ _ _ (midS t ex i).2 (Nat.le_refl _) (fun k' hk' _ => ih k' hk') (fun k' h1 h2 => absurd h1 (by omega)) (h i (by omega) c.2) ih k hk
    · have e : midS t ex (i + 1) = midS t ex i := by rw [midS, if_neg c]
      rw [e] at hk ⊢
      exact ih k hk
theorem midS_cnt {t : Ts} {x n : Nat} (hx : askT (t x)) (hn : n ≤ 10) (hxn : x < n) : ∀ i, i ≤ n → (midS t (nI x) i).2 + (if x < i then 1 else 0) = cntK t i
  | 0, _ => by rw [if_neg (by omega)]; rfl
  | i + 1, hi => by
    have ih := midS_cnt hx hn hxn i (by omega)
    by_cases e : i = x
    · subst e
      have e1 : midS t (nI i) (i + 1) = midS t (nI i) i := by rw [midS, if_neg (fun hh => hh.1 rfl)]
      rw [e1, cntK, if_pos hx, if_pos (by omega)]
      rw [if_neg (by omega)] at ih
      omega
    · have ne : ¬ nI i = nI x := fun hh => e (nI_inj (by omega) (by omega) hh)
      by_cases c : askT (t i)
      · have e1 : midS t (nI x) (i + 1) = (insA (midS t (nI x) i).1 (midS t (nI x) i).2 (mended (t i)), (midS t (nI x) i).2 + 1) := by rw [midS, if_pos ⟨ne, c⟩]
        rw [e1, cntK, if_pos c]
        by_cases cx : x < i
        · rw [if_pos cx] at ih; rw [if_pos (by omega)]; simp only; omega
        · rw [if_neg cx] at ih; rw [if_neg (by omega)]; simp only; omega
      · have e1 : midS t (nI x) (i + 1) = midS t (nI x) i := by rw [midS, if_neg (fun hh => c hh.2)]
        rw [e1, cntK, if_neg c]
        by_cases cx : x < i
        · rw [if_pos cx] at ih; rw [if_pos (by omega)]; exact ih
        · rw [if_neg cx] at ih; rw [if_neg (by omega)]; exact ih
theorem askT_ne {t : Th} (h : askT t) : ¬ t 7 = 0 := fun e => by
  have := h.1
  rw [e] at this
  exact absurd this (by decide)
theorem midV_none {t : Ts} {ex : Int32} {n : Nat} (hw : ∀ i, i < n → ∃ h, WT h (t i)) : midV t ex n = -999999 ↔ (midS t ex n).2 = 0 := by
  unfold midV
  by_cases c : (midS t ex n).2 = 0
  · rw [if_pos c]; exact ⟨fun _ => c, fun _ => rfl⟩
  · rw [if_neg c]
    refine ⟨fun e => ?_, fun e => absurd e c⟩
    have := midS_all (p := fun x => -340200 ≤ x.toInt) (t := t) (ex := ex) (n := n) (fun i hi ha => by
      obtain ⟨h, hw⟩ := hw i hi
      exact (mendB_rng hw hw.2.1 (askT_ne ha)).1) n (Nat.le_refl n) (((midS t ex n).2 - 1) / 2) (by omega)
    rw [e] at this
    exact absurd this (by decide)
theorem cmC_iff {g : Gl} {t : Ts} {n i : Nat} (hn : n ≤ 10) (hi : i < n) (hw : ∀ i, i < n → ∃ h, WT h (t i)) (hd : dueT g (t i 0) ↔ t i 9 = g 0) : cmC g t n i ↔ askR g (t i) ∧ 2 ≤ cntK t n := by
  unfold cmC askR
  rw [midV_none hw, hd]
  by_cases ha : askT (t i)
  · have := midS_cnt ha hn hi n (Nat.le_refl n)
    rw [if_pos hi] at this
    constructor
    · intro hh
      exact ⟨⟨ha, hh.2.1⟩, by omega⟩
    · intro hh
      exact ⟨ha, hh.1.2, by omega⟩
  · exact ⟨fun hh => absurd hh.1 ha, fun hh => absurd hh.1.1 ha⟩
theorem cntS_cg {g : Gl} {t : Ts} {n : Nat} {c c' : Nat → Bool} : ∀ m, m ≤ n → (∀ k, k < n → c k = c' k) → cntS g t n c m = cntS g t n c' m
  | 0, _, _ => rfl
  | m + 1, hm, h => by rw [cntS_k, cntS_k, h m (by omega), cntS_cg m (by omega) h]
theorem cntS_0 {g : Gl} {t : Ts} {n : Nat} {c : Nat → Bool} : ∀ m, m ≤ n → (∀ k, k < n → c k = false) → cntS g t n c m = 0
  | 0, _, _ => rfl
  | m + 1, hm, h => by rw [cntS_k, h m (by omega), if_neg (fun hh => absurd hh.1 (by decide)), cntS_0 m (by omega) h]
theorem cntD_0 {g : Gl} {t : Ts} : ∀ m, cntD g t m = 0 → ∀ i, i < m → ¬ dueT g (t i 0)
  | 0, _, i, hi => absurd hi (by omega)
  | m + 1, h, i, hi => by
    rw [cntD] at h
    by_cases c : dueT g (t m 0)
    · rw [if_pos c] at h; omega
    · rw [if_neg c] at h
      by_cases e : i = m
      · rw [e]; exact c
      · exact cntD_0 m h i (by omega)
theorem pasU_due {g : Gl} {t : Ts} {n : Nat} {x : Int32} (hw : WS g t n) (h0 : (g 0).toInt < 10100) {i : Nat} (hi : i < n) : (dueT (pasR g t n x) (pasU g t n x i 0) ↔ dueT (tickG (preG g t n x) 4) (folA x t n i 0)) ∧ (askT (pasU g t n x i) → (dueT (pasR g t n x) (pasU g t n x i 0) ↔ pasU g t n x i 9 = pasR g t n x 0)) := by
  obtain ⟨⟨b1, b2, b3, b4, b5, b6⟩, hT⟩ := hw
  obtain ⟨⟨ρ, hρ, eρ⟩, c1, c2, c3, c4, c6, κ, d1, d2, d3, d4⟩ := hT i hi
  have hh : (g 0 + 1).toInt = (g 0).toInt + 1 := i_add (by rw [show (1 : Int32).toInt = 1 from rfl]; omega) (by rw [show (1 : Int32).toInt = 1 from rfl]; omega)
  have ef : folA x t n i 0 = nI ρ := (folA_k (by decide)).trans eρ
  have eu : pasU g t n x i 0 = nI ρ := by
    unfold pasU rrT rdT
    split
    · exact (readT_k (by decide)).trans ef
    · exact ef
  have ed : dueT (pasR g t n x) (nI ρ) ↔ dueT (tickG (preG g t n x) 4) (nI ρ) := by
    unfold pasR rrG
    exact dueT_cg (rdG_k (by decide)) (fun k hk => rdG_k (by omega)) hρ
  rw [eu, ef]
  refine ⟨ed, fun ha => ?_⟩
  rw [ed, pasR_0]
  have e0 : tickG (preG g t n x) 4 0 = g 0 + 1 := by rw [tickG_k (by omega) (by decide), preG_0]
  by_cases c : dueT (tickG (preG g t n x) 4) (nI ρ)
  · refine ⟨fun _ => ?_, fun _ => c⟩
    unfold pasU rrT rdT
    rw [if_pos ⟨hi, by rw [ef]; exact c⟩, e0]
    rfl
  · refine ⟨fun hc => absurd hc c, fun hc => ?_⟩
    have e1 : pasU g t n x i = folA x t n i := by
      unfold pasU rrT rdT
      exact if_neg (fun h9 => c (by have := h9.2; rw [ef] at this; exact this))
    rw [e1] at ha hc
    have h7 := askT_ne ha
    rw [folA_k (by decide)] at h7 hc
    have k0 : 0 < κ := by
      rcases Nat.eq_zero_or_pos κ with e | e
      · rw [e] at d2; exact absurd d2 h7
      · exact e
    have h9 : (t i 9).toInt ≤ (g 0).toInt := (d3 0 k0).2.2
    have := i_eq.mp hc
    rw [hh] at this
    omega
theorem look_id {g : Gl} {t : Ts} {n : Nat} (h : ∀ i, i < n → ¬ askR g (t i)) : (∀ k, lookG g t n k = g k) ∧ ∀ i, lookT g t n i = t i := by
  refine ⟨fun k => ?_, fun i => ?_⟩
  · unfold lookG
    by_cases c : 2 ≤ cntK t n
    · rw [if_pos c, cntS_0 (c := cA g t) n (Nat.le_refl n) (fun k hk => decide_eq_false (h k hk))]
      by_cases e : k = 13
      · subst e
        rw [spG_13]
        exact Int32.add_zero _
      · exact spG_k e
    · rw [if_neg c]
  · unfold lookT
    by_cases c : 2 ≤ cntK t n
    · rw [if_pos c]
      have e1 : cmpA g t n n i = t i := if_neg (fun hh => h i hh.1 hh.2)
      unfold outA
      rw [e1]
      exact if_neg (fun hh => h i hh.1 hh.2)
    · rw [if_neg c]
theorem look_eq {g : Gl} {t : Ts} {n : Nat} (hn : n ≤ 10) (hw : ∀ i, i < n → ∃ h, WT h (t i)) (hd : ∀ i, i < n → askT (t i) → (dueT g (t i 0) ↔ t i 9 = g 0)) : (∀ k, spG g (cntS g t n (cmB g t n) n) k = lookG g t n k) ∧ ∀ i, outM g t (cmM g t n n) n n i = lookT g t n i := by
  have ci : ∀ i, i < n → (cmC g t n i ↔ askR g (t i) ∧ 2 ≤ cntK t n) := fun i hi => by
    by_cases ha : askT (t i)
    · exact cmC_iff hn hi hw (hd i hi ha)
    · exact ⟨fun hh => absurd hh.1 ha, fun hh => absurd hh.1.1 ha⟩
  refine ⟨fun k => ?_, fun i => ?_⟩
  · unfold lookG
    by_cases c : 2 ≤ cntK t n
    · rw [if_pos c, cntS_cg n (Nat.le_refl n) (fun k hk => show cmB g t n k = cA g t k from decide_eq_decide.mpr ⟨fun hh => ((ci k hk).mp hh).1, fun hh => (ci k hk).mpr ⟨hh, c⟩⟩)]
    · rw [if_neg c, cntS_0 (c := cmB g t n) n (Nat.le_refl n) (fun k hk => show cmB g t n k = false from decide_eq_false (fun hh => c ((ci k hk).mp hh).2))]
      by_cases e : k = 13
      · subst e
        rw [spG_13]
        exact Int32.add_zero _
      · exact spG_k e
  · unfold lookT
    by_cases c : 2 ≤ cntK t n
    · rw [if_pos c]
      have e1 : cmM g t n n i = cmpA g t n n i := by
        unfold cmM cmpA
        by_cases c1 : i < n ∧ askR g (t i)
        · rw [if_pos c1, if_pos ⟨c1.1, (ci i c1.1).mpr ⟨c1.2, c⟩⟩]
        · rw [if_neg c1, if_neg (fun hh => c1 ⟨hh.1, ((ci i hh.1).mp hh.2).1⟩)]
      have e2 : askR g (cmpA g t n n i) ↔ askR g (t i) := by
        have := cmpA_same g t n n i
        unfold askR
        rw [this.1, this.2.2.1]
      unfold outM outA
      rw [e1]
      by_cases c1 : i < n ∧ askR g (t i)
      · rw [if_pos ⟨c1.1, (ci i c1.1).mpr ⟨c1.2, c⟩⟩, if_pos ⟨c1.1, e2.mpr c1.2⟩]
      · rw [if_neg (fun hh => c1 ⟨hh.1, ((ci i hh.1).mp hh.2).1⟩), if_neg (fun hh => c1 ⟨hh.1, e2.mp hh.2⟩)]
    · rw [if_neg c]
      have no : ¬ (i < n ∧ cmC g t n i) := fun hh => c ((ci i hh.1).mp hh.2).2
      unfold outM
      rw [if_neg no]
      unfold cmM
      rw [if_neg no]
/-- an hour's end, as the law has it, is the class's -/
theorem pas_eq {g : Gl} {t : Ts} {n : Nat} {x : Int32} (hw : WS g t n) (hx : -5000 ≤ x.toInt ∧ x.toInt ≤ 5000) (h0 : (g 0).toInt < 10100) : (∀ k, spG (pasR g t n x) (cntS (pasR g t n x) (pasU g t n x) n (cmB (pasR g t n x) (pasU g t n x) n) n) k = pasG g t n x k) ∧ (∀ i, outM (pasR g t n x) (pasU g t n x) (cmM (pasR g t n x) (pasU g t n x) n n) n n i = pasT g t n x i) ∧ nI (cntD (tickG (preG g t n x) 4) (folA x t n) n) = pasN g t n x := by
  have hn := hw.1.1
  have hwU := hw.psU hx h0
  have hl := look_eq (g := pasR g t n x) (t := pasU g t n x) hn (fun i hi => ⟨_, hwU.2 i hi⟩) (fun i hi => (pasU_due hw h0 hi).2)
  have e12 : pasR g t n x 12 = g 12 + nI (cntD (tickG (preG g t n x) 4) (folA x t n) n) := by
    unfold pasR rrG
    rw [rdG_12, tickG_k (by omega) (by decide), preG_k (by decide)]
  have hle := cntD_le (tickG (preG g t n x) 4) (folA x t n) n
  have hb := hw.1.2.2.2.2.2
  have b3 := hw.1.2.2.1
  have ed : (nI (cntD (tickG (preG g t n x) 4) (folA x t n) n)).toInt = (cntD (tickG (preG g t n x) 4) (folA x t n) n : Nat) := nI_toInt (by omega)
  have eN : nI (cntD (tickG (preG g t n x) 4) (folA x t n) n) = pasN g t n x := by
    unfold pasN
    rw [e12, i_eq, i_sub (by rw [i_add (by omega) (by omega)]; omega) (by rw [i_add (by omega) (by omega)]; omega), i_add (by omega) (by omega)]
    omega
  unfold pasG pasT
  by_cases c : pasR g t n x 12 ≤ g 12
  · rw [if_pos c, if_pos c]
    have hz : cntD (tickG (preG g t n x) 4) (folA x t n) n = 0 := by
      have c' := i_le.mp c
      rw [e12, i_add (by rw [ed]; omega) (by rw [ed]; omega), ed] at c'
      omega
    have hid := look_id (g := pasR g t n x) (t := pasU g t n x) (n := n) (fun i hi ha => by
      have hd := pasU_due (x := x) hw h0 hi
      exact cntD_0 n hz i hi (hd.1.mp ((hd.2 ha.1).mpr ha.2)))
    exact ⟨fun k => (hl.1 k).trans (hid.1 k), fun i => (hl.2 i).trans (hid.2 i), eN⟩
  · rw [if_neg c, if_neg c]
    exact ⟨hl.1, hl.2, eN⟩
