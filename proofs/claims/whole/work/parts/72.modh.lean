/-! an hour of the reference is an hour of the system -/
theorem midS_cnt {t : Ts} {x n : Nat} (hx : askT (t x)) (hn : n ≤ 10) (hxn : x < n) : ∀ i, i ≤ n → (midS t (nI x) i).2 + (if x < i then 1 else 0) = cntK t i
  | 0, _ => by rw [if_neg (by omega)]; rfl
  | i + 1, hi => by
    have ih := midS_cnt hx hn hxn i (by omega)
    by_cases e : i = x
    · subst e
      have e1 : midS t (nI i) (i + 1) = midS t (nI i) i := by rw [midS, if_neg (fun hh => hh.1 rfl)]
      rw [e1, cntK, if_pos hx, if_pos (by omega)]
      rw [if_neg (by omega)] at ih
      omega
    · have ne : ¬ nI i = nI x := fun hh => e (nI_inj (by omega) (by omega) hh)
      by_cases c : askT (t i)
      · have e1 : midS t (nI x) (i + 1) = (insA (midS t (nI x) i).1 (midS t (nI x) i).2 (mended (t i)), (midS t (nI x) i).2 + 1) := by rw [midS, if_pos ⟨ne, c⟩]
        rw [e1, cntK, if_pos c]
        by_cases cx : x < i
        · rw [if_pos cx] at ih; rw [if_pos (by omega)]; simp only; omega
        · rw [if_neg cx] at ih; rw [if_neg (by omega)]; simp only; omega
      · have e1 : midS t (nI x) (i + 1) = midS t (nI x) i := by rw [midS, if_neg (fun hh => c hh.2)]
        rw [e1, cntK, if_neg c]
        by_cases cx : x < i
        · rw [if_pos cx] at ih; rw [if_pos (by omega)]; exact ih
        · rw [if_neg cx] at ih; rw [if_neg (by omega)]; exact ih
theorem askT_ne {t : Th} (h : askT t) : ¬ t 7 = 0 := fun e => by
  have := h.1
  rw [e] at this
  exact absurd this (by decide)
theorem midV_none {t : Ts} {ex : Int32} {n : Nat} (hw : ∀ i, i < n → ∃ h, WT h (t i)) : midV t ex n = -999999 ↔ (midS t ex n).2 = 0 := by
  unfold midV
  by_cases c : (midS t ex n).2 = 0
  · rw [if_pos c]; exact ⟨fun _ => c, fun _ => rfl⟩
  · rw [if_neg c]
    refine ⟨fun e => ?_, fun e => absurd e c⟩
    have := midS_all (p := fun x => -340200 ≤ x.toInt) (t := t) (ex := ex) (n := n) (fun i hi ha => by
      obtain ⟨h, hw⟩ := hw i hi
      exact (mendB_rng hw hw.2.1 (askT_ne ha)).1) n (Nat.le_refl n) (((midS t ex n).2 - 1) / 2) (by omega)
    rw [e] at this
    exact absurd this (by decide)
theorem cmC_iff {g : Gl} {t : Ts} {n i : Nat} (hn : n ≤ 10) (hi : i < n) (hw : ∀ i, i < n → ∃ h, WT h (t i)) (hd : dueT g (t i 0) ↔ t i 9 = g 0) : cmC g t n i ↔ askR g (t i) ∧ 2 ≤ cntK t n := by
  unfold cmC askR
  rw [midV_none hw, hd]
  by_cases ha : askT (t i)
  · have := midS_cnt ha hn hi n (Nat.le_refl n)
    rw [if_pos hi] at this
    constructor
    · intro hh
      exact ⟨⟨ha, hh.2.1⟩, by omega⟩
    · intro hh
      exact ⟨ha, hh.1.2, by omega⟩
  · exact ⟨fun hh => absurd hh.1 ha, fun hh => absurd hh.1.1 ha⟩
theorem cntS_cg {g : Gl} {t : Ts} {n : Nat} {c c' : Nat → Bool} : ∀ m, m ≤ n → (∀ k, k < n → c k = c' k) → cntS g t n c m = cntS g t n c' m
  | 0, _, _ => rfl
  | m + 1, hm, h => by rw [cntS_k, cntS_k, h m (by omega), cntS_cg m (by omega) h]
theorem cntS_0 {g : Gl} {t : Ts} {n : Nat} {c : Nat → Bool} : ∀ m, m ≤ n → (∀ k, k < n → c k = false) → cntS g t n c m = 0
  | 0, _, _ => rfl
  | m + 1, hm, h => by rw [cntS_k, h m (by omega), if_neg (fun hh => absurd hh.1 (by decide)), cntS_0 m (by omega) h]
theorem sx_look {Q : Mem → Prop} {S : Mem} {n : Nat} {g : Gl} {t : Ts} (hn : n ≤ 10) (hg : g 15 = nI n) (hp : ∀ k, k < 4 → ¬ g (4 + k) = 0) (hw : ∀ i, i < n → ∃ h, WT h (t i)) (hd : ∀ i, i < n → askT (t i) → (dueT g (t i 0) ↔ t i 9 = g 0)) (h : MR S g t) (hq : ∀ S', FrM S S' → MR S' (lookG g t n) (lookT g t n) → Q S') : vc_X7_lookForSpikes S Q := by
  have ci : ∀ i, i < n → (cmC g t n i ↔ askR g (t i) ∧ 2 ≤ cntK t n) := fun i hi => by
    by_cases ha : askT (t i)
    · exact cmC_iff hn hi hw (hd i hi ha)
    · exact ⟨fun hh => absurd hh.1 ha, fun hh => absurd hh.1.1 ha⟩
  refine sx_look0 hn hg hp hw h fun S' hf h' => hq S' hf (h'.cg (fun k _ => ?_) (fun i _ j _ => ?_))
  · unfold lookG
    by_cases c : 2 ≤ cntK t n
    · rw [if_pos c, cntS_cg n (Nat.le_refl n) (fun k hk => show cmB g t n k = cA g t k from decide_eq_decide.mpr ⟨fun hh => ((ci k hk).mp hh).1, fun hh => (ci k hk).mpr ⟨hh, c⟩⟩)]
    · rw [if_neg c, cntS_0 (c := cmB g t n) n (Nat.le_refl n) (fun k hk => show cmB g t n k = false from decide_eq_false (fun hh => c ((ci k hk).mp hh).2))]
      by_cases e : k = 13
      · subst e
        rw [spG_13]
        exact Int32.add_zero _
      · exact spG_k e
  · refine congrFun (?_ : _ = lookT g t n i) j
    unfold lookT
    by_cases c : 2 ≤ cntK t n
    · rw [if_pos c]
      have e1 : cmM g t n n i = cmpA g t n n i := by
        unfold cmM cmpA
        by_cases c1 : i < n ∧ askR g (t i)
        · rw [if_pos c1, if_pos ⟨c1.1, (ci i c1.1).mpr ⟨c1.2, c⟩⟩]
        · rw [if_neg c1, if_neg (fun hh => c1 ⟨hh.1, ((ci i hh.1).mp hh.2).1⟩)]
      have e2 : askR g (cmpA g t n n i) ↔ askR g (t i) := by
        have := cmpA_same g t n n i
        unfold askR
        rw [this.1, this.2.2.1]
      unfold outM outA
      rw [e1]
      by_cases c1 : i < n ∧ askR g (t i)
      · rw [if_pos ⟨c1.1, (ci i c1.1).mpr ⟨c1.2, c⟩⟩, if_pos ⟨c1.1, e2.mpr c1.2⟩]
      · rw [if_neg (fun hh => c1 ⟨hh.1, ((ci i hh.1).mp hh.2).1⟩), if_neg (fun hh => c1 ⟨hh.1, e2.mp hh.2⟩)]
    · rw [if_neg c]
      have no : ¬ (i < n ∧ cmC g t n i) := fun hh => c ((ci i hh.1).mp hh.2).2
      unfold outM
      rw [if_neg no]
      unfold cmM
      rw [if_neg no]
theorem lx_fol {Q : Mem → Int32 → Prop} {K : Mem → Prop} {n : Nat} {x x0 : Int32} {g : Gl} {t : Ts} (hn : n ≤ 10) (hg : g 15 = nI n) (hl : ∀ i, i < n → ¬ t i 1 = 0) (hx : g 1 = x) : ∀ (m i : Nat) (S : Mem), i + m = n → MR S g (folA x t i) → (∀ S', FrM S S' → MR S' g (folA x t n) → K S') → vc_X7_pass_L30 Q K x0 (m + 1) S (nI i) := by
  intro m
  induction m with
  | zero =>
    intro i S hi h hK
    have e : i = n := by omega
    subst e
    rw [vc_X7_pass_L30]
    exact ⟨vv15, fun _ => hK S (FrM.rf S) h, fun c => absurd (ix_ge h hg hn) c⟩
  | succ m ih =>
    intro i S hi h hK
    have hlt : i < n := by omega
    have et : folA x t i i = t i := if_neg (by omega)
    rw [vc_X7_pass_L30, nI_1]
    refine ⟨vv15, fun c => absurd c (ix_le h hg hlt hn), fun _ => sx_follow (by omega) (by rw [et]; exact hl i hlt) h fun S15 hf h15 => ih (i + 1) S15 (by omega) (h15.cg (fun _ _ => rfl) (fun k _ j _ => ?_)) (fun S' hf2 => hK S' (hf.tr hf2))⟩
    refine congrFun (?_ : _ = folA x t (i + 1) k) j
    rw [et, hx]
    unfold setT folA
    by_cases e : k = i
    · subst e
      rw [if_pos rfl, if_pos (by omega)]
    · rw [if_neg e]
      by_cases c1 : k < i
      · rw [if_pos c1, if_pos (by omega)]
      · rw [if_neg c1, if_neg (by omega)]
