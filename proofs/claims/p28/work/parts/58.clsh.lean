/-! an hour of the system -/
def folA (x : Int32) (t : Ts) (m : Nat) : Ts := fun i => if i < m then folT x (t i) else t i
theorem lp_fol {Q : Mem → Int32 → Prop} {K : Mem → Prop} {P n : Nat} {x x0 : Int32} {g : Gl} {t : Ts} (hP : P < 11) (hl : ∀ i, i < n → ¬ t i 1 = 0) (hx : g 1 = x) : ∀ (m i : Nat) (S : Mem), i + m = n → PR S P g (folA x t i) n → (∀ S', FrP P S S' → PR S' P g (folA x t n) n → K S') → vc_X3_passHour_L25 Q K P x0 (m + 1) S (nI i) := by
  intro m
  induction m with
  | zero =>
    intro i S hi h hK
    have e : i = n := by omega
    subst e
    rw [vc_X3_passHour_L25]
    exact ⟨fun _ => hK S (FrP.rf P S) h, fun c => absurd (lp_ge h.2.1.2 h.2.1.1) c⟩
  | succ m ih =>
    intro i S hi h hK
    have hn := h.2.1.1
    have hlt : i < n := by omega
    have hTi := h.2.2 i hlt
    have et : folA x t i i = t i := if_neg (by omega)
    rw [et] at hTi
    have e1 : S 3 P 0 8 = x := h.1.2.1.trans hx
    rw [vc_X3_passHour_L25]
    refine ⟨fun c => absurd c (lp_le h.2.1.2 i hlt hn), fun _ => sp_at (by omega) ⟨⟨hP, by omega⟩, ?_⟩⟩
    rw [e1, nI_1]
    refine sp_follow (hl i hlt) hTi fun S14 hf hT => ?_
    refine ih (i + 1) S14 (by omega) ((h.one hf hT).cg (fun _ _ => rfl) (fun k hk => ?_)) (fun S' hf2 => hK S' (hf.P.tr hf2))
    show (if k = i then folT x (t i) else folA x t i k) = folA x t (i + 1) k
    unfold folA
    by_cases e : k = i
    · subst e
      rw [if_pos rfl, if_pos (by omega)]
    · rw [if_neg e]
      by_cases c1 : k < i
      · rw [if_pos c1, if_pos (by omega)]
      · rw [if_neg c1, if_neg (by omega)]
theorem tickG_k {g : Gl} {m k : Nat} (h : k < 8 ∨ 12 ≤ k) (hm : m ≤ 4) : tickG g m k = g k := if_neg (by omega)
theorem dueT_cg {g g' : Gl} (h : g' 0 = g 0) (h2 : ∀ k, k < 4 → g' (4 + k) = g (4 + k)) {ρ : Nat} (hρ : ρ < 4) : dueT g' (nI ρ) ↔ dueT g (nI ρ) := by
  have e : (nI ρ).toNatClampNeg = ρ := nI_clamp (by omega)
  unfold dueT
  rw [e, h, h2 ρ hρ]
def rrG (g : Gl) (t : Ts) (n : Nat) : Gl := rdG (tickG g 4) t n
def rrT (g : Gl) (t : Ts) (n : Nat) : Ts := rdT (tickG g 4) t n
theorem sp_rows {Q : Mem → Prop} {S : Mem} {P n : Nat} {g : Gl} {t : Ts} (hP : P < 11) (hp : ∀ k, k < 4 → ¬ g (4 + k) = 0) (hw : ∀ i, i < n → (∃ ρ, ρ < 4 ∧ t i 0 = nI ρ) ∧ ∃ κ, κ ≤ 6 ∧ t i 7 = nI κ ∧ (0 < κ → (t i 9).toInt < (g 0).toInt)) (h : PR S P g t n) (hq : ∀ S', FrP P S S' → PR S' P (rrG g t n) (rrT g t n) n → Q S') : vc_X3_readRows S P Q := by
  unfold vc_X3_readRows
  rw [nI_lit0]
  refine ⟨5, lp_tick (g := g) (t := t) hp 4 0 S (by omega) (h.cg (fun k _ => (if_neg (by omega)).symm) (fun _ _ => rfl)) fun S1 hf1 h1 => ⟨n + 1, lp_rd (g := tickG g 4) (t := t) hP (fun k hk => ?_) (fun i hi => ?_) n 0 S1 (by omega) (h1.cg (fun k _ => ?_) (fun i _ => (if_neg (by omega)).symm)) fun S2 hf2 h2 => hq S2 (hf1.tr hf2) h2⟩⟩
  · rw [tickG_k (by omega) (by decide)]; exact hp k hk
  · rw [tickG_k (by omega) (by decide)]; exact hw i hi
  · unfold rdG
    rw [upd_app]
    by_cases e : k = 12
    · subst e
      rw [if_pos rfl]
      exact (Int32.add_zero _).symm
    · rw [if_neg e]
def preG (g : Gl) (t : Ts) (n : Nat) (x : Int32) : Gl := upd (upd (upd g 14 (meanV t n)) 0 (g 0 + 1)) 1 x
def pasR (g : Gl) (t : Ts) (n : Nat) (x : Int32) : Gl := rrG (preG g t n x) (folA x t n) n
def pasU (g : Gl) (t : Ts) (n : Nat) (x : Int32) : Ts := rrT (preG g t n x) (folA x t n) n
def pasG (g : Gl) (t : Ts) (n : Nat) (x : Int32) : Gl := if pasR g t n x 12 ≤ g 12 then pasR g t n x else lookG (pasR g t n x) (pasU g t n x) n
def pasT (g : Gl) (t : Ts) (n : Nat) (x : Int32) : Ts := if pasR g t n x 12 ≤ g 12 then pasU g t n x else lookT (pasR g t n x) (pasU g t n x) n
def pasN (g : Gl) (t : Ts) (n : Nat) (x : Int32) : Int32 := pasR g t n x 12 - g 12
theorem preG_0 {g : Gl} {t : Ts} {n : Nat} {x : Int32} : preG g t n x 0 = g 0 + 1 := by unfold preG; rw [upd_app, if_neg (by decide), upd_app, if_pos rfl]
theorem preG_1 {g : Gl} {t : Ts} {n : Nat} {x : Int32} : preG g t n x 1 = x := by unfold preG; rw [upd_app, if_pos rfl]
theorem preG_14 {g : Gl} {t : Ts} {n : Nat} {x : Int32} : preG g t n x 14 = meanV t n := by unfold preG; rw [upd_app, if_neg (by decide), upd_app, if_neg (by decide), upd_app, if_pos rfl]
theorem preG_k {g : Gl} {t : Ts} {n : Nat} {x : Int32} {k : Nat} (h : k ≠ 0 ∧ k ≠ 1 ∧ k ≠ 14) : preG g t n x k = g k := by unfold preG; rw [upd_app, if_neg h.2.1, upd_app, if_neg h.1, upd_app, if_neg h.2.2]
theorem readT_k {x : Int32} {t : Th} {k : Nat} (h : k < 7 ∨ k = 8) : readT x t k = t k := by
  unfold readT
  rw [if_neg (by omega), if_neg (by omega), if_neg (by omega), if_neg (by omega)]
theorem folT_k {x : Int32} {t : Th} {k : Nat} (h : k ≠ 4) : folT x t k = t k := if_neg h
theorem folA_k {x : Int32} {t : Ts} {m i k : Nat} (h : k ≠ 4) : folA x t m i k = t i k := by
  unfold folA
  split
  · exact folT_k h
  · rfl
theorem uc_uc {S : Mem} {t P i : Nat} {f f' : Nat → Int32} : uc (uc S t P i f) t P i f' = uc S t P i f' := by
  funext t' P' i'
  unfold uc
  by_cases c : t' = t ∧ P' = P ∧ i' = i
  · rw [if_pos c, if_pos c]
  · rw [if_neg c, if_neg c, if_neg c]
theorem sp_pass {Q : Mem → Int32 → Prop} {S : Mem} {P n : Nat} {g : Gl} {t : Ts} {x : Int32} (hP : P < 11) (hw : WS g t n) (h0 : (g 0).toInt < 10100) (h : PR S P g t n) (hq : ∀ S', FrP P S S' → PR S' P (pasG g t n x) (pasT g t n x) n → Q S' (pasN g t n x)) : vc_X3_passHour S P x Q := by
  have hn := h.2.1.1
  unfold vc_X3_passHour
  refine sp_mean hP h fun S3 e3 S5 e5 S7 e7 => ?_
  obtain ⟨⟨b1, b2, b3, b4, b5, b6⟩, hT⟩ := hw
  have a : S7 = uc S 3 P 0 (upd (upd (upd (S 3 P 0) 5 (meanV t n)) 7 (S 3 P 0 7 + 1)) 8 x) := by
    have c3 : S3 3 P 0 = upd (S 3 P 0) 5 (meanV t n) := by rw [e3, uc_same]
    have c5 : S5 3 P 0 = upd (S3 3 P 0) 7 (S3 3 P 0 7 + 1) := by rw [e5, uc_same]
    rw [e7, c5, c3, e5, uc_uc, e3, uc_uc]
    rfl
  have hfr : FrP P S S7 := a ▸ FrP.uc (by simp) S _
  have h7 : PR S7 P (preG g t n x) t n := by
    rw [a]
    obtain ⟨a1, a2, a3, a4, a5, a6, a7, a8, a9⟩ := h.1
    refine h.set3 _ _ ⟨?_, ?_, ?_, ?_, ?_, ?_, ?_, ?_⟩ (fun k h4 h12 => preG_k (by omega)) rfl
    · rw [preG_0, ← a1]; rfl
    · rw [preG_1]; rfl
    · rw [preG_k (by decide), ← a3]; rfl
    · rw [preG_k (by decide), ← a4]; rfl
    · rw [preG_k (by decide), ← a6]; rfl
    · rw [preG_k (by decide), ← a7]; rfl
    · rw [preG_14]; rfl
    · rw [preG_k (by decide), ← a9]; rfl
  have hh : (g 0 + 1).toInt = (g 0).toInt + 1 := i_add (by rw [show (1 : Int32).toInt = 1 from rfl]; omega) (by rw [show (1 : Int32).toInt = 1 from rfl]; omega)
  rw [nI_lit0]
  refine ⟨n + 1, lp_fol (g := preG g t n x) (t := t) (x := x) hP (fun i hi => lag_ne (hT i hi)) preG_1 n 0 S7 (by omega) (h7.cg (fun _ _ => rfl) (fun i _ => (if_neg (by omega)).symm)) fun S15 hf15 h15 => ?_⟩
  refine sp_rows (g := preG g t n x) (t := folA x t n) hP (fun k hk e => ?_) (fun i hi => ?_) h15 fun S16 hf16 h16 => ?_
  · rw [preG_k (by omega)] at e
    have := (b5 k hk).1
    rw [e] at this
    exact absurd this (by decide)
  · obtain ⟨c0, c1, c2, c3, c4, c6, κ, d1, d2, d3, d4⟩ := hT i hi
    rw [folA_k (by decide), folA_k (by decide), folA_k (by decide), preG_0]
    refine ⟨c0, κ, d1, d2, fun hk => ?_⟩
    have := (d3 0 hk).2.2
    rw [hh]
    exact Int.lt_of_le_of_lt this (by omega)
  · have e16 : S16 3 P 0 9 = pasR g t n x 12 := h16.1.2.2.2.2.2.1
    have e15 : S15 3 P 0 9 = g 12 := h15.1.2.2.2.2.2.1.trans (preG_k (by decide))
    rw [e16, e15]
    have hf : FrP P S S16 := (hfr.tr hf15).tr hf16
    refine ⟨fun c => ?_, fun c => ?_⟩
    · unfold pasG pasT pasN at hq
      rw [if_pos c, if_pos c] at hq
      exact hq S16 hf h16
    · unfold pasG pasT pasN at hq
      rw [if_neg c, if_neg c] at hq
      refine sp_look (g := pasR g t n x) (t := pasU g t n x) hP (fun i hi => ?_) h16 fun S18 hf18 h18 => ?_
      · obtain ⟨c0, c1, c2, c3, c4, c6, κ, d1, d2, d3, d4⟩ := hT i hi
        unfold pasU rrT rdT
        split
        · have e7 : folA x t n i 7 = nI κ := (folA_k (by decide)).trans d2
          exact ⟨if κ < 6 then κ + 1 else 6, by split <;> omega, readT_7 e7 d1⟩
        · exact ⟨κ, d1, (folA_k (by decide)).trans d2⟩
      · have e18 : S18 3 P 0 9 = pasR g t n x 12 := h18.1.2.2.2.2.2.1.trans (by
          unfold lookG
          split
          · exact spG_k (by decide)
          · rfl)
        rw [e18]
        exact hq S18 (hf.tr hf18) h18
