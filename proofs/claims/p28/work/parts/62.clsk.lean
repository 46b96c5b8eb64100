/-! the ring of kept states -/
abbrev St : Type := Gl × Ts × Nat
abbrev PRs (S : Mem) (P : Nat) (s : St) : Prop := PR S P s.1 s.2.1 s.2.2
abbrev WSs (s : St) : Prop := WS s.1 s.2.1 s.2.2
theorem WSs.six {s : St} (h : WSs s) : ∀ i, i < s.2.2 → s.2.1 i 6 = 0 ∨ s.2.1 i 6 = 1 := fun i hi => (h.2 i hi).2.2.2.2.2.1
def HR (S : Mem) (ν k : Nat) (h : Nat → St) : Prop := (ν < 6 ∧ k ≤ 6) ∧ S 1 0 0 2 = nI ν ∧ S 1 0 0 3 = nI k ∧ ∀ j, j < k → PRs S (2 + (ν + 6 - k + j) % 6) (h j)
def pushK (k : Nat) : Nat := if k = 6 then 6 else k + 1
def pushH (k : Nat) (h : Nat → St) (s : St) : Nat → St := fun j => if k = 6 then (if j = 5 then s else h (j + 1)) else if j = k then s else h j
def FrH (S S' : Mem) : Prop := ∀ t P' i', ¬ (t = 1 ∧ P' = 0) → ¬ ((t = 0 ∨ t = 3 ∨ t = 5 ∨ t = 6 ∨ t = 7 ∨ t = 8 ∨ t = 12 ∨ t = 13) ∧ 2 ≤ P' ∧ P' < 8) → S' t P' i' = S t P' i'
theorem ring_next : ∀ ν, ν < 6 → (nI ν + 1) - (nI ν + 1) / 6 * 6 = nI ((ν + 1) % 6) := by decide +kernel
theorem ring_prev : ∀ ν, ν < 6 → (nI ν + 6 - 1) - (nI ν + 6 - 1) / 6 * 6 = nI ((ν + 5) % 6) := by decide +kernel
theorem ring_size : ∀ k, k < 7 → imin (nI k + 1) 6 = nI (pushK k) := by decide +kernel
theorem sp_stateAt {S : Mem} {ν : Nat} {Q : Mem → Nat → Nat → Prop} (h : ν < 6) (hq : Q S (2 + ν) 0) : vc_X1_stateAt S (nI ν) Q := by
  refine ⟨fun c => absurd c (nI_pos (by omega)), fun _ => ⟨fun _ => ⟨vp_in_nI h (by decide), by rw [nI_clamp (by omega)]; exact hq⟩, fun c => absurd (show nI ν < nI 6 from (nI_ltI (by omega) (by omega)).mpr h) c⟩⟩
theorem sp_save {Q : Mem → Prop} {S : Mem} {ν k : Nat} {h : Nat → St} {s : St} (hr : HR S ν k h) (hw : WSs s) (hs : PRs S 0 s) (hq : ∀ S', FrH S S' → HR S' ((ν + 1) % 6) (pushK k) (pushH k h s) → Q S') : vc_X1_save S 0 Q := by
  obtain ⟨⟨hν, hk⟩, h2, h3, hj⟩ := hr
  unfold vc_X1_save
  rw [h2]
  refine sp_stateAt hν ⟨rfl, by omega, sp_copy (by omega) (by omega) (by omega) hw.six hs fun S6 hf6 h6 => ⟨by decide, fun S8 e8 S10 e10 => ?_⟩⟩
  have a2 : S6 1 0 0 2 = nI ν := by rw [hf6 1 0 0 (fun hh => by omega)]; exact h2
  have a3 : S6 1 0 0 3 = nI k := by rw [hf6 1 0 0 (fun hh => by omega)]; exact h3
  rw [a2, ring_next ν hν] at e8
  have b3 : S8 1 0 0 3 = nI k := by rw [e8, uc_same, upd_app, if_neg (by decide)]; exact a3
  rw [b3, ring_size k (by omega)] at e10
  have fr : ∀ t P i, ¬ (t = 1 ∧ P = 0) → S10 t P i = S6 t P i := fun t P i hn => by
    rw [e10, uc_ne (fun hh => hn ⟨hh.1, hh.2.1⟩), e8, uc_ne (fun hh => hn ⟨hh.1, hh.2.1⟩)]
  have pr : ∀ (P : Nat) (s : St), PRs S6 P s → PRs S10 P s := fun P s hp => hp.eqs (fr _ _ _ (by omega)) (fr _ _ _ (by omega)) (fr _ _ _ (by omega)) (fun i _ => ⟨fr _ _ _ (by omega), fr _ _ _ (by omega), fr _ _ _ (by omega)⟩)
  refine hq S10 (fun t P' i' n1 n2 => ?_) ⟨⟨by omega, by unfold pushK; split <;> omega⟩, ?_, ?_, fun j hj' => ?_⟩
  · rw [fr t P' i' n1]
    exact hf6 t P' i' (fun hh => n2 ⟨hh.1, by omega, by omega⟩)
  · rw [e10, uc_same, upd_app, if_neg (by decide), e8, uc_same, upd_app, if_pos rfl]
  · rw [e10, uc_same, upd_app, if_pos rfl]
  · refine pr _ _ ?_
    unfold pushK at hj' ⊢
    unfold pushH
    by_cases c : k = 6
    · subst c
      rw [if_pos rfl] at hj' ⊢
      rw [if_pos rfl]
      by_cases c5 : j = 5
      · subst c5
        rw [if_pos rfl, show 2 + ((ν + 1) % 6 + 6 - 6 + 5) % 6 = 2 + ν by omega]
        exact h6
      · rw [if_neg c5]
        have := hj (j + 1) (by omega)
        rw [show 2 + ((ν + 1) % 6 + 6 - 6 + j) % 6 = 2 + (ν + 6 - 6 + (j + 1)) % 6 by omega]
        exact this.frP (by omega) hf6
    · rw [if_neg c] at hj' ⊢
      rw [if_neg c]
      by_cases ck : j = k
      · subst ck
        rw [if_pos rfl, show 2 + ((ν + 1) % 6 + 6 - (j + 1) + j) % 6 = 2 + ν by omega]
        exact h6
      · rw [if_neg ck]
        have := hj j (by omega)
        rw [show 2 + ((ν + 1) % 6 + 6 - (k + 1) + j) % 6 = 2 + (ν + 6 - k + j) % 6 by omega]
        exact this.frP (by omega) hf6
