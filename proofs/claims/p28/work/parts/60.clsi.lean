/-! hours in a row -/
def clT (a : Int32) : Int32 := imax (-5000) (imin 5000 a)
theorem clT_rng (a : Int32) : -5000 ≤ (clT a).toInt ∧ (clT a).toInt ≤ 5000 := by
  have h1 : (5000 : Int32).toInt = 5000 := rfl
  have h2 : (-5000 : Int32).toInt = -5000 := rfl
  unfold clT imax imin
  by_cases c : a < 5000
  · rw [if_pos c]
    have c' := i_lt.mp c
    by_cases c2 : -5000 < a
    · rw [if_pos c2]
      have := i_lt.mp c2
      omega
    · rw [if_neg c2]
      omega
  · rw [if_neg c]
    rw [if_pos (show (-5000 : Int32) < 5000 by decide)]
    omega
def hrs (n : Nat) (d : Int32) (g : Gl) (t : Ts) : Nat → Gl × Ts
  | 0 => (g, t)
  | k + 1 => (pasG (hrs n d g t k).1 (hrs n d g t k).2 n (clT ((hrs n d g t k).1 1 + d)), pasT (hrs n d g t k).1 (hrs n d g t k).2 n (clT ((hrs n d g t k).1 1 + d)))
theorem hrs_ws {n : Nat} {d : Int32} {g : Gl} {t : Ts} (hw : WS g t n) : ∀ k : Nat, (g 0).toInt + k ≤ 10100 → WS (hrs n d g t k).1 (hrs n d g t k).2 n ∧ ((hrs n d g t k).1 0).toInt = (g 0).toInt + k
  | 0, _ => ⟨hw, by show (g 0).toInt = (g 0).toInt + ((0 : Nat) : Int); omega⟩
  | k + 1, hk => by
    obtain ⟨h1, h2⟩ := hrs_ws (d := d) hw k (by omega)
    refine ⟨h1.pas (clT_rng _) (by omega), ?_⟩
    show (pasG (hrs n d g t k).1 (hrs n d g t k).2 n (clT ((hrs n d g t k).1 1 + d)) 0).toInt = _
    have h0 := hw.1.2.2.1
    rw [pasG_0, i_add (by rw [show (1 : Int32).toInt = 1 from rfl]; omega) (by rw [show (1 : Int32).toInt = 1 from rfl]; omega), show (1 : Int32).toInt = 1 from rfl]
    omega
theorem lp_hrs {Q : Mem → Prop} {K : Mem → Prop} {P n N : Nat} {d : Int32} {g : Gl} {t : Ts} (hP : P < 11) (hN : N < 1000) (hw : WS g t n) (h0 : (g 0).toInt + N ≤ 10100) : ∀ (m k : Nat) (S : Mem), k + m = N → PR S P (hrs n d g t k).1 (hrs n d g t k).2 n → (∀ S', FrP P S S' → PR S' P (hrs n d g t N).1 (hrs n d g t N).2 n → K S') → vc_X3_passHours_L2 Q K P (nI N) d (m + 1) S (nI k) := by
  intro m
  induction m with
  | zero =>
    intro k S hi h hK
    have e : k = N := by omega
    subst e
    rw [vc_X3_passHours_L2]
    exact ⟨fun _ => hK S (FrP.rf P S) h, fun c => absurd (nI_le (Nat.le_refl k) (by omega)) c⟩
  | succ m ih =>
    intro k S hi h hK
    have hlt : k < N := by omega
    obtain ⟨hw1, hw2⟩ := hrs_ws (d := d) hw k (by omega)
    have e1 : S 3 P 0 8 = (hrs n d g t k).1 1 := h.1.2.1
    rw [vc_X3_passHours_L2, e1, nI_1]
    exact ⟨fun c => absurd c (nI_ge hlt (by omega)), fun _ => sp_pass hP hw1 (by omega) h fun S2 hf2 h2 => ih (k + 1) S2 (by omega) h2 (fun S' hf => hK S' (hf2.tr hf))⟩
theorem sp_hrs {Q : Mem → Prop} {S : Mem} {P n N : Nat} {d : Int32} {g : Gl} {t : Ts} (hP : P < 11) (hN : N < 1000) (hw : WS g t n) (h0 : (g 0).toInt + N ≤ 10100) (h : PR S P g t n) (hq : ∀ S', FrP P S S' → PR S' P (hrs n d g t N).1 (hrs n d g t N).2 n → Q S') : vc_X3_passHours S P (nI N) d Q := ⟨N + 1, lp_hrs hP hN hw h0 N 0 S (by omega) h hq⟩
