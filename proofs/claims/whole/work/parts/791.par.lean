/-! texts of orders: what is read -/
abbrev Od : Type := Int32 × Int32 × Int32 × Int32
def tkB (ℓ : Nat) (b : Nat → Int32) (lo hi : Int32) (p : Nat) : Bool := decide (p < ℓ ∧ lo ≤ b p ∧ b p ≤ hi)
def dN (b : Nat → Int32) (p : Nat) : Nat := (b p).toInt.toNat - 48
theorem tkB_y {ℓ : Nat} {b : Nat → Int32} {lo hi : Int32} {p : Nat} (h : tkB ℓ b lo hi p = true) : p < ℓ ∧ lo ≤ b p ∧ b p ≤ hi := of_decide_eq_true h
theorem tkB_n {ℓ : Nat} {b : Nat → Int32} {lo hi : Int32} {p : Nat} (h : tkB ℓ b lo hi p = false) : ¬ (p < ℓ ∧ lo ≤ b p ∧ b p ≤ hi) := of_decide_eq_false h
theorem dN_ok {ℓ : Nat} {b : Nat → Int32} {lo hi p : Nat} (h : tkB ℓ b (nI lo) (nI hi) p = true) (h1 : 48 ≤ lo ∧ lo ≤ 57) (h2 : hi ≤ 57) : b p - 48 = nI (dN b p) ∧ lo - 48 ≤ dN b p ∧ dN b p ≤ hi - 48 := by
  obtain ⟨-, a1, a2⟩ := tkB_y h
  rcases Nat.lt_or_ge hi lo with hlt | hge
  · have a1 := i_le.mp a1
    have a2 := i_le.mp a2
    rw [nI_toInt (by omega)] at a1
    rw [nI_toInt (by omega)] at a2
    omega
  · have a1 := i_le.mp a1
    have a2 := i_le.mp a2
    rw [nI_toInt (by omega)] at a1
    rw [nI_toInt (by omega)] at a2
    have h48 : (48 : Int32).toInt = 48 := rfl
    unfold dN
    refine ⟨i_eq.mpr ?_, by omega, by omega⟩
    rw [i_sub (by omega) (by omega), nI_toInt (by omega)]
    omega
def dgV (neg : Bool) (k : Nat) : Int32 := if neg = true then -(nI k) else nI k
def pNew (ℓ : Nat) (b : Nat → Int32) (p : Nat) : Bool × Nat × Od :=
  if tkB ℓ b 48 51 p = true then
    if tkB ℓ b 44 44 (p + 1) = true then
      if tkB ℓ b 49 57 (p + 1 + 1) = true then
        if tkB ℓ b 42 42 (p + 1 + 1 + 1) = true then
          if tkB ℓ b 49 53 (p + 1 + 1 + 1 + 1) = true then (true, p + 1 + 1 + 1 + 1 + 1, 116, nI (dN b p), nI (dN b (p + 1 + 1)), nI (dN b (p + 1 + 1 + 1 + 1)))
          else (false, p + 1 + 1 + 1 + 1, 0, 0, 0, 0)
        else (true, p + 1 + 1 + 1, 116, nI (dN b p), nI (dN b (p + 1 + 1)), 1)
      else (false, p + 1 + 1, 0, 0, 0, 0)
    else (false, p + 1, 0, 0, 0, 0)
  else (false, p, 0, 0, 0, 0)
def pPer (ℓ : Nat) (b : Nat → Int32) (p : Nat) : Bool × Nat × Od :=
  if tkB ℓ b 48 51 p = true then
    if tkB ℓ b 47 47 (p + 1) = true then
      if tkB ℓ b 49 54 (p + 1 + 1) = true then (true, p + 1 + 1 + 1, 112, nI (dN b p), nI (dN b (p + 1 + 1)), 0)
      else (false, p + 1 + 1, 0, 0, 0, 0)
    else (false, p + 1, 0, 0, 0, 0)
  else (false, p, 0, 0, 0, 0)
def pCal (ℓ : Nat) (b : Nat → Int32) (p : Nat) : Bool × Nat × Od :=
  if tkB ℓ b 48 57 p = true then (true, p + 1, 99, nI (dN b p), 0, 0) else (false, p, 0, 0, 0, 0)
def pDeg (ℓ : Nat) (b : Nat → Int32) (neg : Bool) (p : Nat) : Bool × Nat × Od :=
  if tkB ℓ b 48 57 p = true then
    if dN b p = 5 then
      if tkB ℓ b 48 48 (p + 1) = true then (true, p + 1 + 1, 104, dgV neg (10 * dN b p + dN b (p + 1)), 0, 0)
      else (true, p + 1, 104, dgV neg (dN b p), 0, 0)
    else if dN b p = 0 ∨ 5 < dN b p then (true, p + 1, 104, dgV neg (dN b p), 0, 0)
    else if tkB ℓ b 48 57 (p + 1) = true then (true, p + 1 + 1, 104, dgV neg (10 * dN b p + dN b (p + 1)), 0, 0)
    else (true, p + 1, 104, dgV neg (dN b p), 0, 0)
  else (false, p, 0, 0, 0, 0)
def pOrd (ℓ : Nat) (b : Nat → Int32) (p : Nat) : Bool × Nat × Od :=
  if tkB ℓ b 116 116 p = true then pNew ℓ b (p + 1)
  else if tkB ℓ b 104 104 p = true then (if tkB ℓ b 45 45 (p + 1) = true then pDeg ℓ b true (p + 1 + 1) else pDeg ℓ b false (p + 1))
  else if tkB ℓ b 112 112 p = true then pPer ℓ b (p + 1)
  else if tkB ℓ b 99 99 p = true then pCal ℓ b (p + 1)
  else (false, p, 0, 0, 0, 0)
/-- an order as it can be -/
def WO (o : Od) : Prop := (∃ ρ k w, ρ < 4 ∧ (1 ≤ k ∧ k ≤ 9) ∧ (1 ≤ w ∧ w ≤ 5) ∧ o = (116, nI ρ, nI k, nI w)) ∨ (∃ x : Int32, (-50 ≤ x.toInt ∧ x.toInt ≤ 50) ∧ o = (104, x, 0, 0)) ∨ (∃ ρ k, ρ < 4 ∧ (1 ≤ k ∧ k ≤ 6) ∧ o = (112, nI ρ, nI k, 0)) ∨ ∃ k, k < 10 ∧ o = (99, nI k, 0, 0)
def pGood (ℓ : Nat) (p : Nat) (m : Nat) (r : Bool × Nat × Od) : Prop := p ≤ r.2.1 ∧ (p ≤ ℓ → r.2.1 ≤ ℓ) ∧ (r.1 = true → p + m ≤ r.2.1 ∧ WO r.2.2)
theorem pGood_f {ℓ p m q : Nat} {o : Od} (h1 : p ≤ q) (h2 : p ≤ ℓ → q ≤ ℓ) : pGood ℓ p m (false, q, o) := ⟨h1, h2, fun c => absurd (show false = true from c) (by decide)⟩
theorem pGood_t {ℓ p m q : Nat} {o : Od} (h1 : p + m ≤ q) (h2 : q ≤ ℓ) (h3 : WO o) : pGood ℓ p m (true, q, o) := ⟨by show p ≤ q; omega, fun _ => h2, fun _ => ⟨h1, h3⟩⟩
theorem pNew_g (ℓ : Nat) (b : Nat → Int32) (p : Nat) : pGood ℓ p 1 (pNew ℓ b p) := by
  unfold pNew
  by_cases c1 : tkB ℓ b 48 51 p = true
  · rw [if_pos c1]
    have d1 := dN_ok (lo := 48) (hi := 51) c1 (by decide) (by decide)
    have l1 := (tkB_y c1).1
    by_cases c2 : tkB ℓ b 44 44 (p + 1) = true
    · rw [if_pos c2]
      have l2 := (tkB_y c2).1
      by_cases c3 : tkB ℓ b 49 57 (p + 1 + 1) = true
      · rw [if_pos c3]
        have d3 := dN_ok (lo := 49) (hi := 57) c3 (by decide) (by decide)
        have l3 := (tkB_y c3).1
        by_cases c4 : tkB ℓ b 42 42 (p + 1 + 1 + 1) = true
        · rw [if_pos c4]
          have l4 := (tkB_y c4).1
          by_cases c5 : tkB ℓ b 49 53 (p + 1 + 1 + 1 + 1) = true
          · rw [if_pos c5]
            have d5 := dN_ok (lo := 49) (hi := 53) c5 (by decide) (by decide)
            have l5 := (tkB_y c5).1
            exact pGood_t (by omega) (by omega) (Or.inl ⟨_, _, _, by omega, by omega, by omega, rfl⟩)
          · rw [if_neg c5]; exact pGood_f (by omega) (by omega)
        · rw [if_neg c4]; exact pGood_t (by omega) (by omega) (Or.inl ⟨_, _, 1, by omega, by omega, by omega, rfl⟩)
      · rw [if_neg c3]; exact pGood_f (by omega) (by omega)
    · rw [if_neg c2]; exact pGood_f (by omega) (by omega)
  · rw [if_neg c1]; exact pGood_f (by omega) (by omega)
theorem pPer_g (ℓ : Nat) (b : Nat → Int32) (p : Nat) : pGood ℓ p 1 (pPer ℓ b p) := by
  unfold pPer
  by_cases c1 : tkB ℓ b 48 51 p = true
  · rw [if_pos c1]
    have d1 := dN_ok (lo := 48) (hi := 51) c1 (by decide) (by decide)
    have l1 := (tkB_y c1).1
    by_cases c2 : tkB ℓ b 47 47 (p + 1) = true
    · rw [if_pos c2]
      have l2 := (tkB_y c2).1
      by_cases c3 : tkB ℓ b 49 54 (p + 1 + 1) = true
      · rw [if_pos c3]
        have d3 := dN_ok (lo := 49) (hi := 54) c3 (by decide) (by decide)
        have l3 := (tkB_y c3).1
        exact pGood_t (by omega) (by omega) (Or.inr (Or.inr (Or.inl ⟨_, _, by omega, by omega, rfl⟩)))
      · rw [if_neg c3]; exact pGood_f (by omega) (by omega)
    · rw [if_neg c2]; exact pGood_f (by omega) (by omega)
  · rw [if_neg c1]; exact pGood_f (by omega) (by omega)
theorem pCal_g (ℓ : Nat) (b : Nat → Int32) (p : Nat) : pGood ℓ p 1 (pCal ℓ b p) := by
  unfold pCal
  by_cases c1 : tkB ℓ b 48 57 p = true
  · rw [if_pos c1]
    have d1 := dN_ok (lo := 48) (hi := 57) c1 (by decide) (by decide)
    have l1 := (tkB_y c1).1
    exact pGood_t (by omega) (by omega) (Or.inr (Or.inr (Or.inr ⟨_, by omega, rfl⟩)))
  · rw [if_neg c1]; exact pGood_f (by omega) (by omega)
theorem dgV_rng {neg : Bool} {k : Nat} (h : k ≤ 50) : -50 ≤ (dgV neg k).toInt ∧ (dgV neg k).toInt ≤ 50 := by
  have e : (nI k).toInt = k := nI_toInt (by omega)
  unfold dgV
  split
  · rw [← Int32.zero_sub, i_sub (by rw [e, show (0 : Int32).toInt = 0 from rfl]; omega) (by rw [e, show (0 : Int32).toInt = 0 from rfl]; omega), e, show (0 : Int32).toInt = 0 from rfl]
    omega
  · rw [e]; omega
theorem pDeg_g (ℓ : Nat) (b : Nat → Int32) (neg : Bool) (p : Nat) : pGood ℓ p 1 (pDeg ℓ b neg p) := by
  unfold pDeg
  by_cases c1 : tkB ℓ b 48 57 p = true
  · rw [if_pos c1]
    have d1 := dN_ok (lo := 48) (hi := 57) c1 (by decide) (by decide)
    have l1 := (tkB_y c1).1
    have ok1 : pGood ℓ p 1 (true, p + 1, 104, dgV neg (dN b p), 0, 0) := pGood_t (by omega) (by omega) (Or.inr (Or.inl ⟨_, dgV_rng (by omega), rfl⟩))
    by_cases c2 : dN b p = 5
    · rw [if_pos c2]
      by_cases c3 : tkB ℓ b 48 48 (p + 1) = true
      · rw [if_pos c3]
        have d3 := dN_ok (lo := 48) (hi := 48) c3 (by decide) (by decide)
        have l3 := (tkB_y c3).1
        exact pGood_t (by omega) (by omega) (Or.inr (Or.inl ⟨_, dgV_rng (by omega), rfl⟩))
      · rw [if_neg c3]; exact ok1
    · rw [if_neg c2]
      by_cases c4 : dN b p = 0 ∨ 5 < dN b p
      · rw [if_pos c4]; exact ok1
      · rw [if_neg c4]
        by_cases c3 : tkB ℓ b 48 57 (p + 1) = true
        · rw [if_pos c3]
          have d3 := dN_ok (lo := 48) (hi := 57) c3 (by decide) (by decide)
          have l3 := (tkB_y c3).1
          exact pGood_t (by omega) (by omega) (Or.inr (Or.inl ⟨_, dgV_rng (by omega), rfl⟩))
        · rw [if_neg c3]; exact ok1
  · rw [if_neg c1]; exact pGood_f (by omega) (by omega)
theorem pGood_s {ℓ p m q : Nat} {r : Bool × Nat × Od} (h : pGood ℓ q m r) (h1 : p + 1 ≤ q) (h2 : q ≤ ℓ) : pGood ℓ p (m + 1) r := ⟨by have := h.1; omega, fun _ => h.2.1 h2, fun c => ⟨by have := (h.2.2 c).1; omega, (h.2.2 c).2⟩⟩
theorem pOrd_g (ℓ : Nat) (b : Nat → Int32) (p : Nat) : pGood ℓ p 2 (pOrd ℓ b p) := by
  unfold pOrd
  by_cases c1 : tkB ℓ b 116 116 p = true
  · rw [if_pos c1]; have l := (tkB_y c1).1; exact pGood_s (pNew_g ℓ b (p + 1)) (by omega) (by omega)
  · rw [if_neg c1]
    by_cases c2 : tkB ℓ b 104 104 p = true
    · rw [if_pos c2]
      have l := (tkB_y c2).1
      by_cases c3 : tkB ℓ b 45 45 (p + 1) = true
      · rw [if_pos c3]; have l3 := (tkB_y c3).1; exact pGood_s (pDeg_g ℓ b true (p + 1 + 1)) (by omega) (by omega)
      · rw [if_neg c3]; exact pGood_s (pDeg_g ℓ b false (p + 1)) (by omega) (by omega)
    · rw [if_neg c2]
      by_cases c3 : tkB ℓ b 112 112 p = true
      · rw [if_pos c3]; have l := (tkB_y c3).1; exact pGood_s (pPer_g ℓ b (p + 1)) (by omega) (by omega)
      · rw [if_neg c3]
        by_cases c4 : tkB ℓ b 99 99 p = true
        · rw [if_pos c4]; have l := (tkB_y c4).1; exact pGood_s (pCal_g ℓ b (p + 1)) (by omega) (by omega)
        · rw [if_neg c4]; exact pGood_f (by omega) (by omega)
/-! the system reads an order -/
theorem st2 {S : Mem} {f : Nat → Int32} {k : Nat} {x : Int32} {G : Mem → Prop} (h : G (uc S 2 0 0 (upd f k x))) : ∀ S', S' = uc (uc S 2 0 0 f) 2 0 0 (upd ((uc S 2 0 0 f) 2 0 0) k x) → G S' := fun S' e => by
  rw [e, uc_same, uc_uc]; exact h
theorem sp_tk {S : Mem} {ℓ : Nat} {b f : Nat → Int32} {p : Nat} {lo hi : Int32} {Q : Mem → Int32 → Prop} (hx : ∀ j, j < ℓ → S 10 0 0 j = b j) (hℓ : ℓ ≤ 60) (hp : p ≤ 100) (h3 : f 3 = nI ℓ) (h1 : f 1 = nI p) (hy : tkB ℓ b lo hi p = true → Q (uc S 2 0 0 (upd (upd f 2 (b p - 48)) 1 (nI (p + 1)))) 1) (hn : tkB ℓ b lo hi p = false → Q (uc S 2 0 0 f) 0) : vc_X2_takes (uc S 2 0 0 f) lo hi Q := by
  have e2 : (uc S 2 0 0 f) 2 0 0 = f := uc_same ..
  have e10 : (uc S 2 0 0 f) 10 0 0 = S 10 0 0 := uc_t (by decide)
  unfold vc_X2_takes
  rw [e2, e10, h3, h1]
  refine ⟨fun c => absurd c (nI_pos (by omega)), fun _ => ⟨fun c => hn (decide_eq_false (fun hh => ?_)), fun c => ?_⟩⟩
  · have := (nI_leI (by omega) (by omega)).mp c
    omega
  · have hlt : p < ℓ := by
      by_cases hh : ℓ ≤ p
      · exact absurd ((nI_leI (by omega) (by omega)).mpr hh) c
      · omega
    rw [nI_clamp (by omega), hx p hlt]
    refine ⟨fun _ => ⟨vp_in_nI (by omega) (by decide), fun c2 => hn (decide_eq_false (fun hh => i_nlt.mpr hh.2.1 c2)), fun c2 => ⟨fun c3 S7 e7 S9 e9 => ?_, fun c3 => hn (decide_eq_false (fun hh => c3 hh.2.2))⟩⟩, fun c4 => absurd (show nI p < nI 60 from nI_lt (by omega) (by decide)) c4⟩
    have hy := hy (decide_eq_true ⟨hlt, i_nlt.mp c2, c3⟩)
    rw [uc_uc] at e7
    rw [e7, uc_same, uc_uc, show upd f 2 (b p - 48) 1 = f 1 from if_neg (by decide), h1, nI_1] at e9
    rw [e9]
    exact hy
theorem sp_sg {S : Mem} {ℓ : Nat} {b f : Nat → Int32} {p : Nat} {lo : Int32} {Q : Mem → Int32 → Prop} (hx : ∀ j, j < ℓ → S 10 0 0 j = b j) (hℓ : ℓ ≤ 60) (hp : p ≤ 100) (h3 : f 3 = nI ℓ) (h1 : f 1 = nI p) (hy : tkB ℓ b lo lo p = true → Q (uc S 2 0 0 (upd (upd f 2 (b p - 48)) 1 (nI (p + 1)))) 1) (hn : tkB ℓ b lo lo p = false → Q (uc S 2 0 0 f) 0) : vc_X2_takesSign (uc S 2 0 0 f) lo Q := sp_tk hx hℓ hp h3 h1 (fun c => ⟨Or.inr rfl, hy c⟩) (fun c => ⟨Or.inl rfl, hn c⟩)
theorem st2c {S : Mem} {f : Nat → Int32} {k j : Nat} {G : Mem → Prop} (h : G (uc S 2 0 0 (upd f k (f j)))) : ∀ S', S' = uc (uc S 2 0 0 f) 2 0 0 (upd ((uc S 2 0 0 f) 2 0 0) k ((uc S 2 0 0 f) 2 0 0 j)) → G S' := fun S' e => by
  rw [e, uc_same, uc_uc]; exact h
theorem sp_rrow {S : Mem} {ℓ : Nat} {b f : Nat → Int32} {p : Nat} {Q : Mem → Int32 → Prop} (hx : ∀ j, j < ℓ → S 10 0 0 j = b j) (hℓ : ℓ ≤ 60) (hp : p ≤ 100) (h3 : f 3 = nI ℓ) (h1 : f 1 = nI p) (hy : tkB ℓ b 48 51 p = true → ∀ f', f' 3 = nI ℓ → f' 1 = nI (p + 1) → f' 5 = nI (dN b p) → f' 4 = f 4 → f' 6 = f 6 → f' 7 = f 7 → Q (uc S 2 0 0 f') 1) (hn : tkB ℓ b 48 51 p = false → ∀ f', f' 3 = nI ℓ → f' 1 = nI p → Q (uc S 2 0 0 f') 0) : vc_X2_readsRow (uc S 2 0 0 f) Q := by
  refine sp_tk hx hℓ hp h3 h1 (fun c => st2c ⟨Or.inr rfl, hy c _ ?_ ?_ ?_ ?_ ?_ ?_⟩) (fun c => st2c ⟨Or.inl rfl, hn c _ ?_ ?_⟩)
  all_goals simp only [upd_app, Nat.reduceEqDiff, reduceIte]
  · exact h3
  · exact (dN_ok (lo := 48) (hi := 51) c (by decide) (by decide)).1
  · exact h3
  · exact h1
theorem sp_rnum {S : Mem} {ℓ : Nat} {b f : Nat → Int32} {p lo hi : Nat} {Q : Mem → Int32 → Prop} (hx : ∀ j, j < ℓ → S 10 0 0 j = b j) (hℓ : ℓ ≤ 60) (hp : p ≤ 100) (h48 : 48 ≤ lo ∧ lo ≤ 57) (h57 : hi ≤ 57) (h3 : f 3 = nI ℓ) (h1 : f 1 = nI p) (hy : tkB ℓ b (nI lo) (nI hi) p = true → ∀ f', f' 3 = nI ℓ → f' 1 = nI (p + 1) → f' 6 = nI (dN b p) → f' 4 = f 4 → f' 5 = f 5 → f' 7 = f 7 → Q (uc S 2 0 0 f') 1) (hn : tkB ℓ b (nI lo) (nI hi) p = false → ∀ f', f' 3 = nI ℓ → f' 1 = nI p → Q (uc S 2 0 0 f') 0) : vc_X2_readsNumber (uc S 2 0 0 f) (nI lo) (nI hi) Q := by
  refine sp_tk hx hℓ hp h3 h1 (fun c => st2c ⟨Or.inr rfl, hy c _ ?_ ?_ ?_ ?_ ?_ ?_⟩) (fun c => st2c ⟨Or.inl rfl, hn c _ ?_ ?_⟩)
  all_goals simp only [upd_app, Nat.reduceEqDiff, reduceIte]
  · exact h3
  · exact (dN_ok c h48 h57).1
  · exact h3
  · exact h1
theorem sp_rwgt {S : Mem} {ℓ : Nat} {b f : Nat → Int32} {p : Nat} {Q : Mem → Int32 → Prop} (hx : ∀ j, j < ℓ → S 10 0 0 j = b j) (hℓ : ℓ ≤ 60) (hp : p ≤ 90) (h3 : f 3 = nI ℓ) (h1 : f 1 = nI p) (hy : tkB ℓ b 42 42 p = true → tkB ℓ b 49 53 (p + 1) = true → ∀ f', f' 3 = nI ℓ → f' 1 = nI (p + 1 + 1) → f' 7 = nI (dN b (p + 1)) → f' 4 = f 4 → f' 5 = f 5 → f' 6 = f 6 → Q (uc S 2 0 0 f') 1) (hm : tkB ℓ b 42 42 p = true → tkB ℓ b 49 53 (p + 1) = false → ∀ f', f' 3 = nI ℓ → f' 1 = nI (p + 1) → Q (uc S 2 0 0 f') 0) (hn : tkB ℓ b 42 42 p = false → ∀ f', f' 3 = nI ℓ → f' 1 = nI p → f' 7 = 1 → f' 4 = f 4 → f' 5 = f 5 → f' 6 = f 6 → Q (uc S 2 0 0 f') 1) : vc_X2_readsWeight (uc S 2 0 0 f) Q := by
  refine st2 (sp_sg hx hℓ (by omega) (by exact h3) (by exact h1) (fun c => ⟨fun _ => sp_tk hx hℓ (by omega) (by exact h3) (by rfl) (fun c2 => st2c ⟨Or.inr rfl, hy c c2 _ ?_ ?_ ?_ ?_ ?_ ?_⟩) (fun c2 => st2c ⟨Or.inl rfl, hm c c2 _ ?_ ?_⟩), fun c2 => absurd c2 (by decide)⟩) (fun c => ⟨fun c2 => absurd rfl c2, fun _ => hn c _ ?_ ?_ ?_ ?_ ?_ ?_⟩))
  all_goals simp only [upd_app, Nat.reduceEqDiff, reduceIte]
  · exact h3
  · exact (dN_ok (lo := 49) (hi := 53) c2 (by decide) (by decide)).1
  · exact h3
  · exact h3
  · exact h1
