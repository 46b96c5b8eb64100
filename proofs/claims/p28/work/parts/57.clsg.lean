/-! the count of the asked; spikes of an hour; an hour -/
def bC (x0 : Int32) : Int32 := (((((((x0 - ((x0.toUInt32 >>> ((1 : Int32).toUInt32 &&& Int32.toUInt32 31)).toInt32 &&& (1431655765 : Int32))) &&& (858993459 : Int32)) + (((x0 - ((x0.toUInt32 >>> ((1 : Int32).toUInt32 &&& Int32.toUInt32 31)).toInt32 &&& (1431655765 : Int32))).toUInt32 >>> ((2 : Int32).toUInt32 &&& Int32.toUInt32 31)).toInt32 &&& (858993459 : Int32))) + ((((x0 - ((x0.toUInt32 >>> ((1 : Int32).toUInt32 &&& Int32.toUInt32 31)).toInt32 &&& (1431655765 : Int32))) &&& (858993459 : Int32)) + (((x0 - ((x0.toUInt32 >>> ((1 : Int32).toUInt32 &&& Int32.toUInt32 31)).toInt32 &&& (1431655765 : Int32))).toUInt32 >>> ((2 : Int32).toUInt32 &&& Int32.toUInt32 31)).toInt32 &&& (858993459 : Int32))).toUInt32 >>> ((4 : Int32).toUInt32 &&& Int32.toUInt32 31)).toInt32) &&& (252645135 : Int32)) + ((((((x0 - ((x0.toUInt32 >>> ((1 : Int32).toUInt32 &&& Int32.toUInt32 31)).toInt32 &&& (1431655765 : Int32))) &&& (858993459 : Int32)) + (((x0 - ((x0.toUInt32 >>> ((1 : Int32).toUInt32 &&& Int32.toUInt32 31)).toInt32 &&& (1431655765 : Int32))).toUInt32 >>> ((2 : Int32).toUInt32 &&& Int32.toUInt32 31)).toInt32 &&& (858993459 : Int32))) + ((((x0 - ((x0.toUInt32 >>> ((1 : Int32).toUInt32 &&& Int32.toUInt32 31)).toInt32 &&& (1431655765 : Int32))) &&& (858993459 : Int32)) + (((x0 - ((x0.toUInt32 >>> ((1 : Int32).toUInt32 &&& Int32.toUInt32 31)).toInt32 &&& (1431655765 : Int32))).toUInt32 >>> ((2 : Int32).toUInt32 &&& Int32.toUInt32 31)).toInt32 &&& (858993459 : Int32))).toUInt32 >>> ((4 : Int32).toUInt32 &&& Int32.toUInt32 31)).toInt32) &&& (252645135 : Int32)).toUInt32 >>> ((8 : Int32).toUInt32 &&& Int32.toUInt32 31)).toInt32) + (((((((x0 - ((x0.toUInt32 >>> ((1 : Int32).toUInt32 &&& Int32.toUInt32 31)).toInt32 &&& (1431655765 : Int32))) &&& (858993459 : Int32)) + (((x0 - ((x0.toUInt32 >>> ((1 : Int32).toUInt32 &&& Int32.toUInt32 31)).toInt32 &&& (1431655765 : Int32))).toUInt32 >>> ((2 : Int32).toUInt32 &&& Int32.toUInt32 31)).toInt32 &&& (858993459 : Int32))) + ((((x0 - ((x0.toUInt32 >>> ((1 : Int32).toUInt32 &&& Int32.toUInt32 31)).toInt32 &&& (1431655765 : Int32))) &&& (858993459 : Int32)) + (((x0 - ((x0.toUInt32 >>> ((1 : Int32).toUInt32 &&& Int32.toUInt32 31)).toInt32 &&& (1431655765 : Int32))).toUInt32 >>> ((2 : Int32).toUInt32 &&& Int32.toUInt32 31)).toInt32 &&& (858993459 : Int32))).toUInt32 >>> ((4 : Int32).toUInt32 &&& Int32.toUInt32 31)).toInt32) &&& (252645135 : Int32)) + ((((((x0 - ((x0.toUInt32 >>> ((1 : Int32).toUInt32 &&& Int32.toUInt32 31)).toInt32 &&& (1431655765 : Int32))) &&& (858993459 : Int32)) + (((x0 - ((x0.toUInt32 >>> ((1 : Int32).toUInt32 &&& Int32.toUInt32 31)).toInt32 &&& (1431655765 : Int32))).toUInt32 >>> ((2 : Int32).toUInt32 &&& Int32.toUInt32 31)).toInt32 &&& (858993459 : Int32))) + ((((x0 - ((x0.toUInt32 >>> ((1 : Int32).toUInt32 &&& Int32.toUInt32 31)).toInt32 &&& (1431655765 : Int32))) &&& (858993459 : Int32)) + (((x0 - ((x0.toUInt32 >>> ((1 : Int32).toUInt32 &&& Int32.toUInt32 31)).toInt32 &&& (1431655765 : Int32))).toUInt32 >>> ((2 : Int32).toUInt32 &&& Int32.toUInt32 31)).toInt32 &&& (858993459 : Int32))).toUInt32 >>> ((4 : Int32).toUInt32 &&& Int32.toUInt32 31)).toInt32) &&& (252645135 : Int32)).toUInt32 >>> ((8 : Int32).toUInt32 &&& Int32.toUInt32 31)).toInt32).toUInt32 >>> ((16 : Int32).toUInt32 &&& Int32.toUInt32 31)).toInt32) &&& (63 : Int32)
theorem sp_bits {S : Mem} {x : Int32} {Q : Mem → Int32 → Prop} (h : Q S (bC x)) : vc_J6_bitCount_0f7a4 S x Q := h
theorem bC_step : ∀ i, i < 10 → ∀ m, m < 2 ^ i → (nI m ||| ((1 : Int32) <<< (nI i &&& 31))) = nI (m + 2 ^ i) ∧ bC (nI (m + 2 ^ i)) = bC (nI m) + 1 := by decide +kernel
def cntK (t : Ts) : Nat → Nat
  | 0 => 0
  | i + 1 => if askT (t i) then cntK t i + 1 else cntK t i
theorem mask_bits {t : Ts} {n : Nat} (hn : n ≤ 10) : ∀ i, i ≤ n → ∃ m, m < 2 ^ i ∧ maskS t i = nI m ∧ bC (nI m) = nI (cntK t i)
  | 0, _ => ⟨0, by decide, rfl, show bC (nI 0) = nI 0 by decide +kernel⟩
  | i + 1, hi => by
    obtain ⟨m, h1, h2, h3⟩ := mask_bits hn i (by omega)
    have hs := bC_step i (by omega) m h1
    by_cases c : askT (t i)
    · refine ⟨m + 2 ^ i, by rw [Nat.pow_succ]; omega, ?_, ?_⟩
      · rw [maskS, if_pos c, h2]; exact hs.1
      · rw [hs.2, h3, cntK, if_pos c, nI_1]
    · refine ⟨m, by rw [Nat.pow_succ]; omega, ?_, ?_⟩
      · rw [maskS, if_neg c]; exact h2
      · rw [cntK, if_neg c]; exact h3
theorem cntK_le (t : Ts) : ∀ i, cntK t i ≤ i
  | 0 => Nat.le_refl 0
  | i + 1 => by
    have := cntK_le t i
    rw [cntK]
    split <;> omega
def lookG (g : Gl) (t : Ts) (n : Nat) : Gl := if 2 ≤ cntK t n then spG g (cntS g t n (cA g t) n) else g
def lookT (g : Gl) (t : Ts) (n : Nat) : Ts := if 2 ≤ cntK t n then outA g (cmpA g t n n) n else t
theorem outA_cg {g g' : Gl} {t : Ts} {m : Nat} (h0 : g' 0 = g 0) (h3 : g' 3 = g 3) : outA g' t m = outA g t m := by
  funext i
  unfold outA askR
  rw [h0, h3]
theorem sp_look {Q : Mem → Prop} {S : Mem} {P n : Nat} {g : Gl} {t : Ts} (hP : P < 11) (hw : ∀ i, i < n → ∃ κ, κ ≤ 6 ∧ t i 7 = nI κ) (h : PR S P g t n) (hq : ∀ S', FrP P S S' → PR S' P (lookG g t n) (lookT g t n) n → Q S') : vc_X3_lookForSpikes S P Q := by
  have hn := h.2.1.1
  obtain ⟨m, h1, h2, h3⟩ := mask_bits (t := t) hn n (Nat.le_refl n)
  have hk := cntK_le t n
  unfold vc_X3_lookForSpikes
  refine sp_mask hP h (sp_bits ?_)
  rw [h2, h3]
  refine ⟨fun c => ?_, fun c => ?_⟩
  · have hc : 2 ≤ cntK t n := by
      by_cases hh : 2 ≤ cntK t n
      · exact hh
      · exact absurd (show nI 2 ≤ nI (cntK t n) from c) (nI_ge (by omega) (by omega))
    unfold lookG lookT at hq
    rw [if_pos hc, if_pos hc] at hq
    rw [nI_lit0]
    refine ⟨n + 1, lp_cmp (g := g) (t := t) hP hw n 0 S (by omega) (h.cg (fun k hk => ?_) (fun i hi => ?_)) fun S1 hf1 h1 => ⟨n + 1, lp_shut (g := spG g (cntS g t n (cA g t) n)) (t := cmpA g t n n) hP (fun i hi => ?_) n 0 S1 (by omega) (h1.cg (fun _ _ => rfl) (fun i hi => ?_)) fun S2 hf2 h2 => hq S2 (hf1.tr hf2) ?_⟩⟩
    · by_cases e : k = 13
      · subst e
        rw [spG_13]
        exact (Int32.add_zero _).symm
      · exact (spG_k e).symm
    · exact (if_neg (by omega)).symm
    · obtain ⟨κ, a1, a2⟩ := hw i hi
      exact ⟨κ, a1, (cmpA_same g t n n i).2.2.2.trans a2⟩
    · exact (if_neg (by omega)).symm
    · rw [outA_cg (spG_k (by decide)) (spG_k (by decide))] at h2
      exact h2
  · have hc : ¬ 2 ≤ cntK t n := fun hh => c (show nI 2 ≤ nI (cntK t n) from nI_le hh (by omega))
    unfold lookG lookT at hq
    rw [if_neg hc, if_neg hc] at hq
    exact hq S (FrP.rf P S) h
