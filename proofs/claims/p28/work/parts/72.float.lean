/-! a quotient of ints by an int that is not 0 is a number -/
def flK (N : Nat) : Prop := N < 18446744073709551616 ∧ N % 9223372036854775808 ≤ 9218868437227405312
theorem fl_t : FP.Core.Fmt.tails FP.Core.b64 = 4503599627370496 := by decide +kernel
theorem fl_e : FP.Core.Fmt.exps FP.Core.b64 = 2048 := by decide +kernel
theorem fl_min : FP.Core.Fmt.qmin FP.Core.b64 = -1074 := by decide +kernel
theorem fl_max : FP.Core.Fmt.qmax FP.Core.b64 = 971 := by decide +kernel
theorem fl_p : 2 ^ FP.Core.Fmt.p FP.Core.b64 = 9007199254740992 := by decide +kernel
theorem fl_s (s : Bool) : s.toNat = 0 ∨ s.toNat = 1 := by cases s <;> simp
theorem fl_fin (s : Bool) {c : Nat} {q : Int} (hc : c < 9007199254740992) (h1 : -1074 ≤ q) (h2 : q ≤ 971) : flK (FP.Core.encode FP.Core.b64 (.fin s c q)) := by
  have hs := fl_s s
  have e : FP.Core.encode FP.Core.b64 (.fin s c q) = if c < FP.Core.Fmt.tails FP.Core.b64 then FP.Core.assemble FP.Core.b64 s 0 c else FP.Core.assemble FP.Core.b64 s ((q - FP.Core.Fmt.qmin FP.Core.b64).toNat + 1) (c - FP.Core.Fmt.tails FP.Core.b64) := rfl
  rw [e, fl_t, fl_min]
  unfold flK FP.Core.assemble
  rw [fl_t, fl_e]
  split <;> omega
theorem fl_inf (s : Bool) : flK (FP.Core.encode FP.Core.b64 (.inf s)) := by
  have hs := fl_s s
  have e : FP.Core.encode FP.Core.b64 (.inf s) = FP.Core.assemble FP.Core.b64 s (FP.Core.Fmt.exps FP.Core.b64 - 1) 0 := rfl
  rw [e]
  unfold flK FP.Core.assemble
  rw [fl_t, fl_e]
  omega
theorem fl_ratio (s : Bool) (A B : Nat) (e : Int) : flK (FP.Core.encode FP.Core.b64 (FP.Core.roundRatio FP.Core.b64 s A B e)) := by
  unfold FP.Core.roundRatio
  by_cases h : A = 0
  · rw [if_pos h, fl_min]
    exact fl_fin s (by omega) (by omega) (by omega)
  · rw [if_neg h]
    have hq : -1074 ≤ FP.Core.quantum FP.Core.b64 A B e := by
      unfold FP.Core.quantum
      rw [fl_min]
      exact Int.le_max_left _ _
    generalize FP.Core.quantum FP.Core.b64 A B e = q at hq
    unfold FP.Core.roundAt FP.Core.settle FP.Core.bound
    rw [fl_p, fl_max, fl_t]
    generalize FP.Core.nearest (FP.Core.unitsNum A e q) (FP.Core.unitsDen B e q) = c
    by_cases hc : c < 9007199254740992
    · rw [if_pos hc]
      by_cases h2 : q ≤ 971
      · rw [if_pos h2]; exact fl_fin s hc hq h2
      · rw [if_neg h2]; exact fl_inf s
    · rw [if_neg hc]
      by_cases h2 : q + 1 ≤ 971
      · rw [if_pos h2]; exact fl_fin s (by omega) (by omega) h2
      · rw [if_neg h2]; exact fl_inf s
theorem fl_dec {n : Nat} (h : n % 9223372036854775808 ≤ 9218868437227405312) : FP.Core.decode FP.Core.b64 n ≠ .nan := by
  unfold FP.Core.decode FP.Core.fieldE FP.Core.fieldT
  rw [fl_t, fl_e]
  by_cases h1 : n / 4503599627370496 % 2048 = 2048 - 1
  · rw [if_pos h1]
    by_cases h2 : n % 4503599627370496 = 0
    · rw [if_pos h2]; exact fun hh => by cases hh
    · exact absurd h (by omega)
  · rw [if_neg h1]
    by_cases h2 : n / 4503599627370496 % 2048 = 0
    · rw [if_pos h2]; exact fun hh => by cases hh
    · rw [if_neg h2]; exact fun hh => by cases hh
theorem fl_nat {N : Nat} (h : flK N) : (UInt64.ofNat N).toNat = N := UInt64.toNat_ofNat_of_lt' h.1
theorem fl_i2d (x : Int32) : FP.Core.decode FP.Core.b64 (FP.i2d x).toNat ≠ .nan := by
  have h := fl_ratio (decide (x.toInt < 0)) x.toInt.natAbs 1 0
  have e : (FP.i2d x).toNat = FP.Core.encode FP.Core.b64 (FP.Core.roundRatio FP.Core.b64 (decide (x.toInt < 0)) x.toInt.natAbs 1 0) := fl_nat h
  rw [e]
  exact fl_dec h.2
/-- the divisor: one of 1 .. 6 -/
theorem fl_one {k : Nat} (h1 : 1 ≤ k) (h6 : k ≤ 6) : ∃ (t : Bool) (d : Nat) (r : Int), d ≠ 0 ∧ FP.Core.decode FP.Core.b64 (FP.i2d (nI k)).toNat = .fin t d r := by
  have hc : k = 1 ∨ k = 2 ∨ k = 3 ∨ k = 4 ∨ k = 5 ∨ k = 6 := by omega
  rcases hc with rfl | rfl | rfl | rfl | rfl | rfl
  · exact ⟨false, 4503599627370496, -52, by decide, by decide +kernel⟩
  · exact ⟨false, 4503599627370496, -51, by decide, by decide +kernel⟩
  · exact ⟨false, 6755399441055744, -51, by decide, by decide +kernel⟩
  · exact ⟨false, 4503599627370496, -50, by decide, by decide +kernel⟩
  · exact ⟨false, 5629499534213120, -50, by decide, by decide +kernel⟩
  · exact ⟨false, 6755399441055744, -50, by decide, by decide +kernel⟩
theorem fl_div (x : Int32) {k : Nat} (h1 : 1 ≤ k) (h6 : k ≤ 6) : (FP.ddiv (FP.i2d x) (FP.i2d (nI k))).toNat % 9223372036854775808 ≤ 9218868437227405312 := by
  obtain ⟨t, d, r, hd, e⟩ := fl_one h1 h6
  have hx := fl_i2d x
  have e2 : FP.ddiv (FP.i2d x) (FP.i2d (nI k)) = UInt64.ofNat (FP.Core.encode FP.Core.b64 (FP.Core.quotient FP.Core.b64 (FP.Core.decode FP.Core.b64 (FP.i2d x).toNat) (FP.Core.decode FP.Core.b64 (FP.i2d (nI k)).toNat))) := rfl
  rw [e2, e]
  generalize FP.Core.decode FP.Core.b64 (FP.i2d x).toNat = a at hx
  cases a with
  | nan => exact absurd rfl hx
  | inf s =>
    have h : flK (FP.Core.encode FP.Core.b64 (FP.Core.quotient FP.Core.b64 (.inf s) (.fin t d r))) := fl_inf (s != t)
    rw [fl_nat h]
    exact h.2
  | fin s c q =>
    have e3 : FP.Core.quotient FP.Core.b64 (.fin s c q) (.fin t d r) = if d = 0 then (if c = 0 then .nan else .inf (s != t)) else FP.Core.roundRatio FP.Core.b64 (s != t) c d (q - r) := rfl
    rw [e3, if_neg hd]
    have h := fl_ratio (s != t) c d (q - r)
    rw [fl_nat h]
    exact h.2
theorem fl_vf {a : UInt64} (h : a.toNat % 9223372036854775808 ≤ 9218868437227405312) : vf_n64 a := by
  unfold vf_n64
  rw [UInt64.le_iff_toNat_le, UInt64.toNat_and]
  show a.toNat &&& (2 ^ 63 - 1) ≤ 9218868437227405312
  rw [Nat.and_two_pow_sub_one_eq_mod]
  exact h
theorem fl_cmp {a : UInt64} (h : a.toNat % 9223372036854775808 ≤ 9218868437227405312) : Op.cmpValue (FP.dcmp a a) CmpOp.l = 0 := by
  have hn := fl_dec h
  have e : FP.dcmp a a = some .eq := by
    show FP.Core.order (FP.Core.decode FP.Core.b64 a.toNat) (FP.Core.decode FP.Core.b64 a.toNat) = some .eq
    have hc : ∀ z : Int, compare z z = .eq := fun z => by simp [compare, compareOfLessAndEq]
    generalize FP.Core.decode FP.Core.b64 a.toNat = d at hn
    cases d with
    | nan => exact absurd rfl hn
    | inf s => exact congrArg some (hc _)
    | fin s c q => exact congrArg some (hc _)
  rw [e]
  rfl
theorem fl_cmp0 : Op.cmpValue (FP.dcmp FP.dconst0 FP.dconst0) CmpOp.l = 0 := by decide +kernel
