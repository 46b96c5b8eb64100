/-! the mean error; all calls; the run -/
theorem dec_nan {a : UInt64} (h : isNaN64 a = true) : FP.Core.decode FP.Core.b64 a.toNat = FP.Core.Datum.nan := by
  have h2 := isNaN64_iff.mp h
  rw [show (0x7fffffffffffffff : Nat) = 2 ^ 63 - 1 from rfl, Nat.and_two_pow_sub_one_eq_mod] at h2
  have ht : FP.Core.Fmt.tails FP.Core.b64 = 4503599627370496 := by decide +kernel
  have he : FP.Core.Fmt.exps FP.Core.b64 = 2048 := by decide +kernel
  unfold FP.Core.decode FP.Core.fieldE FP.Core.fieldT
  rw [ht, he, if_pos (by omega), if_neg (by omega)]
theorem cmp_m1 {a b : UInt64} (h : isNaN64 a = true) : Op.cmpValue (FP.dcmp a b) CmpOp.l = -1 := by
  have e : FP.dcmp a b = none := by
    show FP.Core.order (FP.Core.decode FP.Core.b64 a.toNat) (FP.Core.decode FP.Core.b64 b.toNat) = none
    rw [dec_nan h]
    rfl
  rw [e]
  rfl
theorem cmp_same {A : Prop} {a : UInt64} (h : A) : (((Op.cmpValue (FP.dcmp a a) CmpOp.l) = 0) → A) ∧ ((¬ (Op.cmpValue (FP.dcmp a a) CmpOp.l) = 0) → (((Op.cmpValue (FP.dcmp a a) CmpOp.l) = 0) → False) ∧ ((¬ (Op.cmpValue (FP.dcmp a a) CmpOp.l) = 0) → ((¬ (Op.cmpValue (FP.dcmp a a) CmpOp.l) = 0) → A) ∧ (((Op.cmpValue (FP.dcmp a a) CmpOp.l) = 0) → False))) := ⟨fun _ => h, fun c => ⟨fun c2 => c c2, fun c2 => ⟨fun _ => h, fun c3 => c2 c3⟩⟩⟩
theorem cmp_al {A : Prop} {a b x : UInt64} (h1 : alike64 a x = true) (h2 : alike64 b x = true) (h : A) : (((Op.cmpValue (FP.dcmp a b) CmpOp.l) = 0) → A) ∧ ((¬ (Op.cmpValue (FP.dcmp a b) CmpOp.l) = 0) → (((Op.cmpValue (FP.dcmp a a) CmpOp.l) = 0) → False) ∧ ((¬ (Op.cmpValue (FP.dcmp a a) CmpOp.l) = 0) → ((¬ (Op.cmpValue (FP.dcmp b b) CmpOp.l) = 0) → A) ∧ (((Op.cmpValue (FP.dcmp b b) CmpOp.l) = 0) → False))) := by
  unfold alike64 at h1 h2
  rw [Bool.or_eq_true, decide_eq_true_iff, Bool.and_eq_true] at h1 h2
  by_cases hx : isNaN64 x = true
  · have ha : isNaN64 a = true := by
      rcases h1 with e | e
      · rw [e]; exact hx
      · exact e.1
    have hb : isNaN64 b = true := by
      rcases h2 with e | e
      · rw [e]; exact hx
      · exact e.1
    rw [cmp_m1 ha, cmp_m1 ha, cmp_m1 hb]
    exact ⟨fun c => absurd c (by decide), fun _ => ⟨fun c => absurd c (by decide), fun _ => ⟨fun _ => h, fun c => absurd c (by decide)⟩⟩⟩
  · have ea : a = x := h1.resolve_right (fun hh => hx hh.2)
    have eb : b = x := h2.resolve_right (fun hh => hx hh.2)
    rw [ea, eb]
    exact cmp_same h
theorem call24_ok {xs : Nat → Int32} {i : Nat} {S : Mem} {o : Nat → Int64} {K : Mem → (Nat → Int64) → Prop} (hr : Rel S) (hK : ∀ S' o', Rel S' → K S' o') : vc_call24 xs i S o K := by
  obtain ⟨s, ν, k, h, q, z, ℓ, b, ho, hc, hm⟩ := hr
  have hs := ho.1
  have hz := CZ.ini hc
  have hn10 : s.2.2 ≤ 10 := hs.1.1.1
  have hg : s.1 15 = nI s.2.2 := hs.1.1.2.1
  unfold vc_call24 vc_X6_meanError
  refine sp_cnt (by decide) hc.1 ⟨fun c => sp_err (by decide) hc.1 (fun r6 a6 => ?_), fun c => ?_⟩
  · intro S3 e3
    have m3 := MZ.ini hm S3 e3
    exact ⟨s.2.2 + 1, lx_err hn10 hg hs.w m3.mr ⟨fun c2 r17 a17 => cmp_al a6 a17 (hK S3 o (Rel.mk ho hz m3)), fun c2 => absurd c2 c⟩ s.2.2 0 (by omega)⟩
  · intro S3 e3
    have m3 := MZ.ini hm S3 e3
    exact ⟨s.2.2 + 1, lx_err hn10 hg hs.w m3.mr ⟨fun c2 => absurd c c2, fun _ => cmp_same (hK S3 o (Rel.mk ho hz m3))⟩ s.2.2 0 (by omega)⟩
theorem call_ok {xs : Nat → Int32} {i : Nat} {S : Mem} {o : Nat → Int64} {K : Mem → (Nat → Int64) → Prop} (hr : Rel S) (hK : ∀ S' o', Rel S' → K S' o') : vc_call xs i S o K :=
  ⟨fun _ => call0_ok hr hK, fun _ => ⟨fun _ => call1_ok hr hK, fun _ => ⟨fun _ => call2_ok hr hK, fun _ => ⟨fun _ => call3_ok hr hK, fun _ => ⟨fun _ => call4_ok hr hK, fun _ => ⟨fun _ => call5_ok hr hK, fun _ => ⟨fun _ => call6_ok hr hK, fun _ => ⟨fun _ => call7_ok hr hK, fun _ => ⟨fun _ => call8_ok hr hK, fun _ => ⟨fun _ => call9_ok hr hK, fun _ => ⟨fun _ => call10_ok hr hK, fun _ => ⟨fun _ => call11_ok hr hK, fun _ => ⟨fun _ => call12_ok hr hK, fun _ => ⟨fun _ => call13_ok hr hK, fun _ => ⟨fun _ => call14_ok hr hK, fun _ => ⟨fun _ => call15_ok hr hK, fun _ => ⟨fun _ => call16_ok hr hK, fun _ => ⟨fun _ => call17_ok hr hK, fun _ => ⟨fun _ => call18_ok hr hK, fun _ => ⟨fun _ => call19_ok hr hK, fun _ => ⟨fun _ => call20_ok hr hK, fun _ => ⟨fun _ => call21_ok hr hK, fun _ => ⟨fun _ => call22_ok hr hK, fun _ => ⟨fun _ => call23_ok hr hK, fun _ => ⟨fun _ => call24_ok hr hK, fun _ => hK S o hr⟩⟩⟩⟩⟩⟩⟩⟩⟩⟩⟩⟩⟩⟩⟩⟩⟩⟩⟩⟩⟩⟩⟩⟩⟩
theorem run_ok (xs : Nat → Int32) (L : Nat) : ∀ (n i : Nat) (S : Mem) (o : Nat → Int64), L ≤ i + 5 * n → Rel S → vc_run xs L (n + 1) i S o
  | 0, i, S, o, hl, hr => by
    rw [vc_run]
    exact fun h => absurd h (by omega)
  | n + 1, i, S, o, hl, hr => by
    rw [vc_run]
    exact fun _ => call_ok hr (fun S' o' hr' => run_ok xs L n (i + 5) S' o' (by omega) hr')
def t00 : Ts := fun i j => mrow0 (16 + 21 * i + j)
def s00 : St := (mrow0, t00, 0)
theorem okS00 : okS s00 := by
  refine ⟨⟨⟨Nat.zero_le 10, rfl, ?_, ?_, fun k hk => ?_, ?_⟩, fun i hi => absurd hi (Nat.not_lt_zero i)⟩, ?_⟩
  · show 0 ≤ (mrow0 0).toInt ∧ (mrow0 0).toInt ≤ 10100
    decide
  · show -5000 ≤ (mrow0 1).toInt ∧ (mrow0 1).toInt ≤ 5000
    decide
  · show 1 ≤ (mrow0 (4 + k)).toInt ∧ (mrow0 (4 + k)).toInt ≤ 6
    have e : k = 0 ∨ k = 1 ∨ k = 2 ∨ k = 3 := by omega
    rcases e with e | e | e | e
    all_goals
      subst e
      decide
  · show 0 ≤ (mrow0 12).toInt ∧ (mrow0 12).toInt ≤ 10 * (mrow0 0).toInt
    decide
  · show (mrow0 0).toInt ≤ 9999
    decide
theorem Rel0 : Rel S0 := by
  refine ⟨s00, 0, 0, fun _ => s00, fun _ => false, fun _ => s00, 0, fun _ => 0, ⟨okS00, fun j hj => absurd hj (Nat.not_lt_zero j), fun P hP hq => absurd (show false = true from hq) (by decide), Nat.zero_le 60, fun j hj => absurd hj (Nat.not_lt_zero j)⟩, ⟨⟨⟨rfl, rfl, rfl, rfl, fun k hk => ?_, rfl, rfl, rfl, rfl⟩, ⟨Nat.zero_le 10, rfl⟩, fun i hi => absurd hi (Nat.not_lt_zero i)⟩, ⟨by decide, rfl, rfl, fun j hj => absurd hj (Nat.not_lt_zero j)⟩, fun P hP => ⟨rfl, fun hq => absurd (show false = true from hq) (by decide)⟩, rfl, fun j hj => absurd hj (Nat.not_lt_zero j)⟩, ⟨⟨fun k hk => ?_, fun i hi j hj => ?_⟩, ⟨Nat.zero_le 6, rfl, fun j hj => absurd hj (Nat.not_lt_zero j)⟩, fun P hP => ⟨rfl, fun hq => absurd (show false = true from hq) (by decide)⟩, rfl, fun j hj => absurd hj (Nat.not_lt_zero j)⟩⟩
  · have e : k = 0 ∨ k = 1 ∨ k = 2 ∨ k = 3 := by omega
    rcases e with e | e | e | e
    all_goals
      subst e
      exact ⟨rfl, rfl⟩
  · show mrow0 (0 + k) = mrow0 k
    rw [Nat.zero_add]
  · show mrow0 (0 + 16 + 21 * i + j) = mrow0 (16 + 21 * i + j)
    rw [Nat.zero_add]
theorem hpure_run (xs : Nat → Int32) (L : Nat) : ∃ n : Nat, vc_run xs L n 0 S0 (fun _ => 0) := ⟨L + 1, run_ok xs L L 0 S0 _ (by omega) Rel0⟩
