/-! THE PURE PART: g (sixteen numbers of a place) and t (twenty-one of each thermometer) as the reference lays them. -/
abbrev Gl : Type := Nat → Int32
abbrev Th : Type := Nat → Int32
abbrev Ts : Type := Nat → Nat → Int32
theorem uc_app (S : Mem) (t P i : Nat) (f : Nat → Int32) (t' P' i' : Nat) : uc S t P i f t' P' i' = if t' = t ∧ P' = P ∧ i' = i then f else S t' P' i' := rfl
theorem upd_app (f : Nat → Int32) (k : Nat) (x : Int32) (j : Nat) : upd f k x j = if j = k then x else f j := rfl
theorem uc_t {S : Mem} {t P i t' P' i' : Nat} {f : Nat → Int32} (h : t' ≠ t) : uc S t P i f t' P' i' = S t' P' i' := if_neg fun h2 => h h2.1
theorem uc_P {S : Mem} {t P i t' P' i' : Nat} {f : Nat → Int32} (h : P' ≠ P) : uc S t P i f t' P' i' = S t' P' i' := if_neg fun h2 => h h2.2.1
theorem uc_i {S : Mem} {t P i t' P' i' : Nat} {f : Nat → Int32} (h : i' ≠ i) : uc S t P i f t' P' i' = S t' P' i' := if_neg fun h2 => h h2.2.2
abbrev i3 (x : Int32) : Int := x.toInt
def mendB (t : Th) (lag : Int32) : Int32 := if t 7 = 0 then -999999 else (if 1 < t 7 then t 10 + (t 10 - t 12) * (lag - 1) / (t 9 - t 11) else t 10) - t 2
def mended (t : Th) : Int32 := mendB t (t 1)
abbrev askT (t : Th) : Prop := 0 < t 7 ∧ t 6 = 0
/-- a thermometer's numbers are as they can be, at the hour h -/
def WT (h : Int) (t : Th) : Prop := (∃ ρ, ρ < 4 ∧ t 0 = nI ρ) ∧ (1 ≤ (t 1).toInt ∧ (t 1).toInt ≤ 9) ∧ (-200 ≤ (t 2).toInt ∧ (t 2).toInt ≤ 200) ∧ (1 ≤ (t 3).toInt ∧ (t 3).toInt ≤ 5) ∧ (-20000 ≤ (t 4).toInt ∧ (t 4).toInt ≤ 20000) ∧ (t 6 = 0 ∨ t 6 = 1) ∧ ∃ κ, κ ≤ 6 ∧ t 7 = nI κ ∧ (∀ k, k < κ → (-20000 ≤ (t (10 + 2 * k)).toInt ∧ (t (10 + 2 * k)).toInt ≤ 20000) ∧ 0 ≤ (t (9 + 2 * k)).toInt ∧ (t (9 + 2 * k)).toInt ≤ h) ∧ ∀ k, k + 1 < κ → (t (9 + 2 * (k + 1))).toInt < (t (9 + 2 * k)).toInt
def WG (g : Gl) (n : Nat) : Prop := n ≤ 10 ∧ g 15 = nI n ∧ (0 ≤ (g 0).toInt ∧ (g 0).toInt ≤ 10100) ∧ (-5000 ≤ (g 1).toInt ∧ (g 1).toInt ≤ 5000) ∧ (∀ k, k < 4 → 1 ≤ (g (4 + k)).toInt ∧ (g (4 + k)).toInt ≤ 6) ∧ 0 ≤ (g 12).toInt ∧ (g 12).toInt ≤ 10 * (g 0).toInt
def WS (g : Gl) (t : Ts) (n : Nat) : Prop := WG g n ∧ ∀ i, i < n → WT (g 0).toInt (t i)
/-- the reference's row f, from the place b on, is g and t -/
def RT (f : Nat → Int32) (b : Nat) (g : Gl) (t : Ts) : Prop := (∀ k, k < 16 → f (b + k) = g k) ∧ ∀ i, i < 10 → ∀ j, j < 21 → f (b + 16 + 21 * i + j) = t i j
/-- the thermometer (P, i) of the system is t -/
def TR (S : Mem) (P i : Nat) (t : Th) : Prop := S 5 P i 5 = t 0 ∧ S 5 P i 3 = t 1 ∧ S 5 P i 4 = t 2 ∧ S 5 P i 6 = t 3 ∧ S 5 P i 7 = t 4 ∧ S 5 P i 8 = t 5 ∧ S 5 P i 10 = t 6 ∧ S 5 P i 2 = t 7 ∧ S 5 P i 9 = t 8 ∧ S 5 P i 11 = mended t ∧ ∀ κ, t 7 = nI κ → κ ≤ 6 → ∀ k, k < κ → S 6 P i k = t (9 + 2 * k) ∧ S 7 P i k = t (10 + 2 * k)
def GR (S : Mem) (P : Nat) (g : Gl) : Prop := S 3 P 0 7 = g 0 ∧ S 3 P 0 8 = g 1 ∧ S 3 P 0 11 = g 2 ∧ S 3 P 0 12 = g 3 ∧ (∀ k, k < 4 → S 12 P 0 k = g (4 + k) ∧ S 13 P 0 k = g (8 + k)) ∧ S 3 P 0 9 = g 12 ∧ S 3 P 0 10 = g 13 ∧ S 3 P 0 5 = g 14 ∧ S 3 P 0 6 = g 15
def PR (S : Mem) (P : Nat) (g : Gl) (t : Ts) (n : Nat) : Prop := GR S P g ∧ (n ≤ 10 ∧ S 3 P 0 6 = nI n) ∧ ∀ i, i < n → TR S P i (t i)
/-- nothing but the place P has changed -/
def FrP (P : Nat) (S S' : Mem) : Prop := ∀ t P' i', ¬ ((t = 0 ∨ t = 3 ∨ t = 5 ∨ t = 6 ∨ t = 7 ∨ t = 8 ∨ t = 12 ∨ t = 13) ∧ P' = P) → S' t P' i' = S t P' i'
theorem FrP.rf (P : Nat) (S : Mem) : FrP P S S := fun _ _ _ _ => rfl
theorem FrP.tr {P : Nat} {S S' S'' : Mem} (h : FrP P S S') (h2 : FrP P S' S'') : FrP P S S'' := fun t P' i' hn => (h2 t P' i' hn).trans (h t P' i' hn)
theorem FrP.uc {P t i : Nat} (ht : t = 0 ∨ t = 3 ∨ t = 5 ∨ t = 6 ∨ t = 7 ∨ t = 8 ∨ t = 12 ∨ t = 13) (S : Mem) (f : Nat → Int32) : FrP P S (uc S t P i f) := fun t' P' i' hn => uc_ne fun h => hn ⟨by rw [h.1]; exact ht, h.2.1⟩
theorem nI_inj {a b : Nat} (ha : a < 2 ^ 31) (hb : b < 2 ^ 31) (h : nI a = nI b) : a = b := (nI_eq ha hb).mp h
theorem nI_lit0 : (0 : Int32) = nI 0 := rfl
theorem nI_lit1 : (1 : Int32) = nI 1 := rfl
theorem nI_m1 (i : Nat) : nI (i + 1) - (1 : Int32) = nI i := nI_pred i
theorem nI_lt0 {n : Nat} (h : n < 2 ^ 31) : 0 < nI n ↔ 0 < n := by rw [nI_lit0]; exact nI_ltI (by omega) h
theorem nI_eq0 {n : Nat} (h : n < 2 ^ 31) : nI n = 0 ↔ n = 0 := by rw [nI_lit0]; exact nI_eq h (by omega)
theorem i_le {x y : Int32} : x ≤ y ↔ x.toInt ≤ y.toInt := Int32.le_iff_toInt_le
theorem i_lt {x y : Int32} : x < y ↔ x.toInt < y.toInt := Int32.lt_iff_toInt_lt
theorem i_eq {x y : Int32} : x = y ↔ x.toInt = y.toInt := Int32.toInt_inj.symm
theorem i_rng (x : Int32) : -2147483648 ≤ x.toInt ∧ x.toInt < 2147483648 := ⟨Int32.le_toInt x, Int32.toInt_lt x⟩
theorem i_bm {z : Int} (h1 : -2147483648 ≤ z) (h2 : z < 2147483648) : z.bmod (2 ^ 32) = z := by
  rw [Int.bmod_eq_of_le] <;> omega
theorem i_add {x y : Int32} (h1 : -2147483648 ≤ x.toInt + y.toInt) (h2 : x.toInt + y.toInt < 2147483648) : (x + y).toInt = x.toInt + y.toInt := by rw [Int32.toInt_add]; exact i_bm h1 h2
theorem i_sub {x y : Int32} (h1 : -2147483648 ≤ x.toInt - y.toInt) (h2 : x.toInt - y.toInt < 2147483648) : (x - y).toInt = x.toInt - y.toInt := by rw [Int32.toInt_sub]; exact i_bm h1 h2
theorem i_mul {x y : Int32} (h1 : -2147483648 ≤ x.toInt * y.toInt) (h2 : x.toInt * y.toInt < 2147483648) : (x * y).toInt = x.toInt * y.toInt := by rw [Int32.toInt_mul]; exact i_bm h1 h2
theorem i_div {x y : Int32} (h1 : -2147483648 < x.toInt) : (x / y).toInt = x.toInt.tdiv y.toInt := by
  rw [Int32.toInt_div]
  have hx := i_rng x
  have hb : (x.toInt.tdiv y.toInt).natAbs ≤ x.toInt.natAbs := Int.natAbs_tdiv_le_natAbs _ _
  exact i_bm (by omega) (by omega)
