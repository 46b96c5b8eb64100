/-! the reference reads an order -/
abbrev Ar : Type := Nat → Nat → Int32
def uA (A : Ar) (t : Nat) (f : Nat → Int32) : Ar := fun t' => if t' = t then f else A t'
theorem uA_app (A : Ar) (t : Nat) (f : Nat → Int32) (t' : Nat) : uA A t f t' = if t' = t then f else A t' := rfl
def MS (S : Mem) (A : Ar) : Mem := fun t P i => if P = 0 ∧ i = 0 ∧ (t = 15 ∨ (24 ≤ t ∧ t < 28)) then A t else S t P i
theorem ms_get {S : Mem} {A : Ar} {t : Nat} (h : t = 15 ∨ (24 ≤ t ∧ t < 28)) : MS S A t 0 0 = A t := if_pos ⟨rfl, rfl, h⟩
theorem ms_15 (S : Mem) (A : Ar) : MS S A 15 0 0 = A 15 := ms_get (Or.inl rfl)
theorem ms_o {S : Mem} {A : Ar} {t P i : Nat} (h : t ≠ 15 ∧ (t < 24 ∨ 28 ≤ t)) : MS S A t P i = S t P i := if_neg (fun hh => by omega)
theorem ms_uc {S : Mem} {A : Ar} {t : Nat} {f : Nat → Int32} (h : t = 15 ∨ (24 ≤ t ∧ t < 28)) : uc (MS S A) t 0 0 f = MS S (uA A t f) := by
  funext t' P i
  unfold uc MS uA
  by_cases c : t' = t ∧ P = 0 ∧ i = 0
  · rw [if_pos c, if_pos ⟨c.2.1, c.2.2, by rw [c.1]; exact h⟩, if_pos c.1]
  · rw [if_neg c]
    by_cases d : P = 0 ∧ i = 0 ∧ (t' = 15 ∨ (24 ≤ t' ∧ t' < 28))
    · rw [if_pos d, if_pos d, if_neg (fun hh => c ⟨hh, d.1, d.2.1⟩)]
    · rw [if_neg d, if_neg d]
/-- only the spot, the count and the entries of the order k are others -/
def RA (k : Nat) (A A' : Ar) : Prop := (∀ j, j ≠ 12 → j ≠ 13 → A' 15 j = A 15 j) ∧ ∀ t, 24 ≤ t → t < 28 → ∀ j, j ≠ k → A' t j = A t j
theorem RA.rf (k : Nat) (A : Ar) : RA k A A := ⟨fun _ _ _ => rfl, fun _ _ _ _ _ => rfl⟩
theorem RA.tr {k : Nat} {A A' A'' : Ar} (h : RA k A A') (h2 : RA k A' A'') : RA k A A'' := ⟨fun j a b => (h2.1 j a b).trans (h.1 j a b), fun t a b j c => (h2.2 t a b j c).trans (h.2 t a b j c)⟩
theorem RA.s15 (k : Nat) (A : Ar) {j : Nat} {x : Int32} (hj : j = 12 ∨ j = 13) : RA k A (uA A 15 (upd (A 15) j x)) := ⟨fun j' a b => by rw [uA_app, if_pos rfl, upd_app, if_neg (by omega)], fun t a b j _ => by rw [uA_app, if_neg (by omega)]⟩
theorem RA.arr (k : Nat) (A : Ar) {t : Nat} {x : Int32} (ht : 24 ≤ t ∧ t < 28) : RA k A (uA A t (upd (A t) k x)) := ⟨fun j' a b => by rw [uA_app, if_neg (by omega)], fun t' a b j hj => by
  rw [uA_app]
  by_cases e : t' = t
  · rw [if_pos e, upd_app, if_neg hj, e]
  · rw [if_neg e]⟩
theorem uc_self {S : Mem} {t P i k : Nat} {x : Int32} (h : x = S t P i k) : uc S t P i (upd (S t P i) k x) = S := by
  funext t' P' i'
  unfold uc
  by_cases c : t' = t ∧ P' = P ∧ i' = i
  · rw [if_pos c, c.1, c.2.1, c.2.2]
    funext j
    rw [upd_app]
    by_cases e : j = k
    · rw [if_pos e, e]; exact h
    · rw [if_neg e]
  · rw [if_neg c]
section
variable {S : Mem} {A : Ar} {ℓ : Nat} {b : Nat → Int32} {p k : Nat}
theorem sx_tk {lo hi : Int32} {Q : Mem → Int32 → Prop} (hx : ∀ j, j < ℓ → S 23 0 0 j = b j) (hℓ : ℓ ≤ 60) (hp : p ≤ 100) (i11 : A 15 11 = nI ℓ) (i12 : A 15 12 = nI p) (i13 : A 15 13 = nI k) (hy : tkB ℓ b lo hi p = true → ∀ A', RA k A A' → A' 15 11 = nI ℓ → A' 15 12 = nI (p + 1) → A' 15 13 = nI k → (∀ t, t ≠ 15 → A' t = A t) → Q (MS S A') 1) (hn : tkB ℓ b lo hi p = false → Q (MS S A) 0) : vc_X7_takes (MS S A) lo hi Q := by
  have e23 : MS S A 23 0 0 = S 23 0 0 := ms_o (by omega)
  have no : tkB ℓ b lo hi p = false → vc_X7_takes_J33 Q lo hi (MS S A) 0 := fun c => by
    unfold vc_X7_takes_J33
    refine ⟨fun _ S3 e => ⟨Or.inl rfl, ?_⟩, fun c9 => absurd rfl c9⟩
    rw [Int32.add_zero, uc_self rfl] at e
    rw [e]
    exact hn c
  unfold vc_X7_takes vc_X7_takes_J32
  rw [ms_15, e23, i11, i12]
  refine ⟨fun c => no (decide_eq_false (fun hh => ?_)), fun c => ?_⟩
  · have := (nI_leI (by omega) (by omega)).mp c
    omega
  · have hlt : p < ℓ := by
      by_cases hh : ℓ ≤ p
      · exact absurd ((nI_leI (by omega) (by omega)).mpr hh) c
      · omega
    rw [nI_clamp (by omega), hx p hlt]
    refine ⟨vp_in_nI (by omega) (by decide), fun c2 => ⟨fun _ => no (decide_eq_false (fun hh => i_nlt.mpr hh.2.1 c2)), fun c9 => absurd rfl c9⟩, fun c2 => ⟨fun c3 => ⟨fun _ => no (decide_eq_false (fun hh => i_nlt.mpr hh.2.2 c3)), fun c9 => absurd rfl c9⟩, fun c3 => ⟨fun c9 => absurd c9 (by decide), fun _ => ?_⟩⟩⟩
    unfold vc_X7_takes_J33
    refine ⟨fun c9 => absurd c9 (by decide), fun _ S5 e => ⟨Or.inr rfl, ?_⟩⟩
    rw [ms_15, i12, nI_1, ms_uc (Or.inl rfl)] at e
    rw [e]
    refine hy (decide_eq_true ⟨hlt, i_nlt.mp c2, i_nlt.mp c3⟩) _ (RA.s15 k A (Or.inl rfl)) ?_ ?_ ?_ (fun t ht => by rw [uA_app, if_neg ht])
    all_goals simp only [uA_app, upd_app, Nat.reduceEqDiff, reduceIte]
    · exact i11
    · exact i13
theorem sx_dg {Q : Mem → Int32 → Prop} (hx : ∀ j, j < ℓ → S 23 0 0 j = b j) (hℓ : ℓ ≤ 60) (hlt : p < ℓ) (i12 : A 15 12 = nI (p + 1)) (hq : Q (MS S A) (b p - 48)) : vc_X7_digit (MS S A) Q := by
  have e23 : MS S A 23 0 0 = S 23 0 0 := ms_o (by omega)
  unfold vc_X7_digit
  rw [ms_15, e23, i12, nI_m1, nI_clamp (by omega), hx p hlt]
  exact ⟨vp_in_nI (by omega) (by decide), hq⟩
theorem sx_arr {t : Nat} {x : Int32} {G : Mem → Prop} (ht : 24 ≤ t ∧ t < 28) (hk : k < 30) (i13 : A 15 13 = nI k) (hq : G (MS S (uA A t (upd (A t) k x)))) : vp_in (MS S A 15 0 0 13) 30 ∧ ∀ S', S' = uc (MS S A) t 0 0 (upd (MS S A t 0 0) (MS S A 15 0 0 13).toNatClampNeg x) → G S' := by
  rw [ms_15, i13, nI_clamp (by omega)]
  refine ⟨vp_in_nI hk (by decide), fun S' e => ?_⟩
  rw [ms_get (Or.inr ht), ms_uc (Or.inr ht)] at e
  rw [e]
  exact hq
/-- a digit is taken and kept -/
theorem sx_tds {lo hi t : Nat} {G N : Mem → Prop} (hx : ∀ j, j < ℓ → S 23 0 0 j = b j) (hℓ : ℓ ≤ 60) (hp : p ≤ 100) (hk : k < 30) (h48 : 48 ≤ lo ∧ lo ≤ 57) (h57 : hi ≤ 57) (ht : 24 ≤ t ∧ t < 28) (i11 : A 15 11 = nI ℓ) (i12 : A 15 12 = nI p) (i13 : A 15 13 = nI k) (hy : tkB ℓ b (nI lo) (nI hi) p = true → ∀ A', RA k A A' → A' 15 11 = nI ℓ → A' 15 12 = nI (p + 1) → A' 15 13 = nI k → A' t k = nI (dN b p) → (∀ t', t' ≠ 15 → t' ≠ t → A' t' = A t') → G (MS S A')) (hn : tkB ℓ b (nI lo) (nI hi) p = false → N (MS S A)) : vc_X7_takes (MS S A) (nI lo) (nI hi) (fun (S_1 : Mem) (r_2 : Int32) => ((¬ r_2 = 0) → vc_X7_digit S_1 (fun (S_4 : Mem) (r_5 : Int32) => vp_in (S_1 15 0 0 13) 30 ∧ ∀ S_6 : Mem, S_6 = uc S_4 t 0 0 (upd (S_4 t 0 0) (S_1 15 0 0 13).toNatClampNeg r_5) → G S_6)) ∧ ((r_2 = 0) → N S_1)) := by
  refine sx_tk (k := k) hx hℓ hp i11 i12 i13 (fun c A1 r1 a11 a12 a13 ao => ⟨fun _ => sx_dg hx hℓ (tkB_y c).1 a12 (sx_arr ht hk a13 ?_), fun c9 => absurd c9 (by decide)⟩) (fun c => ⟨fun c9 => absurd rfl c9, fun _ => hn c⟩)
  rw [(dN_ok c h48 h57).1]
  have t15 : ¬ 15 = t := by omega
  refine hy c _ (r1.tr (RA.arr k A1 ht)) ?_ ?_ ?_ ?_ (fun t' h1 h2 => ?_)
  · rw [uA_app, if_neg t15]; exact a11
  · rw [uA_app, if_neg t15]; exact a12
  · rw [uA_app, if_neg t15]; exact a13
  · rw [uA_app, if_pos rfl, upd_app, if_pos rfl]
  · rw [uA_app, if_neg h2]; exact ao t' h1
theorem sx_new {Q : Mem → Int32 → Prop} (hx : ∀ j, j < ℓ → S 23 0 0 j = b j) (hℓ : ℓ ≤ 60) (hp : p ≤ 90) (hk : k < 30) (i11 : A 15 11 = nI ℓ) (i12 : A 15 12 = nI p) (i13 : A 15 13 = nI k) (hy : (pNew ℓ b p).1 = true → ∀ A', RA k A A' → A' 15 12 = nI (pNew ℓ b p).2.1 → A' 15 13 = nI k → (pNew ℓ b p).2.2 = (116, A' 25 k, A' 26 k, A' 27 k) → Q (MS S A') 1) (hn : (pNew ℓ b p).1 = false → ∀ A', RA k A A' → A' 15 12 = nI (pNew ℓ b p).2.1 → A' 15 13 = nI k → Q (MS S A') 0) : vc_X7_readNew (MS S A) Q := by
  have fy : ∀ A' q o, pNew ℓ b p = (true, q, o) → RA k A A' → A' 15 12 = nI q → A' 15 13 = nI k → o = (116, A' 25 k, A' 26 k, A' 27 k) → Q (MS S A') 1 := fun A' q o e r a1 a2 a3 => hy (congrArg Prod.fst e) A' r (by rw [e]; exact a1) a2 (by rw [e]; exact a3)
  have fn : ∀ A' q o, pNew ℓ b p = (false, q, o) → RA k A A' → A' 15 12 = nI q → A' 15 13 = nI k → Q (MS S A') 0 := fun A' q o e r a1 a2 => hn (congrArg Prod.fst e) A' r (by rw [e]; exact a1) a2
  unfold vc_X7_readNew
  refine sx_tds (lo := 48) (hi := 51) (t := 25) hx hℓ (by omega) hk (by decide) (by decide) (by decide) i11 i12 i13 (fun (c1 : tkB ℓ b 48 51 p = true) A1 r1 a11 a12 a13 a25 ao => ?_) (fun (c1 : tkB ℓ b 48 51 p = false) => fn A _ _ (by rw [pNew, if_neg (ng c1)]) (RA.rf k A) i12 i13)
  refine sx_tk (k := k) hx hℓ (by omega) a11 a12 a13 (fun c2 A2 r2 b11 b12 b13 bo => ⟨fun c9 => absurd c9 (by decide), fun _ => ?_⟩) (fun c2 => ⟨fun _ => fn A1 _ _ (by rw [pNew, if_pos c1, if_neg (ng c2)]) r1 a12 a13, fun c9 => absurd rfl c9⟩)
  refine sx_tds (lo := 49) (hi := 57) (t := 26) hx hℓ (by omega) hk (by decide) (by decide) (by decide) b11 b12 b13 (fun (c3 : tkB ℓ b 49 57 (p + 1 + 1) = true) A3 r3 d11 d12 d13 d26 do' => ?_) (fun (c3 : tkB ℓ b 49 57 (p + 1 + 1) = false) => fn A2 _ _ (by rw [pNew, if_pos c1, if_pos c2, if_neg (ng c3)]) (r1.tr r2) b12 b13)
  refine sx_arr (t := 27) (by decide) hk d13 ?_
  have r4 : RA k A (uA A3 27 (upd (A3 27) k 1)) := ((r1.tr r2).tr r3).tr (RA.arr k A3 (by decide))
  have x25 : A3 25 k = nI (dN b p) := by rw [do' 25 (by decide) (by decide), bo 25 (by decide)]; exact a25
  refine sx_tk (k := k) (p := p + 1 + 1 + 1) hx hℓ (by omega) (by exact d11) (by exact d12) (by exact d13) (fun c4 A4 r5 e11 e12 e13 eo => ⟨fun c9 => absurd c9 (by decide), fun _ => ?_⟩) (fun c4 => ⟨fun _ => ?_, fun c9 => absurd rfl c9⟩)
  · refine sx_tds (lo := 49) (hi := 53) (t := 27) hx hℓ (by omega) hk (by decide) (by decide) (by decide) e11 e12 e13 (fun (c5 : tkB ℓ b 49 53 (p + 1 + 1 + 1 + 1) = true) A5 r6 f11 f12 f13 f27 fo => ?_) (fun (c5 : tkB ℓ b 49 53 (p + 1 + 1 + 1 + 1) = false) => fn A4 _ _ (by rw [pNew, if_pos c1, if_pos c2, if_pos c3, if_pos c4, if_neg (ng c5)]) (r4.tr r5) e12 e13)
    refine fy A5 _ _ (by rw [pNew, if_pos c1, if_pos c2, if_pos c3, if_pos c4, if_pos c5]) ((r4.tr r5).tr r6) f12 f13 ?_
    have y25 : A5 25 k = nI (dN b p) := by rw [fo 25 (by decide) (by decide), eo 25 (by decide)]; exact x25
    have y26 : A5 26 k = nI (dN b (p + 1 + 1)) := by rw [fo 26 (by decide) (by decide), eo 26 (by decide)]; exact d26
    rw [y25, y26, f27]
  · refine fy _ _ _ (by rw [pNew, if_pos c1, if_pos c2, if_pos c3, if_neg (ng c4)]) r4 (by exact d12) (by exact d13) ?_
    have y25 : uA A3 27 (upd (A3 27) k 1) 25 k = nI (dN b p) := x25
    have y26 : uA A3 27 (upd (A3 27) k 1) 26 k = nI (dN b (p + 1 + 1)) := d26
    have y27 : uA A3 27 (upd (A3 27) k 1) 27 k = 1 := if_pos rfl
    rw [y25, y26, y27]
theorem sx_perT {Q : Mem → Int32 → Prop} (hx : ∀ j, j < ℓ → S 23 0 0 j = b j) (hℓ : ℓ ≤ 60) (hp : p ≤ 90) (hk : k < 30) (i11 : A 15 11 = nI ℓ) (i12 : A 15 12 = nI p) (i13 : A 15 13 = nI k) (hy : (pPer ℓ b p).1 = true → ∀ A', RA k A A' → A' 15 12 = nI (pPer ℓ b p).2.1 → A' 15 13 = nI k → (pPer ℓ b p).2.2 = (112, A' 25 k, A' 26 k, 0) → Q (MS S A') 1) (hn : (pPer ℓ b p).1 = false → ∀ A', RA k A A' → A' 15 12 = nI (pPer ℓ b p).2.1 → A' 15 13 = nI k → Q (MS S A') 0) : vc_X7_readPeriod (MS S A) Q := by
  have fy : ∀ A' q o, pPer ℓ b p = (true, q, o) → RA k A A' → A' 15 12 = nI q → A' 15 13 = nI k → o = (112, A' 25 k, A' 26 k, 0) → Q (MS S A') 1 := fun A' q o e r a1 a2 a3 => hy (congrArg Prod.fst e) A' r (by rw [e]; exact a1) a2 (by rw [e]; exact a3)
  have fn : ∀ A' q o, pPer ℓ b p = (false, q, o) → RA k A A' → A' 15 12 = nI q → A' 15 13 = nI k → Q (MS S A') 0 := fun A' q o e r a1 a2 => hn (congrArg Prod.fst e) A' r (by rw [e]; exact a1) a2
  unfold vc_X7_readPeriod
  refine sx_tds (lo := 48) (hi := 51) (t := 25) hx hℓ (by omega) hk (by decide) (by decide) (by decide) i11 i12 i13 (fun (c1 : tkB ℓ b 48 51 p = true) A1 r1 a11 a12 a13 a25 ao => ?_) (fun (c1 : tkB ℓ b 48 51 p = false) => fn A _ _ (by rw [pPer, if_neg (ng c1)]) (RA.rf k A) i12 i13)
  refine sx_tk (k := k) hx hℓ (by omega) a11 a12 a13 (fun c2 A2 r2 b11 b12 b13 bo => ⟨fun c9 => absurd c9 (by decide), fun _ => ?_⟩) (fun c2 => ⟨fun _ => fn A1 _ _ (by rw [pPer, if_pos c1, if_neg (ng c2)]) r1 a12 a13, fun c9 => absurd rfl c9⟩)
  refine sx_tds (lo := 49) (hi := 54) (t := 26) hx hℓ (by omega) hk (by decide) (by decide) (by decide) b11 b12 b13 (fun (c3 : tkB ℓ b 49 54 (p + 1 + 1) = true) A3 r3 d11 d12 d13 d26 do' => ?_) (fun (c3 : tkB ℓ b 49 54 (p + 1 + 1) = false) => fn A2 _ _ (by rw [pPer, if_pos c1, if_pos c2, if_neg (ng c3)]) (r1.tr r2) b12 b13)
  have x25 : A3 25 k = nI (dN b p) := by rw [do' 25 (by decide) (by decide), bo 25 (by decide)]; exact a25
  exact fy A3 _ _ (by rw [pPer, if_pos c1, if_pos c2, if_pos c3]) ((r1.tr r2).tr r3) d12 d13 (by rw [x25, d26])
theorem sx_calT {Q : Mem → Int32 → Prop} (hx : ∀ j, j < ℓ → S 23 0 0 j = b j) (hℓ : ℓ ≤ 60) (hp : p ≤ 90) (hk : k < 30) (i11 : A 15 11 = nI ℓ) (i12 : A 15 12 = nI p) (i13 : A 15 13 = nI k) (hy : (pCal ℓ b p).1 = true → ∀ A', RA k A A' → A' 15 12 = nI (pCal ℓ b p).2.1 → A' 15 13 = nI k → (pCal ℓ b p).2.2 = (99, A' 25 k, 0, 0) → Q (MS S A') 1) (hn : (pCal ℓ b p).1 = false → ∀ A', RA k A A' → A' 15 12 = nI (pCal ℓ b p).2.1 → A' 15 13 = nI k → Q (MS S A') 0) : vc_X7_readCalibrated (MS S A) Q := by
  unfold vc_X7_readCalibrated
  refine sx_tds (lo := 48) (hi := 57) (t := 25) hx hℓ (by omega) hk (by decide) (by decide) (by decide) i11 i12 i13 (fun (c1 : tkB ℓ b 48 57 p = true) A1 r1 a11 a12 a13 a25 ao => ?_) (fun (c1 : tkB ℓ b 48 57 p = false) => ?_)
  · have e : pCal ℓ b p = (true, p + 1, 99, nI (dN b p), 0, 0) := by rw [pCal, if_pos c1]
    exact hy (congrArg Prod.fst e) A1 r1 (by rw [e]; exact a12) a13 (by rw [e, a25])
  · have e : pCal ℓ b p = (false, p, 0, 0, 0, 0) := by rw [pCal, if_neg (ng c1)]
    exact hn (congrArg Prod.fst e) A (RA.rf k A) (by rw [e]; exact i12) i13
end
