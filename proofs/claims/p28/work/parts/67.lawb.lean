/-! ranks: of different things in an order each rank is had just once -/
def cn (c : Nat → Bool) : Nat → Nat
  | 0 => 0
  | i + 1 => if c i = true then cn c i + 1 else cn c i
theorem cn_s (c : Nat → Bool) (i : Nat) : cn c (i + 1) = if c i = true then cn c i + 1 else cn c i := rfl
theorem cn_le (c : Nat → Bool) : ∀ i, cn c i ≤ i
  | 0 => Nat.le_refl 0
  | i + 1 => by
    have := cn_le c i
    rw [cn_s]
    split <;> omega
theorem cn_sub {c c' : Nat → Bool} : ∀ {n : Nat}, (∀ j, j < n → c j = true → c' j = true) → cn c n ≤ cn c' n
  | 0, _ => Nat.le_refl 0
  | n + 1, h => by
    have ih := cn_sub (n := n) (fun j hj => h j (by omega))
    rw [cn_s, cn_s]
    by_cases e : c n = true
    · rw [if_pos e, if_pos (h n (by omega) e)]; omega
    · rw [if_neg e]
      split <;> omega
theorem cn_lt {c c' : Nat → Bool} : ∀ {n : Nat}, (∀ j, j < n → c j = true → c' j = true) → ∀ i, i < n → c' i = true → ¬ c i = true → cn c n < cn c' n
  | 0, _, i, hi, _, _ => absurd hi (by omega)
  | n + 1, h, i, hi, h1, h2 => by
    rw [cn_s, cn_s]
    by_cases e : i = n
    · subst e
      have := cn_sub (n := i) (fun j hj => h j (by omega))
      rw [if_neg h2, if_pos h1]
      omega
    · have ih := cn_lt (n := n) (fun j hj => h j (by omega)) i (by omega) h1 h2
      by_cases e2 : c n = true
      · rw [if_pos e2, if_pos (h n (by omega) e2)]; omega
      · rw [if_neg e2]
        split <;> omega
theorem cn_cg {c c' : Nat → Bool} {n : Nat} (h : ∀ j, j < n → c j = c' j) : cn c n = cn c' n := Nat.le_antisymm (cn_sub (fun j hj e => by rw [← h j hj]; exact e)) (cn_sub (fun j hj e => by rw [h j hj]; exact e))
/-- j comes ahead of i -/
def bf (key : Nat → Int32) (j i : Nat) : Bool := decide (key j < key i ∨ (key j = key i ∧ j < i))
theorem bf_t {key : Nat → Int32} {j i : Nat} : bf key j i = true ↔ (key j < key i ∨ (key j = key i ∧ j < i)) := ⟨fun h => of_decide_eq_true h, fun h => decide_eq_true h⟩
theorem bf_ir (key : Nat → Int32) (i : Nat) : ¬ bf key i i = true := fun h => by
  rcases bf_t.mp h with h | h
  · exact absurd h (Int32.lt_irrefl)
  · omega
theorem bf_tr {key : Nat → Int32} {i j k : Nat} (h1 : bf key i j = true) (h2 : bf key j k = true) : bf key i k = true := by
  rw [bf_t] at *
  rcases h1 with h1 | ⟨h1, h3⟩ <;> rcases h2 with h2 | ⟨h2, h4⟩
  · exact Or.inl (Int32.lt_trans h1 h2)
  · exact Or.inl (by rw [← h2]; exact h1)
  · exact Or.inl (by rw [h1]; exact h2)
  · exact Or.inr ⟨h1.trans h2, by omega⟩
theorem bf_to (key : Nat → Int32) {i j : Nat} (h : i ≠ j) : bf key i j = true ∨ bf key j i = true := by
  rw [bf_t, bf_t, i_lt, i_lt, i_eq, i_eq]
  omega
/-- how many candidates below n come ahead of i -/
def rk (c : Nat → Bool) (key : Nat → Int32) (n i : Nat) : Nat := cn (fun j => c j && bf key j i) n
theorem rk_lt {c : Nat → Bool} {key : Nat → Int32} {n i i2 : Nat} (hi : i < n) (hc : c i = true) (h : bf key i i2 = true) : rk c key n i < rk c key n i2 := by
  refine cn_lt (fun j _ hj => ?_) i hi ?_ ?_
  · rw [Bool.and_eq_true] at hj ⊢
    exact ⟨hj.1, bf_tr hj.2 h⟩
  · show (c i && bf key i i2) = true
    rw [hc, h]; rfl
  · show ¬ (c i && bf key i i) = true
    rw [Bool.and_eq_true]
    exact fun hh => bf_ir key i hh.2
theorem rk_le {c : Nat → Bool} {key : Nat → Int32} {n i i2 : Nat} (h : bf key i i2 = true) : rk c key n i ≤ rk c key n i2 := cn_sub (fun j _ hj => by
  rw [Bool.and_eq_true] at hj ⊢
  exact ⟨hj.1, bf_tr hj.2 h⟩)
theorem rk_bd {c : Nat → Bool} {key : Nat → Int32} {n i : Nat} (hi : i < n) (hc : c i = true) : rk c key n i < cn c n := by
  refine cn_lt (fun j _ hj => ?_) i hi hc ?_
  · rw [Bool.and_eq_true] at hj
    exact hj.1
  · rw [Bool.and_eq_true]
    exact fun hh => bf_ir key i hh.2
theorem rk_no {c : Nat → Bool} {key : Nat → Int32} {n i : Nat} (h : ¬ (c n && bf key n i) = true) : rk c key (n + 1) i = rk c key n i := by
  unfold rk
  rw [cn_s, if_neg h]
theorem rk_ye {c : Nat → Bool} {key : Nat → Int32} {n i : Nat} (h : (c n && bf key n i) = true) : rk c key (n + 1) i = rk c key n i + 1 := by
  unfold rk
  rw [cn_s, if_pos h]
theorem rk_sur (c : Nat → Bool) (key : Nat → Int32) : ∀ n r, r < cn c n → ∃ i, i < n ∧ c i = true ∧ rk c key n i = r
  | 0, r, hr => absurd hr (by show ¬ r < 0; omega)
  | n + 1, r, hr => by
    rw [cn_s] at hr
    by_cases e : c n = true
    · rw [if_pos e] at hr
      have hq : rk c key (n + 1) n = rk c key n n := rk_no (by rw [Bool.and_eq_true]; exact fun h => bf_ir key n h.2)
      have hqN : rk c key n n ≤ cn c n := cn_sub (fun j _ hj => by rw [Bool.and_eq_true] at hj; exact hj.1)
      rcases Nat.lt_trichotomy r (rk c key n n) with h | h | h
      · obtain ⟨i, hi, hc, hk⟩ := rk_sur c key n r (by omega)
        have hb : ¬ bf key n i = true := fun hb => by have := rk_le (c := c) (n := n) hb; omega
        exact ⟨i, by omega, hc, by rw [rk_no (by rw [Bool.and_eq_true]; exact fun hh => hb hh.2)]; exact hk⟩
      · exact ⟨n, by omega, e, by rw [hq, h]⟩
      · obtain ⟨i, hi, hc, hk⟩ := rk_sur c key n (r - 1) (by omega)
        have hb : ¬ bf key i n = true := fun hb => by have := rk_lt hi hc hb; omega
        have hb2 : bf key n i = true := (bf_to key (show i ≠ n by omega)).resolve_left hb
        exact ⟨i, by omega, hc, by rw [rk_ye (by rw [e, hb2]; rfl), hk]; omega⟩
    · rw [if_neg e] at hr
      obtain ⟨i, hi, hc, hk⟩ := rk_sur c key n r hr
      exact ⟨i, by omega, hc, by rw [rk_no (by rw [Bool.and_eq_true]; exact fun hh => e hh.1)]; exact hk⟩
/-! the middle, told by ranks -/
theorem insA_hi : ∀ (m : Nat) (z : Nat → Int32) (x : Int32) (k : Nat), m < k → insA z m x k = z k
  | 0, z, x, k, h => by
    show upd z 0 x k = z k
    exact pk_un (by omega)
  | m + 1, z, x, k, h => by
    show (if z m ≤ x then upd z (m + 1) x else insA (upd z (m + 1) (z m)) m x) k = z k
    split
    · exact pk_un (by omega)
    · rw [insA_hi m _ x k (by omega)]
      exact pk_un (by omega)
theorem insA_at : ∀ (m : Nat) (z : Nat → Int32) (x : Int32) (q : Nat), q ≤ m → (∀ k, k < m → (z k ≤ x ↔ k < q)) → ∀ k, k ≤ m → insA z m x k = if k < q then z k else if k = q then x else z (k - 1)
  | 0, z, x, q, hq, h, k, hk => by
    have e : k = 0 := by omega
    have e2 : q = 0 := by omega
    subst e e2
    show upd z 0 x 0 = _
    rw [if_neg (by omega), if_pos rfl]
    exact if_pos rfl
  | m + 1, z, x, q, hq, h, k, hk => by
    show (if z m ≤ x then upd z (m + 1) x else insA (upd z (m + 1) (z m)) m x) k = _
    by_cases e : z m ≤ x
    · have hm := (h m (by omega)).mp e
      have e2 : q = m + 1 := by omega
      subst e2
      rw [if_pos e]
      by_cases e3 : k = m + 1
      · subst e3
        rw [if_neg (by omega), if_pos rfl]
        exact if_pos rfl
      · rw [if_pos (by omega)]
        exact pk_un e3
    · have hm : ¬ m < q := fun hh => e ((h m (by omega)).mpr hh)
      rw [if_neg e]
      by_cases e3 : k = m + 1
      · subst e3
        rw [insA_hi m _ x (m + 1) (by omega), if_neg (by omega), if_neg (by omega)]
        exact if_pos rfl
      · have ih := insA_at m (upd z (m + 1) (z m)) x q (by omega) (fun k hk => by
          rw [show upd z (m + 1) (z m) k = z k from pk_un (by omega)]
          exact h k (by omega)) k (by omega)
        rw [ih, show upd z (m + 1) (z m) k = z k from pk_un (by omega), show upd z (m + 1) (z m) (k - 1) = z (k - 1) from pk_un (by omega)]
def mc (t : Ts) (ex : Int32) : Nat → Bool := fun j => decide (¬ nI j = ex ∧ askT (t j))
def mk (t : Ts) : Nat → Int32 := fun j => mended (t j)
theorem mc_t {t : Ts} {ex : Int32} {j : Nat} : mc t ex j = true ↔ (¬ nI j = ex ∧ askT (t j)) := ⟨fun h => of_decide_eq_true h, fun h => decide_eq_true h⟩
theorem midS_rk (t : Ts) (ex : Int32) : ∀ n, (midS t ex n).2 = cn (mc t ex) n ∧ ∀ j, j < n → mc t ex j = true → (midS t ex n).1 (rk (mc t ex) (mk t) n j) = mended (t j)
  | 0 => ⟨rfl, fun j hj => absurd hj (by omega)⟩
  | n + 1 => by
    obtain ⟨h1, h2⟩ := midS_rk t ex n
    by_cases e : ¬ nI n = ex ∧ askT (t n)
    · have ec : mc t ex n = true := mc_t.mpr e
      have es : midS t ex (n + 1) = (insA (midS t ex n).1 (midS t ex n).2 (mended (t n)), (midS t ex n).2 + 1) := if_pos e
      have hqN : rk (mc t ex) (mk t) n n ≤ cn (mc t ex) n := cn_sub (fun j _ hj => by rw [Bool.and_eq_true] at hj; exact hj.1)
      have hz : ∀ k, k < cn (mc t ex) n → ((midS t ex n).1 k ≤ mended (t n) ↔ k < rk (mc t ex) (mk t) n n) := by
        intro k hk
        obtain ⟨i, hi, hc, hr⟩ := rk_sur (mc t ex) (mk t) n k hk
        have hv := h2 i hi hc
        rw [hr] at hv
        rw [hv]
        constructor
        · intro hle
          rw [← hr]
          refine rk_lt hi hc (bf_t.mpr ?_)
          show mended (t i) < mended (t n) ∨ (mended (t i) = mended (t n) ∧ i < n)
          rw [i_lt, i_eq]
          have := i_le.mp hle
          omega
        · intro hlt
          by_cases hb : bf (mk t) i n = true
          · rcases bf_t.mp hb with h | h
            · exact Int32.le_of_lt h
            · have h' : mended (t i) = mended (t n) := h.1
              rw [h']; exact Int32.le_refl _
          · have hb2 := (bf_to (mk t) (show i ≠ n by omega)).resolve_left hb
            have := rk_le (c := mc t ex) (n := n) hb2
            omega
      have hat := insA_at (cn (mc t ex) n) (midS t ex n).1 (mended (t n)) (rk (mc t ex) (mk t) n n) hqN hz
      rw [es, cn_s, if_pos ec]
      refine ⟨congrArg (· + 1) h1, fun j hj hc => ?_⟩
      show insA (midS t ex n).1 (midS t ex n).2 (mended (t n)) _ = _
      rw [h1]
      by_cases ej : j = n
      · subst ej
        rw [rk_no (by rw [Bool.and_eq_true]; exact fun h => bf_ir (mk t) j h.2), hat _ hqN, if_neg (by omega), if_pos rfl]
      · have hj' : j < n := by omega
        have hb := rk_bd (key := mk t) hj' hc
        have hv := h2 j hj' hc
        by_cases hbf : bf (mk t) n j = true
        · have hle := rk_le (c := mc t ex) (n := n) hbf
          rw [rk_ye (by rw [ec, hbf]; rfl), hat _ (by omega), if_neg (by omega), if_neg (by omega), show rk (mc t ex) (mk t) n j + 1 - 1 = rk (mc t ex) (mk t) n j by omega]
          exact hv
        · have hlt := rk_lt (i2 := n) hj' hc ((bf_to (mk t) (show j ≠ n by omega)).resolve_right hbf)
          rw [rk_no (by rw [Bool.and_eq_true]; exact fun h => hbf h.2), hat _ (by omega), if_pos hlt]
          exact hv
    · have ec : ¬ mc t ex n = true := fun h => e (mc_t.mp h)
      have es : midS t ex (n + 1) = midS t ex n := if_neg e
      rw [es, cn_s, if_neg ec]
      refine ⟨h1, fun j hj hc => ?_⟩
      have hj' : j < n := by
        by_cases ej : j = n
        · rw [ej] at hc; exact absurd hc ec
        · omega
      rw [rk_no (by rw [Bool.and_eq_true]; exact fun h => ec h.1)]
      exact h2 j hj' hc
theorem midV_0 {t : Ts} {ex : Int32} {n : Nat} (h : cn (mc t ex) n = 0) : midV t ex n = -999999 := by
  unfold midV
  rw [if_pos ((midS_rk t ex n).1.trans h)]
theorem midV_rk {t : Ts} {ex : Int32} {n i : Nat} (hi : i < n) (hc : mc t ex i = true) (hr : rk (mc t ex) (mk t) n i = (cn (mc t ex) n - 1) / 2) : midV t ex n = mended (t i) := by
  have h := midS_rk t ex n
  have hb := rk_bd (key := mk t) hi hc
  unfold midV
  rw [if_neg (by rw [h.1]; omega), h.1, ← hr]
  exact h.2 i hi hc
