/-! the reference reads degrees, an order -/
theorem dgM : ∀ d, d < 10 → (10 : Int32) * nI d = nI (10 * d) := fun d h => (pk_mul 10 d)
theorem dgM2 {d k : Nat} : (10 : Int32) * nI d + nI k = nI (10 * d + k) := by
  rw [show (10 : Int32) * nI d = nI (10 * d) from pk_mul 10 d, nI_add]
section
variable {S : Mem} {A : Ar} {ℓ : Nat} {b : Nat → Int32} {p k : Nat}
theorem sx_degT {Q : Mem → Int32 → Prop} (hx : ∀ j, j < ℓ → S 23 0 0 j = b j) (hℓ : ℓ ≤ 60) (hp : p ≤ 80) (hk : k < 30) (i11 : A 15 11 = nI ℓ) (i12 : A 15 12 = nI p) (i13 : A 15 13 = nI k) (r : Bool × Nat × Od) (hr : r = if tkB ℓ b 45 45 p = true then pDeg ℓ b true (p + 1) else pDeg ℓ b false p) (hy : r.1 = true → ∀ A', RA k A A' → A' 15 12 = nI r.2.1 → A' 15 13 = nI k → r.2.2 = (104, A' 25 k, 0, 0) → Q (MS S A') 1) (hn : r.1 = false → ∀ A', RA k A A' → A' 15 12 = nI r.2.1 → A' 15 13 = nI k → Q (MS S A') 0) : vc_X7_readDegrees (MS S A) Q := by
  have fy : ∀ A' q x, r = (true, q, 104, x, 0, 0) → RA k A A' → A' 15 12 = nI q → A' 15 13 = nI k → x = A' 25 k → Q (MS S A') 1 := fun A' q x e r1 a1 a2 a3 => hy (congrArg Prod.fst e) A' r1 (by rw [e]; exact a1) a2 (by rw [e, a3])
  have fn : ∀ A' q o, r = (false, q, o) → RA k A A' → A' 15 12 = nI q → A' 15 13 = nI k → Q (MS S A') 0 := fun A' q o e r1 a1 a2 => hn (congrArg Prod.fst e) A' r1 (by rw [e]; exact a1) a2
  have put : ∀ (neg : Bool) (y1 : Int32) (A1 : Ar) (q m : Nat), (y1 = if neg = true then 1 else 0) → r = (true, q, 104, dgV neg m, 0, 0) → RA k A A1 → A1 15 12 = nI q → A1 15 13 = nI k → vc_X7_readDegrees_J76 Q (MS S A1) y1 (nI m) := fun neg y1 A1 q m e1 e r1 a12 a13 => by
    have h25 : ∀ x, uA A1 25 (upd (A1 25) k x) 25 k = x := fun x => if_pos rfl
    unfold vc_X7_readDegrees_J76
    refine ⟨fun c => sx_arr (t := 25) (by decide) hk a13 ?_, fun c => sx_arr (t := 25) (by decide) hk a13 ?_⟩
    · refine fy _ _ _ e (r1.tr (RA.arr k A1 (by decide))) (by exact a12) (by exact a13) ?_
      rw [h25]
      cases neg
      · rfl
      · rw [e1] at c; exact absurd c (by decide)
    · refine fy _ _ _ e (r1.tr (RA.arr k A1 (by decide))) (by exact a12) (by exact a13) ?_
      rw [h25]
      cases neg
      · exact absurd e1 c
      · rfl
  have two : ∀ (neg : Bool) (y1 : Int32) (A1 : Ar) (q d : Nat), (y1 = if neg = true then 1 else 0) → q < ℓ → tkB ℓ b 48 57 q = true → r = (true, q + 1, 104, dgV neg (10 * d + dN b q), 0, 0) → RA k A A1 → A1 15 12 = nI (q + 1) → A1 15 13 = nI k → vc_X7_readDegrees_J66 Q (MS S A1) y1 (nI d) := fun neg y1 A1 q d e1 hq c e r1 a12 a13 => by
    unfold vc_X7_readDegrees_J66
    refine sx_dg hx hℓ hq a12 ?_
    rw [(dN_ok (lo := 48) (hi := 57) c (by decide) (by decide)).1, dgM2]
    exact put neg y1 A1 (q + 1) _ e1 e r1 a12 a13
  have go : ∀ (neg : Bool) (y1 : Int32) (A1 : Ar) (q : Nat), q ≤ 90 → (y1 = if neg = true then 1 else 0) → r = pDeg ℓ b neg q → RA k A A1 → A1 15 11 = nI ℓ → A1 15 12 = nI q → A1 15 13 = nI k → vc_X7_takes (MS S A1) (48 : Int32) (57 : Int32) (fun (S_3 : Mem) (r_4 : Int32) =>
      ((¬ r_4 = 0) →
      vc_X7_digit S_3 (fun (S_6 : Mem) (r_7 : Int32) =>
      ((¬ r_7 = (5 : Int32)) →
      ((r_7 ≤ 0) →
      vc_X7_readDegrees_J76 Q S_6 y1 r_7) ∧ ((¬ (r_7 ≤ 0)) →
      (((5 : Int32) ≤ r_7) →
      vc_X7_readDegrees_J76 Q S_6 y1 r_7) ∧ ((¬ ((5 : Int32) ≤ r_7)) →
      vc_X7_takes S_6 (48 : Int32) (57 : Int32) (fun (S_18 : Mem) (r_19 : Int32) =>
      ((r_19 = 0) →
      vc_X7_readDegrees_J76 Q S_18 y1 r_7) ∧ ((¬ (r_19 = 0)) →
      vc_X7_readDegrees_J66 Q S_18 y1 r_7))))) ∧ ((r_7 = (5 : Int32)) →
      vc_X7_takes S_6 (48 : Int32) (48 : Int32) (fun (S_23 : Mem) (r_24 : Int32) =>
      ((r_24 = 0) →
      vc_X7_readDegrees_J76 Q S_23 y1 r_7) ∧ ((¬ (r_24 = 0)) →
      vc_X7_readDegrees_J66 Q S_23 y1 r_7))))) ∧ ((r_4 = 0) →
      Q S_3 (0 : Int32))) := fun neg y1 A1 q hq e1 e r1 a11 a12 a13 => by
    refine sx_tk (k := k) hx hℓ (by omega) a11 a12 a13 (fun c1 A2 r2 b11 b12 b13 bo => ⟨fun _ => sx_dg hx hℓ (tkB_y c1).1 b12 ?_, fun c9 => absurd c9 (by decide)⟩) (fun c1 => ⟨fun c9 => absurd rfl c9, fun _ => fn A1 q _ (by rw [e, pDeg, if_neg (ng c1)]) r1 a12 a13⟩)
    have dd := dN_ok (lo := 48) (hi := 57) c1 (by decide) (by decide)
    rw [dd.1]
    have r12 := r1.tr r2
    refine ⟨fun n5 => ⟨fun c => ?_, fun c => ⟨fun c2 => ?_, fun c2 => ?_⟩⟩, fun h5 => ?_⟩
    · have d0 : dN b q = 0 := by
        rcases Nat.eq_zero_or_pos (dN b q) with h | h
        · exact h
        · exact absurd c (nI_nle h (by omega))
      exact put neg y1 A2 (q + 1) _ e1 (by rw [e, pDeg, if_pos c1, if_neg (by omega), if_pos (Or.inl d0)]) r12 b12 b13
    · have d5 : 5 ≤ dN b q := (nI_leI (a := 5) (by omega) (by omega)).mp c2
      have d5' : ¬ dN b q = 5 := fun h => n5 (by rw [h]; rfl)
      exact put neg y1 A2 (q + 1) _ e1 (by rw [e, pDeg, if_pos c1, if_neg d5', if_pos (Or.inr (by omega))]) r12 b12 b13
    · have d5 : ¬ 5 ≤ dN b q := fun h => c2 ((nI_leI (a := 5) (by omega) (by omega)).mpr h)
      have d0 : ¬ dN b q = 0 := fun h => c (by rw [h]; decide)
      refine sx_tk (k := k) hx hℓ (by omega) b11 b12 b13 (fun c3 A3 r3 f11 f12 f13 fo => ⟨fun c9 => absurd c9 (by decide), fun _ => ?_⟩) (fun c3 => ⟨fun _ => ?_, fun c9 => absurd rfl c9⟩)
      · exact two neg y1 A3 (q + 1) _ e1 (tkB_y c3).1 c3 (by rw [e, pDeg, if_pos c1, if_neg (by omega), if_neg (by omega), if_pos c3]) (r12.tr r3) f12 f13
      · exact put neg y1 A2 (q + 1) _ e1 (by rw [e, pDeg, if_pos c1, if_neg (by omega), if_neg (by omega), if_neg (ng c3)]) r12 b12 b13
    · have d5 : dN b q = 5 := nI_inj (by omega) (by omega) h5
      refine sx_tk (k := k) hx hℓ (by omega) b11 b12 b13 (fun c3 A3 r3 f11 f12 f13 fo => ⟨fun c9 => absurd c9 (by decide), fun _ => ?_⟩) (fun c3 => ⟨fun _ => ?_, fun c9 => absurd rfl c9⟩)
      · have c3' : tkB ℓ b 48 57 (q + 1) = true := by
          obtain ⟨l1, l2, l3⟩ := tkB_y c3
          refine decide_eq_true ⟨l1, l2, i_le.mpr ?_⟩
          have := i_le.mp l3
          have h48 : (48 : Int32).toInt = 48 := rfl
          have h57 : (57 : Int32).toInt = 57 := rfl
          omega
        exact two neg y1 A3 (q + 1) _ e1 (tkB_y c3).1 c3' (by rw [e, pDeg, if_pos c1, if_pos d5, if_pos c3]) (r12.tr r3) f12 f13
      · exact put neg y1 A2 (q + 1) _ e1 (by rw [e, pDeg, if_pos c1, if_pos d5, if_neg (ng c3)]) r12 b12 b13
  unfold vc_X7_readDegrees
  refine sx_tk (k := k) hx hℓ (by omega) i11 i12 i13 (fun c A1 r1 a11 a12 a13 ao => go true 1 A1 (p + 1) (by omega) rfl (by rw [hr, if_pos c]) r1 a11 a12 a13) (fun c => go false 0 A p (by omega) rfl (by rw [hr, if_neg (ng c)]) (RA.rf k A) i11 i12 i13)
def OdM (A : Ar) (k : Nat) (o : Od) : Prop := A 24 k = o.1 ∧ A 25 k = o.2.1 ∧ (o.1 = 116 ∨ o.1 = 112 → A 26 k = o.2.2.1) ∧ (o.1 = 116 → A 27 k = o.2.2.2)
theorem tkB_eq {x : Int32} : tkB ℓ b x x p = true ↔ p < ℓ ∧ b p = x := by
  unfold tkB
  rw [decide_eq_true_iff]
  refine ⟨fun h => ⟨h.1, i_eq.mpr ?_⟩, fun h => ⟨h.1, by rw [h.2]; exact i_le.mpr (Int.le_refl _), by rw [h.2]; exact i_le.mpr (Int.le_refl _)⟩⟩
  have h1 := i_le.mp h.2.1
  have h2 := i_le.mp h.2.2
  omega
theorem sx_ord {Q : Mem → Int32 → Prop} (hx : ∀ j, j < ℓ → S 23 0 0 j = b j) (hℓ : ℓ ≤ 60) (hp : p ≤ 70) (hk : p < ℓ → k < 30) (i11 : A 15 11 = nI ℓ) (i12 : A 15 12 = nI p) (i13 : A 15 13 = nI k) (hy : (pOrd ℓ b p).1 = true → ∀ A', RA k A A' → A' 15 12 = nI (pOrd ℓ b p).2.1 → A' 15 13 = nI (k + 1) → OdM A' k (pOrd ℓ b p).2.2 → Q (MS S A') 1) (hn : (pOrd ℓ b p).1 = false → ∀ A', RA k A A' → A' 15 12 = nI (pOrd ℓ b p).2.1 → A' 15 13 = nI k → Q (MS S A') 0) : vc_X7_readOrder (MS S A) Q := by
  have e23 : MS S A 23 0 0 = S 23 0 0 := ms_o (by omega)
  have ym : ∀ (A1 : Ar) (y1 q x y z : Int32) (r : Nat), k < 30 → pOrd ℓ b p = (true, r, y1, x, y, z) → RA k A A1 → A1 15 12 = nI r → A1 15 13 = nI k → x = A1 25 k → (y1 = 116 ∨ y1 = 112 → A1 26 k = y) → (y1 = 116 → A1 27 k = z) → vc_X7_readOrder_J132 Q (MS S A1) y1 := fun A1 y1 q x y z r hk e r1 a12 a13 x1 x2 x3 => by
    unfold vc_X7_readOrder_J132 vc_X7_readOrder_J137
    refine ⟨fun c9 => absurd c9 (by decide), fun _ => sx_arr (t := 24) (by decide) hk a13 fun S11 e11 => ⟨Or.inr rfl, ?_⟩⟩
    have b13 : uA A1 24 (upd (A1 24) k y1) 15 13 = nI k := a13
    rw [ms_15, b13, nI_1, ms_uc (Or.inl rfl)] at e11
    rw [e11]
    refine hy (congrArg Prod.fst e) _ ((r1.tr (RA.arr k A1 (by decide))).tr (RA.s15 k _ (Or.inr rfl))) ?_ ?_ ?_
    · rw [e]; exact a12
    · rw [uA_app, if_pos rfl, upd_app, if_pos rfl]
    · rw [e]
      refine ⟨?_, ?_, ?_, ?_⟩
      · show uA (uA A1 24 (upd (A1 24) k y1)) 15 _ 24 k = y1
        rw [uA_app, if_neg (by decide), uA_app, if_pos rfl, upd_app, if_pos rfl]
      · exact x1.symm
      · exact x2
      · exact x3
  have nm : ∀ (A1 : Ar) (y1 : Int32) (r : Nat) (o : Od), pOrd ℓ b p = (false, r, o) → RA k A A1 → A1 15 12 = nI r → A1 15 13 = nI k → vc_X7_readOrder_J136 Q (MS S A1) y1 := fun A1 y1 r o e r1 a12 a13 => by
    unfold vc_X7_readOrder_J136 vc_X7_readOrder_J137
    exact ⟨fun _ => ⟨Or.inl rfl, hn (congrArg Prod.fst e) A1 r1 (by rw [e]; exact a12) a13⟩, fun c9 => absurd rfl c9⟩
  have none : ∀ w, pOrd ℓ b p = (false, p, 0, 0, 0, 0) → vc_X7_readOrder_J54 Q (MS S A) w 0 := fun w e => by
    unfold vc_X7_readOrder_J54 vc_X7_readOrder_J69
    refine ⟨fun _ S4 e4 => ⟨fun _ => ?_, fun c9 => absurd rfl c9⟩, fun c9 => absurd rfl c9⟩
    rw [Int32.add_zero, uc_self rfl] at e4
    rw [e4]
    exact nm A w p _ e (RA.rf k A) i12 i13
  have some : ∀ w, p < ℓ → (w = 116 → pOrd ℓ b p = pNew ℓ b (p + 1)) → (w = 104 → pOrd ℓ b p = if tkB ℓ b 45 45 (p + 1) = true then pDeg ℓ b true (p + 1 + 1) else pDeg ℓ b false (p + 1)) → (w = 112 → pOrd ℓ b p = pPer ℓ b (p + 1)) → (w = 99 → pOrd ℓ b p = pCal ℓ b (p + 1)) → w = 116 ∨ w = 104 ∨ w = 112 ∨ w = 99 → vc_X7_readOrder_J54 Q (MS S A) w 1 := fun w hlt h1 h2 h3 h4 hw => by
    unfold vc_X7_readOrder_J54 vc_X7_readOrder_J69
    refine ⟨fun c9 => absurd c9 (by decide), fun _ S4 e4 => ⟨fun c9 => absurd c9 (by decide), fun _ => ?_⟩⟩
    rw [ms_15, i12, nI_1, ms_uc (Or.inl rfl)] at e4
    rw [e4]
    have r4 : RA k A (uA A 15 (upd (A 15) 12 (nI (p + 1)))) := RA.s15 k A (Or.inl rfl)
    have j11 : uA A 15 (upd (A 15) 12 (nI (p + 1))) 15 11 = nI ℓ := i11
    have j12 : uA A 15 (upd (A 15) 12 (nI (p + 1))) 15 12 = nI (p + 1) := by rw [uA_app, if_pos rfl, upd_app, if_pos rfl]
    have j13 : uA A 15 (upd (A 15) 12 (nI (p + 1))) 15 13 = nI k := i13
    generalize uA A 15 (upd (A 15) 12 (nI (p + 1))) = A4 at *
    have hk := hk hlt
    refine ⟨fun c1 => ⟨fun c2 => ⟨fun c3 => ?_, fun c3 => ?_⟩, fun c2 => ?_⟩, fun c1 => ?_⟩
    · have e := h4 (((hw.resolve_left c1).resolve_left c2).resolve_left c3)
      have ew : w = 99 := ((hw.resolve_left c1).resolve_left c2).resolve_left c3
      refine sx_calT (k := k) hx hℓ (by omega) hk j11 j12 j13 (fun ok A1 r1 a12 a13 ao => ⟨fun c9 => absurd c9 (by decide), fun _ => ?_⟩) (fun ok A1 r1 a12 a13 => ⟨fun _ => ?_, fun c9 => absurd rfl c9⟩)
      · refine ym A1 w 0 (A1 25 k) 0 0 _ hk ?_ (r4.tr r1) a12 a13 rfl (fun c => ?_) (fun c => ?_)
        · rw [e, ew, ← ao]; exact Prod.ext ok rfl
        · rw [ew] at c; exact absurd c (by decide)
        · rw [ew] at c; exact absurd c (by decide)
      · exact nm A1 w _ _ (by rw [e]; exact Prod.ext ok rfl) (r4.tr r1) a12 a13
    · have e := h3 c3
      refine sx_perT (k := k) hx hℓ (by omega) hk j11 j12 j13 (fun ok A1 r1 a12 a13 ao => ⟨fun c9 => absurd c9 (by decide), fun _ => ?_⟩) (fun ok A1 r1 a12 a13 => ⟨fun _ => ?_, fun c9 => absurd rfl c9⟩)
      · refine ym A1 w 0 (A1 25 k) (A1 26 k) 0 _ hk ?_ (r4.tr r1) a12 a13 rfl (fun c => rfl) (fun c => ?_)
        · rw [e, c3, ← ao]; exact Prod.ext ok rfl
        · exact absurd c c1
      · exact nm A1 w _ _ (by rw [e]; exact Prod.ext ok rfl) (r4.tr r1) a12 a13
    · have e := h2 c2
      refine sx_degT (k := k) hx hℓ (by omega) hk j11 j12 j13 (pOrd ℓ b p) e (fun ok A1 r1 a12 a13 ao => ⟨fun c9 => absurd c9 (by decide), fun _ => ?_⟩) (fun ok A1 r1 a12 a13 => ⟨fun _ => ?_, fun c9 => absurd rfl c9⟩)
      · refine ym A1 w 0 (A1 25 k) 0 0 _ hk ?_ (r4.tr r1) a12 a13 rfl (fun c => ?_) (fun c => ?_)
        · rw [c2, ← ao]; exact Prod.ext ok rfl
        · rw [c2] at c; exact absurd c (by decide)
        · exact absurd c c1
      · exact nm A1 w _ _ (Prod.ext ok rfl) (r4.tr r1) a12 a13
    · have e := h1 c1
      refine sx_new (k := k) hx hℓ (by omega) hk j11 j12 j13 (fun ok A1 r1 a12 a13 ao => ⟨fun c9 => absurd c9 (by decide), fun _ => ?_⟩) (fun ok A1 r1 a12 a13 => ⟨fun _ => ?_, fun c9 => absurd rfl c9⟩)
      · refine ym A1 w 0 (A1 25 k) (A1 26 k) (A1 27 k) _ hk ?_ (r4.tr r1) a12 a13 rfl (fun c => rfl) (fun c => rfl)
        rw [e, c1, ← ao]; exact Prod.ext ok rfl
      · exact nm A1 w _ _ (by rw [e]; exact Prod.ext ok rfl) (r4.tr r1) a12 a13
  unfold vc_X7_readOrder
  rw [ms_15, e23, i11, i12]
  refine ⟨fun c => ?_, fun c => ?_⟩
  · have hge : ℓ ≤ p := (nI_leI (by omega) (by omega)).mp c
    have nt : ∀ x, ¬ tkB ℓ b x x p = true := fun x h => by
      have := (tkB_y h).1
      omega
    unfold vc_X7_readOrder_J24
    refine ⟨fun c9 => absurd c9 (by decide), fun _ => ⟨fun c9 => absurd c9 (by decide), fun _ => ⟨fun c9 => absurd c9 (by decide), fun _ => ⟨fun _ => none 0 ?_, fun c9 => absurd c9 (by decide)⟩⟩⟩⟩
    unfold pOrd
    rw [if_neg (nt _), if_neg (nt _), if_neg (nt _), if_neg (nt _)]
  · have hlt : p < ℓ := by
      by_cases hh : ℓ ≤ p
      · exact absurd ((nI_leI (by omega) (by omega)).mpr hh) c
      · omega
    have te : ∀ x, tkB ℓ b x x p = true ↔ b p = x := fun x => ⟨fun h => (tkB_eq.mp h).2, fun h => tkB_eq.mpr ⟨hlt, h⟩⟩
    rw [nI_clamp (by omega), hx p hlt]
    have sm := some (b p) hlt (fun h => by unfold pOrd; rw [if_pos ((te _).mpr h)]) (fun h => by unfold pOrd; rw [if_neg (fun h9 => absurd (h.symm.trans ((te _).mp h9)) (by decide)), if_pos ((te _).mpr h)]) (fun h => by unfold pOrd; rw [if_neg (fun h9 => absurd (h.symm.trans ((te _).mp h9)) (by decide)), if_neg (fun h9 => absurd (h.symm.trans ((te _).mp h9)) (by decide)), if_pos ((te _).mpr h)]) (fun h => by unfold pOrd; rw [if_neg (fun h9 => absurd (h.symm.trans ((te _).mp h9)) (by decide)), if_neg (fun h9 => absurd (h.symm.trans ((te _).mp h9)) (by decide)), if_neg (fun h9 => absurd (h.symm.trans ((te _).mp h9)) (by decide)), if_pos ((te _).mpr h)])
    unfold vc_X7_readOrder_J24 vc_X7_readOrder_J49
    refine ⟨vp_in_nI (by omega) (by decide), fun c1 => sm (Or.inl c1), fun c1 => ⟨fun c2 => sm (Or.inr (Or.inl c2)), fun c2 => ⟨fun c3 => sm (Or.inr (Or.inr (Or.inl c3))), fun c3 => ⟨fun c4 => none (b p) ?_, fun c4 => sm (Or.inr (Or.inr (Or.inr c4)))⟩⟩⟩⟩
    unfold pOrd
    rw [if_neg (fun h => c1 ((te _).mp h)), if_neg (fun h => c2 ((te _).mp h)), if_neg (fun h => c3 ((te _).mp h)), if_neg (fun h => c4 ((te _).mp h))]
end
