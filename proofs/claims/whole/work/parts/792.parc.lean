/-! the system reads an order, and all -/
/-- an order's letter is kept as a number -/
def kCl (c : Int32) : Int32 := if c = 116 then 0 else if c = 104 then 1 else if c = 112 then 2 else 3
theorem kCl_t : kCl 116 = 0 := by decide
theorem kCl_h : kCl 104 = 1 := by decide
theorem kCl_p : kCl 112 = 2 := by decide
theorem kCl_c : kCl 99 = 3 := by decide
def OdC (f : Nat → Int32) (o : Od) : Prop := f 4 = kCl o.1 ∧ (o.1 = 116 ∨ o.1 = 112 → f 5 = o.2.1) ∧ (o.1 = 116 ∨ o.1 = 112 → f 6 = o.2.2.1) ∧ (o.1 = 116 → f 7 = o.2.2.2) ∧ (o.1 = 104 ∨ o.1 = 99 → f 6 = o.2.1)
theorem OdC_t {f : Nat → Int32} {x y z : Int32} (h4 : f 4 = 0) (h5 : f 5 = x) (h6 : f 6 = y) (h7 : f 7 = z) : OdC f (116, x, y, z) := ⟨h4.trans kCl_t.symm, fun _ => h5, fun _ => h6, fun _ => h7, fun c => absurd (show (116 : Int32) = 104 ∨ (116 : Int32) = 99 from c) (by decide)⟩
theorem OdC_p {f : Nat → Int32} {x y z : Int32} (h4 : f 4 = 2) (h5 : f 5 = x) (h6 : f 6 = y) : OdC f (112, x, y, z) := ⟨h4.trans kCl_p.symm, fun _ => h5, fun _ => h6, fun c => absurd (show (112 : Int32) = 116 from c) (by decide), fun c => absurd (show (112 : Int32) = 104 ∨ (112 : Int32) = 99 from c) (by decide)⟩
theorem OdC_c {f : Nat → Int32} {x y z : Int32} (h4 : f 4 = 3) (h6 : f 6 = x) : OdC f (99, x, y, z) := ⟨h4.trans kCl_c.symm, fun c => absurd (show (99 : Int32) = 116 ∨ (99 : Int32) = 112 from c) (by decide), fun c => absurd (show (99 : Int32) = 116 ∨ (99 : Int32) = 112 from c) (by decide), fun c => absurd (show (99 : Int32) = 116 from c) (by decide), fun _ => h6⟩
def sgn (neg : Bool) : Int32 := if neg = true then -1 else 1
theorem dg_one : ∀ d, d < 10 → sgn true * nI d = dgV true d ∧ sgn false * nI d = dgV false d := by decide +kernel
theorem dg_two : ∀ d, d < 6 → ∀ k, k < 10 → sgn true * (nI d * 10 + nI k) = dgV true (10 * d + k) ∧ sgn false * (nI d * 10 + nI k) = dgV false (10 * d + k) := by decide +kernel
theorem dg1 (neg : Bool) {d : Nat} (h : d < 10) : sgn neg * nI d = dgV neg d := by
  cases neg
  · exact (dg_one d h).2
  · exact (dg_one d h).1
theorem dg2 (neg : Bool) {d k : Nat} (h : d < 6) (hk : k < 10) : sgn neg * (nI d * 10 + nI k) = dgV neg (10 * d + k) := by
  cases neg
  · exact (dg_two d h k hk).2
  · exact (dg_two d h k hk).1
theorem ng {x : Bool} (h : x = false) : ¬ x = true := by rw [h]; decide
theorem pDeg_k {ℓ : Nat} {b : Nat → Int32} {neg : Bool} {p : Nat} (h : (pDeg ℓ b neg p).1 = true) : (pDeg ℓ b neg p).2.2.1 = 104 := by
  unfold pDeg at h ⊢
  by_cases c1 : tkB ℓ b 48 57 p = true
  · rw [if_pos c1] at h ⊢
    by_cases c2 : dN b p = 5
    · rw [if_pos c2] at h ⊢
      by_cases c3 : tkB ℓ b 48 48 (p + 1) = true
      · rw [if_pos c3]
      · rw [if_neg c3]
    · rw [if_neg c2] at h ⊢
      by_cases c4 : dN b p = 0 ∨ 5 < dN b p
      · rw [if_pos c4]
      · rw [if_neg c4] at h ⊢
        by_cases c3 : tkB ℓ b 48 57 (p + 1) = true
        · rw [if_pos c3]
        · rw [if_neg c3]
  · rw [if_neg c1] at h; exact absurd (show false = true from h) (by decide)
theorem sp_deg {S : Mem} {ℓ : Nat} {b f : Nat → Int32} {neg : Bool} {p : Nat} {Q : Mem → Int32 → Prop} (hx : ∀ j, j < ℓ → S 10 0 0 j = b j) (hℓ : ℓ ≤ 60) (hp : p ≤ 90) (h3 : f 3 = nI ℓ) (h1 : f 1 = nI p) (hy : (pDeg ℓ b neg p).1 = true → ∀ f', f' 3 = nI ℓ → f' 1 = nI (pDeg ℓ b neg p).2.1 → f' 4 = f 4 → f' 6 = (pDeg ℓ b neg p).2.2.2.1 → Q (uc S 2 0 0 f') 1) (hn : (pDeg ℓ b neg p).1 = false → ∀ f', f' 3 = nI ℓ → f' 1 = nI (pDeg ℓ b neg p).2.1 → Q (uc S 2 0 0 f') 0) : vc_X2_readsDegrees_J14 Q (uc S 2 0 0 f) (sgn neg) := by
  have fy : ∀ f' q x, pDeg ℓ b neg p = (true, q, 104, x, 0, 0) → f' 3 = nI ℓ → f' 1 = nI q → f' 4 = f 4 → f' 6 = x → Q (uc S 2 0 0 f') 1 := fun f' q x e a1 a2 a3 a4 => hy (congrArg Prod.fst e) f' a1 (by rw [e]; exact a2) a3 (by rw [e]; exact a4)
  unfold vc_X2_readsDegrees_J14
  refine sp_tk hx hℓ (by omega) h3 h1 (fun (c1 : tkB ℓ b 48 57 p = true) => ⟨fun _ => ?_, fun c9 => absurd c9 (by decide)⟩) (fun c1 => ⟨fun c9 => absurd rfl c9, fun _ => hn ?_ f h3 ?_⟩)
  · have dd := dN_ok (lo := 48) (hi := 57) c1 (by decide) (by decide)
    have d9 : dN b p < 10 := by omega
    have e2 : (uc S 2 0 0 (upd (upd f 2 (b p - 48)) 1 (nI (p + 1)))) 2 0 0 2 = nI (dN b p) := by rw [uc_same]; exact dd.1
    rw [e2]
    have one : pDeg ℓ b neg p = (true, p + 1, 104, dgV neg (dN b p), 0, 0) → vc_X2_readsDegrees_J48 Q (uc S 2 0 0 (upd (upd f 2 (b p - 48)) 1 (nI (p + 1)))) (sgn neg) (nI (dN b p)) 0 := fun e => by
      unfold vc_X2_readsDegrees_J48
      refine ⟨fun _ => st2 (fy _ _ _ e ?_ ?_ ?_ ?_), fun c => absurd rfl c⟩
      all_goals simp only [upd_app, Nat.reduceEqDiff, reduceIte]
      · exact h3
      · exact dg1 neg d9
    have two : ∀ lo hi : Nat, (48 ≤ lo ∧ lo ≤ 57) → hi ≤ 57 → dN b p < 6 → (tkB ℓ b (nI lo) (nI hi) (p + 1) = true → pDeg ℓ b neg p = (true, p + 1 + 1, 104, dgV neg (10 * dN b p + dN b (p + 1)), 0, 0)) → (tkB ℓ b (nI lo) (nI hi) (p + 1) = false → pDeg ℓ b neg p = (true, p + 1, 104, dgV neg (dN b p), 0, 0)) → vc_X2_readsDegrees_J68 Q (uc S 2 0 0 (upd (upd f 2 (b p - 48)) 1 (nI (p + 1)))) (sgn neg) (nI (dN b p)) (nI lo) (nI hi) := fun lo hi l1 l2 d6 ey en => by
      unfold vc_X2_readsDegrees_J68
      refine sp_tk (p := p + 1) hx hℓ (by omega) (by exact h3) (by rfl) (fun c => ⟨fun c9 => absurd c9 (by decide), fun _ => ?_⟩) (fun c => ⟨fun _ => ?_, fun c9 => absurd rfl c9⟩)
      · have dk := dN_ok c l1 l2
        refine st2 (fy _ _ _ (ey c) ?_ ?_ ?_ ?_)
        all_goals simp only [uc_same, upd_app, Nat.reduceEqDiff, reduceIte]
        · exact h3
        · rw [dk.1]; exact dg2 neg d6 (by omega)
      · refine st2 (fy _ _ _ (en c) ?_ ?_ ?_ ?_)
        all_goals simp only [upd_app, Nat.reduceEqDiff, reduceIte]
        · exact h3
        · exact dg1 neg d9
    refine ⟨fun c => ?_, fun c => ⟨fun c2 => ?_, fun c2 => ?_⟩⟩
    · have d0 : dN b p = 0 := by
        have := (nI_ltI (b := 1) (by omega) (by omega)).mp c
        omega
      exact one (by unfold pDeg; rw [if_pos c1, if_neg (by omega), if_pos (Or.inl d0)])
    · have d5 : 5 < dN b p := (nI_ltI (a := 5) (by omega) (by omega)).mp c2
      exact one (by unfold pDeg; rw [if_pos c1, if_neg (by omega), if_pos (Or.inr d5)])
    · have d5 : ¬ 5 < dN b p := fun h => c2 ((nI_ltI (a := 5) (by omega) (by omega)).mpr h)
      have d0 : ¬ dN b p < 1 := fun h => c ((nI_ltI (b := 1) (by omega) (by omega)).mpr h)
      unfold vc_X2_readsDegrees_J48
      refine ⟨fun c3 => absurd c3 (by decide), fun _ => ⟨fun c3 => ?_, fun c3 => ?_⟩⟩
      · have n5 : ¬ dN b p = 5 := fun h => c3 (by rw [h]; rfl)
        refine two 48 57 (by decide) (by decide) (by omega) (fun (c4 : tkB ℓ b 48 57 (p + 1) = true) => ?_) (fun (c4 : tkB ℓ b 48 57 (p + 1) = false) => ?_)
        · unfold pDeg; rw [if_pos c1, if_neg n5, if_neg (by omega), if_pos c4]
        · unfold pDeg; rw [if_pos c1, if_neg n5, if_neg (by omega), if_neg (ng c4)]
      · have n5 : dN b p = 5 := nI_inj (by omega) (by omega) c3
        refine two 48 48 (by decide) (by decide) (by omega) (fun (c4 : tkB ℓ b 48 48 (p + 1) = true) => ?_) (fun (c4 : tkB ℓ b 48 48 (p + 1) = false) => ?_)
        · unfold pDeg; rw [if_pos c1, if_pos n5, if_pos c4]
        · unfold pDeg; rw [if_pos c1, if_pos n5, if_neg (ng c4)]
  · unfold pDeg; rw [if_neg (ng c1)]
  · have e : pDeg ℓ b neg p = (false, p, 0, 0, 0, 0) := by unfold pDeg; rw [if_neg (ng c1)]
    rw [e]; exact h1
theorem sp_ord {S : Mem} {ℓ : Nat} {b f : Nat → Int32} {p : Nat} {Q : Mem → Int32 → Prop} (hx : ∀ j, j < ℓ → S 10 0 0 j = b j) (hℓ : ℓ ≤ 60) (hp : p ≤ 80) (h3 : f 3 = nI ℓ) (h1 : f 1 = nI p) (hy : (pOrd ℓ b p).1 = true → ∀ f', f' 3 = nI ℓ → f' 1 = nI (pOrd ℓ b p).2.1 → OdC f' (pOrd ℓ b p).2.2 → Q (uc S 2 0 0 f') 1) (hn : (pOrd ℓ b p).1 = false → ∀ f', f' 3 = nI ℓ → f' 1 = nI (pOrd ℓ b p).2.1 → Q (uc S 2 0 0 f') 0) : vc_X2_readsOrder (uc S 2 0 0 f) Q := by
  have fy : ∀ f' q o, pOrd ℓ b p = (true, q, o) → f' 3 = nI ℓ → f' 1 = nI q → OdC f' o → Q (uc S 2 0 0 f') 1 := fun f' q o e a1 a2 a3 => hy (congrArg Prod.fst e) f' a1 (by rw [e]; exact a2) (by rw [e]; exact a3)
  have fn : ∀ f' q o, pOrd ℓ b p = (false, q, o) → f' 3 = nI ℓ → f' 1 = nI q → Q (uc S 2 0 0 f') 0 := fun f' q o e a1 a2 => hn (congrArg Prod.fst e) f' a1 (by rw [e]; exact a2)
  unfold vc_X2_readsOrder
  refine sp_sg hx hℓ (by omega) h3 h1 (fun c1 => ⟨fun c9 => absurd c9 (by decide), fun _ => st2 ?_⟩) (fun c1 => ⟨fun _ => ?_, fun c9 => absurd rfl c9⟩)
  · have e1 : pOrd ℓ b p = pNew ℓ b (p + 1) := by unfold pOrd; rw [if_pos c1]
    refine sp_rrow (p := p + 1) hx hℓ (by omega) (by exact h3) (by rfl) (fun c2 f2 a3 a1 a5 a4 a6 a7 => ⟨fun c9 => absurd c9 (by decide), fun _ => ?_⟩) (fun c2 f2 a3 a1 => ⟨fun _ => fn f2 _ _ (by rw [e1, pNew, if_neg (ng c2)]) a3 a1, fun c9 => absurd rfl c9⟩)
    have b4 : f2 4 = 0 := a4
    refine sp_sg hx hℓ (by omega) a3 a1 (fun c3 => ⟨fun c9 => absurd c9 (by decide), fun _ => ?_⟩) (fun c3 => ⟨fun _ => fn _ _ _ (by rw [e1, pNew, if_pos c2, if_neg (ng c3)]) a3 a1, fun c9 => absurd rfl c9⟩)
    refine sp_rnum (p := p + 1 + 1 + 1) (lo := 49) (hi := 57) hx hℓ (by omega) (by decide) (by decide) (by exact a3) (by rfl) (fun (c4 : tkB ℓ b 49 57 (p + 1 + 1 + 1) = true) f4 g3 g1 g6 g4 g5 g7 => ⟨fun c9 => absurd c9 (by decide), fun _ => ?_⟩) (fun (c4 : tkB ℓ b 49 57 (p + 1 + 1 + 1) = false) f4 g3 g1 => ⟨fun _ => fn _ _ _ (by rw [e1, pNew, if_pos c2, if_pos c3, if_neg (ng c4)]) g3 g1, fun c9 => absurd rfl c9⟩)
    have g5' : f4 5 = nI (dN b (p + 1)) := g5.trans a5
    have g4' : f4 4 = 0 := g4.trans b4
    refine sp_rwgt hx hℓ (by omega) g3 g1 (fun c5 c6 f5 k3 k1 k7 k4 k5 k6 => ⟨fun c9 => absurd c9 (by decide), fun _ => ?_⟩) (fun c5 c6 f5 k3 k1 => ⟨fun _ => ?_, fun c9 => absurd rfl c9⟩) (fun c5 f5 k3 k1 k7 k4 k5 k6 => ⟨fun c9 => absurd c9 (by decide), fun _ => ?_⟩)
    · exact fy f5 _ _ (by rw [e1, pNew, if_pos c2, if_pos c3, if_pos c4, if_pos c5, if_pos c6]) k3 k1 (OdC_t (k4.trans g4') (k5.trans g5') (k6.trans g6) k7)
    · exact fn f5 _ _ (by rw [e1, pNew, if_pos c2, if_pos c3, if_pos c4, if_pos c5, if_neg (ng c6)]) k3 k1
    · exact fy f5 _ _ (by rw [e1, pNew, if_pos c2, if_pos c3, if_pos c4, if_neg (ng c5)]) k3 k1 (OdC_t (k4.trans g4') (k5.trans g5') (k6.trans g6) k7)
  · refine sp_sg hx hℓ (by omega) h3 h1 (fun c2 => ⟨fun c9 => absurd c9 (by decide), fun _ => st2 ?_⟩) (fun c2 => ⟨fun _ => ?_, fun c9 => absurd rfl c9⟩)
    · have deg : ∀ (neg : Bool) (q : Nat) (f' : Nat → Int32), q ≤ 90 → pOrd ℓ b p = pDeg ℓ b neg q → f' 3 = nI ℓ → f' 1 = nI q → f' 4 = 1 → vc_X2_readsDegrees_J14 (fun (S_31 : Mem) (r_32 : Int32) => (r_32 = 0 ∨ r_32 = 1) ∧ Q S_31 r_32) (uc S 2 0 0 f') (sgn neg) := fun neg q f' hq e a3 a1 a4 => by
        refine sp_deg hx hℓ hq a3 a1 (fun ok f'' k3 k1 k4 k6 => ⟨Or.inr rfl, ?_⟩) (fun ok f'' k3 k1 => ⟨Or.inl rfl, ?_⟩)
        · have kk := pDeg_k ok
          refine hy (by rw [e]; exact ok) f'' k3 (by rw [e]; exact k1) ?_
          rw [e]
          refine ⟨by rw [kk]; exact (k4.trans a4).trans kCl_h.symm, fun c => ?_, fun c => ?_, fun c => ?_, fun _ => k6⟩
          · rw [kk] at c; exact absurd c (by decide)
          · rw [kk] at c; exact absurd c (by decide)
          · rw [kk] at c; exact absurd c (by decide)
        · exact hn (by rw [e]; exact ok) f'' k3 (by rw [e]; exact k1)
      unfold vc_X2_readsDegrees
      refine sp_sg (p := p + 1) hx hℓ (by omega) (by exact h3) (by rfl) (fun c3 => ⟨fun c9 => absurd c9 (by decide), fun _ => deg true (p + 1 + 1) _ (by omega) (by unfold pOrd; rw [if_neg (ng c1), if_pos c2, if_pos c3]) h3 rfl rfl⟩) (fun c3 => ⟨fun _ => deg false (p + 1) _ (by omega) (by unfold pOrd; rw [if_neg (ng c1), if_pos c2, if_neg (ng c3)]) h3 rfl rfl, fun c9 => absurd rfl c9⟩)
    · refine sp_sg hx hℓ (by omega) h3 h1 (fun c3 => ⟨fun c9 => absurd c9 (by decide), fun _ => st2 ?_⟩) (fun c3 => ⟨fun _ => st2 ?_, fun c9 => absurd rfl c9⟩)
      · have e1 : pOrd ℓ b p = pPer ℓ b (p + 1) := by unfold pOrd; rw [if_neg (ng c1), if_neg (ng c2), if_pos c3]
        refine sp_rrow (p := p + 1) hx hℓ (by omega) (by exact h3) (by rfl) (fun c4 f2 a3 a1 a5 a4 a6 a7 => ⟨fun c9 => absurd c9 (by decide), fun _ => ?_⟩) (fun c4 f2 a3 a1 => ⟨fun _ => fn f2 _ _ (by rw [e1, pPer, if_neg (ng c4)]) a3 a1, fun c9 => absurd rfl c9⟩)
        have b4 : f2 4 = 2 := a4
        refine sp_sg hx hℓ (by omega) a3 a1 (fun c5 => ⟨fun c9 => absurd c9 (by decide), fun _ => ?_⟩) (fun c5 => ⟨fun _ => fn _ _ _ (by rw [e1, pPer, if_pos c4, if_neg (ng c5)]) a3 a1, fun c9 => absurd rfl c9⟩)
        refine sp_rnum (p := p + 1 + 1 + 1) (lo := 49) (hi := 54) hx hℓ (by omega) (by decide) (by decide) (by exact a3) (by rfl) (fun (c6 : tkB ℓ b 49 54 (p + 1 + 1 + 1) = true) f4 g3 g1 g6 g4 g5 g7 => ⟨fun c9 => absurd c9 (by decide), fun _ => ?_⟩) (fun (c6 : tkB ℓ b 49 54 (p + 1 + 1 + 1) = false) f4 g3 g1 => ⟨fun _ => fn _ _ _ (by rw [e1, pPer, if_pos c4, if_pos c5, if_neg (ng c6)]) g3 g1, fun c9 => absurd rfl c9⟩)
        exact fy f4 _ _ (by rw [e1, pPer, if_pos c4, if_pos c5, if_pos c6]) g3 g1 (OdC_p (g4.trans b4) (g5.trans a5) g6)
      · refine sp_sg (p := p) hx hℓ (by omega) (by exact h3) (by exact h1) (fun c4 => ⟨fun c9 => absurd c9 (by decide), fun _ => ?_⟩) (fun c4 => ⟨fun _ => fn _ _ _ (by unfold pOrd; rw [if_neg (ng c1), if_neg (ng c2), if_neg (ng c3), if_neg (ng c4)]) (by exact h3) (by exact h1), fun c9 => absurd rfl c9⟩)
        have e1 : pOrd ℓ b p = pCal ℓ b (p + 1) := by unfold pOrd; rw [if_neg (ng c1), if_neg (ng c2), if_neg (ng c3), if_pos c4]
        refine sp_rnum (p := p + 1) (lo := 48) (hi := 57) hx hℓ (by omega) (by decide) (by decide) (by exact h3) (by rfl) (fun (c6 : tkB ℓ b 48 57 (p + 1) = true) f4 g3 g1 g6 g4 g5 g7 => ⟨fun c9 => absurd c9 (by decide), fun _ => ?_⟩) (fun (c6 : tkB ℓ b 48 57 (p + 1) = false) f4 g3 g1 => ⟨fun _ => fn _ _ _ (by rw [e1, pCal, if_neg (ng c6)]) g3 g1, fun c9 => absurd rfl c9⟩)
        exact fy f4 _ _ (by rw [e1, pCal, if_pos c6]) g3 g1 (OdC_c g4 g6)
