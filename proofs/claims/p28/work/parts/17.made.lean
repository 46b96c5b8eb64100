def S0 : Mem := fun t _ _ => S0p t
def pkA (a0 a1 a2 a3 a4 a5 a6 a7 a8 a9 a10 : Nat → Nat → Nat) (P : Nat) : Nat → Nat → Nat := match P with
  | 0 => a0
  | 1 => a1
  | 2 => a2
  | 3 => a3
  | 4 => a4
  | 5 => a5
  | 6 => a6
  | 7 => a7
  | 8 => a8
  | 9 => a9
  | _ => a10
def adX (a0 a1 a2 a3 a4 a5 a6 a7 a8 a9 a10 : Nat → Nat → Nat) (qx hi st s1 s2 tx ch r0 r1 r2 r3 : Nat) : Adr := fun t P i => match t with
  | 1 => hi
  | 2 => tx
  | 4 => (match P with | 0 => s1 | _ => s2)
  | 9 => st
  | 10 => ch
  | 14 => qx
  | 15 => r0
  | 16 => r1
  | 17 => r2
  | 18 => r3
  | t => pkA a0 a1 a2 a3 a4 a5 a6 a7 a8 a9 a10 P t i
theorem plids_k : ∀ k ∈ plids, (k.1 = 3 ∧ k.2 = 0) ∨ (k.1 = 11 ∧ k.2 = 0) ∨ (k.1 = 12 ∧ k.2 = 0) ∨ (k.1 = 13 ∧ k.2 = 0) ∨ (k.1 = 0 ∧ k.2 = 0) ∨ (k.1 = 8 ∧ k.2 = 0) ∨ k.1 = 5 ∨ k.1 = 6 ∨ k.1 = 7 := by decide +kernel
theorem blk_eq {ad : Adr} {cy : Nat → ClassId} {a : Nat → Nat → Nat} (P : Nat) (h3 : ∀ i, ad 3 P i = a 3 i) (h11 : ∀ i, ad 11 P i = a 11 i) (h12 : ∀ i, ad 12 P i = a 12 i) (h13 : ∀ i, ad 13 P i = a 13 i) (h0 : ∀ i, ad 0 P i = a 0 i) (h8 : ∀ i, ad 8 P i = a 8 i) (h5 : ∀ i, ad 5 P i = a 5 i) (h6 : ∀ i, ad 6 P i = a 6 i) (h7 : ∀ i, ad 7 P i = a 7 i) : pbl cy a = (plids.map (fun k => (k.1, P, k.2))).map (fun k => (ad k.1 k.2.1 k.2.2, cI ad cy k.1 k.2.1 k.2.2 (S0 k.1 k.2.1 k.2.2))) := by
  rw [List.map_map]
  refine List.map_congr_left fun k hk => ?_
  obtain ⟨t, i⟩ := k
  rcases plids_k _ hk with ⟨rfl, hi⟩ | ⟨rfl, hi⟩ | ⟨rfl, hi⟩ | ⟨rfl, hi⟩ | ⟨rfl, hi⟩ | ⟨rfl, hi⟩ | rfl | rfl | rfl
  · have hi : i = 0 := hi
    subst hi
    show (a 3 0, (.inr (3, fs3 (fun t _ i => a t i) 0 0 (S0p 3)) : va_E)) = (ad 3 P 0, .inr (3, fs3 ad P 0 (S0p 3)))
    simp only [fs3, h3, h11, h12, h13, h0, h5]
  · have hi : i = 0 := hi
    subst hi
    show (a 11 0, (.inl (cy 2, 10, .inr (.inr (.inr (.inr (fun j => some (a 5 j)))))) : va_E)) = (ad 11 P 0, .inl (cy 2, 10, .inr (.inr (.inr (.inr (fun j => some (ad 5 P j)))))))
    simp only [h11, h5]
  · show (a 12 i, (.inl (cy 0, 4, .inl (S0p 12)) : va_E)) = (ad 12 P i, .inl (cy 0, 4, .inl (S0p 12)))
    rw [h12]
  · show (a 13 i, (.inl (cy 0, 4, .inl (S0p 13)) : va_E)) = (ad 13 P i, .inl (cy 0, 4, .inl (S0p 13)))
    rw [h13]
  · have hi : i = 0 := hi
    subst hi
    show (a 0 0, (.inr (0, fs0 (fun t _ i => a t i) 0 0 (S0p 0)) : va_E)) = (ad 0 P 0, .inr (0, fs0 ad P 0 (S0p 0)))
    simp only [fs0, h0, h8]
  · show (a 8 i, (.inl (cy 0, 10, .inl (S0p 8)) : va_E)) = (ad 8 P i, .inl (cy 0, 10, .inl (S0p 8)))
    rw [h8]
  · show (a 5 i, (.inr (5, fs5 (fun t _ i => a t i) 0 i (S0p 5)) : va_E)) = (ad 5 P i, .inr (5, fs5 ad P i (S0p 5)))
    simp only [fs5, h5, h6, h7]
  · show (a 6 i, (.inl (cy 0, 6, .inl (S0p 6)) : va_E)) = (ad 6 P i, .inl (cy 0, 6, .inl (S0p 6)))
    rw [h6]
  · show (a 7 i, (.inl (cy 0, 6, .inl (S0p 7)) : va_E)) = (ad 7 P i, .inl (cy 0, 6, .inl (S0p 7)))
    rw [h7]
def idm : List (Nat × Nat × Nat) := [(14, 0, 0)] ++ plids.map (fun k => (k.1, 0, k.2)) ++ plids.map (fun k => (k.1, 1, k.2)) ++ ([(1, 0, 0), (9, 0, 0)] ++ plids.map (fun k => (k.1, 8, k.2)) ++ plids.map (fun k => (k.1, 2, k.2)) ++ plids.map (fun k => (k.1, 3, k.2)) ++ plids.map (fun k => (k.1, 4, k.2)) ++ plids.map (fun k => (k.1, 5, k.2)) ++ plids.map (fun k => (k.1, 6, k.2)) ++ plids.map (fun k => (k.1, 7, k.2))) ++ ((4, 0, 0) :: plids.map (fun k => (k.1, 9, k.2))) ++ ((4, 1, 0) :: plids.map (fun k => (k.1, 10, k.2))) ++ [(2, 0, 0), (10, 0, 0)] ++ [(15, 0, 0), (16, 0, 0), (17, 0, 0), (18, 0, 0)]
def oL : List Id := idl ++ [(15, 0, 0), (16, 0, 0), (17, 0, 0), (18, 0, 0)]
theorem idm_sub : oL.all (fun k => decide (k ∈ idm)) = true := by decide +kernel
theorem oL_nodup : oL.Nodup := by decide +kernel
/-- what is made, by the ids: all cells are as they should be, but the row of states is written down otherwise -/
def cX (ad : Adr) (cy : Nat → ClassId) (k : Nat × Nat × Nat) : va_E := match k.1 with
  | 9 => .inl (cy 3, 6, .inr (.inr (.inr (.inr (va_up (va_up (va_up (va_up (va_up (va_up (fun _ => none) 0 (some (ad 3 2 0))) 1 (some (ad 3 3 0))) 2 (some (ad 3 4 0))) 3 (some (ad 3 5 0))) 4 (some (ad 3 6 0))) 5 (some (ad 3 7 0)))))))
  | _ => cI ad cy k.1 k.2.1 k.2.2 (S0 k.1 k.2.1 k.2.2)
theorem cX_pl (ad : Adr) (cy : Nat → ClassId) (P : Nat) : (plids.map (fun k => (k.1, P, k.2))).map (fun k => (ad k.1 k.2.1 k.2.2, cX ad cy k)) = (plids.map (fun k => (k.1, P, k.2))).map (fun k => (ad k.1 k.2.1 k.2.2, cI ad cy k.1 k.2.1 k.2.2 (S0 k.1 k.2.1 k.2.2))) := by
  rw [List.map_map, List.map_map]
  refine List.map_congr_left fun k hk => ?_
  obtain ⟨t, i⟩ := k
  rcases plids_k _ hk with ⟨rfl, hi⟩ | ⟨rfl, hi⟩ | ⟨rfl, hi⟩ | ⟨rfl, hi⟩ | ⟨rfl, hi⟩ | ⟨rfl, hi⟩ | rfl | rfl | rfl <;> rfl
theorem made_eq (cy : Nat → ClassId) (a0 a1 a2 a3 a4 a5 a6 a7 a8 a9 a10 : Nat → Nat → Nat) (qx hi st s1 s2 tx ch r0 r1 r2 r3 : Nat) : xbl cy qx hi st s1 s2 tx ch a0 a1 a8 a2 a3 a4 a5 a6 a7 a9 a10 ++ [(r0, .inl (cy 0, 60, .inl (fun _ => 0))), (r1, .inl (cy 0, 36, .inl (fun _ => 0))), (r2, .inl (cy 0, 36, .inl (fun _ => 0))), (r3, .inl (cy 0, 16, .inl (fun _ => 0)))] = idm.map (fun k => (adX a0 a1 a2 a3 a4 a5 a6 a7 a8 a9 a10 qx hi st s1 s2 tx ch r0 r1 r2 r3 k.1 k.2.1 k.2.2, cX (adX a0 a1 a2 a3 a4 a5 a6 a7 a8 a9 a10 qx hi st s1 s2 tx ch r0 r1 r2 r3) cy k)) := by
  have hb : ∀ P : Nat, pbl cy (pkA a0 a1 a2 a3 a4 a5 a6 a7 a8 a9 a10 P) = (plids.map (fun k => (k.1, P, k.2))).map (fun k => (adX a0 a1 a2 a3 a4 a5 a6 a7 a8 a9 a10 qx hi st s1 s2 tx ch r0 r1 r2 r3 k.1 k.2.1 k.2.2, cX (adX a0 a1 a2 a3 a4 a5 a6 a7 a8 a9 a10 qx hi st s1 s2 tx ch r0 r1 r2 r3) cy k)) := fun P => by
    rw [cX_pl]
    exact blk_eq P (fun _ => rfl) (fun _ => rfl) (fun _ => rfl) (fun _ => rfl) (fun _ => rfl) (fun _ => rfl) (fun _ => rfl) (fun _ => rfl) (fun _ => rfl)
  have b0 := hb 0
  change pbl cy a0 = _ at b0
  have b1 := hb 1
  change pbl cy a1 = _ at b1
  have b2 := hb 2
  change pbl cy a2 = _ at b2
  have b3 := hb 3
  change pbl cy a3 = _ at b3
  have b4 := hb 4
  change pbl cy a4 = _ at b4
  have b5 := hb 5
  change pbl cy a5 = _ at b5
  have b6 := hb 6
  change pbl cy a6 = _ at b6
  have b7 := hb 7
  change pbl cy a7 = _ at b7
  have b8 := hb 8
  change pbl cy a8 = _ at b8
  have b9 := hb 9
  change pbl cy a9 = _ at b9
  have b10 := hb 10
  change pbl cy a10 = _ at b10
  unfold xbl hbl idm
  rw [b0, b1, b2, b3, b4, b5, b6, b7, b8, b9, b10]
  simp only [List.map_append, List.map_cons, List.map_nil, List.append_assoc, List.cons_append, List.nil_append]
  rfl
/-- from what is made to the one world -/
theorem made_wd {D : va_G} {A : Nat → Prop} {H : Heap} {ad : Adr} {cy : Nat → ClassId} (hP : va_P D vwCl (idm.map (fun k => (ad k.1 k.2.1 k.2.2, cX ad cy k))) H) (hD : va_D A (idm.map (fun k => (ad k.1 k.2.1 k.2.2, cX ad cy k)))) : va_P D vwCl (wd ad cy oL S0) H ∧ va_D A (wd ad cy oL S0) := by
  have hsub : ∀ k ∈ oL, k ∈ idm := fun k hk => of_decide_eq_true (List.all_eq_true.mp idm_sub k hk)
  have hidx : ∀ k ∈ oL, ∃ j : Nat, idm[j]? = some k := fun k hk => List.getElem?_of_mem (hsub k hk)
  have hat : ∀ (j : Nat) (k : Nat × Nat × Nat), idm[j]? = some k → (idm.map (fun k => (ad k.1 k.2.1 k.2.2, cX ad cy k)))[j]? = some (ad k.1 k.2.1 k.2.2, cX ad cy k) := fun j k hj => by
    rw [List.getElem?_map, hj]
    rfl
  have hcell : ∀ (k : Nat × Nat × Nat) (H : Heap), va_at D vwCl (ad k.1 k.2.1 k.2.2, cX ad cy k) H → va_at D vwCl (ad k.1 k.2.1 k.2.2, cI ad cy k.1 k.2.1 k.2.2 (S0 k.1 k.2.1 k.2.2)) H := by
    intro k H h
    obtain ⟨t, P, i⟩ := k
    by_cases h9 : t = 9
    · subst h9
      have h : H[ad 9 P i]? = some (arrV (cy 3) 6 (fun j => va_rf (va_up (va_up (va_up (va_up (va_up (va_up (fun _ => none) 0 (some (ad 3 2 0))) 1 (some (ad 3 3 0))) 2 (some (ad 3 4 0))) 3 (some (ad 3 5 0))) 4 (some (ad 3 6 0))) 5 (some (ad 3 7 0)) j))) := h
      show H[ad 9 P i]? = some (arrV (cy 3) 6 (fun j => va_rf (some (ad 3 (2 + j) 0))))
      rw [h]
      have e : (Array.ofFn (n := 6) fun j => va_rf (va_up (va_up (va_up (va_up (va_up (va_up (fun _ => none) 0 (some (ad 3 2 0))) 1 (some (ad 3 3 0))) 2 (some (ad 3 4 0))) 3 (some (ad 3 5 0))) 4 (some (ad 3 6 0))) 5 (some (ad 3 7 0)) j.val)) = Array.ofFn (n := 6) fun j => va_rf (some (ad 3 (2 + j.val) 0)) := congrArg (fun z => Array.ofFn (n := 6) z) (funext fun j => by
        obtain ⟨j, hj⟩ := j
        match j, hj with
        | 0, _ => rfl
        | 1, _ => rfl
        | 2, _ => rfl
        | 3, _ => rfl
        | 4, _ => rfl
        | 5, _ => rfl
        | k + 6, h => exact absurd h (by omega))
      unfold arrV
      rw [e]
    · have e : cX ad cy (t, P, i) = cI ad cy t P i (S0 t P i) := by
        unfold cX
        split
        · rename_i hh; exact absurd hh h9
        · rfl
      rw [e] at h
      exact h
  refine ⟨fun j q hq => ?_, ⟨fun i j p q hp hq e => ?_, fun j q hq => ?_⟩⟩
  · obtain ⟨k, hk, rfl⟩ := wd_at hq
    obtain ⟨x, hx⟩ := hidx k (List.mem_of_getElem? hk)
    exact hcell k H (hP x _ (hat x k hx))
  · obtain ⟨k, hk, rfl⟩ := wd_at hp
    obtain ⟨k2, hk2, rfl⟩ := wd_at hq
    obtain ⟨x, hx⟩ := hidx k (List.mem_of_getElem? hk)
    obtain ⟨x2, hx2⟩ := hidx k2 (List.mem_of_getElem? hk2)
    have e2 := hD.1 _ _ _ _ (hat x k hx) (hat x2 k2 hx2) e
    subst e2
    rw [hx] at hx2
    cases hx2
    obtain ⟨l1, l2⟩ := List.getElem?_eq_some_iff.mp hk
    obtain ⟨l3, l4⟩ := List.getElem?_eq_some_iff.mp hk2
    have hpw := List.pairwise_iff_getElem.mp oL_nodup
    rcases Nat.lt_trichotomy i j with hh | hh | hh
    · exact absurd (l2.trans l4.symm) (hpw _ _ l1 l3 hh)
    · exact hh
    · exact absurd (l4.trans l2.symm) (hpw _ _ l3 l1 hh)
  · obtain ⟨k, hk, rfl⟩ := wd_at hq
    obtain ⟨x, hx⟩ := hidx k (List.mem_of_getElem? hk)
    have h := hD.2 _ _ (hat x k hx)
    exact h
theorem IN_oL : IN [(15, 0, 0), (16, 0, 0), (17, 0, 0), (18, 0, 0)] oL := ⟨fun k hk => List.mem_append_left _ hk, List.mem_append_right _ (by decide), List.mem_append_right _ (by decide), List.mem_append_right _ (by decide), List.mem_append_right _ (by decide), trivial⟩
