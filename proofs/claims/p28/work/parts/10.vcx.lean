def vc_X0_clear (S : Mem) (P : Nat) (Q : Mem → Prop) : Prop :=
  ∀ S_1 : Mem, S_1 = uc S 0 P 0 (upd (S 0 P 0) 1 (0 : Int32)) →
  Q S_1
def vc_X0_insert_L18 (Q : Mem → Prop) (K : Mem → Int32 → Prop) (P : Nat) (x1 : Int32) : Nat → Mem → Int32 → Prop
  | 0, _, _ => False
  | n18 + 1, S, y2 =>
  ((y2 ≤ 0) →
  K S y2) ∧ ((¬ (y2 ≤ 0)) →
  vp_in (y2 - (1 : Int32)) 10 ∧
  (((S 8 P 0 (y2 - (1 : Int32)).toNatClampNeg) ≤ x1) →
  K S y2) ∧ ((¬ ((S 8 P 0 (y2 - (1 : Int32)).toNatClampNeg) ≤ x1)) →
  vp_in (y2 - (1 : Int32)) 10 ∧
  vp_in y2 10 ∧
  ∀ S_6 : Mem, S_6 = uc S 8 P 0 (upd (S 8 P 0) y2.toNatClampNeg (S 8 P 0 (y2 - (1 : Int32)).toNatClampNeg)) →
  vc_X0_insert_L18 Q K P x1 n18 S_6 (y2 + (-1 : Int32))))
def vc_X0_insert_J54 (Q : Mem → Prop) (P : Nat) (x1 : Int32) (S : Mem) (y2 : Int32) : Prop :=
  vp_in y2 10 ∧
  ∀ S_11 : Mem, S_11 = uc S 8 P 0 (upd (S 8 P 0) y2.toNatClampNeg x1) →
  ∀ S_14 : Mem, S_14 = uc S_11 0 P 0 (upd (S_11 0 P 0) 1 ((S_11 0 P 0 1) + (1 : Int32))) →
  Q S_14
def vc_X0_insert (S : Mem) (P : Nat) (x1 : Int32) (Q : Mem → Prop) : Prop :=
  (((S 0 P 0 1) < (10 : Int32)) →
  ∃ n : Nat, vc_X0_insert_L18 Q (fun (S_9 : Mem) (y2_10 : Int32) =>
  vc_X0_insert_J54 Q P x1 S_9 y2_10) P x1 n S (S 0 P 0 1)) ∧ ((¬ ((S 0 P 0 1) < (10 : Int32))) →
  Q S)
def vc_X0_middle (S : Mem) (P : Nat) (Q : Mem → Int32 → Prop) : Prop :=
  (¬ (2 : Int32) = 0) ∧
  (((S 0 P 0 1) ≤ 0) →
  Q S (-999999 : Int32)) ∧ ((¬ ((S 0 P 0 1) ≤ 0)) →
  (((10 : Int32) ≤ (((S 0 P 0 1) - (1 : Int32)) / (2 : Int32))) →
  Q S (-999999 : Int32)) ∧ ((¬ ((10 : Int32) ≤ (((S 0 P 0 1) - (1 : Int32)) / (2 : Int32)))) →
  vp_in (((S 0 P 0 1) - (1 : Int32)) / (2 : Int32)) 10 ∧
  Q S (S 8 P 0 (((S 0 P 0 1) - (1 : Int32)) / (2 : Int32)).toNatClampNeg)))
def vc_X1_stateAt (S : Mem) (x1 : Int32) (Q : Mem → Nat → Nat → Prop) : Prop :=
  ((x1 < 0) →
  Q S 8 0) ∧ ((¬ (x1 < 0)) →
  ((x1 < (6 : Int32)) →
  vp_in x1 6 ∧
  Q S (2 + x1.toNatClampNeg) 0) ∧ ((¬ (x1 < (6 : Int32))) →
  Q S 8 0))
def vc_X3_at (S : Mem) (P : Nat) (x1 : Int32) (Q : Mem → Nat → Nat → Prop) : Prop :=
  ((x1 < 0) →
  Q S P 10) ∧ ((¬ (x1 < 0)) →
  ((x1 < (10 : Int32)) →
  vp_in x1 10 ∧
  Q S P x1.toNatClampNeg) ∧ ((¬ (x1 < (10 : Int32))) →
  Q S P 10))
def vc_X6_copyInto_L2 (Q : Mem → Prop) (K : Mem → Prop) (t0 : Nat) (P0 : Nat) (i0 : Nat) (n0 : Nat) (t1 : Nat) (P1 : Nat) (i1 : Nat) (n1 : Nat) : Nat → Mem → Int32 → Prop
  | 0, _, _ => False
  | n2 + 1, S, y2 =>
  (((nI n0) ≤ y2) →
  K S) ∧ ((¬ ((nI n0) ≤ y2)) →
  (((nI n1) ≤ y2) →
  K S) ∧ ((¬ ((nI n1) ≤ y2)) →
  vp_in y2 n1 ∧
  vp_in y2 n0 ∧
  ∀ S_4 : Mem, S_4 = uc S t0 P0 i0 (upd (S t0 P0 i0) y2.toNatClampNeg (S t1 P1 i1 y2.toNatClampNeg)) →
  vc_X6_copyInto_L2 Q K t0 P0 i0 n0 t1 P1 i1 n1 n2 S_4 (y2 + (1 : Int32))))
def vc_X6_copyInto (S : Mem) (t0 : Nat) (P0 : Nat) (i0 : Nat) (n0 : Nat) (t1 : Nat) (P1 : Nat) (i1 : Nat) (n1 : Nat) (Q : Mem → Prop) : Prop :=
  ∃ n : Nat, vc_X6_copyInto_L2 Q (fun (S_7 : Mem) =>
  Q S_7) t0 P0 i0 n0 t1 P1 i1 n1 n S (0 : Int32)
def vc_X5_copyFrom (S : Mem) (P : Nat) (i : Nat) (P1 : Nat) (i1 : Nat) (Q : Mem → Prop) : Prop :=
  vc_X6_copyInto S 6 P i 6 6 P1 i1 6 (fun (S_1 : Mem) =>
  vc_X6_copyInto S_1 7 P i 6 7 P1 i1 6 (fun (S_2 : Mem) =>
  ∀ S_3 : Mem, S_3 = uc S_2 5 P i (upd (S_2 5 P i) 2 (S_2 5 P1 i1 2)) →
  ∀ S_5 : Mem, S_5 = uc S_3 5 P i (upd (S_3 5 P i) 3 (S_3 5 P1 i1 3)) →
  ∀ S_7 : Mem, S_7 = uc S_5 5 P i (upd (S_5 5 P i) 4 (S_5 5 P1 i1 4)) →
  ((S_7 5 P1 i1 10) = 0 ∨ (S_7 5 P1 i1 10) = 1) ∧
  ∀ S_9 : Mem, S_9 = uc S_7 5 P i (upd (S_7 5 P i) 10 (S_7 5 P1 i1 10)) →
  ∀ S_12 : Mem, S_12 = uc S_9 5 P i (upd (S_9 5 P i) 5 (S_9 5 P1 i1 5)) →
  ∀ S_14 : Mem, S_14 = uc S_12 5 P i (upd (S_12 5 P i) 6 (S_12 5 P1 i1 6)) →
  ∀ S_16 : Mem, S_16 = uc S_14 5 P i (upd (S_14 5 P i) 7 (S_14 5 P1 i1 7)) →
  ∀ S_18 : Mem, S_18 = uc S_16 5 P i (upd (S_16 5 P i) 8 (S_16 5 P1 i1 8)) →
  ∀ S_20 : Mem, S_20 = uc S_18 5 P i (upd (S_18 5 P i) 9 (S_18 5 P1 i1 9)) →
  ∀ S_22 : Mem, S_22 = uc S_20 5 P i (upd (S_20 5 P i) 11 (S_20 5 P1 i1 11)) →
  Q S_22))
def vc_X3_copyFrom_L2 (Q : Mem → Prop) (K : Mem → Prop) (P : Nat) (P1 : Nat) : Nat → Mem → Int32 → Prop
  | 0, _, _ => False
  | n2 + 1, S, y2 =>
  (((S 3 P1 0 6) ≤ y2) →
  K S) ∧ ((¬ ((S 3 P1 0 6) ≤ y2)) →
  vc_X3_at S P y2 (fun (S_2 : Mem) (P_3 i_4 : Nat) =>
  vc_X3_at S_2 P1 y2 (fun (S_5 : Mem) (P_6 i_7 : Nat) =>
  (P_3 < 11 ∧ i_4 < 11) ∧
  (P_6 < 11 ∧ i_7 < 11) ∧
  vc_X5_copyFrom S_5 P_3 i_4 P_6 i_7 (fun (S_10 : Mem) =>
  vc_X3_copyFrom_L2 Q K P P1 n2 S_10 (y2 + (1 : Int32))))))
def vc_X3_copyFrom (S : Mem) (P : Nat) (P1 : Nat) (Q : Mem → Prop) : Prop :=
  ∃ n : Nat, vc_X3_copyFrom_L2 Q (fun (S_11 : Mem) =>
  vc_X6_copyInto S_11 12 P 0 4 12 P1 0 4 (fun (S_12 : Mem) =>
  vc_X6_copyInto S_12 13 P 0 4 13 P1 0 4 (fun (S_13 : Mem) =>
  ∀ S_14 : Mem, S_14 = uc S_13 3 P 0 (upd (S_13 3 P 0) 5 (S_13 3 P1 0 5)) →
  ∀ S_16 : Mem, S_16 = uc S_14 3 P 0 (upd (S_14 3 P 0) 6 (S_14 3 P1 0 6)) →
  ∀ S_18 : Mem, S_18 = uc S_16 3 P 0 (upd (S_16 3 P 0) 7 (S_16 3 P1 0 7)) →
  ∀ S_20 : Mem, S_20 = uc S_18 3 P 0 (upd (S_18 3 P 0) 8 (S_18 3 P1 0 8)) →
  ∀ S_22 : Mem, S_22 = uc S_20 3 P 0 (upd (S_20 3 P 0) 9 (S_20 3 P1 0 9)) →
  ∀ S_24 : Mem, S_24 = uc S_22 3 P 0 (upd (S_22 3 P 0) 10 (S_22 3 P1 0 10)) →
  ∀ S_26 : Mem, S_26 = uc S_24 3 P 0 (upd (S_24 3 P 0) 11 (S_24 3 P1 0 11)) →
  ∀ S_28 : Mem, S_28 = uc S_26 3 P 0 (upd (S_26 3 P 0) 12 (S_26 3 P1 0 12)) →
  Q S_28))) P P1 n S (0 : Int32)
def vc_X1_save (S : Mem) (P1 : Nat) (Q : Mem → Prop) : Prop :=
  vc_X1_stateAt S (S 1 0 0 2) (fun (S_1 : Mem) (P_2 i_3 : Nat) =>
  i_3 = 0 ∧
  (P_2 < 11) ∧
  vc_X3_copyFrom S_1 P_2 P1 (fun (S_6 : Mem) =>
  (¬ (6 : Int32) = 0) ∧
  ∀ S_8 : Mem, S_8 = uc S_6 1 0 0 (upd (S_6 1 0 0) 2 (((S_6 1 0 0 2) + (1 : Int32)) - ((S_6 1 0 0 2) + (1 : Int32)) / (6 : Int32) * (6 : Int32))) →
  ∀ S_10 : Mem, S_10 = uc S_8 1 0 0 (upd (S_8 1 0 0) 3 (imin ((S_8 1 0 0 3) + (1 : Int32)) (6 : Int32))) →
  Q S_10))
def vc_X3_has (S : Mem) (P : Nat) (x1 : Int32) (Q : Mem → Int32 → Prop) : Prop :=
  ((x1 < 0) →
  Q S (0 : Int32)) ∧ ((¬ (x1 < 0)) →
  (((S 3 P 0 6) ≤ x1) →
  Q S (0 : Int32)) ∧ ((¬ ((S 3 P 0 6) ≤ x1)) →
  Q S (1 : Int32)))
def vc_X3_hasRoom (S : Mem) (P : Nat) (Q : Mem → Int32 → Prop) : Prop :=
  (((10 : Int32) ≤ (S 3 P 0 6)) →
  Q S (0 : Int32)) ∧ ((¬ ((10 : Int32) ≤ (S 3 P 0 6))) →
  Q S (1 : Int32))
def vc_X3_hasHoursLeft (S : Mem) (P : Nat) (x1 : Int32) (Q : Mem → Int32 → Prop) : Prop :=
  ((((9999 : Int32) - x1) < (S 3 P 0 7)) →
  Q S (0 : Int32)) ∧ ((¬ (((9999 : Int32) - x1) < (S 3 P 0 7))) →
  Q S (1 : Int32))
def vc_X5_startAfresh (S : Mem) (P : Nat) (i : Nat) (x1 : Int32) (Q : Mem → Prop) : Prop :=
  ∀ S_1 : Mem, S_1 = uc S 5 P i (upd (S 5 P i) 7 (x1 + (S 5 P i 4))) →
  ∀ S_3 : Mem, S_3 = uc S_1 5 P i (upd (S_1 5 P i) 2 (0 : Int32)) →
  ∀ S_5 : Mem, S_5 = uc S_3 5 P i (upd (S_3 5 P i) 11 (-999999 : Int32)) →
  ∀ S_7 : Mem, S_7 = uc S_5 5 P i (upd (S_5 5 P i) 8 (0 : Int32)) →
  ∀ S_9 : Mem, S_9 = uc S_7 5 P i (upd (S_7 5 P i) 10 (0 : Int32)) →
  Q S_9
def vc_X5_begin (S : Mem) (P : Nat) (i : Nat) (x1 : Int32) (x2 : Int32) (x3 : Int32) (x4 : Int32) (x5 : Int32) (Q : Mem → Prop) : Prop :=
  ∀ S_1 : Mem, S_1 = uc S 5 P i (upd (S 5 P i) 5 x1) →
  ∀ S_3 : Mem, S_3 = uc S_1 5 P i (upd (S_1 5 P i) 3 x2) →
  ∀ S_5 : Mem, S_5 = uc S_3 5 P i (upd (S_3 5 P i) 4 x3) →
  ∀ S_7 : Mem, S_7 = uc S_5 5 P i (upd (S_5 5 P i) 6 x4) →
  ∀ S_9 : Mem, S_9 = uc S_7 5 P i (upd (S_7 5 P i) 9 (0 : Int32)) →
  vc_X5_startAfresh S_9 P i x5 (fun (S_11 : Mem) =>
  Q S_11)
def vc_X3_add (S : Mem) (P : Nat) (x1 : Int32) (x2 : Int32) (x3 : Int32) (x4 : Int32) (Q : Mem → Int32 → Prop) : Prop :=
  vc_X3_at S P (S 3 P 0 6) (fun (S_1 : Mem) (P_2 i_3 : Nat) =>
  (P_2 < 11 ∧ i_3 < 11) ∧
  vc_X5_begin S_1 P_2 i_3 x1 x2 x3 x4 (S_1 3 P 0 8) (fun (S_5 : Mem) =>
  ∀ S_6 : Mem, S_6 = uc S_5 3 P 0 (upd (S_5 3 P 0) 6 ((S_5 3 P 0 6) + (1 : Int32))) →
  Q S_6 (S 3 P 0 6)))
def vc_X3_changePeriod (S : Mem) (P : Nat) (x1 : Int32) (x2 : Int32) (Q : Mem → Prop) : Prop :=
  ((x1 < 0) →
  Q S) ∧ ((¬ (x1 < 0)) →
  (((4 : Int32) ≤ x1) →
  Q S) ∧ ((¬ ((4 : Int32) ≤ x1)) →
  vp_in x1 4 ∧
  ∀ S_3 : Mem, S_3 = uc S 12 P 0 (upd (S 12 P 0) x1.toNatClampNeg x2) →
  Q S_3))
def vc_X6_entry (S : Mem) (t0 : Nat) (P0 : Nat) (i0 : Nat) (n0 : Nat) (x1 : Int32) (Q : Mem → Int32 → Prop) : Prop :=
  ((x1 < 0) →
  Q S (-999999 : Int32)) ∧ ((¬ (x1 < 0)) →
  (((nI n0) ≤ x1) →
  Q S (-999999 : Int32)) ∧ ((¬ ((nI n0) ≤ x1)) →
  vp_in x1 n0 ∧
  Q S (S t0 P0 i0 x1.toNatClampNeg)))
def vc_X3_periodOf (S : Mem) (P : Nat) (x1 : Int32) (Q : Mem → Int32 → Prop) : Prop :=
  vc_X6_entry S 12 P 0 4 x1 (fun (S_1 : Mem) (r_2 : Int32) =>
  Q S_1 r_2)
def vc_X3_timesReadOf (S : Mem) (P : Nat) (x1 : Int32) (Q : Mem → Int32 → Prop) : Prop :=
  vc_X6_entry S 13 P 0 4 x1 (fun (S_1 : Mem) (r_2 : Int32) =>
  Q S_1 r_2)
def vc_X6_remainder (S : Mem) (x0 : Int32) (x1 : Int32) (Q : Mem → Int32 → Prop) : Prop :=
  ((¬ x1 = 0) →
  (¬ x1 = 0) ∧
  Q S (x0 - x0 / x1 * x1)) ∧ ((x1 = 0) →
  Q S (0 : Int32))
def vc_X3_hoursUntilRead (S : Mem) (P : Nat) (x1 : Int32) (Q : Mem → Int32 → Prop) : Prop :=
  vc_X3_periodOf S P x1 (fun (S_1 : Mem) (r_2 : Int32) =>
  vc_X3_periodOf S_1 P x1 (fun (S_3 : Mem) (r_4 : Int32) =>
  vc_X6_remainder S_3 (S_1 3 P 0 7) r_4 (fun (S_5 : Mem) (r_6 : Int32) =>
  Q S_5 (r_2 - r_6))))
def vc_X3_countInRow_J27 (Q : Mem → Int32 → Prop) (K0 : Mem → Int32 → Int32 → Prop) (K1 : Mem → Int32 → Prop) (P : Nat) (x1 : Int32) (S : Mem) (y2 : Int32) (y3 : Int32) : Prop :=
  K0 S y2 (y3 + (1 : Int32))
def vc_X3_countInRow_L4 (Q : Mem → Int32 → Prop) (K : Mem → Int32 → Prop) (P : Nat) (x1 : Int32) : Nat → Mem → Int32 → Int32 → Prop
  | 0, _, _, _ => False
  | n4 + 1, S, y2, y3 =>
  (((S 3 P 0 6) ≤ y3) →
  K S y2) ∧ ((¬ ((S 3 P 0 6) ≤ y3)) →
  vc_X3_at S P y3 (fun (S_2 : Mem) (P_3 i_4 : Nat) =>
  (P_3 < 11 ∧ i_4 < 11) ∧
  ((¬ (S_2 5 P_3 i_4 5) = x1) →
  vc_X3_countInRow_J27 Q (vc_X3_countInRow_L4 Q K P x1 n4) (K) P x1 S_2 y2 y3) ∧ (((S_2 5 P_3 i_4 5) = x1) →
  vc_X3_countInRow_J27 Q (vc_X3_countInRow_L4 Q K P x1 n4) (K) P x1 S_2 (y2 + (1 : Int32)) y3)))
def vc_X3_countInRow (S : Mem) (P : Nat) (x1 : Int32) (Q : Mem → Int32 → Prop) : Prop :=
  ∃ n : Nat, vc_X3_countInRow_L4 Q (fun (S_7 : Mem) (y2_8 : Int32) =>
  Q S_7 y2_8) P x1 n S (0 : Int32) (0 : Int32)
def vc_X5_isAsked (S : Mem) (P : Nat) (i : Nat) (Q : Mem → Int32 → Prop) : Prop :=
  (((S 5 P i 2) ≤ 0) →
  Q S (0 : Int32)) ∧ ((¬ ((S 5 P i 2) ≤ 0)) →
  ((¬ (S 5 P i 10) = 0) →
  Q S (0 : Int32)) ∧ (((S 5 P i 10) = 0) →
  Q S (1 : Int32)))
def vc_X6_quotient (S : Mem) (x0 : Int32) (x1 : Int32) (Q : Mem → Int32 → Prop) : Prop :=
  ((¬ x1 = 0) →
  (¬ x1 = 0) ∧
  Q S (x0 / x1)) ∧ ((x1 = 0) →
  Q S (0 : Int32))
def vc_X3_mean_J56 (Q : Mem → Int32 → Prop) (K0 : Mem → Int32 → Int32 → Int32 → Prop) (K1 : Mem → Int32 → Int32 → Prop) (P : Nat) (S : Mem) (y1 : Int32) (y2 : Int32) (y3 : Int32) : Prop :=
  K0 S y1 y2 (y3 + (1 : Int32))
def vc_X3_mean_L6 (Q : Mem → Int32 → Prop) (K : Mem → Int32 → Int32 → Prop) (P : Nat) : Nat → Mem → Int32 → Int32 → Int32 → Prop
  | 0, _, _, _, _ => False
  | n6 + 1, S, y1, y2, y3 =>
  (((S 3 P 0 6) ≤ y3) →
  K S y1 y2) ∧ ((¬ ((S 3 P 0 6) ≤ y3)) →
  vc_X3_at S P y3 (fun (S_2 : Mem) (P_3 i_4 : Nat) =>
  (P_3 < 11 ∧ i_4 < 11) ∧
  vc_X5_isAsked S_2 P_3 i_4 (fun (S_6 : Mem) (r_7 : Int32) =>
  ((r_7 = 0) →
  vc_X3_mean_J56 Q (vc_X3_mean_L6 Q K P n6) (K) P S_6 y1 y2 y3) ∧ ((¬ (r_7 = 0)) →
  vc_X3_at S_6 P y3 (fun (S_9 : Mem) (P_10 i_11 : Nat) =>
  (P_10 < 11 ∧ i_11 < 11) ∧
  vc_X3_at S_9 P y3 (fun (S_13 : Mem) (P_14 i_15 : Nat) =>
  (P_14 < 11 ∧ i_15 < 11) ∧
  vc_X3_at S_13 P y3 (fun (S_17 : Mem) (P_18 i_19 : Nat) =>
  (P_18 < 11 ∧ i_19 < 11) ∧
  vc_X3_mean_J56 Q (vc_X3_mean_L6 Q K P n6) (K) P S_17 (y1 + ((S_9 5 P_10 i_11 11) * (S_13 5 P_14 i_15 6))) (y2 + (S_17 5 P_18 i_19 6)) y3)))))))
def vc_X3_mean (S : Mem) (P : Nat) (Q : Mem → Int32 → Prop) : Prop :=
  ∃ n : Nat, vc_X3_mean_L6 Q (fun (S_21 : Mem) (y1_22 : Int32) (y2_23 : Int32) =>
  ((¬ y2_23 = 0) →
  vc_X6_quotient S_21 y1_22 y2_23 (fun (S_25 : Mem) (r_26 : Int32) =>
  Q S_25 r_26)) ∧ ((y2_23 = 0) →
  Q S_21 (-999999 : Int32))) P n S (0 : Int32) (0 : Int32) (0 : Int32)
def vc_X5_stepFrom (S : Mem) (P : Nat) (i : Nat) (x1 : Int32) (x2 : Int32) (Q : Mem → Int32 → Prop) : Prop :=
  vc_X6_quotient S ((x2 + (S 5 P i 4)) - x1) (S 5 P i 3) (fun (S_1 : Mem) (r_2 : Int32) =>
  Q S_1 r_2)
def vc_X5_follow (S : Mem) (P : Nat) (i : Nat) (x1 : Int32) (Q : Mem → Prop) : Prop :=
  vc_X5_stepFrom S P i (S 5 P i 7) x1 (fun (S_1 : Mem) (r_2 : Int32) =>
  ∀ S_3 : Mem, S_3 = uc S_1 5 P i (upd (S_1 5 P i) 7 ((S 5 P i 7) + r_2)) →
  Q S_3)
def vc_X3_isReadNow (S : Mem) (P : Nat) (x1 : Int32) (Q : Mem → Int32 → Prop) : Prop :=
  vc_X3_periodOf S P x1 (fun (S_1 : Mem) (r_2 : Int32) =>
  vc_X6_remainder S_1 (S 3 P 0 7) r_2 (fun (S_3 : Mem) (r_4 : Int32) =>
  ((¬ r_4 = 0) →
  Q S_3 (0 : Int32)) ∧ ((r_4 = 0) →
  Q S_3 (1 : Int32))))
def vc_X6_putFirst_L5 (Q : Mem → Prop) (K : Mem → Prop) (t0 : Nat) (P0 : Nat) (i0 : Nat) (n0 : Nat) (x1 : Int32) : Nat → Mem → Int32 → Prop
  | 0, _, _ => False
  | n5 + 1, S, y2 =>
  ((y2 ≤ 0) →
  K S) ∧ ((¬ (y2 ≤ 0)) →
  vp_in (y2 - (1 : Int32)) n0 ∧
  vp_in y2 n0 ∧
  ∀ S_3 : Mem, S_3 = uc S t0 P0 i0 (upd (S t0 P0 i0) y2.toNatClampNeg (S t0 P0 i0 (y2 - (1 : Int32)).toNatClampNeg)) →
  vc_X6_putFirst_L5 Q K t0 P0 i0 n0 x1 n5 S_3 (y2 + (-1 : Int32)))
def vc_X6_putFirst (S : Mem) (t0 : Nat) (P0 : Nat) (i0 : Nat) (n0 : Nat) (x1 : Int32) (Q : Mem → Prop) : Prop :=
  ∃ n : Nat, vc_X6_putFirst_L5 Q (fun (S_6 : Mem) =>
  (((nI n0) ≤ 0) →
  Q S_6) ∧ ((¬ ((nI n0) ≤ 0)) →
  vp_in (0 : Int32) n0 ∧
  ∀ S_8 : Mem, S_8 = uc S_6 t0 P0 i0 (upd (S_6 t0 P0 i0) (0 : Int32).toNatClampNeg x1) →
  Q S_8)) t0 P0 i0 n0 x1 n S ((nI n0) - (1 : Int32))
def vc_X5_mendedWith (S : Mem) (P : Nat) (i : Nat) (x1 : Int32) (Q : Mem → Int32 → Prop) : Prop :=
  ((¬ (S 5 P i 2) = 0) →
  vc_X6_entry S 7 P i 6 (0 : Int32) (fun (S_2 : Mem) (r_3 : Int32) =>
  ((¬ (S_2 5 P i 2) = (1 : Int32)) →
  vc_X6_entry S_2 7 P i 6 (1 : Int32) (fun (S_5 : Mem) (r_6 : Int32) =>
  vc_X6_entry S_5 6 P i 6 (0 : Int32) (fun (S_7 : Mem) (r_8 : Int32) =>
  vc_X6_entry S_7 6 P i 6 (1 : Int32) (fun (S_9 : Mem) (r_10 : Int32) =>
  vc_X6_quotient S_9 ((r_3 - r_6) * (x1 - (1 : Int32))) (r_8 - r_10) (fun (S_11 : Mem) (r_12 : Int32) =>
  Q S_11 ((r_3 + r_12) - (S_11 5 P i 4))))))) ∧ (((S_2 5 P i 2) = (1 : Int32)) →
  Q S_2 (r_3 - (S_2 5 P i 4))))) ∧ (((S 5 P i 2) = 0) →
  Q S (-999999 : Int32))
def vc_X5_takeReading (S : Mem) (P : Nat) (i : Nat) (x1 : Int32) (Q : Mem → Prop) : Prop :=
  vc_X6_putFirst S 6 P i 6 x1 (fun (S_1 : Mem) =>
  vc_X6_putFirst S_1 7 P i 6 (S_1 5 P i 7) (fun (S_2 : Mem) =>
  ∀ S_3 : Mem, S_3 = uc S_2 5 P i (upd (S_2 5 P i) 2 (imin ((S_2 5 P i 2) + (1 : Int32)) (6 : Int32))) →
  vc_X5_mendedWith S_3 P i (S_3 5 P i 3) (fun (S_5 : Mem) (r_6 : Int32) =>
  ∀ S_7 : Mem, S_7 = uc S_5 5 P i (upd (S_5 5 P i) 11 r_6) →
  Q S_7)))
def vc_X3_readRows_J29 (Q : Mem → Prop) (K0 : Mem → Int32 → Prop) (K1 : Mem → Prop) (P : Nat) (S : Mem) (y1 : Int32) : Prop :=
  K0 S (y1 + (1 : Int32))
def vc_X3_readRows_L2 (Q : Mem → Prop) (K : Mem → Prop) (P : Nat) : Nat → Mem → Int32 → Prop
  | 0, _, _ => False
  | n2 + 1, S, y1 =>
  (((4 : Int32) ≤ y1) →
  K S) ∧ ((¬ ((4 : Int32) ≤ y1)) →
  vc_X3_isReadNow S P y1 (fun (S_2 : Mem) (r_3 : Int32) =>
  ((r_3 = 0) →
  vc_X3_readRows_J29 Q (vc_X3_readRows_L2 Q K P n2) (K) P S_2 y1) ∧ ((¬ (r_3 = 0)) →
  vp_in y1 4 ∧
  vp_in y1 4 ∧
  ∀ S_6 : Mem, S_6 = uc S_2 13 P 0 (upd (S_2 13 P 0) y1.toNatClampNeg ((S_2 13 P 0 y1.toNatClampNeg) + (1 : Int32))) →
  vc_X3_readRows_J29 Q (vc_X3_readRows_L2 Q K P n2) (K) P S_6 y1)))
def vc_X3_readRows_J82 (Q : Mem → Prop) (K0 : Mem → Int32 → Prop) (K1 : Mem → Prop) (P : Nat) (S : Mem) (y1 : Int32) : Prop :=
  K0 S (y1 + (1 : Int32))
def vc_X3_readRows_L37 (Q : Mem → Prop) (K : Mem → Prop) (P : Nat) : Nat → Mem → Int32 → Prop
  | 0, _, _ => False
  | n37 + 1, S, y1 =>
  (((S 3 P 0 6) ≤ y1) →
  K S) ∧ ((¬ ((S 3 P 0 6) ≤ y1)) →
  vc_X3_at S P y1 (fun (S_11 : Mem) (P_12 i_13 : Nat) =>
  (P_12 < 11 ∧ i_13 < 11) ∧
  vc_X3_isReadNow S_11 P (S_11 5 P_12 i_13 5) (fun (S_15 : Mem) (r_16 : Int32) =>
  ((r_16 = 0) →
  vc_X3_readRows_J82 Q (vc_X3_readRows_L37 Q K P n37) (K) P S_15 y1) ∧ ((¬ (r_16 = 0)) →
  vc_X3_at S_15 P y1 (fun (S_18 : Mem) (P_19 i_20 : Nat) =>
  (P_19 < 11 ∧ i_20 < 11) ∧
  vc_X5_takeReading S_18 P_19 i_20 (S_18 3 P 0 7) (fun (S_22 : Mem) =>
  ∀ S_23 : Mem, S_23 = uc S_22 3 P 0 (upd (S_22 3 P 0) 9 ((S_22 3 P 0 9) + (1 : Int32))) →
  vc_X3_readRows_J82 Q (vc_X3_readRows_L37 Q K P n37) (K) P S_23 y1))))))
def vc_X3_readRows (S : Mem) (P : Nat) (Q : Mem → Prop) : Prop :=
  ∃ n : Nat, vc_X3_readRows_L2 Q (fun (S_9 : Mem) =>
  ∃ n : Nat, vc_X3_readRows_L37 Q (fun (S_25 : Mem) =>
  Q S_25) P n S_9 (0 : Int32)) P n S (0 : Int32)
def vc_X3_maskOfAsked_J29 (Q : Mem → Int32 → Prop) (K0 : Mem → Int32 → Int32 → Prop) (K1 : Mem → Int32 → Prop) (P : Nat) (S : Mem) (y1 : Int32) (y2 : Int32) : Prop :=
  K0 S y1 (y2 + (1 : Int32))
def vc_X3_maskOfAsked_L4 (Q : Mem → Int32 → Prop) (K : Mem → Int32 → Prop) (P : Nat) : Nat → Mem → Int32 → Int32 → Prop
  | 0, _, _, _ => False
  | n4 + 1, S, y1, y2 =>
  (((S 3 P 0 6) ≤ y2) →
  K S y1) ∧ ((¬ ((S 3 P 0 6) ≤ y2)) →
  vc_X3_at S P y2 (fun (S_2 : Mem) (P_3 i_4 : Nat) =>
  (P_3 < 11 ∧ i_4 < 11) ∧
  vc_X5_isAsked S_2 P_3 i_4 (fun (S_6 : Mem) (r_7 : Int32) =>
  ((r_7 = 0) →
  vc_X3_maskOfAsked_J29 Q (vc_X3_maskOfAsked_L4 Q K P n4) (K) P S_6 y1 y2) ∧ ((¬ (r_7 = 0)) →
  vc_X3_maskOfAsked_J29 Q (vc_X3_maskOfAsked_L4 Q K P n4) (K) P S_6 (y1 ||| ((1 : Int32) <<< (y2 &&& 31))) y2))))
def vc_X3_maskOfAsked (S : Mem) (P : Nat) (Q : Mem → Int32 → Prop) : Prop :=
  ∃ n : Nat, vc_X3_maskOfAsked_L4 Q (fun (S_9 : Mem) (y1_10 : Int32) =>
  Q S_9 y1_10) P n S (0 : Int32) (0 : Int32)
def vc_J6_bitCount_0f7a4 (S : Mem) (x0 : Int32) (Q : Mem → Int32 → Prop) : Prop :=
  Q S ((((((((x0 - ((x0.toUInt32 >>> ((1 : Int32).toUInt32 &&& Int32.toUInt32 31)).toInt32 &&& (1431655765 : Int32))) &&& (858993459 : Int32)) + (((x0 - ((x0.toUInt32 >>> ((1 : Int32).toUInt32 &&& Int32.toUInt32 31)).toInt32 &&& (1431655765 : Int32))).toUInt32 >>> ((2 : Int32).toUInt32 &&& Int32.toUInt32 31)).toInt32 &&& (858993459 : Int32))) + ((((x0 - ((x0.toUInt32 >>> ((1 : Int32).toUInt32 &&& Int32.toUInt32 31)).toInt32 &&& (1431655765 : Int32))) &&& (858993459 : Int32)) + (((x0 - ((x0.toUInt32 >>> ((1 : Int32).toUInt32 &&& Int32.toUInt32 31)).toInt32 &&& (1431655765 : Int32))).toUInt32 >>> ((2 : Int32).toUInt32 &&& Int32.toUInt32 31)).toInt32 &&& (858993459 : Int32))).toUInt32 >>> ((4 : Int32).toUInt32 &&& Int32.toUInt32 31)).toInt32) &&& (252645135 : Int32)) + ((((((x0 - ((x0.toUInt32 >>> ((1 : Int32).toUInt32 &&& Int32.toUInt32 31)).toInt32 &&& (1431655765 : Int32))) &&& (858993459 : Int32)) + (((x0 - ((x0.toUInt32 >>> ((1 : Int32).toUInt32 &&& Int32.toUInt32 31)).toInt32 &&& (1431655765 : Int32))).toUInt32 >>> ((2 : Int32).toUInt32 &&& Int32.toUInt32 31)).toInt32 &&& (858993459 : Int32))) + ((((x0 - ((x0.toUInt32 >>> ((1 : Int32).toUInt32 &&& Int32.toUInt32 31)).toInt32 &&& (1431655765 : Int32))) &&& (858993459 : Int32)) + (((x0 - ((x0.toUInt32 >>> ((1 : Int32).toUInt32 &&& Int32.toUInt32 31)).toInt32 &&& (1431655765 : Int32))).toUInt32 >>> ((2 : Int32).toUInt32 &&& Int32.toUInt32 31)).toInt32 &&& (858993459 : Int32))).toUInt32 >>> ((4 : Int32).toUInt32 &&& Int32.toUInt32 31)).toInt32) &&& (252645135 : Int32)).toUInt32 >>> ((8 : Int32).toUInt32 &&& Int32.toUInt32 31)).toInt32) + (((((((x0 - ((x0.toUInt32 >>> ((1 : Int32).toUInt32 &&& Int32.toUInt32 31)).toInt32 &&& (1431655765 : Int32))) &&& (858993459 : Int32)) + (((x0 - ((x0.toUInt32 >>> ((1 : Int32).toUInt32 &&& Int32.toUInt32 31)).toInt32 &&& (1431655765 : Int32))).toUInt32 >>> ((2 : Int32).toUInt32 &&& Int32.toUInt32 31)).toInt32 &&& (858993459 : Int32))) + ((((x0 - ((x0.toUInt32 >>> ((1 : Int32).toUInt32 &&& Int32.toUInt32 31)).toInt32 &&& (1431655765 : Int32))) &&& (858993459 : Int32)) + (((x0 - ((x0.toUInt32 >>> ((1 : Int32).toUInt32 &&& Int32.toUInt32 31)).toInt32 &&& (1431655765 : Int32))).toUInt32 >>> ((2 : Int32).toUInt32 &&& Int32.toUInt32 31)).toInt32 &&& (858993459 : Int32))).toUInt32 >>> ((4 : Int32).toUInt32 &&& Int32.toUInt32 31)).toInt32) &&& (252645135 : Int32)) + ((((((x0 - ((x0.toUInt32 >>> ((1 : Int32).toUInt32 &&& Int32.toUInt32 31)).toInt32 &&& (1431655765 : Int32))) &&& (858993459 : Int32)) + (((x0 - ((x0.toUInt32 >>> ((1 : Int32).toUInt32 &&& Int32.toUInt32 31)).toInt32 &&& (1431655765 : Int32))).toUInt32 >>> ((2 : Int32).toUInt32 &&& Int32.toUInt32 31)).toInt32 &&& (858993459 : Int32))) + ((((x0 - ((x0.toUInt32 >>> ((1 : Int32).toUInt32 &&& Int32.toUInt32 31)).toInt32 &&& (1431655765 : Int32))) &&& (858993459 : Int32)) + (((x0 - ((x0.toUInt32 >>> ((1 : Int32).toUInt32 &&& Int32.toUInt32 31)).toInt32 &&& (1431655765 : Int32))).toUInt32 >>> ((2 : Int32).toUInt32 &&& Int32.toUInt32 31)).toInt32 &&& (858993459 : Int32))).toUInt32 >>> ((4 : Int32).toUInt32 &&& Int32.toUInt32 31)).toInt32) &&& (252645135 : Int32)).toUInt32 >>> ((8 : Int32).toUInt32 &&& Int32.toUInt32 31)).toInt32).toUInt32 >>> ((16 : Int32).toUInt32 &&& Int32.toUInt32 31)).toInt32) &&& (63 : Int32))
def vc_X5_hourAgo (S : Mem) (P : Nat) (i : Nat) (x1 : Int32) (Q : Mem → Int32 → Prop) : Prop :=
  (((S 5 P i 2) ≤ x1) →
  Q S (-999999 : Int32)) ∧ ((¬ ((S 5 P i 2) ≤ x1)) →
  vc_X6_entry S 6 P i 6 x1 (fun (S_2 : Mem) (r_3 : Int32) =>
  Q S_2 r_3))
def vc_X5_isAskedAndReadIn (S : Mem) (P : Nat) (i : Nat) (x1 : Int32) (Q : Mem → Int32 → Prop) : Prop :=
  vc_X5_isAsked S P i (fun (S_1 : Mem) (r_2 : Int32) =>
  ((r_2 = 0) →
  Q S_1 (0 : Int32)) ∧ ((¬ (r_2 = 0)) →
  vc_X5_hourAgo S_1 P i (0 : Int32) (fun (S_4 : Mem) (r_5 : Int32) =>
  ((¬ r_5 = x1) →
  Q S_4 (0 : Int32)) ∧ ((r_5 = x1) →
  Q S_4 (1 : Int32)))))
def vc_X3_middleWithout_J48 (Q : Mem → Int32 → Prop) (K0 : Mem → Int32 → Prop) (K1 : Mem → Prop) (P : Nat) (x1 : Int32) (S : Mem) (y2 : Int32) : Prop :=
  K0 S (y2 + (1 : Int32))
def vc_X3_middleWithout_L9 (Q : Mem → Int32 → Prop) (K : Mem → Prop) (P : Nat) (x1 : Int32) : Nat → Mem → Int32 → Prop
  | 0, _, _ => False
  | n9 + 1, S, y2 =>
  (((S 3 P 0 6) ≤ y2) →
  K S) ∧ ((¬ ((S 3 P 0 6) ≤ y2)) →
  ((y2 = x1) →
  vc_X3_middleWithout_J48 Q (vc_X3_middleWithout_L9 Q K P x1 n9) (K) P x1 S y2) ∧ ((¬ (y2 = x1)) →
  vc_X3_at S P y2 (fun (S_4 : Mem) (P_5 i_6 : Nat) =>
  (P_5 < 11 ∧ i_6 < 11) ∧
  vc_X5_isAsked S_4 P_5 i_6 (fun (S_8 : Mem) (r_9 : Int32) =>
  ((r_9 = 0) →
  vc_X3_middleWithout_J48 Q (vc_X3_middleWithout_L9 Q K P x1 n9) (K) P x1 S_8 y2) ∧ ((¬ (r_9 = 0)) →
  vc_X3_at S_8 P y2 (fun (S_11 : Mem) (P_12 i_13 : Nat) =>
  (P_12 < 11 ∧ i_13 < 11) ∧
  vc_X0_insert S_11 P (S_11 5 P_12 i_13 11) (fun (S_15 : Mem) =>
  vc_X3_middleWithout_J48 Q (vc_X3_middleWithout_L9 Q K P x1 n9) (K) P x1 S_15 y2)))))))
def vc_X3_middleWithout (S : Mem) (P : Nat) (x1 : Int32) (Q : Mem → Int32 → Prop) : Prop :=
  vc_X0_clear S P (fun (S_1 : Mem) =>
  ∃ n : Nat, vc_X3_middleWithout_L9 Q (fun (S_16 : Mem) =>
  vc_X0_middle S_16 P (fun (S_17 : Mem) (r_18 : Int32) =>
  Q S_17 r_18)) P x1 n S_1 (0 : Int32))
def vc_X5_compareWith (S : Mem) (P : Nat) (i : Nat) (x1 : Int32) (x2 : Int32) (Q : Mem → Prop) : Prop :=
  (((iabs ((S 5 P i 11) - x1)) ≤ x2) →
  ∀ S_2 : Mem, S_2 = uc S 5 P i (upd (S 5 P i) 8 (0 : Int32)) →
  Q S_2) ∧ ((¬ ((iabs ((S 5 P i 11) - x1)) ≤ x2)) →
  ∀ S_4 : Mem, S_4 = uc S 5 P i (upd (S 5 P i) 9 ((S 5 P i 9) + (1 : Int32))) →
  ∀ S_6 : Mem, S_6 = uc S_4 5 P i (upd (S_4 5 P i) 8 ((S_4 5 P i 8) + (1 : Int32))) →
  Q S_6)
def vc_X3_compareWithOthers (S : Mem) (P : Nat) (x1 : Int32) (Q : Mem → Prop) : Prop :=
  vc_X3_at S P x1 (fun (S_1 : Mem) (P_2 i_3 : Nat) =>
  (P_2 < 11 ∧ i_3 < 11) ∧
  vc_X3_at S_1 P x1 (fun (S_5 : Mem) (P_6 i_7 : Nat) =>
  vc_X3_middleWithout S_5 P x1 (fun (S_8 : Mem) (r_9 : Int32) =>
  (P_6 < 11 ∧ i_7 < 11) ∧
  vc_X5_compareWith S_8 P_6 i_7 r_9 (S_8 3 P 0 11) (fun (S_11 : Mem) =>
  vc_X3_at S_11 P x1 (fun (S_12 : Mem) (P_13 i_14 : Nat) =>
  (P_13 < 11 ∧ i_14 < 11) ∧
  ∀ S_16 : Mem, S_16 = uc S_12 3 P 0 (upd (S_12 3 P 0) 10 ((S_11 3 P 0 10) + ((S_12 5 P_13 i_14 9) - (S_1 5 P_2 i_3 9)))) →
  Q S_16)))))
def vc_X5_shutOutFrom (S : Mem) (P : Nat) (i : Nat) (x1 : Int32) (Q : Mem → Prop) : Prop :=
  (((S 5 P i 8) < x1) →
  Q S) ∧ ((¬ ((S 5 P i 8) < x1)) →
  ∀ S_2 : Mem, S_2 = uc S 5 P i (upd (S 5 P i) 10 (1 : Int32)) →
  Q S_2)
def vc_X3_lookForSpikes_J42 (Q : Mem → Prop) (K0 : Mem → Int32 → Prop) (K1 : Mem → Prop) (P : Nat) (S : Mem) (y1 : Int32) : Prop :=
  K0 S (y1 + (1 : Int32))
def vc_X3_lookForSpikes_L14 (Q : Mem → Prop) (K : Mem → Prop) (P : Nat) : Nat → Mem → Int32 → Prop
  | 0, _, _ => False
  | n14 + 1, S, y1 =>
  (((S 3 P 0 6) ≤ y1) →
  K S) ∧ ((¬ ((S 3 P 0 6) ≤ y1)) →
  vc_X3_at S P y1 (fun (S_7 : Mem) (P_8 i_9 : Nat) =>
  (P_8 < 11 ∧ i_9 < 11) ∧
  vc_X5_isAskedAndReadIn S_7 P_8 i_9 (S_7 3 P 0 7) (fun (S_11 : Mem) (r_12 : Int32) =>
  ((r_12 = 0) →
  vc_X3_lookForSpikes_J42 Q (vc_X3_lookForSpikes_L14 Q K P n14) (K) P S_11 y1) ∧ ((¬ (r_12 = 0)) →
  vc_X3_compareWithOthers S_11 P y1 (fun (S_14 : Mem) =>
  vc_X3_lookForSpikes_J42 Q (vc_X3_lookForSpikes_L14 Q K P n14) (K) P S_14 y1)))))
def vc_X3_lookForSpikes_J85 (Q : Mem → Prop) (K0 : Mem → Int32 → Prop) (K1 : Mem → Prop) (P : Nat) (S : Mem) (y1 : Int32) : Prop :=
  K0 S (y1 + (1 : Int32))
def vc_X3_lookForSpikes_L50 (Q : Mem → Prop) (K : Mem → Prop) (P : Nat) : Nat → Mem → Int32 → Prop
  | 0, _, _ => False
  | n50 + 1, S, y1 =>
  (((S 3 P 0 6) ≤ y1) →
  K S) ∧ ((¬ ((S 3 P 0 6) ≤ y1)) →
  vc_X3_at S P y1 (fun (S_17 : Mem) (P_18 i_19 : Nat) =>
  (P_18 < 11 ∧ i_19 < 11) ∧
  vc_X5_isAskedAndReadIn S_17 P_18 i_19 (S_17 3 P 0 7) (fun (S_21 : Mem) (r_22 : Int32) =>
  ((r_22 = 0) →
  vc_X3_lookForSpikes_J85 Q (vc_X3_lookForSpikes_L50 Q K P n50) (K) P S_21 y1) ∧ ((¬ (r_22 = 0)) →
  vc_X3_at S_21 P y1 (fun (S_24 : Mem) (P_25 i_26 : Nat) =>
  (P_25 < 11 ∧ i_26 < 11) ∧
  vc_X5_shutOutFrom S_24 P_25 i_26 (S_24 3 P 0 12) (fun (S_28 : Mem) =>
  vc_X3_lookForSpikes_J85 Q (vc_X3_lookForSpikes_L50 Q K P n50) (K) P S_28 y1))))))
def vc_X3_lookForSpikes (S : Mem) (P : Nat) (Q : Mem → Prop) : Prop :=
  vc_X3_maskOfAsked S P (fun (S_1 : Mem) (r_2 : Int32) =>
  vc_J6_bitCount_0f7a4 S_1 r_2 (fun (S_3 : Mem) (r_4 : Int32) =>
  (((2 : Int32) ≤ r_4) →
  ∃ n : Nat, vc_X3_lookForSpikes_L14 Q (fun (S_15 : Mem) =>
  ∃ n : Nat, vc_X3_lookForSpikes_L50 Q (fun (S_29 : Mem) =>
  Q S_29) P n S_15 (0 : Int32)) P n S_3 (0 : Int32)) ∧ ((¬ ((2 : Int32) ≤ r_4)) →
  Q S_3)))
def vc_X3_passHour_L25 (Q : Mem → Int32 → Prop) (K : Mem → Prop) (P : Nat) (x1 : Int32) : Nat → Mem → Int32 → Prop
  | 0, _, _ => False
  | n25 + 1, S, y2 =>
  (((S 3 P 0 6) ≤ y2) →
  K S) ∧ ((¬ ((S 3 P 0 6) ≤ y2)) →
  vc_X3_at S P y2 (fun (S_10 : Mem) (P_11 i_12 : Nat) =>
  (P_11 < 11 ∧ i_12 < 11) ∧
  vc_X5_follow S_10 P_11 i_12 (S_10 3 P 0 8) (fun (S_14 : Mem) =>
  vc_X3_passHour_L25 Q K P x1 n25 S_14 (y2 + (1 : Int32)))))
def vc_X3_passHour (S : Mem) (P : Nat) (x1 : Int32) (Q : Mem → Int32 → Prop) : Prop :=
  vc_X3_mean S P (fun (S_1 : Mem) (r_2 : Int32) =>
  ∀ S_3 : Mem, S_3 = uc S_1 3 P 0 (upd (S_1 3 P 0) 5 r_2) →
  ∀ S_5 : Mem, S_5 = uc S_3 3 P 0 (upd (S_3 3 P 0) 7 ((S_3 3 P 0 7) + (1 : Int32))) →
  ∀ S_7 : Mem, S_7 = uc S_5 3 P 0 (upd (S_5 3 P 0) 8 x1) →
  ∃ n : Nat, vc_X3_passHour_L25 Q (fun (S_15 : Mem) =>
  vc_X3_readRows S_15 P (fun (S_16 : Mem) =>
  (((S_16 3 P 0 9) ≤ (S_15 3 P 0 9)) →
  Q S_16 ((S_16 3 P 0 9) - (S_15 3 P 0 9))) ∧ ((¬ ((S_16 3 P 0 9) ≤ (S_15 3 P 0 9))) →
  vc_X3_lookForSpikes S_16 P (fun (S_18 : Mem) =>
  Q S_18 ((S_18 3 P 0 9) - (S_15 3 P 0 9)))))) P x1 n S_7 (0 : Int32))
def vc_X3_passHours_L2 (Q : Mem → Prop) (K : Mem → Prop) (P : Nat) (x1 : Int32) (x2 : Int32) : Nat → Mem → Int32 → Prop
  | 0, _, _ => False
  | n2 + 1, S, y3 =>
  ((x1 ≤ y3) →
  K S) ∧ ((¬ (x1 ≤ y3)) →
  vc_X3_passHour S P (imax (-5000 : Int32) (imin (5000 : Int32) ((S 3 P 0 8) + x2))) (fun (S_2 : Mem) (r_3 : Int32) =>
  vc_X3_passHours_L2 Q K P x1 x2 n2 S_2 (y3 + (1 : Int32))))
def vc_X3_passHours (S : Mem) (P : Nat) (x1 : Int32) (x2 : Int32) (Q : Mem → Prop) : Prop :=
  ∃ n : Nat, vc_X3_passHours_L2 Q (fun (S_4 : Mem) =>
  Q S_4) P x1 x2 n S (0 : Int32)
def vc_X3_maskOfShutOut_J29 (Q : Mem → Int32 → Prop) (K0 : Mem → Int32 → Int32 → Prop) (K1 : Mem → Int32 → Prop) (P : Nat) (S : Mem) (y1 : Int32) (y2 : Int32) : Prop :=
  K0 S y1 (y2 + (1 : Int32))
def vc_X3_maskOfShutOut_L4 (Q : Mem → Int32 → Prop) (K : Mem → Int32 → Prop) (P : Nat) : Nat → Mem → Int32 → Int32 → Prop
  | 0, _, _, _ => False
  | n4 + 1, S, y1, y2 =>
  (((S 3 P 0 6) ≤ y2) →
  K S y1) ∧ ((¬ ((S 3 P 0 6) ≤ y2)) →
  vc_X3_at S P y2 (fun (S_2 : Mem) (P_3 i_4 : Nat) =>
  (P_3 < 11 ∧ i_4 < 11) ∧
  (((S_2 5 P_3 i_4 10) = 0) →
  vc_X3_maskOfShutOut_J29 Q (vc_X3_maskOfShutOut_L4 Q K P n4) (K) P S_2 y1 y2) ∧ ((¬ ((S_2 5 P_3 i_4 10) = 0)) →
  vc_X3_maskOfShutOut_J29 Q (vc_X3_maskOfShutOut_L4 Q K P n4) (K) P S_2 (y1 ||| ((1 : Int32) <<< (y2 &&& 31))) y2)))
def vc_X3_maskOfShutOut (S : Mem) (P : Nat) (Q : Mem → Int32 → Prop) : Prop :=
  ∃ n : Nat, vc_X3_maskOfShutOut_L4 Q (fun (S_7 : Mem) (y1_8 : Int32) =>
  Q S_7 y1_8) P n S (0 : Int32) (0 : Int32)
def vc_X3_slope (S : Mem) (P : Nat) (Q : Mem → Int32 → Prop) : Prop :=
  vc_X3_mean S P (fun (S_1 : Mem) (r_2 : Int32) =>
  ((r_2 = (-999999 : Int32)) →
  Q S_1 (-999999 : Int32)) ∧ ((¬ (r_2 = (-999999 : Int32))) →
  ((¬ (S_1 3 P 0 5) = (-999999 : Int32)) →
  Q S_1 (r_2 - (S_1 3 P 0 5))) ∧ (((S_1 3 P 0 5) = (-999999 : Int32)) →
  Q S_1 (-999999 : Int32))))
def vc_X5_hasMended (S : Mem) (P : Nat) (i : Nat) (Q : Mem → Int32 → Prop) : Prop :=
  (((S 5 P i 2) ≤ 0) →
  Q S (0 : Int32)) ∧ ((¬ ((S 5 P i 2) ≤ 0)) →
  Q S (1 : Int32))
def vc_X5_error (S : Mem) (P : Nat) (i : Nat) (x1 : Int32) (Q : Mem → Int32 → Prop) : Prop :=
  Q S (iabs ((S 5 P i 11) - x1))
def vc_X3_sortKey (S : Mem) (P : Nat) (x1 : Int32) (x2 : Int32) (Q : Mem → Int32 → Prop) : Prop :=
  ((¬ x2 = (1 : Int32)) →
  vc_X3_at S P x1 (fun (S_2 : Mem) (P_3 i_4 : Nat) =>
  (P_3 < 11 ∧ i_4 < 11) ∧
  Q S_2 (S_2 5 P_3 i_4 11))) ∧ ((x2 = (1 : Int32)) →
  vc_X3_at S P x1 (fun (S_6 : Mem) (P_7 i_8 : Nat) =>
  (P_7 < 11 ∧ i_8 < 11) ∧
  vc_X5_error S_6 P_7 i_8 (S_6 3 P 0 8) (fun (S_10 : Mem) (r_11 : Int32) =>
  Q S_10 (-r_11))))
def vc_X3_countAheadOf_J64 (Q : Mem → Int32 → Prop) (K0 : Mem → Int32 → Int32 → Int32 → Prop) (K1 : Mem → Int32 → Prop) (P : Nat) (x1 : Int32) (x2 : Int32) (S : Mem) (y3 : Int32) (y4 : Int32) (y5 : Int32) : Prop :=
  K0 S y3 y4 (y5 + (1 : Int32))
def vc_X3_countAheadOf_J61 (Q : Mem → Int32 → Prop) (K0 : Mem → Int32 → Int32 → Int32 → Prop) (K1 : Mem → Int32 → Prop) (P : Nat) (x1 : Int32) (x2 : Int32) (S : Mem) (y3 : Int32) (y4 : Int32) (y5 : Int32) : Prop :=
  vc_X3_countAheadOf_J64 Q (K0) (K1) P x1 x2 S y3 (y4 + (1 : Int32)) y5
def vc_X3_countAheadOf_L13 (Q : Mem → Int32 → Prop) (K : Mem → Int32 → Prop) (P : Nat) (x1 : Int32) (x2 : Int32) : Nat → Mem → Int32 → Int32 → Int32 → Prop
  | 0, _, _, _, _ => False
  | n13 + 1, S, y3, y4, y5 =>
  (((S 3 P 0 6) ≤ y5) →
  K S y4) ∧ ((¬ ((S 3 P 0 6) ≤ y5)) →
  vc_X3_sortKey S P y5 x2 (fun (S_4 : Mem) (r_5 : Int32) =>
  vc_X3_at S_4 P y5 (fun (S_6 : Mem) (P_7 i_8 : Nat) =>
  (P_7 < 11 ∧ i_8 < 11) ∧
  vc_X5_hasMended S_6 P_7 i_8 (fun (S_10 : Mem) (r_11 : Int32) =>
  ((r_11 = 0) →
  vc_X3_countAheadOf_J64 Q (vc_X3_countAheadOf_L13 Q K P x1 x2 n13) (K) P x1 x2 S_10 y3 y4 y5) ∧ ((¬ (r_11 = 0)) →
  ((r_5 < y3) →
  vc_X3_countAheadOf_J61 Q (vc_X3_countAheadOf_L13 Q K P x1 x2 n13) (K) P x1 x2 S_10 y3 y4 y5) ∧ ((¬ (r_5 < y3)) →
  ((¬ r_5 = y3) →
  vc_X3_countAheadOf_J64 Q (vc_X3_countAheadOf_L13 Q K P x1 x2 n13) (K) P x1 x2 S_10 y3 y4 y5) ∧ ((r_5 = y3) →
  ((x1 ≤ y5) →
  vc_X3_countAheadOf_J64 Q (vc_X3_countAheadOf_L13 Q K P x1 x2 n13) (K) P x1 x2 S_10 y3 y4 y5) ∧ ((¬ (x1 ≤ y5)) →
  vc_X3_countAheadOf_J61 Q (vc_X3_countAheadOf_L13 Q K P x1 x2 n13) (K) P x1 x2 S_10 y3 y4 y5))))))))
def vc_X3_countAheadOf (S : Mem) (P : Nat) (x1 : Int32) (x2 : Int32) (Q : Mem → Int32 → Prop) : Prop :=
  vc_X3_sortKey S P x1 x2 (fun (S_1 : Mem) (r_2 : Int32) =>
  ∃ n : Nat, vc_X3_countAheadOf_L13 Q (fun (S_16 : Mem) (y4_17 : Int32) =>
  Q S_16 y4_17) P x1 x2 n S_1 r_2 (0 : Int32) (0 : Int32))
def vc_X3_atRank_J33 (Q : Mem → Int32 → Prop) (K0 : Mem → Int32 → Prop) (K1 : Mem → Prop) (P : Nat) (x1 : Int32) (x2 : Int32) (S : Mem) (y3 : Int32) : Prop :=
  K0 S (y3 + (1 : Int32))
def vc_X3_atRank_L2 (Q : Mem → Int32 → Prop) (K : Mem → Prop) (P : Nat) (x1 : Int32) (x2 : Int32) : Nat → Mem → Int32 → Prop
  | 0, _, _ => False
  | n2 + 1, S, y3 =>
  (((S 3 P 0 6) ≤ y3) →
  K S) ∧ ((¬ ((S 3 P 0 6) ≤ y3)) →
  vc_X3_at S P y3 (fun (S_2 : Mem) (P_3 i_4 : Nat) =>
  (P_3 < 11 ∧ i_4 < 11) ∧
  vc_X5_hasMended S_2 P_3 i_4 (fun (S_6 : Mem) (r_7 : Int32) =>
  ((r_7 = 0) →
  vc_X3_atRank_J33 Q (vc_X3_atRank_L2 Q K P x1 x2 n2) (K) P x1 x2 S_6 y3) ∧ ((¬ (r_7 = 0)) →
  vc_X3_countAheadOf S_6 P y3 x1 (fun (S_9 : Mem) (r_10 : Int32) =>
  ((¬ r_10 = x2) →
  vc_X3_atRank_J33 Q (vc_X3_atRank_L2 Q K P x1 x2 n2) (K) P x1 x2 S_9 y3) ∧ ((r_10 = x2) →
  Q S_9 y3))))))
def vc_X3_atRank (S : Mem) (P : Nat) (x1 : Int32) (x2 : Int32) (Q : Mem → Int32 → Prop) : Prop :=
  ∃ n : Nat, vc_X3_atRank_L2 Q (fun (S_12 : Mem) =>
  Q S_12 (-999999 : Int32)) P x1 x2 n S (0 : Int32)
def vc_X3_countMended_J26 (Q : Mem → Int32 → Prop) (K0 : Mem → Int32 → Int32 → Prop) (K1 : Mem → Int32 → Prop) (P : Nat) (S : Mem) (y1 : Int32) (y2 : Int32) : Prop :=
  K0 S y1 (y2 + (1 : Int32))
def vc_X3_countMended_L4 (Q : Mem → Int32 → Prop) (K : Mem → Int32 → Prop) (P : Nat) : Nat → Mem → Int32 → Int32 → Prop
  | 0, _, _, _ => False
  | n4 + 1, S, y1, y2 =>
  (((S 3 P 0 6) ≤ y2) →
  K S y1) ∧ ((¬ ((S 3 P 0 6) ≤ y2)) →
  vc_X3_at S P y2 (fun (S_2 : Mem) (P_3 i_4 : Nat) =>
  (P_3 < 11 ∧ i_4 < 11) ∧
  vc_X5_hasMended S_2 P_3 i_4 (fun (S_6 : Mem) (r_7 : Int32) =>
  ((r_7 = 0) →
  vc_X3_countMended_J26 Q (vc_X3_countMended_L4 Q K P n4) (K) P S_6 y1 y2) ∧ ((¬ (r_7 = 0)) →
  vc_X3_countMended_J26 Q (vc_X3_countMended_L4 Q K P n4) (K) P S_6 (y1 + (1 : Int32)) y2))))
def vc_X3_countMended (S : Mem) (P : Nat) (Q : Mem → Int32 → Prop) : Prop :=
  ∃ n : Nat, vc_X3_countMended_L4 Q (fun (S_9 : Mem) (y1_10 : Int32) =>
  Q S_9 y1_10) P n S (0 : Int32) (0 : Int32)
def vc_X3_countMendedIn_J55 (Q : Mem → Int32 → Prop) (K0 : Mem → Int32 → Int32 → Prop) (K1 : Mem → Int32 → Prop) (P : Nat) (x1 : Int32) (x2 : Int32) (S : Mem) (y3 : Int32) (y4 : Int32) : Prop :=
  K0 S y3 (y4 + (1 : Int32))
def vc_X3_countMendedIn_L5 (Q : Mem → Int32 → Prop) (K : Mem → Int32 → Prop) (P : Nat) (x1 : Int32) (x2 : Int32) : Nat → Mem → Int32 → Int32 → Prop
  | 0, _, _, _ => False
  | n5 + 1, S, y3, y4 =>
  (((S 3 P 0 6) ≤ y4) →
  K S y3) ∧ ((¬ ((S 3 P 0 6) ≤ y4)) →
  vc_X3_at S P y4 (fun (S_2 : Mem) (P_3 i_4 : Nat) =>
  (P_3 < 11 ∧ i_4 < 11) ∧
  vc_X5_hasMended S_2 P_3 i_4 (fun (S_6 : Mem) (r_7 : Int32) =>
  ((r_7 = 0) →
  vc_X3_countMendedIn_J55 Q (vc_X3_countMendedIn_L5 Q K P x1 x2 n5) (K) P x1 x2 S_6 y3 y4) ∧ ((¬ (r_7 = 0)) →
  vc_X3_at S_6 P y4 (fun (S_9 : Mem) (P_10 i_11 : Nat) =>
  (P_10 < 11 ∧ i_11 < 11) ∧
  (((S_9 5 P_10 i_11 11) < x1) →
  vc_X3_countMendedIn_J55 Q (vc_X3_countMendedIn_L5 Q K P x1 x2 n5) (K) P x1 x2 S_9 y3 y4) ∧ ((¬ ((S_9 5 P_10 i_11 11) < x1)) →
  vc_X3_at S_9 P y4 (fun (S_14 : Mem) (P_15 i_16 : Nat) =>
  (P_15 < 11 ∧ i_16 < 11) ∧
  ((x2 < (S_14 5 P_15 i_16 11)) →
  vc_X3_countMendedIn_J55 Q (vc_X3_countMendedIn_L5 Q K P x1 x2 n5) (K) P x1 x2 S_14 y3 y4) ∧ ((¬ (x2 < (S_14 5 P_15 i_16 11))) →
  vc_X3_countMendedIn_J55 Q (vc_X3_countMendedIn_L5 Q K P x1 x2 n5) (K) P x1 x2 S_14 (y3 + (1 : Int32)) y4))))))))
def vc_X3_countMendedIn (S : Mem) (P : Nat) (x1 : Int32) (x2 : Int32) (Q : Mem → Int32 → Prop) : Prop :=
  ∃ n : Nat, vc_X3_countMendedIn_L5 Q (fun (S_19 : Mem) (y3_20 : Int32) =>
  Q S_19 y3_20) P x1 x2 n S (0 : Int32) (0 : Int32)
def vc_X3_sumOfErrors_J38 (Q : Mem → Int32 → Prop) (K0 : Mem → Int32 → Int32 → Prop) (K1 : Mem → Int32 → Prop) (P : Nat) (S : Mem) (y1 : Int32) (y2 : Int32) : Prop :=
  K0 S y1 (y2 + (1 : Int32))
def vc_X3_sumOfErrors_L4 (Q : Mem → Int32 → Prop) (K : Mem → Int32 → Prop) (P : Nat) : Nat → Mem → Int32 → Int32 → Prop
  | 0, _, _, _ => False
  | n4 + 1, S, y1, y2 =>
  (((S 3 P 0 6) ≤ y2) →
  K S y1) ∧ ((¬ ((S 3 P 0 6) ≤ y2)) →
  vc_X3_at S P y2 (fun (S_2 : Mem) (P_3 i_4 : Nat) =>
  (P_3 < 11 ∧ i_4 < 11) ∧
  vc_X5_hasMended S_2 P_3 i_4 (fun (S_6 : Mem) (r_7 : Int32) =>
  ((r_7 = 0) →
  vc_X3_sumOfErrors_J38 Q (vc_X3_sumOfErrors_L4 Q K P n4) (K) P S_6 y1 y2) ∧ ((¬ (r_7 = 0)) →
  vc_X3_at S_6 P y2 (fun (S_9 : Mem) (P_10 i_11 : Nat) =>
  (P_10 < 11 ∧ i_11 < 11) ∧
  vc_X5_error S_9 P_10 i_11 (S_9 3 P 0 8) (fun (S_13 : Mem) (r_14 : Int32) =>
  vc_X3_sumOfErrors_J38 Q (vc_X3_sumOfErrors_L4 Q K P n4) (K) P S_13 (y1 + r_14) y2))))))
def vc_X3_sumOfErrors (S : Mem) (P : Nat) (Q : Mem → Int32 → Prop) : Prop :=
  ∃ n : Nat, vc_X3_sumOfErrors_L4 Q (fun (S_15 : Mem) (y1_16 : Int32) =>
  Q S_15 y1_16) P n S (0 : Int32) (0 : Int32)
def vc_X5_distance (S : Mem) (P : Nat) (i : Nat) (x1 : Int32) (Q : Mem → Int32 → Prop) : Prop :=
  Q S (iabs (((S 5 P i 7) - (S 5 P i 4)) - x1))
def vc_X3_greatestDistance_L4 (Q : Mem → Int32 → Prop) (K : Mem → Int32 → Prop) (P : Nat) : Nat → Mem → Int32 → Int32 → Prop
  | 0, _, _, _ => False
  | n4 + 1, S, y1, y2 =>
  (((S 3 P 0 6) ≤ y2) →
  K S y1) ∧ ((¬ ((S 3 P 0 6) ≤ y2)) →
  vc_X3_at S P y2 (fun (S_2 : Mem) (P_3 i_4 : Nat) =>
  (P_3 < 11 ∧ i_4 < 11) ∧
  vc_X5_distance S_2 P_3 i_4 (S_2 3 P 0 8) (fun (S_6 : Mem) (r_7 : Int32) =>
  vc_X3_greatestDistance_L4 Q K P n4 S_6 (imax y1 r_7) (y2 + (1 : Int32)))))
def vc_X3_greatestDistance (S : Mem) (P : Nat) (Q : Mem → Int32 → Prop) : Prop :=
  ∃ n : Nat, vc_X3_greatestDistance_L4 Q (fun (S_8 : Mem) (y1_9 : Int32) =>
  Q S_8 y1_9) P n S (0 : Int32) (0 : Int32)
def vc_X5_hoursUntilStill_L7 (Q : Mem → Int32 → Prop) (K : Mem → Prop) (P : Nat) (i : Nat) (x1 : Int32) : Nat → Mem → Int32 → Int32 → Prop
  | 0, _, _, _ => False
  | n7 + 1, S, y2, y3 =>
  (((100000 : Int32) ≤ y3) →
  K S) ∧ ((¬ ((100000 : Int32) ≤ y3)) →
  vc_X5_stepFrom S P i y2 x1 (fun (S_2 : Mem) (r_3 : Int32) =>
  ((¬ r_3 = 0) →
  vc_X5_hoursUntilStill_L7 Q K P i x1 n7 S_2 (y2 + r_3) (y3 + (1 : Int32))) ∧ ((r_3 = 0) →
  Q S_2 y3)))
def vc_X5_hoursUntilStill (S : Mem) (P : Nat) (i : Nat) (x1 : Int32) (Q : Mem → Int32 → Prop) : Prop :=
  ∃ n : Nat, vc_X5_hoursUntilStill_L7 Q (fun (S_5 : Mem) =>
  Q S_5 (100000 : Int32)) P i x1 n S (S 5 P i 7) (0 : Int32)
def vc_X5_valueAgo (S : Mem) (P : Nat) (i : Nat) (x1 : Int32) (Q : Mem → Int32 → Prop) : Prop :=
  (((S 5 P i 2) ≤ x1) →
  Q S (-999999 : Int32)) ∧ ((¬ ((S 5 P i 2) ≤ x1)) →
  vc_X6_entry S 7 P i 6 x1 (fun (S_2 : Mem) (r_3 : Int32) =>
  Q S_2 r_3))
def vc_X5_lagNearestTo_J58 (Q : Mem → Int32 → Prop) (K0 : Mem → Int32 → Int32 → Int32 → Prop) (K1 : Mem → Int32 → Prop) (P : Nat) (i : Nat) (x1 : Int32) (S : Mem) (y2 : Int32) (y3 : Int32) (y4 : Int32) : Prop :=
  K0 S y2 y3 (y4 + (1 : Int32))
def vc_X5_lagNearestTo_L26 (Q : Mem → Int32 → Prop) (K : Mem → Int32 → Prop) (P : Nat) (i : Nat) (x1 : Int32) : Nat → Mem → Int32 → Int32 → Int32 → Prop
  | 0, _, _, _, _ => False
  | n26 + 1, S, y2, y3, y4 =>
  (((9 : Int32) < y4) →
  K S y2) ∧ ((¬ ((9 : Int32) < y4)) →
  vc_X5_mendedWith S P i y4 (fun (S_7 : Mem) (r_8 : Int32) =>
  ((y3 ≤ (iabs (r_8 - x1))) →
  vc_X5_lagNearestTo_J58 Q (vc_X5_lagNearestTo_L26 Q K P i x1 n26) (K) P i x1 S_7 y2 y3 y4) ∧ ((¬ (y3 ≤ (iabs (r_8 - x1)))) →
  vc_X5_lagNearestTo_J58 Q (vc_X5_lagNearestTo_L26 Q K P i x1 n26) (K) P i x1 S_7 y4 (iabs (r_8 - x1)) y4)))
def vc_X5_lagNearestTo (S : Mem) (P : Nat) (i : Nat) (x1 : Int32) (Q : Mem → Int32 → Prop) : Prop :=
  vc_X5_hasMended S P i (fun (S_1 : Mem) (r_2 : Int32) =>
  ((¬ r_2 = 0) →
  vc_X5_mendedWith S_1 P i (1 : Int32) (fun (S_4 : Mem) (r_5 : Int32) =>
  ∃ n : Nat, vc_X5_lagNearestTo_L26 Q (fun (S_10 : Mem) (y2_11 : Int32) =>
  Q S_10 y2_11) P i x1 n S_4 (1 : Int32) (iabs (r_5 - x1)) (2 : Int32))) ∧ ((r_2 = 0) →
  Q S_1 (-999999 : Int32)))
def vc_X5_numberOf (S : Mem) (P : Nat) (i : Nat) (x1 : Int32) (Q : Mem → Int32 → Prop) : Prop :=
  ((x1 = (0 : Int32)) →
  Q S (S 5 P i 5)) ∧ ((¬ x1 = (0 : Int32)) →
  ((x1 = (1 : Int32)) →
  Q S (S 5 P i 3)) ∧ ((¬ x1 = (1 : Int32)) →
  ((x1 = (2 : Int32)) →
  Q S (S 5 P i 4)) ∧ ((¬ x1 = (2 : Int32)) →
  ((x1 = (3 : Int32)) →
  Q S (S 5 P i 6)) ∧ ((¬ x1 = (3 : Int32)) →
  ((x1 = (4 : Int32)) →
  Q S (S 5 P i 7)) ∧ ((¬ x1 = (4 : Int32)) →
  ((x1 = (5 : Int32)) →
  Q S (S 5 P i 8)) ∧ ((¬ x1 = (5 : Int32)) →
  ((x1 = (6 : Int32)) →
  (((S 5 P i 10) = 0) →
  Q S (0 : Int32)) ∧ ((¬ ((S 5 P i 10) = 0)) →
  Q S (1 : Int32))) ∧ ((¬ x1 = (6 : Int32)) →
  ((x1 = (7 : Int32)) →
  Q S (S 5 P i 2)) ∧ ((¬ x1 = (7 : Int32)) →
  ((x1 = (8 : Int32)) →
  Q S (S 5 P i 9)) ∧ ((¬ x1 = (8 : Int32)) →
  Q S (S 5 P i 11))))))))))
def vc_X6_checkRow (S : Mem) (x0 : Int32) (Q : Mem → Prop) : Prop :=
  ((x0 < 0) →
  False) ∧ ((¬ (x0 < 0)) →
  ((x0 < (4 : Int32)) →
  Q S) ∧ ((¬ (x0 < (4 : Int32))) →
  False))
def vc_X6_checkRange (S : Mem) (x0 : Int32) (x1 : Int32) (x2 : Int32) (Q : Mem → Prop) : Prop :=
  ((x0 < x1) →
  False) ∧ ((¬ (x0 < x1)) →
  ((x0 ≤ x2) →
  Q S) ∧ ((¬ (x0 ≤ x2)) →
  False))
def vc_X6_thermometer (S : Mem) (x1 : Int32) (x2 : Int32) (x3 : Int32) (x4 : Int32) (Q : Mem → Int32 → Prop) : Prop :=
  vc_X6_checkRow S x1 (fun (S_1 : Mem) =>
  vc_X6_checkRange S_1 x2 (1 : Int32) (9 : Int32) (fun (S_2 : Mem) =>
  vc_X6_checkRange S_2 x3 (-200 : Int32) (200 : Int32) (fun (S_3 : Mem) =>
  vc_X6_checkRange S_3 x4 (1 : Int32) (5 : Int32) (fun (S_4 : Mem) =>
  vc_X3_hasRoom S_4 0 (fun (S_5 : Mem) (r_6 : Int32) =>
  ((¬ r_6 = 0) →
  vc_X1_save S_5 0 (fun (S_8 : Mem) =>
  vc_X3_add S_8 0 x1 x2 x3 x4 (fun (S_9 : Mem) (r_10 : Int32) =>
  Q S_9 r_10))) ∧ ((r_6 = 0) →
  False))))))
def vc_X6_checkHoursLeft (S : Mem) (x1 : Int32) (Q : Mem → Prop) : Prop :=
  vc_X3_hasHoursLeft S 0 x1 (fun (S_1 : Mem) (r_2 : Int32) =>
  ((¬ r_2 = 0) →
  Q S_1) ∧ ((r_2 = 0) →
  False))
def vc_X6_hour (S : Mem) (x1 : Int32) (Q : Mem → Int32 → Prop) : Prop :=
  vc_X6_checkRange S x1 (-5000 : Int32) (5000 : Int32) (fun (S_1 : Mem) =>
  vc_X6_checkHoursLeft S_1 (1 : Int32) (fun (S_2 : Mem) =>
  vc_X1_save S_2 0 (fun (S_3 : Mem) =>
  vc_X3_passHour S_3 0 x1 (fun (S_4 : Mem) (r_5 : Int32) =>
  Q S_4 r_5))))
def vc_X6_hours (S : Mem) (x1 : Int32) (x2 : Int32) (Q : Mem → Int32 → Prop) : Prop :=
  vc_X6_checkRange S x1 (1 : Int32) (24 : Int32) (fun (S_1 : Mem) =>
  vc_X6_checkRange S_1 x2 (-500 : Int32) (500 : Int32) (fun (S_2 : Mem) =>
  vc_X6_checkHoursLeft S_2 x1 (fun (S_3 : Mem) =>
  vc_X1_save S_3 0 (fun (S_4 : Mem) =>
  vc_X3_passHours S_4 0 x1 x2 (fun (S_5 : Mem) =>
  Q S_5 (S_5 3 0 0 8))))))
def vc_X6_period (S : Mem) (x1 : Int32) (x2 : Int32) (Q : Mem → Int32 → Prop) : Prop :=
  vc_X6_checkRow S x1 (fun (S_1 : Mem) =>
  vc_X6_checkRange S_1 x2 (1 : Int32) (6 : Int32) (fun (S_2 : Mem) =>
  vc_X1_save S_2 0 (fun (S_3 : Mem) =>
  vc_X3_periodOf S_3 0 x1 (fun (S_4 : Mem) (r_5 : Int32) =>
  vc_X3_changePeriod S_4 0 x1 x2 (fun (S_6 : Mem) =>
  Q S_6 r_5)))))
def vc_X6_checkThermometer (S : Mem) (x1 : Int32) (Q : Mem → Prop) : Prop :=
  vc_X3_has S 0 x1 (fun (S_1 : Mem) (r_2 : Int32) =>
  ((¬ r_2 = 0) →
  Q S_1) ∧ ((r_2 = 0) →
  False))
def vc_X6_calibrate (S : Mem) (x1 : Int32) (Q : Mem → Int32 → Prop) : Prop :=
  vc_X6_checkThermometer S x1 (fun (S_1 : Mem) =>
  vc_X1_save S_1 0 (fun (S_2 : Mem) =>
  vc_X3_at S_2 0 x1 (fun (S_3 : Mem) (P_4 i_5 : Nat) =>
  (P_4 < 11 ∧ i_5 < 11) ∧
  vc_X3_at S_3 0 x1 (fun (S_7 : Mem) (P_8 i_9 : Nat) =>
  (P_8 < 11 ∧ i_9 < 11) ∧
  vc_X5_startAfresh S_7 P_8 i_9 (S_7 3 0 0 8) (fun (S_11 : Mem) =>
  Q S_11 (S_3 5 P_4 i_5 8))))))
def vc_X6_knock (S : Mem) (x1 : Int32) (x2 : Int32) (Q : Mem → Int32 → Prop) : Prop :=
  vc_X6_checkThermometer S x1 (fun (S_1 : Mem) =>
  vc_X6_checkRange S_1 x2 (-3000 : Int32) (3000 : Int32) (fun (S_2 : Mem) =>
  vc_X3_at S_2 0 x1 (fun (S_3 : Mem) (P_4 i_5 : Nat) =>
  (P_4 < 11 ∧ i_5 < 11) ∧
  ((((S_3 5 P_4 i_5 7) + x2) < (-20000 : Int32)) →
  False) ∧ ((¬ (((S_3 5 P_4 i_5 7) + x2) < (-20000 : Int32))) →
  ((((S_3 5 P_4 i_5 7) + x2) ≤ (20000 : Int32)) →
  vc_X1_save S_3 0 (fun (S_9 : Mem) =>
  vc_X3_at S_9 0 x1 (fun (S_10 : Mem) (P_11 i_12 : Nat) =>
  (P_11 < 11 ∧ i_12 < 11) ∧
  ∀ S_14 : Mem, S_14 = uc S_10 5 P_11 i_12 (upd (S_10 5 P_11 i_12) 7 ((S_3 5 P_4 i_5 7) + x2)) →
  Q S_14 (((S_3 5 P_4 i_5 7) + x2) + (100000 : Int32))))) ∧ ((¬ (((S_3 5 P_4 i_5 7) + x2) ≤ (20000 : Int32))) →
  False)))))
def vc_X6_set_J76 (Q : Mem → Int32 → Prop) (x1 : Int32) (x2 : Int32) (S : Mem) (w0 : Int32) : Prop :=
  ((¬ x1 = 0) →
  ∀ S_8 : Mem, S_8 = uc S 3 0 0 (upd (S 3 0 0) 12 x2) →
  Q S_8 w0) ∧ ((x1 = 0) →
  ∀ S_10 : Mem, S_10 = uc S 3 0 0 (upd (S 3 0 0) 11 x2) →
  Q S_10 w0)
def vc_X6_set_J41 (Q : Mem → Int32 → Prop) (x1 : Int32) (x2 : Int32) (S : Mem) (w0 : Int32) (w1 : Int32) (w2 : Int32) : Prop :=
  vc_X6_checkRange S w0 w1 w2 (fun (S_4 : Mem) =>
  vc_X1_save S_4 0 (fun (S_5 : Mem) =>
  ((¬ x1 = 0) →
  vc_X6_set_J76 Q x1 x2 S_5 (S_5 3 0 0 12)) ∧ ((x1 = 0) →
  vc_X6_set_J76 Q x1 x2 S_5 (S_5 3 0 0 11))))
def vc_X6_set_J30 (Q : Mem → Int32 → Prop) (x1 : Int32) (x2 : Int32) (S : Mem) (w0 : Int32) (w1 : Int32) : Prop :=
  ((¬ x1 = 0) →
  vc_X6_set_J41 Q x1 x2 S w0 w1 (5 : Int32)) ∧ ((x1 = 0) →
  vc_X6_set_J41 Q x1 x2 S w0 w1 (2000 : Int32))
def vc_X6_set_J19 (Q : Mem → Int32 → Prop) (x1 : Int32) (x2 : Int32) (S : Mem) : Prop :=
  ((¬ x1 = 0) →
  vc_X6_set_J30 Q x1 x2 S x2 (1 : Int32)) ∧ ((x1 = 0) →
  vc_X6_set_J30 Q x1 x2 S x2 (10 : Int32))
def vc_X6_set (S : Mem) (x1 : Int32) (x2 : Int32) (Q : Mem → Int32 → Prop) : Prop :=
  ((x1 = 0) →
  vc_X6_set_J19 Q x1 x2 S) ∧ ((¬ (x1 = 0)) →
  ((x1 = (1 : Int32)) →
  vc_X6_set_J19 Q x1 x2 S) ∧ ((¬ (x1 = (1 : Int32))) →
  False))
def vc_X6_ofThermometer (S : Mem) (x1 : Int32) (x2 : Int32) (Q : Mem → Int32 → Prop) : Prop :=
  vc_X6_checkThermometer S x1 (fun (S_1 : Mem) =>
  vc_X6_checkRange S_1 x2 (0 : Int32) (9 : Int32) (fun (S_2 : Mem) =>
  vc_X3_at S_2 0 x1 (fun (S_3 : Mem) (P_4 i_5 : Nat) =>
  (P_4 < 11 ∧ i_5 < 11) ∧
  vc_X5_numberOf S_3 P_4 i_5 x2 (fun (S_7 : Mem) (r_8 : Int32) =>
  Q S_7 r_8))))
def vc_X6_checkNotNegative (S : Mem) (x0 : Int32) (Q : Mem → Prop) : Prop :=
  ((0 ≤ x0) →
  Q S) ∧ ((¬ (0 ≤ x0)) →
  False)
def vc_X6_reading (S : Mem) (x1 : Int32) (x2 : Int32) (x3 : Int32) (Q : Mem → Int32 → Prop) : Prop :=
  vc_X6_checkThermometer S x1 (fun (S_1 : Mem) =>
  vc_X6_checkNotNegative S_1 x2 (fun (S_2 : Mem) =>
  vc_X6_checkRange S_2 x3 (0 : Int32) (1 : Int32) (fun (S_3 : Mem) =>
  vc_X3_at S_3 0 x1 (fun (S_4 : Mem) (P_5 i_6 : Nat) =>
  ((¬ x3 = 0) →
  (P_5 < 11 ∧ i_6 < 11) ∧
  vc_X5_valueAgo S_4 P_5 i_6 x2 (fun (S_9 : Mem) (r_10 : Int32) =>
  Q S_9 r_10)) ∧ ((x3 = 0) →
  (P_5 < 11 ∧ i_6 < 11) ∧
  vc_X5_hourAgo S_4 P_5 i_6 x2 (fun (S_12 : Mem) (r_13 : Int32) =>
  Q S_12 r_13))))))
def vc_X6_row (S : Mem) (x1 : Int32) (x2 : Int32) (Q : Mem → Int32 → Prop) : Prop :=
  vc_X6_checkRow S x1 (fun (S_1 : Mem) =>
  vc_X6_checkRange S_1 x2 (0 : Int32) (3 : Int32) (fun (S_2 : Mem) =>
  ((x2 = (0 : Int32)) →
  vc_X3_periodOf S_2 0 x1 (fun (S_4 : Mem) (r_5 : Int32) =>
  Q S_4 r_5)) ∧ ((¬ x2 = (0 : Int32)) →
  ((x2 = (1 : Int32)) →
  vc_X3_countInRow S_2 0 x1 (fun (S_7 : Mem) (r_8 : Int32) =>
  Q S_7 r_8)) ∧ ((¬ x2 = (1 : Int32)) →
  ((x2 = (2 : Int32)) →
  vc_X3_hoursUntilRead S_2 0 x1 (fun (S_10 : Mem) (r_11 : Int32) =>
  Q S_10 r_11)) ∧ ((¬ x2 = (2 : Int32)) →
  vc_X3_timesReadOf S_2 0 x1 (fun (S_12 : Mem) (r_13 : Int32) =>
  Q S_12 r_13))))))
def vc_X6_count (S : Mem) (x1 : Int32) (Q : Mem → Int32 → Prop) : Prop :=
  vc_X6_checkRange S x1 (0 : Int32) (13 : Int32) (fun (S_1 : Mem) =>
  ((x1 = (0 : Int32)) →
  Q S_1 (S_1 3 0 0 7)) ∧ ((¬ x1 = (0 : Int32)) →
  ((x1 = (1 : Int32)) →
  Q S_1 (S_1 3 0 0 6)) ∧ ((¬ x1 = (1 : Int32)) →
  ((x1 = (2 : Int32)) →
  Q S_1 (S_1 3 0 0 8)) ∧ ((¬ x1 = (2 : Int32)) →
  ((x1 = (3 : Int32)) →
  vc_X3_maskOfAsked S_1 0 (fun (S_6 : Mem) (r_7 : Int32) =>
  Q S_6 r_7)) ∧ ((¬ x1 = (3 : Int32)) →
  ((x1 = (4 : Int32)) →
  vc_X3_maskOfShutOut S_1 0 (fun (S_9 : Mem) (r_10 : Int32) =>
  Q S_9 r_10)) ∧ ((¬ x1 = (4 : Int32)) →
  ((x1 = (5 : Int32)) →
  vc_X3_mean S_1 0 (fun (S_12 : Mem) (r_13 : Int32) =>
  Q S_12 r_13)) ∧ ((¬ x1 = (5 : Int32)) →
  ((x1 = (6 : Int32)) →
  vc_X3_slope S_1 0 (fun (S_15 : Mem) (r_16 : Int32) =>
  Q S_15 r_16)) ∧ ((¬ x1 = (6 : Int32)) →
  ((x1 = (7 : Int32)) →
  vc_X3_middleWithout S_1 0 (-1 : Int32) (fun (S_18 : Mem) (r_19 : Int32) =>
  Q S_18 r_19)) ∧ ((¬ x1 = (7 : Int32)) →
  ((x1 = (8 : Int32)) →
  Q S_1 (S_1 3 0 0 9)) ∧ ((¬ x1 = (8 : Int32)) →
  ((x1 = (9 : Int32)) →
  Q S_1 (S_1 3 0 0 10)) ∧ ((¬ x1 = (9 : Int32)) →
  ((x1 = (10 : Int32)) →
  Q S_1 (S_1 1 0 0 3)) ∧ ((¬ x1 = (10 : Int32)) →
  ((x1 = (11 : Int32)) →
  Q S_1 (S_1 2 0 0 3)) ∧ ((¬ x1 = (11 : Int32)) →
  ((x1 = (12 : Int32)) →
  Q S_1 (S_1 3 0 0 11)) ∧ ((¬ x1 = (12 : Int32)) →
  Q S_1 (S_1 3 0 0 12)))))))))))))))
def vc_X6_ranked (S : Mem) (x1 : Int32) (x2 : Int32) (Q : Mem → Int32 → Prop) : Prop :=
  vc_X6_checkRange S x1 (0 : Int32) (1 : Int32) (fun (S_1 : Mem) =>
  vc_X6_checkNotNegative S_1 x2 (fun (S_2 : Mem) =>
  vc_X3_atRank S_2 0 x1 x2 (fun (S_3 : Mem) (r_4 : Int32) =>
  Q S_3 r_4)))
def vc_X6_between (S : Mem) (x1 : Int32) (x2 : Int32) (Q : Mem → Int32 → Prop) : Prop :=
  vc_X3_countMendedIn S 0 x1 x2 (fun (S_1 : Mem) (r_2 : Int32) =>
  Q S_1 r_2)
def vc_X6_ifLag (S : Mem) (x1 : Int32) (x2 : Int32) (Q : Mem → Int32 → Prop) : Prop :=
  vc_X6_checkThermometer S x1 (fun (S_1 : Mem) =>
  vc_X6_checkRange S_1 x2 (1 : Int32) (9 : Int32) (fun (S_2 : Mem) =>
  vc_X3_at S_2 0 x1 (fun (S_3 : Mem) (P_4 i_5 : Nat) =>
  (P_4 < 11 ∧ i_5 < 11) ∧
  vc_X5_mendedWith S_3 P_4 i_5 x2 (fun (S_7 : Mem) (r_8 : Int32) =>
  Q S_7 r_8))))
def vc_X6_bestLag (S : Mem) (x1 : Int32) (Q : Mem → Int32 → Prop) : Prop :=
  vc_X6_checkThermometer S x1 (fun (S_1 : Mem) =>
  vc_X3_at S_1 0 x1 (fun (S_2 : Mem) (P_3 i_4 : Nat) =>
  (P_3 < 11 ∧ i_4 < 11) ∧
  vc_X5_lagNearestTo S_2 P_3 i_4 (S_2 3 0 0 8) (fun (S_6 : Mem) (r_7 : Int32) =>
  Q S_6 r_7)))
def vc_X6_ifStill (S : Mem) (x1 : Int32) (x2 : Int32) (Q : Mem → Int32 → Prop) : Prop :=
  vc_X6_checkRange S x1 (1 : Int32) (48 : Int32) (fun (S_1 : Mem) =>
  vc_X6_checkRange S_1 x2 (0 : Int32) (3 : Int32) (fun (S_2 : Mem) =>
  vc_X3_copyFrom S_2 1 0 (fun (S_3 : Mem) =>
  vc_X3_passHours S_3 1 x1 (0 : Int32) (fun (S_4 : Mem) =>
  ((x2 = (0 : Int32)) →
  vc_X3_mean S_4 1 (fun (S_6 : Mem) (r_7 : Int32) =>
  Q S_6 r_7)) ∧ ((¬ x2 = (0 : Int32)) →
  ((x2 = (1 : Int32)) →
  vc_X3_maskOfShutOut S_4 1 (fun (S_9 : Mem) (r_10 : Int32) =>
  Q S_9 r_10)) ∧ ((¬ x2 = (1 : Int32)) →
  ((x2 = (2 : Int32)) →
  Q S_4 ((S_4 3 1 0 10) - (S_4 3 0 0 10))) ∧ ((¬ x2 = (2 : Int32)) →
  vc_X3_greatestDistance S_4 1 (fun (S_12 : Mem) (r_13 : Int32) =>
  Q S_12 r_13))))))))
def vc_X6_stillIn (S : Mem) (x1 : Int32) (Q : Mem → Int32 → Prop) : Prop :=
  vc_X6_checkThermometer S x1 (fun (S_1 : Mem) =>
  vc_X3_at S_1 0 x1 (fun (S_2 : Mem) (P_3 i_4 : Nat) =>
  (P_3 < 11 ∧ i_4 < 11) ∧
  vc_X5_hoursUntilStill S_2 P_3 i_4 (S_2 3 0 0 8) (fun (S_6 : Mem) (r_7 : Int32) =>
  Q S_6 r_7)))
def vc_X6_meanError (S : Mem) (Q : Mem → UInt64 → Prop) : Prop :=
  vc_X3_countMended S 0 (fun (S_1 : Mem) (r_2 : Int32) =>
  ((¬ r_2 = 0) →
  vc_X3_sumOfErrors S_1 0 (fun (S_4 : Mem) (r_5 : Int32) =>
  vf_n64 (FP.ddiv (FP.i2d r_5) (FP.i2d r_2)) ∧
  Q S_4 (FP.ddiv (FP.i2d r_5) (FP.i2d r_2)))) ∧ ((r_2 = 0) →
  Q S_1 FP.dconst0))
