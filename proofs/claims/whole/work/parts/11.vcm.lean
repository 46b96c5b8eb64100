def vc_X7_thrown (S : Mem) (Q : Mem → Int32 → Prop) : Prop :=
  Q S (S 15 0 0 6)
def vc_X7_fails (S : Mem) (x1 : Int32) (Q : Mem → Int32 → Prop) : Prop :=
  ∀ S_1 : Mem, S_1 = uc S 15 0 0 (upd (S 15 0 0) 6 x1) →
  Q S_1 (0 : Int32)
def vc_X7_in (S : Mem) (x0 : Int32) (x1 : Int32) (x2 : Int32) (Q : Mem → Int32 → Prop) : Prop :=
  ((x0 < x1) →
  Q S (0 : Int32)) ∧ ((¬ (x0 < x1)) →
  ((x2 < x0) →
  Q S (0 : Int32)) ∧ ((¬ (x2 < x0)) →
  Q S (1 : Int32)))
def vc_X7_isRow (S : Mem) (x0 : Int32) (Q : Mem → Int32 → Prop) : Prop :=
  vc_X7_in S x0 (0 : Int32) (3 : Int32) (fun (S_1 : Mem) (r_2 : Int32) =>
  (r_2 = 0 ∨ r_2 = 1) ∧ Q S_1 r_2)
def vc_X7_is (S : Mem) (x1 : Int32) (Q : Mem → Int32 → Prop) : Prop :=
  vp_in (15 : Int32) 226 ∧
  vc_X7_in S x1 (0 : Int32) ((S 16 0 0 (15 : Int32).toNatClampNeg) - (1 : Int32)) (fun (S_2 : Mem) (r_3 : Int32) =>
  (r_3 = 0 ∨ r_3 = 1) ∧ Q S_2 r_3)
def vc_X7_of (S : Mem) (x1 : Int32) (x2 : Int32) (Q : Mem → Int32 → Prop) : Prop :=
  vp_in (((16 : Int32) + ((21 : Int32) * x1)) + x2) 226 ∧
  Q S (S 16 0 0 (((16 : Int32) + ((21 : Int32) * x1)) + x2).toNatClampNeg)
def vc_X7_put (S : Mem) (x1 : Int32) (x2 : Int32) (x3 : Int32) (Q : Mem → Prop) : Prop :=
  vp_in (((16 : Int32) + ((21 : Int32) * x1)) + x2) 226 ∧
  ∀ S_1 : Mem, S_1 = uc S 16 0 0 (upd (S 16 0 0) (((16 : Int32) + ((21 : Int32) * x1)) + x2).toNatClampNeg x3) →
  Q S_1
def vc_X7_size (S : Mem) (x0 : Int32) (Q : Mem → Int32 → Prop) : Prop :=
  ((0 ≤ x0) →
  Q S x0) ∧ ((¬ (0 ≤ x0)) →
  Q S (-x0))
def vc_X7_save_L52 (Q : Mem → Prop) (K : Mem → Prop) : Nat → Mem → Int32 → Prop
  | 0, _, _ => False
  | n52 + 1, S, y1 =>
  (((226 : Int32) ≤ y1) →
  K S) ∧ ((¬ ((226 : Int32) ≤ y1)) →
  vp_in y1 226 ∧
  vp_in (((226 : Int32) * (S 15 0 0 2)) + y1) 1356 ∧
  ∀ S_4 : Mem, S_4 = uc S 17 0 0 (upd (S 17 0 0) (((226 : Int32) * (S 15 0 0 2)) + y1).toNatClampNeg (S 16 0 0 y1.toNatClampNeg)) →
  vc_X7_save_L52 Q K n52 S_4 (y1 + (1 : Int32)))
def vc_X7_save_J50 (Q : Mem → Prop) (S : Mem) : Prop :=
  ∃ n : Nat, vc_X7_save_L52 Q (fun (S_7 : Mem) =>
  ∀ S_8 : Mem, S_8 = uc S_7 15 0 0 (upd (S_7 15 0 0) 2 ((S_7 15 0 0 2) + (1 : Int32))) →
  Q S_8) n S (0 : Int32)
def vc_X7_save_L11 (Q : Mem → Prop) (K : Mem → Prop) : Nat → Mem → Int32 → Prop
  | 0, _, _ => False
  | n11 + 1, S, y1 =>
  (((1130 : Int32) ≤ y1) →
  K S) ∧ ((¬ ((1130 : Int32) ≤ y1)) →
  vp_in (y1 + (226 : Int32)) 1356 ∧
  vp_in y1 1356 ∧
  ∀ S_12 : Mem, S_12 = uc S 17 0 0 (upd (S 17 0 0) y1.toNatClampNeg (S 17 0 0 (y1 + (226 : Int32)).toNatClampNeg)) →
  vc_X7_save_L11 Q K n11 S_12 (y1 + (1 : Int32)))
def vc_X7_save (S : Mem) (Q : Mem → Prop) : Prop :=
  ((¬ (S 15 0 0 2) = (6 : Int32)) →
  vc_X7_save_J50 Q S) ∧ (((S 15 0 0 2) = (6 : Int32)) →
  ∃ n : Nat, vc_X7_save_L11 Q (fun (S_15 : Mem) =>
  ∀ S_16 : Mem, S_16 = uc S_15 15 0 0 (upd (S_15 15 0 0) 2 ((S_15 15 0 0 2) - (1 : Int32))) →
  vc_X7_save_J50 Q S_16) n S (0 : Int32))
def vc_X7_undo_L30 (Q : Mem → Int32 → Prop) (K : Mem → Prop) : Nat → Mem → Int32 → Prop
  | 0, _, _ => False
  | n30 + 1, S, y1 =>
  (((226 : Int32) ≤ y1) →
  K S) ∧ ((¬ ((226 : Int32) ≤ y1)) →
  vp_in (((226 : Int32) * (S 15 0 0 2)) + y1) 1356 ∧
  vp_in y1 226 ∧
  ∀ S_8 : Mem, S_8 = uc S 16 0 0 (upd (S 16 0 0) y1.toNatClampNeg (S 17 0 0 (((226 : Int32) * (S 15 0 0 2)) + y1).toNatClampNeg)) →
  vc_X7_undo_L30 Q K n30 S_8 (y1 + (1 : Int32)))
def vc_X7_undo (S : Mem) (Q : Mem → Int32 → Prop) : Prop :=
  ∀ S_1 : Mem, S_1 = uc S 15 0 0 (upd (S 15 0 0) 6 (0 : Int32)) →
  ((¬ (S_1 15 0 0 2) = 0) →
  ∀ S_4 : Mem, S_4 = uc S_1 15 0 0 (upd (S_1 15 0 0) 2 ((S_1 15 0 0 2) - (1 : Int32))) →
  ∃ n : Nat, vc_X7_undo_L30 Q (fun (S_11 : Mem) =>
  Q S_11 (S_11 15 0 0 2)) n S_4 (0 : Int32)) ∧ (((S_1 15 0 0 2) = 0) →
  vc_X7_fails S_1 (1 : Int32) (fun (S_12 : Mem) (r_13 : Int32) =>
  Q S_12 r_13))
def vc_X7_keep_L22 (Q : Mem → Int32 → Prop) (K : Mem → Prop) (x1 : Int32) : Nat → Mem → Int32 → Prop
  | 0, _, _ => False
  | n22 + 1, S, y2 =>
  (((226 : Int32) ≤ y2) →
  K S) ∧ ((¬ ((226 : Int32) ≤ y2)) →
  vp_in y2 226 ∧
  vp_in (((226 : Int32) * x1) + y2) 452 ∧
  ∀ S_8 : Mem, S_8 = uc S 18 0 0 (upd (S 18 0 0) (((226 : Int32) * x1) + y2).toNatClampNeg (S 16 0 0 y2.toNatClampNeg)) →
  vc_X7_keep_L22 Q K x1 n22 S_8 (y2 + (1 : Int32)))
def vc_X7_keep (S : Mem) (x1 : Int32) (Q : Mem → Int32 → Prop) : Prop :=
  ∀ S_1 : Mem, S_1 = uc S 15 0 0 (upd (S 15 0 0) 6 (0 : Int32)) →
  vc_X7_in S_1 x1 (0 : Int32) (1 : Int32) (fun (S_3 : Mem) (r_4 : Int32) =>
  ((¬ r_4 = 0) →
  ∃ n : Nat, vc_X7_keep_L22 Q (fun (S_11 : Mem) =>
  vp_in x1 2 ∧
  ∀ S_12 : Mem, S_12 = uc S_11 19 0 0 (upd (S_11 19 0 0) x1.toNatClampNeg (vp_nar .boolean (1 : Int32))) →
  vp_in (0 : Int32) 226 ∧
  Q S_12 (S_12 16 0 0 (0 : Int32).toNatClampNeg)) x1 n S_3 (0 : Int32)) ∧ ((r_4 = 0) →
  vc_X7_fails S_3 (1 : Int32) (fun (S_16 : Mem) (r_17 : Int32) =>
  Q S_16 r_17)))
def vc_X7_goBack_L41 (Q : Mem → Int32 → Prop) (K : Mem → Prop) (x1 : Int32) : Nat → Mem → Int32 → Prop
  | 0, _, _ => False
  | n41 + 1, S, y2 =>
  (((226 : Int32) ≤ y2) →
  K S) ∧ ((¬ ((226 : Int32) ≤ y2)) →
  vp_in (((226 : Int32) * x1) + y2) 452 ∧
  vp_in y2 226 ∧
  ∀ S_11 : Mem, S_11 = uc S 16 0 0 (upd (S 16 0 0) y2.toNatClampNeg (S 18 0 0 (((226 : Int32) * x1) + y2).toNatClampNeg)) →
  vc_X7_goBack_L41 Q K x1 n41 S_11 (y2 + (1 : Int32)))
def vc_X7_goBack (S : Mem) (x1 : Int32) (Q : Mem → Int32 → Prop) : Prop :=
  ∀ S_1 : Mem, S_1 = uc S 15 0 0 (upd (S 15 0 0) 6 (0 : Int32)) →
  vc_X7_in S_1 x1 (0 : Int32) (1 : Int32) (fun (S_3 : Mem) (r_4 : Int32) =>
  ((¬ r_4 = 0) →
  vp_in x1 2 ∧
  ((¬ (S_3 19 0 0 x1.toNatClampNeg) = 0) →
  vc_X7_save S_3 (fun (S_8 : Mem) =>
  ∃ n : Nat, vc_X7_goBack_L41 Q (fun (S_14 : Mem) =>
  vp_in (0 : Int32) 226 ∧
  Q S_14 (S_14 16 0 0 (0 : Int32).toNatClampNeg)) x1 n S_8 (0 : Int32))) ∧ (((S_3 19 0 0 x1.toNatClampNeg) = 0) →
  vc_X7_fails S_3 (2 : Int32) (fun (S_16 : Mem) (r_17 : Int32) =>
  Q S_16 r_17))) ∧ ((r_4 = 0) →
  vc_X7_fails S_3 (1 : Int32) (fun (S_18 : Mem) (r_19 : Int32) =>
  Q S_18 r_19)))
def vc_X7_mendedBy (S : Mem) (x1 : Int32) (x2 : Int32) (Q : Mem → Int32 → Prop) : Prop :=
  vc_X7_of S x1 (7 : Int32) (fun (S_1 : Mem) (r_2 : Int32) =>
  ((¬ r_2 = 0) →
  vc_X7_of S_1 x1 (10 : Int32) (fun (S_4 : Mem) (r_5 : Int32) =>
  vc_X7_of S_4 x1 (7 : Int32) (fun (S_6 : Mem) (r_7 : Int32) =>
  ((r_7 ≤ (1 : Int32)) →
  vc_X7_of S_6 x1 (2 : Int32) (fun (S_9 : Mem) (r_10 : Int32) =>
  Q S_9 (r_5 - r_10))) ∧ ((¬ (r_7 ≤ (1 : Int32))) →
  vc_X7_of S_6 x1 (9 : Int32) (fun (S_11 : Mem) (r_12 : Int32) =>
  vc_X7_of S_11 x1 (11 : Int32) (fun (S_13 : Mem) (r_14 : Int32) =>
  vc_X7_of S_13 x1 (12 : Int32) (fun (S_15 : Mem) (r_16 : Int32) =>
  (¬ (r_12 - r_14) = 0) ∧
  vc_X7_of S_15 x1 (2 : Int32) (fun (S_18 : Mem) (r_19 : Int32) =>
  Q S_18 ((r_5 + (((r_5 - r_16) * (x2 - (1 : Int32))) / (r_12 - r_14))) - r_19))))))))) ∧ ((r_2 = 0) →
  Q S_1 (-999999 : Int32)))
def vc_X7_mended (S : Mem) (x1 : Int32) (Q : Mem → Int32 → Prop) : Prop :=
  vc_X7_of S x1 (1 : Int32) (fun (S_1 : Mem) (r_2 : Int32) =>
  vc_X7_mendedBy S_1 x1 r_2 (fun (S_3 : Mem) (r_4 : Int32) =>
  Q S_3 r_4))
def vc_X7_isAsked (S : Mem) (x1 : Int32) (Q : Mem → Int32 → Prop) : Prop :=
  vc_X7_of S x1 (7 : Int32) (fun (S_1 : Mem) (r_2 : Int32) =>
  ((r_2 ≤ 0) →
  Q S_1 (0 : Int32)) ∧ ((¬ (r_2 ≤ 0)) →
  vc_X7_of S_1 x1 (6 : Int32) (fun (S_4 : Mem) (r_5 : Int32) =>
  ((¬ r_5 = 0) →
  Q S_4 (0 : Int32)) ∧ ((r_5 = 0) →
  Q S_4 (1 : Int32)))))
def vc_X7_sortIn_L5 (Q : Mem → Prop) (K : Mem → Int32 → Prop) (x1 : Int32) : Nat → Mem → Int32 → Prop
  | 0, _, _ => False
  | n5 + 1, S, y2 =>
  ((y2 ≤ 0) →
  K S y2) ∧ ((¬ (y2 ≤ 0)) →
  vp_in (y2 - (1 : Int32)) 10 ∧
  (((S 21 0 0 (y2 - (1 : Int32)).toNatClampNeg) ≤ x1) →
  K S y2) ∧ ((¬ ((S 21 0 0 (y2 - (1 : Int32)).toNatClampNeg) ≤ x1)) →
  vp_in (y2 - (1 : Int32)) 10 ∧
  vp_in y2 10 ∧
  ∀ S_5 : Mem, S_5 = uc S 21 0 0 (upd (S 21 0 0) y2.toNatClampNeg (S 21 0 0 (y2 - (1 : Int32)).toNatClampNeg)) →
  vc_X7_sortIn_L5 Q K x1 n5 S_5 (y2 + (-1 : Int32))))
def vc_X7_sortIn_J41 (Q : Mem → Prop) (x1 : Int32) (S : Mem) (y2 : Int32) : Prop :=
  vp_in y2 10 ∧
  ∀ S_10 : Mem, S_10 = uc S 21 0 0 (upd (S 21 0 0) y2.toNatClampNeg x1) →
  ∀ S_13 : Mem, S_13 = uc S_10 15 0 0 (upd (S_10 15 0 0) 8 ((S_10 15 0 0 8) + (1 : Int32))) →
  Q S_13
def vc_X7_sortIn (S : Mem) (x1 : Int32) (Q : Mem → Prop) : Prop :=
  ∃ n : Nat, vc_X7_sortIn_L5 Q (fun (S_8 : Mem) (y2_9 : Int32) =>
  vc_X7_sortIn_J41 Q x1 S_8 y2_9) x1 n S (S 15 0 0 8)
def vc_X7_middleWithout_J40 (Q : Mem → Int32 → Prop) (K0 : Mem → Int32 → Prop) (K1 : Mem → Prop) (x1 : Int32) (S : Mem) (y2 : Int32) : Prop :=
  K0 S (y2 + (1 : Int32))
def vc_X7_middleWithout_L7 (Q : Mem → Int32 → Prop) (K : Mem → Prop) (x1 : Int32) : Nat → Mem → Int32 → Prop
  | 0, _, _ => False
  | n7 + 1, S, y2 =>
  vp_in (15 : Int32) 226 ∧
  (((S 16 0 0 (15 : Int32).toNatClampNeg) ≤ y2) →
  K S) ∧ ((¬ ((S 16 0 0 (15 : Int32).toNatClampNeg) ≤ y2)) →
  ((y2 = x1) →
  vc_X7_middleWithout_J40 Q (vc_X7_middleWithout_L7 Q K x1 n7) (K) x1 S y2) ∧ ((¬ (y2 = x1)) →
  vc_X7_isAsked S y2 (fun (S_6 : Mem) (r_7 : Int32) =>
  ((r_7 = 0) →
  vc_X7_middleWithout_J40 Q (vc_X7_middleWithout_L7 Q K x1 n7) (K) x1 S_6 y2) ∧ ((¬ (r_7 = 0)) →
  vc_X7_mended S_6 y2 (fun (S_9 : Mem) (r_10 : Int32) =>
  vc_X7_sortIn S_9 r_10 (fun (S_11 : Mem) =>
  vc_X7_middleWithout_J40 Q (vc_X7_middleWithout_L7 Q K x1 n7) (K) x1 S_11 y2))))))
def vc_X7_middleWithout (S : Mem) (x1 : Int32) (Q : Mem → Int32 → Prop) : Prop :=
  ∀ S_1 : Mem, S_1 = uc S 15 0 0 (upd (S 15 0 0) 8 (0 : Int32)) →
  ∃ n : Nat, vc_X7_middleWithout_L7 Q (fun (S_12 : Mem) =>
  ((¬ (S_12 15 0 0 8) = 0) →
  (¬ (2 : Int32) = 0) ∧
  vp_in (((S_12 15 0 0 8) - (1 : Int32)) / (2 : Int32)) 10 ∧
  Q S_12 (S_12 21 0 0 (((S_12 15 0 0 8) - (1 : Int32)) / (2 : Int32)).toNatClampNeg)) ∧ (((S_12 15 0 0 8) = 0) →
  Q S_12 (-999999 : Int32))) x1 n S_1 (0 : Int32)
def vc_X7_mean_J49 (Q : Mem → Int32 → Prop) (K0 : Mem → Int32 → Int32 → Int32 → Prop) (K1 : Mem → Int32 → Int32 → Prop) (S : Mem) (y1 : Int32) (y2 : Int32) (y3 : Int32) : Prop :=
  K0 S y1 y2 (y3 + (1 : Int32))
def vc_X7_mean_L6 (Q : Mem → Int32 → Prop) (K : Mem → Int32 → Int32 → Prop) : Nat → Mem → Int32 → Int32 → Int32 → Prop
  | 0, _, _, _, _ => False
  | n6 + 1, S, y1, y2, y3 =>
  vp_in (15 : Int32) 226 ∧
  (((S 16 0 0 (15 : Int32).toNatClampNeg) ≤ y3) →
  K S y1 y2) ∧ ((¬ ((S 16 0 0 (15 : Int32).toNatClampNeg) ≤ y3)) →
  vc_X7_isAsked S y3 (fun (S_3 : Mem) (r_4 : Int32) =>
  ((r_4 = 0) →
  vc_X7_mean_J49 Q (vc_X7_mean_L6 Q K n6) (K) S_3 y1 y2 y3) ∧ ((¬ (r_4 = 0)) →
  vc_X7_mended S_3 y3 (fun (S_6 : Mem) (r_7 : Int32) =>
  vc_X7_of S_6 y3 (3 : Int32) (fun (S_8 : Mem) (r_9 : Int32) =>
  vc_X7_of S_8 y3 (3 : Int32) (fun (S_10 : Mem) (r_11 : Int32) =>
  vc_X7_mean_J49 Q (vc_X7_mean_L6 Q K n6) (K) S_10 (y1 + (r_7 * r_9)) (y2 + r_11) y3))))))
def vc_X7_mean (S : Mem) (Q : Mem → Int32 → Prop) : Prop :=
  ∃ n : Nat, vc_X7_mean_L6 Q (fun (S_12 : Mem) (y1_13 : Int32) (y2_14 : Int32) =>
  ((¬ y2_14 = 0) →
  (¬ y2_14 = 0) ∧
  Q S_12 (y1_13 / y2_14)) ∧ ((y2_14 = 0) →
  Q S_12 (-999999 : Int32))) n S (0 : Int32) (0 : Int32) (0 : Int32)
def vc_X7_slope (S : Mem) (Q : Mem → Int32 → Prop) : Prop :=
  vc_X7_mean S (fun (S_1 : Mem) (r_2 : Int32) =>
  ((r_2 = (-999999 : Int32)) →
  Q S_1 (-999999 : Int32)) ∧ ((¬ (r_2 = (-999999 : Int32))) →
  vp_in (14 : Int32) 226 ∧
  ((¬ (S_1 16 0 0 (14 : Int32).toNatClampNeg) = (-999999 : Int32)) →
  vp_in (14 : Int32) 226 ∧
  Q S_1 (r_2 - (S_1 16 0 0 (14 : Int32).toNatClampNeg))) ∧ (((S_1 16 0 0 (14 : Int32).toNatClampNeg) = (-999999 : Int32)) →
  Q S_1 (-999999 : Int32))))
def vc_X7_changeOf (S : Mem) (x1 : Int32) (Q : Mem → Int32 → Prop) : Prop :=
  vp_in (1 : Int32) 226 ∧
  vc_X7_of S x1 (2 : Int32) (fun (S_2 : Mem) (r_3 : Int32) =>
  vc_X7_of S_2 x1 (4 : Int32) (fun (S_4 : Mem) (r_5 : Int32) =>
  vc_X7_of S_4 x1 (1 : Int32) (fun (S_6 : Mem) (r_7 : Int32) =>
  (¬ r_7 = 0) ∧
  Q S_6 ((((S 16 0 0 (1 : Int32).toNatClampNeg) + r_3) - r_5) / r_7))))
def vc_X7_follow (S : Mem) (x1 : Int32) (Q : Mem → Prop) : Prop :=
  vc_X7_of S x1 (4 : Int32) (fun (S_1 : Mem) (r_2 : Int32) =>
  vc_X7_changeOf S_1 x1 (fun (S_3 : Mem) (r_4 : Int32) =>
  vc_X7_put S_3 x1 (4 : Int32) (r_2 + r_4) (fun (S_5 : Mem) =>
  Q S_5)))
def vc_X7_read_L3 (Q : Mem → Prop) (K : Mem → Prop) (x1 : Int32) : Nat → Mem → Int32 → Prop
  | 0, _, _ => False
  | n3 + 1, S, y2 =>
  ((y2 ≤ (1 : Int32)) →
  K S) ∧ ((¬ (y2 ≤ (1 : Int32))) →
  vc_X7_of S x1 (((9 : Int32) + y2) - (2 : Int32)) (fun (S_2 : Mem) (r_3 : Int32) =>
  vc_X7_put S_2 x1 ((9 : Int32) + y2) r_3 (fun (S_4 : Mem) =>
  vc_X7_read_L3 Q K x1 n3 S_4 (y2 + (-1 : Int32)))))
def vc_X7_read_J90 (Q : Mem → Prop) (x1 : Int32) (S : Mem) (w1 : Int32) (w2 : Int32) (w3 : Int32) : Prop :=
  vc_X7_put S w1 w2 w3 (fun (S_14 : Mem) =>
  vp_in (12 : Int32) 226 ∧
  vp_in (12 : Int32) 226 ∧
  ∀ S_16 : Mem, S_16 = uc S_14 16 0 0 (upd (S_14 16 0 0) (12 : Int32).toNatClampNeg ((S_14 16 0 0 (12 : Int32).toNatClampNeg) + (1 : Int32))) →
  Q S_16)
def vc_X7_read (S : Mem) (x1 : Int32) (Q : Mem → Prop) : Prop :=
  ∃ n : Nat, vc_X7_read_L3 Q (fun (S_5 : Mem) =>
  vp_in (0 : Int32) 226 ∧
  vc_X7_put S_5 x1 (9 : Int32) (S_5 16 0 0 (0 : Int32).toNatClampNeg) (fun (S_7 : Mem) =>
  vc_X7_of S_7 x1 (4 : Int32) (fun (S_8 : Mem) (r_9 : Int32) =>
  vc_X7_put S_8 x1 (10 : Int32) r_9 (fun (S_10 : Mem) =>
  vc_X7_of S_10 x1 (7 : Int32) (fun (S_11 : Mem) (r_12 : Int32) =>
  (((6 : Int32) ≤ r_12) →
  vc_X7_read_J90 Q x1 S_11 x1 (7 : Int32) (6 : Int32)) ∧ ((¬ ((6 : Int32) ≤ r_12)) →
  vc_X7_of S_11 x1 (7 : Int32) (fun (S_19 : Mem) (r_20 : Int32) =>
  vc_X7_read_J90 Q x1 S_19 x1 (7 : Int32) (r_20 + (1 : Int32))))))))) x1 n S (11 : Int32)
def vc_X7_isDue (S : Mem) (x1 : Int32) (Q : Mem → Int32 → Prop) : Prop :=
  vp_in (0 : Int32) 226 ∧
  vp_in ((4 : Int32) + x1) 226 ∧
  (¬ (S 16 0 0 ((4 : Int32) + x1).toNatClampNeg) = 0) ∧
  ((¬ ((S 16 0 0 (0 : Int32).toNatClampNeg) - (S 16 0 0 (0 : Int32).toNatClampNeg) / (S 16 0 0 ((4 : Int32) + x1).toNatClampNeg) * (S 16 0 0 ((4 : Int32) + x1).toNatClampNeg)) = 0) →
  Q S (0 : Int32)) ∧ ((((S 16 0 0 (0 : Int32).toNatClampNeg) - (S 16 0 0 (0 : Int32).toNatClampNeg) / (S 16 0 0 ((4 : Int32) + x1).toNatClampNeg) * (S 16 0 0 ((4 : Int32) + x1).toNatClampNeg)) = 0) →
  Q S (1 : Int32))
def vc_X7_readRows_J70 (Q : Mem → Int32 → Prop) (K0 : Mem → Int32 → Int32 → Prop) (K1 : Mem → Int32 → Prop) (S : Mem) (y1 : Int32) (y2 : Int32) : Prop :=
  K0 S y1 (y2 + (1 : Int32))
def vc_X7_readRows_J64 (Q : Mem → Int32 → Prop) (K0 : Mem → Int32 → Int32 → Int32 → Prop) (K1 : Mem → Int32 → Int32 → Prop) (S : Mem) (y1 : Int32) (y2 : Int32) (y3 : Int32) : Prop :=
  K0 S y1 y2 (y3 + (1 : Int32))
def vc_X7_readRows_L38 (Q : Mem → Int32 → Prop) (K : Mem → Int32 → Int32 → Prop) : Nat → Mem → Int32 → Int32 → Int32 → Prop
  | 0, _, _, _, _ => False
  | n38 + 1, S, y1, y2, y3 =>
  vp_in (15 : Int32) 226 ∧
  (((S 16 0 0 (15 : Int32).toNatClampNeg) ≤ y3) →
  K S y1 y2) ∧ ((¬ ((S 16 0 0 (15 : Int32).toNatClampNeg) ≤ y3)) →
  vc_X7_of S y3 (0 : Int32) (fun (S_12 : Mem) (r_13 : Int32) =>
  ((¬ r_13 = y2) →
  vc_X7_readRows_J64 Q (vc_X7_readRows_L38 Q K n38) (K) S_12 y1 y2 y3) ∧ ((r_13 = y2) →
  vc_X7_read S_12 y3 (fun (S_15 : Mem) =>
  vc_X7_readRows_J64 Q (vc_X7_readRows_L38 Q K n38) (K) S_15 y1 y2 y3))))
def vc_X7_readRows_L10 (Q : Mem → Int32 → Prop) (K : Mem → Int32 → Prop) : Nat → Mem → Int32 → Int32 → Prop
  | 0, _, _, _ => False
  | n10 + 1, S, y1, y2 =>
  (((4 : Int32) ≤ y2) →
  K S y1) ∧ ((¬ ((4 : Int32) ≤ y2)) →
  vc_X7_isDue S y2 (fun (S_3 : Mem) (r_4 : Int32) =>
  ((r_4 = 0) →
  vc_X7_readRows_J70 Q (vc_X7_readRows_L10 Q K n10) (K) S_3 y1 y2) ∧ ((¬ (r_4 = 0)) →
  vp_in ((8 : Int32) + y2) 226 ∧
  vp_in ((8 : Int32) + y2) 226 ∧
  ∀ S_7 : Mem, S_7 = uc S_3 16 0 0 (upd (S_3 16 0 0) ((8 : Int32) + y2).toNatClampNeg ((S_3 16 0 0 ((8 : Int32) + y2).toNatClampNeg) + (1 : Int32))) →
  ∃ n : Nat, vc_X7_readRows_L38 Q (fun (S_16 : Mem) (y1_17 : Int32) (y2_18 : Int32) =>
  vc_X7_readRows_J70 Q (vc_X7_readRows_L10 Q K n10) (K) S_16 y1_17 y2_18) n S_7 y1 y2 (0 : Int32))))
def vc_X7_readRows (S : Mem) (Q : Mem → Int32 → Prop) : Prop :=
  vp_in (12 : Int32) 226 ∧
  ∃ n : Nat, vc_X7_readRows_L10 Q (fun (S_19 : Mem) (y1_20 : Int32) =>
  vp_in (12 : Int32) 226 ∧
  Q S_19 ((S_19 16 0 0 (12 : Int32).toNatClampNeg) - y1_20)) n S (S 16 0 0 (12 : Int32).toNatClampNeg) (0 : Int32)
def vc_X7_compare_J43 (Q : Mem → Prop) (x1 : Int32) (S : Mem) (y2 : Int32) (w1 : Int32) (w2 : Int32) : Prop :=
  vp_in w1 10 ∧
  ∀ S_6 : Mem, S_6 = uc S 22 0 0 (upd (S 22 0 0) w1.toNatClampNeg (vp_nar .boolean w2)) →
  vp_in x1 10 ∧
  ((¬ (S_6 22 0 0 x1.toNatClampNeg) = 0) →
  vc_X7_mended S_6 x1 (fun (S_11 : Mem) (r_12 : Int32) =>
  vc_X7_size S_11 (r_12 - y2) (fun (S_13 : Mem) (r_14 : Int32) =>
  vp_in (2 : Int32) 226 ∧
  ((r_14 ≤ (S_13 16 0 0 (2 : Int32).toNatClampNeg)) →
  vc_X7_put S_13 x1 (5 : Int32) (0 : Int32) (fun (S_17 : Mem) =>
  Q S_17)) ∧ ((¬ (r_14 ≤ (S_13 16 0 0 (2 : Int32).toNatClampNeg))) →
  vp_in (13 : Int32) 226 ∧
  vp_in (13 : Int32) 226 ∧
  ∀ S_19 : Mem, S_19 = uc S_13 16 0 0 (upd (S_13 16 0 0) (13 : Int32).toNatClampNeg ((S_13 16 0 0 (13 : Int32).toNatClampNeg) + (1 : Int32))) →
  vc_X7_of S_19 x1 (8 : Int32) (fun (S_22 : Mem) (r_23 : Int32) =>
  vc_X7_put S_22 x1 (8 : Int32) (r_23 + (1 : Int32)) (fun (S_24 : Mem) =>
  vc_X7_of S_24 x1 (5 : Int32) (fun (S_25 : Mem) (r_26 : Int32) =>
  vc_X7_put S_25 x1 (5 : Int32) (r_26 + (1 : Int32)) (fun (S_27 : Mem) =>
  Q S_27)))))))) ∧ (((S_6 22 0 0 x1.toNatClampNeg) = 0) →
  Q S_6)
def vc_X7_compare_J42 (Q : Mem → Prop) (x1 : Int32) (S : Mem) (y2 : Int32) (w1 : Int32) : Prop :=
  vc_X7_compare_J43 Q x1 S y2 w1 (0 : Int32)
def vc_X7_compare (S : Mem) (x1 : Int32) (Q : Mem → Prop) : Prop :=
  vc_X7_middleWithout S x1 (fun (S_1 : Mem) (r_2 : Int32) =>
  vc_X7_isAsked S_1 x1 (fun (S_3 : Mem) (r_4 : Int32) =>
  ((r_4 = 0) →
  vc_X7_compare_J42 Q x1 S_3 r_2 x1) ∧ ((¬ (r_4 = 0)) →
  vc_X7_of S_3 x1 (0 : Int32) (fun (S_28 : Mem) (r_29 : Int32) =>
  vc_X7_isDue S_28 r_29 (fun (S_30 : Mem) (r_31 : Int32) =>
  ((r_31 = 0) →
  vc_X7_compare_J42 Q x1 S_30 r_2 x1) ∧ ((¬ (r_31 = 0)) →
  ((r_2 = (-999999 : Int32)) →
  vc_X7_compare_J42 Q x1 S_30 r_2 x1) ∧ ((¬ (r_2 = (-999999 : Int32))) →
  vc_X7_compare_J43 Q x1 S_30 r_2 x1 (1 : Int32))))))))
def vc_X7_lookForSpikes_L2 (Q : Mem → Prop) (K : Mem → Prop) : Nat → Mem → Int32 → Prop
  | 0, _, _ => False
  | n2 + 1, S, y1 =>
  vp_in (15 : Int32) 226 ∧
  (((S 16 0 0 (15 : Int32).toNatClampNeg) ≤ y1) →
  K S) ∧ ((¬ ((S 16 0 0 (15 : Int32).toNatClampNeg) ≤ y1)) →
  vc_X7_compare S y1 (fun (S_3 : Mem) =>
  vc_X7_lookForSpikes_L2 Q K n2 S_3 (y1 + (1 : Int32))))
def vc_X7_lookForSpikes_J69 (Q : Mem → Prop) (K0 : Mem → Int32 → Prop) (K1 : Mem → Prop) (S : Mem) (y1 : Int32) : Prop :=
  K0 S (y1 + (1 : Int32))
def vc_X7_lookForSpikes_L26 (Q : Mem → Prop) (K : Mem → Prop) : Nat → Mem → Int32 → Prop
  | 0, _, _ => False
  | n26 + 1, S, y1 =>
  vp_in (15 : Int32) 226 ∧
  (((S 16 0 0 (15 : Int32).toNatClampNeg) ≤ y1) →
  K S) ∧ ((¬ ((S 16 0 0 (15 : Int32).toNatClampNeg) ≤ y1)) →
  vp_in y1 10 ∧
  (((S 22 0 0 y1.toNatClampNeg) = 0) →
  vc_X7_lookForSpikes_J69 Q (vc_X7_lookForSpikes_L26 Q K n26) (K) S y1) ∧ ((¬ ((S 22 0 0 y1.toNatClampNeg) = 0)) →
  vc_X7_of S y1 (5 : Int32) (fun (S_9 : Mem) (r_10 : Int32) =>
  vp_in (3 : Int32) 226 ∧
  ((r_10 < (S_9 16 0 0 (3 : Int32).toNatClampNeg)) →
  vc_X7_lookForSpikes_J69 Q (vc_X7_lookForSpikes_L26 Q K n26) (K) S_9 y1) ∧ ((¬ (r_10 < (S_9 16 0 0 (3 : Int32).toNatClampNeg))) →
  vc_X7_put S_9 y1 (6 : Int32) (1 : Int32) (fun (S_13 : Mem) =>
  vc_X7_lookForSpikes_J69 Q (vc_X7_lookForSpikes_L26 Q K n26) (K) S_13 y1)))))
def vc_X7_lookForSpikes (S : Mem) (Q : Mem → Prop) : Prop :=
  ∃ n : Nat, vc_X7_lookForSpikes_L2 Q (fun (S_4 : Mem) =>
  ∃ n : Nat, vc_X7_lookForSpikes_L26 Q (fun (S_14 : Mem) =>
  Q S_14) n S_4 (0 : Int32)) n S (0 : Int32)
def vc_X7_pass_L30 (Q : Mem → Int32 → Prop) (K : Mem → Prop) (x1 : Int32) : Nat → Mem → Int32 → Prop
  | 0, _, _ => False
  | n30 + 1, S, y2 =>
  vp_in (15 : Int32) 226 ∧
  (((S 16 0 0 (15 : Int32).toNatClampNeg) ≤ y2) →
  K S) ∧ ((¬ ((S 16 0 0 (15 : Int32).toNatClampNeg) ≤ y2)) →
  vc_X7_follow S y2 (fun (S_15 : Mem) =>
  vc_X7_pass_L30 Q K x1 n30 S_15 (y2 + (1 : Int32))))
def vc_X7_pass (S : Mem) (x1 : Int32) (Q : Mem → Int32 → Prop) : Prop :=
  vc_X7_mean S (fun (S_1 : Mem) (r_2 : Int32) =>
  vp_in (14 : Int32) 226 ∧
  ∀ S_3 : Mem, S_3 = uc S_1 16 0 0 (upd (S_1 16 0 0) (14 : Int32).toNatClampNeg r_2) →
  vp_in (0 : Int32) 226 ∧
  vp_in (0 : Int32) 226 ∧
  ∀ S_7 : Mem, S_7 = uc S_3 16 0 0 (upd (S_3 16 0 0) (0 : Int32).toNatClampNeg ((S_3 16 0 0 (0 : Int32).toNatClampNeg) + (1 : Int32))) →
  vp_in (1 : Int32) 226 ∧
  ∀ S_10 : Mem, S_10 = uc S_7 16 0 0 (upd (S_7 16 0 0) (1 : Int32).toNatClampNeg x1) →
  ∃ n : Nat, vc_X7_pass_L30 Q (fun (S_16 : Mem) =>
  vc_X7_readRows S_16 (fun (S_17 : Mem) (r_18 : Int32) =>
  vc_X7_lookForSpikes S_17 (fun (S_19 : Mem) =>
  Q S_19 r_18))) x1 n S_10 (0 : Int32))
def vc_X7_areNumbers (S : Mem) (x0 : Int32) (x1 : Int32) (x2 : Int32) (Q : Mem → Int32 → Prop) : Prop :=
  vc_X7_in S x0 (1 : Int32) (9 : Int32) (fun (S_1 : Mem) (r_2 : Int32) =>
  ((r_2 = 0) →
  Q S_1 (0 : Int32)) ∧ ((¬ (r_2 = 0)) →
  vc_X7_in S_1 x1 (-200 : Int32) (200 : Int32) (fun (S_4 : Mem) (r_5 : Int32) =>
  ((r_5 = 0) →
  Q S_4 (0 : Int32)) ∧ ((¬ (r_5 = 0)) →
  vc_X7_in S_4 x2 (1 : Int32) (5 : Int32) (fun (S_7 : Mem) (r_8 : Int32) =>
  ((r_8 = 0) →
  Q S_7 (0 : Int32)) ∧ ((¬ (r_8 = 0)) →
  Q S_7 (1 : Int32)))))))
def vc_X7_add_L12 (Q : Mem → Int32 → Prop) (K : Mem → Int32 → Prop) (x1 : Int32) (x2 : Int32) (x3 : Int32) (x4 : Int32) : Nat → Mem → Int32 → Int32 → Prop
  | 0, _, _, _ => False
  | n12 + 1, S, y5, y6 =>
  (((21 : Int32) ≤ y6) →
  K S y5) ∧ ((¬ ((21 : Int32) ≤ y6)) →
  vc_X7_put S y5 y6 (0 : Int32) (fun (S_3 : Mem) =>
  vc_X7_add_L12 Q K x1 x2 x3 x4 n12 S_3 y5 (y6 + (1 : Int32))))
def vc_X7_add (S : Mem) (x1 : Int32) (x2 : Int32) (x3 : Int32) (x4 : Int32) (Q : Mem → Int32 → Prop) : Prop :=
  vp_in (15 : Int32) 226 ∧
  ∃ n : Nat, vc_X7_add_L12 Q (fun (S_4 : Mem) (y5_5 : Int32) =>
  vc_X7_put S_4 y5_5 (0 : Int32) x1 (fun (S_6 : Mem) =>
  vc_X7_put S_6 y5_5 (1 : Int32) x2 (fun (S_7 : Mem) =>
  vc_X7_put S_7 y5_5 (2 : Int32) x3 (fun (S_8 : Mem) =>
  vc_X7_put S_8 y5_5 (3 : Int32) x4 (fun (S_9 : Mem) =>
  vp_in (1 : Int32) 226 ∧
  vc_X7_put S_9 y5_5 (4 : Int32) ((S_9 16 0 0 (1 : Int32).toNatClampNeg) + x3) (fun (S_11 : Mem) =>
  vp_in (15 : Int32) 226 ∧
  vp_in (15 : Int32) 226 ∧
  ∀ S_13 : Mem, S_13 = uc S_11 16 0 0 (upd (S_11 16 0 0) (15 : Int32).toNatClampNeg ((S_11 16 0 0 (15 : Int32).toNatClampNeg) + (1 : Int32))) →
  Q S_13 y5_5)))))) x1 x2 x3 x4 n S (S 16 0 0 (15 : Int32).toNatClampNeg) (0 : Int32)
def vc_X7_thermometer (S : Mem) (x1 : Int32) (x2 : Int32) (x3 : Int32) (x4 : Int32) (Q : Mem → Int32 → Prop) : Prop :=
  ∀ S_1 : Mem, S_1 = uc S 15 0 0 (upd (S 15 0 0) 6 (0 : Int32)) →
  vc_X7_isRow S_1 x1 (fun (S_3 : Mem) (r_4 : Int32) =>
  ((¬ r_4 = 0) →
  vc_X7_areNumbers S_3 x2 x3 x4 (fun (S_6 : Mem) (r_7 : Int32) =>
  ((¬ r_7 = 0) →
  vp_in (15 : Int32) 226 ∧
  ((¬ (S_6 16 0 0 (15 : Int32).toNatClampNeg) = (10 : Int32)) →
  vc_X7_save S_6 (fun (S_11 : Mem) =>
  vc_X7_add S_11 x1 x2 x3 x4 (fun (S_12 : Mem) (r_13 : Int32) =>
  Q S_12 r_13))) ∧ (((S_6 16 0 0 (15 : Int32).toNatClampNeg) = (10 : Int32)) →
  vc_X7_fails S_6 (3 : Int32) (fun (S_14 : Mem) (r_15 : Int32) =>
  Q S_14 r_15))) ∧ ((r_7 = 0) →
  vc_X7_fails S_6 (2 : Int32) (fun (S_16 : Mem) (r_17 : Int32) =>
  Q S_16 r_17)))) ∧ ((r_4 = 0) →
  vc_X7_fails S_3 (1 : Int32) (fun (S_18 : Mem) (r_19 : Int32) =>
  Q S_18 r_19)))
def vc_X7_isTemperature (S : Mem) (x0 : Int32) (Q : Mem → Int32 → Prop) : Prop :=
  vc_X7_in S x0 (-5000 : Int32) (5000 : Int32) (fun (S_1 : Mem) (r_2 : Int32) =>
  (r_2 = 0 ∨ r_2 = 1) ∧ Q S_1 r_2)
def vc_X7_hour (S : Mem) (x1 : Int32) (Q : Mem → Int32 → Prop) : Prop :=
  ∀ S_1 : Mem, S_1 = uc S 15 0 0 (upd (S 15 0 0) 6 (0 : Int32)) →
  vc_X7_isTemperature S_1 x1 (fun (S_3 : Mem) (r_4 : Int32) =>
  ((¬ r_4 = 0) →
  vp_in (0 : Int32) 226 ∧
  ((¬ (S_3 16 0 0 (0 : Int32).toNatClampNeg) = (9999 : Int32)) →
  vc_X7_save S_3 (fun (S_8 : Mem) =>
  vc_X7_pass S_8 x1 (fun (S_9 : Mem) (r_10 : Int32) =>
  Q S_9 r_10))) ∧ (((S_3 16 0 0 (0 : Int32).toNatClampNeg) = (9999 : Int32)) →
  vc_X7_fails S_3 (2 : Int32) (fun (S_11 : Mem) (r_12 : Int32) =>
  Q S_11 r_12))) ∧ ((r_4 = 0) →
  vc_X7_fails S_3 (1 : Int32) (fun (S_13 : Mem) (r_14 : Int32) =>
  Q S_13 r_14)))
def vc_X7_hours_J106 (Q : Mem → Int32 → Prop) (K0 : Mem → Int32 → Prop) (K1 : Mem → Prop) (x1 : Int32) (x2 : Int32) (S : Mem) (y3 : Int32) (w1 : Int32) : Prop :=
  vc_X7_pass S w1 (fun (S_18 : Mem) (r_19 : Int32) =>
  K0 S_18 (y3 + (1 : Int32)))
def vc_X7_hours_L60 (Q : Mem → Int32 → Prop) (K : Mem → Prop) (x1 : Int32) (x2 : Int32) : Nat → Mem → Int32 → Prop
  | 0, _, _ => False
  | n60 + 1, S, y3 =>
  ((x1 ≤ y3) →
  K S) ∧ ((¬ (x1 ≤ y3)) →
  vp_in (1 : Int32) 226 ∧
  (((-5000 : Int32) ≤ ((S 16 0 0 (1 : Int32).toNatClampNeg) + x2)) →
  ((((S 16 0 0 (1 : Int32).toNatClampNeg) + x2) ≤ (5000 : Int32)) →
  vc_X7_hours_J106 Q (vc_X7_hours_L60 Q K x1 x2 n60) (K) x1 x2 S y3 ((S 16 0 0 (1 : Int32).toNatClampNeg) + x2)) ∧ ((¬ (((S 16 0 0 (1 : Int32).toNatClampNeg) + x2) ≤ (5000 : Int32))) →
  vc_X7_hours_J106 Q (vc_X7_hours_L60 Q K x1 x2 n60) (K) x1 x2 S y3 (5000 : Int32))) ∧ ((¬ ((-5000 : Int32) ≤ ((S 16 0 0 (1 : Int32).toNatClampNeg) + x2))) →
  vc_X7_hours_J106 Q (vc_X7_hours_L60 Q K x1 x2 n60) (K) x1 x2 S y3 (-5000 : Int32)))
def vc_X7_hours (S : Mem) (x1 : Int32) (x2 : Int32) (Q : Mem → Int32 → Prop) : Prop :=
  ∀ S_1 : Mem, S_1 = uc S 15 0 0 (upd (S 15 0 0) 6 (0 : Int32)) →
  vc_X7_in S_1 x1 (1 : Int32) (24 : Int32) (fun (S_3 : Mem) (r_4 : Int32) =>
  ((r_4 = 0) →
  vc_X7_fails S_3 (1 : Int32) (fun (S_6 : Mem) (r_7 : Int32) =>
  Q S_6 r_7)) ∧ ((¬ (r_4 = 0)) →
  vc_X7_in S_3 x2 (-500 : Int32) (500 : Int32) (fun (S_8 : Mem) (r_9 : Int32) =>
  ((¬ r_9 = 0) →
  vp_in (0 : Int32) 226 ∧
  ((((S_8 16 0 0 (0 : Int32).toNatClampNeg) + x1) ≤ (9999 : Int32)) →
  vc_X7_save S_8 (fun (S_13 : Mem) =>
  ∃ n : Nat, vc_X7_hours_L60 Q (fun (S_20 : Mem) =>
  vp_in (1 : Int32) 226 ∧
  Q S_20 (S_20 16 0 0 (1 : Int32).toNatClampNeg)) x1 x2 n S_13 (0 : Int32))) ∧ ((¬ (((S_8 16 0 0 (0 : Int32).toNatClampNeg) + x1) ≤ (9999 : Int32))) →
  vc_X7_fails S_8 (2 : Int32) (fun (S_22 : Mem) (r_23 : Int32) =>
  Q S_22 r_23))) ∧ ((r_9 = 0) →
  vc_X7_fails S_8 (1 : Int32) (fun (S_24 : Mem) (r_25 : Int32) =>
  Q S_24 r_25)))))
def vc_X7_periodNow (S : Mem) (x1 : Int32) (x2 : Int32) (Q : Mem → Int32 → Prop) : Prop :=
  vp_in ((4 : Int32) + x1) 226 ∧
  vp_in ((4 : Int32) + x1) 226 ∧
  ∀ S_2 : Mem, S_2 = uc S 16 0 0 (upd (S 16 0 0) ((4 : Int32) + x1).toNatClampNeg x2) →
  Q S_2 (S 16 0 0 ((4 : Int32) + x1).toNatClampNeg)
def vc_X7_period (S : Mem) (x1 : Int32) (x2 : Int32) (Q : Mem → Int32 → Prop) : Prop :=
  ∀ S_1 : Mem, S_1 = uc S 15 0 0 (upd (S 15 0 0) 6 (0 : Int32)) →
  vc_X7_isRow S_1 x1 (fun (S_3 : Mem) (r_4 : Int32) =>
  ((¬ r_4 = 0) →
  vc_X7_in S_3 x2 (1 : Int32) (6 : Int32) (fun (S_6 : Mem) (r_7 : Int32) =>
  ((¬ r_7 = 0) →
  vc_X7_save S_6 (fun (S_9 : Mem) =>
  vc_X7_periodNow S_9 x1 x2 (fun (S_10 : Mem) (r_11 : Int32) =>
  Q S_10 r_11))) ∧ ((r_7 = 0) →
  vc_X7_fails S_6 (2 : Int32) (fun (S_12 : Mem) (r_13 : Int32) =>
  Q S_12 r_13)))) ∧ ((r_4 = 0) →
  vc_X7_fails S_3 (1 : Int32) (fun (S_14 : Mem) (r_15 : Int32) =>
  Q S_14 r_15)))
def vc_X7_calibrateNow_L51 (Q : Mem → Int32 → Prop) (K : Mem → Int32 → Prop) (x1 : Int32) : Nat → Mem → Int32 → Int32 → Prop
  | 0, _, _, _ => False
  | n51 + 1, S, y2, y3 =>
  (((12 : Int32) ≤ y3) →
  K S y2) ∧ ((¬ ((12 : Int32) ≤ y3)) →
  vc_X7_put S x1 ((9 : Int32) + y3) (0 : Int32) (fun (S_11 : Mem) =>
  vc_X7_calibrateNow_L51 Q K x1 n51 S_11 y2 (y3 + (1 : Int32))))
def vc_X7_calibrateNow (S : Mem) (x1 : Int32) (Q : Mem → Int32 → Prop) : Prop :=
  vc_X7_of S x1 (5 : Int32) (fun (S_1 : Mem) (r_2 : Int32) =>
  vp_in (1 : Int32) 226 ∧
  vc_X7_of S_1 x1 (2 : Int32) (fun (S_4 : Mem) (r_5 : Int32) =>
  vc_X7_put S_4 x1 (4 : Int32) ((S_1 16 0 0 (1 : Int32).toNatClampNeg) + r_5) (fun (S_6 : Mem) =>
  vc_X7_put S_6 x1 (5 : Int32) (0 : Int32) (fun (S_7 : Mem) =>
  vc_X7_put S_7 x1 (6 : Int32) (0 : Int32) (fun (S_8 : Mem) =>
  vc_X7_put S_8 x1 (7 : Int32) (0 : Int32) (fun (S_9 : Mem) =>
  ∃ n : Nat, vc_X7_calibrateNow_L51 Q (fun (S_12 : Mem) (y2_13 : Int32) =>
  Q S_12 y2_13) x1 n S_9 r_2 (0 : Int32)))))))
def vc_X7_calibrate (S : Mem) (x1 : Int32) (Q : Mem → Int32 → Prop) : Prop :=
  ∀ S_1 : Mem, S_1 = uc S 15 0 0 (upd (S 15 0 0) 6 (0 : Int32)) →
  vc_X7_is S_1 x1 (fun (S_3 : Mem) (r_4 : Int32) =>
  ((¬ r_4 = 0) →
  vc_X7_save S_3 (fun (S_6 : Mem) =>
  vc_X7_calibrateNow S_6 x1 (fun (S_7 : Mem) (r_8 : Int32) =>
  Q S_7 r_8))) ∧ ((r_4 = 0) →
  vc_X7_fails S_3 (1 : Int32) (fun (S_9 : Mem) (r_10 : Int32) =>
  Q S_9 r_10)))
def vc_X7_knock (S : Mem) (x1 : Int32) (x2 : Int32) (Q : Mem → Int32 → Prop) : Prop :=
  ∀ S_1 : Mem, S_1 = uc S 15 0 0 (upd (S 15 0 0) 6 (0 : Int32)) →
  vc_X7_is S_1 x1 (fun (S_3 : Mem) (r_4 : Int32) =>
  ((¬ r_4 = 0) →
  vc_X7_in S_3 x2 (-3000 : Int32) (3000 : Int32) (fun (S_6 : Mem) (r_7 : Int32) =>
  ((¬ r_7 = 0) →
  vc_X7_of S_6 x1 (4 : Int32) (fun (S_9 : Mem) (r_10 : Int32) =>
  vc_X7_in S_9 (r_10 + x2) (-20000 : Int32) (20000 : Int32) (fun (S_11 : Mem) (r_12 : Int32) =>
  ((¬ r_12 = 0) →
  vc_X7_save S_11 (fun (S_14 : Mem) =>
  vc_X7_put S_14 x1 (4 : Int32) (r_10 + x2) (fun (S_15 : Mem) =>
  Q S_15 ((r_10 + x2) + (100000 : Int32))))) ∧ ((r_12 = 0) →
  vc_X7_fails S_11 (3 : Int32) (fun (S_16 : Mem) (r_17 : Int32) =>
  Q S_16 r_17))))) ∧ ((r_7 = 0) →
  vc_X7_fails S_6 (2 : Int32) (fun (S_18 : Mem) (r_19 : Int32) =>
  Q S_18 r_19)))) ∧ ((r_4 = 0) →
  vc_X7_fails S_3 (1 : Int32) (fun (S_20 : Mem) (r_21 : Int32) =>
  Q S_20 r_21)))
def vc_X7_set_J54 (Q : Mem → Int32 → Prop) (x1 : Int32) (x2 : Int32) (S : Mem) : Prop :=
  vc_X7_save S (fun (S_10 : Mem) =>
  vp_in ((2 : Int32) + x1) 226 ∧
  vp_in ((2 : Int32) + x1) 226 ∧
  ∀ S_12 : Mem, S_12 = uc S_10 16 0 0 (upd (S_10 16 0 0) ((2 : Int32) + x1).toNatClampNeg x2) →
  Q S_12 (S_10 16 0 0 ((2 : Int32) + x1).toNatClampNeg))
def vc_X7_set (S : Mem) (x1 : Int32) (x2 : Int32) (Q : Mem → Int32 → Prop) : Prop :=
  ∀ S_1 : Mem, S_1 = uc S 15 0 0 (upd (S 15 0 0) 6 (0 : Int32)) →
  vc_X7_in S_1 x1 (0 : Int32) (1 : Int32) (fun (S_3 : Mem) (r_4 : Int32) =>
  ((¬ r_4 = 0) →
  ((¬ x1 = 0) →
  vc_X7_in S_3 x2 (1 : Int32) (5 : Int32) (fun (S_7 : Mem) (r_8 : Int32) =>
  ((¬ r_8 = 0) →
  vc_X7_set_J54 Q x1 x2 S_7) ∧ ((r_8 = 0) →
  vc_X7_fails S_7 (2 : Int32) (fun (S_15 : Mem) (r_16 : Int32) =>
  Q S_15 r_16)))) ∧ ((x1 = 0) →
  vc_X7_in S_3 x2 (10 : Int32) (2000 : Int32) (fun (S_17 : Mem) (r_18 : Int32) =>
  ((r_18 = 0) →
  vc_X7_fails S_17 (2 : Int32) (fun (S_20 : Mem) (r_21 : Int32) =>
  Q S_20 r_21)) ∧ ((¬ (r_18 = 0)) →
  vc_X7_set_J54 Q x1 x2 S_17)))) ∧ ((r_4 = 0) →
  vc_X7_fails S_3 (1 : Int32) (fun (S_22 : Mem) (r_23 : Int32) =>
  Q S_22 r_23)))
def vc_X7_append (S : Mem) (x1 : Int32) (Q : Mem → Int32 → Prop) : Prop :=
  ∀ S_1 : Mem, S_1 = uc S 15 0 0 (upd (S 15 0 0) 6 (0 : Int32)) →
  vc_X7_in S_1 x1 (33 : Int32) (126 : Int32) (fun (S_3 : Mem) (r_4 : Int32) =>
  ((¬ r_4 = 0) →
  ((¬ (S_3 15 0 0 11) = (60 : Int32)) →
  vp_in (S_3 15 0 0 11) 60 ∧
  ∀ S_7 : Mem, S_7 = uc S_3 23 0 0 (upd (S_3 23 0 0) (S_3 15 0 0 11).toNatClampNeg x1) →
  ∀ S_10 : Mem, S_10 = uc S_7 15 0 0 (upd (S_7 15 0 0) 11 ((S_7 15 0 0 11) + (1 : Int32))) →
  Q S_10 (S_10 15 0 0 11)) ∧ (((S_3 15 0 0 11) = (60 : Int32)) →
  vc_X7_fails S_3 (2 : Int32) (fun (S_12 : Mem) (r_13 : Int32) =>
  Q S_12 r_13))) ∧ ((r_4 = 0) →
  vc_X7_fails S_3 (1 : Int32) (fun (S_14 : Mem) (r_15 : Int32) =>
  Q S_14 r_15)))
def vc_X7_clearBuffer (S : Mem) (Q : Mem → Int32 → Prop) : Prop :=
  ∀ S_1 : Mem, S_1 = uc S 15 0 0 (upd (S 15 0 0) 6 (0 : Int32)) →
  ∀ S_3 : Mem, S_3 = uc S_1 15 0 0 (upd (S_1 15 0 0) 11 (0 : Int32)) →
  Q S_3 (S_1 15 0 0 11)
def vc_X7_takes_J33 (Q : Mem → Int32 → Prop) (x1 : Int32) (x2 : Int32) (S : Mem) (w0 : Int32) : Prop :=
  ((w0 = 0) →
  ∀ S_3 : Mem, S_3 = uc S 15 0 0 (upd (S 15 0 0) 12 ((S 15 0 0 12) + (0 : Int32))) →
  (w0 = 0 ∨ w0 = 1) ∧ Q S_3 w0) ∧ ((¬ (w0 = 0)) →
  ∀ S_5 : Mem, S_5 = uc S 15 0 0 (upd (S 15 0 0) 12 ((S 15 0 0 12) + (1 : Int32))) →
  (w0 = 0 ∨ w0 = 1) ∧ Q S_5 w0)
def vc_X7_takes_J32 (Q : Mem → Int32 → Prop) (x1 : Int32) (x2 : Int32) (S : Mem) : Prop :=
  vc_X7_takes_J33 Q x1 x2 S (0 : Int32)
def vc_X7_takes (S : Mem) (x1 : Int32) (x2 : Int32) (Q : Mem → Int32 → Prop) : Prop :=
  (((S 15 0 0 11) ≤ (S 15 0 0 12)) →
  vc_X7_takes_J32 Q x1 x2 S) ∧ ((¬ ((S 15 0 0 11) ≤ (S 15 0 0 12))) →
  vp_in (S 15 0 0 12) 60 ∧
  vc_X7_in S (S 23 0 0 (S 15 0 0 12).toNatClampNeg) x1 x2 (fun (S_8 : Mem) (r_9 : Int32) =>
  ((r_9 = 0) →
  vc_X7_takes_J32 Q x1 x2 S_8) ∧ ((¬ (r_9 = 0)) →
  vc_X7_takes_J33 Q x1 x2 S_8 (1 : Int32))))
def vc_X7_digit (S : Mem) (Q : Mem → Int32 → Prop) : Prop :=
  vp_in ((S 15 0 0 12) - (1 : Int32)) 60 ∧
  Q S ((S 23 0 0 ((S 15 0 0 12) - (1 : Int32)).toNatClampNeg) - (48 : Int32))
def vc_X7_readDegrees_J76 (Q : Mem → Int32 → Prop) (S : Mem) (y1 : Int32) (y2 : Int32) : Prop :=
  ((y1 = 0) →
  vp_in (S 15 0 0 13) 30 ∧
  ∀ S_11 : Mem, S_11 = uc S 25 0 0 (upd (S 25 0 0) (S 15 0 0 13).toNatClampNeg y2) →
  Q S_11 (1 : Int32)) ∧ ((¬ (y1 = 0)) →
  vp_in (S 15 0 0 13) 30 ∧
  ∀ S_14 : Mem, S_14 = uc S 25 0 0 (upd (S 25 0 0) (S 15 0 0 13).toNatClampNeg (-y2)) →
  Q S_14 (1 : Int32))
def vc_X7_readDegrees_J66 (Q : Mem → Int32 → Prop) (S : Mem) (y1 : Int32) (y2 : Int32) : Prop :=
  vc_X7_digit S (fun (S_21 : Mem) (r_22 : Int32) =>
  vc_X7_readDegrees_J76 Q S_21 y1 (((10 : Int32) * y2) + r_22))
def vc_X7_readDegrees (S : Mem) (Q : Mem → Int32 → Prop) : Prop :=
  vc_X7_takes S (45 : Int32) (45 : Int32) (fun (S_1 : Mem) (r_2 : Int32) =>
  vc_X7_takes S_1 (48 : Int32) (57 : Int32) (fun (S_3 : Mem) (r_4 : Int32) =>
  ((¬ r_4 = 0) →
  vc_X7_digit S_3 (fun (S_6 : Mem) (r_7 : Int32) =>
  ((¬ r_7 = (5 : Int32)) →
  ((r_7 ≤ 0) →
  vc_X7_readDegrees_J76 Q S_6 r_2 r_7) ∧ ((¬ (r_7 ≤ 0)) →
  (((5 : Int32) ≤ r_7) →
  vc_X7_readDegrees_J76 Q S_6 r_2 r_7) ∧ ((¬ ((5 : Int32) ≤ r_7)) →
  vc_X7_takes S_6 (48 : Int32) (57 : Int32) (fun (S_18 : Mem) (r_19 : Int32) =>
  ((r_19 = 0) →
  vc_X7_readDegrees_J76 Q S_18 r_2 r_7) ∧ ((¬ (r_19 = 0)) →
  vc_X7_readDegrees_J66 Q S_18 r_2 r_7))))) ∧ ((r_7 = (5 : Int32)) →
  vc_X7_takes S_6 (48 : Int32) (48 : Int32) (fun (S_23 : Mem) (r_24 : Int32) =>
  ((r_24 = 0) →
  vc_X7_readDegrees_J76 Q S_23 r_2 r_7) ∧ ((¬ (r_24 = 0)) →
  vc_X7_readDegrees_J66 Q S_23 r_2 r_7))))) ∧ ((r_4 = 0) →
  Q S_3 (0 : Int32))))
def vc_X7_readNew (S : Mem) (Q : Mem → Int32 → Prop) : Prop :=
  vc_X7_takes S (48 : Int32) (51 : Int32) (fun (S_1 : Mem) (r_2 : Int32) =>
  ((¬ r_2 = 0) →
  vc_X7_digit S_1 (fun (S_4 : Mem) (r_5 : Int32) =>
  vp_in (S_1 15 0 0 13) 30 ∧
  ∀ S_6 : Mem, S_6 = uc S_4 25 0 0 (upd (S_4 25 0 0) (S_1 15 0 0 13).toNatClampNeg r_5) →
  vc_X7_takes S_6 (44 : Int32) (44 : Int32) (fun (S_9 : Mem) (r_10 : Int32) =>
  ((r_10 = 0) →
  Q S_9 (0 : Int32)) ∧ ((¬ (r_10 = 0)) →
  vc_X7_takes S_9 (49 : Int32) (57 : Int32) (fun (S_12 : Mem) (r_13 : Int32) =>
  ((¬ r_13 = 0) →
  vc_X7_digit S_12 (fun (S_15 : Mem) (r_16 : Int32) =>
  vp_in (S_12 15 0 0 13) 30 ∧
  ∀ S_17 : Mem, S_17 = uc S_15 26 0 0 (upd (S_15 26 0 0) (S_12 15 0 0 13).toNatClampNeg r_16) →
  vp_in (S_17 15 0 0 13) 30 ∧
  ∀ S_20 : Mem, S_20 = uc S_17 27 0 0 (upd (S_17 27 0 0) (S_17 15 0 0 13).toNatClampNeg (1 : Int32)) →
  vc_X7_takes S_20 (42 : Int32) (42 : Int32) (fun (S_23 : Mem) (r_24 : Int32) =>
  ((r_24 = 0) →
  Q S_23 (1 : Int32)) ∧ ((¬ (r_24 = 0)) →
  vc_X7_takes S_23 (49 : Int32) (53 : Int32) (fun (S_26 : Mem) (r_27 : Int32) =>
  ((¬ r_27 = 0) →
  vc_X7_digit S_26 (fun (S_29 : Mem) (r_30 : Int32) =>
  vp_in (S_26 15 0 0 13) 30 ∧
  ∀ S_31 : Mem, S_31 = uc S_29 27 0 0 (upd (S_29 27 0 0) (S_26 15 0 0 13).toNatClampNeg r_30) →
  Q S_31 (1 : Int32))) ∧ ((r_27 = 0) →
  Q S_26 (0 : Int32))))))) ∧ ((r_13 = 0) →
  Q S_12 (0 : Int32))))))) ∧ ((r_2 = 0) →
  Q S_1 (0 : Int32)))
def vc_X7_readPeriod (S : Mem) (Q : Mem → Int32 → Prop) : Prop :=
  vc_X7_takes S (48 : Int32) (51 : Int32) (fun (S_1 : Mem) (r_2 : Int32) =>
  ((¬ r_2 = 0) →
  vc_X7_digit S_1 (fun (S_4 : Mem) (r_5 : Int32) =>
  vp_in (S_1 15 0 0 13) 30 ∧
  ∀ S_6 : Mem, S_6 = uc S_4 25 0 0 (upd (S_4 25 0 0) (S_1 15 0 0 13).toNatClampNeg r_5) →
  vc_X7_takes S_6 (47 : Int32) (47 : Int32) (fun (S_9 : Mem) (r_10 : Int32) =>
  ((r_10 = 0) →
  Q S_9 (0 : Int32)) ∧ ((¬ (r_10 = 0)) →
  vc_X7_takes S_9 (49 : Int32) (54 : Int32) (fun (S_12 : Mem) (r_13 : Int32) =>
  ((¬ r_13 = 0) →
  vc_X7_digit S_12 (fun (S_15 : Mem) (r_16 : Int32) =>
  vp_in (S_12 15 0 0 13) 30 ∧
  ∀ S_17 : Mem, S_17 = uc S_15 26 0 0 (upd (S_15 26 0 0) (S_12 15 0 0 13).toNatClampNeg r_16) →
  Q S_17 (1 : Int32))) ∧ ((r_13 = 0) →
  Q S_12 (0 : Int32))))))) ∧ ((r_2 = 0) →
  Q S_1 (0 : Int32)))
def vc_X7_readCalibrated (S : Mem) (Q : Mem → Int32 → Prop) : Prop :=
  vc_X7_takes S (48 : Int32) (57 : Int32) (fun (S_1 : Mem) (r_2 : Int32) =>
  ((¬ r_2 = 0) →
  vc_X7_digit S_1 (fun (S_4 : Mem) (r_5 : Int32) =>
  vp_in (S_1 15 0 0 13) 30 ∧
  ∀ S_6 : Mem, S_6 = uc S_4 25 0 0 (upd (S_4 25 0 0) (S_1 15 0 0 13).toNatClampNeg r_5) →
  Q S_6 (1 : Int32))) ∧ ((r_2 = 0) →
  Q S_1 (0 : Int32)))
def vc_X7_readOrder_J137 (Q : Mem → Int32 → Prop) (S : Mem) (y1 : Int32) (w0 : Int32) : Prop :=
  ((w0 = 0) →
  (w0 = 0 ∨ w0 = 1) ∧ Q S w0) ∧ ((¬ (w0 = 0)) →
  vp_in (S 15 0 0 13) 30 ∧
  ∀ S_8 : Mem, S_8 = uc S 24 0 0 (upd (S 24 0 0) (S 15 0 0 13).toNatClampNeg y1) →
  ∀ S_11 : Mem, S_11 = uc S_8 15 0 0 (upd (S_8 15 0 0) 13 ((S_8 15 0 0 13) + (1 : Int32))) →
  (w0 = 0 ∨ w0 = 1) ∧ Q S_11 w0)
def vc_X7_readOrder_J136 (Q : Mem → Int32 → Prop) (S : Mem) (y1 : Int32) : Prop :=
  vc_X7_readOrder_J137 Q S y1 (0 : Int32)
def vc_X7_readOrder_J132 (Q : Mem → Int32 → Prop) (S : Mem) (y1 : Int32) : Prop :=
  vc_X7_readOrder_J137 Q S y1 (1 : Int32)
def vc_X7_readOrder_J69 (Q : Mem → Int32 → Prop) (S : Mem) (y1 : Int32) (y2 : Int32) (w1 : Int32) (w2 : Int32) : Prop :=
  ∀ S_4 : Mem, S_4 = uc S 15 0 0 (upd (S 15 0 0) 12 (w1 + w2)) →
  ((y2 = 0) →
  vc_X7_readOrder_J136 Q S_4 y1) ∧ ((¬ (y2 = 0)) →
  ((¬ y1 = (116 : Int32)) →
  ((¬ y1 = (104 : Int32)) →
  ((¬ y1 = (112 : Int32)) →
  vc_X7_readCalibrated S_4 (fun (S_16 : Mem) (r_17 : Int32) =>
  ((r_17 = 0) →
  vc_X7_readOrder_J136 Q S_16 y1) ∧ ((¬ (r_17 = 0)) →
  vc_X7_readOrder_J132 Q S_16 y1))) ∧ ((y1 = (112 : Int32)) →
  vc_X7_readPeriod S_4 (fun (S_19 : Mem) (r_20 : Int32) =>
  ((r_20 = 0) →
  vc_X7_readOrder_J136 Q S_19 y1) ∧ ((¬ (r_20 = 0)) →
  vc_X7_readOrder_J132 Q S_19 y1)))) ∧ ((y1 = (104 : Int32)) →
  vc_X7_readDegrees S_4 (fun (S_22 : Mem) (r_23 : Int32) =>
  ((r_23 = 0) →
  vc_X7_readOrder_J136 Q S_22 y1) ∧ ((¬ (r_23 = 0)) →
  vc_X7_readOrder_J132 Q S_22 y1)))) ∧ ((y1 = (116 : Int32)) →
  vc_X7_readNew S_4 (fun (S_25 : Mem) (r_26 : Int32) =>
  ((r_26 = 0) →
  vc_X7_readOrder_J136 Q S_25 y1) ∧ ((¬ (r_26 = 0)) →
  vc_X7_readOrder_J132 Q S_25 y1))))
def vc_X7_readOrder_J54 (Q : Mem → Int32 → Prop) (S : Mem) (y1 : Int32) (w0 : Int32) : Prop :=
  ((w0 = 0) →
  vc_X7_readOrder_J69 Q S y1 w0 (S 15 0 0 12) (0 : Int32)) ∧ ((¬ (w0 = 0)) →
  vc_X7_readOrder_J69 Q S y1 w0 (S 15 0 0 12) (1 : Int32))
def vc_X7_readOrder_J49 (Q : Mem → Int32 → Prop) (S : Mem) (y1 : Int32) : Prop :=
  vc_X7_readOrder_J54 Q S y1 (1 : Int32)
def vc_X7_readOrder_J24 (Q : Mem → Int32 → Prop) (S : Mem) (w0 : Int32) : Prop :=
  ((w0 = (116 : Int32)) →
  vc_X7_readOrder_J49 Q S w0) ∧ ((¬ (w0 = (116 : Int32))) →
  ((w0 = (104 : Int32)) →
  vc_X7_readOrder_J49 Q S w0) ∧ ((¬ (w0 = (104 : Int32))) →
  ((w0 = (112 : Int32)) →
  vc_X7_readOrder_J49 Q S w0) ∧ ((¬ (w0 = (112 : Int32))) →
  ((¬ w0 = (99 : Int32)) →
  vc_X7_readOrder_J54 Q S w0 (0 : Int32)) ∧ ((w0 = (99 : Int32)) →
  vc_X7_readOrder_J49 Q S w0))))
def vc_X7_readOrder (S : Mem) (Q : Mem → Int32 → Prop) : Prop :=
  (((S 15 0 0 11) ≤ (S 15 0 0 12)) →
  vc_X7_readOrder_J24 Q S (0 : Int32)) ∧ ((¬ ((S 15 0 0 11) ≤ (S 15 0 0 12))) →
  vp_in (S 15 0 0 12) 60 ∧
  vc_X7_readOrder_J24 Q S (S 23 0 0 (S 15 0 0 12).toNatClampNeg))
def vc_X7_isComplete_L15 (Q : Mem → Int32 → Prop) (K : Mem → Int32 → Prop) : Nat → Mem → Int32 → Prop
  | 0, _, _ => False
  | n15 + 1, S, y1 =>
  ((y1 = 0) →
  K S y1) ∧ ((¬ (y1 = 0)) →
  vc_X7_takes S (59 : Int32) (59 : Int32) (fun (S_8 : Mem) (r_9 : Int32) =>
  ((r_9 = 0) →
  K S_8 y1) ∧ ((¬ (r_9 = 0)) →
  vc_X7_readOrder S_8 (fun (S_11 : Mem) (r_12 : Int32) =>
  vc_X7_isComplete_L15 Q K n15 S_11 r_12))))
def vc_X7_isComplete_J38 (Q : Mem → Int32 → Prop) (S : Mem) (y1 : Int32) : Prop :=
  ((y1 = 0) →
  Q S (0 : Int32)) ∧ ((¬ (y1 = 0)) →
  ((¬ (S 15 0 0 12) = (S 15 0 0 11)) →
  Q S (0 : Int32)) ∧ (((S 15 0 0 12) = (S 15 0 0 11)) →
  Q S (1 : Int32)))
def vc_X7_isComplete (S : Mem) (Q : Mem → Int32 → Prop) : Prop :=
  ∀ S_1 : Mem, S_1 = uc S 15 0 0 (upd (S 15 0 0) 12 (0 : Int32)) →
  ∀ S_3 : Mem, S_3 = uc S_1 15 0 0 (upd (S_1 15 0 0) 13 (0 : Int32)) →
  vc_X7_readOrder S_3 (fun (S_5 : Mem) (r_6 : Int32) =>
  ∃ n : Nat, vc_X7_isComplete_L15 Q (fun (S_13 : Mem) (y1_14 : Int32) =>
  vc_X7_isComplete_J38 Q S_13 y1_14) n S_5 r_6)
def vc_X7_firstError (S : Mem) (Q : Mem → Int32 → Prop) : Prop :=
  ∀ S_1 : Mem, S_1 = uc S 15 0 0 (upd (S 15 0 0) 6 (0 : Int32)) →
  vc_X7_isComplete S_1 (fun (S_3 : Mem) (r_4 : Int32) =>
  ((r_4 = 0) →
  Q S_3 (S_3 15 0 0 12)) ∧ ((¬ (r_4 = 0)) →
  Q S_3 (S_3 15 0 0 11)))
def vc_X7_canDo (S : Mem) (x1 : Int32) (Q : Mem → Int32 → Prop) : Prop :=
  vp_in x1 30 ∧
  ((¬ (S 24 0 0 x1.toNatClampNeg) = (116 : Int32)) →
  vp_in x1 30 ∧
  ((¬ (S 24 0 0 x1.toNatClampNeg) = (104 : Int32)) →
  vp_in x1 30 ∧
  (((S 24 0 0 x1.toNatClampNeg) = (112 : Int32)) →
  Q S (1 : Int32)) ∧ ((¬ ((S 24 0 0 x1.toNatClampNeg) = (112 : Int32))) →
  vp_in x1 30 ∧
  vc_X7_is S (S 25 0 0 x1.toNatClampNeg) (fun (S_8 : Mem) (r_9 : Int32) =>
  ((r_9 = 0) →
  Q S_8 (0 : Int32)) ∧ ((¬ (r_9 = 0)) →
  Q S_8 (1 : Int32))))) ∧ (((S 24 0 0 x1.toNatClampNeg) = (104 : Int32)) →
  vp_in (0 : Int32) 226 ∧
  (((9999 : Int32) ≤ (S 16 0 0 (0 : Int32).toNatClampNeg)) →
  Q S (0 : Int32)) ∧ ((¬ ((9999 : Int32) ≤ (S 16 0 0 (0 : Int32).toNatClampNeg))) →
  Q S (1 : Int32)))) ∧ (((S 24 0 0 x1.toNatClampNeg) = (116 : Int32)) →
  vp_in (15 : Int32) 226 ∧
  (((10 : Int32) ≤ (S 16 0 0 (15 : Int32).toNatClampNeg)) →
  Q S (0 : Int32)) ∧ ((¬ ((10 : Int32) ≤ (S 16 0 0 (15 : Int32).toNatClampNeg))) →
  Q S (1 : Int32)))
def vc_X7_doOrder (S : Mem) (x1 : Int32) (Q : Mem → Int32 → Prop) : Prop :=
  vp_in x1 30 ∧
  (((S 24 0 0 x1.toNatClampNeg) = (104 : Int32)) →
  vp_in x1 30 ∧
  vc_X7_pass S ((100 : Int32) * (S 25 0 0 x1.toNatClampNeg)) (fun (S_4 : Mem) (r_5 : Int32) =>
  Q S_4 r_5)) ∧ ((¬ (S 24 0 0 x1.toNatClampNeg) = (104 : Int32)) →
  (((S 24 0 0 x1.toNatClampNeg) = (112 : Int32)) →
  vp_in x1 30 ∧
  vp_in x1 30 ∧
  vc_X7_periodNow S (S 25 0 0 x1.toNatClampNeg) (S 26 0 0 x1.toNatClampNeg) (fun (S_9 : Mem) (r_10 : Int32) =>
  Q S_9 r_10)) ∧ ((¬ (S 24 0 0 x1.toNatClampNeg) = (112 : Int32)) →
  (((S 24 0 0 x1.toNatClampNeg) = (116 : Int32)) →
  vp_in x1 30 ∧
  vp_in x1 30 ∧
  vp_in x1 30 ∧
  vc_X7_add S (S 25 0 0 x1.toNatClampNeg) (S 26 0 0 x1.toNatClampNeg) (0 : Int32) (S 27 0 0 x1.toNatClampNeg) (fun (S_15 : Mem) (r_16 : Int32) =>
  Q S_15 r_16)) ∧ ((¬ (S 24 0 0 x1.toNatClampNeg) = (116 : Int32)) →
  vp_in x1 30 ∧
  vc_X7_calibrateNow S (S 25 0 0 x1.toNatClampNeg) (fun (S_18 : Mem) (r_19 : Int32) =>
  Q S_18 r_19))))
def vc_X7_execute_L24 (Q : Mem → Int32 → Prop) (K : Mem → Int32 → Prop) : Nat → Mem → Int32 → Prop
  | 0, _, _ => False
  | n24 + 1, S, y1 =>
  (((S 15 0 0 13) ≤ y1) →
  K S y1) ∧ ((¬ ((S 15 0 0 13) ≤ y1)) →
  vc_X7_canDo S y1 (fun (S_8 : Mem) (r_9 : Int32) =>
  ((r_9 = 0) →
  K S_8 y1) ∧ ((¬ (r_9 = 0)) →
  vc_X7_doOrder S_8 y1 (fun (S_11 : Mem) (r_12 : Int32) =>
  vc_X7_execute_L24 Q K n24 S_11 (y1 + (1 : Int32))))))
def vc_X7_execute (S : Mem) (Q : Mem → Int32 → Prop) : Prop :=
  ∀ S_1 : Mem, S_1 = uc S 15 0 0 (upd (S 15 0 0) 6 (0 : Int32)) →
  vc_X7_isComplete S_1 (fun (S_3 : Mem) (r_4 : Int32) =>
  ((¬ r_4 = 0) →
  vc_X7_save S_3 (fun (S_6 : Mem) =>
  ∃ n : Nat, vc_X7_execute_L24 Q (fun (S_13 : Mem) (y1_14 : Int32) =>
  ∀ S_15 : Mem, S_15 = uc S_13 15 0 0 (upd (S_13 15 0 0) 11 (0 : Int32)) →
  Q S_15 y1_14) n S_6 (0 : Int32))) ∧ ((r_4 = 0) →
  vc_X7_fails S_3 (1 : Int32) (fun (S_17 : Mem) (r_18 : Int32) =>
  Q S_17 r_18)))
def vc_X7_ofThermometer (S : Mem) (x1 : Int32) (x2 : Int32) (Q : Mem → Int32 → Prop) : Prop :=
  ∀ S_1 : Mem, S_1 = uc S 15 0 0 (upd (S 15 0 0) 6 (0 : Int32)) →
  vc_X7_is S_1 x1 (fun (S_3 : Mem) (r_4 : Int32) =>
  ((¬ r_4 = 0) →
  vc_X7_in S_3 x2 (0 : Int32) (9 : Int32) (fun (S_6 : Mem) (r_7 : Int32) =>
  ((¬ r_7 = 0) →
  ((¬ x2 = (9 : Int32)) →
  vc_X7_of S_6 x1 x2 (fun (S_10 : Mem) (r_11 : Int32) =>
  Q S_10 r_11)) ∧ ((x2 = (9 : Int32)) →
  vc_X7_mended S_6 x1 (fun (S_12 : Mem) (r_13 : Int32) =>
  Q S_12 r_13))) ∧ ((r_7 = 0) →
  vc_X7_fails S_6 (2 : Int32) (fun (S_14 : Mem) (r_15 : Int32) =>
  Q S_14 r_15)))) ∧ ((r_4 = 0) →
  vc_X7_fails S_3 (1 : Int32) (fun (S_16 : Mem) (r_17 : Int32) =>
  Q S_16 r_17)))
def vc_X7_reading (S : Mem) (x1 : Int32) (x2 : Int32) (x3 : Int32) (Q : Mem → Int32 → Prop) : Prop :=
  ∀ S_1 : Mem, S_1 = uc S 15 0 0 (upd (S 15 0 0) 6 (0 : Int32)) →
  vc_X7_is S_1 x1 (fun (S_3 : Mem) (r_4 : Int32) =>
  ((¬ r_4 = 0) →
  ((x2 < 0) →
  vc_X7_fails S_3 (2 : Int32) (fun (S_7 : Mem) (r_8 : Int32) =>
  Q S_7 r_8)) ∧ ((¬ (x2 < 0)) →
  vc_X7_in S_3 x3 (0 : Int32) (1 : Int32) (fun (S_9 : Mem) (r_10 : Int32) =>
  ((¬ r_10 = 0) →
  vc_X7_of S_9 x1 (7 : Int32) (fun (S_12 : Mem) (r_13 : Int32) =>
  ((r_13 ≤ x2) →
  Q S_12 (-999999 : Int32)) ∧ ((¬ (r_13 ≤ x2)) →
  vc_X7_of S_12 x1 (((9 : Int32) + ((2 : Int32) * x2)) + x3) (fun (S_15 : Mem) (r_16 : Int32) =>
  Q S_15 r_16)))) ∧ ((r_10 = 0) →
  vc_X7_fails S_9 (2 : Int32) (fun (S_17 : Mem) (r_18 : Int32) =>
  Q S_17 r_18))))) ∧ ((r_4 = 0) →
  vc_X7_fails S_3 (1 : Int32) (fun (S_19 : Mem) (r_20 : Int32) =>
  Q S_19 r_20)))
def vc_X7_inRow_J31 (Q : Mem → Int32 → Prop) (K0 : Mem → Int32 → Int32 → Prop) (K1 : Mem → Int32 → Prop) (x1 : Int32) (S : Mem) (y3 : Int32) (w0 : Int32) (w1 : Int32) : Prop :=
  K0 S (w0 + w1) (y3 + (1 : Int32))
def vc_X7_inRow_L4 (Q : Mem → Int32 → Prop) (K : Mem → Int32 → Prop) (x1 : Int32) : Nat → Mem → Int32 → Int32 → Prop
  | 0, _, _, _ => False
  | n4 + 1, S, y2, y3 =>
  vp_in (15 : Int32) 226 ∧
  (((S 16 0 0 (15 : Int32).toNatClampNeg) ≤ y3) →
  K S y2) ∧ ((¬ ((S 16 0 0 (15 : Int32).toNatClampNeg) ≤ y3)) →
  vc_X7_of S y3 (0 : Int32) (fun (S_3 : Mem) (r_4 : Int32) =>
  ((¬ r_4 = x1) →
  vc_X7_inRow_J31 Q (vc_X7_inRow_L4 Q K x1 n4) (K) x1 S_3 y3 y2 (0 : Int32)) ∧ ((r_4 = x1) →
  vc_X7_inRow_J31 Q (vc_X7_inRow_L4 Q K x1 n4) (K) x1 S_3 y3 y2 (1 : Int32))))
def vc_X7_inRow (S : Mem) (x1 : Int32) (Q : Mem → Int32 → Prop) : Prop :=
  ∃ n : Nat, vc_X7_inRow_L4 Q (fun (S_6 : Mem) (y2_7 : Int32) =>
  Q S_6 y2_7) x1 n S (0 : Int32) (0 : Int32)
def vc_X7_ofRow (S : Mem) (x1 : Int32) (x2 : Int32) (Q : Mem → Int32 → Prop) : Prop :=
  vp_in ((4 : Int32) + x1) 226 ∧
  ((¬ x2 = 0) →
  ((¬ x2 = (1 : Int32)) →
  ((¬ x2 = (2 : Int32)) →
  vp_in ((8 : Int32) + x1) 226 ∧
  Q S (S 16 0 0 ((8 : Int32) + x1).toNatClampNeg)) ∧ ((x2 = (2 : Int32)) →
  vp_in (0 : Int32) 226 ∧
  (¬ (S 16 0 0 ((4 : Int32) + x1).toNatClampNeg) = 0) ∧
  Q S ((S 16 0 0 ((4 : Int32) + x1).toNatClampNeg) - ((S 16 0 0 (0 : Int32).toNatClampNeg) - (S 16 0 0 (0 : Int32).toNatClampNeg) / (S 16 0 0 ((4 : Int32) + x1).toNatClampNeg) * (S 16 0 0 ((4 : Int32) + x1).toNatClampNeg))))) ∧ ((x2 = (1 : Int32)) →
  vc_X7_inRow S x1 (fun (S_8 : Mem) (r_9 : Int32) =>
  Q S_8 r_9))) ∧ ((x2 = 0) →
  Q S (S 16 0 0 ((4 : Int32) + x1).toNatClampNeg))
def vc_X7_row (S : Mem) (x1 : Int32) (x2 : Int32) (Q : Mem → Int32 → Prop) : Prop :=
  ∀ S_1 : Mem, S_1 = uc S 15 0 0 (upd (S 15 0 0) 6 (0 : Int32)) →
  vc_X7_isRow S_1 x1 (fun (S_3 : Mem) (r_4 : Int32) =>
  ((¬ r_4 = 0) →
  vc_X7_in S_3 x2 (0 : Int32) (3 : Int32) (fun (S_6 : Mem) (r_7 : Int32) =>
  ((r_7 = 0) →
  vc_X7_fails S_6 (2 : Int32) (fun (S_9 : Mem) (r_10 : Int32) =>
  Q S_9 r_10)) ∧ ((¬ (r_7 = 0)) →
  vc_X7_ofRow S_6 x1 x2 (fun (S_11 : Mem) (r_12 : Int32) =>
  Q S_11 r_12)))) ∧ ((r_4 = 0) →
  vc_X7_fails S_3 (1 : Int32) (fun (S_13 : Mem) (r_14 : Int32) =>
  Q S_13 r_14)))
def vc_X7_asked_J31 (Q : Mem → Int32 → Prop) (K0 : Mem → Int32 → Int32 → Prop) (K1 : Mem → Int32 → Prop) (S : Mem) (y2 : Int32) (w0 : Int32) (w1 : Int32) : Prop :=
  K0 S (w0 ||| w1) (y2 + (1 : Int32))
def vc_X7_asked_L4 (Q : Mem → Int32 → Prop) (K : Mem → Int32 → Prop) : Nat → Mem → Int32 → Int32 → Prop
  | 0, _, _, _ => False
  | n4 + 1, S, y1, y2 =>
  vp_in (15 : Int32) 226 ∧
  (((S 16 0 0 (15 : Int32).toNatClampNeg) ≤ y2) →
  K S y1) ∧ ((¬ ((S 16 0 0 (15 : Int32).toNatClampNeg) ≤ y2)) →
  vc_X7_isAsked S y2 (fun (S_3 : Mem) (r_4 : Int32) =>
  ((r_4 = 0) →
  vc_X7_asked_J31 Q (vc_X7_asked_L4 Q K n4) (K) S_3 y2 y1 (0 : Int32)) ∧ ((¬ (r_4 = 0)) →
  vc_X7_asked_J31 Q (vc_X7_asked_L4 Q K n4) (K) S_3 y2 y1 ((1 : Int32) <<< (y2 &&& 31)))))
def vc_X7_asked (S : Mem) (Q : Mem → Int32 → Prop) : Prop :=
  ∃ n : Nat, vc_X7_asked_L4 Q (fun (S_6 : Mem) (y1_7 : Int32) =>
  Q S_6 y1_7) n S (0 : Int32) (0 : Int32)
def vc_X7_shutOut_L4 (Q : Mem → Int32 → Prop) (K : Mem → Int32 → Prop) : Nat → Mem → Int32 → Int32 → Prop
  | 0, _, _, _ => False
  | n4 + 1, S, y1, y2 =>
  vp_in (15 : Int32) 226 ∧
  (((S 16 0 0 (15 : Int32).toNatClampNeg) ≤ y2) →
  K S y1) ∧ ((¬ ((S 16 0 0 (15 : Int32).toNatClampNeg) ≤ y2)) →
  vc_X7_of S y2 (6 : Int32) (fun (S_3 : Mem) (r_4 : Int32) =>
  vc_X7_shutOut_L4 Q K n4 S_3 (y1 ||| (r_4 <<< (y2 &&& 31))) (y2 + (1 : Int32))))
def vc_X7_shutOut (S : Mem) (Q : Mem → Int32 → Prop) : Prop :=
  ∃ n : Nat, vc_X7_shutOut_L4 Q (fun (S_5 : Mem) (y1_6 : Int32) =>
  Q S_5 y1_6) n S (0 : Int32) (0 : Int32)
def vc_X7_number (S : Mem) (x1 : Int32) (Q : Mem → Int32 → Prop) : Prop :=
  ((x1 = (0 : Int32)) →
  vp_in (0 : Int32) 226 ∧
  Q S (S 16 0 0 (0 : Int32).toNatClampNeg)) ∧ ((¬ x1 = (0 : Int32)) →
  ((x1 = (1 : Int32)) →
  vp_in (15 : Int32) 226 ∧
  Q S (S 16 0 0 (15 : Int32).toNatClampNeg)) ∧ ((¬ x1 = (1 : Int32)) →
  ((x1 = (2 : Int32)) →
  vp_in (1 : Int32) 226 ∧
  Q S (S 16 0 0 (1 : Int32).toNatClampNeg)) ∧ ((¬ x1 = (2 : Int32)) →
  ((x1 = (3 : Int32)) →
  vc_X7_asked S (fun (S_8 : Mem) (r_9 : Int32) =>
  Q S_8 r_9)) ∧ ((¬ x1 = (3 : Int32)) →
  ((x1 = (4 : Int32)) →
  vc_X7_shutOut S (fun (S_11 : Mem) (r_12 : Int32) =>
  Q S_11 r_12)) ∧ ((¬ x1 = (4 : Int32)) →
  ((x1 = (5 : Int32)) →
  vc_X7_mean S (fun (S_14 : Mem) (r_15 : Int32) =>
  Q S_14 r_15)) ∧ ((¬ x1 = (5 : Int32)) →
  ((x1 = (6 : Int32)) →
  vc_X7_slope S (fun (S_17 : Mem) (r_18 : Int32) =>
  Q S_17 r_18)) ∧ ((¬ x1 = (6 : Int32)) →
  ((x1 = (7 : Int32)) →
  vc_X7_middleWithout S (-999999 : Int32) (fun (S_20 : Mem) (r_21 : Int32) =>
  Q S_20 r_21)) ∧ ((¬ x1 = (7 : Int32)) →
  ((x1 = (8 : Int32)) →
  vp_in (12 : Int32) 226 ∧
  Q S (S 16 0 0 (12 : Int32).toNatClampNeg)) ∧ ((¬ x1 = (8 : Int32)) →
  ((x1 = (9 : Int32)) →
  vp_in (13 : Int32) 226 ∧
  Q S (S 16 0 0 (13 : Int32).toNatClampNeg)) ∧ ((¬ x1 = (9 : Int32)) →
  ((x1 = (10 : Int32)) →
  Q S (S 15 0 0 2)) ∧ ((¬ x1 = (10 : Int32)) →
  ((x1 = (11 : Int32)) →
  Q S (S 15 0 0 11)) ∧ ((¬ x1 = (11 : Int32)) →
  vp_in (((2 : Int32) + x1) - (12 : Int32)) 226 ∧
  Q S (S 16 0 0 (((2 : Int32) + x1) - (12 : Int32)).toNatClampNeg)))))))))))))
def vc_X7_count (S : Mem) (x1 : Int32) (Q : Mem → Int32 → Prop) : Prop :=
  ∀ S_1 : Mem, S_1 = uc S 15 0 0 (upd (S 15 0 0) 6 (0 : Int32)) →
  vc_X7_in S_1 x1 (0 : Int32) (13 : Int32) (fun (S_3 : Mem) (r_4 : Int32) =>
  ((r_4 = 0) →
  vc_X7_fails S_3 (1 : Int32) (fun (S_6 : Mem) (r_7 : Int32) =>
  Q S_6 r_7)) ∧ ((¬ (r_4 = 0)) →
  vc_X7_number S_3 x1 (fun (S_8 : Mem) (r_9 : Int32) =>
  Q S_8 r_9)))
def vc_X7_off (S : Mem) (x1 : Int32) (Q : Mem → Int32 → Prop) : Prop :=
  vc_X7_mended S x1 (fun (S_1 : Mem) (r_2 : Int32) =>
  vp_in (1 : Int32) 226 ∧
  vc_X7_size S_1 (r_2 - (S_1 16 0 0 (1 : Int32).toNatClampNeg)) (fun (S_4 : Mem) (r_5 : Int32) =>
  Q S_4 r_5))
def vc_X7_key (S : Mem) (x1 : Int32) (x2 : Int32) (Q : Mem → Int32 → Prop) : Prop :=
  ((¬ x2 = 0) →
  vc_X7_off S x1 (fun (S_2 : Mem) (r_3 : Int32) =>
  Q S_2 (-r_3))) ∧ ((x2 = 0) →
  vc_X7_mended S x1 (fun (S_4 : Mem) (r_5 : Int32) =>
  Q S_4 r_5))
def vc_X7_ofRank_J88 (Q : Mem → Int32 → Prop) (K0 : Mem → Int32 → Int32 → Int32 → Int32 → Prop) (K1 : Mem → Int32 → Int32 → Int32 → Prop) (x1 : Int32) (x2 : Int32) (S : Mem) (y3 : Int32) (y4 : Int32) (y6 : Int32) (w0 : Int32) (w1 : Int32) : Prop :=
  K0 S y3 y4 (w0 + w1) (y6 + (1 : Int32))
def vc_X7_ofRank_J87 (Q : Mem → Int32 → Prop) (K0 : Mem → Int32 → Int32 → Int32 → Int32 → Prop) (K1 : Mem → Int32 → Int32 → Int32 → Prop) (x1 : Int32) (x2 : Int32) (S : Mem) (y3 : Int32) (y4 : Int32) (y6 : Int32) (w0 : Int32) : Prop :=
  vc_X7_ofRank_J88 Q (K0) (K1) x1 x2 S y3 y4 y6 w0 (0 : Int32)
def vc_X7_ofRank_J83 (Q : Mem → Int32 → Prop) (K0 : Mem → Int32 → Int32 → Int32 → Int32 → Prop) (K1 : Mem → Int32 → Int32 → Int32 → Prop) (x1 : Int32) (x2 : Int32) (S : Mem) (y3 : Int32) (y4 : Int32) (y6 : Int32) (w0 : Int32) : Prop :=
  vc_X7_ofRank_J88 Q (K0) (K1) x1 x2 S y3 y4 y6 w0 (1 : Int32)
def vc_X7_ofRank_L24 (Q : Mem → Int32 → Prop) (K : Mem → Int32 → Int32 → Int32 → Prop) (x1 : Int32) (x2 : Int32) : Nat → Mem → Int32 → Int32 → Int32 → Int32 → Prop
  | 0, _, _, _, _, _ => False
  | n24 + 1, S, y3, y4, y5, y6 =>
  vp_in (15 : Int32) 226 ∧
  (((S 16 0 0 (15 : Int32).toNatClampNeg) ≤ y6) →
  K S y3 y4 y5) ∧ ((¬ ((S 16 0 0 (15 : Int32).toNatClampNeg) ≤ y6)) →
  vc_X7_key S y6 x1 (fun (S_5 : Mem) (r_6 : Int32) =>
  vc_X7_key S_5 y4 x1 (fun (S_7 : Mem) (r_8 : Int32) =>
  vc_X7_of S_7 y6 (7 : Int32) (fun (S_9 : Mem) (r_10 : Int32) =>
  ((r_10 ≤ 0) →
  vc_X7_ofRank_J87 Q (vc_X7_ofRank_L24 Q K x1 x2 n24) (K) x1 x2 S_9 y3 y4 y6 y5) ∧ ((¬ (r_10 ≤ 0)) →
  (((r_6 - r_8) < 0) →
  vc_X7_ofRank_J83 Q (vc_X7_ofRank_L24 Q K x1 x2 n24) (K) x1 x2 S_9 y3 y4 y6 y5) ∧ ((¬ ((r_6 - r_8) < 0)) →
  ((¬ (r_6 - r_8) = 0) →
  vc_X7_ofRank_J87 Q (vc_X7_ofRank_L24 Q K x1 x2 n24) (K) x1 x2 S_9 y3 y4 y6 y5) ∧ (((r_6 - r_8) = 0) →
  ((y4 ≤ y6) →
  vc_X7_ofRank_J87 Q (vc_X7_ofRank_L24 Q K x1 x2 n24) (K) x1 x2 S_9 y3 y4 y6 y5) ∧ ((¬ (y4 ≤ y6)) →
  vc_X7_ofRank_J83 Q (vc_X7_ofRank_L24 Q K x1 x2 n24) (K) x1 x2 S_9 y3 y4 y6 y5))))))))
def vc_X7_ofRank_J120 (Q : Mem → Int32 → Prop) (K0 : Mem → Int32 → Int32 → Prop) (K1 : Mem → Int32 → Prop) (x1 : Int32) (x2 : Int32) (S : Mem) (y4 : Int32) (w0 : Int32) : Prop :=
  K0 S w0 (y4 + (1 : Int32))
def vc_X7_ofRank_J119 (Q : Mem → Int32 → Prop) (K0 : Mem → Int32 → Int32 → Prop) (K1 : Mem → Int32 → Prop) (x1 : Int32) (x2 : Int32) (S : Mem) (y3 : Int32) (y4 : Int32) : Prop :=
  vc_X7_ofRank_J120 Q (K0) (K1) x1 x2 S y4 y3
def vc_X7_ofRank_L6 (Q : Mem → Int32 → Prop) (K : Mem → Int32 → Prop) (x1 : Int32) (x2 : Int32) : Nat → Mem → Int32 → Int32 → Prop
  | 0, _, _, _ => False
  | n6 + 1, S, y3, y4 =>
  vp_in (15 : Int32) 226 ∧
  (((S 16 0 0 (15 : Int32).toNatClampNeg) ≤ y4) →
  K S y3) ∧ ((¬ ((S 16 0 0 (15 : Int32).toNatClampNeg) ≤ y4)) →
  ∃ n : Nat, vc_X7_ofRank_L24 Q (fun (S_15 : Mem) (y3_16 : Int32) (y4_17 : Int32) (y5_18 : Int32) =>
  vc_X7_of S_15 y4_17 (7 : Int32) (fun (S_19 : Mem) (r_20 : Int32) =>
  ((r_20 ≤ 0) →
  vc_X7_ofRank_J119 Q (vc_X7_ofRank_L6 Q K x1 x2 n6) (K) x1 x2 S_19 y3_16 y4_17) ∧ ((¬ (r_20 ≤ 0)) →
  ((¬ y5_18 = x2) →
  vc_X7_ofRank_J119 Q (vc_X7_ofRank_L6 Q K x1 x2 n6) (K) x1 x2 S_19 y3_16 y4_17) ∧ ((y5_18 = x2) →
  vc_X7_ofRank_J120 Q (vc_X7_ofRank_L6 Q K x1 x2 n6) (K) x1 x2 S_19 y4_17 y4_17)))) x1 x2 n S y3 y4 (0 : Int32) (0 : Int32))
def vc_X7_ofRank (S : Mem) (x1 : Int32) (x2 : Int32) (Q : Mem → Int32 → Prop) : Prop :=
  ∃ n : Nat, vc_X7_ofRank_L6 Q (fun (S_23 : Mem) (y3_24 : Int32) =>
  Q S_23 y3_24) x1 x2 n S (-999999 : Int32) (0 : Int32)
def vc_X7_ranked (S : Mem) (x1 : Int32) (x2 : Int32) (Q : Mem → Int32 → Prop) : Prop :=
  ∀ S_1 : Mem, S_1 = uc S 15 0 0 (upd (S 15 0 0) 6 (0 : Int32)) →
  vc_X7_in S_1 x1 (0 : Int32) (1 : Int32) (fun (S_3 : Mem) (r_4 : Int32) =>
  ((r_4 = 0) →
  vc_X7_fails S_3 (1 : Int32) (fun (S_6 : Mem) (r_7 : Int32) =>
  Q S_6 r_7)) ∧ ((¬ (r_4 = 0)) →
  ((x2 < 0) →
  vc_X7_fails S_3 (1 : Int32) (fun (S_9 : Mem) (r_10 : Int32) =>
  Q S_9 r_10)) ∧ ((¬ (x2 < 0)) →
  vc_X7_ofRank S_3 x1 x2 (fun (S_11 : Mem) (r_12 : Int32) =>
  Q S_11 r_12))))
def vc_X7_between_J53 (Q : Mem → Int32 → Prop) (K0 : Mem → Int32 → Int32 → Prop) (K1 : Mem → Int32 → Prop) (x1 : Int32) (x2 : Int32) (S : Mem) (y4 : Int32) (w0 : Int32) (w1 : Int32) : Prop :=
  K0 S (w0 + w1) (y4 + (1 : Int32))
def vc_X7_between_J52 (Q : Mem → Int32 → Prop) (K0 : Mem → Int32 → Int32 → Prop) (K1 : Mem → Int32 → Prop) (x1 : Int32) (x2 : Int32) (S : Mem) (y4 : Int32) (w0 : Int32) : Prop :=
  vc_X7_between_J53 Q (K0) (K1) x1 x2 S y4 w0 (0 : Int32)
def vc_X7_between_L10 (Q : Mem → Int32 → Prop) (K : Mem → Int32 → Prop) (x1 : Int32) (x2 : Int32) : Nat → Mem → Int32 → Int32 → Prop
  | 0, _, _, _ => False
  | n10 + 1, S, y3, y4 =>
  vp_in (15 : Int32) 226 ∧
  (((S 16 0 0 (15 : Int32).toNatClampNeg) ≤ y4) →
  K S y3) ∧ ((¬ ((S 16 0 0 (15 : Int32).toNatClampNeg) ≤ y4)) →
  vc_X7_of S y4 (7 : Int32) (fun (S_5 : Mem) (r_6 : Int32) =>
  ((r_6 ≤ 0) →
  vc_X7_between_J52 Q (vc_X7_between_L10 Q K x1 x2 n10) (K) x1 x2 S_5 y4 y3) ∧ ((¬ (r_6 ≤ 0)) →
  vc_X7_mended S_5 y4 (fun (S_8 : Mem) (r_9 : Int32) =>
  vc_X7_in S_8 r_9 x1 x2 (fun (S_10 : Mem) (r_11 : Int32) =>
  ((r_11 = 0) →
  vc_X7_between_J52 Q (vc_X7_between_L10 Q K x1 x2 n10) (K) x1 x2 S_10 y4 y3) ∧ ((¬ (r_11 = 0)) →
  vc_X7_between_J53 Q (vc_X7_between_L10 Q K x1 x2 n10) (K) x1 x2 S_10 y4 y3 (1 : Int32)))))))
def vc_X7_between (S : Mem) (x1 : Int32) (x2 : Int32) (Q : Mem → Int32 → Prop) : Prop :=
  ∀ S_1 : Mem, S_1 = uc S 15 0 0 (upd (S 15 0 0) 6 (0 : Int32)) →
  ∃ n : Nat, vc_X7_between_L10 Q (fun (S_13 : Mem) (y3_14 : Int32) =>
  Q S_13 y3_14) x1 x2 n S_1 (0 : Int32) (0 : Int32)
def vc_X7_ifLag (S : Mem) (x1 : Int32) (x2 : Int32) (Q : Mem → Int32 → Prop) : Prop :=
  ∀ S_1 : Mem, S_1 = uc S 15 0 0 (upd (S 15 0 0) 6 (0 : Int32)) →
  vc_X7_is S_1 x1 (fun (S_3 : Mem) (r_4 : Int32) =>
  ((¬ r_4 = 0) →
  vc_X7_in S_3 x2 (1 : Int32) (9 : Int32) (fun (S_6 : Mem) (r_7 : Int32) =>
  ((r_7 = 0) →
  vc_X7_fails S_6 (2 : Int32) (fun (S_9 : Mem) (r_10 : Int32) =>
  Q S_9 r_10)) ∧ ((¬ (r_7 = 0)) →
  vc_X7_mendedBy S_6 x1 x2 (fun (S_11 : Mem) (r_12 : Int32) =>
  Q S_11 r_12)))) ∧ ((r_4 = 0) →
  vc_X7_fails S_3 (1 : Int32) (fun (S_13 : Mem) (r_14 : Int32) =>
  Q S_13 r_14)))
def vc_X7_best_J63 (Q : Mem → Int32 → Prop) (K0 : Mem → Int32 → Int32 → Prop) (K1 : Mem → Int32 → Prop) (x1 : Int32) (S : Mem) (y3 : Int32) (w0 : Int32) : Prop :=
  K0 S w0 (y3 + (1 : Int32))
def vc_X7_best_L17 (Q : Mem → Int32 → Prop) (K : Mem → Int32 → Prop) (x1 : Int32) : Nat → Mem → Int32 → Int32 → Prop
  | 0, _, _, _ => False
  | n17 + 1, S, y2, y3 =>
  (((9 : Int32) < y3) →
  K S y2) ∧ ((¬ ((9 : Int32) < y3)) →
  vc_X7_mendedBy S x1 y3 (fun (S_5 : Mem) (r_6 : Int32) =>
  vp_in (1 : Int32) 226 ∧
  vc_X7_size S_5 (r_6 - (S_5 16 0 0 (1 : Int32).toNatClampNeg)) (fun (S_8 : Mem) (r_9 : Int32) =>
  vc_X7_mendedBy S_8 x1 y2 (fun (S_10 : Mem) (r_11 : Int32) =>
  vp_in (1 : Int32) 226 ∧
  vc_X7_size S_10 (r_11 - (S_10 16 0 0 (1 : Int32).toNatClampNeg)) (fun (S_13 : Mem) (r_14 : Int32) =>
  ((r_14 ≤ r_9) →
  vc_X7_best_J63 Q (vc_X7_best_L17 Q K x1 n17) (K) x1 S_13 y3 y2) ∧ ((¬ (r_14 ≤ r_9)) →
  vc_X7_best_J63 Q (vc_X7_best_L17 Q K x1 n17) (K) x1 S_13 y3 y3))))))
def vc_X7_best (S : Mem) (x1 : Int32) (Q : Mem → Int32 → Prop) : Prop :=
  vc_X7_of S x1 (7 : Int32) (fun (S_1 : Mem) (r_2 : Int32) =>
  ((¬ r_2 = 0) →
  ∃ n : Nat, vc_X7_best_L17 Q (fun (S_16 : Mem) (y2_17 : Int32) =>
  Q S_16 y2_17) x1 n S_1 (1 : Int32) (2 : Int32)) ∧ ((r_2 = 0) →
  Q S_1 (-999999 : Int32)))
def vc_X7_bestLag (S : Mem) (x1 : Int32) (Q : Mem → Int32 → Prop) : Prop :=
  ∀ S_1 : Mem, S_1 = uc S 15 0 0 (upd (S 15 0 0) 6 (0 : Int32)) →
  vc_X7_is S_1 x1 (fun (S_3 : Mem) (r_4 : Int32) =>
  ((r_4 = 0) →
  vc_X7_fails S_3 (1 : Int32) (fun (S_6 : Mem) (r_7 : Int32) =>
  Q S_6 r_7)) ∧ ((¬ (r_4 = 0)) →
  vc_X7_best S_3 x1 (fun (S_8 : Mem) (r_9 : Int32) =>
  Q S_8 r_9)))
def vc_X7_widest_J49 (Q : Mem → Int32 → Prop) (K0 : Mem → Int32 → Int32 → Prop) (K1 : Mem → Int32 → Prop) (S : Mem) (y2 : Int32) (w0 : Int32) : Prop :=
  K0 S w0 (y2 + (1 : Int32))
def vc_X7_widest_L4 (Q : Mem → Int32 → Prop) (K : Mem → Int32 → Prop) : Nat → Mem → Int32 → Int32 → Prop
  | 0, _, _, _ => False
  | n4 + 1, S, y1, y2 =>
  vp_in (15 : Int32) 226 ∧
  (((S 16 0 0 (15 : Int32).toNatClampNeg) ≤ y2) →
  K S y1) ∧ ((¬ ((S 16 0 0 (15 : Int32).toNatClampNeg) ≤ y2)) →
  vc_X7_of S y2 (4 : Int32) (fun (S_3 : Mem) (r_4 : Int32) =>
  vc_X7_of S_3 y2 (2 : Int32) (fun (S_5 : Mem) (r_6 : Int32) =>
  vp_in (1 : Int32) 226 ∧
  vc_X7_size S_5 ((r_4 - r_6) - (S_5 16 0 0 (1 : Int32).toNatClampNeg)) (fun (S_8 : Mem) (r_9 : Int32) =>
  ((r_9 ≤ y1) →
  vc_X7_widest_J49 Q (vc_X7_widest_L4 Q K n4) (K) S_8 y2 y1) ∧ ((¬ (r_9 ≤ y1)) →
  vc_X7_widest_J49 Q (vc_X7_widest_L4 Q K n4) (K) S_8 y2 r_9)))))
def vc_X7_widest (S : Mem) (Q : Mem → Int32 → Prop) : Prop :=
  ∃ n : Nat, vc_X7_widest_L4 Q (fun (S_11 : Mem) (y1_12 : Int32) =>
  Q S_11 y1_12) n S (0 : Int32) (0 : Int32)
def vc_X7_behind_L2 (Q : Mem → Int32 → Prop) (K : Mem → Prop) (x1 : Int32) (x2 : Int32) : Nat → Mem → Int32 → Prop
  | 0, _, _ => False
  | n2 + 1, S, y3 =>
  (((226 : Int32) ≤ y3) →
  K S) ∧ ((¬ ((226 : Int32) ≤ y3)) →
  vp_in y3 226 ∧
  vp_in y3 226 ∧
  ∀ S_3 : Mem, S_3 = uc S 20 0 0 (upd (S 20 0 0) y3.toNatClampNeg (S 16 0 0 y3.toNatClampNeg)) →
  vc_X7_behind_L2 Q K x1 x2 n2 S_3 (y3 + (1 : Int32)))
def vc_X7_behind_L29 (Q : Mem → Int32 → Prop) (K : Mem → Prop) (x1 : Int32) (x2 : Int32) : Nat → Mem → Int32 → Prop
  | 0, _, _ => False
  | n29 + 1, S, y3 =>
  ((x1 ≤ y3) →
  K S) ∧ ((¬ (x1 ≤ y3)) →
  vp_in (1 : Int32) 226 ∧
  vc_X7_pass S (S 16 0 0 (1 : Int32).toNatClampNeg) (fun (S_9 : Mem) (r_10 : Int32) =>
  vc_X7_behind_L29 Q K x1 x2 n29 S_9 (y3 + (1 : Int32))))
def vc_X7_behind_L106 (Q : Mem → Int32 → Prop) (K : Mem → Int32 → Prop) (x1 : Int32) (x2 : Int32) : Nat → Mem → Int32 → Int32 → Prop
  | 0, _, _, _ => False
  | n106 + 1, S, y3, y4 =>
  (((226 : Int32) ≤ y4) →
  K S y3) ∧ ((¬ ((226 : Int32) ≤ y4)) →
  vp_in y4 226 ∧
  vp_in y4 226 ∧
  ∀ S_19 : Mem, S_19 = uc S 16 0 0 (upd (S 16 0 0) y4.toNatClampNeg (S 20 0 0 y4.toNatClampNeg)) →
  vc_X7_behind_L106 Q K x1 x2 n106 S_19 y3 (y4 + (1 : Int32)))
def vc_X7_behind_J102 (Q : Mem → Int32 → Prop) (x1 : Int32) (x2 : Int32) (S : Mem) (w0 : Int32) : Prop :=
  ∃ n : Nat, vc_X7_behind_L106 Q (fun (S_22 : Mem) (y3_23 : Int32) =>
  Q S_22 y3_23) x1 x2 n S w0 (0 : Int32)
def vc_X7_behind (S : Mem) (x1 : Int32) (x2 : Int32) (Q : Mem → Int32 → Prop) : Prop :=
  ∃ n : Nat, vc_X7_behind_L2 Q (fun (S_6 : Mem) =>
  ∃ n : Nat, vc_X7_behind_L29 Q (fun (S_11 : Mem) =>
  ((¬ x2 = 0) →
  ((¬ x2 = (1 : Int32)) →
  ((¬ x2 = (2 : Int32)) →
  vc_X7_widest S_11 (fun (S_15 : Mem) (r_16 : Int32) =>
  vc_X7_behind_J102 Q x1 x2 S_15 r_16)) ∧ ((x2 = (2 : Int32)) →
  vp_in (13 : Int32) 226 ∧
  vp_in (13 : Int32) 226 ∧
  vc_X7_behind_J102 Q x1 x2 S_11 ((S_11 16 0 0 (13 : Int32).toNatClampNeg) - (S_11 20 0 0 (13 : Int32).toNatClampNeg)))) ∧ ((x2 = (1 : Int32)) →
  vc_X7_shutOut S_11 (fun (S_26 : Mem) (r_27 : Int32) =>
  vc_X7_behind_J102 Q x1 x2 S_26 r_27))) ∧ ((x2 = 0) →
  vc_X7_mean S_11 (fun (S_28 : Mem) (r_29 : Int32) =>
  vc_X7_behind_J102 Q x1 x2 S_28 r_29))) x1 x2 n S_6 (0 : Int32)) x1 x2 n S (0 : Int32)
def vc_X7_ifStill (S : Mem) (x1 : Int32) (x2 : Int32) (Q : Mem → Int32 → Prop) : Prop :=
  ∀ S_1 : Mem, S_1 = uc S 15 0 0 (upd (S 15 0 0) 6 (0 : Int32)) →
  vc_X7_in S_1 x1 (1 : Int32) (48 : Int32) (fun (S_3 : Mem) (r_4 : Int32) =>
  ((r_4 = 0) →
  vc_X7_fails S_3 (1 : Int32) (fun (S_6 : Mem) (r_7 : Int32) =>
  Q S_6 r_7)) ∧ ((¬ (r_4 = 0)) →
  vc_X7_in S_3 x2 (0 : Int32) (3 : Int32) (fun (S_8 : Mem) (r_9 : Int32) =>
  ((r_9 = 0) →
  vc_X7_fails S_8 (1 : Int32) (fun (S_11 : Mem) (r_12 : Int32) =>
  Q S_11 r_12)) ∧ ((¬ (r_9 = 0)) →
  vc_X7_behind S_8 x1 x2 (fun (S_13 : Mem) (r_14 : Int32) =>
  Q S_13 r_14)))))
def vc_X7_stillIn_L28 (Q : Mem → Int32 → Prop) (K : Mem → Int32 → Int32 → Prop) (x1 : Int32) : Nat → Mem → Int32 → Int32 → Prop
  | 0, _, _, _ => False
  | n28 + 1, S, y2, y3 =>
  vc_X7_changeOf S x1 (fun (S_8 : Mem) (r_9 : Int32) =>
  ((r_9 = 0) →
  K S_8 y2 y3) ∧ ((¬ (r_9 = 0)) →
  vc_X7_follow S_8 x1 (fun (S_11 : Mem) =>
  vc_X7_stillIn_L28 Q K x1 n28 S_11 y2 (y3 + (1 : Int32)))))
def vc_X7_stillIn (S : Mem) (x1 : Int32) (Q : Mem → Int32 → Prop) : Prop :=
  ∀ S_1 : Mem, S_1 = uc S 15 0 0 (upd (S 15 0 0) 6 (0 : Int32)) →
  vc_X7_is S_1 x1 (fun (S_3 : Mem) (r_4 : Int32) =>
  ((¬ r_4 = 0) →
  vc_X7_of S_3 x1 (4 : Int32) (fun (S_6 : Mem) (r_7 : Int32) =>
  ∃ n : Nat, vc_X7_stillIn_L28 Q (fun (S_12 : Mem) (y2_13 : Int32) (y3_14 : Int32) =>
  vc_X7_put S_12 x1 (4 : Int32) y2_13 (fun (S_15 : Mem) =>
  Q S_15 y3_14)) x1 n S_6 r_7 (0 : Int32))) ∧ ((r_4 = 0) →
  vc_X7_fails S_3 (1 : Int32) (fun (S_16 : Mem) (r_17 : Int32) =>
  Q S_16 r_17)))
