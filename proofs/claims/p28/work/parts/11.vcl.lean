def vc_L_low (S : Mem) (x0 : Int32) (x1 : Int32) (Q : Mem → Int32 → Prop) : Prop :=
  (¬ x1 = 0) ∧
  Q S ((x0 &&& (2147483647 : Int32)) - (x0 &&& (2147483647 : Int32)) / x1 * x1)
def vc_L_mended_J66 (Q : Mem → Int32 → Prop) (PP : Nat) (x3 : Int32) (x4 : Int32) (S : Mem) (w0 : Int32) : Prop :=
  vp_in ((6 : Int32) * x3) 36 ∧
  vp_in (((10 : Int32) * x3) + (2 : Int32)) 60 ∧
  Q S (((S 17 PP 0 ((6 : Int32) * x3).toNatClampNeg) + w0) - (S 15 PP 0 (((10 : Int32) * x3) + (2 : Int32)).toNatClampNeg))
def vc_L_mended (S : Mem) (PP : Nat) (x3 : Int32) (x4 : Int32) (Q : Mem → Int32 → Prop) : Prop :=
  vp_in (((10 : Int32) * x3) + (7 : Int32)) 60 ∧
  (((1 : Int32) ≤ (S 15 PP 0 (((10 : Int32) * x3) + (7 : Int32)).toNatClampNeg)) →
  (((2 : Int32) ≤ (S 15 PP 0 (((10 : Int32) * x3) + (7 : Int32)).toNatClampNeg)) →
  vp_in ((6 : Int32) * x3) 36 ∧
  vp_in (((6 : Int32) * x3) + (1 : Int32)) 36 ∧
  vp_in ((6 : Int32) * x3) 36 ∧
  vp_in (((6 : Int32) * x3) + (1 : Int32)) 36 ∧
  (¬ ((S 16 PP 0 ((6 : Int32) * x3).toNatClampNeg) - (S 16 PP 0 (((6 : Int32) * x3) + (1 : Int32)).toNatClampNeg)) = 0) ∧
  vc_L_mended_J66 Q PP x3 x4 S ((((S 17 PP 0 ((6 : Int32) * x3).toNatClampNeg) - (S 17 PP 0 (((6 : Int32) * x3) + (1 : Int32)).toNatClampNeg)) * (x4 - (1 : Int32))) / ((S 16 PP 0 ((6 : Int32) * x3).toNatClampNeg) - (S 16 PP 0 (((6 : Int32) * x3) + (1 : Int32)).toNatClampNeg)))) ∧ ((¬ ((2 : Int32) ≤ (S 15 PP 0 (((10 : Int32) * x3) + (7 : Int32)).toNatClampNeg))) →
  vc_L_mended_J66 Q PP x3 x4 S (0 : Int32))) ∧ ((¬ ((1 : Int32) ≤ (S 15 PP 0 (((10 : Int32) * x3) + (7 : Int32)).toNatClampNeg))) →
  Q S (-999999 : Int32))
def vc_L_own (S : Mem) (PP : Nat) (x3 : Int32) (Q : Mem → Int32 → Prop) : Prop :=
  vp_in (((10 : Int32) * x3) + (1 : Int32)) 60 ∧
  vc_L_mended S PP x3 (S 15 PP 0 (((10 : Int32) * x3) + (1 : Int32)).toNatClampNeg) (fun (S_2 : Mem) (r_3 : Int32) =>
  Q S_2 r_3)
def vc_L_asked (S : Mem) (PP : Nat) (x1 : Int32) (Q : Mem → Int32 → Prop) : Prop :=
  vp_in (((10 : Int32) * x1) + (7 : Int32)) 60 ∧
  (((S 15 PP 0 (((10 : Int32) * x1) + (7 : Int32)).toNatClampNeg) ≤ 0) →
  Q S (0 : Int32)) ∧ ((¬ ((S 15 PP 0 (((10 : Int32) * x1) + (7 : Int32)).toNatClampNeg) ≤ 0)) →
  vp_in (((10 : Int32) * x1) + (6 : Int32)) 60 ∧
  ((¬ (S 15 PP 0 (((10 : Int32) * x1) + (6 : Int32)).toNatClampNeg) = 0) →
  Q S (0 : Int32)) ∧ (((S 15 PP 0 (((10 : Int32) * x1) + (6 : Int32)).toNatClampNeg) = 0) →
  Q S (1 : Int32)))
def vc_L_middle_J38 (Q : Mem → Int32 → Prop) (K0 : Mem → Int32 → Int32 → Prop) (K1 : Mem → Int32 → Prop) (PP : Nat) (x4 : Int32) (S : Mem) (y6 : Int32) (w0 : Int32) (w1 : Int32) : Prop :=
  K0 S (w0 + w1) (y6 + (1 : Int32))
def vc_L_middle_J37 (Q : Mem → Int32 → Prop) (K0 : Mem → Int32 → Int32 → Prop) (K1 : Mem → Int32 → Prop) (PP : Nat) (x4 : Int32) (S : Mem) (y6 : Int32) (w0 : Int32) : Prop :=
  vc_L_middle_J38 Q (K0) (K1) PP x4 S y6 w0 (0 : Int32)
def vc_L_middle_L6 (Q : Mem → Int32 → Prop) (K : Mem → Int32 → Prop) (PP : Nat) (x4 : Int32) : Nat → Mem → Int32 → Int32 → Prop
  | 0, _, _, _ => False
  | n6 + 1, S, y5, y6 =>
  vp_in (15 : Int32) 16 ∧
  (((S 18 PP 0 (15 : Int32).toNatClampNeg) ≤ y6) →
  K S y5) ∧ ((¬ ((S 18 PP 0 (15 : Int32).toNatClampNeg) ≤ y6)) →
  ((y6 = x4) →
  vc_L_middle_J37 Q (vc_L_middle_L6 Q K PP x4 n6) (K) PP x4 S y6 y5) ∧ ((¬ (y6 = x4)) →
  vc_L_asked S PP y6 (fun (S_4 : Mem) (r_5 : Int32) =>
  ((r_5 = 0) →
  vc_L_middle_J37 Q (vc_L_middle_L6 Q K PP x4 n6) (K) PP x4 S_4 y6 y5) ∧ ((¬ (r_5 = 0)) →
  vc_L_middle_J38 Q (vc_L_middle_L6 Q K PP x4 n6) (K) PP x4 S_4 y6 y5 (1 : Int32)))))
def vc_L_middle_J199 (Q : Mem → Int32 → Prop) (K0 : Mem → Int32 → Int32 → Prop) (K1 : Mem → Prop) (PP : Nat) (x4 : Int32) (S : Mem) (y5 : Int32) (y6 : Int32) : Prop :=
  K0 S y5 (y6 + (1 : Int32))
def vc_L_middle_J170 (Q : Mem → Int32 → Prop) (K0 : Mem → Int32 → Int32 → Int32 → Int32 → Prop) (K1 : Mem → Int32 → Int32 → Int32 → Prop) (PP : Nat) (x4 : Int32) (S : Mem) (y5 : Int32) (y6 : Int32) (y8 : Int32) (w0 : Int32) (w1 : Int32) : Prop :=
  K0 S y5 y6 (w0 + w1) (y8 + (1 : Int32))
def vc_L_middle_J169 (Q : Mem → Int32 → Prop) (K0 : Mem → Int32 → Int32 → Int32 → Int32 → Prop) (K1 : Mem → Int32 → Int32 → Int32 → Prop) (PP : Nat) (x4 : Int32) (S : Mem) (y5 : Int32) (y6 : Int32) (y8 : Int32) (w0 : Int32) : Prop :=
  vc_L_middle_J170 Q (K0) (K1) PP x4 S y5 y6 y8 w0 (0 : Int32)
def vc_L_middle_J140 (Q : Mem → Int32 → Prop) (K0 : Mem → Int32 → Int32 → Int32 → Int32 → Prop) (K1 : Mem → Int32 → Int32 → Int32 → Prop) (PP : Nat) (x4 : Int32) (S : Mem) (y5 : Int32) (y6 : Int32) (y7 : Int32) (y8 : Int32) (w0 : Int32) : Prop :=
  ((y8 = x4) →
  vc_L_middle_J169 Q (K0) (K1) PP x4 S y5 y6 y8 y7) ∧ ((¬ (y8 = x4)) →
  vc_L_asked S PP y8 (fun (S_23 : Mem) (r_24 : Int32) =>
  ((r_24 = 0) →
  vc_L_middle_J169 Q (K0) (K1) PP x4 S_23 y5 y6 y8 y7) ∧ ((¬ (r_24 = 0)) →
  ((w0 = 0) →
  vc_L_middle_J169 Q (K0) (K1) PP x4 S_23 y5 y6 y8 y7) ∧ ((¬ (w0 = 0)) →
  vc_L_middle_J170 Q (K0) (K1) PP x4 S_23 y5 y6 y8 y7 (1 : Int32)))))
def vc_L_middle_J135 (Q : Mem → Int32 → Prop) (K0 : Mem → Int32 → Int32 → Int32 → Int32 → Prop) (K1 : Mem → Int32 → Int32 → Int32 → Prop) (PP : Nat) (x4 : Int32) (S : Mem) (y5 : Int32) (y6 : Int32) (y7 : Int32) (y8 : Int32) : Prop :=
  vc_L_middle_J140 Q (K0) (K1) PP x4 S y5 y6 y7 y8 (1 : Int32)
def vc_L_middle_J139 (Q : Mem → Int32 → Prop) (K0 : Mem → Int32 → Int32 → Int32 → Int32 → Prop) (K1 : Mem → Int32 → Int32 → Int32 → Prop) (PP : Nat) (x4 : Int32) (S : Mem) (y5 : Int32) (y6 : Int32) (y7 : Int32) (y8 : Int32) : Prop :=
  vc_L_middle_J140 Q (K0) (K1) PP x4 S y5 y6 y7 y8 (0 : Int32)
def vc_L_middle_L81 (Q : Mem → Int32 → Prop) (K : Mem → Int32 → Int32 → Int32 → Prop) (PP : Nat) (x4 : Int32) : Nat → Mem → Int32 → Int32 → Int32 → Int32 → Prop
  | 0, _, _, _, _, _ => False
  | n81 + 1, S, y5, y6, y7, y8 =>
  vp_in (15 : Int32) 16 ∧
  (((S 18 PP 0 (15 : Int32).toNatClampNeg) ≤ y8) →
  K S y5 y6 y7) ∧ ((¬ ((S 18 PP 0 (15 : Int32).toNatClampNeg) ≤ y8)) →
  vc_L_own S PP y8 (fun (S_17 : Mem) (r_18 : Int32) =>
  vc_L_own S_17 PP y6 (fun (S_19 : Mem) (r_20 : Int32) =>
  ((r_18 < r_20) →
  vc_L_middle_J135 Q (vc_L_middle_L81 Q K PP x4 n81) (K) PP x4 S_19 y5 y6 y7 y8) ∧ ((¬ (r_18 < r_20)) →
  vc_L_own S_19 PP y8 (fun (S_27 : Mem) (r_28 : Int32) =>
  vc_L_own S_27 PP y6 (fun (S_29 : Mem) (r_30 : Int32) =>
  ((¬ r_28 = r_30) →
  vc_L_middle_J139 Q (vc_L_middle_L81 Q K PP x4 n81) (K) PP x4 S_29 y5 y6 y7 y8) ∧ ((r_28 = r_30) →
  ((y6 ≤ y8) →
  vc_L_middle_J139 Q (vc_L_middle_L81 Q K PP x4 n81) (K) PP x4 S_29 y5 y6 y7 y8) ∧ ((¬ (y6 ≤ y8)) →
  vc_L_middle_J135 Q (vc_L_middle_L81 Q K PP x4 n81) (K) PP x4 S_29 y5 y6 y7 y8))))))))
def vc_L_middle_L50 (Q : Mem → Int32 → Prop) (K : Mem → Prop) (PP : Nat) (x4 : Int32) : Nat → Mem → Int32 → Int32 → Prop
  | 0, _, _, _ => False
  | n50 + 1, S, y5, y6 =>
  vp_in (15 : Int32) 16 ∧
  (((S 18 PP 0 (15 : Int32).toNatClampNeg) ≤ y6) →
  K S) ∧ ((¬ ((S 18 PP 0 (15 : Int32).toNatClampNeg) ≤ y6)) →
  ((y6 = x4) →
  vc_L_middle_J199 Q (vc_L_middle_L50 Q K PP x4 n50) (K) PP x4 S y5 y6) ∧ ((¬ (y6 = x4)) →
  vc_L_asked S PP y6 (fun (S_12 : Mem) (r_13 : Int32) =>
  ((r_13 = 0) →
  vc_L_middle_J199 Q (vc_L_middle_L50 Q K PP x4 n50) (K) PP x4 S_12 y5 y6) ∧ ((¬ (r_13 = 0)) →
  ∃ n : Nat, vc_L_middle_L81 Q (fun (S_33 : Mem) (y5_34 : Int32) (y6_35 : Int32) (y7_36 : Int32) =>
  (¬ (2 : Int32) = 0) ∧
  ((¬ y7_36 = ((y5_34 - (1 : Int32)) / (2 : Int32))) →
  vc_L_middle_J199 Q (vc_L_middle_L50 Q K PP x4 n50) (K) PP x4 S_33 y5_34 y6_35) ∧ ((y7_36 = ((y5_34 - (1 : Int32)) / (2 : Int32))) →
  vc_L_own S_33 PP y6_35 (fun (S_39 : Mem) (r_40 : Int32) =>
  Q S_39 r_40))) PP x4 n S_12 y5 y6 (0 : Int32) (0 : Int32)))))
def vc_L_middle (S : Mem) (PP : Nat) (x4 : Int32) (Q : Mem → Int32 → Prop) : Prop :=
  ∃ n : Nat, vc_L_middle_L6 Q (fun (S_7 : Mem) (y5_8 : Int32) =>
  ∃ n : Nat, vc_L_middle_L50 Q (fun (S_41 : Mem) =>
  Q S_41 (-999999 : Int32)) PP x4 n S_7 y5_8 (0 : Int32)) PP x4 n S (0 : Int32) (0 : Int32)
def vc_L_mean_J78 (Q : Mem → Int32 → Prop) (K0 : Mem → Int32 → Int32 → Int32 → Prop) (K1 : Mem → Int32 → Int32 → Prop) (PP : Nat) (S : Mem) (y4 : Int32) (y6 : Int32) (w0 : Int32) (w1 : Int32) : Prop :=
  K0 S y4 (w0 + w1) (y6 + (1 : Int32))
def vc_L_mean_J51 (Q : Mem → Int32 → Prop) (K0 : Mem → Int32 → Int32 → Int32 → Prop) (K1 : Mem → Int32 → Int32 → Prop) (PP : Nat) (S : Mem) (y5 : Int32) (y6 : Int32) (w0 : Int32) (w1 : Int32) : Prop :=
  vc_L_asked S PP y6 (fun (S_6 : Mem) (r_7 : Int32) =>
  ((r_7 = 0) →
  vc_L_mean_J78 Q (K0) (K1) PP S_6 (w0 + w1) y6 y5 (0 : Int32)) ∧ ((¬ (r_7 = 0)) →
  vp_in (((10 : Int32) * y6) + (3 : Int32)) 60 ∧
  vc_L_mean_J78 Q (K0) (K1) PP S_6 (w0 + w1) y6 y5 (S_6 15 PP 0 (((10 : Int32) * y6) + (3 : Int32)).toNatClampNeg)))
def vc_L_mean_L9 (Q : Mem → Int32 → Prop) (K : Mem → Int32 → Int32 → Prop) (PP : Nat) : Nat → Mem → Int32 → Int32 → Int32 → Prop
  | 0, _, _, _, _ => False
  | n9 + 1, S, y4, y5, y6 =>
  vp_in (15 : Int32) 16 ∧
  (((S 18 PP 0 (15 : Int32).toNatClampNeg) ≤ y6) →
  K S y4 y5) ∧ ((¬ ((S 18 PP 0 (15 : Int32).toNatClampNeg) ≤ y6)) →
  vc_L_asked S PP y6 (fun (S_3 : Mem) (r_4 : Int32) =>
  ((r_4 = 0) →
  vc_L_mean_J51 Q (vc_L_mean_L9 Q K PP n9) (K) PP S_3 y5 y6 y4 (0 : Int32)) ∧ ((¬ (r_4 = 0)) →
  vp_in (((10 : Int32) * y6) + (3 : Int32)) 60 ∧
  vc_L_own S_3 PP y6 (fun (S_11 : Mem) (r_12 : Int32) =>
  vc_L_mean_J51 Q (vc_L_mean_L9 Q K PP n9) (K) PP S_11 y5 y6 y4 ((S_3 15 PP 0 (((10 : Int32) * y6) + (3 : Int32)).toNatClampNeg) * r_12)))))
def vc_L_mean (S : Mem) (PP : Nat) (Q : Mem → Int32 → Prop) : Prop :=
  ∃ n : Nat, vc_L_mean_L9 Q (fun (S_13 : Mem) (y4_14 : Int32) (y5_15 : Int32) =>
  ((y5_15 ≤ 0) →
  Q S_13 (-999999 : Int32)) ∧ ((¬ (y5_15 ≤ 0)) →
  (¬ y5_15 = 0) ∧
  Q S_13 (y4_14 / y5_15))) PP n S (0 : Int32) (0 : Int32) (0 : Int32)
def vc_L_size (S : Mem) (x0 : Int32) (Q : Mem → Int32 → Prop) : Prop :=
  ((0 ≤ x0) →
  Q S x0) ∧ ((¬ (0 ≤ x0)) →
  Q S (-x0))
def vc_L_change (S : Mem) (PP : Nat) (x2 : Int32) (Q : Mem → Int32 → Prop) : Prop :=
  vp_in (1 : Int32) 16 ∧
  vp_in (((10 : Int32) * x2) + (2 : Int32)) 60 ∧
  vp_in (((10 : Int32) * x2) + (4 : Int32)) 60 ∧
  vp_in (((10 : Int32) * x2) + (1 : Int32)) 60 ∧
  (¬ (S 15 PP 0 (((10 : Int32) * x2) + (1 : Int32)).toNatClampNeg) = 0) ∧
  Q S ((((S 18 PP 0 (1 : Int32).toNatClampNeg) + (S 15 PP 0 (((10 : Int32) * x2) + (2 : Int32)).toNatClampNeg)) - (S 15 PP 0 (((10 : Int32) * x2) + (4 : Int32)).toNatClampNeg)) / (S 15 PP 0 (((10 : Int32) * x2) + (1 : Int32)).toNatClampNeg))
def vc_L_hour_J61 (Q : Mem → Int32 → Prop) (K0 : Mem → Int32 → Int32 → Prop) (K1 : Mem → Int32 → Prop) (PP : Nat) (x4 : Int32) (S : Mem) (y5 : Int32) (y6 : Int32) (w1 : Int32) (w2 : Int32) (w3 : Int32) : Prop :=
  vp_in w1 16 ∧
  ∀ S_19 : Mem, S_19 = uc S 18 PP 0 (upd (S 18 PP 0) w1.toNatClampNeg (w2 + w3)) →
  K0 S_19 y5 (y6 + (1 : Int32))
def vc_L_hour_L29 (Q : Mem → Int32 → Prop) (K : Mem → Int32 → Prop) (PP : Nat) (x4 : Int32) : Nat → Mem → Int32 → Int32 → Prop
  | 0, _, _, _ => False
  | n29 + 1, S, y5, y6 =>
  (((4 : Int32) ≤ y6) →
  K S y5) ∧ ((¬ ((4 : Int32) ≤ y6)) →
  vp_in ((8 : Int32) + y6) 16 ∧
  vp_in (0 : Int32) 16 ∧
  vp_in ((4 : Int32) + y6) 16 ∧
  (¬ (S 18 PP 0 ((4 : Int32) + y6).toNatClampNeg) = 0) ∧
  ((¬ ((S 18 PP 0 (0 : Int32).toNatClampNeg) - (S 18 PP 0 (0 : Int32).toNatClampNeg) / (S 18 PP 0 ((4 : Int32) + y6).toNatClampNeg) * (S 18 PP 0 ((4 : Int32) + y6).toNatClampNeg)) = 0) →
  vc_L_hour_J61 Q (vc_L_hour_L29 Q K PP x4 n29) (K) PP x4 S y5 y6 ((8 : Int32) + y6) (S 18 PP 0 ((8 : Int32) + y6).toNatClampNeg) (0 : Int32)) ∧ ((((S 18 PP 0 (0 : Int32).toNatClampNeg) - (S 18 PP 0 (0 : Int32).toNatClampNeg) / (S 18 PP 0 ((4 : Int32) + y6).toNatClampNeg) * (S 18 PP 0 ((4 : Int32) + y6).toNatClampNeg)) = 0) →
  vc_L_hour_J61 Q (vc_L_hour_L29 Q K PP x4 n29) (K) PP x4 S y5 y6 ((8 : Int32) + y6) (S 18 PP 0 ((8 : Int32) + y6).toNatClampNeg) (1 : Int32)))
def vc_L_hour_J230 (Q : Mem → Int32 → Prop) (K0 : Mem → Int32 → Int32 → Prop) (K1 : Mem → Int32 → Prop) (PP : Nat) (x4 : Int32) (S : Mem) (y5 : Int32) (y6 : Int32) : Prop :=
  K0 S y5 (y6 + (1 : Int32))
def vc_L_hour_L122 (Q : Mem → Int32 → Prop) (K : Mem → Int32 → Int32 → Int32 → Prop) (PP : Nat) (x4 : Int32) : Nat → Mem → Int32 → Int32 → Int32 → Int32 → Prop
  | 0, _, _, _, _, _ => False
  | n122 + 1, S, y5, y6, y7, y8 =>
  ((y8 ≤ 0) →
  K S y5 y6 y7) ∧ ((¬ (y8 ≤ 0)) →
  vp_in ((((6 : Int32) * y6) + y8) - (1 : Int32)) 36 ∧
  vp_in (((6 : Int32) * y6) + y8) 36 ∧
  ∀ S_39 : Mem, S_39 = uc S 16 PP 0 (upd (S 16 PP 0) (((6 : Int32) * y6) + y8).toNatClampNeg (S 16 PP 0 ((((6 : Int32) * y6) + y8) - (1 : Int32)).toNatClampNeg)) →
  vp_in ((((6 : Int32) * y6) + y8) - (1 : Int32)) 36 ∧
  vp_in (((6 : Int32) * y6) + y8) 36 ∧
  ∀ S_43 : Mem, S_43 = uc S_39 17 PP 0 (upd (S_39 17 PP 0) (((6 : Int32) * y6) + y8).toNatClampNeg (S_39 17 PP 0 ((((6 : Int32) * y6) + y8) - (1 : Int32)).toNatClampNeg)) →
  vc_L_hour_L122 Q K PP x4 n122 S_43 y5 y6 y7 (y8 + (-1 : Int32)))
def vc_L_hour_J225 (Q : Mem → Int32 → Prop) (K0 : Mem → Int32 → Int32 → Prop) (K1 : Mem → Int32 → Prop) (PP : Nat) (x4 : Int32) (S : Mem) (y5 : Int32) (y6 : Int32) (w1 : Int32) (w2 : Int32) (w3 : Int32) : Prop :=
  vp_in w1 60 ∧
  ∀ S_61 : Mem, S_61 = uc S 15 PP 0 (upd (S 15 PP 0) w1.toNatClampNeg (w2 + w3)) →
  vc_L_hour_J230 Q (K0) (K1) PP x4 S_61 (y5 + (1 : Int32)) y6
def vc_L_hour_L72 (Q : Mem → Int32 → Prop) (K : Mem → Int32 → Prop) (PP : Nat) (x4 : Int32) : Nat → Mem → Int32 → Int32 → Prop
  | 0, _, _, _ => False
  | n72 + 1, S, y5, y6 =>
  vp_in (15 : Int32) 16 ∧
  (((S 18 PP 0 (15 : Int32).toNatClampNeg) ≤ y6) →
  K S y5) ∧ ((¬ ((S 18 PP 0 (15 : Int32).toNatClampNeg) ≤ y6)) →
  vp_in (((10 : Int32) * y6) + (4 : Int32)) 60 ∧
  vc_L_change S PP y6 (fun (S_27 : Mem) (r_28 : Int32) =>
  vp_in (((10 : Int32) * y6) + (4 : Int32)) 60 ∧
  ∀ S_29 : Mem, S_29 = uc S_27 15 PP 0 (upd (S_27 15 PP 0) (((10 : Int32) * y6) + (4 : Int32)).toNatClampNeg ((S 15 PP 0 (((10 : Int32) * y6) + (4 : Int32)).toNatClampNeg) + r_28)) →
  vp_in (0 : Int32) 16 ∧
  vp_in ((10 : Int32) * y6) 60 ∧
  vp_in ((4 : Int32) + (S_29 15 PP 0 ((10 : Int32) * y6).toNatClampNeg)) 16 ∧
  (¬ (S_29 18 PP 0 ((4 : Int32) + (S_29 15 PP 0 ((10 : Int32) * y6).toNatClampNeg)).toNatClampNeg) = 0) ∧
  ((¬ ((S_29 18 PP 0 (0 : Int32).toNatClampNeg) - (S_29 18 PP 0 (0 : Int32).toNatClampNeg) / (S_29 18 PP 0 ((4 : Int32) + (S_29 15 PP 0 ((10 : Int32) * y6).toNatClampNeg)).toNatClampNeg) * (S_29 18 PP 0 ((4 : Int32) + (S_29 15 PP 0 ((10 : Int32) * y6).toNatClampNeg)).toNatClampNeg)) = 0) →
  vc_L_hour_J230 Q (vc_L_hour_L72 Q K PP x4 n72) (K) PP x4 S_29 y5 y6) ∧ ((((S_29 18 PP 0 (0 : Int32).toNatClampNeg) - (S_29 18 PP 0 (0 : Int32).toNatClampNeg) / (S_29 18 PP 0 ((4 : Int32) + (S_29 15 PP 0 ((10 : Int32) * y6).toNatClampNeg)).toNatClampNeg) * (S_29 18 PP 0 ((4 : Int32) + (S_29 15 PP 0 ((10 : Int32) * y6).toNatClampNeg)).toNatClampNeg)) = 0) →
  ∃ n : Nat, vc_L_hour_L122 Q (fun (S_46 : Mem) (y5_47 : Int32) (y6_48 : Int32) (y7_49 : Int32) =>
  vp_in (0 : Int32) 16 ∧
  vp_in ((6 : Int32) * y6_48) 36 ∧
  ∀ S_51 : Mem, S_51 = uc S_46 16 PP 0 (upd (S_46 16 PP 0) ((6 : Int32) * y6_48).toNatClampNeg (S_46 18 PP 0 (0 : Int32).toNatClampNeg)) →
  vp_in (y7_49 + (4 : Int32)) 60 ∧
  vp_in ((6 : Int32) * y6_48) 36 ∧
  ∀ S_55 : Mem, S_55 = uc S_51 17 PP 0 (upd (S_51 17 PP 0) ((6 : Int32) * y6_48).toNatClampNeg (S_51 15 PP 0 (y7_49 + (4 : Int32)).toNatClampNeg)) →
  vp_in (y7_49 + (7 : Int32)) 60 ∧
  vp_in (y7_49 + (7 : Int32)) 60 ∧
  (((6 : Int32) ≤ (S_55 15 PP 0 (y7_49 + (7 : Int32)).toNatClampNeg)) →
  vc_L_hour_J225 Q (vc_L_hour_L72 Q K PP x4 n72) (K) PP x4 S_55 y5_47 y6_48 (y7_49 + (7 : Int32)) (S_55 15 PP 0 (y7_49 + (7 : Int32)).toNatClampNeg) (0 : Int32)) ∧ ((¬ ((6 : Int32) ≤ (S_55 15 PP 0 (y7_49 + (7 : Int32)).toNatClampNeg))) →
  vc_L_hour_J225 Q (vc_L_hour_L72 Q K PP x4 n72) (K) PP x4 S_55 y5_47 y6_48 (y7_49 + (7 : Int32)) (S_55 15 PP 0 (y7_49 + (7 : Int32)).toNatClampNeg) (1 : Int32))) PP x4 n S_29 y5 y6 ((10 : Int32) * y6) (5 : Int32))))
def vc_L_hour_J434 (Q : Mem → Int32 → Prop) (K0 : Mem → Int32 → Int32 → Prop) (K1 : Mem → Int32 → Prop) (PP : Nat) (x4 : Int32) (S : Mem) (y5 : Int32) (y6 : Int32) (w1 : Int32) (w2 : Int32) (w3 : Int32) : Prop :=
  vp_in w1 16 ∧
  ∀ S_96 : Mem, S_96 = uc S 18 PP 0 (upd (S 18 PP 0) w1.toNatClampNeg (w2 + w3)) →
  K0 S_96 y5 (y6 + (1 : Int32))
def vc_L_hour_J417 (Q : Mem → Int32 → Prop) (K0 : Mem → Int32 → Int32 → Prop) (K1 : Mem → Int32 → Prop) (PP : Nat) (x4 : Int32) (S : Mem) (y5 : Int32) (y6 : Int32) (y9 : Int32) (w1 : Int32) (w2 : Int32) (w3 : Int32) : Prop :=
  vp_in w1 60 ∧
  ∀ S_91 : Mem, S_91 = uc S 15 PP 0 (upd (S 15 PP 0) w1.toNatClampNeg (w2 + w3)) →
  vp_in (13 : Int32) 16 ∧
  ((y9 = 0) →
  vc_L_hour_J434 Q (K0) (K1) PP x4 S_91 y5 y6 (13 : Int32) (S_91 18 PP 0 (13 : Int32).toNatClampNeg) (0 : Int32)) ∧ ((¬ (y9 = 0)) →
  vc_L_hour_J434 Q (K0) (K1) PP x4 S_91 y5 y6 (13 : Int32) (S_91 18 PP 0 (13 : Int32).toNatClampNeg) (1 : Int32))
def vc_L_hour_J398 (Q : Mem → Int32 → Prop) (K0 : Mem → Int32 → Int32 → Prop) (K1 : Mem → Int32 → Prop) (PP : Nat) (x4 : Int32) (S : Mem) (y5 : Int32) (y6 : Int32) (y7 : Int32) (y9 : Int32) (w1 : Int32) (w2 : Int32) : Prop :=
  vp_in w1 60 ∧
  ∀ S_86 : Mem, S_86 = uc S 15 PP 0 (upd (S 15 PP 0) w1.toNatClampNeg w2) →
  vp_in (y7 + (8 : Int32)) 60 ∧
  ((y9 = 0) →
  vc_L_hour_J417 Q (K0) (K1) PP x4 S_86 y5 y6 y9 (y7 + (8 : Int32)) (S_86 15 PP 0 (y7 + (8 : Int32)).toNatClampNeg) (0 : Int32)) ∧ ((¬ (y9 = 0)) →
  vc_L_hour_J417 Q (K0) (K1) PP x4 S_86 y5 y6 y9 (y7 + (8 : Int32)) (S_86 15 PP 0 (y7 + (8 : Int32)).toNatClampNeg) (1 : Int32))
def vc_L_hour_J354 (Q : Mem → Int32 → Prop) (K0 : Mem → Int32 → Int32 → Prop) (K1 : Mem → Int32 → Prop) (PP : Nat) (x4 : Int32) (S : Mem) (y5 : Int32) (y6 : Int32) (y7 : Int32) (w0 : Int32) : Prop :=
  ((w0 = 0) →
  vp_in (y7 + (9 : Int32)) 60 ∧
  ((¬ (S 15 PP 0 (y7 + (9 : Int32)).toNatClampNeg) = (1 : Int32)) →
  vp_in (y7 + (5 : Int32)) 60 ∧
  vc_L_hour_J398 Q (K0) (K1) PP x4 S y5 y6 y7 w0 (y7 + (5 : Int32)) (S 15 PP 0 (y7 + (5 : Int32)).toNatClampNeg)) ∧ (((S 15 PP 0 (y7 + (9 : Int32)).toNatClampNeg) = (1 : Int32)) →
  vc_L_hour_J398 Q (K0) (K1) PP x4 S y5 y6 y7 w0 (y7 + (5 : Int32)) (0 : Int32))) ∧ ((¬ (w0 = 0)) →
  vp_in (y7 + (5 : Int32)) 60 ∧
  vc_L_hour_J398 Q (K0) (K1) PP x4 S y5 y6 y7 w0 (y7 + (5 : Int32)) ((S 15 PP 0 (y7 + (5 : Int32)).toNatClampNeg) + (1 : Int32)))
def vc_L_hour_J353 (Q : Mem → Int32 → Prop) (K0 : Mem → Int32 → Int32 → Prop) (K1 : Mem → Int32 → Prop) (PP : Nat) (x4 : Int32) (S : Mem) (y5 : Int32) (y6 : Int32) (y7 : Int32) : Prop :=
  vc_L_hour_J354 Q (K0) (K1) PP x4 S y5 y6 y7 (0 : Int32)
def vc_L_hour_J317 (Q : Mem → Int32 → Prop) (K0 : Mem → Int32 → Int32 → Prop) (K1 : Mem → Int32 → Prop) (PP : Nat) (x4 : Int32) (S : Mem) (y5 : Int32) (y6 : Int32) (y7 : Int32) (y8 : Int32) (w1 : Int32) (w2 : Int32) : Prop :=
  vp_in w1 60 ∧
  ∀ S_77 : Mem, S_77 = uc S 15 PP 0 (upd (S 15 PP 0) w1.toNatClampNeg w2) →
  vp_in (y7 + (9 : Int32)) 60 ∧
  ((¬ (S_77 15 PP 0 (y7 + (9 : Int32)).toNatClampNeg) = (1 : Int32)) →
  vc_L_hour_J353 Q (K0) (K1) PP x4 S_77 y5 y6 y7) ∧ (((S_77 15 PP 0 (y7 + (9 : Int32)).toNatClampNeg) = (1 : Int32)) →
  vc_L_own S_77 PP y6 (fun (S_100 : Mem) (r_101 : Int32) =>
  vc_L_size S_100 (r_101 - y8) (fun (S_102 : Mem) (r_103 : Int32) =>
  vp_in (2 : Int32) 16 ∧
  ((r_103 ≤ (S_102 18 PP 0 (2 : Int32).toNatClampNeg)) →
  vc_L_hour_J353 Q (K0) (K1) PP x4 S_102 y5 y6 y7) ∧ ((¬ (r_103 ≤ (S_102 18 PP 0 (2 : Int32).toNatClampNeg))) →
  vc_L_hour_J354 Q (K0) (K1) PP x4 S_102 y5 y6 y7 (1 : Int32)))))
def vc_L_hour_J316 (Q : Mem → Int32 → Prop) (K0 : Mem → Int32 → Int32 → Prop) (K1 : Mem → Int32 → Prop) (PP : Nat) (x4 : Int32) (S : Mem) (y5 : Int32) (y6 : Int32) (y7 : Int32) (y8 : Int32) (w1 : Int32) : Prop :=
  vc_L_hour_J317 Q (K0) (K1) PP x4 S y5 y6 y7 y8 w1 (0 : Int32)
def vc_L_hour_L248 (Q : Mem → Int32 → Prop) (K : Mem → Int32 → Prop) (PP : Nat) (x4 : Int32) : Nat → Mem → Int32 → Int32 → Prop
  | 0, _, _, _ => False
  | n248 + 1, S, y5, y6 =>
  vp_in (15 : Int32) 16 ∧
  (((S 18 PP 0 (15 : Int32).toNatClampNeg) ≤ y6) →
  K S y5) ∧ ((¬ ((S 18 PP 0 (15 : Int32).toNatClampNeg) ≤ y6)) →
  vc_L_middle S PP y6 (fun (S_72 : Mem) (r_73 : Int32) =>
  vc_L_asked S_72 PP y6 (fun (S_74 : Mem) (r_75 : Int32) =>
  ((r_75 = 0) →
  vc_L_hour_J316 Q (vc_L_hour_L248 Q K PP x4 n248) (K) PP x4 S_74 y5 y6 ((10 : Int32) * y6) r_73 (((10 : Int32) * y6) + (9 : Int32))) ∧ ((¬ (r_75 = 0)) →
  vp_in (0 : Int32) 16 ∧
  vp_in ((10 : Int32) * y6) 60 ∧
  vp_in ((4 : Int32) + (S_74 15 PP 0 ((10 : Int32) * y6).toNatClampNeg)) 16 ∧
  (¬ (S_74 18 PP 0 ((4 : Int32) + (S_74 15 PP 0 ((10 : Int32) * y6).toNatClampNeg)).toNatClampNeg) = 0) ∧
  ((¬ ((S_74 18 PP 0 (0 : Int32).toNatClampNeg) - (S_74 18 PP 0 (0 : Int32).toNatClampNeg) / (S_74 18 PP 0 ((4 : Int32) + (S_74 15 PP 0 ((10 : Int32) * y6).toNatClampNeg)).toNatClampNeg) * (S_74 18 PP 0 ((4 : Int32) + (S_74 15 PP 0 ((10 : Int32) * y6).toNatClampNeg)).toNatClampNeg)) = 0) →
  vc_L_hour_J316 Q (vc_L_hour_L248 Q K PP x4 n248) (K) PP x4 S_74 y5 y6 ((10 : Int32) * y6) r_73 (((10 : Int32) * y6) + (9 : Int32))) ∧ ((((S_74 18 PP 0 (0 : Int32).toNatClampNeg) - (S_74 18 PP 0 (0 : Int32).toNatClampNeg) / (S_74 18 PP 0 ((4 : Int32) + (S_74 15 PP 0 ((10 : Int32) * y6).toNatClampNeg)).toNatClampNeg) * (S_74 18 PP 0 ((4 : Int32) + (S_74 15 PP 0 ((10 : Int32) * y6).toNatClampNeg)).toNatClampNeg)) = 0) →
  ((r_73 = (-999999 : Int32)) →
  vc_L_hour_J316 Q (vc_L_hour_L248 Q K PP x4 n248) (K) PP x4 S_74 y5 y6 ((10 : Int32) * y6) r_73 (((10 : Int32) * y6) + (9 : Int32))) ∧ ((¬ (r_73 = (-999999 : Int32))) →
  vc_L_hour_J317 Q (vc_L_hour_L248 Q K PP x4 n248) (K) PP x4 S_74 y5 y6 ((10 : Int32) * y6) r_73 (((10 : Int32) * y6) + (9 : Int32)) (1 : Int32)))))))
def vc_L_hour_J506 (Q : Mem → Int32 → Prop) (K0 : Mem → Int32 → Int32 → Prop) (K1 : Mem → Int32 → Prop) (PP : Nat) (x4 : Int32) (S : Mem) (y5 : Int32) (y6 : Int32) (w1 : Int32) (w2 : Int32) : Prop :=
  vp_in w1 60 ∧
  ∀ S_119 : Mem, S_119 = uc S 15 PP 0 (upd (S 15 PP 0) w1.toNatClampNeg w2) →
  K0 S_119 y5 (y6 + (1 : Int32))
def vc_L_hour_J496 (Q : Mem → Int32 → Prop) (K0 : Mem → Int32 → Int32 → Prop) (K1 : Mem → Int32 → Prop) (PP : Nat) (x4 : Int32) (S : Mem) (y5 : Int32) (y6 : Int32) (w1 : Int32) : Prop :=
  vp_in (((10 : Int32) * y6) + (6 : Int32)) 60 ∧
  vc_L_hour_J506 Q (K0) (K1) PP x4 S y5 y6 w1 (S 15 PP 0 (((10 : Int32) * y6) + (6 : Int32)).toNatClampNeg)
def vc_L_hour_L445 (Q : Mem → Int32 → Prop) (K : Mem → Int32 → Prop) (PP : Nat) (x4 : Int32) : Nat → Mem → Int32 → Int32 → Prop
  | 0, _, _, _ => False
  | n445 + 1, S, y5, y6 =>
  vp_in (15 : Int32) 16 ∧
  (((S 18 PP 0 (15 : Int32).toNatClampNeg) ≤ y6) →
  K S y5) ∧ ((¬ ((S 18 PP 0 (15 : Int32).toNatClampNeg) ≤ y6)) →
  vp_in (((10 : Int32) * y6) + (9 : Int32)) 60 ∧
  ((¬ (S 15 PP 0 (((10 : Int32) * y6) + (9 : Int32)).toNatClampNeg) = (1 : Int32)) →
  vc_L_hour_J496 Q (vc_L_hour_L445 Q K PP x4 n445) (K) PP x4 S y5 y6 (((10 : Int32) * y6) + (6 : Int32))) ∧ (((S 15 PP 0 (((10 : Int32) * y6) + (9 : Int32)).toNatClampNeg) = (1 : Int32)) →
  vp_in (((10 : Int32) * y6) + (5 : Int32)) 60 ∧
  vp_in (3 : Int32) 16 ∧
  (((S 15 PP 0 (((10 : Int32) * y6) + (5 : Int32)).toNatClampNeg) < (S 18 PP 0 (3 : Int32).toNatClampNeg)) →
  vc_L_hour_J496 Q (vc_L_hour_L445 Q K PP x4 n445) (K) PP x4 S y5 y6 (((10 : Int32) * y6) + (6 : Int32))) ∧ ((¬ ((S 15 PP 0 (((10 : Int32) * y6) + (5 : Int32)).toNatClampNeg) < (S 18 PP 0 (3 : Int32).toNatClampNeg))) →
  vc_L_hour_J506 Q (vc_L_hour_L445 Q K PP x4 n445) (K) PP x4 S y5 y6 (((10 : Int32) * y6) + (6 : Int32)) (1 : Int32))))
def vc_L_hour (S : Mem) (PP : Nat) (x4 : Int32) (Q : Mem → Int32 → Prop) : Prop :=
  vc_L_mean S PP (fun (S_1 : Mem) (r_2 : Int32) =>
  vp_in (14 : Int32) 16 ∧
  ∀ S_3 : Mem, S_3 = uc S_1 18 PP 0 (upd (S_1 18 PP 0) (14 : Int32).toNatClampNeg r_2) →
  vp_in (0 : Int32) 16 ∧
  vp_in (0 : Int32) 16 ∧
  ∀ S_7 : Mem, S_7 = uc S_3 18 PP 0 (upd (S_3 18 PP 0) (0 : Int32).toNatClampNeg ((S_3 18 PP 0 (0 : Int32).toNatClampNeg) + (1 : Int32))) →
  vp_in (1 : Int32) 16 ∧
  ∀ S_10 : Mem, S_10 = uc S_7 18 PP 0 (upd (S_7 18 PP 0) (1 : Int32).toNatClampNeg x4) →
  ∃ n : Nat, vc_L_hour_L29 Q (fun (S_22 : Mem) (y5_23 : Int32) =>
  ∃ n : Nat, vc_L_hour_L72 Q (fun (S_64 : Mem) (y5_65 : Int32) =>
  vp_in (12 : Int32) 16 ∧
  vp_in (12 : Int32) 16 ∧
  ∀ S_67 : Mem, S_67 = uc S_64 18 PP 0 (upd (S_64 18 PP 0) (12 : Int32).toNatClampNeg ((S_64 18 PP 0 (12 : Int32).toNatClampNeg) + y5_65)) →
  ∃ n : Nat, vc_L_hour_L248 Q (fun (S_112 : Mem) (y5_113 : Int32) =>
  ∃ n : Nat, vc_L_hour_L445 Q (fun (S_125 : Mem) (y5_126 : Int32) =>
  Q S_125 y5_126) PP x4 n S_112 y5_113 (0 : Int32)) PP x4 n S_67 y5_65 (0 : Int32)) PP x4 n S_22 y5_23 (0 : Int32)) PP x4 n S_10 (0 : Int32) (0 : Int32))
def vc_L_areThermometers_J95 (Q : Mem → Int32 → Prop) (K0 : Mem → Int32 → Int32 → Int32 → Int32 → Int32 → Int32 → Int32 → Int32 → Prop) (K1 : Mem → Int32 → Int32 → Int32 → Int32 → Int32 → Int32 → Int32 → Prop) (S : Mem) (y5 : Int32) (y6 : Int32) (y7 : Int32) (y8 : Int32) (y10 : Int32) (y11 : Int32) (y12 : Int32) (w0 : Int32) : Prop :=
  K0 S y5 y6 y7 y8 w0 y10 y11 (y12 + (1 : Int32))
def vc_L_areThermometers_J94 (Q : Mem → Int32 → Prop) (K0 : Mem → Int32 → Int32 → Int32 → Int32 → Int32 → Int32 → Int32 → Int32 → Prop) (K1 : Mem → Int32 → Int32 → Int32 → Int32 → Int32 → Int32 → Int32 → Prop) (S : Mem) (y5 : Int32) (y6 : Int32) (y7 : Int32) (y8 : Int32) (y10 : Int32) (y11 : Int32) (y12 : Int32) : Prop :=
  vc_L_areThermometers_J95 Q (K0) (K1) S y5 y6 y7 y8 y10 y11 y12 (0 : Int32)
def vc_L_areThermometers_L60 (Q : Mem → Int32 → Prop) (K : Mem → Int32 → Int32 → Int32 → Int32 → Int32 → Int32 → Int32 → Prop) : Nat → Mem → Int32 → Int32 → Int32 → Int32 → Int32 → Int32 → Int32 → Int32 → Prop
  | 0, _, _, _, _, _, _, _, _, _ => False
  | n60 + 1, S, y5, y6, y7, y8, y9, y10, y11, y12 =>
  (((9 : Int32) ≤ y12) →
  K S y5 y6 y7 y8 y9 y10 y11) ∧ ((¬ ((9 : Int32) ≤ y12)) →
  ((y9 = 0) →
  vc_L_areThermometers_J94 Q (vc_L_areThermometers_L60 Q K n60) (K) S y5 y6 y7 y8 y10 y11 y12) ∧ ((¬ (y9 = 0)) →
  vc_X6_ofThermometer S y10 y12 (fun (S_10 : Mem) (r_11 : Int32) =>
  vp_in (y11 + y12) 60 ∧
  ((¬ r_11 = (S_10 15 0 0 (y11 + y12).toNatClampNeg)) →
  vc_L_areThermometers_J94 Q (vc_L_areThermometers_L60 Q K n60) (K) S_10 y5 y6 y7 y8 y10 y11 y12) ∧ ((r_11 = (S_10 15 0 0 (y11 + y12).toNatClampNeg)) →
  vc_L_areThermometers_J95 Q (vc_L_areThermometers_L60 Q K n60) (K) S_10 y5 y6 y7 y8 y10 y11 y12 (1 : Int32)))))
def vc_L_areThermometers_J222 (Q : Mem → Int32 → Prop) (K0 : Mem → Int32 → Int32 → Int32 → Int32 → Int32 → Int32 → Int32 → Int32 → Prop) (K1 : Mem → Int32 → Int32 → Int32 → Int32 → Int32 → Int32 → Int32 → Prop) (S : Mem) (y5 : Int32) (y6 : Int32) (y7 : Int32) (y8 : Int32) (y10 : Int32) (y11 : Int32) (y12 : Int32) (w0 : Int32) : Prop :=
  K0 S y5 y6 y7 y8 w0 y10 y11 (y12 + (1 : Int32))
def vc_L_areThermometers_J221 (Q : Mem → Int32 → Prop) (K0 : Mem → Int32 → Int32 → Int32 → Int32 → Int32 → Int32 → Int32 → Int32 → Prop) (K1 : Mem → Int32 → Int32 → Int32 → Int32 → Int32 → Int32 → Int32 → Prop) (S : Mem) (y5 : Int32) (y6 : Int32) (y7 : Int32) (y8 : Int32) (y10 : Int32) (y11 : Int32) (y12 : Int32) : Prop :=
  vc_L_areThermometers_J222 Q (K0) (K1) S y5 y6 y7 y8 y10 y11 y12 (0 : Int32)
def vc_L_areThermometers_L156 (Q : Mem → Int32 → Prop) (K : Mem → Int32 → Int32 → Int32 → Int32 → Int32 → Int32 → Int32 → Prop) : Nat → Mem → Int32 → Int32 → Int32 → Int32 → Int32 → Int32 → Int32 → Int32 → Prop
  | 0, _, _, _, _, _, _, _, _, _ => False
  | n156 + 1, S, y5, y6, y7, y8, y9, y10, y11, y12 =>
  vp_in (y11 + (7 : Int32)) 60 ∧
  (((S 15 0 0 (y11 + (7 : Int32)).toNatClampNeg) ≤ y12) →
  K S y5 y6 y7 y8 y9 y10 y11) ∧ ((¬ ((S 15 0 0 (y11 + (7 : Int32)).toNatClampNeg) ≤ y12)) →
  ((y9 = 0) →
  vc_L_areThermometers_J221 Q (vc_L_areThermometers_L156 Q K n156) (K) S y5 y6 y7 y8 y10 y11 y12) ∧ ((¬ (y9 = 0)) →
  vc_X6_reading S y10 y12 (0 : Int32) (fun (S_26 : Mem) (r_27 : Int32) =>
  vp_in (((6 : Int32) * y10) + y12) 36 ∧
  ((¬ r_27 = (S_26 16 0 0 (((6 : Int32) * y10) + y12).toNatClampNeg)) →
  vc_L_areThermometers_J221 Q (vc_L_areThermometers_L156 Q K n156) (K) S_26 y5 y6 y7 y8 y10 y11 y12) ∧ ((r_27 = (S_26 16 0 0 (((6 : Int32) * y10) + y12).toNatClampNeg)) →
  vc_X6_reading S_26 y10 y12 (1 : Int32) (fun (S_30 : Mem) (r_31 : Int32) =>
  vp_in (((6 : Int32) * y10) + y12) 36 ∧
  ((¬ r_31 = (S_30 17 0 0 (((6 : Int32) * y10) + y12).toNatClampNeg)) →
  vc_L_areThermometers_J221 Q (vc_L_areThermometers_L156 Q K n156) (K) S_30 y5 y6 y7 y8 y10 y11 y12) ∧ ((r_31 = (S_30 17 0 0 (((6 : Int32) * y10) + y12).toNatClampNeg)) →
  vc_L_areThermometers_J222 Q (vc_L_areThermometers_L156 Q K n156) (K) S_30 y5 y6 y7 y8 y10 y11 y12 (1 : Int32)))))))
def vc_L_areThermometers_J319 (Q : Mem → Int32 → Prop) (K0 : Mem → Int32 → Int32 → Int32 → Int32 → Int32 → Int32 → Prop) (K1 : Mem → Int32 → Int32 → Int32 → Int32 → Int32 → Prop) (S : Mem) (y5 : Int32) (y6 : Int32) (y7 : Int32) (y9 : Int32) (y10 : Int32) (w0 : Int32) (w1 : Int32) : Prop :=
  K0 S y5 y6 y7 (w0 + w1) y9 (y10 + (1 : Int32))
def vc_L_areThermometers_J299 (Q : Mem → Int32 → Prop) (K0 : Mem → Int32 → Int32 → Int32 → Int32 → Int32 → Int32 → Prop) (K1 : Mem → Int32 → Int32 → Int32 → Int32 → Int32 → Prop) (S : Mem) (y5 : Int32) (y6 : Int32) (y8 : Int32) (y9 : Int32) (y10 : Int32) (y11 : Int32) (w0 : Int32) (w1 : Int32) : Prop :=
  vp_in (y11 + (7 : Int32)) 60 ∧
  (((S 15 0 0 (y11 + (7 : Int32)).toNatClampNeg) ≤ 0) →
  vc_L_areThermometers_J319 Q (K0) (K1) S y5 y6 (w0 + w1) y9 y10 y8 (0 : Int32)) ∧ ((¬ ((S 15 0 0 (y11 + (7 : Int32)).toNatClampNeg) ≤ 0)) →
  vc_L_areThermometers_J319 Q (K0) (K1) S y5 y6 (w0 + w1) y9 y10 y8 (1 : Int32))
def vc_L_areThermometers_J249 (Q : Mem → Int32 → Prop) (K0 : Mem → Int32 → Int32 → Int32 → Int32 → Int32 → Int32 → Prop) (K1 : Mem → Int32 → Int32 → Int32 → Int32 → Int32 → Prop) (S : Mem) (y6 : Int32) (y7 : Int32) (y8 : Int32) (y9 : Int32) (y10 : Int32) (y11 : Int32) (w0 : Int32) (w1 : Int32) : Prop :=
  vp_in (y11 + (6 : Int32)) 60 ∧
  vp_in (y11 + (7 : Int32)) 60 ∧
  (((S 15 0 0 (y11 + (7 : Int32)).toNatClampNeg) ≤ 0) →
  vc_L_areThermometers_J299 Q (K0) (K1) S (w0 ||| w1) (y6 ||| ((S 15 0 0 (y11 + (6 : Int32)).toNatClampNeg) <<< (y10 &&& 31))) y8 y9 y10 y11 y7 (0 : Int32)) ∧ ((¬ ((S 15 0 0 (y11 + (7 : Int32)).toNatClampNeg) ≤ 0)) →
  vc_L_own S 0 y10 (fun (S_50 : Mem) (r_51 : Int32) =>
  vp_in (1 : Int32) 16 ∧
  vc_L_size S_50 (r_51 - (S_50 18 0 0 (1 : Int32).toNatClampNeg)) (fun (S_53 : Mem) (r_54 : Int32) =>
  vc_L_areThermometers_J299 Q (K0) (K1) S_53 (w0 ||| w1) (y6 ||| ((S 15 0 0 (y11 + (6 : Int32)).toNatClampNeg) <<< (y10 &&& 31))) y8 y9 y10 y11 y7 r_54)))
def vc_L_areThermometers_J151 (Q : Mem → Int32 → Prop) (K0 : Mem → Int32 → Int32 → Int32 → Int32 → Int32 → Int32 → Prop) (K1 : Mem → Int32 → Int32 → Int32 → Int32 → Int32 → Prop) (S : Mem) (y5 : Int32) (y6 : Int32) (y7 : Int32) (y8 : Int32) (y10 : Int32) (y11 : Int32) (w0 : Int32) : Prop :=
  ∃ n : Nat, vc_L_areThermometers_L156 Q (fun (S_34 : Mem) (y5_35 : Int32) (y6_36 : Int32) (y7_37 : Int32) (y8_38 : Int32) (y9_39 : Int32) (y10_40 : Int32) (y11_41 : Int32) =>
  vc_L_asked S_34 0 y10_40 (fun (S_42 : Mem) (r_43 : Int32) =>
  ((r_43 = 0) →
  vc_L_areThermometers_J249 Q (K0) (K1) S_42 y6_36 y7_37 y8_38 y9_39 y10_40 y11_41 y5_35 (0 : Int32)) ∧ ((¬ (r_43 = 0)) →
  vc_L_areThermometers_J249 Q (K0) (K1) S_42 y6_36 y7_37 y8_38 y9_39 y10_40 y11_41 y5_35 ((1 : Int32) <<< (y10_40 &&& 31))))) n S y5 y6 y7 y8 w0 y10 y11 (0 : Int32)
def vc_L_areThermometers_J150 (Q : Mem → Int32 → Prop) (K0 : Mem → Int32 → Int32 → Int32 → Int32 → Int32 → Int32 → Prop) (K1 : Mem → Int32 → Int32 → Int32 → Int32 → Int32 → Prop) (S : Mem) (y5 : Int32) (y6 : Int32) (y7 : Int32) (y8 : Int32) (y10 : Int32) (y11 : Int32) : Prop :=
  vc_L_areThermometers_J151 Q (K0) (K1) S y5 y6 y7 y8 y10 y11 (0 : Int32)
def vc_L_areThermometers_L35 (Q : Mem → Int32 → Prop) (K : Mem → Int32 → Int32 → Int32 → Int32 → Int32 → Prop) : Nat → Mem → Int32 → Int32 → Int32 → Int32 → Int32 → Int32 → Prop
  | 0, _, _, _, _, _, _, _ => False
  | n35 + 1, S, y5, y6, y7, y8, y9, y10 =>
  vp_in (15 : Int32) 16 ∧
  (((S 18 0 0 (15 : Int32).toNatClampNeg) ≤ y10) →
  K S y5 y6 y7 y8 y9) ∧ ((¬ ((S 18 0 0 (15 : Int32).toNatClampNeg) ≤ y10)) →
  ((y9 = 0) →
  K S y5 y6 y7 y8 y9) ∧ ((¬ (y9 = 0)) →
  ∃ n : Nat, vc_L_areThermometers_L60 Q (fun (S_14 : Mem) (y5_15 : Int32) (y6_16 : Int32) (y7_17 : Int32) (y8_18 : Int32) (y9_19 : Int32) (y10_20 : Int32) (y11_21 : Int32) =>
  ((y9_19 = 0) →
  vc_L_areThermometers_J150 Q (vc_L_areThermometers_L35 Q K n35) (K) S_14 y5_15 y6_16 y7_17 y8_18 y10_20 y11_21) ∧ ((¬ (y9_19 = 0)) →
  vc_X6_ofThermometer S_14 y10_20 (9 : Int32) (fun (S_55 : Mem) (r_56 : Int32) =>
  vc_L_own S_55 0 y10_20 (fun (S_57 : Mem) (r_58 : Int32) =>
  ((¬ r_56 = r_58) →
  vc_L_areThermometers_J150 Q (vc_L_areThermometers_L35 Q K n35) (K) S_57 y5_15 y6_16 y7_17 y8_18 y10_20 y11_21) ∧ ((r_56 = r_58) →
  vp_in (y11_21 + (7 : Int32)) 60 ∧
  vc_X6_reading S_57 y10_20 (S_57 15 0 0 (y11_21 + (7 : Int32)).toNatClampNeg) (0 : Int32) (fun (S_61 : Mem) (r_62 : Int32) =>
  ((¬ r_62 = (-999999 : Int32)) →
  vc_L_areThermometers_J150 Q (vc_L_areThermometers_L35 Q K n35) (K) S_61 y5_15 y6_16 y7_17 y8_18 y10_20 y11_21) ∧ ((r_62 = (-999999 : Int32)) →
  vc_L_areThermometers_J151 Q (vc_L_areThermometers_L35 Q K n35) (K) S_61 y5_15 y6_16 y7_17 y8_18 y10_20 y11_21 (1 : Int32)))))))) n S y5 y6 y7 y8 y9 y10 ((10 : Int32) * y10) (0 : Int32)))
def vc_L_areThermometers_J328 (Q : Mem → Int32 → Prop) (S : Mem) (y5 : Int32) (y6 : Int32) (y7 : Int32) (y8 : Int32) (y9 : Int32) : Prop :=
  ((y9 = 0) →
  Q S (0 : Int32)) ∧ ((¬ (y9 = 0)) →
  vc_X6_count S (3 : Int32) (fun (S_71 : Mem) (r_72 : Int32) =>
  ((¬ r_72 = y5) →
  Q S_71 (0 : Int32)) ∧ ((r_72 = y5) →
  vc_X6_count S_71 (4 : Int32) (fun (S_74 : Mem) (r_75 : Int32) =>
  ((¬ r_75 = y6) →
  Q S_74 (0 : Int32)) ∧ ((r_75 = y6) →
  vc_X6_meanError S_74 (fun (S_77 : Mem) (r_78 : UInt64) =>
  ((¬ y8 = 0) →
  vf_n64 (FP.ddiv (FP.i2d y7) (FP.i2d y8)) ∧
  ((¬ (Op.cmpValue (FP.dcmp r_78 (FP.ddiv (FP.i2d y7) (FP.i2d y8))) CmpOp.l) = 0) →
  Q S_77 (0 : Int32)) ∧ (((Op.cmpValue (FP.dcmp r_78 (FP.ddiv (FP.i2d y7) (FP.i2d y8))) CmpOp.l) = 0) →
  Q S_77 (1 : Int32))) ∧ ((y8 = 0) →
  ((¬ (Op.cmpValue (FP.dcmp r_78 FP.dconst0) CmpOp.l) = 0) →
  Q S_77 (0 : Int32)) ∧ (((Op.cmpValue (FP.dcmp r_78 FP.dconst0) CmpOp.l) = 0) →
  Q S_77 (1 : Int32)))))))))
def vc_L_areThermometers_J30 (Q : Mem → Int32 → Prop) (S : Mem) (y5 : Int32) (y6 : Int32) (y7 : Int32) (y8 : Int32) (w0 : Int32) : Prop :=
  ∃ n : Nat, vc_L_areThermometers_L35 Q (fun (S_64 : Mem) (y5_65 : Int32) (y6_66 : Int32) (y7_67 : Int32) (y8_68 : Int32) (y9_69 : Int32) =>
  vc_L_areThermometers_J328 Q S_64 y5_65 y6_66 y7_67 y8_68 y9_69) n S y5 y6 y7 y8 w0 (0 : Int32)
def vc_L_areThermometers (S : Mem) (Q : Mem → Int32 → Prop) : Prop :=
  vc_X6_count S (1 : Int32) (fun (S_1 : Mem) (r_2 : Int32) =>
  vp_in (15 : Int32) 16 ∧
  ((¬ r_2 = (S_1 18 0 0 (15 : Int32).toNatClampNeg)) →
  vc_L_areThermometers_J30 Q S_1 (0 : Int32) (0 : Int32) (0 : Int32) (0 : Int32) (0 : Int32)) ∧ ((r_2 = (S_1 18 0 0 (15 : Int32).toNatClampNeg)) →
  vc_L_areThermometers_J30 Q S_1 (0 : Int32) (0 : Int32) (0 : Int32) (0 : Int32) (1 : Int32)))
def vc_L_areNumbers_L177 (Q : Mem → Int32 → Prop) (K : Mem → Int32 → Int32 → Int32 → Int32 → Prop) : Nat → Mem → Int32 → Int32 → Int32 → Int32 → Prop
  | 0, _, _, _, _, _ => False
  | n177 + 1, S, y6, y7, y8, y9 =>
  vp_in (0 : Int32) 16 ∧
  vp_in ((4 : Int32) + y7) 16 ∧
  (¬ (S 18 0 0 ((4 : Int32) + y7).toNatClampNeg) = 0) ∧
  (((((S 18 0 0 (0 : Int32).toNatClampNeg) + y9) - ((S 18 0 0 (0 : Int32).toNatClampNeg) + y9) / (S 18 0 0 ((4 : Int32) + y7).toNatClampNeg) * (S 18 0 0 ((4 : Int32) + y7).toNatClampNeg)) ≤ 0) →
  K S y6 y7 y8 y9) ∧ ((¬ ((((S 18 0 0 (0 : Int32).toNatClampNeg) + y9) - ((S 18 0 0 (0 : Int32).toNatClampNeg) + y9) / (S 18 0 0 ((4 : Int32) + y7).toNatClampNeg) * (S 18 0 0 ((4 : Int32) + y7).toNatClampNeg)) ≤ 0)) →
  vc_L_areNumbers_L177 Q K n177 S y6 y7 y8 (y9 + (1 : Int32)))
def vc_L_areNumbers_J233 (Q : Mem → Int32 → Prop) (K0 : Mem → Int32 → Int32 → Int32 → Int32 → Int32 → Prop) (K1 : Mem → Int32 → Int32 → Int32 → Int32 → Prop) (S : Mem) (y6 : Int32) (y7 : Int32) (y9 : Int32) (y10 : Int32) (w0 : Int32) (w1 : Int32) : Prop :=
  K0 S y6 y7 (w0 + w1) y9 (y10 + (1 : Int32))
def vc_L_areNumbers_L204 (Q : Mem → Int32 → Prop) (K : Mem → Int32 → Int32 → Int32 → Int32 → Prop) : Nat → Mem → Int32 → Int32 → Int32 → Int32 → Int32 → Prop
  | 0, _, _, _, _, _, _ => False
  | n204 + 1, S, y6, y7, y8, y9, y10 =>
  vp_in (15 : Int32) 16 ∧
  (((S 18 0 0 (15 : Int32).toNatClampNeg) ≤ y10) →
  K S y6 y7 y8 y9) ∧ ((¬ ((S 18 0 0 (15 : Int32).toNatClampNeg) ≤ y10)) →
  vp_in ((10 : Int32) * y10) 60 ∧
  ((¬ (S 15 0 0 ((10 : Int32) * y10).toNatClampNeg) = y7) →
  vc_L_areNumbers_J233 Q (vc_L_areNumbers_L204 Q K n204) (K) S y6 y7 y9 y10 y8 (0 : Int32)) ∧ (((S 15 0 0 ((10 : Int32) * y10).toNatClampNeg) = y7) →
  vc_L_areNumbers_J233 Q (vc_L_areNumbers_L204 Q K n204) (K) S y6 y7 y9 y10 y8 (1 : Int32)))
def vc_L_areNumbers_J311 (Q : Mem → Int32 → Prop) (K0 : Mem → Int32 → Int32 → Prop) (K1 : Mem → Int32 → Prop) (S : Mem) (y7 : Int32) (w0 : Int32) : Prop :=
  K0 S w0 (y7 + (1 : Int32))
def vc_L_areNumbers_J310 (Q : Mem → Int32 → Prop) (K0 : Mem → Int32 → Int32 → Prop) (K1 : Mem → Int32 → Prop) (S : Mem) (y7 : Int32) : Prop :=
  vc_L_areNumbers_J311 Q (K0) (K1) S y7 (0 : Int32)
def vc_L_areNumbers_L165 (Q : Mem → Int32 → Prop) (K : Mem → Int32 → Prop) : Nat → Mem → Int32 → Int32 → Prop
  | 0, _, _, _ => False
  | n165 + 1, S, y6, y7 =>
  (((4 : Int32) ≤ y7) →
  K S y6) ∧ ((¬ ((4 : Int32) ≤ y7)) →
  ∃ n : Nat, vc_L_areNumbers_L177 Q (fun (S_12 : Mem) (y6_13 : Int32) (y7_14 : Int32) (y8_15 : Int32) (y9_16 : Int32) =>
  ∃ n : Nat, vc_L_areNumbers_L204 Q (fun (S_21 : Mem) (y6_22 : Int32) (y7_23 : Int32) (y8_24 : Int32) (y9_25 : Int32) =>
  ((y6_22 = 0) →
  vc_L_areNumbers_J310 Q (vc_L_areNumbers_L165 Q K n165) (K) S_21 y7_23) ∧ ((¬ (y6_22 = 0)) →
  vc_X6_row S_21 y7_23 (0 : Int32) (fun (S_27 : Mem) (r_28 : Int32) =>
  vp_in ((4 : Int32) + y7_23) 16 ∧
  ((¬ r_28 = (S_27 18 0 0 ((4 : Int32) + y7_23).toNatClampNeg)) →
  vc_L_areNumbers_J310 Q (vc_L_areNumbers_L165 Q K n165) (K) S_27 y7_23) ∧ ((r_28 = (S_27 18 0 0 ((4 : Int32) + y7_23).toNatClampNeg)) →
  vc_X6_row S_27 y7_23 (1 : Int32) (fun (S_31 : Mem) (r_32 : Int32) =>
  ((¬ r_32 = y8_24) →
  vc_L_areNumbers_J310 Q (vc_L_areNumbers_L165 Q K n165) (K) S_31 y7_23) ∧ ((r_32 = y8_24) →
  vc_X6_row S_31 y7_23 (2 : Int32) (fun (S_34 : Mem) (r_35 : Int32) =>
  ((¬ r_35 = y9_25) →
  vc_L_areNumbers_J310 Q (vc_L_areNumbers_L165 Q K n165) (K) S_34 y7_23) ∧ ((r_35 = y9_25) →
  vc_X6_row S_34 y7_23 (3 : Int32) (fun (S_37 : Mem) (r_38 : Int32) =>
  vp_in ((8 : Int32) + y7_23) 16 ∧
  ((¬ r_38 = (S_37 18 0 0 ((8 : Int32) + y7_23).toNatClampNeg)) →
  vc_L_areNumbers_J310 Q (vc_L_areNumbers_L165 Q K n165) (K) S_37 y7_23) ∧ ((r_38 = (S_37 18 0 0 ((8 : Int32) + y7_23).toNatClampNeg)) →
  vc_L_areNumbers_J311 Q (vc_L_areNumbers_L165 Q K n165) (K) S_37 y7_23 (1 : Int32))))))))))) n S_12 y6_13 y7_14 y8_15 y9_16 (0 : Int32)) n S y6 y7 (0 : Int32) (1 : Int32))
def vc_L_areNumbers_J160 (Q : Mem → Int32 → Prop) (S : Mem) (w0 : Int32) : Prop :=
  ∃ n : Nat, vc_L_areNumbers_L165 Q (fun (S_41 : Mem) (y6_42 : Int32) =>
  (y6_42 = 0 ∨ y6_42 = 1) ∧ Q S_41 y6_42) n S w0 (0 : Int32)
def vc_L_areNumbers_J159 (Q : Mem → Int32 → Prop) (S : Mem) : Prop :=
  vc_L_areNumbers_J160 Q S (0 : Int32)
def vc_L_areNumbers_J80 (Q : Mem → Int32 → Prop) (S : Mem) (w0 : Int32) (w1 : Int32) : Prop :=
  ((¬ w0 = w1) →
  vc_L_areNumbers_J159 Q S) ∧ ((w0 = w1) →
  vc_X6_count S (7 : Int32) (fun (S_54 : Mem) (r_55 : Int32) =>
  vc_L_middle S_54 0 (-1 : Int32) (fun (S_56 : Mem) (r_57 : Int32) =>
  ((¬ r_55 = r_57) →
  vc_L_areNumbers_J159 Q S_56) ∧ ((r_55 = r_57) →
  vc_X6_count S_56 (8 : Int32) (fun (S_59 : Mem) (r_60 : Int32) =>
  vp_in (12 : Int32) 16 ∧
  ((¬ r_60 = (S_59 18 0 0 (12 : Int32).toNatClampNeg)) →
  vc_L_areNumbers_J159 Q S_59) ∧ ((r_60 = (S_59 18 0 0 (12 : Int32).toNatClampNeg)) →
  vc_X6_count S_59 (9 : Int32) (fun (S_63 : Mem) (r_64 : Int32) =>
  vp_in (13 : Int32) 16 ∧
  ((¬ r_64 = (S_63 18 0 0 (13 : Int32).toNatClampNeg)) →
  vc_L_areNumbers_J159 Q S_63) ∧ ((r_64 = (S_63 18 0 0 (13 : Int32).toNatClampNeg)) →
  vc_X6_count S_63 (12 : Int32) (fun (S_67 : Mem) (r_68 : Int32) =>
  vp_in (2 : Int32) 16 ∧
  ((¬ r_68 = (S_67 18 0 0 (2 : Int32).toNatClampNeg)) →
  vc_L_areNumbers_J159 Q S_67) ∧ ((r_68 = (S_67 18 0 0 (2 : Int32).toNatClampNeg)) →
  vc_X6_count S_67 (13 : Int32) (fun (S_71 : Mem) (r_72 : Int32) =>
  vp_in (3 : Int32) 16 ∧
  ((¬ r_72 = (S_71 18 0 0 (3 : Int32).toNatClampNeg)) →
  vc_L_areNumbers_J159 Q S_71) ∧ ((r_72 = (S_71 18 0 0 (3 : Int32).toNatClampNeg)) →
  vc_L_areNumbers_J160 Q S_71 (1 : Int32)))))))))))))
def vc_L_areNumbers_J67 (Q : Mem → Int32 → Prop) (S : Mem) (w0 : Int32) : Prop :=
  vc_L_areNumbers_J80 Q S w0 (-999999 : Int32)
def vc_L_areNumbers (S : Mem) (Q : Mem → Int32 → Prop) : Prop :=
  vc_L_mean S 0 (fun (S_1 : Mem) (r_2 : Int32) =>
  vc_X6_count S_1 (0 : Int32) (fun (S_3 : Mem) (r_4 : Int32) =>
  vp_in (0 : Int32) 16 ∧
  ((¬ r_4 = (S_3 18 0 0 (0 : Int32).toNatClampNeg)) →
  vc_L_areNumbers_J159 Q S_3) ∧ ((r_4 = (S_3 18 0 0 (0 : Int32).toNatClampNeg)) →
  vc_X6_count S_3 (2 : Int32) (fun (S_43 : Mem) (r_44 : Int32) =>
  vp_in (1 : Int32) 16 ∧
  ((¬ r_44 = (S_43 18 0 0 (1 : Int32).toNatClampNeg)) →
  vc_L_areNumbers_J159 Q S_43) ∧ ((r_44 = (S_43 18 0 0 (1 : Int32).toNatClampNeg)) →
  vc_X6_count S_43 (5 : Int32) (fun (S_47 : Mem) (r_48 : Int32) =>
  ((¬ r_48 = r_2) →
  vc_L_areNumbers_J159 Q S_47) ∧ ((r_48 = r_2) →
  vc_X6_count S_47 (6 : Int32) (fun (S_50 : Mem) (r_51 : Int32) =>
  ((r_2 = (-999999 : Int32)) →
  vc_L_areNumbers_J67 Q S_50 r_51) ∧ ((¬ (r_2 = (-999999 : Int32))) →
  vp_in (14 : Int32) 16 ∧
  ((¬ (S_50 18 0 0 (14 : Int32).toNatClampNeg) = (-999999 : Int32)) →
  vp_in (14 : Int32) 16 ∧
  vc_L_areNumbers_J80 Q S_50 r_51 (r_2 - (S_50 18 0 0 (14 : Int32).toNatClampNeg))) ∧ (((S_50 18 0 0 (14 : Int32).toNatClampNeg) = (-999999 : Int32)) →
  vc_L_areNumbers_J67 Q S_50 r_51))))))))))
def vc_L_areRanked_J88 (Q : Mem → Int32 → Prop) (K0 : Mem → Int32 → Int32 → Int32 → Prop) (K1 : Mem → Int32 → Int32 → Prop) (x5 : Int32) (x6 : Int32) (x7 : Int32) (S : Mem) (y8 : Int32) (y10 : Int32) (w0 : Int32) (w1 : Int32) : Prop :=
  K0 S y8 (w0 + w1) (y10 + (1 : Int32))
def vc_L_areRanked_J87 (Q : Mem → Int32 → Prop) (K0 : Mem → Int32 → Int32 → Int32 → Prop) (K1 : Mem → Int32 → Int32 → Prop) (x5 : Int32) (x6 : Int32) (x7 : Int32) (S : Mem) (y8 : Int32) (y10 : Int32) (w0 : Int32) : Prop :=
  vc_L_areRanked_J88 Q (K0) (K1) x5 x6 x7 S y8 y10 w0 (0 : Int32)
def vc_L_areRanked_J39 (Q : Mem → Int32 → Prop) (K0 : Mem → Int32 → Int32 → Int32 → Prop) (K1 : Mem → Int32 → Int32 → Prop) (x5 : Int32) (x6 : Int32) (x7 : Int32) (S : Mem) (y9 : Int32) (y10 : Int32) (w0 : Int32) (w1 : Int32) : Prop :=
  vp_in (((10 : Int32) * y10) + (7 : Int32)) 60 ∧
  (((S 15 0 0 (((10 : Int32) * y10) + (7 : Int32)).toNatClampNeg) ≤ 0) →
  vc_L_areRanked_J87 Q (K0) (K1) x5 x6 x7 S (w0 + w1) y10 y9) ∧ ((¬ ((S 15 0 0 (((10 : Int32) * y10) + (7 : Int32)).toNatClampNeg) ≤ 0)) →
  vc_L_own S 0 y10 (fun (S_7 : Mem) (r_8 : Int32) =>
  ((r_8 < x6) →
  vc_L_areRanked_J87 Q (K0) (K1) x5 x6 x7 S_7 (w0 + w1) y10 y9) ∧ ((¬ (r_8 < x6)) →
  vc_L_own S_7 0 y10 (fun (S_10 : Mem) (r_11 : Int32) =>
  ((x7 < r_11) →
  vc_L_areRanked_J87 Q (K0) (K1) x5 x6 x7 S_10 (w0 + w1) y10 y9) ∧ ((¬ (x7 < r_11)) →
  vc_L_areRanked_J88 Q (K0) (K1) x5 x6 x7 S_10 (w0 + w1) y10 y9 (1 : Int32))))))
def vc_L_areRanked_L9 (Q : Mem → Int32 → Prop) (K : Mem → Int32 → Int32 → Prop) (x5 : Int32) (x6 : Int32) (x7 : Int32) : Nat → Mem → Int32 → Int32 → Int32 → Prop
  | 0, _, _, _, _ => False
  | n9 + 1, S, y8, y9, y10 =>
  vp_in (15 : Int32) 16 ∧
  (((S 18 0 0 (15 : Int32).toNatClampNeg) ≤ y10) →
  K S y8 y9) ∧ ((¬ ((S 18 0 0 (15 : Int32).toNatClampNeg) ≤ y10)) →
  vp_in (((10 : Int32) * y10) + (7 : Int32)) 60 ∧
  (((S 15 0 0 (((10 : Int32) * y10) + (7 : Int32)).toNatClampNeg) ≤ 0) →
  vc_L_areRanked_J39 Q (vc_L_areRanked_L9 Q K x5 x6 x7 n9) (K) x5 x6 x7 S y9 y10 y8 (0 : Int32)) ∧ ((¬ ((S 15 0 0 (((10 : Int32) * y10) + (7 : Int32)).toNatClampNeg) ≤ 0)) →
  vc_L_areRanked_J39 Q (vc_L_areRanked_L9 Q K x5 x6 x7 n9) (K) x5 x6 x7 S y9 y10 y8 (1 : Int32)))
def vc_L_areRanked_J272 (Q : Mem → Int32 → Prop) (K0 : Mem → Int32 → Int32 → Int32 → Int32 → Int32 → Prop) (K1 : Mem → Int32 → Prop) (x5 : Int32) (x6 : Int32) (x7 : Int32) (S : Mem) (y8 : Int32) (y13 : Int32) (y14 : Int32) (y15 : Int32) (w0 : Int32) : Prop :=
  K0 S y8 w0 y15 y14 (y13 + (1 : Int32))
def vc_L_areRanked_J271 (Q : Mem → Int32 → Prop) (K0 : Mem → Int32 → Int32 → Int32 → Int32 → Int32 → Prop) (K1 : Mem → Int32 → Prop) (x5 : Int32) (x6 : Int32) (x7 : Int32) (S : Mem) (y8 : Int32) (y13 : Int32) (y14 : Int32) (y15 : Int32) : Prop :=
  vc_L_areRanked_J272 Q (K0) (K1) x5 x6 x7 S y8 y13 y14 y15 (0 : Int32)
def vc_L_areRanked_J267 (Q : Mem → Int32 → Prop) (K0 : Mem → Int32 → Int32 → Int32 → Int32 → Int32 → Prop) (K1 : Mem → Int32 → Prop) (x5 : Int32) (x6 : Int32) (x7 : Int32) (S : Mem) (y8 : Int32) (y13 : Int32) (y14 : Int32) (y15 : Int32) : Prop :=
  vc_L_areRanked_J272 Q (K0) (K1) x5 x6 x7 S y8 y13 y14 y15 (1 : Int32)
def vc_L_areRanked_J239 (Q : Mem → Int32 → Prop) (K0 : Mem → Int32 → Int32 → Int32 → Int32 → Int32 → Prop) (K1 : Mem → Int32 → Prop) (x5 : Int32) (x6 : Int32) (x7 : Int32) (S : Mem) (y8 : Int32) (y10 : Int32) (y11 : Int32) (y12 : Int32) (y13 : Int32) (y14 : Int32) (w0 : Int32) : Prop :=
  ((y10 = 0) →
  vc_L_areRanked_J271 Q (K0) (K1) x5 x6 x7 S y8 y13 y14 w0) ∧ ((¬ (y10 = 0)) →
  ((y11 < w0) →
  vc_L_areRanked_J267 Q (K0) (K1) x5 x6 x7 S y8 y13 y14 w0) ∧ ((¬ (y11 < w0)) →
  ((¬ w0 = y11) →
  vc_L_areRanked_J271 Q (K0) (K1) x5 x6 x7 S y8 y13 y14 w0) ∧ ((w0 = y11) →
  ((y14 ≤ y12) →
  vc_L_areRanked_J271 Q (K0) (K1) x5 x6 x7 S y8 y13 y14 w0) ∧ ((¬ (y14 ≤ y12)) →
  vc_L_areRanked_J267 Q (K0) (K1) x5 x6 x7 S y8 y13 y14 w0))))
def vc_L_areRanked_J195 (Q : Mem → Int32 → Prop) (K0 : Mem → Int32 → Int32 → Int32 → Int32 → Int32 → Prop) (K1 : Mem → Int32 → Prop) (x5 : Int32) (x6 : Int32) (x7 : Int32) (S : Mem) (y8 : Int32) (y11 : Int32) (y12 : Int32) (y13 : Int32) (y14 : Int32) (w0 : Int32) : Prop :=
  ((¬ w0 = 0) →
  ((¬ x5 = 0) →
  vc_L_own S 0 y14 (fun (S_26 : Mem) (r_27 : Int32) =>
  vp_in (1 : Int32) 16 ∧
  vc_L_size S_26 (r_27 - (S_26 18 0 0 (1 : Int32).toNatClampNeg)) (fun (S_29 : Mem) (r_30 : Int32) =>
  vc_L_areRanked_J239 Q (K0) (K1) x5 x6 x7 S_29 y8 w0 y11 y12 y13 y14 (-r_30)))) ∧ ((x5 = 0) →
  vc_L_own S 0 y14 (fun (S_35 : Mem) (r_36 : Int32) =>
  vc_L_areRanked_J239 Q (K0) (K1) x5 x6 x7 S_35 y8 w0 y11 y12 y13 y14 r_36))) ∧ ((w0 = 0) →
  vc_L_areRanked_J239 Q (K0) (K1) x5 x6 x7 S y8 w0 y11 y12 y13 y14 (0 : Int32))
def vc_L_areRanked_J194 (Q : Mem → Int32 → Prop) (K0 : Mem → Int32 → Int32 → Int32 → Int32 → Int32 → Prop) (K1 : Mem → Int32 → Prop) (x5 : Int32) (x6 : Int32) (x7 : Int32) (S : Mem) (y8 : Int32) (y11 : Int32) (y12 : Int32) (y13 : Int32) (y14 : Int32) : Prop :=
  vc_L_areRanked_J195 Q (K0) (K1) x5 x6 x7 S y8 y11 y12 y13 y14 (0 : Int32)
def vc_L_areRanked_L140 (Q : Mem → Int32 → Prop) (K : Mem → Int32 → Prop) (x5 : Int32) (x6 : Int32) (x7 : Int32) : Nat → Mem → Int32 → Int32 → Int32 → Int32 → Int32 → Prop
  | 0, _, _, _, _, _, _ => False
  | n140 + 1, S, y8, y10, y11, y12, y13 =>
  ((y8 ≤ y13) →
  K S y10) ∧ ((¬ (y8 ≤ y13)) →
  ((y10 = 0) →
  K S y10) ∧ ((¬ (y10 = 0)) →
  vc_X6_ranked S x5 y13 (fun (S_21 : Mem) (r_22 : Int32) =>
  ((r_22 < 0) →
  vc_L_areRanked_J194 Q (vc_L_areRanked_L140 Q K x5 x6 x7 n140) (K) x5 x6 x7 S_21 y8 y11 y12 y13 r_22) ∧ ((¬ (r_22 < 0)) →
  vp_in (15 : Int32) 16 ∧
  (((S_21 18 0 0 (15 : Int32).toNatClampNeg) ≤ r_22) →
  vc_L_areRanked_J194 Q (vc_L_areRanked_L140 Q K x5 x6 x7 n140) (K) x5 x6 x7 S_21 y8 y11 y12 y13 r_22) ∧ ((¬ ((S_21 18 0 0 (15 : Int32).toNatClampNeg) ≤ r_22)) →
  vp_in (((10 : Int32) * r_22) + (7 : Int32)) 60 ∧
  (((S_21 15 0 0 (((10 : Int32) * r_22) + (7 : Int32)).toNatClampNeg) ≤ 0) →
  vc_L_areRanked_J194 Q (vc_L_areRanked_L140 Q K x5 x6 x7 n140) (K) x5 x6 x7 S_21 y8 y11 y12 y13 r_22) ∧ ((¬ ((S_21 15 0 0 (((10 : Int32) * r_22) + (7 : Int32)).toNatClampNeg) ≤ 0)) →
  vc_L_areRanked_J195 Q (vc_L_areRanked_L140 Q K x5 x6 x7 n140) (K) x5 x6 x7 S_21 y8 y11 y12 y13 r_22 (1 : Int32)))))))
def vc_L_areRanked_J128 (Q : Mem → Int32 → Prop) (x5 : Int32) (x6 : Int32) (x7 : Int32) (S : Mem) (y8 : Int32) (w0 : Int32) : Prop :=
  ∃ n : Nat, vc_L_areRanked_L140 Q (fun (S_41 : Mem) (y10_42 : Int32) =>
  (y10_42 = 0 ∨ y10_42 = 1) ∧ Q S_41 y10_42) x5 x6 x7 n S y8 w0 (-2000000 : Int32) (-1 : Int32) (0 : Int32)
def vc_L_areRanked_J127 (Q : Mem → Int32 → Prop) (x5 : Int32) (x6 : Int32) (x7 : Int32) (S : Mem) (y8 : Int32) : Prop :=
  vc_L_areRanked_J128 Q x5 x6 x7 S y8 (0 : Int32)
def vc_L_areRanked (S : Mem) (x5 : Int32) (x6 : Int32) (x7 : Int32) (Q : Mem → Int32 → Prop) : Prop :=
  ∃ n : Nat, vc_L_areRanked_L9 Q (fun (S_13 : Mem) (y8_14 : Int32) (y9_15 : Int32) =>
  vc_X6_ranked S_13 x5 y8_14 (fun (S_16 : Mem) (r_17 : Int32) =>
  ((¬ r_17 = (-999999 : Int32)) →
  vc_L_areRanked_J127 Q x5 x6 x7 S_16 y8_14) ∧ ((r_17 = (-999999 : Int32)) →
  vc_X6_between S_16 x6 x7 (fun (S_43 : Mem) (r_44 : Int32) =>
  ((¬ r_44 = y9_15) →
  vc_L_areRanked_J127 Q x5 x6 x7 S_43 y8_14) ∧ ((r_44 = y9_15) →
  vc_L_areRanked_J128 Q x5 x6 x7 S_43 y8_14 (1 : Int32)))))) x5 x6 x7 n S (0 : Int32) (0 : Int32) (0 : Int32)
def vc_L_copy_L2 (Q : Mem → Prop) (K : Mem → Prop) (t0 : Nat) (P0 : Nat) (i0 : Nat) (n0 : Nat) (t1 : Nat) (P1 : Nat) (i1 : Nat) (n1 : Nat) : Nat → Mem → Int32 → Prop
  | 0, _, _ => False
  | n2 + 1, S, y2 =>
  (((nI n0) ≤ y2) →
  K S) ∧ ((¬ ((nI n0) ≤ y2)) →
  vp_in y2 n0 ∧
  vp_in y2 n1 ∧
  ∀ S_3 : Mem, S_3 = uc S t1 P1 i1 (upd (S t1 P1 i1) y2.toNatClampNeg (S t0 P0 i0 y2.toNatClampNeg)) →
  vc_L_copy_L2 Q K t0 P0 i0 n0 t1 P1 i1 n1 n2 S_3 (y2 + (1 : Int32)))
def vc_L_copy (S : Mem) (t0 : Nat) (P0 : Nat) (i0 : Nat) (n0 : Nat) (t1 : Nat) (P1 : Nat) (i1 : Nat) (n1 : Nat) (Q : Mem → Prop) : Prop :=
  ∃ n : Nat, vc_L_copy_L2 Q (fun (S_6 : Mem) =>
  Q S_6) t0 P0 i0 n0 t1 P1 i1 n1 n S (0 : Int32)
def vc_L_would_L52 (Q : Mem → Int32 → Prop) (K : Mem → Prop) (x5 : Int32) : Nat → Mem → Int32 → Prop
  | 0, _, _ => False
  | n52 + 1, S, y10 =>
  ((x5 ≤ y10) →
  K S) ∧ ((¬ (x5 ≤ y10)) →
  vp_in (1 : Int32) 16 ∧
  vc_L_hour S 1 (S 18 1 0 (1 : Int32).toNatClampNeg) (fun (S_7 : Mem) (r_8 : Int32) =>
  vc_L_would_L52 Q K x5 n52 S_7 (y10 + (1 : Int32))))
def vc_L_would_J165 (Q : Mem → Int32 → Prop) (K0 : Mem → Int32 → Int32 → Int32 → Prop) (K1 : Mem → Int32 → Int32 → Prop) (x5 : Int32) (S : Mem) (y10 : Int32) (y12 : Int32) (w0 : Int32) : Prop :=
  K0 S y10 w0 (y12 + (1 : Int32))
def vc_L_would_L91 (Q : Mem → Int32 → Prop) (K : Mem → Int32 → Int32 → Prop) (x5 : Int32) : Nat → Mem → Int32 → Int32 → Int32 → Prop
  | 0, _, _, _, _ => False
  | n91 + 1, S, y10, y11, y12 =>
  vp_in (15 : Int32) 16 ∧
  (((S 18 0 0 (15 : Int32).toNatClampNeg) ≤ y12) →
  K S y10 y11) ∧ ((¬ ((S 18 0 0 (15 : Int32).toNatClampNeg) ≤ y12)) →
  vp_in (((10 : Int32) * y12) + (6 : Int32)) 60 ∧
  vp_in (((10 : Int32) * y12) + (4 : Int32)) 60 ∧
  vp_in (((10 : Int32) * y12) + (2 : Int32)) 60 ∧
  vp_in (1 : Int32) 16 ∧
  vc_L_size S (((S 15 1 0 (((10 : Int32) * y12) + (4 : Int32)).toNatClampNeg) - (S 15 1 0 (((10 : Int32) * y12) + (2 : Int32)).toNatClampNeg)) - (S 18 0 0 (1 : Int32).toNatClampNeg)) (fun (S_16 : Mem) (r_17 : Int32) =>
  ((r_17 ≤ y11) →
  vc_L_would_J165 Q (vc_L_would_L91 Q K x5 n91) (K) x5 S_16 (y10 ||| ((S 15 1 0 (((10 : Int32) * y12) + (6 : Int32)).toNatClampNeg) <<< (y12 &&& 31))) y12 y11) ∧ ((¬ (r_17 ≤ y11)) →
  vc_L_would_J165 Q (vc_L_would_L91 Q K x5 n91) (K) x5 S_16 (y10 ||| ((S 15 1 0 (((10 : Int32) * y12) + (6 : Int32)).toNatClampNeg) <<< (y12 &&& 31))) y12 r_17)))
def vc_L_wouldR (S : Mem) (x5 : Int32) (Q : Mem → Int32 → Prop) : Prop :=
  vc_L_copy S 15 0 0 60 15 1 0 60 (fun (S_1 : Mem) =>
  vc_L_copy S_1 16 0 0 36 16 1 0 36 (fun (S_2 : Mem) =>
  vc_L_copy S_2 17 0 0 36 17 1 0 36 (fun (S_3 : Mem) =>
  vc_L_copy S_3 18 0 0 16 18 1 0 16 (fun (S_4 : Mem) =>
  ∃ n : Nat, vc_L_would_L52 Q (fun (S_9 : Mem) =>
  ∃ n : Nat, vc_L_would_L91 Q (fun (S_19 : Mem) (y10_20 : Int32) (y11_21 : Int32) =>
  vc_X6_ifStill S_19 x5 (0 : Int32) (fun (S_22 : Mem) (r_23 : Int32) =>
  vc_L_mean S_22 1 (fun (S_24 : Mem) (r_25 : Int32) =>
  ((¬ r_23 = r_25) →
  ((0 : Int32) = 0 ∨ (0 : Int32) = 1) ∧ Q S_24 (0 : Int32)) ∧ ((r_23 = r_25) →
  vc_X6_ifStill S_24 x5 (1 : Int32) (fun (S_27 : Mem) (r_28 : Int32) =>
  ((¬ r_28 = y10_20) →
  ((0 : Int32) = 0 ∨ (0 : Int32) = 1) ∧ Q S_27 (0 : Int32)) ∧ ((r_28 = y10_20) →
  vc_X6_ifStill S_27 x5 (2 : Int32) (fun (S_30 : Mem) (r_31 : Int32) =>
  vp_in (13 : Int32) 16 ∧
  vp_in (13 : Int32) 16 ∧
  ((¬ r_31 = ((S_30 18 1 0 (13 : Int32).toNatClampNeg) - (S_30 18 0 0 (13 : Int32).toNatClampNeg))) →
  ((0 : Int32) = 0 ∨ (0 : Int32) = 1) ∧ Q S_30 (0 : Int32)) ∧ ((r_31 = ((S_30 18 1 0 (13 : Int32).toNatClampNeg) - (S_30 18 0 0 (13 : Int32).toNatClampNeg))) →
  vc_X6_ifStill S_30 x5 (3 : Int32) (fun (S_35 : Mem) (r_36 : Int32) =>
  ((¬ r_36 = y11_21) →
  ((0 : Int32) = 0 ∨ (0 : Int32) = 1) ∧ Q S_35 (0 : Int32)) ∧ ((r_36 = y11_21) →
  ((1 : Int32) = 0 ∨ (1 : Int32) = 1) ∧ Q S_35 (1 : Int32))))))))))) x5 n S_9 (0 : Int32) (0 : Int32) (0 : Int32)) x5 n S_4 (0 : Int32)))))
def vc_L_would (S : Mem) (x5 : Int32) (Q : Mem → Int32 → Prop) : Prop := ∀ S1 : Mem, S1 = uc S 15 1 0 (fun _ => 0) → ∀ S2 : Mem, S2 = uc S1 16 1 0 (fun _ => 0) → ∀ S3 : Mem, S3 = uc S2 17 1 0 (fun _ => 0) → ∀ S4 : Mem, S4 = uc S3 18 1 0 (fun _ => 0) → vc_L_wouldR S4 x5 Q
def vc_L_wouldOne_J112 (Q : Mem → Int32 → Prop) (K0 : Mem → Int32 → Int32 → Int32 → Int32 → Prop) (K1 : Mem → Int32 → Int32 → Prop) (x5 : Int32) (S : Mem) (y6 : Int32) (y8 : Int32) (y9 : Int32) (w0 : Int32) : Prop :=
  K0 S y6 w0 y8 (y9 + (-1 : Int32))
def vc_L_wouldOne_J96 (Q : Mem → Int32 → Prop) (K0 : Mem → Int32 → Int32 → Int32 → Int32 → Prop) (K1 : Mem → Int32 → Int32 → Prop) (x5 : Int32) (S : Mem) (y7 : Int32) (y8 : Int32) (y9 : Int32) (y11 : Int32) (w0 : Int32) : Prop :=
  ((¬ w0 = y9) →
  vc_L_wouldOne_J112 Q (K0) (K1) x5 S w0 y8 y9 y7) ∧ ((w0 = y9) →
  vc_L_wouldOne_J112 Q (K0) (K1) x5 S w0 y8 y9 y11)
def vc_L_wouldOne_J94 (Q : Mem → Int32 → Prop) (K0 : Mem → Int32 → Int32 → Int32 → Int32 → Prop) (K1 : Mem → Int32 → Int32 → Prop) (x5 : Int32) (S : Mem) (y6 : Int32) (y7 : Int32) (y8 : Int32) (y9 : Int32) (y11 : Int32) : Prop :=
  vc_L_wouldOne_J96 Q (K0) (K1) x5 S y7 y8 y9 y11 y6
def vc_L_wouldOne_J89 (Q : Mem → Int32 → Prop) (K0 : Mem → Int32 → Int32 → Int32 → Int32 → Prop) (K1 : Mem → Int32 → Int32 → Prop) (x5 : Int32) (S : Mem) (y7 : Int32) (y8 : Int32) (y9 : Int32) (y11 : Int32) : Prop :=
  vc_L_wouldOne_J96 Q (K0) (K1) x5 S y7 y8 y9 y11 y9
def vc_L_wouldOne_J54 (Q : Mem → Int32 → Prop) (K0 : Mem → Int32 → Int32 → Int32 → Int32 → Prop) (K1 : Mem → Int32 → Int32 → Prop) (x5 : Int32) (S : Mem) (y6 : Int32) (y7 : Int32) (y9 : Int32) (y10 : Int32) (w0 : Int32) : Prop :=
  vp_in (1 : Int32) 16 ∧
  vc_L_size S (y10 - (S 18 0 0 (1 : Int32).toNatClampNeg)) (fun (S_6 : Mem) (r_7 : Int32) =>
  ((y10 = (-999999 : Int32)) →
  vc_L_wouldOne_J94 Q (K0) (K1) x5 S_6 y6 y7 w0 y9 r_7) ∧ ((¬ (y10 = (-999999 : Int32))) →
  ((y6 = (-999999 : Int32)) →
  vc_L_wouldOne_J89 Q (K0) (K1) x5 S_6 y7 w0 y9 r_7) ∧ ((¬ (y6 = (-999999 : Int32))) →
  ((y7 < r_7) →
  vc_L_wouldOne_J94 Q (K0) (K1) x5 S_6 y6 y7 w0 y9 r_7) ∧ ((¬ (y7 < r_7)) →
  vc_L_wouldOne_J89 Q (K0) (K1) x5 S_6 y7 w0 y9 r_7))))
def vc_L_wouldOne_J53 (Q : Mem → Int32 → Prop) (K0 : Mem → Int32 → Int32 → Int32 → Int32 → Prop) (K1 : Mem → Int32 → Int32 → Prop) (x5 : Int32) (S : Mem) (y6 : Int32) (y7 : Int32) (y9 : Int32) (y10 : Int32) : Prop :=
  vc_L_wouldOne_J54 Q (K0) (K1) x5 S y6 y7 y9 y10 (0 : Int32)
def vc_L_wouldOne_L14 (Q : Mem → Int32 → Prop) (K : Mem → Int32 → Int32 → Prop) (x5 : Int32) : Nat → Mem → Int32 → Int32 → Int32 → Int32 → Prop
  | 0, _, _, _, _, _ => False
  | n14 + 1, S, y6, y7, y8, y9 =>
  ((y9 ≤ 0) →
  K S y6 y8) ∧ ((¬ (y9 ≤ 0)) →
  vc_L_mended S 0 x5 y9 (fun (S_2 : Mem) (r_3 : Int32) =>
  ((y8 = 0) →
  vc_L_wouldOne_J53 Q (vc_L_wouldOne_L14 Q K x5 n14) (K) x5 S_2 y6 y7 y9 r_3) ∧ ((¬ (y8 = 0)) →
  vc_X6_ifLag S_2 x5 y9 (fun (S_12 : Mem) (r_13 : Int32) =>
  ((¬ r_13 = r_3) →
  vc_L_wouldOne_J53 Q (vc_L_wouldOne_L14 Q K x5 n14) (K) x5 S_12 y6 y7 y9 r_3) ∧ ((r_13 = r_3) →
  vc_L_wouldOne_J54 Q (vc_L_wouldOne_L14 Q K x5 n14) (K) x5 S_12 y6 y7 y9 r_3 (1 : Int32))))))
def vc_L_wouldOne_L138 (Q : Mem → Int32 → Prop) (K : Mem → Int32 → Int32 → Int32 → Prop) (x5 : Int32) : Nat → Mem → Int32 → Int32 → Int32 → Int32 → Int32 → Prop
  | 0, _, _, _, _, _, _ => False
  | n138 + 1, S, y6, y8, y9, y10, y11 =>
  vp_in (1 : Int32) 16 ∧
  vp_in (y9 + (2 : Int32)) 60 ∧
  vc_L_size S (((S 18 0 0 (1 : Int32).toNatClampNeg) + (S 15 0 0 (y9 + (2 : Int32)).toNatClampNeg)) - y10) (fun (S_21 : Mem) (r_22 : Int32) =>
  vp_in (y9 + (1 : Int32)) 60 ∧
  ((r_22 < (S_21 15 0 0 (y9 + (1 : Int32)).toNatClampNeg)) →
  K S_21 y6 y8 y11) ∧ ((¬ (r_22 < (S_21 15 0 0 (y9 + (1 : Int32)).toNatClampNeg))) →
  vp_in (1 : Int32) 16 ∧
  vp_in (y9 + (2 : Int32)) 60 ∧
  vp_in (y9 + (1 : Int32)) 60 ∧
  (¬ (S_21 15 0 0 (y9 + (1 : Int32)).toNatClampNeg) = 0) ∧
  vc_L_wouldOne_L138 Q K x5 n138 S_21 y6 y8 y9 (y10 + ((((S_21 18 0 0 (1 : Int32).toNatClampNeg) + (S_21 15 0 0 (y9 + (2 : Int32)).toNatClampNeg)) - y10) / (S_21 15 0 0 (y9 + (1 : Int32)).toNatClampNeg))) (y11 + (1 : Int32))))
def vc_L_wouldOne (S : Mem) (x5 : Int32) (Q : Mem → Int32 → Prop) : Prop :=
  ∃ n : Nat, vc_L_wouldOne_L14 Q (fun (S_15 : Mem) (y6_16 : Int32) (y8_17 : Int32) =>
  vp_in (((10 : Int32) * x5) + (4 : Int32)) 60 ∧
  ∃ n : Nat, vc_L_wouldOne_L138 Q (fun (S_29 : Mem) (y6_30 : Int32) (y8_31 : Int32) (y11_32 : Int32) =>
  ((y8_31 = 0) →
  Q S_29 (0 : Int32)) ∧ ((¬ (y8_31 = 0)) →
  vc_X6_bestLag S_29 x5 (fun (S_34 : Mem) (r_35 : Int32) =>
  ((¬ r_35 = y6_30) →
  Q S_34 (0 : Int32)) ∧ ((r_35 = y6_30) →
  vc_X6_stillIn S_34 x5 (fun (S_37 : Mem) (r_38 : Int32) =>
  ((¬ r_38 = y11_32) →
  Q S_37 (0 : Int32)) ∧ ((r_38 = y11_32) →
  Q S_37 (1 : Int32))))))) x5 n S_15 y6_16 y8_17 ((10 : Int32) * x5) (S_15 15 0 0 (((10 : Int32) * x5) + (4 : Int32)).toNatClampNeg) (0 : Int32)) x5 n S (-999999 : Int32) (0 : Int32) (1 : Int32) (9 : Int32)
def vc_L_adds_L37 (Q : Mem → Int32 → Prop) (K : Mem → Int32 → Prop) (x3 : Int32) : Nat → Mem → Int32 → Int32 → Prop
  | 0, _, _, _ => False
  | n37 + 1, S, y4, y5 =>
  (((10 : Int32) ≤ y5) →
  K S y4) ∧ ((¬ ((10 : Int32) ≤ y5)) →
  vp_in (y4 + y5) 60 ∧
  ∀ S_5 : Mem, S_5 = uc S 15 0 0 (upd (S 15 0 0) (y4 + y5).toNatClampNeg (0 : Int32)) →
  vc_L_adds_L37 Q K x3 n37 S_5 y4 (y5 + (1 : Int32)))
def vc_L_adds (S : Mem) (x3 : Int32) (Q : Mem → Int32 → Prop) : Prop :=
  vp_in (15 : Int32) 16 ∧
  ((¬ (S 18 0 0 (15 : Int32).toNatClampNeg) = (6 : Int32)) →
  vp_in (15 : Int32) 16 ∧
  ∃ n : Nat, vc_L_adds_L37 Q (fun (S_8 : Mem) (y4_9 : Int32) =>
  vc_L_low S_8 x3 (5 : Int32) (fun (S_10 : Mem) (r_11 : Int32) =>
  (¬ (4 : Int32) = 0) ∧
  vp_in y4_9 60 ∧
  ∀ S_13 : Mem, S_13 = uc S_10 15 0 0 (upd (S_10 15 0 0) y4_9.toNatClampNeg (r_11 - r_11 / (4 : Int32) * (4 : Int32))) →
  vc_L_low S_13 (x3 >>> ((3 : Int32) &&& 31)) (9 : Int32) (fun (S_16 : Mem) (r_17 : Int32) =>
  vp_in (y4_9 + (1 : Int32)) 60 ∧
  ∀ S_18 : Mem, S_18 = uc S_16 15 0 0 (upd (S_16 15 0 0) (y4_9 + (1 : Int32)).toNatClampNeg ((1 : Int32) + r_17)) →
  vc_L_low S_18 (x3 >>> ((7 : Int32) &&& 31)) (401 : Int32) (fun (S_21 : Mem) (r_22 : Int32) =>
  vp_in (y4_9 + (2 : Int32)) 60 ∧
  ∀ S_23 : Mem, S_23 = uc S_21 15 0 0 (upd (S_21 15 0 0) (y4_9 + (2 : Int32)).toNatClampNeg (r_22 - (200 : Int32))) →
  vc_L_low S_23 (x3 >>> ((12 : Int32) &&& 31)) (5 : Int32) (fun (S_26 : Mem) (r_27 : Int32) =>
  vp_in (y4_9 + (3 : Int32)) 60 ∧
  ∀ S_28 : Mem, S_28 = uc S_26 15 0 0 (upd (S_26 15 0 0) (y4_9 + (3 : Int32)).toNatClampNeg ((1 : Int32) + r_27)) →
  vp_in (1 : Int32) 16 ∧
  vp_in (y4_9 + (2 : Int32)) 60 ∧
  vp_in (y4_9 + (4 : Int32)) 60 ∧
  ∀ S_33 : Mem, S_33 = uc S_28 15 0 0 (upd (S_28 15 0 0) (y4_9 + (4 : Int32)).toNatClampNeg ((S_28 18 0 0 (1 : Int32).toNatClampNeg) + (S_28 15 0 0 (y4_9 + (2 : Int32)).toNatClampNeg))) →
  vp_in (15 : Int32) 16 ∧
  vp_in (15 : Int32) 16 ∧
  ∀ S_37 : Mem, S_37 = uc S_33 18 0 0 (upd (S_33 18 0 0) (15 : Int32).toNatClampNeg ((S_33 18 0 0 (15 : Int32).toNatClampNeg) + (1 : Int32))) →
  vp_in y4_9 60 ∧
  vp_in (y4_9 + (1 : Int32)) 60 ∧
  vp_in (y4_9 + (2 : Int32)) 60 ∧
  vp_in (y4_9 + (3 : Int32)) 60 ∧
  vc_X6_thermometer S_37 (S_37 15 0 0 y4_9.toNatClampNeg) (S_37 15 0 0 (y4_9 + (1 : Int32)).toNatClampNeg) (S_37 15 0 0 (y4_9 + (2 : Int32)).toNatClampNeg) (S_37 15 0 0 (y4_9 + (3 : Int32)).toNatClampNeg) (fun (S_44 : Mem) (r_45 : Int32) =>
  vp_in (15 : Int32) 16 ∧
  ((¬ r_45 = ((S_44 18 0 0 (15 : Int32).toNatClampNeg) - (1 : Int32))) →
  Q S_44 (0 : Int32)) ∧ ((r_45 = ((S_44 18 0 0 (15 : Int32).toNatClampNeg) - (1 : Int32))) →
  Q S_44 (1 : Int32)))))))) x3 n S ((10 : Int32) * (S 18 0 0 (15 : Int32).toNatClampNeg)) (0 : Int32)) ∧ (((S 18 0 0 (15 : Int32).toNatClampNeg) = (6 : Int32)) →
  vc_X6_count S (1 : Int32) (fun (S_48 : Mem) (r_49 : Int32) =>
  ((¬ r_49 = (6 : Int32)) →
  Q S_48 (0 : Int32)) ∧ ((r_49 = (6 : Int32)) →
  Q S_48 (1 : Int32))))
def vc_L_acts_J272 (Q : Mem → Int32 → Prop) (x5 : Int32) (x6 : Int32) (S : Mem) (y7 : Int32) (w0 : Int32) : Prop :=
  vp_in (((10 : Int32) * y7) + (4 : Int32)) 60 ∧
  vc_L_size S ((S 15 0 0 (((10 : Int32) * y7) + (4 : Int32)).toNatClampNeg) + w0) (fun (S_48 : Mem) (r_49 : Int32) =>
  ((r_49 ≤ (20000 : Int32)) →
  vp_in (((10 : Int32) * y7) + (4 : Int32)) 60 ∧
  vp_in (((10 : Int32) * y7) + (4 : Int32)) 60 ∧
  ∀ S_52 : Mem, S_52 = uc S_48 15 0 0 (upd (S_48 15 0 0) (((10 : Int32) * y7) + (4 : Int32)).toNatClampNeg ((S_48 15 0 0 (((10 : Int32) * y7) + (4 : Int32)).toNatClampNeg) + w0)) →
  vc_X6_knock S_52 y7 w0 (fun (S_55 : Mem) (r_56 : Int32) =>
  vp_in (((10 : Int32) * y7) + (4 : Int32)) 60 ∧
  ((¬ r_56 = ((S_55 15 0 0 (((10 : Int32) * y7) + (4 : Int32)).toNatClampNeg) + (100000 : Int32))) →
  Q S_55 (0 : Int32)) ∧ ((r_56 = ((S_55 15 0 0 (((10 : Int32) * y7) + (4 : Int32)).toNatClampNeg) + (100000 : Int32))) →
  Q S_55 (1 : Int32)))) ∧ ((¬ (r_49 ≤ (20000 : Int32))) →
  vc_X6_ofThermometer S_48 y7 (4 : Int32) (fun (S_59 : Mem) (r_60 : Int32) =>
  vp_in (((10 : Int32) * y7) + (4 : Int32)) 60 ∧
  ((¬ r_60 = (S_59 15 0 0 (((10 : Int32) * y7) + (4 : Int32)).toNatClampNeg)) →
  Q S_59 (0 : Int32)) ∧ ((r_60 = (S_59 15 0 0 (((10 : Int32) * y7) + (4 : Int32)).toNatClampNeg)) →
  Q S_59 (1 : Int32)))))
def vc_L_acts_J435 (Q : Mem → Int32 → Prop) (x5 : Int32) (x6 : Int32) (S : Mem) (y12 : Int32) (y13 : Int32) (w1 : Int32) (w2 : Int32) : Prop :=
  vp_in w1 16 ∧
  ∀ S_88 : Mem, S_88 = uc S 18 0 0 (upd (S 18 0 0) w1.toNatClampNeg w2) →
  vp_in ((2 : Int32) + y12) 16 ∧
  vc_X6_set S_88 y12 (S_88 18 0 0 ((2 : Int32) + y12).toNatClampNeg) (fun (S_92 : Mem) (r_93 : Int32) =>
  ((¬ r_93 = y13) →
  Q S_92 (0 : Int32)) ∧ ((r_93 = y13) →
  Q S_92 (1 : Int32)))
def vc_L_acts_J418 (Q : Mem → Int32 → Prop) (x5 : Int32) (x6 : Int32) (S : Mem) (y12 : Int32) (y13 : Int32) (w1 : Int32) (w2 : Int32) (w3 : Int32) (w4 : Int32) : Prop :=
  vc_L_low S w3 w4 (fun (S_98 : Mem) (r_99 : Int32) =>
  vc_L_acts_J435 Q x5 x6 S_98 y12 y13 w1 (w2 + r_99))
def vc_L_acts_J540 (Q : Mem → Int32 → Prop) (K0 : Mem → Int32 → Int32 → Int32 → Prop) (K1 : Mem → Int32 → Int32 → Prop) (x5 : Int32) (x6 : Int32) (S : Mem) (y14 : Int32) (y15 : Int32) (y16 : Int32) (w4 : Int32) : Prop :=
  vc_L_hour S 0 w4 (fun (S_109 : Mem) (r_110 : Int32) =>
  K0 S_109 y14 y15 (y16 + (1 : Int32)))
def vc_L_acts_L489 (Q : Mem → Int32 → Prop) (K : Mem → Int32 → Int32 → Prop) (x5 : Int32) (x6 : Int32) : Nat → Mem → Int32 → Int32 → Int32 → Prop
  | 0, _, _, _, _ => False
  | n489 + 1, S, y14, y15, y16 =>
  ((y14 ≤ y16) →
  K S y14 y15) ∧ ((¬ (y14 ≤ y16)) →
  vp_in (1 : Int32) 16 ∧
  ((((S 18 0 0 (1 : Int32).toNatClampNeg) + y15) ≤ (5000 : Int32)) →
  (((-5000 : Int32) ≤ ((S 18 0 0 (1 : Int32).toNatClampNeg) + y15)) →
  vc_L_acts_J540 Q (vc_L_acts_L489 Q K x5 x6 n489) (K) x5 x6 S y14 y15 y16 ((S 18 0 0 (1 : Int32).toNatClampNeg) + y15)) ∧ ((¬ ((-5000 : Int32) ≤ ((S 18 0 0 (1 : Int32).toNatClampNeg) + y15))) →
  vc_L_acts_J540 Q (vc_L_acts_L489 Q K x5 x6 n489) (K) x5 x6 S y14 y15 y16 (-5000 : Int32))) ∧ ((¬ (((S 18 0 0 (1 : Int32).toNatClampNeg) + y15) ≤ (5000 : Int32))) →
  vc_L_acts_J540 Q (vc_L_acts_L489 Q K x5 x6 n489) (K) x5 x6 S y14 y15 y16 (5000 : Int32)))
def vc_L_acts_J648 (Q : Mem → Int32 → Prop) (x5 : Int32) (x6 : Int32) (S : Mem) (w0 : Int32) : Prop :=
  vc_X6_hour S w0 (fun (S_138 : Mem) (r_139 : Int32) =>
  vc_L_hour S_138 0 w0 (fun (S_140 : Mem) (r_141 : Int32) =>
  ((¬ r_139 = r_141) →
  Q S_140 (0 : Int32)) ∧ ((r_139 = r_141) →
  Q S_140 (1 : Int32))))
def vc_L_acts_J616 (Q : Mem → Int32 → Prop) (x5 : Int32) (x6 : Int32) (S : Mem) (w0 : Int32) : Prop :=
  ((w0 ≤ (5000 : Int32)) →
  (((-5000 : Int32) ≤ w0) →
  vc_L_acts_J648 Q x5 x6 S w0) ∧ ((¬ ((-5000 : Int32) ≤ w0)) →
  vc_L_acts_J648 Q x5 x6 S (-5000 : Int32))) ∧ ((¬ (w0 ≤ (5000 : Int32))) →
  vc_L_acts_J648 Q x5 x6 S (5000 : Int32))
def vc_L_acts_J22 (Q : Mem → Int32 → Prop) (x5 : Int32) (x6 : Int32) (S : Mem) (w0 : Int32) : Prop :=
  ((x5 = (0 : Int32)) →
  vc_L_adds S x6 (fun (S_7 : Mem) (r_8 : Int32) =>
  (r_8 = 0 ∨ r_8 = 1) ∧ Q S_7 r_8)) ∧ ((¬ x5 = (0 : Int32)) →
  ((x5 = (1 : Int32)) →
  vc_L_low S x6 (4 : Int32) (fun (S_10 : Mem) (r_11 : Int32) =>
  vp_in ((4 : Int32) + r_11) 16 ∧
  vc_L_low S_10 (x6 >>> ((2 : Int32) &&& 31)) (6 : Int32) (fun (S_13 : Mem) (r_14 : Int32) =>
  vp_in ((4 : Int32) + r_11) 16 ∧
  ∀ S_15 : Mem, S_15 = uc S_13 18 0 0 (upd (S_13 18 0 0) ((4 : Int32) + r_11).toNatClampNeg ((1 : Int32) + r_14)) →
  vp_in ((4 : Int32) + r_11) 16 ∧
  vc_X6_period S_15 r_11 (S_15 18 0 0 ((4 : Int32) + r_11).toNatClampNeg) (fun (S_19 : Mem) (r_20 : Int32) =>
  ((¬ r_20 = (S_10 18 0 0 ((4 : Int32) + r_11).toNatClampNeg)) →
  Q S_19 (0 : Int32)) ∧ ((r_20 = (S_10 18 0 0 ((4 : Int32) + r_11).toNatClampNeg)) →
  Q S_19 (1 : Int32)))))) ∧ ((¬ x5 = (1 : Int32)) →
  ((x5 = (2 : Int32)) →
  vp_in (((10 : Int32) * w0) + (5 : Int32)) 60 ∧
  vp_in (1 : Int32) 16 ∧
  vp_in (((10 : Int32) * w0) + (2 : Int32)) 60 ∧
  vp_in (((10 : Int32) * w0) + (4 : Int32)) 60 ∧
  ∀ S_26 : Mem, S_26 = uc S 15 0 0 (upd (S 15 0 0) (((10 : Int32) * w0) + (4 : Int32)).toNatClampNeg ((S 18 0 0 (1 : Int32).toNatClampNeg) + (S 15 0 0 (((10 : Int32) * w0) + (2 : Int32)).toNatClampNeg))) →
  vp_in (((10 : Int32) * w0) + (5 : Int32)) 60 ∧
  ∀ S_29 : Mem, S_29 = uc S_26 15 0 0 (upd (S_26 15 0 0) (((10 : Int32) * w0) + (5 : Int32)).toNatClampNeg (0 : Int32)) →
  vp_in (((10 : Int32) * w0) + (6 : Int32)) 60 ∧
  ∀ S_32 : Mem, S_32 = uc S_29 15 0 0 (upd (S_29 15 0 0) (((10 : Int32) * w0) + (6 : Int32)).toNatClampNeg (0 : Int32)) →
  vp_in (((10 : Int32) * w0) + (7 : Int32)) 60 ∧
  ∀ S_35 : Mem, S_35 = uc S_32 15 0 0 (upd (S_32 15 0 0) (((10 : Int32) * w0) + (7 : Int32)).toNatClampNeg (0 : Int32)) →
  vc_X6_calibrate S_35 w0 (fun (S_38 : Mem) (r_39 : Int32) =>
  ((¬ r_39 = (S 15 0 0 (((10 : Int32) * w0) + (5 : Int32)).toNatClampNeg)) →
  Q S_38 (0 : Int32)) ∧ ((r_39 = (S 15 0 0 (((10 : Int32) * w0) + (5 : Int32)).toNatClampNeg)) →
  Q S_38 (1 : Int32)))) ∧ ((¬ x5 = (2 : Int32)) →
  ((x5 = (3 : Int32)) →
  vc_L_low S (x6 >>> ((4 : Int32) &&& 31)) (3 : Int32) (fun (S_42 : Mem) (r_43 : Int32) =>
  ((¬ r_43 = 0) →
  vc_L_low S_42 (x6 >>> ((6 : Int32) &&& 31)) (800 : Int32) (fun (S_45 : Mem) (r_46 : Int32) =>
  vc_L_acts_J272 Q x5 x6 S_45 w0 (r_46 - (400 : Int32)))) ∧ ((r_43 = 0) →
  vc_L_low S_42 (x6 >>> ((6 : Int32) &&& 31)) (6001 : Int32) (fun (S_63 : Mem) (r_64 : Int32) =>
  vc_L_acts_J272 Q x5 x6 S_63 w0 (r_64 - (3000 : Int32)))))) ∧ ((¬ x5 = (3 : Int32)) →
  ((x5 = (4 : Int32)) →
  vc_L_low S (x6 >>> ((4 : Int32) &&& 31)) (3 : Int32) (fun (S_66 : Mem) (r_67 : Int32) =>
  ((¬ r_67 = 0) →
  vc_L_low S_66 (x6 >>> ((6 : Int32) &&& 31)) (800 : Int32) (fun (S_69 : Mem) (r_70 : Int32) =>
  vc_L_acts_J272 Q x5 x6 S_69 w0 (r_70 - (400 : Int32)))) ∧ ((r_67 = 0) →
  vc_L_low S_66 (x6 >>> ((6 : Int32) &&& 31)) (6001 : Int32) (fun (S_71 : Mem) (r_72 : Int32) =>
  vc_L_acts_J272 Q x5 x6 S_71 w0 (r_72 - (3000 : Int32)))))) ∧ ((¬ x5 = (4 : Int32)) →
  ((x5 = (5 : Int32)) →
  vc_L_low S (x6 >>> ((4 : Int32) &&& 31)) (3 : Int32) (fun (S_74 : Mem) (r_75 : Int32) =>
  ((¬ r_75 = 0) →
  vc_L_low S_74 (x6 >>> ((6 : Int32) &&& 31)) (800 : Int32) (fun (S_77 : Mem) (r_78 : Int32) =>
  vc_L_acts_J272 Q x5 x6 S_77 w0 (r_78 - (400 : Int32)))) ∧ ((r_75 = 0) →
  vc_L_low S_74 (x6 >>> ((6 : Int32) &&& 31)) (6001 : Int32) (fun (S_79 : Mem) (r_80 : Int32) =>
  vc_L_acts_J272 Q x5 x6 S_79 w0 (r_80 - (3000 : Int32)))))) ∧ ((¬ x5 = (5 : Int32)) →
  ((x5 = (6 : Int32)) →
  vc_L_low S x6 (2 : Int32) (fun (S_82 : Mem) (r_83 : Int32) =>
  vp_in ((2 : Int32) + r_83) 16 ∧
  ((¬ r_83 = 0) →
  vc_L_low S_82 (x6 >>> ((1 : Int32) &&& 31)) (5 : Int32) (fun (S_86 : Mem) (r_87 : Int32) =>
  vc_L_acts_J435 Q x5 x6 S_86 r_83 (S_82 18 0 0 ((2 : Int32) + r_83).toNatClampNeg) ((2 : Int32) + r_83) ((1 : Int32) + r_87))) ∧ ((r_83 = 0) →
  vc_L_low S_82 (x6 >>> ((12 : Int32) &&& 31)) (2 : Int32) (fun (S_95 : Mem) (r_96 : Int32) =>
  ((¬ r_96 = 0) →
  vc_L_acts_J418 Q x5 x6 S_95 r_83 (S_82 18 0 0 ((2 : Int32) + r_83).toNatClampNeg) ((2 : Int32) + r_83) (10 : Int32) (x6 >>> ((1 : Int32) &&& 31)) (200 : Int32)) ∧ ((r_96 = 0) →
  vc_L_acts_J418 Q x5 x6 S_95 r_83 (S_82 18 0 0 ((2 : Int32) + r_83).toNatClampNeg) ((2 : Int32) + r_83) (10 : Int32) (x6 >>> ((1 : Int32) &&& 31)) (1991 : Int32)))))) ∧ ((¬ x5 = (6 : Int32)) →
  ((x5 = (7 : Int32)) →
  vc_L_low S x6 (24 : Int32) (fun (S_101 : Mem) (r_102 : Int32) =>
  vc_L_low S_101 (x6 >>> ((5 : Int32) &&& 31)) (201 : Int32) (fun (S_103 : Mem) (r_104 : Int32) =>
  ∃ n : Nat, vc_L_acts_L489 Q (fun (S_111 : Mem) (y14_112 : Int32) (y15_113 : Int32) =>
  vc_X6_hours S_111 y14_112 y15_113 (fun (S_114 : Mem) (r_115 : Int32) =>
  vp_in (1 : Int32) 16 ∧
  ((¬ r_115 = (S_114 18 0 0 (1 : Int32).toNatClampNeg)) →
  Q S_114 (0 : Int32)) ∧ ((r_115 = (S_114 18 0 0 (1 : Int32).toNatClampNeg)) →
  Q S_114 (1 : Int32)))) x5 x6 n S_103 ((1 : Int32) + r_102) (r_104 - (100 : Int32)) (0 : Int32)))) ∧ ((¬ x5 = (7 : Int32)) →
  ((x5 = (8 : Int32)) →
  vc_L_low S x6 (24 : Int32) (fun (S_119 : Mem) (r_120 : Int32) =>
  vc_L_low S_119 (x6 >>> ((5 : Int32) &&& 31)) (201 : Int32) (fun (S_121 : Mem) (r_122 : Int32) =>
  ∃ n : Nat, vc_L_acts_L489 Q (fun (S_123 : Mem) (y14_124 : Int32) (y15_125 : Int32) =>
  vc_X6_hours S_123 y14_124 y15_125 (fun (S_126 : Mem) (r_127 : Int32) =>
  vp_in (1 : Int32) 16 ∧
  ((¬ r_127 = (S_126 18 0 0 (1 : Int32).toNatClampNeg)) →
  Q S_126 (0 : Int32)) ∧ ((r_127 = (S_126 18 0 0 (1 : Int32).toNatClampNeg)) →
  Q S_126 (1 : Int32)))) x5 x6 n S_121 ((1 : Int32) + r_120) (r_122 - (100 : Int32)) (0 : Int32)))) ∧ ((¬ x5 = (8 : Int32)) →
  vc_L_low S x6 (3 : Int32) (fun (S_130 : Mem) (r_131 : Int32) =>
  ((¬ r_131 = 0) →
  vp_in (1 : Int32) 16 ∧
  vc_L_low S_130 (x6 >>> ((2 : Int32) &&& 31)) (201 : Int32) (fun (S_134 : Mem) (r_135 : Int32) =>
  vc_L_acts_J616 Q x5 x6 S_134 (((S_130 18 0 0 (1 : Int32).toNatClampNeg) + r_135) - (100 : Int32)))) ∧ ((r_131 = 0) →
  vc_L_low S_130 (x6 >>> ((2 : Int32) &&& 31)) (10001 : Int32) (fun (S_143 : Mem) (r_144 : Int32) =>
  vc_L_acts_J616 Q x5 x6 S_143 (r_144 - (5000 : Int32))))))))))))))
def vc_L_acts (S : Mem) (x5 : Int32) (x6 : Int32) (Q : Mem → Int32 → Prop) : Prop :=
  vp_in (15 : Int32) 16 ∧
  ((¬ (S 18 0 0 (15 : Int32).toNatClampNeg) = 0) →
  vp_in (15 : Int32) 16 ∧
  vc_L_low S x6 (S 18 0 0 (15 : Int32).toNatClampNeg) (fun (S_4 : Mem) (r_5 : Int32) =>
  vc_L_acts_J22 Q x5 x6 S_4 r_5)) ∧ (((S 18 0 0 (15 : Int32).toNatClampNeg) = 0) →
  vc_L_acts_J22 Q x5 x6 S (0 : Int32))
