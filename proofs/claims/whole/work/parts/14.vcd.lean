def vc_X6_meanError (S : Mem) (Q : Mem → UInt64 → Prop) : Prop :=
  vc_X3_countMended S 0 (fun (S_1 : Mem) (r_2 : Int32) =>
  ((¬ r_2 = 0) →
  vc_X3_sumOfErrors S_1 0 (fun (S_4 : Mem) (r_5 : Int32) =>
  ∀ r_6 : UInt64, alike64 r_6 (FP.ddiv (FP.i2d r_5) (FP.i2d r_2)) = true →
  Q S_4 r_6)) ∧ ((r_2 = 0) →
  Q S_1 FP.dconst0))
def vc_X7_meanError_J60 (Q : Mem → UInt64 → Prop) (K0 : Mem → Int32 → Int32 → Int32 → Prop) (K1 : Mem → Int32 → Int32 → Prop) (S : Mem) (y1 : Int32) (y3 : Int32) (w0 : Int32) (w1 : Int32) : Prop :=
  K0 S y1 (w0 + w1) (y3 + (1 : Int32))
def vc_X7_meanError_J42 (Q : Mem → UInt64 → Prop) (K0 : Mem → Int32 → Int32 → Int32 → Prop) (K1 : Mem → Int32 → Int32 → Prop) (S : Mem) (y2 : Int32) (y3 : Int32) (w0 : Int32) (w1 : Int32) : Prop :=
  vc_X7_of S y3 (7 : Int32) (fun (S_8 : Mem) (r_9 : Int32) =>
  ((r_9 ≤ 0) →
  vc_X7_meanError_J60 Q (K0) (K1) S_8 (w0 + w1) y3 y2 (0 : Int32)) ∧ ((¬ (r_9 ≤ 0)) →
  vc_X7_meanError_J60 Q (K0) (K1) S_8 (w0 + w1) y3 y2 (1 : Int32)))
def vc_X7_meanError_L11 (Q : Mem → UInt64 → Prop) (K : Mem → Int32 → Int32 → Prop) : Nat → Mem → Int32 → Int32 → Int32 → Prop
  | 0, _, _, _, _ => False
  | n11 + 1, S, y1, y2, y3 =>
  vp_in (15 : Int32) 226 ∧
  (((S 16 0 0 (15 : Int32).toNatClampNeg) ≤ y3) →
  K S y1 y2) ∧ ((¬ ((S 16 0 0 (15 : Int32).toNatClampNeg) ≤ y3)) →
  vc_X7_of S y3 (7 : Int32) (fun (S_5 : Mem) (r_6 : Int32) =>
  ((r_6 ≤ 0) →
  vc_X7_meanError_J42 Q (vc_X7_meanError_L11 Q K n11) (K) S_5 y2 y3 y1 (0 : Int32)) ∧ ((¬ (r_6 ≤ 0)) →
  vc_X7_off S_5 y3 (fun (S_11 : Mem) (r_12 : Int32) =>
  vc_X7_meanError_J42 Q (vc_X7_meanError_L11 Q K n11) (K) S_11 y2 y3 y1 r_12))))
def vc_X7_meanError (S : Mem) (Q : Mem → UInt64 → Prop) : Prop :=
  ∀ S_1 : Mem, S_1 = uc S 15 0 0 (upd (S 15 0 0) 6 (0 : Int32)) →
  ∃ n : Nat, vc_X7_meanError_L11 Q (fun (S_13 : Mem) (y1_14 : Int32) (y2_15 : Int32) =>
  ((¬ y2_15 = 0) →
  ∀ r_17 : UInt64, alike64 r_17 (FP.ddiv (FP.i2d y1_14) (FP.i2d y2_15)) = true →
  Q S_13 r_17) ∧ ((y2_15 = 0) →
  Q S_13 FP.dconst0)) n S_1 (0 : Int32) (0 : Int32) (0 : Int32)
