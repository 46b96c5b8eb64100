def vc_X6_checkRow (S : Mem) (x0 : Int32) (Q : Mem → Prop) (X : Mem → Nat → Prop) : Prop :=
  ((x0 < 0) →
  X S 1) ∧ ((¬ (x0 < 0)) →
  ((x0 < (4 : Int32)) →
  Q S) ∧ ((¬ (x0 < (4 : Int32))) →
  X S 1))
def vc_X6_checkRange (S : Mem) (x0 : Int32) (x1 : Int32) (x2 : Int32) (Q : Mem → Prop) (X : Mem → Nat → Prop) : Prop :=
  ((x0 < x1) →
  X S 2) ∧ ((¬ (x0 < x1)) →
  ((x0 ≤ x2) →
  Q S) ∧ ((¬ (x0 ≤ x2)) →
  X S 2))
def vc_X6_thermometer (S : Mem) (x1 : Int32) (x2 : Int32) (x3 : Int32) (x4 : Int32) (Q : Mem → Int32 → Prop) (X : Mem → Nat → Prop) : Prop :=
  vc_X6_checkRow S x1 (fun (S_1 : Mem) =>
  vc_X6_checkRange S_1 x2 (1 : Int32) (9 : Int32) (fun (S_2 : Mem) =>
  vc_X6_checkRange S_2 x3 (-200 : Int32) (200 : Int32) (fun (S_3 : Mem) =>
  vc_X6_checkRange S_3 x4 (1 : Int32) (5 : Int32) (fun (S_4 : Mem) =>
  vc_X3_hasRoom S_4 0 (fun (S_5 : Mem) (r_6 : Int32) =>
  ((¬ r_6 = 0) →
  vc_X1_save S_5 0 (fun (S_8 : Mem) =>
  vc_X3_add S_8 0 x1 x2 x3 x4 (fun (S_9 : Mem) (r_10 : Int32) =>
  Q S_9 r_10))) ∧ ((r_6 = 0) →
  X S_5 3))) X) X) X) X
def vc_X6_checkHoursLeft (S : Mem) (x1 : Int32) (Q : Mem → Prop) (X : Mem → Nat → Prop) : Prop :=
  vc_X3_hasHoursLeft S 0 x1 (fun (S_1 : Mem) (r_2 : Int32) =>
  ((¬ r_2 = 0) →
  Q S_1) ∧ ((r_2 = 0) →
  X S_1 3))
def vc_X6_hour (S : Mem) (x1 : Int32) (Q : Mem → Int32 → Prop) (X : Mem → Nat → Prop) : Prop :=
  vc_X6_checkRange S x1 (-5000 : Int32) (5000 : Int32) (fun (S_1 : Mem) =>
  vc_X6_checkHoursLeft S_1 (1 : Int32) (fun (S_2 : Mem) =>
  vc_X1_save S_2 0 (fun (S_3 : Mem) =>
  vc_X3_passHour S_3 0 x1 (fun (S_4 : Mem) (r_5 : Int32) =>
  Q S_4 r_5))) X) X
def vc_X6_hours (S : Mem) (x1 : Int32) (x2 : Int32) (Q : Mem → Int32 → Prop) (X : Mem → Nat → Prop) : Prop :=
  vc_X6_checkRange S x1 (1 : Int32) (24 : Int32) (fun (S_1 : Mem) =>
  vc_X6_checkRange S_1 x2 (-500 : Int32) (500 : Int32) (fun (S_2 : Mem) =>
  vc_X6_checkHoursLeft S_2 x1 (fun (S_3 : Mem) =>
  vc_X1_save S_3 0 (fun (S_4 : Mem) =>
  vc_X3_passHours S_4 0 x1 x2 (fun (S_5 : Mem) =>
  Q S_5 (S_5 3 0 0 8)))) X) X) X
def vc_X6_period (S : Mem) (x1 : Int32) (x2 : Int32) (Q : Mem → Int32 → Prop) (X : Mem → Nat → Prop) : Prop :=
  vc_X6_checkRow S x1 (fun (S_1 : Mem) =>
  vc_X6_checkRange S_1 x2 (1 : Int32) (6 : Int32) (fun (S_2 : Mem) =>
  vc_X1_save S_2 0 (fun (S_3 : Mem) =>
  vc_X3_periodOf S_3 0 x1 (fun (S_4 : Mem) (r_5 : Int32) =>
  vc_X3_changePeriod S_4 0 x1 x2 (fun (S_6 : Mem) =>
  Q S_6 r_5)))) X) X
def vc_X6_checkThermometer (S : Mem) (x1 : Int32) (Q : Mem → Prop) (X : Mem → Nat → Prop) : Prop :=
  vc_X3_has S 0 x1 (fun (S_1 : Mem) (r_2 : Int32) =>
  ((¬ r_2 = 0) →
  Q S_1) ∧ ((r_2 = 0) →
  X S_1 1))
def vc_X6_calibrate (S : Mem) (x1 : Int32) (Q : Mem → Int32 → Prop) (X : Mem → Nat → Prop) : Prop :=
  vc_X6_checkThermometer S x1 (fun (S_1 : Mem) =>
  vc_X1_save S_1 0 (fun (S_2 : Mem) =>
  vc_X3_at S_2 0 x1 (fun (S_3 : Mem) (P_4 i_5 : Nat) =>
  (P_4 < 11 ∧ i_5 < 11) ∧
  vc_X3_at S_3 0 x1 (fun (S_7 : Mem) (P_8 i_9 : Nat) =>
  (P_8 < 11 ∧ i_9 < 11) ∧
  vc_X5_startAfresh S_7 P_8 i_9 (S_7 3 0 0 8) (fun (S_11 : Mem) =>
  Q S_11 (S_3 5 P_4 i_5 8)))))) X
def vc_X6_knock (S : Mem) (x1 : Int32) (x2 : Int32) (Q : Mem → Int32 → Prop) (X : Mem → Nat → Prop) : Prop :=
  vc_X6_checkThermometer S x1 (fun (S_1 : Mem) =>
  vc_X6_checkRange S_1 x2 (-3000 : Int32) (3000 : Int32) (fun (S_2 : Mem) =>
  vc_X3_at S_2 0 x1 (fun (S_3 : Mem) (P_4 i_5 : Nat) =>
  (P_4 < 11 ∧ i_5 < 11) ∧
  ((((S_3 5 P_4 i_5 7) + x2) < (-20000 : Int32)) →
  X S_3 3) ∧ ((¬ (((S_3 5 P_4 i_5 7) + x2) < (-20000 : Int32))) →
  ((((S_3 5 P_4 i_5 7) + x2) ≤ (20000 : Int32)) →
  vc_X1_save S_3 0 (fun (S_9 : Mem) =>
  vc_X3_at S_9 0 x1 (fun (S_10 : Mem) (P_11 i_12 : Nat) =>
  (P_11 < 11 ∧ i_12 < 11) ∧
  ∀ S_14 : Mem, S_14 = uc S_10 5 P_11 i_12 (upd (S_10 5 P_11 i_12) 7 ((S_3 5 P_4 i_5 7) + x2)) →
  Q S_14 (((S_3 5 P_4 i_5 7) + x2) + (100000 : Int32))))) ∧ ((¬ (((S_3 5 P_4 i_5 7) + x2) ≤ (20000 : Int32))) →
  X S_3 3)))) X) X
def vc_X6_set_J76 (Q : Mem → Int32 → Prop) (X : Mem → Nat → Prop) (x1 : Int32) (x2 : Int32) (S : Mem) (w0 : Int32) : Prop :=
  ((¬ x1 = 0) →
  ∀ S_8 : Mem, S_8 = uc S 3 0 0 (upd (S 3 0 0) 12 x2) →
  Q S_8 w0) ∧ ((x1 = 0) →
  ∀ S_10 : Mem, S_10 = uc S 3 0 0 (upd (S 3 0 0) 11 x2) →
  Q S_10 w0)
def vc_X6_set_J41 (Q : Mem → Int32 → Prop) (X : Mem → Nat → Prop) (x1 : Int32) (x2 : Int32) (S : Mem) (w0 : Int32) (w1 : Int32) (w2 : Int32) : Prop :=
  vc_X6_checkRange S w0 w1 w2 (fun (S_4 : Mem) =>
  vc_X1_save S_4 0 (fun (S_5 : Mem) =>
  ((¬ x1 = 0) →
  vc_X6_set_J76 Q X x1 x2 S_5 (S_5 3 0 0 12)) ∧ ((x1 = 0) →
  vc_X6_set_J76 Q X x1 x2 S_5 (S_5 3 0 0 11)))) X
def vc_X6_set_J30 (Q : Mem → Int32 → Prop) (X : Mem → Nat → Prop) (x1 : Int32) (x2 : Int32) (S : Mem) (w0 : Int32) (w1 : Int32) : Prop :=
  ((¬ x1 = 0) →
  vc_X6_set_J41 Q X x1 x2 S w0 w1 (5 : Int32)) ∧ ((x1 = 0) →
  vc_X6_set_J41 Q X x1 x2 S w0 w1 (2000 : Int32))
def vc_X6_set_J19 (Q : Mem → Int32 → Prop) (X : Mem → Nat → Prop) (x1 : Int32) (x2 : Int32) (S : Mem) : Prop :=
  ((¬ x1 = 0) →
  vc_X6_set_J30 Q X x1 x2 S x2 (1 : Int32)) ∧ ((x1 = 0) →
  vc_X6_set_J30 Q X x1 x2 S x2 (10 : Int32))
def vc_X6_set (S : Mem) (x1 : Int32) (x2 : Int32) (Q : Mem → Int32 → Prop) (X : Mem → Nat → Prop) : Prop :=
  ((x1 = 0) →
  vc_X6_set_J19 Q X x1 x2 S) ∧ ((¬ (x1 = 0)) →
  ((x1 = (1 : Int32)) →
  vc_X6_set_J19 Q X x1 x2 S) ∧ ((¬ (x1 = (1 : Int32))) →
  X S 1))
def vc_X6_append (S : Mem) (x1 : Int32) (Q : Mem → Int32 → Prop) (X : Mem → Nat → Prop) : Prop :=
  vc_X6_checkRange S x1 (33 : Int32) (126 : Int32) (fun (S_1 : Mem) =>
  vc_X2_isFull S_1 (fun (S_2 : Mem) (r_3 : Int32) =>
  ((r_3 = 0) →
  vc_X2_addCharacter S_2 ((x1.toUInt32 % 65536).toInt32) (fun (S_5 : Mem) =>
  Q S_5 (S_5 2 0 0 3))) ∧ ((¬ (r_3 = 0)) →
  X S_2 3))) X
def vc_X6_execute_L40 (Q : Mem → Int32 → Prop) (X : Mem → Nat → Prop) (K : Mem → Int32 → Prop) : Nat → Mem → Int32 → Prop
  | 0, _, _ => False
  | n40 + 1, S, y1 =>
  (((60 : Int32) ≤ y1) →
  K S y1) ∧ ((¬ ((60 : Int32) ≤ y1)) →
  vc_X2_readNextOrder S (fun (S_7 : Mem) (r_8 : Int32) =>
  ((r_8 = 0) →
  K S_7 y1) ∧ ((¬ (r_8 = 0)) →
  vc_X6_carriesOut S_7 (fun (S_10 : Mem) (r_11 : Int32) =>
  ((r_11 = 0) →
  K S_10 y1) ∧ ((¬ (r_11 = 0)) →
  vc_X6_execute_L40 Q X K n40 S_10 (y1 + (1 : Int32)))))))
def vc_X6_execute (S : Mem) (Q : Mem → Int32 → Prop) (X : Mem → Nat → Prop) : Prop :=
  vc_X2_isComplete S (fun (S_1 : Mem) (r_2 : Int32) =>
  ((¬ r_2 = 0) →
  vc_X1_save S_1 0 (fun (S_4 : Mem) =>
  vc_X2_goToStart S_4 (fun (S_5 : Mem) =>
  ∃ n : Nat, vc_X6_execute_L40 Q X (fun (S_13 : Mem) (y1_14 : Int32) =>
  ∀ S_15 : Mem, S_15 = uc S_13 2 0 0 (upd (S_13 2 0 0) 3 (0 : Int32)) →
  Q S_15 y1_14) n S_5 (0 : Int32)))) ∧ ((r_2 = 0) →
  X S_1 2))
def vc_X6_undo (S : Mem) (Q : Mem → Int32 → Prop) (X : Mem → Nat → Prop) : Prop :=
  ((¬ (S 1 0 0 3) = 0) →
  vc_X1_restoreLatest S 0 (fun (S_2 : Mem) =>
  Q S_2 (S_2 1 0 0 3))) ∧ (((S 1 0 0 3) = 0) →
  X S 3)
def vc_X6_keep (S : Mem) (x1 : Int32) (Q : Mem → Int32 → Prop) (X : Mem → Nat → Prop) : Prop :=
  vc_X6_checkRange S x1 (0 : Int32) (1 : Int32) (fun (S_1 : Mem) =>
  vc_X6_snapshotIn S_1 x1 (fun (S_2 : Mem) (P_3 i_4 : Nat) =>
  i_4 = 0 ∧
  (P_3 < 2) ∧
  vc_X4_take S_2 P_3 0 (fun (S_7 : Mem) =>
  Q S_7 (S_7 3 0 0 7)))) X
def vc_X6_goBack (S : Mem) (x1 : Int32) (Q : Mem → Int32 → Prop) (X : Mem → Nat → Prop) : Prop :=
  vc_X6_checkRange S x1 (0 : Int32) (1 : Int32) (fun (S_1 : Mem) =>
  vc_X6_snapshotIn S_1 x1 (fun (S_2 : Mem) (P_3 i_4 : Nat) =>
  i_4 = 0 ∧
  (P_3 < 2) ∧
  ((¬ (S_2 4 P_3 0 1) = 0) →
  vc_X1_save S_2 0 (fun (S_8 : Mem) =>
  vc_X6_snapshotIn S_8 x1 (fun (S_9 : Mem) (P_10 i_11 : Nat) =>
  i_11 = 0 ∧
  (P_10 < 2) ∧
  ((9 + P_10) < 11) ∧
  vc_X3_copyFrom S_9 0 (9 + P_10) (fun (S_15 : Mem) =>
  Q S_15 (S_15 3 0 0 7))))) ∧ (((S_2 4 P_3 0 1) = 0) →
  X S_2 3))) X
def vc_X6_ofThermometer (S : Mem) (x1 : Int32) (x2 : Int32) (Q : Mem → Int32 → Prop) (X : Mem → Nat → Prop) : Prop :=
  vc_X6_checkThermometer S x1 (fun (S_1 : Mem) =>
  vc_X6_checkRange S_1 x2 (0 : Int32) (9 : Int32) (fun (S_2 : Mem) =>
  vc_X3_at S_2 0 x1 (fun (S_3 : Mem) (P_4 i_5 : Nat) =>
  (P_4 < 11 ∧ i_5 < 11) ∧
  vc_X5_numberOf S_3 P_4 i_5 x2 (fun (S_7 : Mem) (r_8 : Int32) =>
  Q S_7 r_8))) X) X
def vc_X6_checkNotNegative (S : Mem) (x0 : Int32) (Q : Mem → Prop) (X : Mem → Nat → Prop) : Prop :=
  ((0 ≤ x0) →
  Q S) ∧ ((¬ (0 ≤ x0)) →
  X S 2)
def vc_X6_reading (S : Mem) (x1 : Int32) (x2 : Int32) (x3 : Int32) (Q : Mem → Int32 → Prop) (X : Mem → Nat → Prop) : Prop :=
  vc_X6_checkThermometer S x1 (fun (S_1 : Mem) =>
  vc_X6_checkNotNegative S_1 x2 (fun (S_2 : Mem) =>
  vc_X6_checkRange S_2 x3 (0 : Int32) (1 : Int32) (fun (S_3 : Mem) =>
  vc_X3_at S_3 0 x1 (fun (S_4 : Mem) (P_5 i_6 : Nat) =>
  ((¬ x3 = 0) →
  (P_5 < 11 ∧ i_6 < 11) ∧
  vc_X5_valueAgo S_4 P_5 i_6 x2 (fun (S_9 : Mem) (r_10 : Int32) =>
  Q S_9 r_10)) ∧ ((x3 = 0) →
  (P_5 < 11 ∧ i_6 < 11) ∧
  vc_X5_hourAgo S_4 P_5 i_6 x2 (fun (S_12 : Mem) (r_13 : Int32) =>
  Q S_12 r_13)))) X) X) X
def vc_X6_row (S : Mem) (x1 : Int32) (x2 : Int32) (Q : Mem → Int32 → Prop) (X : Mem → Nat → Prop) : Prop :=
  vc_X6_checkRow S x1 (fun (S_1 : Mem) =>
  vc_X6_checkRange S_1 x2 (0 : Int32) (3 : Int32) (fun (S_2 : Mem) =>
  ((x2 = (0 : Int32)) →
  vc_X3_periodOf S_2 0 x1 (fun (S_4 : Mem) (r_5 : Int32) =>
  Q S_4 r_5)) ∧ ((¬ x2 = (0 : Int32)) →
  ((x2 = (1 : Int32)) →
  vc_X3_countInRow S_2 0 x1 (fun (S_7 : Mem) (r_8 : Int32) =>
  Q S_7 r_8)) ∧ ((¬ x2 = (1 : Int32)) →
  ((x2 = (2 : Int32)) →
  vc_X3_hoursUntilRead S_2 0 x1 (fun (S_10 : Mem) (r_11 : Int32) =>
  Q S_10 r_11)) ∧ ((¬ x2 = (2 : Int32)) →
  vc_X3_timesReadOf S_2 0 x1 (fun (S_12 : Mem) (r_13 : Int32) =>
  Q S_12 r_13))))) X) X
def vc_X6_count (S : Mem) (x1 : Int32) (Q : Mem → Int32 → Prop) (X : Mem → Nat → Prop) : Prop :=
  vc_X6_checkRange S x1 (0 : Int32) (13 : Int32) (fun (S_1 : Mem) =>
  ((x1 = (0 : Int32)) →
  Q S_1 (S_1 3 0 0 7)) ∧ ((¬ x1 = (0 : Int32)) →
  ((x1 = (1 : Int32)) →
  Q S_1 (S_1 3 0 0 6)) ∧ ((¬ x1 = (1 : Int32)) →
  ((x1 = (2 : Int32)) →
  Q S_1 (S_1 3 0 0 8)) ∧ ((¬ x1 = (2 : Int32)) →
  ((x1 = (3 : Int32)) →
  vc_X3_maskOfAsked S_1 0 (fun (S_6 : Mem) (r_7 : Int32) =>
  Q S_6 r_7)) ∧ ((¬ x1 = (3 : Int32)) →
  ((x1 = (4 : Int32)) →
  vc_X3_maskOfShutOut S_1 0 (fun (S_9 : Mem) (r_10 : Int32) =>
  Q S_9 r_10)) ∧ ((¬ x1 = (4 : Int32)) →
  ((x1 = (5 : Int32)) →
  vc_X3_mean S_1 0 (fun (S_12 : Mem) (r_13 : Int32) =>
  Q S_12 r_13)) ∧ ((¬ x1 = (5 : Int32)) →
  ((x1 = (6 : Int32)) →
  vc_X3_slope S_1 0 (fun (S_15 : Mem) (r_16 : Int32) =>
  Q S_15 r_16)) ∧ ((¬ x1 = (6 : Int32)) →
  ((x1 = (7 : Int32)) →
  vc_X3_middleWithout S_1 0 (-1 : Int32) (fun (S_18 : Mem) (r_19 : Int32) =>
  Q S_18 r_19)) ∧ ((¬ x1 = (7 : Int32)) →
  ((x1 = (8 : Int32)) →
  Q S_1 (S_1 3 0 0 9)) ∧ ((¬ x1 = (8 : Int32)) →
  ((x1 = (9 : Int32)) →
  Q S_1 (S_1 3 0 0 10)) ∧ ((¬ x1 = (9 : Int32)) →
  ((x1 = (10 : Int32)) →
  Q S_1 (S_1 1 0 0 3)) ∧ ((¬ x1 = (10 : Int32)) →
  ((x1 = (11 : Int32)) →
  Q S_1 (S_1 2 0 0 3)) ∧ ((¬ x1 = (11 : Int32)) →
  ((x1 = (12 : Int32)) →
  Q S_1 (S_1 3 0 0 11)) ∧ ((¬ x1 = (12 : Int32)) →
  Q S_1 (S_1 3 0 0 12))))))))))))))) X
def vc_X6_ranked (S : Mem) (x1 : Int32) (x2 : Int32) (Q : Mem → Int32 → Prop) (X : Mem → Nat → Prop) : Prop :=
  vc_X6_checkRange S x1 (0 : Int32) (1 : Int32) (fun (S_1 : Mem) =>
  vc_X6_checkNotNegative S_1 x2 (fun (S_2 : Mem) =>
  vc_X3_atRank S_2 0 x1 x2 (fun (S_3 : Mem) (r_4 : Int32) =>
  Q S_3 r_4)) X) X
def vc_X6_ifLag (S : Mem) (x1 : Int32) (x2 : Int32) (Q : Mem → Int32 → Prop) (X : Mem → Nat → Prop) : Prop :=
  vc_X6_checkThermometer S x1 (fun (S_1 : Mem) =>
  vc_X6_checkRange S_1 x2 (1 : Int32) (9 : Int32) (fun (S_2 : Mem) =>
  vc_X3_at S_2 0 x1 (fun (S_3 : Mem) (P_4 i_5 : Nat) =>
  (P_4 < 11 ∧ i_5 < 11) ∧
  vc_X5_mendedWith S_3 P_4 i_5 x2 (fun (S_7 : Mem) (r_8 : Int32) =>
  Q S_7 r_8))) X) X
def vc_X6_bestLag (S : Mem) (x1 : Int32) (Q : Mem → Int32 → Prop) (X : Mem → Nat → Prop) : Prop :=
  vc_X6_checkThermometer S x1 (fun (S_1 : Mem) =>
  vc_X3_at S_1 0 x1 (fun (S_2 : Mem) (P_3 i_4 : Nat) =>
  (P_3 < 11 ∧ i_4 < 11) ∧
  vc_X5_lagNearestTo S_2 P_3 i_4 (S_2 3 0 0 8) (fun (S_6 : Mem) (r_7 : Int32) =>
  Q S_6 r_7))) X
def vc_X6_ifStill (S : Mem) (x1 : Int32) (x2 : Int32) (Q : Mem → Int32 → Prop) (X : Mem → Nat → Prop) : Prop :=
  vc_X6_checkRange S x1 (1 : Int32) (48 : Int32) (fun (S_1 : Mem) =>
  vc_X6_checkRange S_1 x2 (0 : Int32) (3 : Int32) (fun (S_2 : Mem) =>
  vc_X3_copyFrom S_2 1 0 (fun (S_3 : Mem) =>
  vc_X3_passHours S_3 1 x1 (0 : Int32) (fun (S_4 : Mem) =>
  ((x2 = (0 : Int32)) →
  vc_X3_mean S_4 1 (fun (S_6 : Mem) (r_7 : Int32) =>
  Q S_6 r_7)) ∧ ((¬ x2 = (0 : Int32)) →
  ((x2 = (1 : Int32)) →
  vc_X3_maskOfShutOut S_4 1 (fun (S_9 : Mem) (r_10 : Int32) =>
  Q S_9 r_10)) ∧ ((¬ x2 = (1 : Int32)) →
  ((x2 = (2 : Int32)) →
  Q S_4 ((S_4 3 1 0 10) - (S_4 3 0 0 10))) ∧ ((¬ x2 = (2 : Int32)) →
  vc_X3_greatestDistance S_4 1 (fun (S_12 : Mem) (r_13 : Int32) =>
  Q S_12 r_13))))))) X) X
def vc_X6_stillIn (S : Mem) (x1 : Int32) (Q : Mem → Int32 → Prop) (X : Mem → Nat → Prop) : Prop :=
  vc_X6_checkThermometer S x1 (fun (S_1 : Mem) =>
  vc_X3_at S_1 0 x1 (fun (S_2 : Mem) (P_3 i_4 : Nat) =>
  (P_3 < 11 ∧ i_4 < 11) ∧
  vc_X5_hoursUntilStill S_2 P_3 i_4 (S_2 3 0 0 8) (fun (S_6 : Mem) (r_7 : Int32) =>
  Q S_6 r_7))) X
