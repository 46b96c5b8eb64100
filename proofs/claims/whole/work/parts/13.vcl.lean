def vc_L_thermometer (S : Mem) (o : Nat → Int64) (x1 : Int32) (x2 : Int32) (x3 : Int32) (x4 : Int32) (Q : Mem → (Nat → Int64) → Int32 → Prop) : Prop :=
  vc_X6_thermometer S x1 x2 x3 x4 (fun (S1 : Mem) (r : Int32) => Q S1 (vp_updL o 0 r.toInt64) 0) (fun (S1 : Mem) (k : Nat) => (k = 1 ∧ Q S1 o 1) ∨ (k = 2 ∧ Q S1 o 2) ∨ (k = 3 ∧ Q S1 o 3))
def vc_L_hour (S : Mem) (o : Nat → Int64) (x1 : Int32) (Q : Mem → (Nat → Int64) → Int32 → Prop) : Prop :=
  vc_X6_hour S x1 (fun (S1 : Mem) (r : Int32) => Q S1 (vp_updL o 0 r.toInt64) 0) (fun (S1 : Mem) (k : Nat) => (k = 2 ∧ Q S1 o 1) ∨ (k = 3 ∧ Q S1 o 2))
def vc_L_hours (S : Mem) (o : Nat → Int64) (x1 : Int32) (x2 : Int32) (Q : Mem → (Nat → Int64) → Int32 → Prop) : Prop :=
  vc_X6_hours S x1 x2 (fun (S1 : Mem) (r : Int32) => Q S1 (vp_updL o 0 r.toInt64) 0) (fun (S1 : Mem) (k : Nat) => (k = 2 ∧ Q S1 o 1) ∨ (k = 3 ∧ Q S1 o 2))
def vc_L_period (S : Mem) (o : Nat → Int64) (x1 : Int32) (x2 : Int32) (Q : Mem → (Nat → Int64) → Int32 → Prop) : Prop :=
  vc_X6_period S x1 x2 (fun (S1 : Mem) (r : Int32) => Q S1 (vp_updL o 0 r.toInt64) 0) (fun (S1 : Mem) (k : Nat) => (k = 1 ∧ Q S1 o 1) ∨ (k = 2 ∧ Q S1 o 2))
def vc_L_calibrate (S : Mem) (o : Nat → Int64) (x1 : Int32) (Q : Mem → (Nat → Int64) → Int32 → Prop) : Prop :=
  vc_X6_calibrate S x1 (fun (S1 : Mem) (r : Int32) => Q S1 (vp_updL o 0 r.toInt64) 0) (fun (S1 : Mem) (k : Nat) => (k = 1 ∧ Q S1 o 1))
def vc_L_knock (S : Mem) (o : Nat → Int64) (x1 : Int32) (x2 : Int32) (Q : Mem → (Nat → Int64) → Int32 → Prop) : Prop :=
  vc_X6_knock S x1 x2 (fun (S1 : Mem) (r : Int32) => Q S1 (vp_updL o 0 r.toInt64) 0) (fun (S1 : Mem) (k : Nat) => (k = 1 ∧ Q S1 o 1) ∨ (k = 2 ∧ Q S1 o 2) ∨ (k = 3 ∧ Q S1 o 3))
def vc_L_set (S : Mem) (o : Nat → Int64) (x1 : Int32) (x2 : Int32) (Q : Mem → (Nat → Int64) → Int32 → Prop) : Prop :=
  vc_X6_set S x1 x2 (fun (S1 : Mem) (r : Int32) => Q S1 (vp_updL o 0 r.toInt64) 0) (fun (S1 : Mem) (k : Nat) => (k = 1 ∧ Q S1 o 1) ∨ (k = 2 ∧ Q S1 o 2))
def vc_L_append (S : Mem) (o : Nat → Int64) (x1 : Int32) (Q : Mem → (Nat → Int64) → Int32 → Prop) : Prop :=
  vc_X6_append S x1 (fun (S1 : Mem) (r : Int32) => Q S1 (vp_updL o 0 r.toInt64) 0) (fun (S1 : Mem) (k : Nat) => (k = 2 ∧ Q S1 o 1) ∨ (k = 3 ∧ Q S1 o 2))
def vc_L_execute (S : Mem) (o : Nat → Int64) (Q : Mem → (Nat → Int64) → Int32 → Prop) : Prop :=
  vc_X6_execute S (fun (S1 : Mem) (r : Int32) => Q S1 (vp_updL o 0 r.toInt64) 0) (fun (S1 : Mem) (k : Nat) => (k = 2 ∧ Q S1 o 1))
def vc_L_undo (S : Mem) (o : Nat → Int64) (Q : Mem → (Nat → Int64) → Int32 → Prop) : Prop :=
  vc_X6_undo S (fun (S1 : Mem) (r : Int32) => Q S1 (vp_updL o 0 r.toInt64) 0) (fun (S1 : Mem) (k : Nat) => (k = 3 ∧ Q S1 o 1))
def vc_L_keep (S : Mem) (o : Nat → Int64) (x1 : Int32) (Q : Mem → (Nat → Int64) → Int32 → Prop) : Prop :=
  vc_X6_keep S x1 (fun (S1 : Mem) (r : Int32) => Q S1 (vp_updL o 0 r.toInt64) 0) (fun (S1 : Mem) (k : Nat) => (k = 2 ∧ Q S1 o 1))
def vc_L_goBack (S : Mem) (o : Nat → Int64) (x1 : Int32) (Q : Mem → (Nat → Int64) → Int32 → Prop) : Prop :=
  vc_X6_goBack S x1 (fun (S1 : Mem) (r : Int32) => Q S1 (vp_updL o 0 r.toInt64) 0) (fun (S1 : Mem) (k : Nat) => (k = 2 ∧ Q S1 o 1) ∨ (k = 3 ∧ Q S1 o 2))
def vc_L_ofThermometer (S : Mem) (o : Nat → Int64) (x1 : Int32) (x2 : Int32) (Q : Mem → (Nat → Int64) → Int32 → Prop) : Prop :=
  vc_X6_ofThermometer S x1 x2 (fun (S1 : Mem) (r : Int32) => Q S1 (vp_updL o 0 r.toInt64) 0) (fun (S1 : Mem) (k : Nat) => (k = 1 ∧ Q S1 o 1) ∨ (k = 2 ∧ Q S1 o 2))
def vc_L_reading (S : Mem) (o : Nat → Int64) (x1 : Int32) (x2 : Int32) (x3 : Int32) (Q : Mem → (Nat → Int64) → Int32 → Prop) : Prop :=
  vc_X6_reading S x1 x2 x3 (fun (S1 : Mem) (r : Int32) => Q S1 (vp_updL o 0 r.toInt64) 0) (fun (S1 : Mem) (k : Nat) => (k = 1 ∧ Q S1 o 1) ∨ (k = 2 ∧ Q S1 o 2))
def vc_L_row (S : Mem) (o : Nat → Int64) (x1 : Int32) (x2 : Int32) (Q : Mem → (Nat → Int64) → Int32 → Prop) : Prop :=
  vc_X6_row S x1 x2 (fun (S1 : Mem) (r : Int32) => Q S1 (vp_updL o 0 r.toInt64) 0) (fun (S1 : Mem) (k : Nat) => (k = 1 ∧ Q S1 o 1) ∨ (k = 2 ∧ Q S1 o 2))
def vc_L_count (S : Mem) (o : Nat → Int64) (x1 : Int32) (Q : Mem → (Nat → Int64) → Int32 → Prop) : Prop :=
  vc_X6_count S x1 (fun (S1 : Mem) (r : Int32) => Q S1 (vp_updL o 0 r.toInt64) 0) (fun (S1 : Mem) (k : Nat) => (k = 2 ∧ Q S1 o 1))
def vc_L_ranked (S : Mem) (o : Nat → Int64) (x1 : Int32) (x2 : Int32) (Q : Mem → (Nat → Int64) → Int32 → Prop) : Prop :=
  vc_X6_ranked S x1 x2 (fun (S1 : Mem) (r : Int32) => Q S1 (vp_updL o 0 r.toInt64) 0) (fun (S1 : Mem) (k : Nat) => (k = 2 ∧ Q S1 o 1))
def vc_L_ifLag (S : Mem) (o : Nat → Int64) (x1 : Int32) (x2 : Int32) (Q : Mem → (Nat → Int64) → Int32 → Prop) : Prop :=
  vc_X6_ifLag S x1 x2 (fun (S1 : Mem) (r : Int32) => Q S1 (vp_updL o 0 r.toInt64) 0) (fun (S1 : Mem) (k : Nat) => (k = 1 ∧ Q S1 o 1) ∨ (k = 2 ∧ Q S1 o 2))
def vc_L_bestLag (S : Mem) (o : Nat → Int64) (x1 : Int32) (Q : Mem → (Nat → Int64) → Int32 → Prop) : Prop :=
  vc_X6_bestLag S x1 (fun (S1 : Mem) (r : Int32) => Q S1 (vp_updL o 0 r.toInt64) 0) (fun (S1 : Mem) (k : Nat) => (k = 1 ∧ Q S1 o 1))
def vc_L_ifStill (S : Mem) (o : Nat → Int64) (x1 : Int32) (x2 : Int32) (Q : Mem → (Nat → Int64) → Int32 → Prop) : Prop :=
  vc_X6_ifStill S x1 x2 (fun (S1 : Mem) (r : Int32) => Q S1 (vp_updL o 0 r.toInt64) 0) (fun (S1 : Mem) (k : Nat) => (k = 2 ∧ Q S1 o 1))
def vc_L_stillIn (S : Mem) (o : Nat → Int64) (x1 : Int32) (Q : Mem → (Nat → Int64) → Int32 → Prop) : Prop :=
  vc_X6_stillIn S x1 (fun (S1 : Mem) (r : Int32) => Q S1 (vp_updL o 0 r.toInt64) 0) (fun (S1 : Mem) (k : Nat) => (k = 1 ∧ Q S1 o 1))
