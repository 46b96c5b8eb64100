def vc_L_law_L59  (K : Mem → Prop) (cf : Int32 → Int32) : Nat → Mem → Int32 → Prop
  | 0, _, _ => False
  | n59 + 1, S, y6 =>
  (((4 : Int32) ≤ y6) →
  K S) ∧ ((¬ ((4 : Int32) ≤ y6)) →
  vp_in ((4 : Int32) + y6) 16 ∧
  ∀ S_14 : Mem, S_14 = uc S 18 0 0 (upd (S 18 0 0) ((4 : Int32) + y6).toNatClampNeg (1 : Int32)) →
  vc_L_law_L59 K cf n59 S_14 (y6 + (1 : Int32)))
def vc_L_law_L130 (cf : Int32 → Int32) : Nat → Mem → Int32 → Int32 → Prop
  | 0, _, _, _ => False
  | n130 + 1, S, y6, y7 =>
  (((40 : Int32) ≤ y7) →
  y6 = 1) ∧ ((¬ ((40 : Int32) ≤ y7)) →
  ((y6 = 0) →
  y6 = 1) ∧ ((¬ (y6 = 0)) →
  (∃ j, j < 1000 ∧ ((1 : Int32) + y7) = nI j) ∧
  (((4 : Int32) ≤ y7) →
  vc_L_low S ((cf ((1 : Int32) + y7)) >>> ((18 : Int32) &&& 31)) (15 : Int32) (fun (S_24 : Mem) (r_25 : Int32) =>
  vc_L_acts S_24 r_25 (cf ((1 : Int32) + y7)) (fun (S_26 : Mem) (r_27 : Int32) =>
  ((r_27 = 0) →
  vc_L_law_L130 cf n130 S_26 (0 : Int32) (y7 + (1 : Int32))) ∧ ((¬ (r_27 = 0)) →
  vc_L_areThermometers S_26 (fun (S_29 : Mem) (r_30 : Int32) =>
  ((r_30 = 0) →
  vc_L_law_L130 cf n130 S_29 (0 : Int32) (y7 + (1 : Int32))) ∧ ((¬ (r_30 = 0)) →
  vc_L_areNumbers S_29 (fun (S_32 : Mem) (r_33 : Int32) =>
  ((r_33 = 0) →
  vc_L_law_L130 cf n130 S_32 (0 : Int32) (y7 + (1 : Int32))) ∧ ((¬ (r_33 = 0)) →
  vc_L_low S_32 ((cf ((1 : Int32) + y7)) >>> ((3 : Int32) &&& 31)) (2 : Int32) (fun (S_35 : Mem) (r_36 : Int32) =>
  vc_L_low S_35 ((cf ((1 : Int32) + y7)) >>> ((5 : Int32) &&& 31)) (6000 : Int32) (fun (S_37 : Mem) (r_38 : Int32) =>
  vc_L_low S_37 ((cf ((1 : Int32) + y7)) >>> ((8 : Int32) &&& 31)) (6000 : Int32) (fun (S_39 : Mem) (r_40 : Int32) =>
  vc_L_areRanked S_39 r_36 (r_38 - (3000 : Int32)) (r_40 - (1000 : Int32)) (fun (S_41 : Mem) (r_42 : Int32) =>
  ((r_42 = 0) →
  vc_L_law_L130 cf n130 S_41 (0 : Int32) (y7 + (1 : Int32))) ∧ ((¬ (r_42 = 0)) →
  vp_in (15 : Int32) 16 ∧
  vc_L_low S_41 ((cf ((1 : Int32) + y7)) >>> ((4 : Int32) &&& 31)) (S_41 18 0 0 (15 : Int32).toNatClampNeg) (fun (S_45 : Mem) (r_46 : Int32) =>
  vc_L_wouldOne S_45 r_46 (fun (S_47 : Mem) (r_48 : Int32) =>
  ((r_48 = 0) →
  vc_L_law_L130 cf n130 S_47 (0 : Int32) (y7 + (1 : Int32))) ∧ ((¬ (r_48 = 0)) →
  (¬ (2 : Int32) = 0) ∧
  (((y7 - y7 / (2 : Int32) * (2 : Int32)) = 0) →
  vc_L_law_L130 cf n130 S_47 (1 : Int32) (y7 + (1 : Int32))) ∧ ((¬ ((y7 - y7 / (2 : Int32) * (2 : Int32)) = 0)) →
  vc_L_low S_47 ((cf ((1 : Int32) + y7)) >>> ((7 : Int32) &&& 31)) (48 : Int32) (fun (S_52 : Mem) (r_53 : Int32) =>
  vc_L_would S_52 ((1 : Int32) + r_53) (fun (S_54 : Mem) (r_55 : Int32) =>
  ((r_55 = 0) →
  vc_L_law_L130 cf n130 S_54 (0 : Int32) (y7 + (1 : Int32))) ∧ ((¬ (r_55 = 0)) →
  vc_L_law_L130 cf n130 S_54 (1 : Int32) (y7 + (1 : Int32)))))))))))))))))))))) ∧ ((¬ ((4 : Int32) ≤ y7)) →
  vc_L_acts S (0 : Int32) (cf ((1 : Int32) + y7)) (fun (S_57 : Mem) (r_58 : Int32) =>
  ((r_58 = 0) →
  vc_L_law_L130 cf n130 S_57 (0 : Int32) (y7 + (1 : Int32))) ∧ ((¬ (r_58 = 0)) →
  vc_L_areThermometers S_57 (fun (S_60 : Mem) (r_61 : Int32) =>
  ((r_61 = 0) →
  vc_L_law_L130 cf n130 S_60 (0 : Int32) (y7 + (1 : Int32))) ∧ ((¬ (r_61 = 0)) →
  vc_L_areNumbers S_60 (fun (S_63 : Mem) (r_64 : Int32) =>
  ((r_64 = 0) →
  vc_L_law_L130 cf n130 S_63 (0 : Int32) (y7 + (1 : Int32))) ∧ ((¬ (r_64 = 0)) →
  vc_L_low S_63 ((cf ((1 : Int32) + y7)) >>> ((3 : Int32) &&& 31)) (2 : Int32) (fun (S_66 : Mem) (r_67 : Int32) =>
  vc_L_low S_66 ((cf ((1 : Int32) + y7)) >>> ((5 : Int32) &&& 31)) (6000 : Int32) (fun (S_68 : Mem) (r_69 : Int32) =>
  vc_L_low S_68 ((cf ((1 : Int32) + y7)) >>> ((8 : Int32) &&& 31)) (6000 : Int32) (fun (S_70 : Mem) (r_71 : Int32) =>
  vc_L_areRanked S_70 r_67 (r_69 - (3000 : Int32)) (r_71 - (1000 : Int32)) (fun (S_72 : Mem) (r_73 : Int32) =>
  ((r_73 = 0) →
  vc_L_law_L130 cf n130 S_72 (0 : Int32) (y7 + (1 : Int32))) ∧ ((¬ (r_73 = 0)) →
  vp_in (15 : Int32) 16 ∧
  vc_L_low S_72 ((cf ((1 : Int32) + y7)) >>> ((4 : Int32) &&& 31)) (S_72 18 0 0 (15 : Int32).toNatClampNeg) (fun (S_76 : Mem) (r_77 : Int32) =>
  vc_L_wouldOne S_76 r_77 (fun (S_78 : Mem) (r_79 : Int32) =>
  ((r_79 = 0) →
  vc_L_law_L130 cf n130 S_78 (0 : Int32) (y7 + (1 : Int32))) ∧ ((¬ (r_79 = 0)) →
  (¬ (2 : Int32) = 0) ∧
  (((y7 - y7 / (2 : Int32) * (2 : Int32)) = 0) →
  vc_L_law_L130 cf n130 S_78 (1 : Int32) (y7 + (1 : Int32))) ∧ ((¬ ((y7 - y7 / (2 : Int32) * (2 : Int32)) = 0)) →
  vc_L_low S_78 ((cf ((1 : Int32) + y7)) >>> ((7 : Int32) &&& 31)) (48 : Int32) (fun (S_83 : Mem) (r_84 : Int32) =>
  vc_L_would S_83 ((1 : Int32) + r_84) (fun (S_85 : Mem) (r_86 : Int32) =>
  ((r_86 = 0) →
  vc_L_law_L130 cf n130 S_85 (0 : Int32) (y7 + (1 : Int32))) ∧ ((¬ (r_86 = 0)) →
  vc_L_law_L130 cf n130 S_85 (1 : Int32) (y7 + (1 : Int32)))))))))))))))))))))))
def vc_L_law (cf : Int32 → Int32) (S : Mem) : Prop :=
  vp_in (1 : Int32) 16 ∧
  ∀ S_1 : Mem, S_1 = uc S 18 0 0 (upd (S 18 0 0) (1 : Int32).toNatClampNeg (1000 : Int32)) →
  vp_in (2 : Int32) 16 ∧
  ∀ S_4 : Mem, S_4 = uc S_1 18 0 0 (upd (S_1 18 0 0) (2 : Int32).toNatClampNeg (300 : Int32)) →
  vp_in (3 : Int32) 16 ∧
  ∀ S_7 : Mem, S_7 = uc S_4 18 0 0 (upd (S_4 18 0 0) (3 : Int32).toNatClampNeg (2 : Int32)) →
  vp_in (14 : Int32) 16 ∧
  ∀ S_10 : Mem, S_10 = uc S_7 18 0 0 (upd (S_7 18 0 0) (14 : Int32).toNatClampNeg (-999999 : Int32)) →
  ∃ n : Nat, vc_L_law_L59 (fun (S_17 : Mem) =>
  vc_L_areThermometers S_17 (fun (S_18 : Mem) (r_19 : Int32) =>
  ((r_19 = 0) →
  ∃ n : Nat, n ≤ 100 ∧ vc_L_law_L130 cf n S_18 (0 : Int32) (0 : Int32)) ∧ ((¬ (r_19 = 0)) →
  vc_L_areNumbers S_18 (fun (S_89 : Mem) (r_90 : Int32) =>
  ((r_90 = 0) →
  ∃ n : Nat, n ≤ 100 ∧ vc_L_law_L130 cf n S_89 (0 : Int32) (0 : Int32)) ∧ ((¬ (r_90 = 0)) →
  (∃ j, j < 1000 ∧ (0 : Int32) = nI j) ∧
  vc_L_adds S_89 (cf (0 : Int32)) (fun (S_92 : Mem) (r_93 : Int32) =>
  ((r_93 = 0) →
  ∃ n : Nat, n ≤ 100 ∧ vc_L_law_L130 cf n S_92 (0 : Int32) (0 : Int32)) ∧ ((¬ (r_93 = 0)) →
  ∃ n : Nat, n ≤ 100 ∧ vc_L_law_L130 cf n S_92 (1 : Int32) (0 : Int32)))))))) cf n S_10 (0 : Int32)
