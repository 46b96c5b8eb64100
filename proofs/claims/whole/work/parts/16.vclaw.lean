def vc_call0 (xs : Nat → Int32) (i : Nat) (S : Mem) (o : Nat → Int64) (K : Mem → (Nat → Int64) → Prop) : Prop :=
  vc_L_thermometer S o (xs (i + 1)) (xs (i + 2)) (xs (i + 3)) (xs (i + 4)) (fun (S_1 : Mem) (o_2 : Nat → Int64) (r_3 : Int32) =>
  vc_X7_thermometer S_1 (xs (i + 1)) (xs (i + 2)) (xs (i + 3)) (xs (i + 4)) (fun (S_4 : Mem) (r_5 : Int32) =>
  vc_X7_thrown S_4 (fun (S_6 : Mem) (r_7 : Int32) =>
  ((r_7 = r_3) →
  ((¬ r_3 = 0) →
  K S_6 o_2) ∧ ((r_3 = 0) →
  (((lg_cmp (o_2 0) (r_5.toInt64)) = 0) →
  K S_6 o_2) ∧ ((¬ (lg_cmp (o_2 0) (r_5.toInt64)) = 0) →
  False))) ∧ ((¬ r_7 = r_3) →
  False))))
def vc_call1 (xs : Nat → Int32) (i : Nat) (S : Mem) (o : Nat → Int64) (K : Mem → (Nat → Int64) → Prop) : Prop :=
  vc_L_hour S o (xs (i + 1)) (fun (S_12 : Mem) (o_13 : Nat → Int64) (r_14 : Int32) =>
  vc_X7_hour S_12 (xs (i + 1)) (fun (S_15 : Mem) (r_16 : Int32) =>
  vc_X7_thrown S_15 (fun (S_17 : Mem) (r_18 : Int32) =>
  ((r_18 = r_14) →
  ((¬ r_14 = 0) →
  K S_17 o_13) ∧ ((r_14 = 0) →
  (((lg_cmp (o_13 0) (r_16.toInt64)) = 0) →
  K S_17 o_13) ∧ ((¬ (lg_cmp (o_13 0) (r_16.toInt64)) = 0) →
  False))) ∧ ((¬ r_18 = r_14) →
  False))))
def vc_call2 (xs : Nat → Int32) (i : Nat) (S : Mem) (o : Nat → Int64) (K : Mem → (Nat → Int64) → Prop) : Prop :=
  vc_L_hours S o (xs (i + 1)) (xs (i + 2)) (fun (S_23 : Mem) (o_24 : Nat → Int64) (r_25 : Int32) =>
  vc_X7_hours S_23 (xs (i + 1)) (xs (i + 2)) (fun (S_26 : Mem) (r_27 : Int32) =>
  vc_X7_thrown S_26 (fun (S_28 : Mem) (r_29 : Int32) =>
  ((r_29 = r_25) →
  ((¬ r_25 = 0) →
  K S_28 o_24) ∧ ((r_25 = 0) →
  (((lg_cmp (o_24 0) (r_27.toInt64)) = 0) →
  K S_28 o_24) ∧ ((¬ (lg_cmp (o_24 0) (r_27.toInt64)) = 0) →
  False))) ∧ ((¬ r_29 = r_25) →
  False))))
def vc_call3 (xs : Nat → Int32) (i : Nat) (S : Mem) (o : Nat → Int64) (K : Mem → (Nat → Int64) → Prop) : Prop :=
  vc_L_period S o (xs (i + 1)) (xs (i + 2)) (fun (S_34 : Mem) (o_35 : Nat → Int64) (r_36 : Int32) =>
  vc_X7_period S_34 (xs (i + 1)) (xs (i + 2)) (fun (S_37 : Mem) (r_38 : Int32) =>
  vc_X7_thrown S_37 (fun (S_39 : Mem) (r_40 : Int32) =>
  ((r_40 = r_36) →
  ((¬ r_36 = 0) →
  K S_39 o_35) ∧ ((r_36 = 0) →
  (((lg_cmp (o_35 0) (r_38.toInt64)) = 0) →
  K S_39 o_35) ∧ ((¬ (lg_cmp (o_35 0) (r_38.toInt64)) = 0) →
  False))) ∧ ((¬ r_40 = r_36) →
  False))))
def vc_call4 (xs : Nat → Int32) (i : Nat) (S : Mem) (o : Nat → Int64) (K : Mem → (Nat → Int64) → Prop) : Prop :=
  vc_L_calibrate S o (xs (i + 1)) (fun (S_45 : Mem) (o_46 : Nat → Int64) (r_47 : Int32) =>
  vc_X7_calibrate S_45 (xs (i + 1)) (fun (S_48 : Mem) (r_49 : Int32) =>
  vc_X7_thrown S_48 (fun (S_50 : Mem) (r_51 : Int32) =>
  ((r_51 = r_47) →
  ((¬ r_47 = 0) →
  K S_50 o_46) ∧ ((r_47 = 0) →
  (((lg_cmp (o_46 0) (r_49.toInt64)) = 0) →
  K S_50 o_46) ∧ ((¬ (lg_cmp (o_46 0) (r_49.toInt64)) = 0) →
  False))) ∧ ((¬ r_51 = r_47) →
  False))))
def vc_call5 (xs : Nat → Int32) (i : Nat) (S : Mem) (o : Nat → Int64) (K : Mem → (Nat → Int64) → Prop) : Prop :=
  vc_L_knock S o (xs (i + 1)) (xs (i + 2)) (fun (S_56 : Mem) (o_57 : Nat → Int64) (r_58 : Int32) =>
  vc_X7_knock S_56 (xs (i + 1)) (xs (i + 2)) (fun (S_59 : Mem) (r_60 : Int32) =>
  vc_X7_thrown S_59 (fun (S_61 : Mem) (r_62 : Int32) =>
  ((r_62 = r_58) →
  ((¬ r_58 = 0) →
  K S_61 o_57) ∧ ((r_58 = 0) →
  (((lg_cmp (o_57 0) (r_60.toInt64)) = 0) →
  K S_61 o_57) ∧ ((¬ (lg_cmp (o_57 0) (r_60.toInt64)) = 0) →
  False))) ∧ ((¬ r_62 = r_58) →
  False))))
def vc_call6 (xs : Nat → Int32) (i : Nat) (S : Mem) (o : Nat → Int64) (K : Mem → (Nat → Int64) → Prop) : Prop :=
  vc_L_set S o (xs (i + 1)) (xs (i + 2)) (fun (S_67 : Mem) (o_68 : Nat → Int64) (r_69 : Int32) =>
  vc_X7_set S_67 (xs (i + 1)) (xs (i + 2)) (fun (S_70 : Mem) (r_71 : Int32) =>
  vc_X7_thrown S_70 (fun (S_72 : Mem) (r_73 : Int32) =>
  ((r_73 = r_69) →
  ((¬ r_69 = 0) →
  K S_72 o_68) ∧ ((r_69 = 0) →
  (((lg_cmp (o_68 0) (r_71.toInt64)) = 0) →
  K S_72 o_68) ∧ ((¬ (lg_cmp (o_68 0) (r_71.toInt64)) = 0) →
  False))) ∧ ((¬ r_73 = r_69) →
  False))))
def vc_call7 (xs : Nat → Int32) (i : Nat) (S : Mem) (o : Nat → Int64) (K : Mem → (Nat → Int64) → Prop) : Prop :=
  vc_L_append S o (xs (i + 1)) (fun (S_78 : Mem) (o_79 : Nat → Int64) (r_80 : Int32) =>
  vc_X7_append S_78 (xs (i + 1)) (fun (S_81 : Mem) (r_82 : Int32) =>
  vc_X7_thrown S_81 (fun (S_83 : Mem) (r_84 : Int32) =>
  ((r_84 = r_80) →
  ((¬ r_80 = 0) →
  K S_83 o_79) ∧ ((r_80 = 0) →
  (((lg_cmp (o_79 0) (r_82.toInt64)) = 0) →
  K S_83 o_79) ∧ ((¬ (lg_cmp (o_79 0) (r_82.toInt64)) = 0) →
  False))) ∧ ((¬ r_84 = r_80) →
  False))))
def vc_call8 (xs : Nat → Int32) (i : Nat) (S : Mem) (o : Nat → Int64) (K : Mem → (Nat → Int64) → Prop) : Prop :=
  vc_X6_clearBuffer S (fun (S_89 : Mem) (r_90 : Int32) =>
  vc_X7_clearBuffer S_89 (fun (S_91 : Mem) (r_92 : Int32) =>
  ((r_90 = r_92) →
  K S_91 o) ∧ ((¬ r_90 = r_92) →
  False)))
def vc_call9 (xs : Nat → Int32) (i : Nat) (S : Mem) (o : Nat → Int64) (K : Mem → (Nat → Int64) → Prop) : Prop :=
  vc_X6_firstError S (fun (S_94 : Mem) (r_95 : Int32) =>
  vc_X7_firstError S_94 (fun (S_96 : Mem) (r_97 : Int32) =>
  ((r_95 = r_97) →
  K S_96 o) ∧ ((¬ r_95 = r_97) →
  False)))
def vc_call10 (xs : Nat → Int32) (i : Nat) (S : Mem) (o : Nat → Int64) (K : Mem → (Nat → Int64) → Prop) : Prop :=
  vc_L_execute S o (fun (S_99 : Mem) (o_100 : Nat → Int64) (r_101 : Int32) =>
  vc_X7_execute S_99 (fun (S_102 : Mem) (r_103 : Int32) =>
  vc_X7_thrown S_102 (fun (S_104 : Mem) (r_105 : Int32) =>
  ((r_105 = r_101) →
  ((¬ r_101 = 0) →
  K S_104 o_100) ∧ ((r_101 = 0) →
  (((lg_cmp (o_100 0) (r_103.toInt64)) = 0) →
  K S_104 o_100) ∧ ((¬ (lg_cmp (o_100 0) (r_103.toInt64)) = 0) →
  False))) ∧ ((¬ r_105 = r_101) →
  False))))
def vc_call11 (xs : Nat → Int32) (i : Nat) (S : Mem) (o : Nat → Int64) (K : Mem → (Nat → Int64) → Prop) : Prop :=
  vc_L_undo S o (fun (S_110 : Mem) (o_111 : Nat → Int64) (r_112 : Int32) =>
  vc_X7_undo S_110 (fun (S_113 : Mem) (r_114 : Int32) =>
  vc_X7_thrown S_113 (fun (S_115 : Mem) (r_116 : Int32) =>
  ((r_116 = r_112) →
  ((¬ r_112 = 0) →
  K S_115 o_111) ∧ ((r_112 = 0) →
  (((lg_cmp (o_111 0) (r_114.toInt64)) = 0) →
  K S_115 o_111) ∧ ((¬ (lg_cmp (o_111 0) (r_114.toInt64)) = 0) →
  False))) ∧ ((¬ r_116 = r_112) →
  False))))
def vc_call12 (xs : Nat → Int32) (i : Nat) (S : Mem) (o : Nat → Int64) (K : Mem → (Nat → Int64) → Prop) : Prop :=
  vc_L_keep S o (xs (i + 1)) (fun (S_121 : Mem) (o_122 : Nat → Int64) (r_123 : Int32) =>
  vc_X7_keep S_121 (xs (i + 1)) (fun (S_124 : Mem) (r_125 : Int32) =>
  vc_X7_thrown S_124 (fun (S_126 : Mem) (r_127 : Int32) =>
  ((r_127 = r_123) →
  ((¬ r_123 = 0) →
  K S_126 o_122) ∧ ((r_123 = 0) →
  (((lg_cmp (o_122 0) (r_125.toInt64)) = 0) →
  K S_126 o_122) ∧ ((¬ (lg_cmp (o_122 0) (r_125.toInt64)) = 0) →
  False))) ∧ ((¬ r_127 = r_123) →
  False))))
def vc_call13 (xs : Nat → Int32) (i : Nat) (S : Mem) (o : Nat → Int64) (K : Mem → (Nat → Int64) → Prop) : Prop :=
  vc_L_goBack S o (xs (i + 1)) (fun (S_132 : Mem) (o_133 : Nat → Int64) (r_134 : Int32) =>
  vc_X7_goBack S_132 (xs (i + 1)) (fun (S_135 : Mem) (r_136 : Int32) =>
  vc_X7_thrown S_135 (fun (S_137 : Mem) (r_138 : Int32) =>
  ((r_138 = r_134) →
  ((¬ r_134 = 0) →
  K S_137 o_133) ∧ ((r_134 = 0) →
  (((lg_cmp (o_133 0) (r_136.toInt64)) = 0) →
  K S_137 o_133) ∧ ((¬ (lg_cmp (o_133 0) (r_136.toInt64)) = 0) →
  False))) ∧ ((¬ r_138 = r_134) →
  False))))
def vc_call14 (xs : Nat → Int32) (i : Nat) (S : Mem) (o : Nat → Int64) (K : Mem → (Nat → Int64) → Prop) : Prop :=
  vc_L_ofThermometer S o (xs (i + 1)) (xs (i + 2)) (fun (S_143 : Mem) (o_144 : Nat → Int64) (r_145 : Int32) =>
  vc_X7_ofThermometer S_143 (xs (i + 1)) (xs (i + 2)) (fun (S_146 : Mem) (r_147 : Int32) =>
  vc_X7_thrown S_146 (fun (S_148 : Mem) (r_149 : Int32) =>
  ((r_149 = r_145) →
  ((¬ r_145 = 0) →
  K S_148 o_144) ∧ ((r_145 = 0) →
  (((lg_cmp (o_144 0) (r_147.toInt64)) = 0) →
  K S_148 o_144) ∧ ((¬ (lg_cmp (o_144 0) (r_147.toInt64)) = 0) →
  False))) ∧ ((¬ r_149 = r_145) →
  False))))
def vc_call15 (xs : Nat → Int32) (i : Nat) (S : Mem) (o : Nat → Int64) (K : Mem → (Nat → Int64) → Prop) : Prop :=
  vc_L_reading S o (xs (i + 1)) (xs (i + 2)) (xs (i + 3)) (fun (S_154 : Mem) (o_155 : Nat → Int64) (r_156 : Int32) =>
  vc_X7_reading S_154 (xs (i + 1)) (xs (i + 2)) (xs (i + 3)) (fun (S_157 : Mem) (r_158 : Int32) =>
  vc_X7_thrown S_157 (fun (S_159 : Mem) (r_160 : Int32) =>
  ((r_160 = r_156) →
  ((¬ r_156 = 0) →
  K S_159 o_155) ∧ ((r_156 = 0) →
  (((lg_cmp (o_155 0) (r_158.toInt64)) = 0) →
  K S_159 o_155) ∧ ((¬ (lg_cmp (o_155 0) (r_158.toInt64)) = 0) →
  False))) ∧ ((¬ r_160 = r_156) →
  False))))
def vc_call16 (xs : Nat → Int32) (i : Nat) (S : Mem) (o : Nat → Int64) (K : Mem → (Nat → Int64) → Prop) : Prop :=
  vc_L_row S o (xs (i + 1)) (xs (i + 2)) (fun (S_165 : Mem) (o_166 : Nat → Int64) (r_167 : Int32) =>
  vc_X7_row S_165 (xs (i + 1)) (xs (i + 2)) (fun (S_168 : Mem) (r_169 : Int32) =>
  vc_X7_thrown S_168 (fun (S_170 : Mem) (r_171 : Int32) =>
  ((r_171 = r_167) →
  ((¬ r_167 = 0) →
  K S_170 o_166) ∧ ((r_167 = 0) →
  (((lg_cmp (o_166 0) (r_169.toInt64)) = 0) →
  K S_170 o_166) ∧ ((¬ (lg_cmp (o_166 0) (r_169.toInt64)) = 0) →
  False))) ∧ ((¬ r_171 = r_167) →
  False))))
def vc_call17 (xs : Nat → Int32) (i : Nat) (S : Mem) (o : Nat → Int64) (K : Mem → (Nat → Int64) → Prop) : Prop :=
  vc_L_count S o (xs (i + 1)) (fun (S_176 : Mem) (o_177 : Nat → Int64) (r_178 : Int32) =>
  vc_X7_count S_176 (xs (i + 1)) (fun (S_179 : Mem) (r_180 : Int32) =>
  vc_X7_thrown S_179 (fun (S_181 : Mem) (r_182 : Int32) =>
  ((r_182 = r_178) →
  ((¬ r_178 = 0) →
  K S_181 o_177) ∧ ((r_178 = 0) →
  (((lg_cmp (o_177 0) (r_180.toInt64)) = 0) →
  K S_181 o_177) ∧ ((¬ (lg_cmp (o_177 0) (r_180.toInt64)) = 0) →
  False))) ∧ ((¬ r_182 = r_178) →
  False))))
def vc_call18 (xs : Nat → Int32) (i : Nat) (S : Mem) (o : Nat → Int64) (K : Mem → (Nat → Int64) → Prop) : Prop :=
  vc_L_ranked S o (xs (i + 1)) (xs (i + 2)) (fun (S_187 : Mem) (o_188 : Nat → Int64) (r_189 : Int32) =>
  vc_X7_ranked S_187 (xs (i + 1)) (xs (i + 2)) (fun (S_190 : Mem) (r_191 : Int32) =>
  vc_X7_thrown S_190 (fun (S_192 : Mem) (r_193 : Int32) =>
  ((r_193 = r_189) →
  ((¬ r_189 = 0) →
  K S_192 o_188) ∧ ((r_189 = 0) →
  (((lg_cmp (o_188 0) (r_191.toInt64)) = 0) →
  K S_192 o_188) ∧ ((¬ (lg_cmp (o_188 0) (r_191.toInt64)) = 0) →
  False))) ∧ ((¬ r_193 = r_189) →
  False))))
def vc_call19 (xs : Nat → Int32) (i : Nat) (S : Mem) (o : Nat → Int64) (K : Mem → (Nat → Int64) → Prop) : Prop :=
  vc_X6_between S (xs (i + 1)) (xs (i + 2)) (fun (S_198 : Mem) (r_199 : Int32) =>
  vc_X7_between S_198 (xs (i + 1)) (xs (i + 2)) (fun (S_200 : Mem) (r_201 : Int32) =>
  ((r_199 = r_201) →
  K S_200 o) ∧ ((¬ r_199 = r_201) →
  False)))
def vc_call20 (xs : Nat → Int32) (i : Nat) (S : Mem) (o : Nat → Int64) (K : Mem → (Nat → Int64) → Prop) : Prop :=
  vc_L_ifLag S o (xs (i + 1)) (xs (i + 2)) (fun (S_203 : Mem) (o_204 : Nat → Int64) (r_205 : Int32) =>
  vc_X7_ifLag S_203 (xs (i + 1)) (xs (i + 2)) (fun (S_206 : Mem) (r_207 : Int32) =>
  vc_X7_thrown S_206 (fun (S_208 : Mem) (r_209 : Int32) =>
  ((r_209 = r_205) →
  ((¬ r_205 = 0) →
  K S_208 o_204) ∧ ((r_205 = 0) →
  (((lg_cmp (o_204 0) (r_207.toInt64)) = 0) →
  K S_208 o_204) ∧ ((¬ (lg_cmp (o_204 0) (r_207.toInt64)) = 0) →
  False))) ∧ ((¬ r_209 = r_205) →
  False))))
def vc_call21 (xs : Nat → Int32) (i : Nat) (S : Mem) (o : Nat → Int64) (K : Mem → (Nat → Int64) → Prop) : Prop :=
  vc_L_bestLag S o (xs (i + 1)) (fun (S_214 : Mem) (o_215 : Nat → Int64) (r_216 : Int32) =>
  vc_X7_bestLag S_214 (xs (i + 1)) (fun (S_217 : Mem) (r_218 : Int32) =>
  vc_X7_thrown S_217 (fun (S_219 : Mem) (r_220 : Int32) =>
  ((r_220 = r_216) →
  ((¬ r_216 = 0) →
  K S_219 o_215) ∧ ((r_216 = 0) →
  (((lg_cmp (o_215 0) (r_218.toInt64)) = 0) →
  K S_219 o_215) ∧ ((¬ (lg_cmp (o_215 0) (r_218.toInt64)) = 0) →
  False))) ∧ ((¬ r_220 = r_216) →
  False))))
def vc_call22 (xs : Nat → Int32) (i : Nat) (S : Mem) (o : Nat → Int64) (K : Mem → (Nat → Int64) → Prop) : Prop :=
  vc_L_ifStill S o (xs (i + 1)) (xs (i + 2)) (fun (S_225 : Mem) (o_226 : Nat → Int64) (r_227 : Int32) =>
  vc_X7_ifStill S_225 (xs (i + 1)) (xs (i + 2)) (fun (S_228 : Mem) (r_229 : Int32) =>
  vc_X7_thrown S_228 (fun (S_230 : Mem) (r_231 : Int32) =>
  ((r_231 = r_227) →
  ((¬ r_227 = 0) →
  K S_230 o_226) ∧ ((r_227 = 0) →
  (((lg_cmp (o_226 0) (r_229.toInt64)) = 0) →
  K S_230 o_226) ∧ ((¬ (lg_cmp (o_226 0) (r_229.toInt64)) = 0) →
  False))) ∧ ((¬ r_231 = r_227) →
  False))))
def vc_call23 (xs : Nat → Int32) (i : Nat) (S : Mem) (o : Nat → Int64) (K : Mem → (Nat → Int64) → Prop) : Prop :=
  vc_L_stillIn S o (xs (i + 1)) (fun (S_236 : Mem) (o_237 : Nat → Int64) (r_238 : Int32) =>
  vc_X7_stillIn S_236 (xs (i + 1)) (fun (S_239 : Mem) (r_240 : Int32) =>
  vc_X7_thrown S_239 (fun (S_241 : Mem) (r_242 : Int32) =>
  ((r_242 = r_238) →
  ((¬ r_238 = 0) →
  K S_241 o_237) ∧ ((r_238 = 0) →
  (((lg_cmp (o_237 0) (r_240.toInt64)) = 0) →
  K S_241 o_237) ∧ ((¬ (lg_cmp (o_237 0) (r_240.toInt64)) = 0) →
  False))) ∧ ((¬ r_242 = r_238) →
  False))))
def vc_call24 (xs : Nat → Int32) (i : Nat) (S : Mem) (o : Nat → Int64) (K : Mem → (Nat → Int64) → Prop) : Prop :=
  vc_X6_meanError S (fun (S_247 : Mem) (r_248 : UInt64) =>
  vc_X7_meanError S_247 (fun (S_249 : Mem) (r_250 : UInt64) =>
  (((Op.cmpValue (FP.dcmp r_248 r_250) CmpOp.l) = 0) →
  K S_249 o) ∧ ((¬ (Op.cmpValue (FP.dcmp r_248 r_250) CmpOp.l) = 0) →
  (((Op.cmpValue (FP.dcmp r_248 r_248) CmpOp.l) = 0) →
  False) ∧ ((¬ (Op.cmpValue (FP.dcmp r_248 r_248) CmpOp.l) = 0) →
  ((¬ (Op.cmpValue (FP.dcmp r_250 r_250) CmpOp.l) = 0) →
  K S_249 o) ∧ (((Op.cmpValue (FP.dcmp r_250 r_250) CmpOp.l) = 0) →
  False)))))
def vc_call (xs : Nat → Int32) (i : Nat) (S : Mem) (o : Nat → Int64) (K : Mem → (Nat → Int64) → Prop) : Prop :=
  (((xs i &&& 31) = (0 : Int32)) → vc_call0 xs i S o K) ∧ ((¬ (xs i &&& 31) = (0 : Int32)) →
  (((xs i &&& 31) = (1 : Int32)) → vc_call1 xs i S o K) ∧ ((¬ (xs i &&& 31) = (1 : Int32)) →
  (((xs i &&& 31) = (2 : Int32)) → vc_call2 xs i S o K) ∧ ((¬ (xs i &&& 31) = (2 : Int32)) →
  (((xs i &&& 31) = (3 : Int32)) → vc_call3 xs i S o K) ∧ ((¬ (xs i &&& 31) = (3 : Int32)) →
  (((xs i &&& 31) = (4 : Int32)) → vc_call4 xs i S o K) ∧ ((¬ (xs i &&& 31) = (4 : Int32)) →
  (((xs i &&& 31) = (5 : Int32)) → vc_call5 xs i S o K) ∧ ((¬ (xs i &&& 31) = (5 : Int32)) →
  (((xs i &&& 31) = (6 : Int32)) → vc_call6 xs i S o K) ∧ ((¬ (xs i &&& 31) = (6 : Int32)) →
  (((xs i &&& 31) = (7 : Int32)) → vc_call7 xs i S o K) ∧ ((¬ (xs i &&& 31) = (7 : Int32)) →
  (((xs i &&& 31) = (8 : Int32)) → vc_call8 xs i S o K) ∧ ((¬ (xs i &&& 31) = (8 : Int32)) →
  (((xs i &&& 31) = (9 : Int32)) → vc_call9 xs i S o K) ∧ ((¬ (xs i &&& 31) = (9 : Int32)) →
  (((xs i &&& 31) = (10 : Int32)) → vc_call10 xs i S o K) ∧ ((¬ (xs i &&& 31) = (10 : Int32)) →
  (((xs i &&& 31) = (11 : Int32)) → vc_call11 xs i S o K) ∧ ((¬ (xs i &&& 31) = (11 : Int32)) →
  (((xs i &&& 31) = (12 : Int32)) → vc_call12 xs i S o K) ∧ ((¬ (xs i &&& 31) = (12 : Int32)) →
  (((xs i &&& 31) = (13 : Int32)) → vc_call13 xs i S o K) ∧ ((¬ (xs i &&& 31) = (13 : Int32)) →
  (((xs i &&& 31) = (14 : Int32)) → vc_call14 xs i S o K) ∧ ((¬ (xs i &&& 31) = (14 : Int32)) →
  (((xs i &&& 31) = (15 : Int32)) → vc_call15 xs i S o K) ∧ ((¬ (xs i &&& 31) = (15 : Int32)) →
  (((xs i &&& 31) = (16 : Int32)) → vc_call16 xs i S o K) ∧ ((¬ (xs i &&& 31) = (16 : Int32)) →
  (((xs i &&& 31) = (17 : Int32)) → vc_call17 xs i S o K) ∧ ((¬ (xs i &&& 31) = (17 : Int32)) →
  (((xs i &&& 31) = (18 : Int32)) → vc_call18 xs i S o K) ∧ ((¬ (xs i &&& 31) = (18 : Int32)) →
  (((xs i &&& 31) = (19 : Int32)) → vc_call19 xs i S o K) ∧ ((¬ (xs i &&& 31) = (19 : Int32)) →
  (((xs i &&& 31) = (20 : Int32)) → vc_call20 xs i S o K) ∧ ((¬ (xs i &&& 31) = (20 : Int32)) →
  (((xs i &&& 31) = (21 : Int32)) → vc_call21 xs i S o K) ∧ ((¬ (xs i &&& 31) = (21 : Int32)) →
  (((xs i &&& 31) = (22 : Int32)) → vc_call22 xs i S o K) ∧ ((¬ (xs i &&& 31) = (22 : Int32)) →
  (((xs i &&& 31) = (23 : Int32)) → vc_call23 xs i S o K) ∧ ((¬ (xs i &&& 31) = (23 : Int32)) →
  (((xs i &&& 31) = (24 : Int32)) → vc_call24 xs i S o K) ∧ ((¬ (xs i &&& 31) = (24 : Int32)) →
  K S o)))))))))))))))))))))))))
def vc_run (xs : Nat → Int32) (L : Nat) : Nat → Nat → Mem → (Nat → Int64) → Prop
  | 0, _, _, _ => False
  | n + 1, i, S, o => i + 5 ≤ L → vc_call xs i S o (fun S1 o1 => vc_run xs L n (i + 5) S1 o1)
