theorem qs_yX6_checkHoursLeft : Cond.selects RX6 yX6_checkHoursLeft yX6_checkHoursLeft ∈ lw_all := lw_sel (n := 6) (by unfold lw_privs lw_privs_1; exact List.mem_of_getElem? (i := 10) rfl)
theorem qu_0 : ∀ w ∈ u_ws RX0 TX0 2, w ∈ lw_all := by
  intro w h
  have e : u_ws RX0 TX0 2 = [u_lay RX0 TX0 0, u_lay RX0 TX0 1] := rfl
  rw [e] at h
  simp only [List.mem_cons, List.not_mem_nil, or_false] at h
  rcases h with rfl | rfl
  · exact lw_c0 (List.mem_of_getElem? (i := 91) (by decide +kernel)) rfl
  · exact lw_c0 (List.mem_of_getElem? (i := 93) (by decide +kernel)) rfl
theorem qu_1 : ∀ w ∈ u_ws RX1 TX1 4, w ∈ lw_all := by
  intro w h
  have e : u_ws RX1 TX1 4 = [u_lay RX1 TX1 0, u_lay RX1 TX1 1, u_lay RX1 TX1 2, u_lay RX1 TX1 3] := rfl
  rw [e] at h
  simp only [List.mem_cons, List.not_mem_nil, or_false] at h
  rcases h with rfl | rfl | rfl | rfl
  · exact lw_c0 (List.mem_of_getElem? (i := 158) (by decide +kernel)) rfl
  · exact lw_c0 (List.mem_of_getElem? (i := 160) (by decide +kernel)) rfl
  · exact lw_c0 (List.mem_of_getElem? (i := 162) (by decide +kernel)) rfl
  · exact lw_c0 (List.mem_of_getElem? (i := 164) (by decide +kernel)) rfl
theorem qu_2 : ∀ w ∈ u_ws RX2 TX2 8, w ∈ lw_all := by
  intro w h
  have e : u_ws RX2 TX2 8 = [u_lay RX2 TX2 0, u_lay RX2 TX2 1, u_lay RX2 TX2 2, u_lay RX2 TX2 3, u_lay RX2 TX2 4, u_lay RX2 TX2 5, u_lay RX2 TX2 6, u_lay RX2 TX2 7] := rfl
  rw [e] at h
  simp only [List.mem_cons, List.not_mem_nil, or_false] at h
  rcases h with rfl | rfl | rfl | rfl | rfl | rfl | rfl | rfl
  · exact lw_c0 (List.mem_of_getElem? (i := 189) (by decide +kernel)) rfl
  · exact lw_c0 (List.mem_of_getElem? (i := 191) (by decide +kernel)) rfl
  · exact lw_c0 (List.mem_of_getElem? (i := 193) (by decide +kernel)) rfl
  · exact lw_c0 (List.mem_of_getElem? (i := 195) (by decide +kernel)) rfl
  · exact lw_c0 (List.mem_of_getElem? (i := 197) (by decide +kernel)) rfl
  · exact lw_c0 (List.mem_of_getElem? (i := 199) (by decide +kernel)) rfl
  · exact lw_c0 (List.mem_of_getElem? (i := 201) (by decide +kernel)) rfl
  · exact lw_c0 (List.mem_of_getElem? (i := 203) (by decide +kernel)) rfl
theorem qu_3 : ∀ w ∈ u_ws RX3 TX3 13, w ∈ lw_all := by
  intro w h
  have e : u_ws RX3 TX3 13 = [u_lay RX3 TX3 0, u_lay RX3 TX3 1, u_lay RX3 TX3 2, u_lay RX3 TX3 3, u_lay RX3 TX3 4, u_lay RX3 TX3 5, u_lay RX3 TX3 6, u_lay RX3 TX3 7, u_lay RX3 TX3 8, u_lay RX3 TX3 9, u_lay RX3 TX3 10, u_lay RX3 TX3 11, u_lay RX3 TX3 12] := rfl
  rw [e] at h
  simp only [List.mem_cons, List.not_mem_nil, or_false] at h
  rcases h with rfl | rfl | rfl | rfl | rfl | rfl | rfl | rfl | rfl | rfl | rfl | rfl | rfl
  · exact lw_c0 (List.mem_of_getElem? (i := 117) (by decide +kernel)) rfl
  · exact lw_c0 (List.mem_of_getElem? (i := 119) (by decide +kernel)) rfl
  · exact lw_c0 (List.mem_of_getElem? (i := 121) (by decide +kernel)) rfl
  · exact lw_c0 (List.mem_of_getElem? (i := 123) (by decide +kernel)) rfl
  · exact lw_c0 (List.mem_of_getElem? (i := 125) (by decide +kernel)) rfl
  · exact lw_c0 (List.mem_of_getElem? (i := 127) (by decide +kernel)) rfl
  · exact lw_c0 (List.mem_of_getElem? (i := 129) (by decide +kernel)) rfl
  · exact lw_c0 (List.mem_of_getElem? (i := 131) (by decide +kernel)) rfl
  · exact lw_c0 (List.mem_of_getElem? (i := 133) (by decide +kernel)) rfl
  · exact lw_c0 (List.mem_of_getElem? (i := 135) (by decide +kernel)) rfl
  · exact lw_c0 (List.mem_of_getElem? (i := 137) (by decide +kernel)) rfl
  · exact lw_c0 (List.mem_of_getElem? (i := 139) (by decide +kernel)) rfl
  · exact lw_c0 (List.mem_of_getElem? (i := 141) (by decide +kernel)) rfl
theorem qu_4 : ∀ w ∈ u_ws RX4 TX4 2, w ∈ lw_all := by
  intro w h
  have e : u_ws RX4 TX4 2 = [u_lay RX4 TX4 0, u_lay RX4 TX4 1] := rfl
  rw [e] at h
  simp only [List.mem_cons, List.not_mem_nil, or_false] at h
  rcases h with rfl | rfl
  · exact lw_c0 (List.mem_of_getElem? (i := 176) (by decide +kernel)) rfl
  · exact lw_c0 (List.mem_of_getElem? (i := 178) (by decide +kernel)) rfl
theorem qu_5 : ∀ w ∈ u_ws RX5 TX5 12, w ∈ lw_all := by
  intro w h
  have e : u_ws RX5 TX5 12 = [u_lay RX5 TX5 0, u_lay RX5 TX5 1, u_lay RX5 TX5 2, u_lay RX5 TX5 3, u_lay RX5 TX5 4, u_lay RX5 TX5 5, u_lay RX5 TX5 6, u_lay RX5 TX5 7, u_lay RX5 TX5 8, u_lay RX5 TX5 9, u_lay RX5 TX5 10, u_lay RX5 TX5 11] := rfl
  rw [e] at h
  simp only [List.mem_cons, List.not_mem_nil, or_false] at h
  rcases h with rfl | rfl | rfl | rfl | rfl | rfl | rfl | rfl | rfl | rfl | rfl | rfl
  · exact lw_c0 (List.mem_of_getElem? (i := 57) (by decide +kernel)) rfl
  · exact lw_c0 (List.mem_of_getElem? (i := 59) (by decide +kernel)) rfl
  · exact lw_c0 (List.mem_of_getElem? (i := 61) (by decide +kernel)) rfl
  · exact lw_c0 (List.mem_of_getElem? (i := 63) (by decide +kernel)) rfl
  · exact lw_c0 (List.mem_of_getElem? (i := 65) (by decide +kernel)) rfl
  · exact lw_c0 (List.mem_of_getElem? (i := 67) (by decide +kernel)) rfl
  · exact lw_c0 (List.mem_of_getElem? (i := 69) (by decide +kernel)) rfl
  · exact lw_c0 (List.mem_of_getElem? (i := 71) (by decide +kernel)) rfl
  · exact lw_c0 (List.mem_of_getElem? (i := 73) (by decide +kernel)) rfl
  · exact lw_c0 (List.mem_of_getElem? (i := 75) (by decide +kernel)) rfl
  · exact lw_c0 (List.mem_of_getElem? (i := 77) (by decide +kernel)) rfl
  · exact lw_c0 (List.mem_of_getElem? (i := 79) (by decide +kernel)) rfl
theorem qu_6 : ∀ w ∈ u_ws RX6 TX6 6, w ∈ lw_all := by
  intro w h
  have e : u_ws RX6 TX6 6 = [u_lay RX6 TX6 0, u_lay RX6 TX6 1, u_lay RX6 TX6 2, u_lay RX6 TX6 3, u_lay RX6 TX6 4, u_lay RX6 TX6 5] := rfl
  rw [e] at h
  simp only [List.mem_cons, List.not_mem_nil, or_false] at h
  rcases h with rfl | rfl | rfl | rfl | rfl | rfl
  · exact lw_c0 (List.mem_of_getElem? (i := 213) (by decide +kernel)) rfl
  · exact lw_c0 (List.mem_of_getElem? (i := 215) (by decide +kernel)) rfl
  · exact lw_c0 (List.mem_of_getElem? (i := 217) (by decide +kernel)) rfl
  · exact lw_c0 (List.mem_of_getElem? (i := 219) (by decide +kernel)) rfl
  · exact lw_c0 (List.mem_of_getElem? (i := 221) (by decide +kernel)) rfl
  · exact lw_c0 (List.mem_of_getElem? (i := 223) (by decide +kernel)) rfl
def nestL : List (String × Nat × MethodName × String) := [(RX3, 17, yX5_init, RX6), (RX3, 31, yX0_init, RX6), (RX6, 28, yX4_init, RX6), (RX6, 38, yX2_init, RX6), (RX3, 173, yX6_quotient, RX6), (RX5, 80, yX6_entry, RX6), (RX3, 78, yX6_entry, RX6), (RX3, 86, yX6_remainder, RX6), (RX5, 55, yX6_copyInto, RX6), (RX3, 61, yX6_copyInto, RX6), (RX5, 63, yX6_quotient, RX6), (RX5, 67, yX6_putFirst, RX6)]
def nestW (q : String × Nat × MethodName × String) : Cond := .methodLinkNest q.1 q.2.1 q.2.2.1 q.2.2.2
theorem ql_RX3_17 : (RX3, 17, yX5_init, RX6) ∈ nestL := List.mem_of_getElem? (i := 0) rfl
theorem ql_RX3_31 : (RX3, 31, yX0_init, RX6) ∈ nestL := List.mem_of_getElem? (i := 1) rfl
theorem ql_RX6_28 : (RX6, 28, yX4_init, RX6) ∈ nestL := List.mem_of_getElem? (i := 2) rfl
theorem ql_RX6_38 : (RX6, 38, yX2_init, RX6) ∈ nestL := List.mem_of_getElem? (i := 3) rfl
theorem ql_RX3_173 : (RX3, 173, yX6_quotient, RX6) ∈ nestL := List.mem_of_getElem? (i := 4) rfl
theorem ql_RX5_80 : (RX5, 80, yX6_entry, RX6) ∈ nestL := List.mem_of_getElem? (i := 5) rfl
theorem ql_RX3_78 : (RX3, 78, yX6_entry, RX6) ∈ nestL := List.mem_of_getElem? (i := 6) rfl
theorem ql_RX3_86 : (RX3, 86, yX6_remainder, RX6) ∈ nestL := List.mem_of_getElem? (i := 7) rfl
theorem ql_RX5_55 : (RX5, 55, yX6_copyInto, RX6) ∈ nestL := List.mem_of_getElem? (i := 8) rfl
theorem ql_RX3_61 : (RX3, 61, yX6_copyInto, RX6) ∈ nestL := List.mem_of_getElem? (i := 9) rfl
theorem ql_RX5_63 : (RX5, 63, yX6_quotient, RX6) ∈ nestL := List.mem_of_getElem? (i := 10) rfl
theorem ql_RX5_67 : (RX5, 67, yX6_putFirst, RX6) ∈ nestL := List.mem_of_getElem? (i := 11) rfl
theorem nest_tbl : ∀ q ∈ nestL, nestW q ∈ lw_tbl := by
  have key : ∀ j, j < nestL.length → ∃ q, nestL[j]? = some q ∧ nestW q ∈ lw_tbl := by
    intro j hj
    have hj : j < 12 := hj
    match j, hj with
    | 0, _ => exact ⟨_, rfl, lw_n0 (List.mem_of_getElem? (i := 33) (by decide +kernel))⟩
    | 1, _ => exact ⟨_, rfl, lw_n0 (List.mem_of_getElem? (i := 85) (by decide +kernel))⟩
    | 2, _ => exact ⟨_, rfl, lw_n0 (List.mem_of_getElem? (i := 169) (by decide +kernel))⟩
    | 3, _ => exact ⟨_, rfl, lw_n0 (List.mem_of_getElem? (i := 183) (by decide +kernel))⟩
    | 4, _ => exact ⟨_, rfl, lw_n1 (List.mem_of_getElem? (i := 92) (by decide +kernel))⟩
    | 5, _ => exact ⟨_, rfl, lw_n1 (List.mem_of_getElem? (i := 169) (by decide +kernel))⟩
    | 6, _ => exact ⟨_, rfl, lw_n1 (List.mem_of_getElem? (i := 227) (by decide +kernel))⟩
    | 7, _ => exact ⟨_, rfl, lw_n1 (List.mem_of_getElem? (i := 237) (by decide +kernel))⟩
    | 8, _ => exact ⟨_, rfl, lw_n2 (List.mem_of_getElem? (i := 56) (by decide +kernel))⟩
    | 9, _ => exact ⟨_, rfl, lw_n2 (List.mem_of_getElem? (i := 59) (by decide +kernel))⟩
    | 10, _ => exact ⟨_, rfl, lw_n2 (List.mem_of_getElem? (i := 82) (by decide +kernel))⟩
    | 11, _ => exact ⟨_, rfl, lw_n2 (List.mem_of_getElem? (i := 95) (by decide +kernel))⟩
    | k + 12, h => exact absurd h (by omega)
  intro q hq
  obtain ⟨j, hj⟩ := List.getElem?_of_mem hq
  obtain ⟨q2, h1, h2⟩ := key j (List.getElem?_eq_some_iff.mp hj).1
  rw [hj] at h1
  cases h1
  exact h2

