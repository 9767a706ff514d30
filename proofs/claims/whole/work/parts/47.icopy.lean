theorem ec_copyA (C : em_M) : ep_Cp 21 C 55 (et_X3_copyFrom 55 21 (et_X10_copyFrom 55 21 C)) := by
  refine ep_Cp.mk ?_ ?_ ?_ ?_ ?_ ?_ ?_ ?_ ?_ ?_ ?_ ?_ ?_ ?_
  case refine_3 =>
    intro k k1 k2 k3
    have hh : k = 8 ∨ k = 9 ∨ k = 10 ∨ k = 11 ∨ k = 13 ∨ k = 14 := by omega
    rcases hh with rfl | rfl | rfl | rfl | rfl | rfl
    all_goals simp (disch := first | decide | omega) only [et_X3_copyFrom, et_X10_copyFrom, et_X4_copyFrom, et_X7_copyFrom, et_X0_copyFrom, et_X9_copyFrom, ef_pI', ef_pIk, ef_pIs, eq_pL1, eq_pI2, ef_pL', ef_pLk, ef_pLs, ef_cpI, ef_cpI2, ef_cpL, ef_cpL1, ef_crS, ef_crL]
  case refine_5 =>
    intro k k1
    have hh : k = 0 ∨ k = 1 ∨ k = 2 ∨ k = 3 := by omega
    rcases hh with rfl | rfl | rfl | rfl
    all_goals simp (disch := first | decide | omega) only [et_X3_copyFrom, et_X10_copyFrom, et_X4_copyFrom, et_X7_copyFrom, et_X0_copyFrom, et_X9_copyFrom, ef_pI', ef_pIk, ef_pIs, eq_pL1, eq_pI2, ef_pL', ef_pLk, ef_pLs, ef_cpI, ef_cpI2, ef_cpL, ef_cpL1, ef_crS, ef_crL]
  case refine_11 =>
    intro j j1 j2 k hk
    have hh : j = 9 ∨ j = 10 ∨ j = 11 ∨ j = 12 ∨ j = 13 ∨ j = 14 ∨ j = 15 := by omega
    rcases hh with rfl | rfl | rfl | rfl | rfl | rfl | rfl
    all_goals simp (disch := first | decide | omega) only [et_X3_copyFrom, et_X10_copyFrom, et_X4_copyFrom, et_X7_copyFrom, et_X0_copyFrom, et_X9_copyFrom, ef_pI', ef_pIk, ef_pIs, eq_pL1, eq_pI2, ef_pL', ef_pLk, ef_pLs, ef_cpI, ef_cpI2, ef_cpL, ef_cpL1, ef_crS, ef_crL]
  case refine_14 =>
    intro j j1 j2 k hk
    have hh : j = 18 ∨ j = 19 ∨ j = 20 ∨ j = 21 ∨ j = 22 ∨ j = 23 := by omega
    rcases hh with rfl | rfl | rfl | rfl | rfl | rfl
    all_goals simp (disch := first | decide | omega) only [et_X3_copyFrom, et_X10_copyFrom, et_X4_copyFrom, et_X7_copyFrom, et_X0_copyFrom, et_X9_copyFrom, ef_pI', ef_pIk, ef_pIs, eq_pL1, eq_pI2, ef_pL', ef_pLk, ef_pLs, ef_cpI, ef_cpI2, ef_cpL, ef_cpL1, ef_crS, ef_crL]
  all_goals (intros; simp (disch := first | decide | omega) only [et_X3_copyFrom, et_X10_copyFrom, et_X4_copyFrom, et_X7_copyFrom, et_X0_copyFrom, et_X9_copyFrom, ef_pI', ef_pIk, ef_pIs, eq_pL1, eq_pI2, ef_pL', ef_pLk, ef_pLs, ef_cpI, ef_cpI2, ef_cpL, ef_cpL1, ef_crS, ef_crL])
theorem ec_copyB (C : em_M) : ep_Cp 55 C 21 (et_X3_copyFrom 21 55 (et_X10_copyFrom 21 55 C)) := by
  refine ep_Cp.mk ?_ ?_ ?_ ?_ ?_ ?_ ?_ ?_ ?_ ?_ ?_ ?_ ?_ ?_
  case refine_3 =>
    intro k k1 k2 k3
    have hh : k = 8 ∨ k = 9 ∨ k = 10 ∨ k = 11 ∨ k = 13 ∨ k = 14 := by omega
    rcases hh with rfl | rfl | rfl | rfl | rfl | rfl
    all_goals simp (disch := first | decide | omega) only [et_X3_copyFrom, et_X10_copyFrom, et_X4_copyFrom, et_X7_copyFrom, et_X0_copyFrom, et_X9_copyFrom, ef_pI', ef_pIk, ef_pIs, eq_pL1, eq_pI2, ef_pL', ef_pLk, ef_pLs, ef_cpI, ef_cpI2, ef_cpL, ef_cpL1, ef_crS, ef_crL]
  case refine_5 =>
    intro k k1
    have hh : k = 0 ∨ k = 1 ∨ k = 2 ∨ k = 3 := by omega
    rcases hh with rfl | rfl | rfl | rfl
    all_goals simp (disch := first | decide | omega) only [et_X3_copyFrom, et_X10_copyFrom, et_X4_copyFrom, et_X7_copyFrom, et_X0_copyFrom, et_X9_copyFrom, ef_pI', ef_pIk, ef_pIs, eq_pL1, eq_pI2, ef_pL', ef_pLk, ef_pLs, ef_cpI, ef_cpI2, ef_cpL, ef_cpL1, ef_crS, ef_crL]
  case refine_11 =>
    intro j j1 j2 k hk
    have hh : j = 9 ∨ j = 10 ∨ j = 11 ∨ j = 12 ∨ j = 13 ∨ j = 14 ∨ j = 15 := by omega
    rcases hh with rfl | rfl | rfl | rfl | rfl | rfl | rfl
    all_goals simp (disch := first | decide | omega) only [et_X3_copyFrom, et_X10_copyFrom, et_X4_copyFrom, et_X7_copyFrom, et_X0_copyFrom, et_X9_copyFrom, ef_pI', ef_pIk, ef_pIs, eq_pL1, eq_pI2, ef_pL', ef_pLk, ef_pLs, ef_cpI, ef_cpI2, ef_cpL, ef_cpL1, ef_crS, ef_crL]
  case refine_14 =>
    intro j j1 j2 k hk
    have hh : j = 18 ∨ j = 19 ∨ j = 20 ∨ j = 21 ∨ j = 22 ∨ j = 23 := by omega
    rcases hh with rfl | rfl | rfl | rfl | rfl | rfl
    all_goals simp (disch := first | decide | omega) only [et_X3_copyFrom, et_X10_copyFrom, et_X4_copyFrom, et_X7_copyFrom, et_X0_copyFrom, et_X9_copyFrom, ef_pI', ef_pIk, ef_pIs, eq_pL1, eq_pI2, ef_pL', ef_pLk, ef_pLs, ef_cpI, ef_cpI2, ef_cpL, ef_cpL1, ef_crS, ef_crL]
  all_goals (intros; simp (disch := first | decide | omega) only [et_X3_copyFrom, et_X10_copyFrom, et_X4_copyFrom, et_X7_copyFrom, et_X0_copyFrom, et_X9_copyFrom, ef_pI', ef_pIk, ef_pIs, eq_pL1, eq_pI2, ef_pL', ef_pLk, ef_pLs, ef_cpI, ef_cpI2, ef_cpL, ef_cpL1, ef_crS, ef_crL])
