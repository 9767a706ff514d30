theorem ec_row {r q : Nat} (hd : r + 2 < q ∨ q + 2 < r) (C : em_M) : (et_X6_copyFrom r q C).1 r 0 = C.1 q 0 ∧ (∀ k, k < 10 → (et_X6_copyFrom r q C).1 (r + 1) k = C.1 (q + 1) k) ∧ (∀ k, k < 10 → (et_X6_copyFrom r q C).1 (r + 2) k = C.1 (q + 2) k) ∧ (∀ o, o < r ∨ r + 2 < o → (et_X6_copyFrom r q C).1 o = C.1 o) ∧ (et_X6_copyFrom r q C).2 = C.2 ∧ (et_X6_copyFrom r q C).1 r 3 = C.1 r 3 := by
  refine ⟨?_, ?_, ?_, ?_, ?_, ?_⟩
  all_goals (intros; simp (disch := omega) only [et_X6_copyFrom, ef_pI', ef_pIk, ef_pIs, eq_pI2, ef_cpI, ef_cpI2, ef_crS])
