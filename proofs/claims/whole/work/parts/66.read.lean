theorem ep_tb42 (M : em_M) : et_X5_kindBy M (nI 42) = nI 0 ∧ et_X12_partsOf M (nI 42) = nI 2 ∧ et_X12_hasName M (nI 42) = 0 := by
  have a : et_X5_kindBy M (nI 42) = (0 : Int32) := by rw [et_X5_kindBy, if_neg (show ¬ nI 42 = (33 : Int32) by decide), if_neg (show ¬ nI 42 = (37 : Int32) by decide), if_pos (show nI 42 = (42 : Int32) from rfl)]
  have b : et_X12_partsOf M (nI 42) = (2 : Int32) := by rw [et_X12_partsOf, if_neg (show ¬ nI 42 = (33 : Int32) by decide), if_neg (show ¬ nI 42 = (37 : Int32) by decide), if_pos (show nI 42 = (42 : Int32) from rfl)]
  have d : et_X12_hasName M (nI 42) = (0 : Int32) := by rw [et_X12_hasName, if_neg (show ¬ nI 42 = (61 : Int32) by decide), if_neg (show ¬ nI 42 = (64 : Int32) by decide), if_neg (show ¬ nI 42 = (94 : Int32) by decide), if_neg (show ¬ nI 42 = (58 : Int32) by decide)]
  exact ⟨a, b, d⟩
theorem ep_tb43 (M : em_M) : et_X5_kindBy M (nI 43) = nI 0 ∧ et_X12_partsOf M (nI 43) = nI 2 ∧ et_X12_hasName M (nI 43) = 0 := by
  have a : et_X5_kindBy M (nI 43) = (0 : Int32) := by rw [et_X5_kindBy, if_neg (show ¬ nI 43 = (33 : Int32) by decide), if_neg (show ¬ nI 43 = (37 : Int32) by decide), if_neg (show ¬ nI 43 = (42 : Int32) by decide), if_pos (show nI 43 = (43 : Int32) from rfl)]
  have b : et_X12_partsOf M (nI 43) = (2 : Int32) := by rw [et_X12_partsOf, if_neg (show ¬ nI 43 = (33 : Int32) by decide), if_neg (show ¬ nI 43 = (37 : Int32) by decide), if_neg (show ¬ nI 43 = (42 : Int32) by decide), if_pos (show nI 43 = (43 : Int32) from rfl)]
  have d : et_X12_hasName M (nI 43) = (0 : Int32) := by rw [et_X12_hasName, if_neg (show ¬ nI 43 = (61 : Int32) by decide), if_neg (show ¬ nI 43 = (64 : Int32) by decide), if_neg (show ¬ nI 43 = (94 : Int32) by decide), if_neg (show ¬ nI 43 = (58 : Int32) by decide)]
  exact ⟨a, b, d⟩
theorem ep_tb45 (M : em_M) : et_X5_kindBy M (nI 45) = nI 0 ∧ et_X12_partsOf M (nI 45) = nI 2 ∧ et_X12_hasName M (nI 45) = 0 := by
  have a : et_X5_kindBy M (nI 45) = (0 : Int32) := by rw [et_X5_kindBy, if_neg (show ¬ nI 45 = (33 : Int32) by decide), if_neg (show ¬ nI 45 = (37 : Int32) by decide), if_neg (show ¬ nI 45 = (42 : Int32) by decide), if_neg (show ¬ nI 45 = (43 : Int32) by decide), if_pos (show nI 45 = (45 : Int32) from rfl)]
  have b : et_X12_partsOf M (nI 45) = (2 : Int32) := by rw [et_X12_partsOf, if_neg (show ¬ nI 45 = (33 : Int32) by decide), if_neg (show ¬ nI 45 = (37 : Int32) by decide), if_neg (show ¬ nI 45 = (42 : Int32) by decide), if_neg (show ¬ nI 45 = (43 : Int32) by decide), if_pos (show nI 45 = (45 : Int32) from rfl)]
  have d : et_X12_hasName M (nI 45) = (0 : Int32) := by rw [et_X12_hasName, if_neg (show ¬ nI 45 = (61 : Int32) by decide), if_neg (show ¬ nI 45 = (64 : Int32) by decide), if_neg (show ¬ nI 45 = (94 : Int32) by decide), if_neg (show ¬ nI 45 = (58 : Int32) by decide)]
  exact ⟨a, b, d⟩
theorem ep_tb60 (M : em_M) : et_X5_kindBy M (nI 60) = nI 0 ∧ et_X12_partsOf M (nI 60) = nI 2 ∧ et_X12_hasName M (nI 60) = 0 := by
  have a : et_X5_kindBy M (nI 60) = (0 : Int32) := by rw [et_X5_kindBy, if_neg (show ¬ nI 60 = (33 : Int32) by decide), if_neg (show ¬ nI 60 = (37 : Int32) by decide), if_neg (show ¬ nI 60 = (42 : Int32) by decide), if_neg (show ¬ nI 60 = (43 : Int32) by decide), if_neg (show ¬ nI 60 = (45 : Int32) by decide), if_neg (show ¬ nI 60 = (58 : Int32) by decide), if_pos (show nI 60 = (60 : Int32) from rfl)]
  have b : et_X12_partsOf M (nI 60) = (2 : Int32) := by rw [et_X12_partsOf, if_neg (show ¬ nI 60 = (33 : Int32) by decide), if_neg (show ¬ nI 60 = (37 : Int32) by decide), if_neg (show ¬ nI 60 = (42 : Int32) by decide), if_neg (show ¬ nI 60 = (43 : Int32) by decide), if_neg (show ¬ nI 60 = (45 : Int32) by decide), if_neg (show ¬ nI 60 = (58 : Int32) by decide), if_pos (show nI 60 = (60 : Int32) from rfl)]
  have d : et_X12_hasName M (nI 60) = (0 : Int32) := by rw [et_X12_hasName, if_neg (show ¬ nI 60 = (61 : Int32) by decide), if_neg (show ¬ nI 60 = (64 : Int32) by decide), if_neg (show ¬ nI 60 = (94 : Int32) by decide), if_neg (show ¬ nI 60 = (58 : Int32) by decide)]
  exact ⟨a, b, d⟩
theorem ep_tb63 (M : em_M) : et_X5_kindBy M (nI 63) = nI 1 ∧ et_X12_partsOf M (nI 63) = nI 3 ∧ et_X12_hasName M (nI 63) = 0 := by
  have a : et_X5_kindBy M (nI 63) = (1 : Int32) := by rw [et_X5_kindBy, if_neg (show ¬ nI 63 = (33 : Int32) by decide), if_neg (show ¬ nI 63 = (37 : Int32) by decide), if_neg (show ¬ nI 63 = (42 : Int32) by decide), if_neg (show ¬ nI 63 = (43 : Int32) by decide), if_neg (show ¬ nI 63 = (45 : Int32) by decide), if_neg (show ¬ nI 63 = (58 : Int32) by decide), if_neg (show ¬ nI 63 = (60 : Int32) by decide), if_neg (show ¬ nI 63 = (61 : Int32) by decide), if_pos (show nI 63 = (63 : Int32) from rfl)]
  have b : et_X12_partsOf M (nI 63) = (3 : Int32) := by rw [et_X12_partsOf, if_neg (show ¬ nI 63 = (33 : Int32) by decide), if_neg (show ¬ nI 63 = (37 : Int32) by decide), if_neg (show ¬ nI 63 = (42 : Int32) by decide), if_neg (show ¬ nI 63 = (43 : Int32) by decide), if_neg (show ¬ nI 63 = (45 : Int32) by decide), if_neg (show ¬ nI 63 = (58 : Int32) by decide), if_neg (show ¬ nI 63 = (60 : Int32) by decide), if_neg (show ¬ nI 63 = (61 : Int32) by decide), if_pos (show nI 63 = (63 : Int32) from rfl)]
  have d : et_X12_hasName M (nI 63) = (0 : Int32) := by rw [et_X12_hasName, if_neg (show ¬ nI 63 = (61 : Int32) by decide), if_neg (show ¬ nI 63 = (64 : Int32) by decide), if_neg (show ¬ nI 63 = (94 : Int32) by decide), if_neg (show ¬ nI 63 = (58 : Int32) by decide)]
  exact ⟨a, b, d⟩
theorem ep_tb33 (M : em_M) : et_X5_kindBy M (nI 33) = nI 6 ∧ et_X12_partsOf M (nI 33) = nI 1 ∧ et_X12_hasName M (nI 33) = 0 := by
  have a : et_X5_kindBy M (nI 33) = (6 : Int32) := by rw [et_X5_kindBy, if_pos (show nI 33 = (33 : Int32) from rfl)]
  have b : et_X12_partsOf M (nI 33) = (1 : Int32) := by rw [et_X12_partsOf, if_pos (show nI 33 = (33 : Int32) from rfl)]
  have d : et_X12_hasName M (nI 33) = (0 : Int32) := by rw [et_X12_hasName, if_neg (show ¬ nI 33 = (61 : Int32) by decide), if_neg (show ¬ nI 33 = (64 : Int32) by decide), if_neg (show ¬ nI 33 = (94 : Int32) by decide), if_neg (show ¬ nI 33 = (58 : Int32) by decide)]
  exact ⟨a, b, d⟩
theorem ep_tb37 (M : em_M) : et_X5_kindBy M (nI 37) = nI 8 ∧ et_X12_partsOf M (nI 37) = nI 3 ∧ et_X12_hasName M (nI 37) = 0 := by
  have a : et_X5_kindBy M (nI 37) = (8 : Int32) := by rw [et_X5_kindBy, if_neg (show ¬ nI 37 = (33 : Int32) by decide), if_pos (show nI 37 = (37 : Int32) from rfl)]
  have b : et_X12_partsOf M (nI 37) = (3 : Int32) := by rw [et_X12_partsOf, if_neg (show ¬ nI 37 = (33 : Int32) by decide), if_pos (show nI 37 = (37 : Int32) from rfl)]
  have d : et_X12_hasName M (nI 37) = (0 : Int32) := by rw [et_X12_hasName, if_neg (show ¬ nI 37 = (61 : Int32) by decide), if_neg (show ¬ nI 37 = (64 : Int32) by decide), if_neg (show ¬ nI 37 = (94 : Int32) by decide), if_neg (show ¬ nI 37 = (58 : Int32) by decide)]
  exact ⟨a, b, d⟩
theorem ep_tb70 (M : em_M) : et_X5_kindBy M (nI 70) = nI 4 ∧ et_X12_partsOf M (nI 70) = nI 1 ∧ et_X12_hasName M (nI 70) = 0 := by
  have a : et_X5_kindBy M (nI 70) = (4 : Int32) := by rw [et_X5_kindBy, if_neg (show ¬ nI 70 = (33 : Int32) by decide), if_neg (show ¬ nI 70 = (37 : Int32) by decide), if_neg (show ¬ nI 70 = (42 : Int32) by decide), if_neg (show ¬ nI 70 = (43 : Int32) by decide), if_neg (show ¬ nI 70 = (45 : Int32) by decide), if_neg (show ¬ nI 70 = (58 : Int32) by decide), if_neg (show ¬ nI 70 = (60 : Int32) by decide), if_neg (show ¬ nI 70 = (61 : Int32) by decide), if_neg (show ¬ nI 70 = (63 : Int32) by decide), if_neg (show ¬ nI 70 = (64 : Int32) by decide), if_pos (show nI 70 = (70 : Int32) from rfl)]
  have b : et_X12_partsOf M (nI 70) = (1 : Int32) := by rw [et_X12_partsOf, if_neg (show ¬ nI 70 = (33 : Int32) by decide), if_neg (show ¬ nI 70 = (37 : Int32) by decide), if_neg (show ¬ nI 70 = (42 : Int32) by decide), if_neg (show ¬ nI 70 = (43 : Int32) by decide), if_neg (show ¬ nI 70 = (45 : Int32) by decide), if_neg (show ¬ nI 70 = (58 : Int32) by decide), if_neg (show ¬ nI 70 = (60 : Int32) by decide), if_neg (show ¬ nI 70 = (61 : Int32) by decide), if_neg (show ¬ nI 70 = (63 : Int32) by decide), if_neg (show ¬ nI 70 = (64 : Int32) by decide), if_pos (show nI 70 = (70 : Int32) from rfl)]
  have d : et_X12_hasName M (nI 70) = (0 : Int32) := by rw [et_X12_hasName, if_neg (show ¬ nI 70 = (61 : Int32) by decide), if_neg (show ¬ nI 70 = (64 : Int32) by decide), if_neg (show ¬ nI 70 = (94 : Int32) by decide), if_neg (show ¬ nI 70 = (58 : Int32) by decide)]
  exact ⟨a, b, d⟩
theorem ep_tb71 (M : em_M) : et_X5_kindBy M (nI 71) = nI 4 ∧ et_X12_partsOf M (nI 71) = nI 1 ∧ et_X12_hasName M (nI 71) = 0 := by
  have a : et_X5_kindBy M (nI 71) = (4 : Int32) := by rw [et_X5_kindBy, if_neg (show ¬ nI 71 = (33 : Int32) by decide), if_neg (show ¬ nI 71 = (37 : Int32) by decide), if_neg (show ¬ nI 71 = (42 : Int32) by decide), if_neg (show ¬ nI 71 = (43 : Int32) by decide), if_neg (show ¬ nI 71 = (45 : Int32) by decide), if_neg (show ¬ nI 71 = (58 : Int32) by decide), if_neg (show ¬ nI 71 = (60 : Int32) by decide), if_neg (show ¬ nI 71 = (61 : Int32) by decide), if_neg (show ¬ nI 71 = (63 : Int32) by decide), if_neg (show ¬ nI 71 = (64 : Int32) by decide), if_neg (show ¬ nI 71 = (70 : Int32) by decide), if_pos (show nI 71 = (71 : Int32) from rfl)]
  have b : et_X12_partsOf M (nI 71) = (1 : Int32) := by rw [et_X12_partsOf, if_neg (show ¬ nI 71 = (33 : Int32) by decide), if_neg (show ¬ nI 71 = (37 : Int32) by decide), if_neg (show ¬ nI 71 = (42 : Int32) by decide), if_neg (show ¬ nI 71 = (43 : Int32) by decide), if_neg (show ¬ nI 71 = (45 : Int32) by decide), if_neg (show ¬ nI 71 = (58 : Int32) by decide), if_neg (show ¬ nI 71 = (60 : Int32) by decide), if_neg (show ¬ nI 71 = (61 : Int32) by decide), if_neg (show ¬ nI 71 = (63 : Int32) by decide), if_neg (show ¬ nI 71 = (64 : Int32) by decide), if_neg (show ¬ nI 71 = (70 : Int32) by decide), if_pos (show nI 71 = (71 : Int32) from rfl)]
  have d : et_X12_hasName M (nI 71) = (0 : Int32) := by rw [et_X12_hasName, if_neg (show ¬ nI 71 = (61 : Int32) by decide), if_neg (show ¬ nI 71 = (64 : Int32) by decide), if_neg (show ¬ nI 71 = (94 : Int32) by decide), if_neg (show ¬ nI 71 = (58 : Int32) by decide)]
  exact ⟨a, b, d⟩
theorem ep_tb72 (M : em_M) : et_X5_kindBy M (nI 72) = nI 4 ∧ et_X12_partsOf M (nI 72) = nI 1 ∧ et_X12_hasName M (nI 72) = 0 := by
  have a : et_X5_kindBy M (nI 72) = (4 : Int32) := by rw [et_X5_kindBy, if_neg (show ¬ nI 72 = (33 : Int32) by decide), if_neg (show ¬ nI 72 = (37 : Int32) by decide), if_neg (show ¬ nI 72 = (42 : Int32) by decide), if_neg (show ¬ nI 72 = (43 : Int32) by decide), if_neg (show ¬ nI 72 = (45 : Int32) by decide), if_neg (show ¬ nI 72 = (58 : Int32) by decide), if_neg (show ¬ nI 72 = (60 : Int32) by decide), if_neg (show ¬ nI 72 = (61 : Int32) by decide), if_neg (show ¬ nI 72 = (63 : Int32) by decide), if_neg (show ¬ nI 72 = (64 : Int32) by decide), if_neg (show ¬ nI 72 = (70 : Int32) by decide), if_neg (show ¬ nI 72 = (71 : Int32) by decide), if_pos (show nI 72 = (72 : Int32) from rfl)]
  have b : et_X12_partsOf M (nI 72) = (1 : Int32) := by rw [et_X12_partsOf, if_neg (show ¬ nI 72 = (33 : Int32) by decide), if_neg (show ¬ nI 72 = (37 : Int32) by decide), if_neg (show ¬ nI 72 = (42 : Int32) by decide), if_neg (show ¬ nI 72 = (43 : Int32) by decide), if_neg (show ¬ nI 72 = (45 : Int32) by decide), if_neg (show ¬ nI 72 = (58 : Int32) by decide), if_neg (show ¬ nI 72 = (60 : Int32) by decide), if_neg (show ¬ nI 72 = (61 : Int32) by decide), if_neg (show ¬ nI 72 = (63 : Int32) by decide), if_neg (show ¬ nI 72 = (64 : Int32) by decide), if_neg (show ¬ nI 72 = (70 : Int32) by decide), if_neg (show ¬ nI 72 = (71 : Int32) by decide), if_pos (show nI 72 = (72 : Int32) from rfl)]
  have d : et_X12_hasName M (nI 72) = (0 : Int32) := by rw [et_X12_hasName, if_neg (show ¬ nI 72 = (61 : Int32) by decide), if_neg (show ¬ nI 72 = (64 : Int32) by decide), if_neg (show ¬ nI 72 = (94 : Int32) by decide), if_neg (show ¬ nI 72 = (58 : Int32) by decide)]
  exact ⟨a, b, d⟩
theorem ep_tb61 (M : em_M) : et_X5_kindBy M (nI 61) = nI 2 ∧ et_X12_partsOf M (nI 61) = nI 2 ∧ et_X12_hasName M (nI 61) = 1 := by
  have a : et_X5_kindBy M (nI 61) = (2 : Int32) := by rw [et_X5_kindBy, if_neg (show ¬ nI 61 = (33 : Int32) by decide), if_neg (show ¬ nI 61 = (37 : Int32) by decide), if_neg (show ¬ nI 61 = (42 : Int32) by decide), if_neg (show ¬ nI 61 = (43 : Int32) by decide), if_neg (show ¬ nI 61 = (45 : Int32) by decide), if_neg (show ¬ nI 61 = (58 : Int32) by decide), if_neg (show ¬ nI 61 = (60 : Int32) by decide), if_pos (show nI 61 = (61 : Int32) from rfl)]
  have b : et_X12_partsOf M (nI 61) = (2 : Int32) := by rw [et_X12_partsOf, if_neg (show ¬ nI 61 = (33 : Int32) by decide), if_neg (show ¬ nI 61 = (37 : Int32) by decide), if_neg (show ¬ nI 61 = (42 : Int32) by decide), if_neg (show ¬ nI 61 = (43 : Int32) by decide), if_neg (show ¬ nI 61 = (45 : Int32) by decide), if_neg (show ¬ nI 61 = (58 : Int32) by decide), if_neg (show ¬ nI 61 = (60 : Int32) by decide), if_pos (show nI 61 = (61 : Int32) from rfl)]
  have d : et_X12_hasName M (nI 61) = (1 : Int32) := by rw [et_X12_hasName, if_pos (show nI 61 = (61 : Int32) from rfl)]
  exact ⟨a, b, d⟩
theorem ep_tb94 (M : em_M) : et_X5_kindBy M (nI 94) = nI 5 ∧ et_X12_partsOf M (nI 94) = nI 1 ∧ et_X12_hasName M (nI 94) = 1 := by
  have a : et_X5_kindBy M (nI 94) = (5 : Int32) := by rw [et_X5_kindBy, if_neg (show ¬ nI 94 = (33 : Int32) by decide), if_neg (show ¬ nI 94 = (37 : Int32) by decide), if_neg (show ¬ nI 94 = (42 : Int32) by decide), if_neg (show ¬ nI 94 = (43 : Int32) by decide), if_neg (show ¬ nI 94 = (45 : Int32) by decide), if_neg (show ¬ nI 94 = (58 : Int32) by decide), if_neg (show ¬ nI 94 = (60 : Int32) by decide), if_neg (show ¬ nI 94 = (61 : Int32) by decide), if_neg (show ¬ nI 94 = (63 : Int32) by decide), if_neg (show ¬ nI 94 = (64 : Int32) by decide), if_neg (show ¬ nI 94 = (70 : Int32) by decide), if_neg (show ¬ nI 94 = (71 : Int32) by decide), if_neg (show ¬ nI 94 = (72 : Int32) by decide), if_neg (show ¬ nI 94 = (91 : Int32) by decide), if_pos (show nI 94 = (94 : Int32) from rfl)]
  have b : et_X12_partsOf M (nI 94) = (1 : Int32) := by rw [et_X12_partsOf, if_neg (show ¬ nI 94 = (33 : Int32) by decide), if_neg (show ¬ nI 94 = (37 : Int32) by decide), if_neg (show ¬ nI 94 = (42 : Int32) by decide), if_neg (show ¬ nI 94 = (43 : Int32) by decide), if_neg (show ¬ nI 94 = (45 : Int32) by decide), if_neg (show ¬ nI 94 = (58 : Int32) by decide), if_neg (show ¬ nI 94 = (60 : Int32) by decide), if_neg (show ¬ nI 94 = (61 : Int32) by decide), if_neg (show ¬ nI 94 = (63 : Int32) by decide), if_neg (show ¬ nI 94 = (64 : Int32) by decide), if_neg (show ¬ nI 94 = (70 : Int32) by decide), if_neg (show ¬ nI 94 = (71 : Int32) by decide), if_neg (show ¬ nI 94 = (72 : Int32) by decide), if_pos (show nI 94 = (94 : Int32) from rfl)]
  have d : et_X12_hasName M (nI 94) = (1 : Int32) := by rw [et_X12_hasName, if_neg (show ¬ nI 94 = (61 : Int32) by decide), if_neg (show ¬ nI 94 = (64 : Int32) by decide), if_pos (show nI 94 = (94 : Int32) from rfl)]
  exact ⟨a, b, d⟩
theorem ep_tb58 (M : em_M) : et_X5_kindBy M (nI 58) = nI 7 ∧ et_X12_partsOf M (nI 58) = nI 1 ∧ et_X12_hasName M (nI 58) = 1 := by
  have a : et_X5_kindBy M (nI 58) = (7 : Int32) := by rw [et_X5_kindBy, if_neg (show ¬ nI 58 = (33 : Int32) by decide), if_neg (show ¬ nI 58 = (37 : Int32) by decide), if_neg (show ¬ nI 58 = (42 : Int32) by decide), if_neg (show ¬ nI 58 = (43 : Int32) by decide), if_neg (show ¬ nI 58 = (45 : Int32) by decide), if_pos (show nI 58 = (58 : Int32) from rfl)]
  have b : et_X12_partsOf M (nI 58) = (1 : Int32) := by rw [et_X12_partsOf, if_neg (show ¬ nI 58 = (33 : Int32) by decide), if_neg (show ¬ nI 58 = (37 : Int32) by decide), if_neg (show ¬ nI 58 = (42 : Int32) by decide), if_neg (show ¬ nI 58 = (43 : Int32) by decide), if_neg (show ¬ nI 58 = (45 : Int32) by decide), if_pos (show nI 58 = (58 : Int32) from rfl)]
  have d : et_X12_hasName M (nI 58) = (1 : Int32) := by rw [et_X12_hasName, if_neg (show ¬ nI 58 = (61 : Int32) by decide), if_neg (show ¬ nI 58 = (64 : Int32) by decide), if_neg (show ¬ nI 58 = (94 : Int32) by decide), if_pos (show nI 58 = (58 : Int32) from rfl)]
  exact ⟨a, b, d⟩
theorem ep_tb64 (M : em_M) : et_X5_kindBy M (nI 64) = nI 13 ∧ et_X12_partsOf M (nI 64) = nI 1 ∧ et_X12_hasName M (nI 64) = 1 := by
  have a : et_X5_kindBy M (nI 64) = (13 : Int32) := by rw [et_X5_kindBy, if_neg (show ¬ nI 64 = (33 : Int32) by decide), if_neg (show ¬ nI 64 = (37 : Int32) by decide), if_neg (show ¬ nI 64 = (42 : Int32) by decide), if_neg (show ¬ nI 64 = (43 : Int32) by decide), if_neg (show ¬ nI 64 = (45 : Int32) by decide), if_neg (show ¬ nI 64 = (58 : Int32) by decide), if_neg (show ¬ nI 64 = (60 : Int32) by decide), if_neg (show ¬ nI 64 = (61 : Int32) by decide), if_neg (show ¬ nI 64 = (63 : Int32) by decide), if_pos (show nI 64 = (64 : Int32) from rfl)]
  have b : et_X12_partsOf M (nI 64) = (1 : Int32) := by rw [et_X12_partsOf, if_neg (show ¬ nI 64 = (33 : Int32) by decide), if_neg (show ¬ nI 64 = (37 : Int32) by decide), if_neg (show ¬ nI 64 = (42 : Int32) by decide), if_neg (show ¬ nI 64 = (43 : Int32) by decide), if_neg (show ¬ nI 64 = (45 : Int32) by decide), if_neg (show ¬ nI 64 = (58 : Int32) by decide), if_neg (show ¬ nI 64 = (60 : Int32) by decide), if_neg (show ¬ nI 64 = (61 : Int32) by decide), if_neg (show ¬ nI 64 = (63 : Int32) by decide), if_pos (show nI 64 = (64 : Int32) from rfl)]
  have d : et_X12_hasName M (nI 64) = (1 : Int32) := by rw [et_X12_hasName, if_neg (show ¬ nI 64 = (61 : Int32) by decide), if_pos (show nI 64 = (64 : Int32) from rfl)]
  exact ⟨a, b, d⟩
theorem ep_rdL {d w : Nat} {EX EY : em_M → Int32 → Int32 × em_M} {SY : em_M → Int32 → Prop} (w6 : w < 7) (EE : ep_EE d (w + 1) EX EY SY) {nl u0 n p u r : Nat} {C G G4 : em_M} (h4 : ep_B4 nl u0 n p u r (nI 91) C G G4) (hp : p < n) (a : et_X5_sign C = nI 91) (z1 : ep_Pz nl u0 n (p + 1) u (r + 1) (em_pI C 9 1 (nI (p + 1))) (em_pI G4 118 12 (nI (p + 1)))) (f1 : ep_Pc u C (em_pI C 9 1 (nI (p + 1)))) (g1 : ep_Pg (101 * nl + r) G (em_pI G4 118 12 (nI (p + 1)))) (sg : (em_pI G4 118 12 (nI (p + 1))).1 122 (101 * nl + r) = nI 91) (k1 : (em_pI G4 118 12 (nI (p + 1))).1 124 (101 * nl + r) = nI 0) {X : Prop} (hS : ep_xs EY SY (nI w) G4 (nI 91) (nI (101 * nl + r)) → X) (u8 : u < 800) : X ∧ ep_Po nl u0 n u (101 * nl + r) (d + 1) C G (et_X5_exprB EX C (nI w)) (ep_xt EY (nI w) G4 (nI 91) (nI (101 * nl + r))) := by
  have ub := h4.z.ub
  have cl := ep_cpL (EX := EX) a rfl rfl w6 rfl h4.z.p1
  have ad := ec_add (C := em_pI C 9 1 (nI (p + 1))) (u := u) 3 0 z1.us u8
  obtain ⟨d1, d2, d3⟩ := ep_ad_rd (em_pI C 9 1 (nI (p + 1))) u 3 0
  have q : ep_Pm d u (101 * nl + r) 0 (fun _ => u) (fun _ => 101 * nl + r + 1) (fun _ => 0) (fun _ => 0) (ep_ad (em_pI C 9 1 (nI (p + 1))) u 3 0) (em_pI G4 118 12 (nI (p + 1))) :=
    ep_Pm.mk rfl rfl sg k1 (fun i hi => by rw [d1, if_pos (by omega)]; rfl) (fun i hi => absurd hi (by omega)) ⟨d3 0 (by omega), d3 1 (by omega), d3 2 (by omega)⟩
  have L := ep_lev1 EE (nl := nl) (u0 := u0) (n := n) (U := u) (m := 101 * nl + r) (C0 := C) (G0 := G) _ _ _ _ _ _ (p + 1) (r + 1) q (ep_lay z1 (by omega) 3 0) rfl (ep_Pc_ad f1 (Nat.le_refl _) _ _) g1
  have eL : et_X12_list EY G4 (nI (101 * nl + r)) (nI w) = et_X12_list_10 EY (nI w) 6 (em_pI G4 118 12 (nI (p + 1))) (nI (101 * nl + r)) := by
    rw [et_X12_list, h4.pl, nI_1]
  have sL : es_X12_list EY SY G4 (nI (101 * nl + r)) (nI w) := by
    rw [es_X12_list, h4.pl, nI_1]
    rintro _ rfl
    exact L.1
  obtain ⟨i1, i2⟩ := ep_mls (EY := EY) (SY := SY) w6 sL
  have eC : et_X5_list EX (em_pI C 9 1 (nI (p + 1))) (nI (w + 1)) = et_X5_list_15_1 EX (nI (w + 1)) (ep_ad (em_pI C 9 1 (nI (p + 1))) u 3 0) (nI u) (nI u) := by
    rw [et_X5_list, ad]
  rw [i2, cl, eL, eC]
  exact ⟨hS i1, L.2⟩
theorem ep_rd0 {d w c : Nat} {EX EY : em_M → Int32 → Int32 × em_M} {SY : em_M → Int32 → Prop} (w6 : w < 7) (EE : ep_EE d (w + 1) EX EY SY) {nl u0 n p u r : Nat} {C G G4 : em_M} (h4 : ep_B4 nl u0 n p u r (nI c) C G G4) (hp : p < n) (a : et_X5_sign C = nI c) (z1 : ep_Pz nl u0 n (p + 1) u (r + 1) (em_pI C 9 1 (nI (p + 1))) (em_pI G4 118 12 (nI (p + 1)))) (f1 : ep_Pc u C (em_pI C 9 1 (nI (p + 1)))) (g1 : ep_Pg (101 * nl + r) G (em_pI G4 118 12 (nI (p + 1)))) (sg : (em_pI G4 118 12 (nI (p + 1))).1 122 (101 * nl + r) = nI c) (k1 : (em_pI G4 118 12 (nI (p + 1))).1 124 (101 * nl + r) = nI 0) {X : Prop} (hS : ep_xs EY SY (nI w) G4 (nI c) (nI (101 * nl + r)) → X) (u8 : u < 800) (d0 : ∀ M, et_X5_isDigit M (nI c) = 0) (l0 : ∀ M, et_X5_isLetter M (nI c) = 0) (n91 : ¬ nI c = (91 : Int32)) (kb : et_X5_kindBy C (nI c) = nI 0) (po : ∀ M, et_X12_partsOf M (nI c) = nI 2) (hn : ∀ M, et_X12_hasName M (nI c) = 0) (K : ep_K 0 c 2) : X ∧ ep_Po nl u0 n u (101 * nl + r) (d + 1) C G (et_X5_exprB EX C (nI w)) (ep_xt EY (nI w) G4 (nI c) (nI (101 * nl + r))) := by
  have ub := h4.z.ub
  have B := ep_body EE K z1 (by omega) (nI c) sg k1 (fun q => rfl) (fun q => absurd q (by omega)) (fun q => absurd q (by unfold ep_Kn; omega)) f1 g1
  obtain ⟨i1, i2⟩ := ep_mpl (EY := EY) (SY := SY) (m := 101 * nl + r) w6 (show 1 ≤ 2 ∧ 2 ≤ 3 by omega) d0 l0 n91 po hn h4.pl B.1
  rw [i2, ep_cp0 a (d0 C) (l0 C) w6 kb h4.z.p1 h4.z.us u8]
  exact ⟨hS i1, B.2⟩
theorem ep_rd1 {d w c : Nat} {EX EY : em_M → Int32 → Int32 × em_M} {SY : em_M → Int32 → Prop} (w6 : w < 7) (EE : ep_EE d (w + 1) EX EY SY) {nl u0 n p u r : Nat} {C G G4 : em_M} (h4 : ep_B4 nl u0 n p u r (nI c) C G G4) (hp : p < n) (a : et_X5_sign C = nI c) (z1 : ep_Pz nl u0 n (p + 1) u (r + 1) (em_pI C 9 1 (nI (p + 1))) (em_pI G4 118 12 (nI (p + 1)))) (f1 : ep_Pc u C (em_pI C 9 1 (nI (p + 1)))) (g1 : ep_Pg (101 * nl + r) G (em_pI G4 118 12 (nI (p + 1)))) (sg : (em_pI G4 118 12 (nI (p + 1))).1 122 (101 * nl + r) = nI c) (k1 : (em_pI G4 118 12 (nI (p + 1))).1 124 (101 * nl + r) = nI 0) {X : Prop} (hS : ep_xs EY SY (nI w) G4 (nI c) (nI (101 * nl + r)) → X) (u8 : u < 800) (d0 : ∀ M, et_X5_isDigit M (nI c) = 0) (l0 : ∀ M, et_X5_isLetter M (nI c) = 0) (n91 : ¬ nI c = (91 : Int32)) (kb : et_X5_kindBy C (nI c) = nI 1) (po : ∀ M, et_X12_partsOf M (nI c) = nI 3) (hn : ∀ M, et_X12_hasName M (nI c) = 0) (K : ep_K 1 c 3) : X ∧ ep_Po nl u0 n u (101 * nl + r) (d + 1) C G (et_X5_exprB EX C (nI w)) (ep_xt EY (nI w) G4 (nI c) (nI (101 * nl + r))) := by
  have ub := h4.z.ub
  have B := ep_body EE K z1 (by omega) (nI c) sg k1 (fun q => absurd q (by omega)) (fun q => absurd q (by omega)) (fun q => absurd q (by unfold ep_Kn; omega)) f1 g1
  obtain ⟨i1, i2⟩ := ep_mpl (EY := EY) (SY := SY) (m := 101 * nl + r) w6 (show 1 ≤ 3 ∧ 3 ≤ 3 by omega) d0 l0 n91 po hn h4.pl B.1
  rw [i2, ep_cp1 a (d0 C) (l0 C) w6 kb h4.z.p1 h4.z.us u8]
  exact ⟨hS i1, B.2⟩
theorem ep_rd6 {d w c : Nat} {EX EY : em_M → Int32 → Int32 × em_M} {SY : em_M → Int32 → Prop} (w6 : w < 7) (EE : ep_EE d (w + 1) EX EY SY) {nl u0 n p u r : Nat} {C G G4 : em_M} (h4 : ep_B4 nl u0 n p u r (nI c) C G G4) (hp : p < n) (a : et_X5_sign C = nI c) (z1 : ep_Pz nl u0 n (p + 1) u (r + 1) (em_pI C 9 1 (nI (p + 1))) (em_pI G4 118 12 (nI (p + 1)))) (f1 : ep_Pc u C (em_pI C 9 1 (nI (p + 1)))) (g1 : ep_Pg (101 * nl + r) G (em_pI G4 118 12 (nI (p + 1)))) (sg : (em_pI G4 118 12 (nI (p + 1))).1 122 (101 * nl + r) = nI c) (k1 : (em_pI G4 118 12 (nI (p + 1))).1 124 (101 * nl + r) = nI 0) {X : Prop} (hS : ep_xs EY SY (nI w) G4 (nI c) (nI (101 * nl + r)) → X) (u8 : u < 800) (d0 : ∀ M, et_X5_isDigit M (nI c) = 0) (l0 : ∀ M, et_X5_isLetter M (nI c) = 0) (n91 : ¬ nI c = (91 : Int32)) (kb : et_X5_kindBy C (nI c) = nI 6) (po : ∀ M, et_X12_partsOf M (nI c) = nI 1) (hn : ∀ M, et_X12_hasName M (nI c) = 0) (K : ep_K 6 c 1) : X ∧ ep_Po nl u0 n u (101 * nl + r) (d + 1) C G (et_X5_exprB EX C (nI w)) (ep_xt EY (nI w) G4 (nI c) (nI (101 * nl + r))) := by
  have ub := h4.z.ub
  have B := ep_body EE K z1 (by omega) (nI c) sg k1 (fun q => absurd q (by omega)) (fun q => absurd q (by omega)) (fun q => absurd q (by unfold ep_Kn; omega)) f1 g1
  obtain ⟨i1, i2⟩ := ep_mpl (EY := EY) (SY := SY) (m := 101 * nl + r) w6 (show 1 ≤ 1 ∧ 1 ≤ 3 by omega) d0 l0 n91 po hn h4.pl B.1
  rw [i2, ep_cp6 a (d0 C) (l0 C) w6 kb h4.z.p1 h4.z.us u8]
  exact ⟨hS i1, B.2⟩
theorem ep_rd8 {d w c : Nat} {EX EY : em_M → Int32 → Int32 × em_M} {SY : em_M → Int32 → Prop} (w6 : w < 7) (EE : ep_EE d (w + 1) EX EY SY) {nl u0 n p u r : Nat} {C G G4 : em_M} (h4 : ep_B4 nl u0 n p u r (nI c) C G G4) (hp : p < n) (a : et_X5_sign C = nI c) (z1 : ep_Pz nl u0 n (p + 1) u (r + 1) (em_pI C 9 1 (nI (p + 1))) (em_pI G4 118 12 (nI (p + 1)))) (f1 : ep_Pc u C (em_pI C 9 1 (nI (p + 1)))) (g1 : ep_Pg (101 * nl + r) G (em_pI G4 118 12 (nI (p + 1)))) (sg : (em_pI G4 118 12 (nI (p + 1))).1 122 (101 * nl + r) = nI c) (k1 : (em_pI G4 118 12 (nI (p + 1))).1 124 (101 * nl + r) = nI 0) {X : Prop} (hS : ep_xs EY SY (nI w) G4 (nI c) (nI (101 * nl + r)) → X) (u8 : u < 800) (d0 : ∀ M, et_X5_isDigit M (nI c) = 0) (l0 : ∀ M, et_X5_isLetter M (nI c) = 0) (n91 : ¬ nI c = (91 : Int32)) (kb : et_X5_kindBy C (nI c) = nI 8) (po : ∀ M, et_X12_partsOf M (nI c) = nI 3) (hn : ∀ M, et_X12_hasName M (nI c) = 0) (K : ep_K 8 c 3) : X ∧ ep_Po nl u0 n u (101 * nl + r) (d + 1) C G (et_X5_exprB EX C (nI w)) (ep_xt EY (nI w) G4 (nI c) (nI (101 * nl + r))) := by
  have ub := h4.z.ub
  have B := ep_body EE K z1 (by omega) (nI c) sg k1 (fun q => absurd q (by omega)) (fun q => absurd q (by omega)) (fun q => absurd q (by unfold ep_Kn; omega)) f1 g1
  obtain ⟨i1, i2⟩ := ep_mpl (EY := EY) (SY := SY) (m := 101 * nl + r) w6 (show 1 ≤ 3 ∧ 3 ≤ 3 by omega) d0 l0 n91 po hn h4.pl B.1
  rw [i2, ep_cp8 a (d0 C) (l0 C) w6 kb h4.z.p1 h4.z.us u8]
  exact ⟨hS i1, B.2⟩
theorem ep_rd4 {d w c : Nat} {EX EY : em_M → Int32 → Int32 × em_M} {SY : em_M → Int32 → Prop} (w6 : w < 7) (EE : ep_EE d (w + 1) EX EY SY) {nl u0 n p u r : Nat} {C G G4 : em_M} (h4 : ep_B4 nl u0 n p u r (nI c) C G G4) (hp : p < n) (a : et_X5_sign C = nI c) (z1 : ep_Pz nl u0 n (p + 1) u (r + 1) (em_pI C 9 1 (nI (p + 1))) (em_pI G4 118 12 (nI (p + 1)))) (f1 : ep_Pc u C (em_pI C 9 1 (nI (p + 1)))) (g1 : ep_Pg (101 * nl + r) G (em_pI G4 118 12 (nI (p + 1)))) (sg : (em_pI G4 118 12 (nI (p + 1))).1 122 (101 * nl + r) = nI c) (k1 : (em_pI G4 118 12 (nI (p + 1))).1 124 (101 * nl + r) = nI 0) {X : Prop} (hS : ep_xs EY SY (nI w) G4 (nI c) (nI (101 * nl + r)) → X) (u8 : u < 800) (d0 : ∀ M, et_X5_isDigit M (nI c) = 0) (l0 : ∀ M, et_X5_isLetter M (nI c) = 0) (n91 : ¬ nI c = (91 : Int32)) (kb : et_X5_kindBy C (nI c) = nI 4) (po : ∀ M, et_X12_partsOf M (nI c) = nI 1) (hn : ∀ M, et_X12_hasName M (nI c) = 0) (K : ep_K 4 c 1) (mk : nI c - 70 = nI (c - 70)) : X ∧ ep_Po nl u0 n u (101 * nl + r) (d + 1) C G (et_X5_exprB EX C (nI w)) (ep_xt EY (nI w) G4 (nI c) (nI (101 * nl + r))) := by
  have ub := h4.z.ub
  have B := ep_body EE K z1 (by omega) (nI c - 70) sg k1 (fun q => absurd q (by omega)) (fun q => mk) (fun q => absurd q (by unfold ep_Kn; omega)) f1 g1
  obtain ⟨i1, i2⟩ := ep_mpl (EY := EY) (SY := SY) (m := 101 * nl + r) w6 (show 1 ≤ 1 ∧ 1 ≤ 3 by omega) d0 l0 n91 po hn h4.pl B.1
  rw [i2, ep_cp4 a (d0 C) (l0 C) w6 kb h4.z.p1 h4.z.us u8]
  exact ⟨hS i1, B.2⟩
theorem ep_rd2 {d w c : Nat} {EX EY : em_M → Int32 → Int32 × em_M} {SY : em_M → Int32 → Prop} (w6 : w < 7) (EE : ep_EE d (w + 1) EX EY SY) {nl u0 n p u r : Nat} {C G G4 : em_M} (h4 : ep_B4 nl u0 n p u r (nI c) C G G4) (hp : p < n) (a : et_X5_sign C = nI c) (z1 : ep_Pz nl u0 n (p + 1) u (r + 1) (em_pI C 9 1 (nI (p + 1))) (em_pI G4 118 12 (nI (p + 1)))) (f1 : ep_Pc u C (em_pI C 9 1 (nI (p + 1)))) (g1 : ep_Pg (101 * nl + r) G (em_pI G4 118 12 (nI (p + 1)))) (sg : (em_pI G4 118 12 (nI (p + 1))).1 122 (101 * nl + r) = nI c) (k1 : (em_pI G4 118 12 (nI (p + 1))).1 124 (101 * nl + r) = nI 0) {X : Prop} (hS : ep_xs EY SY (nI w) G4 (nI c) (nI (101 * nl + r)) → X) (u8 : u < 800) (d0 : ∀ M, et_X5_isDigit M (nI c) = 0) (l0 : ∀ M, et_X5_isLetter M (nI c) = 0) (n91 : ¬ nI c = (91 : Int32)) (kb : et_X5_kindBy C (nI c) = nI 2) (po : ∀ M, et_X12_partsOf M (nI c) = nI 2) (hn : ∀ M, et_X12_hasName M (nI c) = 1) (K : ep_K 2 c 2) : X ∧ ep_Po nl u0 n u (101 * nl + r) (d + 1) C G (et_X5_exprB EX C (nI w)) (ep_xt EY (nI w) G4 (nI c) (nI (101 * nl + r))) := by
  have ub := h4.z.ub
  have m8 : 101 * nl + r < 808 := by have := h4.z.rb; have := h4.z.pn; have := h4.z.n1; have := h4.z.l7; omega
  obtain ⟨s1, s2⟩ := ep_sgn z1
  rcases s2 with ⟨-, b1, b2⟩ | ⟨hp1, x, x1, b1, b2⟩
  · have lb : ∀ M, et_X5_isLetter M (-1) = 0 := fun _ => rfl
    obtain ⟨i1, i2⟩ := ep_mnn (EY := EY) (SY := SY) (m := 101 * nl + r) w6 (show 1 ≤ 2 ∧ 2 ≤ 3 by omega) d0 l0 n91 po hn h4.pl s1 b2 lb
    rw [i2, (ep_cp2 a (d0 C) (l0 C) w6 kb h4.z.p1 h4.z.us u8 b1).1 (lb C)]
    exact ⟨hS i1, ep_Po_no z1 f1 g1⟩
  · rcases ep_let x1 C with l | ⟨l, y, y4, -, ys⟩
    · have lb : ∀ M, et_X5_isLetter M (nI x) = 0 := fun _ => l
      obtain ⟨i1, i2⟩ := ep_mnn (EY := EY) (SY := SY) (m := 101 * nl + r) w6 (show 1 ≤ 2 ∧ 2 ≤ 3 by omega) d0 l0 n91 po hn h4.pl s1 b2 lb
      rw [i2, (ep_cp2 a (d0 C) (l0 C) w6 kb h4.z.p1 h4.z.us u8 b1).1 (lb C)]
      exact ⟨hS i1, ep_Po_no z1 f1 g1⟩
    · have lb : ∀ M, et_X5_isLetter M (nI x) = 1 := fun _ => l
      have z2 : ep_Pz nl u0 n (p + 1 + 1) u (r + 1) (em_pI (em_pI C 9 1 (nI (p + 1))) 9 1 (nI (p + 1 + 1))) (em_pI (em_pI (em_pI G4 118 12 (nI (p + 1))) 123 (101 * nl + r) (nI y)) 118 12 (nI (p + 1 + 1))) := by
        have z2 := ep_adv z1 hp1
        refine ep_Pz_to z2 z2.pn z2.ub z2.rb rfl z2.p1 rfl z2.us ?_ ?_ ?_ ?_ ?_ ?_
        · rw [ef_pIk _ _ (by omega), ef_pI' _ _ _ _ (by omega), ef_pIk (em_pI G4 118 12 (nI (p + 1))) _ (by omega)]
        · exact ef_pIs _ _ rfl
        · rw [ef_pIk _ _ (by omega), ef_pI' _ _ _ _ (by omega)]; exact z1.rd
        · rw [ef_pIk _ _ (by omega), ef_pI' _ _ _ _ (by omega), ef_pIk (em_pI G4 118 12 (nI (p + 1))) _ (by omega)]
        · rw [ef_pIk _ _ (by omega), ef_pI' _ _ _ _ (by omega), ef_pIk (em_pI G4 118 12 (nI (p + 1))) _ (by omega)]
        · rw [ef_pI' _ _ _ _ (by omega), ef_pI' _ _ _ _ (by omega), ef_pI' (em_pI G4 118 12 (nI (p + 1))) _ _ _ (by omega)]
      have B := ep_body EE K z2 (by omega) (nI y) (by rw [ef_pI' _ _ _ _ (by omega), ef_pI' _ _ _ _ (by omega)]; exact sg) (by rw [ef_pI' _ _ _ _ (by omega), ef_pI' _ _ _ _ (by omega)]; exact k1) (fun q => absurd q (by omega)) (fun q => absurd q (by omega)) (fun _ => ⟨y, y4, rfl, by rw [ef_pI' _ _ _ _ (by omega)]; exact ef_pIs _ _ rfl⟩) (ep_Pc_w f1 9 1 _ (by omega)) (ep_Pg_w (ep_Pg_w g1 123 _ _ (by omega)) 118 12 _ (by omega))
      obtain ⟨i1, i2⟩ := ep_mnm (EY := EY) (SY := SY) m8 w6 (show 1 ≤ 2 ∧ 2 ≤ 3 by omega) d0 l0 n91 po hn h4.pl s1 b2 lb ys rfl B.1
      rw [i2, (ep_cp2 a (d0 C) (l0 C) w6 kb h4.z.p1 h4.z.us u8 b1).2 (lb C), ys]
      exact ⟨hS i1, B.2⟩
theorem ep_rd5 {d w c : Nat} {EX EY : em_M → Int32 → Int32 × em_M} {SY : em_M → Int32 → Prop} (w6 : w < 7) (EE : ep_EE d (w + 1) EX EY SY) {nl u0 n p u r : Nat} {C G G4 : em_M} (h4 : ep_B4 nl u0 n p u r (nI c) C G G4) (hp : p < n) (a : et_X5_sign C = nI c) (z1 : ep_Pz nl u0 n (p + 1) u (r + 1) (em_pI C 9 1 (nI (p + 1))) (em_pI G4 118 12 (nI (p + 1)))) (f1 : ep_Pc u C (em_pI C 9 1 (nI (p + 1)))) (g1 : ep_Pg (101 * nl + r) G (em_pI G4 118 12 (nI (p + 1)))) (sg : (em_pI G4 118 12 (nI (p + 1))).1 122 (101 * nl + r) = nI c) (k1 : (em_pI G4 118 12 (nI (p + 1))).1 124 (101 * nl + r) = nI 0) {X : Prop} (hS : ep_xs EY SY (nI w) G4 (nI c) (nI (101 * nl + r)) → X) (u8 : u < 800) (d0 : ∀ M, et_X5_isDigit M (nI c) = 0) (l0 : ∀ M, et_X5_isLetter M (nI c) = 0) (n91 : ¬ nI c = (91 : Int32)) (kb : et_X5_kindBy C (nI c) = nI 5) (po : ∀ M, et_X12_partsOf M (nI c) = nI 1) (hn : ∀ M, et_X12_hasName M (nI c) = 1) (K : ep_K 5 c 1) : X ∧ ep_Po nl u0 n u (101 * nl + r) (d + 1) C G (et_X5_exprB EX C (nI w)) (ep_xt EY (nI w) G4 (nI c) (nI (101 * nl + r))) := by
  have ub := h4.z.ub
  have m8 : 101 * nl + r < 808 := by have := h4.z.rb; have := h4.z.pn; have := h4.z.n1; have := h4.z.l7; omega
  obtain ⟨s1, s2⟩ := ep_sgn z1
  rcases s2 with ⟨-, b1, b2⟩ | ⟨hp1, x, x1, b1, b2⟩
  · have lb : ∀ M, et_X5_isLetter M (-1) = 0 := fun _ => rfl
    obtain ⟨i1, i2⟩ := ep_mnn (EY := EY) (SY := SY) (m := 101 * nl + r) w6 (show 1 ≤ 1 ∧ 1 ≤ 3 by omega) d0 l0 n91 po hn h4.pl s1 b2 lb
    rw [i2, (ep_cp5 a (d0 C) (l0 C) w6 kb h4.z.p1 h4.z.us u8 b1).1 (lb C)]
    exact ⟨hS i1, ep_Po_no z1 f1 g1⟩
  · rcases ep_let x1 C with l | ⟨l, y, y4, -, ys⟩
    · have lb : ∀ M, et_X5_isLetter M (nI x) = 0 := fun _ => l
      obtain ⟨i1, i2⟩ := ep_mnn (EY := EY) (SY := SY) (m := 101 * nl + r) w6 (show 1 ≤ 1 ∧ 1 ≤ 3 by omega) d0 l0 n91 po hn h4.pl s1 b2 lb
      rw [i2, (ep_cp5 a (d0 C) (l0 C) w6 kb h4.z.p1 h4.z.us u8 b1).1 (lb C)]
      exact ⟨hS i1, ep_Po_no z1 f1 g1⟩
    · have lb : ∀ M, et_X5_isLetter M (nI x) = 1 := fun _ => l
      have z2 : ep_Pz nl u0 n (p + 1 + 1) u (r + 1) (em_pI (em_pI C 9 1 (nI (p + 1))) 9 1 (nI (p + 1 + 1))) (em_pI (em_pI (em_pI G4 118 12 (nI (p + 1))) 123 (101 * nl + r) (nI y)) 118 12 (nI (p + 1 + 1))) := by
        have z2 := ep_adv z1 hp1
        refine ep_Pz_to z2 z2.pn z2.ub z2.rb rfl z2.p1 rfl z2.us ?_ ?_ ?_ ?_ ?_ ?_
        · rw [ef_pIk _ _ (by omega), ef_pI' _ _ _ _ (by omega), ef_pIk (em_pI G4 118 12 (nI (p + 1))) _ (by omega)]
        · exact ef_pIs _ _ rfl
        · rw [ef_pIk _ _ (by omega), ef_pI' _ _ _ _ (by omega)]; exact z1.rd
        · rw [ef_pIk _ _ (by omega), ef_pI' _ _ _ _ (by omega), ef_pIk (em_pI G4 118 12 (nI (p + 1))) _ (by omega)]
        · rw [ef_pIk _ _ (by omega), ef_pI' _ _ _ _ (by omega), ef_pIk (em_pI G4 118 12 (nI (p + 1))) _ (by omega)]
        · rw [ef_pI' _ _ _ _ (by omega), ef_pI' _ _ _ _ (by omega), ef_pI' (em_pI G4 118 12 (nI (p + 1))) _ _ _ (by omega)]
      have B := ep_body EE K z2 (by omega) (nI y) (by rw [ef_pI' _ _ _ _ (by omega), ef_pI' _ _ _ _ (by omega)]; exact sg) (by rw [ef_pI' _ _ _ _ (by omega), ef_pI' _ _ _ _ (by omega)]; exact k1) (fun q => absurd q (by omega)) (fun q => absurd q (by omega)) (fun _ => ⟨y, y4, rfl, by rw [ef_pI' _ _ _ _ (by omega)]; exact ef_pIs _ _ rfl⟩) (ep_Pc_w f1 9 1 _ (by omega)) (ep_Pg_w (ep_Pg_w g1 123 _ _ (by omega)) 118 12 _ (by omega))
      obtain ⟨i1, i2⟩ := ep_mnm (EY := EY) (SY := SY) m8 w6 (show 1 ≤ 1 ∧ 1 ≤ 3 by omega) d0 l0 n91 po hn h4.pl s1 b2 lb ys rfl B.1
      rw [i2, (ep_cp5 a (d0 C) (l0 C) w6 kb h4.z.p1 h4.z.us u8 b1).2 (lb C), ys]
      exact ⟨hS i1, B.2⟩
theorem ep_rd7 {d w c : Nat} {EX EY : em_M → Int32 → Int32 × em_M} {SY : em_M → Int32 → Prop} (w6 : w < 7) (EE : ep_EE d (w + 1) EX EY SY) {nl u0 n p u r : Nat} {C G G4 : em_M} (h4 : ep_B4 nl u0 n p u r (nI c) C G G4) (hp : p < n) (a : et_X5_sign C = nI c) (z1 : ep_Pz nl u0 n (p + 1) u (r + 1) (em_pI C 9 1 (nI (p + 1))) (em_pI G4 118 12 (nI (p + 1)))) (f1 : ep_Pc u C (em_pI C 9 1 (nI (p + 1)))) (g1 : ep_Pg (101 * nl + r) G (em_pI G4 118 12 (nI (p + 1)))) (sg : (em_pI G4 118 12 (nI (p + 1))).1 122 (101 * nl + r) = nI c) (k1 : (em_pI G4 118 12 (nI (p + 1))).1 124 (101 * nl + r) = nI 0) {X : Prop} (hS : ep_xs EY SY (nI w) G4 (nI c) (nI (101 * nl + r)) → X) (u8 : u < 800) (d0 : ∀ M, et_X5_isDigit M (nI c) = 0) (l0 : ∀ M, et_X5_isLetter M (nI c) = 0) (n91 : ¬ nI c = (91 : Int32)) (kb : et_X5_kindBy C (nI c) = nI 7) (po : ∀ M, et_X12_partsOf M (nI c) = nI 1) (hn : ∀ M, et_X12_hasName M (nI c) = 1) (K : ep_K 7 c 1) : X ∧ ep_Po nl u0 n u (101 * nl + r) (d + 1) C G (et_X5_exprB EX C (nI w)) (ep_xt EY (nI w) G4 (nI c) (nI (101 * nl + r))) := by
  have ub := h4.z.ub
  have m8 : 101 * nl + r < 808 := by have := h4.z.rb; have := h4.z.pn; have := h4.z.n1; have := h4.z.l7; omega
  obtain ⟨s1, s2⟩ := ep_sgn z1
  rcases s2 with ⟨-, b1, b2⟩ | ⟨hp1, x, x1, b1, b2⟩
  · have lb : ∀ M, et_X5_isLetter M (-1) = 0 := fun _ => rfl
    obtain ⟨i1, i2⟩ := ep_mnn (EY := EY) (SY := SY) (m := 101 * nl + r) w6 (show 1 ≤ 1 ∧ 1 ≤ 3 by omega) d0 l0 n91 po hn h4.pl s1 b2 lb
    rw [i2, (ep_cp7 a (d0 C) (l0 C) w6 kb h4.z.p1 h4.z.us u8 b1).1 (lb C)]
    exact ⟨hS i1, ep_Po_no z1 f1 g1⟩
  · rcases ep_let x1 C with l | ⟨l, y, y4, -, ys⟩
    · have lb : ∀ M, et_X5_isLetter M (nI x) = 0 := fun _ => l
      obtain ⟨i1, i2⟩ := ep_mnn (EY := EY) (SY := SY) (m := 101 * nl + r) w6 (show 1 ≤ 1 ∧ 1 ≤ 3 by omega) d0 l0 n91 po hn h4.pl s1 b2 lb
      rw [i2, (ep_cp7 a (d0 C) (l0 C) w6 kb h4.z.p1 h4.z.us u8 b1).1 (lb C)]
      exact ⟨hS i1, ep_Po_no z1 f1 g1⟩
    · have lb : ∀ M, et_X5_isLetter M (nI x) = 1 := fun _ => l
      have z2 : ep_Pz nl u0 n (p + 1 + 1) u (r + 1) (em_pI (em_pI C 9 1 (nI (p + 1))) 9 1 (nI (p + 1 + 1))) (em_pI (em_pI (em_pI G4 118 12 (nI (p + 1))) 123 (101 * nl + r) (nI y)) 118 12 (nI (p + 1 + 1))) := by
        have z2 := ep_adv z1 hp1
        refine ep_Pz_to z2 z2.pn z2.ub z2.rb rfl z2.p1 rfl z2.us ?_ ?_ ?_ ?_ ?_ ?_
        · rw [ef_pIk _ _ (by omega), ef_pI' _ _ _ _ (by omega), ef_pIk (em_pI G4 118 12 (nI (p + 1))) _ (by omega)]
        · exact ef_pIs _ _ rfl
        · rw [ef_pIk _ _ (by omega), ef_pI' _ _ _ _ (by omega)]; exact z1.rd
        · rw [ef_pIk _ _ (by omega), ef_pI' _ _ _ _ (by omega), ef_pIk (em_pI G4 118 12 (nI (p + 1))) _ (by omega)]
        · rw [ef_pIk _ _ (by omega), ef_pI' _ _ _ _ (by omega), ef_pIk (em_pI G4 118 12 (nI (p + 1))) _ (by omega)]
        · rw [ef_pI' _ _ _ _ (by omega), ef_pI' _ _ _ _ (by omega), ef_pI' (em_pI G4 118 12 (nI (p + 1))) _ _ _ (by omega)]
      have B := ep_body EE K z2 (by omega) (nI y) (by rw [ef_pI' _ _ _ _ (by omega), ef_pI' _ _ _ _ (by omega)]; exact sg) (by rw [ef_pI' _ _ _ _ (by omega), ef_pI' _ _ _ _ (by omega)]; exact k1) (fun q => absurd q (by omega)) (fun q => absurd q (by omega)) (fun _ => ⟨y, y4, rfl, by rw [ef_pI' _ _ _ _ (by omega)]; exact ef_pIs _ _ rfl⟩) (ep_Pc_w f1 9 1 _ (by omega)) (ep_Pg_w (ep_Pg_w g1 123 _ _ (by omega)) 118 12 _ (by omega))
      obtain ⟨i1, i2⟩ := ep_mnm (EY := EY) (SY := SY) m8 w6 (show 1 ≤ 1 ∧ 1 ≤ 3 by omega) d0 l0 n91 po hn h4.pl s1 b2 lb ys rfl B.1
      rw [i2, (ep_cp7 a (d0 C) (l0 C) w6 kb h4.z.p1 h4.z.us u8 b1).2 (lb C), ys]
      exact ⟨hS i1, B.2⟩
theorem ep_rd13 {d w c : Nat} {EX EY : em_M → Int32 → Int32 × em_M} {SY : em_M → Int32 → Prop} (w6 : w < 7) (EE : ep_EE d (w + 1) EX EY SY) {nl u0 n p u r : Nat} {C G G4 : em_M} (h4 : ep_B4 nl u0 n p u r (nI c) C G G4) (hp : p < n) (a : et_X5_sign C = nI c) (z1 : ep_Pz nl u0 n (p + 1) u (r + 1) (em_pI C 9 1 (nI (p + 1))) (em_pI G4 118 12 (nI (p + 1)))) (f1 : ep_Pc u C (em_pI C 9 1 (nI (p + 1)))) (g1 : ep_Pg (101 * nl + r) G (em_pI G4 118 12 (nI (p + 1)))) (sg : (em_pI G4 118 12 (nI (p + 1))).1 122 (101 * nl + r) = nI c) (k1 : (em_pI G4 118 12 (nI (p + 1))).1 124 (101 * nl + r) = nI 0) {X : Prop} (hS : ep_xs EY SY (nI w) G4 (nI c) (nI (101 * nl + r)) → X) (u8 : u < 800) (d0 : ∀ M, et_X5_isDigit M (nI c) = 0) (l0 : ∀ M, et_X5_isLetter M (nI c) = 0) (n91 : ¬ nI c = (91 : Int32)) (kb : et_X5_kindBy C (nI c) = nI 13) (po : ∀ M, et_X12_partsOf M (nI c) = nI 1) (hn : ∀ M, et_X12_hasName M (nI c) = 1) (K : ep_K 13 c 1) : X ∧ ep_Po nl u0 n u (101 * nl + r) (d + 1) C G (et_X5_exprB EX C (nI w)) (ep_xt EY (nI w) G4 (nI c) (nI (101 * nl + r))) := by
  have ub := h4.z.ub
  have m8 : 101 * nl + r < 808 := by have := h4.z.rb; have := h4.z.pn; have := h4.z.n1; have := h4.z.l7; omega
  obtain ⟨s1, s2⟩ := ep_sgn z1
  rcases s2 with ⟨-, b1, b2⟩ | ⟨hp1, x, x1, b1, b2⟩
  · have lb : ∀ M, et_X5_isLetter M (-1) = 0 := fun _ => rfl
    obtain ⟨i1, i2⟩ := ep_mnn (EY := EY) (SY := SY) (m := 101 * nl + r) w6 (show 1 ≤ 1 ∧ 1 ≤ 3 by omega) d0 l0 n91 po hn h4.pl s1 b2 lb
    rw [i2, (ep_cp13 a (d0 C) (l0 C) w6 kb h4.z.p1 h4.z.us u8 b1).1 (lb C)]
    exact ⟨hS i1, ep_Po_no z1 f1 g1⟩
  · rcases ep_let x1 C with l | ⟨l, y, y4, -, ys⟩
    · have lb : ∀ M, et_X5_isLetter M (nI x) = 0 := fun _ => l
      obtain ⟨i1, i2⟩ := ep_mnn (EY := EY) (SY := SY) (m := 101 * nl + r) w6 (show 1 ≤ 1 ∧ 1 ≤ 3 by omega) d0 l0 n91 po hn h4.pl s1 b2 lb
      rw [i2, (ep_cp13 a (d0 C) (l0 C) w6 kb h4.z.p1 h4.z.us u8 b1).1 (lb C)]
      exact ⟨hS i1, ep_Po_no z1 f1 g1⟩
    · have lb : ∀ M, et_X5_isLetter M (nI x) = 1 := fun _ => l
      have z2 : ep_Pz nl u0 n (p + 1 + 1) u (r + 1) (em_pI (em_pI C 9 1 (nI (p + 1))) 9 1 (nI (p + 1 + 1))) (em_pI (em_pI (em_pI G4 118 12 (nI (p + 1))) 123 (101 * nl + r) (nI y)) 118 12 (nI (p + 1 + 1))) := by
        have z2 := ep_adv z1 hp1
        refine ep_Pz_to z2 z2.pn z2.ub z2.rb rfl z2.p1 rfl z2.us ?_ ?_ ?_ ?_ ?_ ?_
        · rw [ef_pIk _ _ (by omega), ef_pI' _ _ _ _ (by omega), ef_pIk (em_pI G4 118 12 (nI (p + 1))) _ (by omega)]
        · exact ef_pIs _ _ rfl
        · rw [ef_pIk _ _ (by omega), ef_pI' _ _ _ _ (by omega)]; exact z1.rd
        · rw [ef_pIk _ _ (by omega), ef_pI' _ _ _ _ (by omega), ef_pIk (em_pI G4 118 12 (nI (p + 1))) _ (by omega)]
        · rw [ef_pIk _ _ (by omega), ef_pI' _ _ _ _ (by omega), ef_pIk (em_pI G4 118 12 (nI (p + 1))) _ (by omega)]
        · rw [ef_pI' _ _ _ _ (by omega), ef_pI' _ _ _ _ (by omega), ef_pI' (em_pI G4 118 12 (nI (p + 1))) _ _ _ (by omega)]
      have B := ep_body EE K z2 (by omega) (nI y) (by rw [ef_pI' _ _ _ _ (by omega), ef_pI' _ _ _ _ (by omega)]; exact sg) (by rw [ef_pI' _ _ _ _ (by omega), ef_pI' _ _ _ _ (by omega)]; exact k1) (fun q => absurd q (by omega)) (fun q => absurd q (by omega)) (fun _ => ⟨y, y4, rfl, by rw [ef_pI' _ _ _ _ (by omega)]; exact ef_pIs _ _ rfl⟩) (ep_Pc_w f1 9 1 _ (by omega)) (ep_Pg_w (ep_Pg_w g1 123 _ _ (by omega)) 118 12 _ (by omega))
      obtain ⟨i1, i2⟩ := ep_mnm (EY := EY) (SY := SY) m8 w6 (show 1 ≤ 1 ∧ 1 ≤ 3 by omega) d0 l0 n91 po hn h4.pl s1 b2 lb ys rfl B.1
      rw [i2, (ep_cp13 a (d0 C) (l0 C) w6 kb h4.z.p1 h4.z.us u8 b1).2 (lb C), ys]
      exact ⟨hS i1, B.2⟩
theorem ep_head {EY : em_M → Int32 → Int32 × em_M} {SY : em_M → Int32 → Prop} {nl u0 n p u r w : Nat} {C G : em_M} (z : ep_Pz nl u0 n p u r C G) {b : Int32} (hb : et_X12_byteAt G (nI p) = b) : ∃ G4, ep_B4 nl u0 n p u r b C G G4 ∧ (ep_xs EY SY (nI w) G4 b (nI (101 * nl + r)) → es_X12_expression EY SY G (nI w)) ∧ et_X12_exprB EY G (nI w) = ep_xt EY (nI w) G4 b (nI (101 * nl + r)) := by
  have rb := z.rb
  have pn := z.pn
  have n1 := z.n1
  have l7 := z.l7
  have m8 : 101 * nl + r < 808 := by omega
  have ix : ((101 : Int32) * (G.1 118 9)) + (G.1 118 14) = nI (101 * nl + r) := by rw [z.ls, z.rd, eq_x101, nI_add]
  refine ⟨em_pI (em_pI (em_pI G 118 14 (nI (r + 1))) 122 (101 * nl + r) b) 124 (101 * nl + r) 0, ep_B4.mk z ?_ hb ?_ ?_ ?_ ?_ ?_, fun h => ?_, ?_⟩
  · exact ep_Pg_w (ep_Pg_w (ep_Pg_w (ep_Pg_rf _ _) 118 14 _ (by omega)) 122 _ _ (by omega)) 124 _ _ (by omega)
  · simp (disch := omega) only [ef_pI', ef_pIk]; exact z.p2
  · simp (disch := omega) only [ef_pI', ef_pIk]; exact z.fa
  · simp (disch := omega) only [ef_pI', ef_pIs]
  · simp (disch := omega) only [ef_pI', ef_pIs]
  · simp (disch := omega) only [ef_pIs]; rfl
  · rw [es_X12_expression, ix, z.p2, hb, z.rd, nI_1, nI_clamp (show 101 * nl + r < 2 ^ 31 by omega)]
    refine ⟨(ep_sgn z).1, ?_⟩
    rintro _ rfl
    rintro _ rfl
    refine ⟨vp_in_nI m8 (by omega), ?_⟩
    rintro _ rfl
    refine ⟨vp_in_nI m8 (by omega), ?_⟩
    rintro _ rfl
    rw [ep_xs, nI_clamp (show 101 * nl + r < 2 ^ 31 by omega)] at h
    exact h
  · rw [et_X12_exprB, ep_xt]
    dsimp only
    rw [ix, z.p2, hb, z.rd, nI_1, nI_clamp (show 101 * nl + r < 2 ^ 31 by omega)]
theorem ep_EEs {d w : Nat} {EX EY : em_M → Int32 → Int32 × em_M} {SY : em_M → Int32 → Prop} (hw : w ≤ 7) (EE : w < 7 → ep_EE d (w + 1) EX EY SY) : ep_EE (d + 1) w (et_X5_exprB EX) (et_X12_exprB EY) (es_X12_expression EY SY) := by
  intro nl u0 n p u r C G z
  have rb := z.rb
  have pn := z.pn
  have n1 := z.n1
  have l7 := z.l7
  have ub := z.ub
  have ul := z.ul
  have m8 : 101 * nl + r < 808 := by omega
  obtain ⟨s1, s2⟩ := ep_sgn z
  rcases s2 with ⟨e, a, b⟩ | ⟨hp, c, c1, a, b⟩
  · obtain ⟨G4, h4, hS, hT⟩ := ep_head (EY := EY) (SY := SY) (w := w) z b
    have d0 : ∀ M, et_X5_isDigit M (-1) = 0 := fun _ => rfl
    have l0 : ∀ M, et_X5_isLetter M (-1) = 0 := fun _ => rfl
    obtain ⟨i1, i2⟩ := ep_mno (EY := EY) (SY := SY) (w := w) (m := 101 * nl + r) (G4 := G4) d0 l0 (Or.inr ⟨by decide, fun _ => rfl⟩)
    have cl : et_X5_exprB EX C (nI w) = (-1, C) := ep_cpno a (d0 C) (l0 C) (by
      by_cases q : w = 7
      · exact Or.inl q
      · exact Or.inr ⟨by omega, rfl⟩)
    rw [hT, i2, cl]
    exact ⟨hS i1, ep_B4_no h4⟩
  · obtain ⟨G4, h4, hS, hT⟩ := ep_head (EY := EY) (SY := SY) (w := w) z b
    have u8 : u < 800 := by omega
    rw [hT]
    rcases ep_dgt (c := c) C with d0 | d1
    · have d0' : ∀ M, et_X5_isDigit M (nI c) = 0 := fun _ => d0
      rcases ep_let c1 C with l0 | ⟨l1, x, x4, xc, xs⟩
      · have l0' : ∀ M, et_X5_isLetter M (nI c) = 0 := fun _ => l0
        by_cases w7 : w = 7
        · obtain ⟨i1, i2⟩ := ep_mno (EY := EY) (SY := SY) (m := 101 * nl + r) (G4 := G4) d0' l0' (Or.inl w7)
          rw [i2, ep_cpno a d0 l0 (Or.inl w7)]
          exact ⟨hS i1, ep_B4_no h4⟩
        · have w6 : w < 7 := by omega
          have E := EE w6
          have z1 := ep_B4_on h4 hp
          have f1 : ep_Pc u C (em_pI C 9 1 (nI (p + 1))) := ep_Pc_w (ep_Pc_rf _ _) 9 1 _ (by omega)
          have g1 : ep_Pg (101 * nl + r) G (em_pI G4 118 12 (nI (p + 1))) := ep_Pg_w h4.g 118 12 _ (by omega)
          have sg : (em_pI G4 118 12 (nI (p + 1))).1 122 (101 * nl + r) = nI c := by rw [ef_pI' _ _ _ _ (by omega)]; exact h4.s4
          have k1 : (em_pI G4 118 12 (nI (p + 1))).1 124 (101 * nl + r) = nI 0 := by rw [ef_pI' _ _ _ _ (by omega)]; exact h4.n4
          by_cases c91 : c = 91
          · subst c91
            exact ep_rdL w6 E h4 hp a z1 f1 g1 sg k1 hS u8
          · have n91 : ¬ nI c = (91 : Int32) := by rw [show (91 : Int32) = nI 91 from rfl, nI_eq (by omega) (by omega)]; exact c91
            by_cases c42 : c = 42
            · subst c42
              exact ep_rd0 w6 E h4 hp a z1 f1 g1 sg k1 hS u8 d0' l0' n91 (ep_tb42 C).1 (fun M => (ep_tb42 M).2.1) (fun M => (ep_tb42 M).2.2) (by unfold ep_K; decide)
            by_cases c43 : c = 43
            · subst c43
              exact ep_rd0 w6 E h4 hp a z1 f1 g1 sg k1 hS u8 d0' l0' n91 (ep_tb43 C).1 (fun M => (ep_tb43 M).2.1) (fun M => (ep_tb43 M).2.2) (by unfold ep_K; decide)
            by_cases c45 : c = 45
            · subst c45
              exact ep_rd0 w6 E h4 hp a z1 f1 g1 sg k1 hS u8 d0' l0' n91 (ep_tb45 C).1 (fun M => (ep_tb45 M).2.1) (fun M => (ep_tb45 M).2.2) (by unfold ep_K; decide)
            by_cases c60 : c = 60
            · subst c60
              exact ep_rd0 w6 E h4 hp a z1 f1 g1 sg k1 hS u8 d0' l0' n91 (ep_tb60 C).1 (fun M => (ep_tb60 M).2.1) (fun M => (ep_tb60 M).2.2) (by unfold ep_K; decide)
            by_cases c63 : c = 63
            · subst c63
              exact ep_rd1 w6 E h4 hp a z1 f1 g1 sg k1 hS u8 d0' l0' n91 (ep_tb63 C).1 (fun M => (ep_tb63 M).2.1) (fun M => (ep_tb63 M).2.2) (by unfold ep_K; decide)
            by_cases c33 : c = 33
            · subst c33
              exact ep_rd6 w6 E h4 hp a z1 f1 g1 sg k1 hS u8 d0' l0' n91 (ep_tb33 C).1 (fun M => (ep_tb33 M).2.1) (fun M => (ep_tb33 M).2.2) (by unfold ep_K; decide)
            by_cases c37 : c = 37
            · subst c37
              exact ep_rd8 w6 E h4 hp a z1 f1 g1 sg k1 hS u8 d0' l0' n91 (ep_tb37 C).1 (fun M => (ep_tb37 M).2.1) (fun M => (ep_tb37 M).2.2) (by unfold ep_K; decide)
            by_cases c70 : c = 70
            · subst c70
              exact ep_rd4 w6 E h4 hp a z1 f1 g1 sg k1 hS u8 d0' l0' n91 (ep_tb70 C).1 (fun M => (ep_tb70 M).2.1) (fun M => (ep_tb70 M).2.2) (by unfold ep_K; decide) (eq_sub (a := 70) (b := 70) (by omega))
            by_cases c71 : c = 71
            · subst c71
              exact ep_rd4 w6 E h4 hp a z1 f1 g1 sg k1 hS u8 d0' l0' n91 (ep_tb71 C).1 (fun M => (ep_tb71 M).2.1) (fun M => (ep_tb71 M).2.2) (by unfold ep_K; decide) (eq_sub (a := 71) (b := 70) (by omega))
            by_cases c72 : c = 72
            · subst c72
              exact ep_rd4 w6 E h4 hp a z1 f1 g1 sg k1 hS u8 d0' l0' n91 (ep_tb72 C).1 (fun M => (ep_tb72 M).2.1) (fun M => (ep_tb72 M).2.2) (by unfold ep_K; decide) (eq_sub (a := 72) (b := 70) (by omega))
            by_cases c61 : c = 61
            · subst c61
              exact ep_rd2 w6 E h4 hp a z1 f1 g1 sg k1 hS u8 d0' l0' n91 (ep_tb61 C).1 (fun M => (ep_tb61 M).2.1) (fun M => (ep_tb61 M).2.2) (by unfold ep_K; decide)
            by_cases c94 : c = 94
            · subst c94
              exact ep_rd5 w6 E h4 hp a z1 f1 g1 sg k1 hS u8 d0' l0' n91 (ep_tb94 C).1 (fun M => (ep_tb94 M).2.1) (fun M => (ep_tb94 M).2.2) (by unfold ep_K; decide)
            by_cases c58 : c = 58
            · subst c58
              exact ep_rd7 w6 E h4 hp a z1 f1 g1 sg k1 hS u8 d0' l0' n91 (ep_tb58 C).1 (fun M => (ep_tb58 M).2.1) (fun M => (ep_tb58 M).2.2) (by unfold ep_K; decide)
            by_cases c64 : c = 64
            · subst c64
              exact ep_rd13 w6 E h4 hp a z1 f1 g1 sg k1 hS u8 d0' l0' n91 (ep_tb64 C).1 (fun M => (ep_tb64 M).2.1) (fun M => (ep_tb64 M).2.2) (by unfold ep_K; decide)
            have ne : ∀ k, k < 128 → ¬ c = k → ¬ nI c = nI k := fun k hk q => by rw [nI_eq (by omega) (by omega)]; exact q
            have kb : et_X5_kindBy C (nI c) = -1 := by
              rw [et_X5_kindBy, if_neg (show ¬ nI c = (33 : Int32) from ne 33 (by omega) c33), if_neg (show ¬ nI c = (37 : Int32) from ne 37 (by omega) c37), if_neg (show ¬ nI c = (42 : Int32) from ne 42 (by omega) c42), if_neg (show ¬ nI c = (43 : Int32) from ne 43 (by omega) c43), if_neg (show ¬ nI c = (45 : Int32) from ne 45 (by omega) c45), if_neg (show ¬ nI c = (58 : Int32) from ne 58 (by omega) c58), if_neg (show ¬ nI c = (60 : Int32) from ne 60 (by omega) c60), if_neg (show ¬ nI c = (61 : Int32) from ne 61 (by omega) c61), if_neg (show ¬ nI c = (63 : Int32) from ne 63 (by omega) c63), if_neg (show ¬ nI c = (64 : Int32) from ne 64 (by omega) c64), if_neg (show ¬ nI c = (70 : Int32) from ne 70 (by omega) c70), if_neg (show ¬ nI c = (71 : Int32) from ne 71 (by omega) c71), if_neg (show ¬ nI c = (72 : Int32) from ne 72 (by omega) c72), if_neg (show ¬ nI c = (91 : Int32) from ne 91 (by omega) c91), if_neg (show ¬ nI c = (94 : Int32) from ne 94 (by omega) c94)]
            have po : ∀ M, et_X12_partsOf M (nI c) = 0 := fun M => by
              rw [et_X12_partsOf, if_neg (show ¬ nI c = (33 : Int32) from ne 33 (by omega) c33), if_neg (show ¬ nI c = (37 : Int32) from ne 37 (by omega) c37), if_neg (show ¬ nI c = (42 : Int32) from ne 42 (by omega) c42), if_neg (show ¬ nI c = (43 : Int32) from ne 43 (by omega) c43), if_neg (show ¬ nI c = (45 : Int32) from ne 45 (by omega) c45), if_neg (show ¬ nI c = (58 : Int32) from ne 58 (by omega) c58), if_neg (show ¬ nI c = (60 : Int32) from ne 60 (by omega) c60), if_neg (show ¬ nI c = (61 : Int32) from ne 61 (by omega) c61), if_neg (show ¬ nI c = (63 : Int32) from ne 63 (by omega) c63), if_neg (show ¬ nI c = (64 : Int32) from ne 64 (by omega) c64), if_neg (show ¬ nI c = (70 : Int32) from ne 70 (by omega) c70), if_neg (show ¬ nI c = (71 : Int32) from ne 71 (by omega) c71), if_neg (show ¬ nI c = (72 : Int32) from ne 72 (by omega) c72), if_neg (show ¬ nI c = (94 : Int32) from ne 94 (by omega) c94)]
            obtain ⟨i1, i2⟩ := ep_mno (EY := EY) (SY := SY) (w := w) (m := 101 * nl + r) (G4 := G4) d0' l0' (Or.inr ⟨n91, po⟩)
            rw [i2, ep_cpno a d0 l0 (Or.inr ⟨w6, kb⟩)]
            exact ⟨hS i1, ep_B4_no h4⟩
      · have l1' : ∀ M, et_X5_isLetter M (nI c) = 1 := fun _ => l1
        obtain ⟨i1, i2⟩ := ep_mlt (EY := EY) (SY := SY) (w := w) (p := p) m8 d0' l1' h4.pl
        have z1 := ep_B4_on h4 hp
        rw [i2, ep_cplt a d0 l1 z.p1 z.us u8, xs]
        refine ⟨hS i1, Or.inr ⟨p + 1, u + 1, r + 1, 1, 0, rfl, rfl, ?_, Or.inr (Or.inl ⟨x, ?_⟩), ?_, ?_⟩⟩
        · have z2 := ep_lay z1 (by omega) 12 (nI x)
          refine ep_Pz_to z2 z2.pn z2.ub z2.rb rfl z2.p1 rfl z2.us ?_ ?_ ?_ ?_ ?_ ?_
          all_goals simp (disch := omega) only [ef_pI', ef_pIs]
          · rw [ef_pIk _ _ (by omega)]; exact h4.rd
        · obtain ⟨d1, d2, d3⟩ := ep_ad_rd (em_pI C 9 1 (nI (p + 1))) u 12 (nI x)
          refine ep_T2.mk d1 ?_ ?_ x4 d2 ?_ d3 ⟨rfl, rfl, rfl, rfl⟩
          · rw [ef_pI' _ _ _ _ (by omega)]; exact ef_pIs _ _ rfl
          · rw [ef_pI' _ _ _ _ (by omega), ef_pI' _ _ _ _ (by omega), ef_pI' _ _ _ _ (by omega)]; exact h4.n4
          · exact ef_pIs _ _ rfl
        · exact ep_Pc_ad (ep_Pc_w (ep_Pc_rf _ _) 9 1 _ (by omega)) (Nat.le_refl _) _ _
        · exact ep_Pg_w (ep_Pg_w (ep_Pg_w h4.g 118 12 _ (by omega)) 122 _ _ (by omega)) 123 _ _ (by omega)
    · have d1' : ∀ M, et_X5_isDigit M (nI c) = 1 := fun _ => d1
      obtain ⟨j1, j2⟩ := ep_digs (d := d) (w := w) (EY := EY) (SY := SY) h4 hp d1' u8 m8
      obtain ⟨i1, i2⟩ := ep_mdg (EY := EY) (SY := SY) (w := w) (G4 := G4) d1' j1
      rw [i2, ep_cpdg a d1]
      exact ⟨hS i1, j2⟩
/-- the two parsers, by how deep they may go -/
theorem ep_EEd : ∀ d, d ≤ 7 → ep_EE (d + 1) (7 - d) (et_X5_expr d) (et_X12_expr d) (es_X12_expr d) := by
  intro d
  induction d with
  | zero => intro _; exact ep_EEs (d := 0) (by omega) (fun q => absurd q (by omega))
  | succ d ih =>
    intro hd
    have I := ih (by omega)
    rw [show 7 - d = 7 - (d + 1) + 1 by omega] at I
    exact ep_EEs (by omega) (fun _ => I)
