def em_r0 : em_Rt := fun _ _ => none
def em_m0 : em_M := (fun _ _ => 0, fun _ _ => 0)
theorem rz_0 : ∀ o, 0 ≤ o → em_r0 o = fun _ => none := fun _ _ => rfl
theorem mz_0 : ∀ o, 0 ≤ o → em_m0.1 o = (fun _ => 0) ∧ em_m0.2 o = fun _ => 0 := fun _ _ => ⟨rfl, rfl⟩
theorem ez_df0 {B N : Nat} {R : em_Rt} {M : em_M} (hr : R N = fun _ => none) (hm : M.1 N = (fun _ => 0) ∧ M.2 N = fun _ => 0) : ∀ j, j < 9 → defaultValue (tyX0 j) = em_v B R M 0 N j := by
  intro j hj
  unfold em_v
  rw [hr, hm.1, hm.2]
  match j, hj with
  | 0, _ => rfl
  | 1, _ => rfl
  | 2, _ => rfl
  | 3, _ => rfl
  | 4, _ => rfl
  | 5, _ => rfl
  | 6, _ => rfl
  | 7, _ => rfl
  | 8, _ => rfl
  | n + 9, h => exact absurd h (by omega)
theorem ez_df1 {B N : Nat} {R : em_Rt} {M : em_M} (hr : R N = fun _ => none) (hm : M.1 N = (fun _ => 0) ∧ M.2 N = fun _ => 0) : ∀ j, j < 5 → defaultValue (tyX1 j) = em_v B R M 1 N j := by
  intro j hj
  unfold em_v
  rw [hr, hm.1, hm.2]
  match j, hj with
  | 0, _ => rfl
  | 1, _ => rfl
  | 2, _ => rfl
  | 3, _ => rfl
  | 4, _ => rfl
  | n + 5, h => exact absurd h (by omega)
theorem ez_df2 {B N : Nat} {R : em_Rt} {M : em_M} (hr : R N = fun _ => none) (hm : M.1 N = (fun _ => 0) ∧ M.2 N = fun _ => 0) : ∀ j, j < 9 → defaultValue (tyX2 j) = em_v B R M 2 N j := by
  intro j hj
  unfold em_v
  rw [hr, hm.1, hm.2]
  match j, hj with
  | 0, _ => rfl
  | 1, _ => rfl
  | 2, _ => rfl
  | 3, _ => rfl
  | 4, _ => rfl
  | 5, _ => rfl
  | 6, _ => rfl
  | 7, _ => rfl
  | 8, _ => rfl
  | n + 9, h => exact absurd h (by omega)
theorem ez_df3 {B N : Nat} {R : em_Rt} {M : em_M} (hr : R N = fun _ => none) (hm : M.1 N = (fun _ => 0) ∧ M.2 N = fun _ => 0) : ∀ j, j < 15 → defaultValue (tyX3 j) = em_v B R M 3 N j := by
  intro j hj
  unfold em_v
  rw [hr, hm.1, hm.2]
  match j, hj with
  | 0, _ => rfl
  | 1, _ => rfl
  | 2, _ => rfl
  | 3, _ => rfl
  | 4, _ => rfl
  | 5, _ => rfl
  | 6, _ => rfl
  | 7, _ => rfl
  | 8, _ => rfl
  | 9, _ => rfl
  | 10, _ => rfl
  | 11, _ => rfl
  | 12, _ => rfl
  | 13, _ => rfl
  | 14, _ => rfl
  | n + 15, h => exact absurd h (by omega)
theorem ez_df4 {B N : Nat} {R : em_Rt} {M : em_M} (hr : R N = fun _ => none) (hm : M.1 N = (fun _ => 0) ∧ M.2 N = fun _ => 0) : ∀ j, j < 6 → defaultValue (tyX4 j) = em_v B R M 4 N j := by
  intro j hj
  unfold em_v
  rw [hr, hm.1, hm.2]
  match j, hj with
  | 0, _ => rfl
  | 1, _ => rfl
  | 2, _ => rfl
  | 3, _ => rfl
  | 4, _ => rfl
  | 5, _ => rfl
  | n + 6, h => exact absurd h (by omega)
theorem ez_df5 {B N : Nat} {R : em_Rt} {M : em_M} (hr : R N = fun _ => none) (hm : M.1 N = (fun _ => 0) ∧ M.2 N = fun _ => 0) : ∀ j, j < 4 → defaultValue (tyX5 j) = em_v B R M 5 N j := by
  intro j hj
  unfold em_v
  rw [hr, hm.1, hm.2]
  match j, hj with
  | 0, _ => rfl
  | 1, _ => rfl
  | 2, _ => rfl
  | 3, _ => rfl
  | n + 4, h => exact absurd h (by omega)
theorem ez_df6 {B N : Nat} {R : em_Rt} {M : em_M} (hr : R N = fun _ => none) (hm : M.1 N = (fun _ => 0) ∧ M.2 N = fun _ => 0) : ∀ j, j < 4 → defaultValue (tyX6 j) = em_v B R M 6 N j := by
  intro j hj
  unfold em_v
  rw [hr, hm.1, hm.2]
  match j, hj with
  | 0, _ => rfl
  | 1, _ => rfl
  | 2, _ => rfl
  | 3, _ => rfl
  | n + 4, h => exact absurd h (by omega)
theorem ez_df7 {B N : Nat} {R : em_Rt} {M : em_M} (hr : R N = fun _ => none) (hm : M.1 N = (fun _ => 0) ∧ M.2 N = fun _ => 0) : ∀ j, j < 2 → defaultValue (tyX7 j) = em_v B R M 7 N j := by
  intro j hj
  unfold em_v
  rw [hr, hm.1, hm.2]
  match j, hj with
  | 0, _ => rfl
  | 1, _ => rfl
  | n + 2, h => exact absurd h (by omega)
theorem ez_df8 {B N : Nat} {R : em_Rt} {M : em_M} (hr : R N = fun _ => none) (hm : M.1 N = (fun _ => 0) ∧ M.2 N = fun _ => 0) : ∀ j, j < 3 → defaultValue (tyX8 j) = em_v B R M 8 N j := by
  intro j hj
  unfold em_v
  rw [hr, hm.1, hm.2]
  match j, hj with
  | 0, _ => rfl
  | 1, _ => rfl
  | 2, _ => rfl
  | n + 3, h => exact absurd h (by omega)
theorem ez_df9 {B N : Nat} {R : em_Rt} {M : em_M} (hr : R N = fun _ => none) (hm : M.1 N = (fun _ => 0) ∧ M.2 N = fun _ => 0) : ∀ j, j < 5 → defaultValue (tyX9 j) = em_v B R M 9 N j := by
  intro j hj
  unfold em_v
  rw [hr, hm.1, hm.2]
  match j, hj with
  | 0, _ => rfl
  | 1, _ => rfl
  | 2, _ => rfl
  | 3, _ => rfl
  | 4, _ => rfl
  | n + 5, h => exact absurd h (by omega)
theorem ez_df10 {B N : Nat} {R : em_Rt} {M : em_M} (hr : R N = fun _ => none) (hm : M.1 N = (fun _ => 0) ∧ M.2 N = fun _ => 0) : ∀ j, j < 2 → defaultValue (tyX10 j) = em_v B R M 10 N j := by
  intro j hj
  unfold em_v
  rw [hr, hm.1, hm.2]
  match j, hj with
  | 0, _ => rfl
  | 1, _ => rfl
  | n + 2, h => exact absurd h (by omega)
theorem ez_df11 {B N : Nat} {R : em_Rt} {M : em_M} (hr : R N = fun _ => none) (hm : M.1 N = (fun _ => 0) ∧ M.2 N = fun _ => 0) : ∀ j, j < 9 → defaultValue (tyX11 j) = em_v B R M 11 N j := by
  intro j hj
  unfold em_v
  rw [hr, hm.1, hm.2]
  match j, hj with
  | 0, _ => rfl
  | 1, _ => rfl
  | 2, _ => rfl
  | 3, _ => rfl
  | 4, _ => rfl
  | 5, _ => rfl
  | 6, _ => rfl
  | 7, _ => rfl
  | 8, _ => rfl
  | n + 9, h => exact absurd h (by omega)
theorem ez_df12 {B N : Nat} {R : em_Rt} {M : em_M} (hr : R N = fun _ => none) (hm : M.1 N = (fun _ => 0) ∧ M.2 N = fun _ => 0) : ∀ j, j < 19 → defaultValue (tyX12 j) = em_v B R M 12 N j := by
  intro j hj
  unfold em_v
  rw [hr, hm.1, hm.2]
  match j, hj with
  | 0, _ => rfl
  | 1, _ => rfl
  | 2, _ => rfl
  | 3, _ => rfl
  | 4, _ => rfl
  | 5, _ => rfl
  | 6, _ => rfl
  | 7, _ => rfl
  | 8, _ => rfl
  | 9, _ => rfl
  | 10, _ => rfl
  | 11, _ => rfl
  | 12, _ => rfl
  | 13, _ => rfl
  | 14, _ => rfl
  | 15, _ => rfl
  | 16, _ => rfl
  | 17, _ => rfl
  | 18, _ => rfl
  | n + 19, h => exact absurd h (by omega)
def em_r1 : em_Rt := em_pR em_r0 1 2 (some 2)
theorem rz_1 : ∀ o, 2 ≤ o → em_r1 o = fun _ => none := fun o h => (em_pR_ne em_r0 2 (some 2) (show o ≠ 1 by omega)).trans (rz_0 o (by omega))
def em_r2 : em_Rt := em_pR em_r1 1 3 (some 3)
theorem rz_2 : ∀ o, 2 ≤ o → em_r2 o = fun _ => none := fun o h => (em_pR_ne em_r1 3 (some 3) (show o ≠ 1 by omega)).trans (rz_1 o (by omega))
def em_r3 : em_Rt := em_pR em_r2 1 4 (some 4)
theorem rz_3 : ∀ o, 2 ≤ o → em_r3 o = fun _ => none := fun o h => (em_pR_ne em_r2 4 (some 4) (show o ≠ 1 by omega)).trans (rz_2 o (by omega))
def em_r4 : em_Rt := em_pR em_r3 1 5 (some 5)
theorem rz_4 : ∀ o, 2 ≤ o → em_r4 o = fun _ => none := fun o h => (em_pR_ne em_r3 5 (some 5) (show o ≠ 1 by omega)).trans (rz_3 o (by omega))
def em_r5 : em_Rt := em_pR em_r4 1 6 (some 6)
theorem rz_5 : ∀ o, 2 ≤ o → em_r5 o = fun _ => none := fun o h => (em_pR_ne em_r4 6 (some 6) (show o ≠ 1 by omega)).trans (rz_4 o (by omega))
def em_r6 : em_Rt := em_pR em_r5 1 7 (some 7)
theorem rz_6 : ∀ o, 2 ≤ o → em_r6 o = fun _ => none := fun o h => (em_pR_ne em_r5 7 (some 7) (show o ≠ 1 by omega)).trans (rz_5 o (by omega))
def em_r7 : em_Rt := em_pR em_r6 1 8 (some 8)
theorem rz_7 : ∀ o, 2 ≤ o → em_r7 o = fun _ => none := fun o h => (em_pR_ne em_r6 8 (some 8) (show o ≠ 1 by omega)).trans (rz_6 o (by omega))
def em_r8 : em_Rt := em_pR em_r7 0 0 (some 1)
theorem rz_8 : ∀ o, 2 ≤ o → em_r8 o = fun _ => none := fun o h => (em_pR_ne em_r7 0 (some 1) (show o ≠ 0 by omega)).trans (rz_7 o (by omega))
def em_r9 : em_Rt := em_pR em_r8 9 2 (some 10)
theorem rz_9 : ∀ o, 10 ≤ o → em_r9 o = fun _ => none := fun o h => (em_pR_ne em_r8 2 (some 10) (show o ≠ 9 by omega)).trans (rz_8 o (by omega))
def em_r10 : em_Rt := em_pR em_r9 9 3 (some 1)
theorem rz_10 : ∀ o, 10 ≤ o → em_r10 o = fun _ => none := fun o h => (em_pR_ne em_r9 3 (some 1) (show o ≠ 9 by omega)).trans (rz_9 o (by omega))
def em_r11 : em_Rt := em_pR em_r10 0 1 (some 9)
theorem rz_11 : ∀ o, 10 ≤ o → em_r11 o = fun _ => none := fun o h => (em_pR_ne em_r10 1 (some 9) (show o ≠ 0 by omega)).trans (rz_10 o (by omega))
def em_r12 : em_Rt := em_pR em_r11 12 1 (some 13)
theorem rz_12 : ∀ o, 13 ≤ o → em_r12 o = fun _ => none := fun o h => (em_pR_ne em_r11 1 (some 13) (show o ≠ 12 by omega)).trans (rz_11 o (by omega))
def em_r13 : em_Rt := em_pR em_r12 12 2 (some 14)
theorem rz_13 : ∀ o, 13 ≤ o → em_r13 o = fun _ => none := fun o h => (em_pR_ne em_r12 2 (some 14) (show o ≠ 12 by omega)).trans (rz_12 o (by omega))
def em_m1 : em_M := em_pI em_m0 12 3 (5 : Int32)
theorem mz_1 : ∀ o, 13 ≤ o → em_m1.1 o = (fun _ => 0) ∧ em_m1.2 o = fun _ => 0 := fun o h => ⟨(em_pI_ne em_m0 3 (5 : Int32) (show o ≠ 12 by omega)).trans (mz_0 o (by omega)).1, (mz_0 o (by omega)).2⟩
def em_r14 : em_Rt := em_pR em_r13 11 2 (some 12)
theorem rz_14 : ∀ o, 13 ≤ o → em_r14 o = fun _ => none := fun o h => (em_pR_ne em_r13 2 (some 12) (show o ≠ 11 by omega)).trans (rz_13 o (by omega))
def em_r15 : em_Rt := em_pR em_r14 15 1 (some 16)
theorem rz_15 : ∀ o, 16 ≤ o → em_r15 o = fun _ => none := fun o h => (em_pR_ne em_r14 1 (some 16) (show o ≠ 15 by omega)).trans (rz_14 o (by omega))
def em_r16 : em_Rt := em_pR em_r15 15 2 (some 17)
theorem rz_16 : ∀ o, 16 ≤ o → em_r16 o = fun _ => none := fun o h => (em_pR_ne em_r15 2 (some 17) (show o ≠ 15 by omega)).trans (rz_15 o (by omega))
def em_m2 : em_M := em_pI em_m1 15 3 (10 : Int32)
theorem mz_2 : ∀ o, 16 ≤ o → em_m2.1 o = (fun _ => 0) ∧ em_m2.2 o = fun _ => 0 := fun o h => ⟨(em_pI_ne em_m1 3 (10 : Int32) (show o ≠ 15 by omega)).trans (mz_1 o (by omega)).1, (mz_1 o (by omega)).2⟩
def em_r17 : em_Rt := em_pR em_r16 11 3 (some 15)
theorem rz_17 : ∀ o, 16 ≤ o → em_r17 o = fun _ => none := fun o h => (em_pR_ne em_r16 3 (some 15) (show o ≠ 11 by omega)).trans (rz_16 o (by omega))
def em_r18 : em_Rt := em_pR em_r17 18 1 (some 19)
theorem rz_18 : ∀ o, 19 ≤ o → em_r18 o = fun _ => none := fun o h => (em_pR_ne em_r17 1 (some 19) (show o ≠ 18 by omega)).trans (rz_17 o (by omega))
def em_r19 : em_Rt := em_pR em_r18 18 2 (some 20)
theorem rz_19 : ∀ o, 19 ≤ o → em_r19 o = fun _ => none := fun o h => (em_pR_ne em_r18 2 (some 20) (show o ≠ 18 by omega)).trans (rz_18 o (by omega))
def em_m3 : em_M := em_pI em_m2 18 3 (8 : Int32)
theorem mz_3 : ∀ o, 19 ≤ o → em_m3.1 o = (fun _ => 0) ∧ em_m3.2 o = fun _ => 0 := fun o h => ⟨(em_pI_ne em_m2 3 (8 : Int32) (show o ≠ 18 by omega)).trans (mz_2 o (by omega)).1, (mz_2 o (by omega)).2⟩
def em_r20 : em_Rt := em_pR em_r19 11 4 (some 18)
theorem rz_20 : ∀ o, 19 ≤ o → em_r20 o = fun _ => none := fun o h => (em_pR_ne em_r19 4 (some 18) (show o ≠ 11 by omega)).trans (rz_19 o (by omega))
def em_r21 : em_Rt := em_pR em_r20 21 0 (some 22)
theorem rz_21 : ∀ o, 22 ≤ o → em_r21 o = fun _ => none := fun o h => (em_pR_ne em_r20 0 (some 22) (show o ≠ 21 by omega)).trans (rz_20 o (by omega))
def em_r22 : em_Rt := em_pR em_r21 21 1 (some 23)
theorem rz_22 : ∀ o, 22 ≤ o → em_r22 o = fun _ => none := fun o h => (em_pR_ne em_r21 1 (some 23) (show o ≠ 21 by omega)).trans (rz_21 o (by omega))
def em_m4 : em_M := em_pI em_m3 23 0 (-5 : Int32)
theorem mz_4 : ∀ o, 24 ≤ o → em_m4.1 o = (fun _ => 0) ∧ em_m4.2 o = fun _ => 0 := fun o h => ⟨(em_pI_ne em_m3 0 (-5 : Int32) (show o ≠ 23 by omega)).trans (mz_3 o (by omega)).1, (mz_3 o (by omega)).2⟩
def em_m5 : em_M := em_pI em_m4 23 1 (-5 : Int32)
theorem mz_5 : ∀ o, 24 ≤ o → em_m5.1 o = (fun _ => 0) ∧ em_m5.2 o = fun _ => 0 := fun o h => ⟨(em_pI_ne em_m4 1 (-5 : Int32) (show o ≠ 23 by omega)).trans (mz_4 o (by omega)).1, (mz_4 o (by omega)).2⟩
def em_m6 : em_M := em_pI em_m5 23 2 (-5 : Int32)
theorem mz_6 : ∀ o, 24 ≤ o → em_m6.1 o = (fun _ => 0) ∧ em_m6.2 o = fun _ => 0 := fun o h => ⟨(em_pI_ne em_m5 2 (-5 : Int32) (show o ≠ 23 by omega)).trans (mz_5 o (by omega)).1, (mz_5 o (by omega)).2⟩
def em_r23 : em_Rt := em_pR em_r22 11 0 (some 21)
theorem rz_23 : ∀ o, 22 ≤ o → em_r23 o = fun _ => none := fun o h => (em_pR_ne em_r22 0 (some 21) (show o ≠ 11 by omega)).trans (rz_22 o (by omega))
def em_m7 : em_M := em_pI em_m6 25 0 (-9 : Int32)
theorem mz_7 : ∀ o, 26 ≤ o → em_m7.1 o = (fun _ => 0) ∧ em_m7.2 o = fun _ => 0 := fun o h => ⟨(em_pI_ne em_m6 0 (-9 : Int32) (show o ≠ 25 by omega)).trans (mz_6 o (by omega)).1, (mz_6 o (by omega)).2⟩
def em_r24 : em_Rt := em_pR em_r23 25 4 (some 26)
theorem rz_24 : ∀ o, 26 ≤ o → em_r24 o = fun _ => none := fun o h => (em_pR_ne em_r23 4 (some 26) (show o ≠ 25 by omega)).trans (rz_23 o (by omega))
def em_r25 : em_Rt := em_pR em_r24 24 0 (some 25)
theorem rz_25 : ∀ o, 26 ≤ o → em_r25 o = fun _ => none := fun o h => (em_pR_ne em_r24 0 (some 25) (show o ≠ 24 by omega)).trans (rz_24 o (by omega))
def em_r26 : em_Rt := em_pR em_r25 27 1 (some 28)
theorem rz_26 : ∀ o, 28 ≤ o → em_r26 o = fun _ => none := fun o h => (em_pR_ne em_r25 1 (some 28) (show o ≠ 27 by omega)).trans (rz_25 o (by omega))
def em_r27 : em_Rt := em_pR em_r26 24 3 (some 27)
theorem rz_27 : ∀ o, 28 ≤ o → em_r27 o = fun _ => none := fun o h => (em_pR_ne em_r26 3 (some 27) (show o ≠ 24 by omega)).trans (rz_26 o (by omega))
def em_r28 : em_Rt := em_pR em_r27 29 1 (some 30)
theorem rz_28 : ∀ o, 30 ≤ o → em_r28 o = fun _ => none := fun o h => (em_pR_ne em_r27 1 (some 30) (show o ≠ 29 by omega)).trans (rz_27 o (by omega))
def em_r29 : em_Rt := em_pR em_r28 29 2 (some 31)
theorem rz_29 : ∀ o, 30 ≤ o → em_r29 o = fun _ => none := fun o h => (em_pR_ne em_r28 2 (some 31) (show o ≠ 29 by omega)).trans (rz_28 o (by omega))
def em_r30 : em_Rt := em_pR em_r29 29 3 (some 32)
theorem rz_30 : ∀ o, 30 ≤ o → em_r30 o = fun _ => none := fun o h => (em_pR_ne em_r29 3 (some 32) (show o ≠ 29 by omega)).trans (rz_29 o (by omega))
def em_r31 : em_Rt := em_pR em_r30 29 4 (some 33)
theorem rz_31 : ∀ o, 30 ≤ o → em_r31 o = fun _ => none := fun o h => (em_pR_ne em_r30 4 (some 33) (show o ≠ 29 by omega)).trans (rz_30 o (by omega))
def em_r32 : em_Rt := em_pR em_r31 29 5 (some 34)
theorem rz_32 : ∀ o, 30 ≤ o → em_r32 o = fun _ => none := fun o h => (em_pR_ne em_r31 5 (some 34) (show o ≠ 29 by omega)).trans (rz_31 o (by omega))
def em_r33 : em_Rt := em_pR em_r32 29 6 (some 35)
theorem rz_33 : ∀ o, 30 ≤ o → em_r33 o = fun _ => none := fun o h => (em_pR_ne em_r32 6 (some 35) (show o ≠ 29 by omega)).trans (rz_32 o (by omega))
def em_r34 : em_Rt := em_pR em_r33 29 7 (some 36)
theorem rz_34 : ∀ o, 30 ≤ o → em_r34 o = fun _ => none := fun o h => (em_pR_ne em_r33 7 (some 36) (show o ≠ 29 by omega)).trans (rz_33 o (by omega))
def em_r35 : em_Rt := em_pR em_r34 29 8 (some 37)
theorem rz_35 : ∀ o, 30 ≤ o → em_r35 o = fun _ => none := fun o h => (em_pR_ne em_r34 8 (some 37) (show o ≠ 29 by omega)).trans (rz_34 o (by omega))
def em_r36 : em_Rt := em_pR em_r35 24 4 (some 29)
theorem rz_36 : ∀ o, 30 ≤ o → em_r36 o = fun _ => none := fun o h => (em_pR_ne em_r35 4 (some 29) (show o ≠ 24 by omega)).trans (rz_35 o (by omega))
def em_r37 : em_Rt := em_pR em_r36 38 1 (some 39)
theorem rz_37 : ∀ o, 39 ≤ o → em_r37 o = fun _ => none := fun o h => (em_pR_ne em_r36 1 (some 39) (show o ≠ 38 by omega)).trans (rz_36 o (by omega))
def em_r38 : em_Rt := em_pR em_r37 38 2 (some 40)
theorem rz_38 : ∀ o, 39 ≤ o → em_r38 o = fun _ => none := fun o h => (em_pR_ne em_r37 2 (some 40) (show o ≠ 38 by omega)).trans (rz_37 o (by omega))
def em_r39 : em_Rt := em_pR em_r38 38 3 (some 41)
theorem rz_39 : ∀ o, 39 ≤ o → em_r39 o = fun _ => none := fun o h => (em_pR_ne em_r38 3 (some 41) (show o ≠ 38 by omega)).trans (rz_38 o (by omega))
def em_r40 : em_Rt := em_pR em_r39 38 4 (some 42)
theorem rz_40 : ∀ o, 39 ≤ o → em_r40 o = fun _ => none := fun o h => (em_pR_ne em_r39 4 (some 42) (show o ≠ 38 by omega)).trans (rz_39 o (by omega))
def em_r41 : em_Rt := em_pR em_r40 24 5 (some 38)
theorem rz_41 : ∀ o, 39 ≤ o → em_r41 o = fun _ => none := fun o h => (em_pR_ne em_r40 5 (some 38) (show o ≠ 24 by omega)).trans (rz_40 o (by omega))
def em_r42 : em_Rt := em_pR em_r41 24 6 (some 43)
theorem rz_42 : ∀ o, 39 ≤ o → em_r42 o = fun _ => none := fun o h => (em_pR_ne em_r41 6 (some 43) (show o ≠ 24 by omega)).trans (rz_41 o (by omega))
def em_r43 : em_Rt := em_pR em_r42 24 7 (some 44)
theorem rz_43 : ∀ o, 39 ≤ o → em_r43 o = fun _ => none := fun o h => (em_pR_ne em_r42 7 (some 44) (show o ≠ 24 by omega)).trans (rz_42 o (by omega))
def em_r44 : em_Rt := em_pR em_r43 24 1 (some 1)
theorem rz_44 : ∀ o, 39 ≤ o → em_r44 o = fun _ => none := fun o h => (em_pR_ne em_r43 1 (some 1) (show o ≠ 24 by omega)).trans (rz_43 o (by omega))
def em_r45 : em_Rt := em_pR em_r44 24 2 (some 21)
theorem rz_45 : ∀ o, 39 ≤ o → em_r45 o = fun _ => none := fun o h => (em_pR_ne em_r44 2 (some 21) (show o ≠ 24 by omega)).trans (rz_44 o (by omega))
def em_r46 : em_Rt := em_pR em_r45 11 1 (some 24)
theorem rz_46 : ∀ o, 39 ≤ o → em_r46 o = fun _ => none := fun o h => (em_pR_ne em_r45 1 (some 24) (show o ≠ 11 by omega)).trans (rz_45 o (by omega))
def em_r47 : em_Rt := em_pR em_r46 0 2 (some 11)
theorem rz_47 : ∀ o, 39 ≤ o → em_r47 o = fun _ => none := fun o h => (em_pR_ne em_r46 2 (some 11) (show o ≠ 0 by omega)).trans (rz_46 o (by omega))
def em_r48 : em_Rt := em_pR em_r47 46 1 (some 47)
theorem rz_48 : ∀ o, 47 ≤ o → em_r48 o = fun _ => none := fun o h => (em_pR_ne em_r47 1 (some 47) (show o ≠ 46 by omega)).trans (rz_47 o (by omega))
def em_r49 : em_Rt := em_pR em_r48 46 2 (some 48)
theorem rz_49 : ∀ o, 47 ≤ o → em_r49 o = fun _ => none := fun o h => (em_pR_ne em_r48 2 (some 48) (show o ≠ 46 by omega)).trans (rz_48 o (by omega))
def em_m8 : em_M := em_pI em_m7 46 3 (5 : Int32)
theorem mz_8 : ∀ o, 47 ≤ o → em_m8.1 o = (fun _ => 0) ∧ em_m8.2 o = fun _ => 0 := fun o h => ⟨(em_pI_ne em_m7 3 (5 : Int32) (show o ≠ 46 by omega)).trans (mz_7 o (by omega)).1, (mz_7 o (by omega)).2⟩
def em_r50 : em_Rt := em_pR em_r49 45 2 (some 46)
theorem rz_50 : ∀ o, 47 ≤ o → em_r50 o = fun _ => none := fun o h => (em_pR_ne em_r49 2 (some 46) (show o ≠ 45 by omega)).trans (rz_49 o (by omega))
def em_r51 : em_Rt := em_pR em_r50 49 1 (some 50)
theorem rz_51 : ∀ o, 50 ≤ o → em_r51 o = fun _ => none := fun o h => (em_pR_ne em_r50 1 (some 50) (show o ≠ 49 by omega)).trans (rz_50 o (by omega))
def em_r52 : em_Rt := em_pR em_r51 49 2 (some 51)
theorem rz_52 : ∀ o, 50 ≤ o → em_r52 o = fun _ => none := fun o h => (em_pR_ne em_r51 2 (some 51) (show o ≠ 49 by omega)).trans (rz_51 o (by omega))
def em_m9 : em_M := em_pI em_m8 49 3 (10 : Int32)
theorem mz_9 : ∀ o, 50 ≤ o → em_m9.1 o = (fun _ => 0) ∧ em_m9.2 o = fun _ => 0 := fun o h => ⟨(em_pI_ne em_m8 3 (10 : Int32) (show o ≠ 49 by omega)).trans (mz_8 o (by omega)).1, (mz_8 o (by omega)).2⟩
def em_r53 : em_Rt := em_pR em_r52 45 3 (some 49)
theorem rz_53 : ∀ o, 50 ≤ o → em_r53 o = fun _ => none := fun o h => (em_pR_ne em_r52 3 (some 49) (show o ≠ 45 by omega)).trans (rz_52 o (by omega))
def em_r54 : em_Rt := em_pR em_r53 52 1 (some 53)
theorem rz_54 : ∀ o, 53 ≤ o → em_r54 o = fun _ => none := fun o h => (em_pR_ne em_r53 1 (some 53) (show o ≠ 52 by omega)).trans (rz_53 o (by omega))
def em_r55 : em_Rt := em_pR em_r54 52 2 (some 54)
theorem rz_55 : ∀ o, 53 ≤ o → em_r55 o = fun _ => none := fun o h => (em_pR_ne em_r54 2 (some 54) (show o ≠ 52 by omega)).trans (rz_54 o (by omega))
def em_m10 : em_M := em_pI em_m9 52 3 (8 : Int32)
theorem mz_10 : ∀ o, 53 ≤ o → em_m10.1 o = (fun _ => 0) ∧ em_m10.2 o = fun _ => 0 := fun o h => ⟨(em_pI_ne em_m9 3 (8 : Int32) (show o ≠ 52 by omega)).trans (mz_9 o (by omega)).1, (mz_9 o (by omega)).2⟩
def em_r56 : em_Rt := em_pR em_r55 45 4 (some 52)
theorem rz_56 : ∀ o, 53 ≤ o → em_r56 o = fun _ => none := fun o h => (em_pR_ne em_r55 4 (some 52) (show o ≠ 45 by omega)).trans (rz_55 o (by omega))
def em_r57 : em_Rt := em_pR em_r56 55 0 (some 56)
theorem rz_57 : ∀ o, 56 ≤ o → em_r57 o = fun _ => none := fun o h => (em_pR_ne em_r56 0 (some 56) (show o ≠ 55 by omega)).trans (rz_56 o (by omega))
def em_r58 : em_Rt := em_pR em_r57 55 1 (some 57)
theorem rz_58 : ∀ o, 56 ≤ o → em_r58 o = fun _ => none := fun o h => (em_pR_ne em_r57 1 (some 57) (show o ≠ 55 by omega)).trans (rz_57 o (by omega))
def em_m11 : em_M := em_pI em_m10 57 0 (-5 : Int32)
theorem mz_11 : ∀ o, 58 ≤ o → em_m11.1 o = (fun _ => 0) ∧ em_m11.2 o = fun _ => 0 := fun o h => ⟨(em_pI_ne em_m10 0 (-5 : Int32) (show o ≠ 57 by omega)).trans (mz_10 o (by omega)).1, (mz_10 o (by omega)).2⟩
def em_m12 : em_M := em_pI em_m11 57 1 (-5 : Int32)
theorem mz_12 : ∀ o, 58 ≤ o → em_m12.1 o = (fun _ => 0) ∧ em_m12.2 o = fun _ => 0 := fun o h => ⟨(em_pI_ne em_m11 1 (-5 : Int32) (show o ≠ 57 by omega)).trans (mz_11 o (by omega)).1, (mz_11 o (by omega)).2⟩
def em_m13 : em_M := em_pI em_m12 57 2 (-5 : Int32)
theorem mz_13 : ∀ o, 58 ≤ o → em_m13.1 o = (fun _ => 0) ∧ em_m13.2 o = fun _ => 0 := fun o h => ⟨(em_pI_ne em_m12 2 (-5 : Int32) (show o ≠ 57 by omega)).trans (mz_12 o (by omega)).1, (mz_12 o (by omega)).2⟩
def em_r59 : em_Rt := em_pR em_r58 45 0 (some 55)
theorem rz_59 : ∀ o, 56 ≤ o → em_r59 o = fun _ => none := fun o h => (em_pR_ne em_r58 0 (some 55) (show o ≠ 45 by omega)).trans (rz_58 o (by omega))
def em_m14 : em_M := em_pI em_m13 59 0 (-9 : Int32)
theorem mz_14 : ∀ o, 60 ≤ o → em_m14.1 o = (fun _ => 0) ∧ em_m14.2 o = fun _ => 0 := fun o h => ⟨(em_pI_ne em_m13 0 (-9 : Int32) (show o ≠ 59 by omega)).trans (mz_13 o (by omega)).1, (mz_13 o (by omega)).2⟩
def em_r60 : em_Rt := em_pR em_r59 59 4 (some 60)
theorem rz_60 : ∀ o, 60 ≤ o → em_r60 o = fun _ => none := fun o h => (em_pR_ne em_r59 4 (some 60) (show o ≠ 59 by omega)).trans (rz_59 o (by omega))
def em_r61 : em_Rt := em_pR em_r60 58 0 (some 59)
theorem rz_61 : ∀ o, 60 ≤ o → em_r61 o = fun _ => none := fun o h => (em_pR_ne em_r60 0 (some 59) (show o ≠ 58 by omega)).trans (rz_60 o (by omega))
def em_r62 : em_Rt := em_pR em_r61 61 1 (some 62)
theorem rz_62 : ∀ o, 62 ≤ o → em_r62 o = fun _ => none := fun o h => (em_pR_ne em_r61 1 (some 62) (show o ≠ 61 by omega)).trans (rz_61 o (by omega))
def em_r63 : em_Rt := em_pR em_r62 58 3 (some 61)
theorem rz_63 : ∀ o, 62 ≤ o → em_r63 o = fun _ => none := fun o h => (em_pR_ne em_r62 3 (some 61) (show o ≠ 58 by omega)).trans (rz_62 o (by omega))
def em_r64 : em_Rt := em_pR em_r63 63 1 (some 64)
theorem rz_64 : ∀ o, 64 ≤ o → em_r64 o = fun _ => none := fun o h => (em_pR_ne em_r63 1 (some 64) (show o ≠ 63 by omega)).trans (rz_63 o (by omega))
def em_r65 : em_Rt := em_pR em_r64 63 2 (some 65)
theorem rz_65 : ∀ o, 64 ≤ o → em_r65 o = fun _ => none := fun o h => (em_pR_ne em_r64 2 (some 65) (show o ≠ 63 by omega)).trans (rz_64 o (by omega))
def em_r66 : em_Rt := em_pR em_r65 63 3 (some 66)
theorem rz_66 : ∀ o, 64 ≤ o → em_r66 o = fun _ => none := fun o h => (em_pR_ne em_r65 3 (some 66) (show o ≠ 63 by omega)).trans (rz_65 o (by omega))
def em_r67 : em_Rt := em_pR em_r66 63 4 (some 67)
theorem rz_67 : ∀ o, 64 ≤ o → em_r67 o = fun _ => none := fun o h => (em_pR_ne em_r66 4 (some 67) (show o ≠ 63 by omega)).trans (rz_66 o (by omega))
def em_r68 : em_Rt := em_pR em_r67 63 5 (some 68)
theorem rz_68 : ∀ o, 64 ≤ o → em_r68 o = fun _ => none := fun o h => (em_pR_ne em_r67 5 (some 68) (show o ≠ 63 by omega)).trans (rz_67 o (by omega))
def em_r69 : em_Rt := em_pR em_r68 63 6 (some 69)
theorem rz_69 : ∀ o, 64 ≤ o → em_r69 o = fun _ => none := fun o h => (em_pR_ne em_r68 6 (some 69) (show o ≠ 63 by omega)).trans (rz_68 o (by omega))
def em_r70 : em_Rt := em_pR em_r69 63 7 (some 70)
theorem rz_70 : ∀ o, 64 ≤ o → em_r70 o = fun _ => none := fun o h => (em_pR_ne em_r69 7 (some 70) (show o ≠ 63 by omega)).trans (rz_69 o (by omega))
def em_r71 : em_Rt := em_pR em_r70 63 8 (some 71)
theorem rz_71 : ∀ o, 64 ≤ o → em_r71 o = fun _ => none := fun o h => (em_pR_ne em_r70 8 (some 71) (show o ≠ 63 by omega)).trans (rz_70 o (by omega))
def em_r72 : em_Rt := em_pR em_r71 58 4 (some 63)
theorem rz_72 : ∀ o, 64 ≤ o → em_r72 o = fun _ => none := fun o h => (em_pR_ne em_r71 4 (some 63) (show o ≠ 58 by omega)).trans (rz_71 o (by omega))
def em_r73 : em_Rt := em_pR em_r72 72 1 (some 73)
theorem rz_73 : ∀ o, 73 ≤ o → em_r73 o = fun _ => none := fun o h => (em_pR_ne em_r72 1 (some 73) (show o ≠ 72 by omega)).trans (rz_72 o (by omega))
def em_r74 : em_Rt := em_pR em_r73 72 2 (some 74)
theorem rz_74 : ∀ o, 73 ≤ o → em_r74 o = fun _ => none := fun o h => (em_pR_ne em_r73 2 (some 74) (show o ≠ 72 by omega)).trans (rz_73 o (by omega))
def em_r75 : em_Rt := em_pR em_r74 72 3 (some 75)
theorem rz_75 : ∀ o, 73 ≤ o → em_r75 o = fun _ => none := fun o h => (em_pR_ne em_r74 3 (some 75) (show o ≠ 72 by omega)).trans (rz_74 o (by omega))
def em_r76 : em_Rt := em_pR em_r75 72 4 (some 76)
theorem rz_76 : ∀ o, 73 ≤ o → em_r76 o = fun _ => none := fun o h => (em_pR_ne em_r75 4 (some 76) (show o ≠ 72 by omega)).trans (rz_75 o (by omega))
def em_r77 : em_Rt := em_pR em_r76 58 5 (some 72)
theorem rz_77 : ∀ o, 73 ≤ o → em_r77 o = fun _ => none := fun o h => (em_pR_ne em_r76 5 (some 72) (show o ≠ 58 by omega)).trans (rz_76 o (by omega))
def em_r78 : em_Rt := em_pR em_r77 58 6 (some 77)
theorem rz_78 : ∀ o, 73 ≤ o → em_r78 o = fun _ => none := fun o h => (em_pR_ne em_r77 6 (some 77) (show o ≠ 58 by omega)).trans (rz_77 o (by omega))
def em_r79 : em_Rt := em_pR em_r78 58 7 (some 78)
theorem rz_79 : ∀ o, 73 ≤ o → em_r79 o = fun _ => none := fun o h => (em_pR_ne em_r78 7 (some 78) (show o ≠ 58 by omega)).trans (rz_78 o (by omega))
def em_r80 : em_Rt := em_pR em_r79 58 1 (some 1)
theorem rz_80 : ∀ o, 73 ≤ o → em_r80 o = fun _ => none := fun o h => (em_pR_ne em_r79 1 (some 1) (show o ≠ 58 by omega)).trans (rz_79 o (by omega))
def em_r81 : em_Rt := em_pR em_r80 58 2 (some 55)
theorem rz_81 : ∀ o, 73 ≤ o → em_r81 o = fun _ => none := fun o h => (em_pR_ne em_r80 2 (some 55) (show o ≠ 58 by omega)).trans (rz_80 o (by omega))
def em_r82 : em_Rt := em_pR em_r81 45 1 (some 58)
theorem rz_82 : ∀ o, 73 ≤ o → em_r82 o = fun _ => none := fun o h => (em_pR_ne em_r81 1 (some 58) (show o ≠ 45 by omega)).trans (rz_81 o (by omega))
def em_r83 : em_Rt := em_pR em_r82 0 3 (some 45)
theorem rz_83 : ∀ o, 73 ≤ o → em_r83 o = fun _ => none := fun o h => (em_pR_ne em_r82 3 (some 45) (show o ≠ 0 by omega)).trans (rz_82 o (by omega))
def em_r84 : em_Rt := em_pR em_r83 79 0 (some 80)
theorem rz_84 : ∀ o, 80 ≤ o → em_r84 o = fun _ => none := fun o h => (em_pR_ne em_r83 0 (some 80) (show o ≠ 79 by omega)).trans (rz_83 o (by omega))
def em_r85 : em_Rt := em_pR em_r84 79 1 (some 81)
theorem rz_85 : ∀ o, 80 ≤ o → em_r85 o = fun _ => none := fun o h => (em_pR_ne em_r84 1 (some 81) (show o ≠ 79 by omega)).trans (rz_84 o (by omega))
def em_m15 : em_M := em_pI em_m14 81 0 (-5 : Int32)
theorem mz_15 : ∀ o, 82 ≤ o → em_m15.1 o = (fun _ => 0) ∧ em_m15.2 o = fun _ => 0 := fun o h => ⟨(em_pI_ne em_m14 0 (-5 : Int32) (show o ≠ 81 by omega)).trans (mz_14 o (by omega)).1, (mz_14 o (by omega)).2⟩
def em_m16 : em_M := em_pI em_m15 81 1 (-5 : Int32)
theorem mz_16 : ∀ o, 82 ≤ o → em_m16.1 o = (fun _ => 0) ∧ em_m16.2 o = fun _ => 0 := fun o h => ⟨(em_pI_ne em_m15 1 (-5 : Int32) (show o ≠ 81 by omega)).trans (mz_15 o (by omega)).1, (mz_15 o (by omega)).2⟩
def em_m17 : em_M := em_pI em_m16 81 2 (-5 : Int32)
theorem mz_17 : ∀ o, 82 ≤ o → em_m17.1 o = (fun _ => 0) ∧ em_m17.2 o = fun _ => 0 := fun o h => ⟨(em_pI_ne em_m16 2 (-5 : Int32) (show o ≠ 81 by omega)).trans (mz_16 o (by omega)).1, (mz_16 o (by omega)).2⟩
def em_r86 : em_Rt := em_pR em_r85 0 5 (some 79)
theorem rz_86 : ∀ o, 80 ≤ o → em_r86 o = fun _ => none := fun o h => (em_pR_ne em_r85 5 (some 79) (show o ≠ 0 by omega)).trans (rz_85 o (by omega))
def em_m18 : em_M := em_pI em_m17 83 0 (-9 : Int32)
theorem mz_18 : ∀ o, 84 ≤ o → em_m18.1 o = (fun _ => 0) ∧ em_m18.2 o = fun _ => 0 := fun o h => ⟨(em_pI_ne em_m17 0 (-9 : Int32) (show o ≠ 83 by omega)).trans (mz_17 o (by omega)).1, (mz_17 o (by omega)).2⟩
def em_r87 : em_Rt := em_pR em_r86 83 4 (some 84)
theorem rz_87 : ∀ o, 84 ≤ o → em_r87 o = fun _ => none := fun o h => (em_pR_ne em_r86 4 (some 84) (show o ≠ 83 by omega)).trans (rz_86 o (by omega))
def em_r88 : em_Rt := em_pR em_r87 82 0 (some 83)
theorem rz_88 : ∀ o, 84 ≤ o → em_r88 o = fun _ => none := fun o h => (em_pR_ne em_r87 0 (some 83) (show o ≠ 82 by omega)).trans (rz_87 o (by omega))
def em_r89 : em_Rt := em_pR em_r88 85 1 (some 86)
theorem rz_89 : ∀ o, 86 ≤ o → em_r89 o = fun _ => none := fun o h => (em_pR_ne em_r88 1 (some 86) (show o ≠ 85 by omega)).trans (rz_88 o (by omega))
def em_r90 : em_Rt := em_pR em_r89 82 3 (some 85)
theorem rz_90 : ∀ o, 86 ≤ o → em_r90 o = fun _ => none := fun o h => (em_pR_ne em_r89 3 (some 85) (show o ≠ 82 by omega)).trans (rz_89 o (by omega))
def em_r91 : em_Rt := em_pR em_r90 87 1 (some 88)
theorem rz_91 : ∀ o, 88 ≤ o → em_r91 o = fun _ => none := fun o h => (em_pR_ne em_r90 1 (some 88) (show o ≠ 87 by omega)).trans (rz_90 o (by omega))
def em_r92 : em_Rt := em_pR em_r91 87 2 (some 89)
theorem rz_92 : ∀ o, 88 ≤ o → em_r92 o = fun _ => none := fun o h => (em_pR_ne em_r91 2 (some 89) (show o ≠ 87 by omega)).trans (rz_91 o (by omega))
def em_r93 : em_Rt := em_pR em_r92 87 3 (some 90)
theorem rz_93 : ∀ o, 88 ≤ o → em_r93 o = fun _ => none := fun o h => (em_pR_ne em_r92 3 (some 90) (show o ≠ 87 by omega)).trans (rz_92 o (by omega))
def em_r94 : em_Rt := em_pR em_r93 87 4 (some 91)
theorem rz_94 : ∀ o, 88 ≤ o → em_r94 o = fun _ => none := fun o h => (em_pR_ne em_r93 4 (some 91) (show o ≠ 87 by omega)).trans (rz_93 o (by omega))
def em_r95 : em_Rt := em_pR em_r94 87 5 (some 92)
theorem rz_95 : ∀ o, 88 ≤ o → em_r95 o = fun _ => none := fun o h => (em_pR_ne em_r94 5 (some 92) (show o ≠ 87 by omega)).trans (rz_94 o (by omega))
def em_r96 : em_Rt := em_pR em_r95 87 6 (some 93)
theorem rz_96 : ∀ o, 88 ≤ o → em_r96 o = fun _ => none := fun o h => (em_pR_ne em_r95 6 (some 93) (show o ≠ 87 by omega)).trans (rz_95 o (by omega))
def em_r97 : em_Rt := em_pR em_r96 87 7 (some 94)
theorem rz_97 : ∀ o, 88 ≤ o → em_r97 o = fun _ => none := fun o h => (em_pR_ne em_r96 7 (some 94) (show o ≠ 87 by omega)).trans (rz_96 o (by omega))
def em_r98 : em_Rt := em_pR em_r97 87 8 (some 95)
theorem rz_98 : ∀ o, 88 ≤ o → em_r98 o = fun _ => none := fun o h => (em_pR_ne em_r97 8 (some 95) (show o ≠ 87 by omega)).trans (rz_97 o (by omega))
def em_r99 : em_Rt := em_pR em_r98 82 4 (some 87)
theorem rz_99 : ∀ o, 88 ≤ o → em_r99 o = fun _ => none := fun o h => (em_pR_ne em_r98 4 (some 87) (show o ≠ 82 by omega)).trans (rz_98 o (by omega))
def em_r100 : em_Rt := em_pR em_r99 96 1 (some 97)
theorem rz_100 : ∀ o, 97 ≤ o → em_r100 o = fun _ => none := fun o h => (em_pR_ne em_r99 1 (some 97) (show o ≠ 96 by omega)).trans (rz_99 o (by omega))
def em_r101 : em_Rt := em_pR em_r100 96 2 (some 98)
theorem rz_101 : ∀ o, 97 ≤ o → em_r101 o = fun _ => none := fun o h => (em_pR_ne em_r100 2 (some 98) (show o ≠ 96 by omega)).trans (rz_100 o (by omega))
def em_r102 : em_Rt := em_pR em_r101 96 3 (some 99)
theorem rz_102 : ∀ o, 97 ≤ o → em_r102 o = fun _ => none := fun o h => (em_pR_ne em_r101 3 (some 99) (show o ≠ 96 by omega)).trans (rz_101 o (by omega))
def em_r103 : em_Rt := em_pR em_r102 96 4 (some 100)
theorem rz_103 : ∀ o, 97 ≤ o → em_r103 o = fun _ => none := fun o h => (em_pR_ne em_r102 4 (some 100) (show o ≠ 96 by omega)).trans (rz_102 o (by omega))
def em_r104 : em_Rt := em_pR em_r103 82 5 (some 96)
theorem rz_104 : ∀ o, 97 ≤ o → em_r104 o = fun _ => none := fun o h => (em_pR_ne em_r103 5 (some 96) (show o ≠ 82 by omega)).trans (rz_103 o (by omega))
def em_r105 : em_Rt := em_pR em_r104 82 6 (some 101)
theorem rz_105 : ∀ o, 97 ≤ o → em_r105 o = fun _ => none := fun o h => (em_pR_ne em_r104 6 (some 101) (show o ≠ 82 by omega)).trans (rz_104 o (by omega))
def em_r106 : em_Rt := em_pR em_r105 82 7 (some 102)
theorem rz_106 : ∀ o, 97 ≤ o → em_r106 o = fun _ => none := fun o h => (em_pR_ne em_r105 7 (some 102) (show o ≠ 82 by omega)).trans (rz_105 o (by omega))
def em_r107 : em_Rt := em_pR em_r106 82 1 (some 1)
theorem rz_107 : ∀ o, 97 ≤ o → em_r107 o = fun _ => none := fun o h => (em_pR_ne em_r106 1 (some 1) (show o ≠ 82 by omega)).trans (rz_106 o (by omega))
def em_r108 : em_Rt := em_pR em_r107 82 2 (some 79)
theorem rz_108 : ∀ o, 97 ≤ o → em_r108 o = fun _ => none := fun o h => (em_pR_ne em_r107 2 (some 79) (show o ≠ 82 by omega)).trans (rz_107 o (by omega))
def em_r109 : em_Rt := em_pR em_r108 0 6 (some 82)
theorem rz_109 : ∀ o, 97 ≤ o → em_r109 o = fun _ => none := fun o h => (em_pR_ne em_r108 6 (some 82) (show o ≠ 0 by omega)).trans (rz_108 o (by omega))
def em_m19 : em_M := em_pI em_m18 103 0 (-9 : Int32)
theorem mz_19 : ∀ o, 104 ≤ o → em_m19.1 o = (fun _ => 0) ∧ em_m19.2 o = fun _ => 0 := fun o h => ⟨(em_pI_ne em_m18 0 (-9 : Int32) (show o ≠ 103 by omega)).trans (mz_18 o (by omega)).1, (mz_18 o (by omega)).2⟩
def em_r110 : em_Rt := em_pR em_r109 103 4 (some 104)
theorem rz_110 : ∀ o, 104 ≤ o → em_r110 o = fun _ => none := fun o h => (em_pR_ne em_r109 4 (some 104) (show o ≠ 103 by omega)).trans (rz_109 o (by omega))
def em_r111 : em_Rt := em_pR em_r110 0 7 (some 103)
theorem rz_111 : ∀ o, 104 ≤ o → em_r111 o = fun _ => none := fun o h => (em_pR_ne em_r110 7 (some 103) (show o ≠ 0 by omega)).trans (rz_110 o (by omega))
def em_r112 : em_Rt := em_pR em_r111 0 8 (some 105)
theorem rz_112 : ∀ o, 104 ≤ o → em_r112 o = fun _ => none := fun o h => (em_pR_ne em_r111 8 (some 105) (show o ≠ 0 by omega)).trans (rz_111 o (by omega))
def em_m20 : em_M := em_pI em_m19 106 0 (-1 : Int32)
theorem mz_20 : ∀ o, 107 ≤ o → em_m20.1 o = (fun _ => 0) ∧ em_m20.2 o = fun _ => 0 := fun o h => ⟨(em_pI_ne em_m19 0 (-1 : Int32) (show o ≠ 106 by omega)).trans (mz_19 o (by omega)).1, (mz_19 o (by omega)).2⟩
def em_r113 : em_Rt := em_pR em_r112 106 2 (some 107)
theorem rz_113 : ∀ o, 107 ≤ o → em_r113 o = fun _ => none := fun o h => (em_pR_ne em_r112 2 (some 107) (show o ≠ 106 by omega)).trans (rz_112 o (by omega))
def em_r114 : em_Rt := em_pR em_r113 105 0 (some 106)
theorem rz_114 : ∀ o, 107 ≤ o → em_r114 o = fun _ => none := fun o h => (em_pR_ne em_r113 0 (some 106) (show o ≠ 105 by omega)).trans (rz_113 o (by omega))
def em_m21 : em_M := em_pI em_m20 108 0 (-1 : Int32)
theorem mz_21 : ∀ o, 109 ≤ o → em_m21.1 o = (fun _ => 0) ∧ em_m21.2 o = fun _ => 0 := fun o h => ⟨(em_pI_ne em_m20 0 (-1 : Int32) (show o ≠ 108 by omega)).trans (mz_20 o (by omega)).1, (mz_20 o (by omega)).2⟩
def em_r115 : em_Rt := em_pR em_r114 108 2 (some 109)
theorem rz_115 : ∀ o, 109 ≤ o → em_r115 o = fun _ => none := fun o h => (em_pR_ne em_r114 2 (some 109) (show o ≠ 108 by omega)).trans (rz_114 o (by omega))
def em_r116 : em_Rt := em_pR em_r115 105 1 (some 108)
theorem rz_116 : ∀ o, 109 ≤ o → em_r116 o = fun _ => none := fun o h => (em_pR_ne em_r115 1 (some 108) (show o ≠ 105 by omega)).trans (rz_115 o (by omega))
def em_m22 : em_M := em_pI em_m21 110 0 (-1 : Int32)
theorem mz_22 : ∀ o, 111 ≤ o → em_m22.1 o = (fun _ => 0) ∧ em_m22.2 o = fun _ => 0 := fun o h => ⟨(em_pI_ne em_m21 0 (-1 : Int32) (show o ≠ 110 by omega)).trans (mz_21 o (by omega)).1, (mz_21 o (by omega)).2⟩
def em_r117 : em_Rt := em_pR em_r116 110 2 (some 111)
theorem rz_117 : ∀ o, 111 ≤ o → em_r117 o = fun _ => none := fun o h => (em_pR_ne em_r116 2 (some 111) (show o ≠ 110 by omega)).trans (rz_116 o (by omega))
def em_r118 : em_Rt := em_pR em_r117 105 2 (some 110)
theorem rz_118 : ∀ o, 111 ≤ o → em_r118 o = fun _ => none := fun o h => (em_pR_ne em_r117 2 (some 110) (show o ≠ 105 by omega)).trans (rz_117 o (by omega))
def em_m23 : em_M := em_pI em_m22 112 0 (-1 : Int32)
theorem mz_23 : ∀ o, 113 ≤ o → em_m23.1 o = (fun _ => 0) ∧ em_m23.2 o = fun _ => 0 := fun o h => ⟨(em_pI_ne em_m22 0 (-1 : Int32) (show o ≠ 112 by omega)).trans (mz_22 o (by omega)).1, (mz_22 o (by omega)).2⟩
def em_r119 : em_Rt := em_pR em_r118 112 2 (some 113)
theorem rz_119 : ∀ o, 113 ≤ o → em_r119 o = fun _ => none := fun o h => (em_pR_ne em_r118 2 (some 113) (show o ≠ 112 by omega)).trans (rz_118 o (by omega))
def em_r120 : em_Rt := em_pR em_r119 105 3 (some 112)
theorem rz_120 : ∀ o, 113 ≤ o → em_r120 o = fun _ => none := fun o h => (em_pR_ne em_r119 3 (some 112) (show o ≠ 105 by omega)).trans (rz_119 o (by omega))
def em_m24 : em_M := em_pI em_m23 114 0 (-1 : Int32)
theorem mz_24 : ∀ o, 115 ≤ o → em_m24.1 o = (fun _ => 0) ∧ em_m24.2 o = fun _ => 0 := fun o h => ⟨(em_pI_ne em_m23 0 (-1 : Int32) (show o ≠ 114 by omega)).trans (mz_23 o (by omega)).1, (mz_23 o (by omega)).2⟩
def em_r121 : em_Rt := em_pR em_r120 114 2 (some 115)
theorem rz_121 : ∀ o, 115 ≤ o → em_r121 o = fun _ => none := fun o h => (em_pR_ne em_r120 2 (some 115) (show o ≠ 114 by omega)).trans (rz_120 o (by omega))
def em_r122 : em_Rt := em_pR em_r121 105 4 (some 114)
theorem rz_122 : ∀ o, 115 ≤ o → em_r122 o = fun _ => none := fun o h => (em_pR_ne em_r121 4 (some 114) (show o ≠ 105 by omega)).trans (rz_121 o (by omega))
def em_m25 : em_M := em_pI em_m24 116 0 (-1 : Int32)
theorem mz_25 : ∀ o, 117 ≤ o → em_m25.1 o = (fun _ => 0) ∧ em_m25.2 o = fun _ => 0 := fun o h => ⟨(em_pI_ne em_m24 0 (-1 : Int32) (show o ≠ 116 by omega)).trans (mz_24 o (by omega)).1, (mz_24 o (by omega)).2⟩
def em_r123 : em_Rt := em_pR em_r122 116 2 (some 117)
theorem rz_123 : ∀ o, 117 ≤ o → em_r123 o = fun _ => none := fun o h => (em_pR_ne em_r122 2 (some 117) (show o ≠ 116 by omega)).trans (rz_122 o (by omega))
def em_r124 : em_Rt := em_pR em_r123 105 5 (some 116)
theorem rz_124 : ∀ o, 117 ≤ o → em_r124 o = fun _ => none := fun o h => (em_pR_ne em_r123 5 (some 116) (show o ≠ 105 by omega)).trans (rz_123 o (by omega))
def em_r125 : em_Rt := em_pR em_r124 118 0 (some 119)
theorem rz_125 : ∀ o, 119 ≤ o → em_r125 o = fun _ => none := fun o h => (em_pR_ne em_r124 0 (some 119) (show o ≠ 118 by omega)).trans (rz_124 o (by omega))
def em_r126 : em_Rt := em_pR em_r125 118 1 (some 120)
theorem rz_126 : ∀ o, 119 ≤ o → em_r126 o = fun _ => none := fun o h => (em_pR_ne em_r125 1 (some 120) (show o ≠ 118 by omega)).trans (rz_125 o (by omega))
def em_r127 : em_Rt := em_pR em_r126 118 2 (some 121)
theorem rz_127 : ∀ o, 119 ≤ o → em_r127 o = fun _ => none := fun o h => (em_pR_ne em_r126 2 (some 121) (show o ≠ 118 by omega)).trans (rz_126 o (by omega))
def em_r128 : em_Rt := em_pR em_r127 118 4 (some 122)
theorem rz_128 : ∀ o, 119 ≤ o → em_r128 o = fun _ => none := fun o h => (em_pR_ne em_r127 4 (some 122) (show o ≠ 118 by omega)).trans (rz_127 o (by omega))
def em_r129 : em_Rt := em_pR em_r128 118 5 (some 123)
theorem rz_129 : ∀ o, 119 ≤ o → em_r129 o = fun _ => none := fun o h => (em_pR_ne em_r128 5 (some 123) (show o ≠ 118 by omega)).trans (rz_128 o (by omega))
def em_r130 : em_Rt := em_pR em_r129 118 6 (some 124)
theorem rz_130 : ∀ o, 119 ≤ o → em_r130 o = fun _ => none := fun o h => (em_pR_ne em_r129 6 (some 124) (show o ≠ 118 by omega)).trans (rz_129 o (by omega))
def em_r131 : em_Rt := em_pR em_r130 118 7 (some 125)
theorem rz_131 : ∀ o, 119 ≤ o → em_r131 o = fun _ => none := fun o h => (em_pR_ne em_r130 7 (some 125) (show o ≠ 118 by omega)).trans (rz_130 o (by omega))
def em_r132 : em_Rt := em_pR em_r131 118 8 (some 126)
theorem rz_132 : ∀ o, 119 ≤ o → em_r132 o = fun _ => none := fun o h => (em_pR_ne em_r131 8 (some 126) (show o ≠ 118 by omega)).trans (rz_131 o (by omega))
def em_r133 : em_Rt := em_pR em_r132 118 10 (some 127)
theorem rz_133 : ∀ o, 119 ≤ o → em_r133 o = fun _ => none := fun o h => (em_pR_ne em_r132 10 (some 127) (show o ≠ 118 by omega)).trans (rz_132 o (by omega))
def em_r134 : em_Rt := em_pR em_r133 118 15 (some 128)
theorem rz_134 : ∀ o, 119 ≤ o → em_r134 o = fun _ => none := fun o h => (em_pR_ne em_r133 15 (some 128) (show o ≠ 118 by omega)).trans (rz_133 o (by omega))
def em_m26 : em_M := em_pI em_m25 129 0 (-1 : Int32)
theorem mz_26 : ∀ o, 130 ≤ o → em_m26.1 o = (fun _ => 0) ∧ em_m26.2 o = fun _ => 0 := fun o h => ⟨(em_pI_ne em_m25 0 (-1 : Int32) (show o ≠ 129 by omega)).trans (mz_25 o (by omega)).1, (mz_25 o (by omega)).2⟩
def em_m27 : em_M := em_pI em_m26 129 1 (-1 : Int32)
theorem mz_27 : ∀ o, 130 ≤ o → em_m27.1 o = (fun _ => 0) ∧ em_m27.2 o = fun _ => 0 := fun o h => ⟨(em_pI_ne em_m26 1 (-1 : Int32) (show o ≠ 129 by omega)).trans (mz_26 o (by omega)).1, (mz_26 o (by omega)).2⟩
def em_m28 : em_M := em_pI em_m27 129 2 (-1 : Int32)
theorem mz_28 : ∀ o, 130 ≤ o → em_m28.1 o = (fun _ => 0) ∧ em_m28.2 o = fun _ => 0 := fun o h => ⟨(em_pI_ne em_m27 2 (-1 : Int32) (show o ≠ 129 by omega)).trans (mz_27 o (by omega)).1, (mz_27 o (by omega)).2⟩
def em_m29 : em_M := em_pI em_m28 129 3 (-1 : Int32)
theorem mz_29 : ∀ o, 130 ≤ o → em_m29.1 o = (fun _ => 0) ∧ em_m29.2 o = fun _ => 0 := fun o h => ⟨(em_pI_ne em_m28 3 (-1 : Int32) (show o ≠ 129 by omega)).trans (mz_28 o (by omega)).1, (mz_28 o (by omega)).2⟩
def em_m30 : em_M := em_pI em_m29 129 4 (-1 : Int32)
theorem mz_30 : ∀ o, 130 ≤ o → em_m30.1 o = (fun _ => 0) ∧ em_m30.2 o = fun _ => 0 := fun o h => ⟨(em_pI_ne em_m29 4 (-1 : Int32) (show o ≠ 129 by omega)).trans (mz_29 o (by omega)).1, (mz_29 o (by omega)).2⟩
def em_m31 : em_M := em_pI em_m30 129 5 (-1 : Int32)
theorem mz_31 : ∀ o, 130 ≤ o → em_m31.1 o = (fun _ => 0) ∧ em_m31.2 o = fun _ => 0 := fun o h => ⟨(em_pI_ne em_m30 5 (-1 : Int32) (show o ≠ 129 by omega)).trans (mz_30 o (by omega)).1, (mz_30 o (by omega)).2⟩
def em_r135 : em_Rt := em_pR em_r134 118 16 (some 129)
theorem rz_135 : ∀ o, 119 ≤ o → em_r135 o = fun _ => none := fun o h => (em_pR_ne em_r134 16 (some 129) (show o ≠ 118 by omega)).trans (rz_134 o (by omega))
def em_r136 : em_Rt := em_pR em_r135 118 17 (some 130)
theorem rz_136 : ∀ o, 119 ≤ o → em_r136 o = fun _ => none := fun o h => (em_pR_ne em_r135 17 (some 130) (show o ≠ 118 by omega)).trans (rz_135 o (by omega))
def em_r137 : em_Rt := em_pR em_r136 118 18 (some 131)
theorem rz_137 : ∀ o, 119 ≤ o → em_r137 o = fun _ => none := fun o h => (em_pR_ne em_r136 18 (some 131) (show o ≠ 118 by omega)).trans (rz_136 o (by omega))
def em_m32 : em_M := em_pI em_m31 119 7 (-9 : Int32)
theorem mz_32 : ∀ o, 130 ≤ o → em_m32.1 o = (fun _ => 0) ∧ em_m32.2 o = fun _ => 0 := fun o h => ⟨(em_pI_ne em_m31 7 (-9 : Int32) (show o ≠ 119 by omega)).trans (mz_31 o (by omega)).1, (mz_31 o (by omega)).2⟩
def em_m33 : em_M := em_pI em_m32 119 4 (-5 : Int32)
theorem mz_33 : ∀ o, 130 ≤ o → em_m33.1 o = (fun _ => 0) ∧ em_m33.2 o = fun _ => 0 := fun o h => ⟨(em_pI_ne em_m32 4 (-5 : Int32) (show o ≠ 119 by omega)).trans (mz_32 o (by omega)).1, (mz_32 o (by omega)).2⟩
def em_m34 : em_M := em_pI em_m33 119 5 (-5 : Int32)
theorem mz_34 : ∀ o, 130 ≤ o → em_m34.1 o = (fun _ => 0) ∧ em_m34.2 o = fun _ => 0 := fun o h => ⟨(em_pI_ne em_m33 5 (-5 : Int32) (show o ≠ 119 by omega)).trans (mz_33 o (by omega)).1, (mz_33 o (by omega)).2⟩
def em_m35 : em_M := em_pI em_m34 119 6 (-5 : Int32)
theorem mz_35 : ∀ o, 130 ≤ o → em_m35.1 o = (fun _ => 0) ∧ em_m35.2 o = fun _ => 0 := fun o h => ⟨(em_pI_ne em_m34 6 (-5 : Int32) (show o ≠ 119 by omega)).trans (mz_34 o (by omega)).1, (mz_34 o (by omega)).2⟩
theorem ez_rn {X : em_X} {fr0 lo0 mc0 ms0 mc ms : Nat} (h : ez_rm X = { frames := fr0, cells := mc0, slots := ms0, locals := lo0 }) (hh : (Nat.ble mc mc0 && Nat.ble ms ms0) = true) : mc ≤ (ez_rm X).cells ∧ ms ≤ (ez_rm X).slots := by
  rw [h]
  simp only [Bool.and_eq_true] at hh
  exact ⟨Nat.le_of_ble_eq_true hh.1, Nat.le_of_ble_eq_true hh.2⟩
set_option maxHeartbeats 4000000 in
set_option maxRecDepth 100000 in
theorem ecn_2 (l : Launch) (D : em_G) (B : Nat) : em_C l D B yX2_init cX2_init 1 none 1 12 7 5640 true [.ref (B + 1)] 2 em_r0 em_m0 none 9 em_r7 em_m0 := by
  refine em_C_of RX2 [(0, .ref (B + 1))] (by decide) rfl rfl (Nat.le_of_ble_eq_true rfl) ?_
  rintro X rfl rfl rfl hRm hnL hnm hsz hX hQ
  refine ez_aload_n hX 0 dX2_init_0 rfl ?_
  refine ez_objInit hX wm_X2_3 ⟨ez_ra hRm rfl, ez_rb hRm rfl⟩ dX2_init_1 ?_
  refine ez_aload_n hX 0 dX2_init_4 rfl ?_
  refine ez_sipush hX (800 : Int32) dX2_init_5 (by decide) ?_
  refine ez_newI hX (N0 := 2) (hsz rfl) rfl kc_2 ⟨by decide, by decide, Nat.le_of_ble_eq_true rfl⟩ (fun j => congrFun (mz_0 2 (by decide)).1 j) (ez_rn hRm rfl) dX2_init_8 ?_
  refine ez_putFr hX kc_1 rfl (Nat.le_of_ble_eq_true rfl) (Nat.le_of_ble_eq_true rfl) (Nat.le_of_ble_eq_true rfl) inX2 tyX2 tyX2_ok nmX2 2 rfl wf_X2_9 rfl hnm rfl rfl rfl dX2_init_10 ?_
  show ez_Z X _ em_r1 em_m0 _ _ _ _ _
  refine ez_aload_n hX 0 dX2_init_13 rfl ?_
  refine ez_sipush hX (800 : Int32) dX2_init_14 (by decide) ?_
  refine ez_newI hX (N0 := 2) (hsz rfl) rfl kc_3 ⟨by decide, by decide, Nat.le_of_ble_eq_true rfl⟩ (fun j => congrFun (mz_0 3 (by decide)).1 j) (ez_rn hRm rfl) dX2_init_17 ?_
  refine ez_putFr hX kc_1 rfl (Nat.le_of_ble_eq_true rfl) (Nat.le_of_ble_eq_true rfl) (Nat.le_of_ble_eq_true rfl) inX2 tyX2 tyX2_ok nmX2 3 rfl wf_X2_15 rfl hnm rfl rfl rfl dX2_init_19 ?_
  show ez_Z X _ em_r2 em_m0 _ _ _ _ _
  refine ez_aload_n hX 0 dX2_init_22 rfl ?_
  refine ez_sipush hX (2400 : Int32) dX2_init_23 (by decide) ?_
  refine ez_newI hX (N0 := 2) (hsz rfl) rfl kc_4 ⟨by decide, by decide, Nat.le_of_ble_eq_true rfl⟩ (fun j => congrFun (mz_0 4 (by decide)).1 j) (ez_rn hRm rfl) dX2_init_26 ?_
  refine ez_putFr hX kc_1 rfl (Nat.le_of_ble_eq_true rfl) (Nat.le_of_ble_eq_true rfl) (Nat.le_of_ble_eq_true rfl) inX2 tyX2 tyX2_ok nmX2 4 rfl wf_X2_18 rfl hnm rfl rfl rfl dX2_init_28 ?_
  show ez_Z X _ em_r3 em_m0 _ _ _ _ _
  refine ez_aload_n hX 0 dX2_init_31 rfl ?_
  refine ez_sipush hX (800 : Int32) dX2_init_32 (by decide) ?_
  refine ez_newI hX (N0 := 2) (hsz rfl) rfl kc_5 ⟨by decide, by decide, Nat.le_of_ble_eq_true rfl⟩ (fun j => congrFun (mz_0 5 (by decide)).1 j) (ez_rn hRm rfl) dX2_init_35 ?_
  refine ez_putFr hX kc_1 rfl (Nat.le_of_ble_eq_true rfl) (Nat.le_of_ble_eq_true rfl) (Nat.le_of_ble_eq_true rfl) inX2 tyX2 tyX2_ok nmX2 5 rfl wf_X2_21 rfl hnm rfl rfl rfl dX2_init_37 ?_
  show ez_Z X _ em_r4 em_m0 _ _ _ _ _
  refine ez_aload_n hX 0 dX2_init_40 rfl ?_
  refine ez_sipush hX (800 : Int32) dX2_init_41 (by decide) ?_
  refine ez_newI hX (N0 := 2) (hsz rfl) rfl kc_6 ⟨by decide, by decide, Nat.le_of_ble_eq_true rfl⟩ (fun j => congrFun (mz_0 6 (by decide)).1 j) (ez_rn hRm rfl) dX2_init_44 ?_
  refine ez_putFr hX kc_1 rfl (Nat.le_of_ble_eq_true rfl) (Nat.le_of_ble_eq_true rfl) (Nat.le_of_ble_eq_true rfl) inX2 tyX2 tyX2_ok nmX2 6 rfl wf_X2_24 rfl hnm rfl rfl rfl dX2_init_46 ?_
  show ez_Z X _ em_r5 em_m0 _ _ _ _ _
  refine ez_aload_n hX 0 dX2_init_49 rfl ?_
  refine ez_bipush hX (8 : Int32) dX2_init_50 (by decide) ?_
  refine ez_newI hX (N0 := 2) (hsz rfl) rfl kc_7 ⟨by decide, by decide, Nat.le_of_ble_eq_true rfl⟩ (fun j => congrFun (mz_0 7 (by decide)).1 j) (ez_rn hRm rfl) dX2_init_52 ?_
  refine ez_putFr hX kc_1 rfl (Nat.le_of_ble_eq_true rfl) (Nat.le_of_ble_eq_true rfl) (Nat.le_of_ble_eq_true rfl) inX2 tyX2 tyX2_ok nmX2 7 rfl wf_X2_27 rfl hnm rfl rfl rfl dX2_init_54 ?_
  show ez_Z X _ em_r6 em_m0 _ _ _ _ _
  refine ez_aload_n hX 0 dX2_init_57 rfl ?_
  refine ez_bipush hX (32 : Int32) dX2_init_58 (by decide) ?_
  refine ez_newI hX (N0 := 2) (hsz rfl) rfl kc_8 ⟨by decide, by decide, Nat.le_of_ble_eq_true rfl⟩ (fun j => congrFun (mz_0 8 (by decide)).1 j) (ez_rn hRm rfl) dX2_init_60 ?_
  refine ez_putFr hX kc_1 rfl (Nat.le_of_ble_eq_true rfl) (Nat.le_of_ble_eq_true rfl) (Nat.le_of_ble_eq_true rfl) inX2 tyX2 tyX2_ok nmX2 8 rfl wf_X2_30 rfl hnm rfl rfl rfl dX2_init_62 ?_
  show ez_Z X _ em_r7 em_m0 _ _ _ _ _
  exact ez_vret hX hQ dX2_init_65 rfl rfl
set_option maxHeartbeats 4000000 in
set_option maxRecDepth 100000 in
theorem ecn_3 (l : Launch) (D : em_G) (B : Nat) : em_C l D B yX5_init cX5_init 2 none 1 12 1 100 true [.ref (B + 9), .ref (B + 1)] 10 em_r8 em_m0 none 11 em_r10 em_m0 := by
  refine em_C_of RX5 [(0, .ref (B + 9)), (1, .ref (B + 1))] (by decide) rfl rfl (Nat.le_of_ble_eq_true rfl) ?_
  rintro X rfl rfl rfl hRm hnL hnm hsz hX hQ
  refine ez_aload_n hX 0 dX5_init_0 rfl ?_
  refine ez_objInit hX wm_X5_3 ⟨ez_ra hRm rfl, ez_rb hRm rfl⟩ dX5_init_1 ?_
  refine ez_aload_n hX 0 dX5_init_4 rfl ?_
  refine ez_bipush hX (100 : Int32) dX5_init_5 (by decide) ?_
  refine ez_newI hX (N0 := 10) (hsz rfl) rfl kc_10 ⟨by decide, by decide, Nat.le_of_ble_eq_true rfl⟩ (fun j => congrFun (mz_0 10 (by decide)).1 j) (ez_rn hRm rfl) dX5_init_7 ?_
  refine ez_putFr hX kc_9 rfl (Nat.le_of_ble_eq_true rfl) (Nat.le_of_ble_eq_true rfl) (Nat.le_of_ble_eq_true rfl) inX5 tyX5 tyX5_ok nmX5 10 rfl wf_X5_9 rfl hnm rfl rfl rfl dX5_init_9 ?_
  show ez_Z X _ em_r9 em_m0 _ _ _ _ _
  refine ez_aload_n hX 0 dX5_init_12 rfl ?_
  refine ez_aload_n hX 1 dX5_init_13 rfl ?_
  refine ez_putFr hX kc_9 rfl (Nat.le_of_ble_eq_true rfl) (Nat.le_of_ble_eq_true rfl) (Nat.le_of_ble_eq_true rfl) inX5 tyX5 tyX5_ok nmX5 1 rfl wf_X5_15 rfl hnm rfl rfl rfl dX5_init_14 ?_
  show ez_Z X _ em_r10 em_m0 _ _ _ _ _
  exact ez_vret hX hQ dX5_init_17 rfl rfl
set_option maxHeartbeats 4000000 in
set_option maxRecDepth 100000 in
theorem ecn_5 (l : Launch) (D : em_G) (B : Nat) : em_C l D B yX6_init cX6_init 2 none 1 12 2 20 true [.ref (B + 12), .int (5 : Int32)] 13 em_r11 em_m0 none 15 em_r13 em_m1 := by
  refine em_C_of RX6 [(0, .ref (B + 12)), (1, .int (5 : Int32))] (by decide) rfl rfl (Nat.le_of_ble_eq_true rfl) ?_
  rintro X rfl rfl rfl hRm hnL hnm hsz hX hQ
  refine ez_aload_n hX 0 dX6_init_0 rfl ?_
  refine ez_objInit hX wm_X6_3 ⟨ez_ra hRm rfl, ez_rb hRm rfl⟩ dX6_init_1 ?_
  refine ez_aload_n hX 0 dX6_init_4 rfl ?_
  refine ez_bipush hX (10 : Int32) dX6_init_5 (by decide) ?_
  refine ez_newI hX (N0 := 13) (hsz rfl) rfl kc_13 ⟨by decide, by decide, Nat.le_of_ble_eq_true rfl⟩ (fun j => congrFun (mz_0 13 (by decide)).1 j) (ez_rn hRm rfl) dX6_init_7 ?_
  refine ez_putFr hX kc_12 rfl (Nat.le_of_ble_eq_true rfl) (Nat.le_of_ble_eq_true rfl) (Nat.le_of_ble_eq_true rfl) inX6 tyX6 tyX6_ok nmX6 13 rfl wf_X6_9 rfl hnm rfl rfl rfl dX6_init_9 ?_
  show ez_Z X _ em_r12 em_m0 _ _ _ _ _
  refine ez_aload_n hX 0 dX6_init_12 rfl ?_
  refine ez_bipush hX (10 : Int32) dX6_init_13 (by decide) ?_
  refine ez_newI hX (N0 := 13) (hsz rfl) rfl kc_14 ⟨by decide, by decide, Nat.le_of_ble_eq_true rfl⟩ (fun j => congrFun (mz_0 14 (by decide)).1 j) (ez_rn hRm rfl) dX6_init_15 ?_
  refine ez_putFr hX kc_12 rfl (Nat.le_of_ble_eq_true rfl) (Nat.le_of_ble_eq_true rfl) (Nat.le_of_ble_eq_true rfl) inX6 tyX6 tyX6_ok nmX6 14 rfl wf_X6_15 rfl hnm rfl rfl rfl dX6_init_17 ?_
  show ez_Z X _ em_r13 em_m0 _ _ _ _ _
  refine ez_aload_n hX 0 dX6_init_20 rfl ?_
  refine ez_iload_n hX 1 dX6_init_21 rfl ?_
  refine ez_putFi hX kc_12 rfl (Nat.le_of_ble_eq_true rfl) (Nat.le_of_ble_eq_true rfl) (Nat.le_of_ble_eq_true rfl) inX6 tyX6 tyX6_ok nmX6 (5 : Int32) rfl wf_X6_18 rfl hnm rfl rfl rfl dX6_init_22 ?_
  show ez_Z X _ em_r13 em_m1 _ _ _ _ _
  exact ez_vret hX hQ dX6_init_25 rfl rfl
set_option maxHeartbeats 4000000 in
set_option maxRecDepth 100000 in
theorem ecn_6 (l : Launch) (D : em_G) (B : Nat) : em_C l D B yX6_init cX6_init 2 none 1 12 2 20 true [.ref (B + 15), .int (10 : Int32)] 16 em_r14 em_m1 none 18 em_r16 em_m2 := by
  refine em_C_of RX6 [(0, .ref (B + 15)), (1, .int (10 : Int32))] (by decide) rfl rfl (Nat.le_of_ble_eq_true rfl) ?_
  rintro X rfl rfl rfl hRm hnL hnm hsz hX hQ
  refine ez_aload_n hX 0 dX6_init_0 rfl ?_
  refine ez_objInit hX wm_X6_3 ⟨ez_ra hRm rfl, ez_rb hRm rfl⟩ dX6_init_1 ?_
  refine ez_aload_n hX 0 dX6_init_4 rfl ?_
  refine ez_bipush hX (10 : Int32) dX6_init_5 (by decide) ?_
  refine ez_newI hX (N0 := 16) (hsz rfl) rfl kc_16 ⟨by decide, by decide, Nat.le_of_ble_eq_true rfl⟩ (fun j => congrFun (mz_1 16 (by decide)).1 j) (ez_rn hRm rfl) dX6_init_7 ?_
  refine ez_putFr hX kc_15 rfl (Nat.le_of_ble_eq_true rfl) (Nat.le_of_ble_eq_true rfl) (Nat.le_of_ble_eq_true rfl) inX6 tyX6 tyX6_ok nmX6 16 rfl wf_X6_9 rfl hnm rfl rfl rfl dX6_init_9 ?_
  show ez_Z X _ em_r15 em_m1 _ _ _ _ _
  refine ez_aload_n hX 0 dX6_init_12 rfl ?_
  refine ez_bipush hX (10 : Int32) dX6_init_13 (by decide) ?_
  refine ez_newI hX (N0 := 16) (hsz rfl) rfl kc_17 ⟨by decide, by decide, Nat.le_of_ble_eq_true rfl⟩ (fun j => congrFun (mz_1 17 (by decide)).1 j) (ez_rn hRm rfl) dX6_init_15 ?_
  refine ez_putFr hX kc_15 rfl (Nat.le_of_ble_eq_true rfl) (Nat.le_of_ble_eq_true rfl) (Nat.le_of_ble_eq_true rfl) inX6 tyX6 tyX6_ok nmX6 17 rfl wf_X6_15 rfl hnm rfl rfl rfl dX6_init_17 ?_
  show ez_Z X _ em_r16 em_m1 _ _ _ _ _
  refine ez_aload_n hX 0 dX6_init_20 rfl ?_
  refine ez_iload_n hX 1 dX6_init_21 rfl ?_
  refine ez_putFi hX kc_15 rfl (Nat.le_of_ble_eq_true rfl) (Nat.le_of_ble_eq_true rfl) (Nat.le_of_ble_eq_true rfl) inX6 tyX6 tyX6_ok nmX6 (10 : Int32) rfl wf_X6_18 rfl hnm rfl rfl rfl dX6_init_22 ?_
  show ez_Z X _ em_r16 em_m2 _ _ _ _ _
  exact ez_vret hX hQ dX6_init_25 rfl rfl
set_option maxHeartbeats 4000000 in
set_option maxRecDepth 100000 in
theorem ecn_7 (l : Launch) (D : em_G) (B : Nat) : em_C l D B yX6_init cX6_init 2 none 1 12 2 20 true [.ref (B + 18), .int (8 : Int32)] 19 em_r17 em_m2 none 21 em_r19 em_m3 := by
  refine em_C_of RX6 [(0, .ref (B + 18)), (1, .int (8 : Int32))] (by decide) rfl rfl (Nat.le_of_ble_eq_true rfl) ?_
  rintro X rfl rfl rfl hRm hnL hnm hsz hX hQ
  refine ez_aload_n hX 0 dX6_init_0 rfl ?_
  refine ez_objInit hX wm_X6_3 ⟨ez_ra hRm rfl, ez_rb hRm rfl⟩ dX6_init_1 ?_
  refine ez_aload_n hX 0 dX6_init_4 rfl ?_
  refine ez_bipush hX (10 : Int32) dX6_init_5 (by decide) ?_
  refine ez_newI hX (N0 := 19) (hsz rfl) rfl kc_19 ⟨by decide, by decide, Nat.le_of_ble_eq_true rfl⟩ (fun j => congrFun (mz_2 19 (by decide)).1 j) (ez_rn hRm rfl) dX6_init_7 ?_
  refine ez_putFr hX kc_18 rfl (Nat.le_of_ble_eq_true rfl) (Nat.le_of_ble_eq_true rfl) (Nat.le_of_ble_eq_true rfl) inX6 tyX6 tyX6_ok nmX6 19 rfl wf_X6_9 rfl hnm rfl rfl rfl dX6_init_9 ?_
  show ez_Z X _ em_r18 em_m2 _ _ _ _ _
  refine ez_aload_n hX 0 dX6_init_12 rfl ?_
  refine ez_bipush hX (10 : Int32) dX6_init_13 (by decide) ?_
  refine ez_newI hX (N0 := 19) (hsz rfl) rfl kc_20 ⟨by decide, by decide, Nat.le_of_ble_eq_true rfl⟩ (fun j => congrFun (mz_2 20 (by decide)).1 j) (ez_rn hRm rfl) dX6_init_15 ?_
  refine ez_putFr hX kc_18 rfl (Nat.le_of_ble_eq_true rfl) (Nat.le_of_ble_eq_true rfl) (Nat.le_of_ble_eq_true rfl) inX6 tyX6 tyX6_ok nmX6 20 rfl wf_X6_15 rfl hnm rfl rfl rfl dX6_init_17 ?_
  show ez_Z X _ em_r19 em_m2 _ _ _ _ _
  refine ez_aload_n hX 0 dX6_init_20 rfl ?_
  refine ez_iload_n hX 1 dX6_init_21 rfl ?_
  refine ez_putFi hX kc_18 rfl (Nat.le_of_ble_eq_true rfl) (Nat.le_of_ble_eq_true rfl) (Nat.le_of_ble_eq_true rfl) inX6 tyX6 tyX6_ok nmX6 (8 : Int32) rfl wf_X6_18 rfl hnm rfl rfl rfl dX6_init_22 ?_
  show ez_Z X _ em_r19 em_m3 _ _ _ _ _
  exact ez_vret hX hQ dX6_init_25 rfl rfl
set_option maxHeartbeats 4000000 in
set_option maxRecDepth 100000 in
theorem ecn_8 (l : Launch) (D : em_G) (B : Nat) : em_C l D B yX10_init cX10_init 2 none 1 12 2 7 true [.ref (B + 21)] 22 em_r20 em_m3 none 24 em_r22 em_m6 := by
  refine em_C_of RX10 [(0, .ref (B + 21))] (by decide) rfl rfl (Nat.le_of_ble_eq_true rfl) ?_
  rintro X rfl rfl rfl hRm hnL hnm hsz hX hQ
  refine ez_aload_n hX 0 dX10_init_0 rfl ?_
  refine ez_objInit hX wm_X10_3 ⟨ez_ra hRm rfl, ez_rb hRm rfl⟩ dX10_init_1 ?_
  refine ez_aload_n hX 0 dX10_init_4 rfl ?_
  refine ez_iconst hX (4 : Int32) dX10_init_5 (by decide) ?_
  refine ez_newI hX (N0 := 22) (hsz rfl) rfl kc_22 ⟨by decide, by decide, Nat.le_of_ble_eq_true rfl⟩ (fun j => congrFun (mz_3 22 (by decide)).1 j) (ez_rn hRm rfl) dX10_init_6 ?_
  refine ez_putFr hX kc_21 rfl (Nat.le_of_ble_eq_true rfl) (Nat.le_of_ble_eq_true rfl) (Nat.le_of_ble_eq_true rfl) inX10 tyX10 tyX10_ok nmX10 22 rfl wf_X10_9 rfl hnm rfl rfl rfl dX10_init_8 ?_
  show ez_Z X _ em_r21 em_m3 _ _ _ _ _
  refine ez_aload_n hX 0 dX10_init_11 rfl ?_
  refine ez_iconst hX (3 : Int32) dX10_init_12 (by decide) ?_
  refine ez_newI hX (N0 := 22) (hsz rfl) rfl kc_23 ⟨by decide, by decide, Nat.le_of_ble_eq_true rfl⟩ (fun j => congrFun (mz_3 23 (by decide)).1 j) (ez_rn hRm rfl) dX10_init_13 ?_
  refine ez_putFr hX kc_21 rfl (Nat.le_of_ble_eq_true rfl) (Nat.le_of_ble_eq_true rfl) (Nat.le_of_ble_eq_true rfl) inX10 tyX10 tyX10_ok nmX10 23 rfl wf_X10_15 rfl hnm rfl rfl rfl dX10_init_15 ?_
  show ez_Z X _ em_r22 em_m3 _ _ _ _ _
  refine ez_iconst hX (0 : Int32) dX10_init_18 (by decide) ?_
  refine ez_istore_n hX [(1, .int (0 : Int32)), (0, .ref (ez_B X + 21))] dX10_init_19 (ez_lt hnL rfl) rfl ?_
  refine ez_iload_n hX 0 dX10_init_20 rfl ?_
  refine ez_aload_n hX 1 dX10_init_21 rfl ?_
  refine ez_getr hX kc_21 rfl (Nat.le_of_ble_eq_true rfl) (Nat.le_of_ble_eq_true rfl) (Nat.le_of_ble_eq_true rfl) inX10 23 rfl (by decide +kernel) wf_X10_15 dX10_init_22 ?_
  refine ez_alenI hX kc_23 (Nat.le_of_ble_eq_true rfl) (3 : Int32) (by decide) dX10_init_25 ?_
  refine ez_icmp_ge hX 43 dX10_init_26 (by decide) (fun c => absurd c (by decide)) (fun _ => ?_)
  refine ez_aload_n hX 1 dX10_init_29 rfl ?_
  refine ez_getr hX kc_21 rfl (Nat.le_of_ble_eq_true rfl) (Nat.le_of_ble_eq_true rfl) (Nat.le_of_ble_eq_true rfl) inX10 23 rfl (by decide +kernel) wf_X10_15 dX10_init_30 ?_
  refine ez_iload_n hX 0 dX10_init_33 rfl ?_
  refine ez_bipush hX (-5 : Int32) dX10_init_34 (by decide) ?_
  refine ez_iast hX kc_23 (Nat.le_of_ble_eq_true rfl) (by unfold vp_in; decide) dX10_init_36 ?_
  show ez_Z X _ em_r22 em_m4 _ _ _ _ _
  refine ez_iinc hX (1 : Int32) 0 [(1, .int (1 : Int32)), (0, .ref (ez_B X + 21))] dX10_init_37 rfl (by decide) (ez_lt hnL rfl) rfl ?_
  refine ez_goto hX 20 dX10_init_40 (by decide) ?_
  refine ez_iload_n hX 0 dX10_init_20 rfl ?_
  refine ez_aload_n hX 1 dX10_init_21 rfl ?_
  refine ez_getr hX kc_21 rfl (Nat.le_of_ble_eq_true rfl) (Nat.le_of_ble_eq_true rfl) (Nat.le_of_ble_eq_true rfl) inX10 23 rfl (by decide +kernel) wf_X10_15 dX10_init_22 ?_
  refine ez_alenI hX kc_23 (Nat.le_of_ble_eq_true rfl) (3 : Int32) (by decide) dX10_init_25 ?_
  refine ez_icmp_ge hX 43 dX10_init_26 (by decide) (fun c => absurd c (by decide)) (fun _ => ?_)
  refine ez_aload_n hX 1 dX10_init_29 rfl ?_
  refine ez_getr hX kc_21 rfl (Nat.le_of_ble_eq_true rfl) (Nat.le_of_ble_eq_true rfl) (Nat.le_of_ble_eq_true rfl) inX10 23 rfl (by decide +kernel) wf_X10_15 dX10_init_30 ?_
  refine ez_iload_n hX 0 dX10_init_33 rfl ?_
  refine ez_bipush hX (-5 : Int32) dX10_init_34 (by decide) ?_
  refine ez_iast hX kc_23 (Nat.le_of_ble_eq_true rfl) (by unfold vp_in; decide) dX10_init_36 ?_
  show ez_Z X _ em_r22 em_m5 _ _ _ _ _
  refine ez_iinc hX (2 : Int32) 0 [(1, .int (2 : Int32)), (0, .ref (ez_B X + 21))] dX10_init_37 rfl (by decide) (ez_lt hnL rfl) rfl ?_
  refine ez_goto hX 20 dX10_init_40 (by decide) ?_
  refine ez_iload_n hX 0 dX10_init_20 rfl ?_
  refine ez_aload_n hX 1 dX10_init_21 rfl ?_
  refine ez_getr hX kc_21 rfl (Nat.le_of_ble_eq_true rfl) (Nat.le_of_ble_eq_true rfl) (Nat.le_of_ble_eq_true rfl) inX10 23 rfl (by decide +kernel) wf_X10_15 dX10_init_22 ?_
  refine ez_alenI hX kc_23 (Nat.le_of_ble_eq_true rfl) (3 : Int32) (by decide) dX10_init_25 ?_
  refine ez_icmp_ge hX 43 dX10_init_26 (by decide) (fun c => absurd c (by decide)) (fun _ => ?_)
  refine ez_aload_n hX 1 dX10_init_29 rfl ?_
  refine ez_getr hX kc_21 rfl (Nat.le_of_ble_eq_true rfl) (Nat.le_of_ble_eq_true rfl) (Nat.le_of_ble_eq_true rfl) inX10 23 rfl (by decide +kernel) wf_X10_15 dX10_init_30 ?_
  refine ez_iload_n hX 0 dX10_init_33 rfl ?_
  refine ez_bipush hX (-5 : Int32) dX10_init_34 (by decide) ?_
  refine ez_iast hX kc_23 (Nat.le_of_ble_eq_true rfl) (by unfold vp_in; decide) dX10_init_36 ?_
  show ez_Z X _ em_r22 em_m6 _ _ _ _ _
  refine ez_iinc hX (3 : Int32) 0 [(1, .int (3 : Int32)), (0, .ref (ez_B X + 21))] dX10_init_37 rfl (by decide) (ez_lt hnL rfl) rfl ?_
  refine ez_goto hX 20 dX10_init_40 (by decide) ?_
  refine ez_iload_n hX 0 dX10_init_20 rfl ?_
  refine ez_aload_n hX 1 dX10_init_21 rfl ?_
  refine ez_getr hX kc_21 rfl (Nat.le_of_ble_eq_true rfl) (Nat.le_of_ble_eq_true rfl) (Nat.le_of_ble_eq_true rfl) inX10 23 rfl (by decide +kernel) wf_X10_15 dX10_init_22 ?_
  refine ez_alenI hX kc_23 (Nat.le_of_ble_eq_true rfl) (3 : Int32) (by decide) dX10_init_25 ?_
  refine ez_icmp_ge hX 43 dX10_init_26 (by decide) (fun _ => ?_) (fun c => absurd (by decide) c)
  exact ez_vret hX hQ dX10_init_43 rfl rfl
set_option maxHeartbeats 4000000 in
set_option maxRecDepth 100000 in
theorem ecn_10 (l : Launch) (D : em_G) (B : Nat) : em_C l D B yX4_init cX4_init 1 none 1 12 1 40 true [.ref (B + 25)] 26 em_r23 em_m6 none 27 em_r24 em_m7 := by
  refine em_C_of RX4 [(0, .ref (B + 25))] (by decide) rfl rfl (Nat.le_of_ble_eq_true rfl) ?_
  rintro X rfl rfl rfl hRm hnL hnm hsz hX hQ
  refine ez_aload_n hX 0 dX4_init_0 rfl ?_
  refine ez_objInit hX wm_X4_3 ⟨ez_ra hRm rfl, ez_rb hRm rfl⟩ dX4_init_1 ?_
  refine ez_aload_n hX 0 dX4_init_4 rfl ?_
  refine ez_bipush hX (-9 : Int32) dX4_init_5 (by decide) ?_
  refine ez_puti hX kc_25 rfl (Nat.le_of_ble_eq_true rfl) (Nat.le_of_ble_eq_true rfl) (Nat.le_of_ble_eq_true rfl) inX4 tyX4 tyX4_ok nmX4 (-9 : Int32) rfl wf_X4_9 rfl  rfl rfl dX4_init_7 ?_
  show ez_Z X _ em_r23 em_m7 _ _ _ _ _
  refine ez_aload_n hX 0 dX4_init_10 rfl ?_
  refine ez_bipush hX (40 : Int32) dX4_init_11 (by decide) ?_
  refine ez_newI hX (N0 := 26) (hsz rfl) rfl kc_26 ⟨by decide, by decide, Nat.le_of_ble_eq_true rfl⟩ (fun j => congrFun (mz_7 26 (by decide)).1 j) (ez_rn hRm rfl) dX4_init_13 ?_
  refine ez_putFr hX kc_25 rfl (Nat.le_of_ble_eq_true rfl) (Nat.le_of_ble_eq_true rfl) (Nat.le_of_ble_eq_true rfl) inX4 tyX4 tyX4_ok nmX4 26 rfl wf_X4_15 rfl hnm rfl rfl rfl dX4_init_15 ?_
  show ez_Z X _ em_r24 em_m7 _ _ _ _ _
  exact ez_vret hX hQ dX4_init_18 rfl rfl
set_option maxHeartbeats 4000000 in
set_option maxRecDepth 100000 in
theorem ecn_11 (l : Launch) (D : em_G) (B : Nat) : em_C l D B yX7_init cX7_init 1 none 1 12 1 1204 true [.ref (B + 27)] 28 em_r25 em_m7 none 29 em_r26 em_m7 := by
  refine em_C_of RX7 [(0, .ref (B + 27))] (by decide) rfl rfl (Nat.le_of_ble_eq_true rfl) ?_
  rintro X rfl rfl rfl hRm hnL hnm hsz hX hQ
  refine ez_aload_n hX 0 dX7_init_0 rfl ?_
  refine ez_objInit hX wm_X7_3 ⟨ez_ra hRm rfl, ez_rb hRm rfl⟩ dX7_init_1 ?_
  refine ez_aload_n hX 0 dX7_init_4 rfl ?_
  refine ez_sipush hX (1204 : Int32) dX7_init_5 (by decide) ?_
  refine ez_newJ hX (N0 := 28) (hsz rfl) rfl kc_28 ⟨by decide, by decide, Nat.le_of_ble_eq_true rfl⟩ (fun j => congrFun (mz_7 28 (by decide)).2 j) (ez_rn hRm rfl) dX7_init_8 ?_
  refine ez_putFr hX kc_27 rfl (Nat.le_of_ble_eq_true rfl) (Nat.le_of_ble_eq_true rfl) (Nat.le_of_ble_eq_true rfl) inX7 tyX7 tyX7_ok nmX7 28 rfl wf_X7_9 rfl hnm rfl rfl rfl dX7_init_10 ?_
  show ez_Z X _ em_r26 em_m7 _ _ _ _ _
  exact ez_vret hX hQ dX7_init_13 rfl rfl
set_option maxHeartbeats 4000000 in
set_option maxRecDepth 100000 in
theorem ecn_12 (l : Launch) (D : em_G) (B : Nat) : em_C l D B yX0_init cX0_init 1 none 1 12 8 2408 true [.ref (B + 29)] 30 em_r27 em_m7 none 38 em_r35 em_m7 := by
  refine em_C_of RX0 [(0, .ref (B + 29))] (by decide) rfl rfl (Nat.le_of_ble_eq_true rfl) ?_
  rintro X rfl rfl rfl hRm hnL hnm hsz hX hQ
  refine ez_aload_n hX 0 dX0_init_0 rfl ?_
  refine ez_objInit hX wm_X0_3 ⟨ez_ra hRm rfl, ez_rb hRm rfl⟩ dX0_init_1 ?_
  refine ez_aload_n hX 0 dX0_init_4 rfl ?_
  refine ez_sipush hX (301 : Int32) dX0_init_5 (by decide) ?_
  refine ez_newI hX (N0 := 30) (hsz rfl) rfl kc_30 ⟨by decide, by decide, Nat.le_of_ble_eq_true rfl⟩ (fun j => congrFun (mz_7 30 (by decide)).1 j) (ez_rn hRm rfl) dX0_init_8 ?_
  refine ez_putFr hX kc_29 rfl (Nat.le_of_ble_eq_true rfl) (Nat.le_of_ble_eq_true rfl) (Nat.le_of_ble_eq_true rfl) inX0 tyX0 tyX0_ok nmX0 30 rfl wf_X0_9 rfl hnm rfl rfl rfl dX0_init_10 ?_
  show ez_Z X _ em_r28 em_m7 _ _ _ _ _
  refine ez_aload_n hX 0 dX0_init_13 rfl ?_
  refine ez_sipush hX (301 : Int32) dX0_init_14 (by decide) ?_
  refine ez_newI hX (N0 := 30) (hsz rfl) rfl kc_31 ⟨by decide, by decide, Nat.le_of_ble_eq_true rfl⟩ (fun j => congrFun (mz_7 31 (by decide)).1 j) (ez_rn hRm rfl) dX0_init_17 ?_
  refine ez_putFr hX kc_29 rfl (Nat.le_of_ble_eq_true rfl) (Nat.le_of_ble_eq_true rfl) (Nat.le_of_ble_eq_true rfl) inX0 tyX0 tyX0_ok nmX0 31 rfl wf_X0_15 rfl hnm rfl rfl rfl dX0_init_19 ?_
  show ez_Z X _ em_r29 em_m7 _ _ _ _ _
  refine ez_aload_n hX 0 dX0_init_22 rfl ?_
  refine ez_sipush hX (301 : Int32) dX0_init_23 (by decide) ?_
  refine ez_newI hX (N0 := 30) (hsz rfl) rfl kc_32 ⟨by decide, by decide, Nat.le_of_ble_eq_true rfl⟩ (fun j => congrFun (mz_7 32 (by decide)).1 j) (ez_rn hRm rfl) dX0_init_26 ?_
  refine ez_putFr hX kc_29 rfl (Nat.le_of_ble_eq_true rfl) (Nat.le_of_ble_eq_true rfl) (Nat.le_of_ble_eq_true rfl) inX0 tyX0 tyX0_ok nmX0 32 rfl wf_X0_18 rfl hnm rfl rfl rfl dX0_init_28 ?_
  show ez_Z X _ em_r30 em_m7 _ _ _ _ _
  refine ez_aload_n hX 0 dX0_init_31 rfl ?_
  refine ez_sipush hX (301 : Int32) dX0_init_32 (by decide) ?_
  refine ez_newI hX (N0 := 30) (hsz rfl) rfl kc_33 ⟨by decide, by decide, Nat.le_of_ble_eq_true rfl⟩ (fun j => congrFun (mz_7 33 (by decide)).1 j) (ez_rn hRm rfl) dX0_init_35 ?_
  refine ez_putFr hX kc_29 rfl (Nat.le_of_ble_eq_true rfl) (Nat.le_of_ble_eq_true rfl) (Nat.le_of_ble_eq_true rfl) inX0 tyX0 tyX0_ok nmX0 33 rfl wf_X0_21 rfl hnm rfl rfl rfl dX0_init_37 ?_
  show ez_Z X _ em_r31 em_m7 _ _ _ _ _
  refine ez_aload_n hX 0 dX0_init_40 rfl ?_
  refine ez_sipush hX (301 : Int32) dX0_init_41 (by decide) ?_
  refine ez_newI hX (N0 := 30) (hsz rfl) rfl kc_34 ⟨by decide, by decide, Nat.le_of_ble_eq_true rfl⟩ (fun j => congrFun (mz_7 34 (by decide)).1 j) (ez_rn hRm rfl) dX0_init_44 ?_
  refine ez_putFr hX kc_29 rfl (Nat.le_of_ble_eq_true rfl) (Nat.le_of_ble_eq_true rfl) (Nat.le_of_ble_eq_true rfl) inX0 tyX0 tyX0_ok nmX0 34 rfl wf_X0_24 rfl hnm rfl rfl rfl dX0_init_46 ?_
  show ez_Z X _ em_r32 em_m7 _ _ _ _ _
  refine ez_aload_n hX 0 dX0_init_49 rfl ?_
  refine ez_sipush hX (301 : Int32) dX0_init_50 (by decide) ?_
  refine ez_newI hX (N0 := 30) (hsz rfl) rfl kc_35 ⟨by decide, by decide, Nat.le_of_ble_eq_true rfl⟩ (fun j => congrFun (mz_7 35 (by decide)).1 j) (ez_rn hRm rfl) dX0_init_53 ?_
  refine ez_putFr hX kc_29 rfl (Nat.le_of_ble_eq_true rfl) (Nat.le_of_ble_eq_true rfl) (Nat.le_of_ble_eq_true rfl) inX0 tyX0 tyX0_ok nmX0 35 rfl wf_X0_27 rfl hnm rfl rfl rfl dX0_init_55 ?_
  show ez_Z X _ em_r33 em_m7 _ _ _ _ _
  refine ez_aload_n hX 0 dX0_init_58 rfl ?_
  refine ez_sipush hX (301 : Int32) dX0_init_59 (by decide) ?_
  refine ez_newI hX (N0 := 30) (hsz rfl) rfl kc_36 ⟨by decide, by decide, Nat.le_of_ble_eq_true rfl⟩ (fun j => congrFun (mz_7 36 (by decide)).1 j) (ez_rn hRm rfl) dX0_init_62 ?_
  refine ez_putFr hX kc_29 rfl (Nat.le_of_ble_eq_true rfl) (Nat.le_of_ble_eq_true rfl) (Nat.le_of_ble_eq_true rfl) inX0 tyX0 tyX0_ok nmX0 36 rfl wf_X0_30 rfl hnm rfl rfl rfl dX0_init_64 ?_
  show ez_Z X _ em_r34 em_m7 _ _ _ _ _
  refine ez_aload_n hX 0 dX0_init_67 rfl ?_
  refine ez_sipush hX (301 : Int32) dX0_init_68 (by decide) ?_
  refine ez_newJ hX (N0 := 30) (hsz rfl) rfl kc_37 ⟨by decide, by decide, Nat.le_of_ble_eq_true rfl⟩ (fun j => congrFun (mz_7 37 (by decide)).2 j) (ez_rn hRm rfl) dX0_init_71 ?_
  refine ez_putFr hX kc_29 rfl (Nat.le_of_ble_eq_true rfl) (Nat.le_of_ble_eq_true rfl) (Nat.le_of_ble_eq_true rfl) inX0 tyX0 tyX0_ok nmX0 37 rfl wf_X0_33 rfl hnm rfl rfl rfl dX0_init_73 ?_
  show ez_Z X _ em_r35 em_m7 _ _ _ _ _
  exact ez_vret hX hQ dX0_init_76 rfl rfl
set_option maxHeartbeats 4000000 in
set_option maxRecDepth 100000 in
theorem ecn_13 (l : Launch) (D : em_G) (B : Nat) : em_C l D B yX9_init cX9_init 1 none 1 12 4 1204 true [.ref (B + 38)] 39 em_r36 em_m7 none 43 em_r40 em_m7 := by
  refine em_C_of RX9 [(0, .ref (B + 38))] (by decide) rfl rfl (Nat.le_of_ble_eq_true rfl) ?_
  rintro X rfl rfl rfl hRm hnL hnm hsz hX hQ
  refine ez_aload_n hX 0 dX9_init_0 rfl ?_
  refine ez_objInit hX wm_X9_3 ⟨ez_ra hRm rfl, ez_rb hRm rfl⟩ dX9_init_1 ?_
  refine ez_aload_n hX 0 dX9_init_4 rfl ?_
  refine ez_sipush hX (301 : Int32) dX9_init_5 (by decide) ?_
  refine ez_newI hX (N0 := 39) (hsz rfl) rfl kc_39 ⟨by decide, by decide, Nat.le_of_ble_eq_true rfl⟩ (fun j => congrFun (mz_7 39 (by decide)).1 j) (ez_rn hRm rfl) dX9_init_8 ?_
  refine ez_putFr hX kc_38 rfl (Nat.le_of_ble_eq_true rfl) (Nat.le_of_ble_eq_true rfl) (Nat.le_of_ble_eq_true rfl) inX9 tyX9 tyX9_ok nmX9 39 rfl wf_X9_9 rfl hnm rfl rfl rfl dX9_init_10 ?_
  show ez_Z X _ em_r37 em_m7 _ _ _ _ _
  refine ez_aload_n hX 0 dX9_init_13 rfl ?_
  refine ez_sipush hX (301 : Int32) dX9_init_14 (by decide) ?_
  refine ez_newI hX (N0 := 39) (hsz rfl) rfl kc_40 ⟨by decide, by decide, Nat.le_of_ble_eq_true rfl⟩ (fun j => congrFun (mz_7 40 (by decide)).1 j) (ez_rn hRm rfl) dX9_init_17 ?_
  refine ez_putFr hX kc_38 rfl (Nat.le_of_ble_eq_true rfl) (Nat.le_of_ble_eq_true rfl) (Nat.le_of_ble_eq_true rfl) inX9 tyX9 tyX9_ok nmX9 40 rfl wf_X9_15 rfl hnm rfl rfl rfl dX9_init_19 ?_
  show ez_Z X _ em_r38 em_m7 _ _ _ _ _
  refine ez_aload_n hX 0 dX9_init_22 rfl ?_
  refine ez_sipush hX (301 : Int32) dX9_init_23 (by decide) ?_
  refine ez_newI hX (N0 := 39) (hsz rfl) rfl kc_41 ⟨by decide, by decide, Nat.le_of_ble_eq_true rfl⟩ (fun j => congrFun (mz_7 41 (by decide)).1 j) (ez_rn hRm rfl) dX9_init_26 ?_
  refine ez_putFr hX kc_38 rfl (Nat.le_of_ble_eq_true rfl) (Nat.le_of_ble_eq_true rfl) (Nat.le_of_ble_eq_true rfl) inX9 tyX9 tyX9_ok nmX9 41 rfl wf_X9_18 rfl hnm rfl rfl rfl dX9_init_28 ?_
  show ez_Z X _ em_r39 em_m7 _ _ _ _ _
  refine ez_aload_n hX 0 dX9_init_31 rfl ?_
  refine ez_sipush hX (301 : Int32) dX9_init_32 (by decide) ?_
  refine ez_newI hX (N0 := 39) (hsz rfl) rfl kc_42 ⟨by decide, by decide, Nat.le_of_ble_eq_true rfl⟩ (fun j => congrFun (mz_7 42 (by decide)).1 j) (ez_rn hRm rfl) dX9_init_35 ?_
  refine ez_putFr hX kc_38 rfl (Nat.le_of_ble_eq_true rfl) (Nat.le_of_ble_eq_true rfl) (Nat.le_of_ble_eq_true rfl) inX9 tyX9 tyX9_ok nmX9 42 rfl wf_X9_21 rfl hnm rfl rfl rfl dX9_init_37 ?_
  show ez_Z X _ em_r40 em_m7 _ _ _ _ _
  exact ez_vret hX hQ dX9_init_40 rfl rfl
set_option maxHeartbeats 4000000 in
set_option maxRecDepth 100000 in
theorem ecn_9 (l : Launch) (D : em_G) (B : Nat) : em_C l D B yX3_init cX3_init 3 none 2 32 20 5480 true [.ref (B + 24), .ref (B + 1), .ref (B + 21)] 25 em_r23 em_m6 none 45 em_r45 em_m7 := by
  refine em_C_of RX3 [(0, .ref (B + 24)), (1, .ref (B + 1)), (2, .ref (B + 21))] (by decide) rfl rfl (Nat.le_of_ble_eq_true rfl) ?_
  rintro X rfl rfl rfl hRm hnL hnm hsz hX hQ
  refine ez_aload_n hX 0 dX3_init_0 rfl ?_
  refine ez_objInit hX wm_X3_3 ⟨ez_ra hRm rfl, ez_rb hRm rfl⟩ dX3_init_1 ?_
  refine ez_aload_n hX 0 dX3_init_4 rfl ?_
  refine ez_new hX (N0 := 25) (hsz rfl) rfl kc_25 (Nat.le_of_ble_eq_true rfl) rfl inX4 tyX4 tyX4_ok (ez_df4 (rz_23 25 (by decide)) (mz_6 25 (by decide))) wc_X3_9 wn_X4 wi_X4 (ez_rn hRm rfl) dX3_init_5 ?_
  refine ez_dup hX dX3_init_8 rfl ?_
  refine ez_callIN hX (N0 := 25) (As := []) (st := [.ref (ez_B X + 25), .ref (ez_B X + 24)]) (ecn_10 _ _ _) (Or.inr ⟨hsz rfl, rfl⟩) wm_X3_11 wv_X4_init rfl wy_X4_init rfl wd_X4_init wi_X4 (ez_rok hRm rfl) (Nat.le_of_ble_eq_true rfl) dX3_init_9 ?_
  show ez_Z X _ em_r24 em_m7 _ _ _ _ _
  refine ez_putFr hX kc_24 rfl (Nat.le_of_ble_eq_true rfl) (Nat.le_of_ble_eq_true rfl) (Nat.le_of_ble_eq_true rfl) inX3 tyX3 tyX3_ok nmX3 25 rfl wf_X3_12 rfl hnm rfl rfl rfl dX3_init_12 ?_
  show ez_Z X _ em_r25 em_m7 _ _ _ _ _
  refine ez_aload_n hX 0 dX3_init_15 rfl ?_
  refine ez_new hX (N0 := 25) (hsz rfl) rfl kc_27 (Nat.le_of_ble_eq_true rfl) rfl inX7 tyX7 tyX7_ok (ez_df7 (rz_25 27 (by decide)) (mz_7 27 (by decide))) wc_X3_18 wn_X7 wi_X7 (ez_rn hRm rfl) dX3_init_16 ?_
  refine ez_dup hX dX3_init_19 rfl ?_
  refine ez_callIN hX (N0 := 25) (As := []) (st := [.ref (ez_B X + 27), .ref (ez_B X + 24)]) (ecn_11 _ _ _) (Or.inr ⟨hsz rfl, rfl⟩) wm_X3_20 wv_X7_init rfl wy_X7_init rfl wd_X7_init wi_X7 (ez_rok hRm rfl) (Nat.le_of_ble_eq_true rfl) dX3_init_20 ?_
  show ez_Z X _ em_r26 em_m7 _ _ _ _ _
  refine ez_putFr hX kc_24 rfl (Nat.le_of_ble_eq_true rfl) (Nat.le_of_ble_eq_true rfl) (Nat.le_of_ble_eq_true rfl) inX3 tyX3 tyX3_ok nmX3 27 rfl wf_X3_21 rfl hnm rfl rfl rfl dX3_init_23 ?_
  show ez_Z X _ em_r27 em_m7 _ _ _ _ _
  refine ez_aload_n hX 0 dX3_init_26 rfl ?_
  refine ez_new hX (N0 := 25) (hsz rfl) rfl kc_29 (Nat.le_of_ble_eq_true rfl) rfl inX0 tyX0 tyX0_ok (ez_df0 (rz_27 29 (by decide)) (mz_7 29 (by decide))) wc_X3_25 wn_X0 wi_X0 (ez_rn hRm rfl) dX3_init_27 ?_
  refine ez_dup hX dX3_init_30 rfl ?_
  refine ez_callIN hX (N0 := 25) (As := []) (st := [.ref (ez_B X + 29), .ref (ez_B X + 24)]) (ecn_12 _ _ _) (Or.inr ⟨hsz rfl, rfl⟩) wm_X3_27 wv_X0_init rfl wy_X0_init rfl wd_X0_init wi_X0 (ez_rok hRm rfl) (Nat.le_of_ble_eq_true rfl) dX3_init_31 ?_
  show ez_Z X _ em_r35 em_m7 _ _ _ _ _
  refine ez_putFr hX kc_24 rfl (Nat.le_of_ble_eq_true rfl) (Nat.le_of_ble_eq_true rfl) (Nat.le_of_ble_eq_true rfl) inX3 tyX3 tyX3_ok nmX3 29 rfl wf_X3_28 rfl hnm rfl rfl rfl dX3_init_34 ?_
  show ez_Z X _ em_r36 em_m7 _ _ _ _ _
  refine ez_aload_n hX 0 dX3_init_37 rfl ?_
  refine ez_new hX (N0 := 25) (hsz rfl) rfl kc_38 (Nat.le_of_ble_eq_true rfl) rfl inX9 tyX9 tyX9_ok (ez_df9 (rz_36 38 (by decide)) (mz_7 38 (by decide))) wc_X3_32 wn_X9 wi_X9 (ez_rn hRm rfl) dX3_init_38 ?_
  refine ez_dup hX dX3_init_41 rfl ?_
  refine ez_callIN hX (N0 := 25) (As := []) (st := [.ref (ez_B X + 38), .ref (ez_B X + 24)]) (ecn_13 _ _ _) (Or.inr ⟨hsz rfl, rfl⟩) wm_X3_34 wv_X9_init rfl wy_X9_init rfl wd_X9_init wi_X9 (ez_rok hRm rfl) (Nat.le_of_ble_eq_true rfl) dX3_init_42 ?_
  show ez_Z X _ em_r40 em_m7 _ _ _ _ _
  refine ez_putFr hX kc_24 rfl (Nat.le_of_ble_eq_true rfl) (Nat.le_of_ble_eq_true rfl) (Nat.le_of_ble_eq_true rfl) inX3 tyX3 tyX3_ok nmX3 38 rfl wf_X3_35 rfl hnm rfl rfl rfl dX3_init_45 ?_
  show ez_Z X _ em_r41 em_m7 _ _ _ _ _
  refine ez_aload_n hX 0 dX3_init_48 rfl ?_
  refine ez_sipush hX (301 : Int32) dX3_init_49 (by decide) ?_
  refine ez_newI hX (N0 := 25) (hsz rfl) rfl kc_43 ⟨by decide, by decide, Nat.le_of_ble_eq_true rfl⟩ (fun j => congrFun (mz_7 43 (by decide)).1 j) (ez_rn hRm rfl) dX3_init_52 ?_
  refine ez_putFr hX kc_24 rfl (Nat.le_of_ble_eq_true rfl) (Nat.le_of_ble_eq_true rfl) (Nat.le_of_ble_eq_true rfl) inX3 tyX3 tyX3_ok nmX3 43 rfl wf_X3_39 rfl hnm rfl rfl rfl dX3_init_54 ?_
  show ez_Z X _ em_r42 em_m7 _ _ _ _ _
  refine ez_aload_n hX 0 dX3_init_57 rfl ?_
  refine ez_sipush hX (301 : Int32) dX3_init_58 (by decide) ?_
  refine ez_newI hX (N0 := 25) (hsz rfl) rfl kc_44 ⟨by decide, by decide, Nat.le_of_ble_eq_true rfl⟩ (fun j => congrFun (mz_7 44 (by decide)).1 j) (ez_rn hRm rfl) dX3_init_61 ?_
  refine ez_putFr hX kc_24 rfl (Nat.le_of_ble_eq_true rfl) (Nat.le_of_ble_eq_true rfl) (Nat.le_of_ble_eq_true rfl) inX3 tyX3 tyX3_ok nmX3 44 rfl wf_X3_43 rfl hnm rfl rfl rfl dX3_init_63 ?_
  show ez_Z X _ em_r43 em_m7 _ _ _ _ _
  refine ez_aload_n hX 0 dX3_init_66 rfl ?_
  refine ez_aload_n hX 1 dX3_init_67 rfl ?_
  refine ez_putFr hX kc_24 rfl (Nat.le_of_ble_eq_true rfl) (Nat.le_of_ble_eq_true rfl) (Nat.le_of_ble_eq_true rfl) inX3 tyX3 tyX3_ok nmX3 1 rfl wf_X3_46 rfl hnm rfl rfl rfl dX3_init_68 ?_
  show ez_Z X _ em_r44 em_m7 _ _ _ _ _
  refine ez_aload_n hX 0 dX3_init_71 rfl ?_
  refine ez_aload_n hX 2 dX3_init_72 rfl ?_
  refine ez_putFr hX kc_24 rfl (Nat.le_of_ble_eq_true rfl) (Nat.le_of_ble_eq_true rfl) (Nat.le_of_ble_eq_true rfl) inX3 tyX3 tyX3_ok nmX3 21 rfl wf_X3_50 rfl hnm rfl rfl rfl dX3_init_73 ?_
  show ez_Z X _ em_r45 em_m7 _ _ _ _ _
  exact ez_vret hX hQ dX3_init_76 rfl rfl
set_option maxHeartbeats 4000000 in
set_option maxRecDepth 100000 in
theorem ecn_4 (l : Launch) (D : em_G) (B : Nat) : em_C l D B yX1_init cX1_init 2 none 3 54 33 5576 true [.ref (B + 11), .ref (B + 1)] 12 em_r11 em_m0 none 45 em_r46 em_m7 := by
  refine em_C_of RX1 [(0, .ref (B + 11)), (1, .ref (B + 1))] (by decide) rfl rfl (Nat.le_of_ble_eq_true rfl) ?_
  rintro X rfl rfl rfl hRm hnL hnm hsz hX hQ
  refine ez_aload_n hX 0 dX1_init_0 rfl ?_
  refine ez_objInit hX wm_X1_3 ⟨ez_ra hRm rfl, ez_rb hRm rfl⟩ dX1_init_1 ?_
  refine ez_aload_n hX 0 dX1_init_4 rfl ?_
  refine ez_new hX (N0 := 12) (hsz rfl) rfl kc_12 (Nat.le_of_ble_eq_true rfl) rfl inX6 tyX6 tyX6_ok (ez_df6 (rz_11 12 (by decide)) (mz_0 12 (by decide))) wc_X1_9 wn_X6 wi_X6 (ez_rn hRm rfl) dX1_init_5 ?_
  refine ez_dup hX dX1_init_8 rfl ?_
  refine ez_iconst hX (5 : Int32) dX1_init_9 (by decide) ?_
  refine ez_callI hX (N0 := 12) (As := [.int (5 : Int32)]) (st := [.ref (ez_B X + 12), .ref (ez_B X + 11)]) (ecn_5 _ _ _) (Or.inr ⟨hsz rfl, rfl⟩) wm_X1_11 wv_X6_init rfl wy_X6_init rfl wd_X6_init wi_X6 (ez_rok hRm rfl) (Nat.le_of_ble_eq_true rfl) dX1_init_10 ?_
  show ez_Z X _ em_r13 em_m1 _ _ _ _ _
  refine ez_putFr hX kc_11 rfl (Nat.le_of_ble_eq_true rfl) (Nat.le_of_ble_eq_true rfl) (Nat.le_of_ble_eq_true rfl) inX1 tyX1 tyX1_ok nmX1 12 rfl wf_X1_14 rfl hnm rfl rfl rfl dX1_init_13 ?_
  show ez_Z X _ em_r14 em_m1 _ _ _ _ _
  refine ez_aload_n hX 0 dX1_init_16 rfl ?_
  refine ez_new hX (N0 := 12) (hsz rfl) rfl kc_15 (Nat.le_of_ble_eq_true rfl) rfl inX6 tyX6 tyX6_ok (ez_df6 (rz_14 15 (by decide)) (mz_1 15 (by decide))) wc_X1_9 wn_X6 wi_X6 (ez_rn hRm rfl) dX1_init_17 ?_
  refine ez_dup hX dX1_init_20 rfl ?_
  refine ez_bipush hX (10 : Int32) dX1_init_21 (by decide) ?_
  refine ez_callI hX (N0 := 12) (As := [.int (10 : Int32)]) (st := [.ref (ez_B X + 15), .ref (ez_B X + 11)]) (ecn_6 _ _ _) (Or.inr ⟨hsz rfl, rfl⟩) wm_X1_11 wv_X6_init rfl wy_X6_init rfl wd_X6_init wi_X6 (ez_rok hRm rfl) (Nat.le_of_ble_eq_true rfl) dX1_init_23 ?_
  show ez_Z X _ em_r16 em_m2 _ _ _ _ _
  refine ez_putFr hX kc_11 rfl (Nat.le_of_ble_eq_true rfl) (Nat.le_of_ble_eq_true rfl) (Nat.le_of_ble_eq_true rfl) inX1 tyX1 tyX1_ok nmX1 15 rfl wf_X1_20 rfl hnm rfl rfl rfl dX1_init_26 ?_
  show ez_Z X _ em_r17 em_m2 _ _ _ _ _
  refine ez_aload_n hX 0 dX1_init_29 rfl ?_
  refine ez_new hX (N0 := 12) (hsz rfl) rfl kc_18 (Nat.le_of_ble_eq_true rfl) rfl inX6 tyX6 tyX6_ok (ez_df6 (rz_17 18 (by decide)) (mz_2 18 (by decide))) wc_X1_9 wn_X6 wi_X6 (ez_rn hRm rfl) dX1_init_30 ?_
  refine ez_dup hX dX1_init_33 rfl ?_
  refine ez_bipush hX (8 : Int32) dX1_init_34 (by decide) ?_
  refine ez_callI hX (N0 := 12) (As := [.int (8 : Int32)]) (st := [.ref (ez_B X + 18), .ref (ez_B X + 11)]) (ecn_7 _ _ _) (Or.inr ⟨hsz rfl, rfl⟩) wm_X1_11 wv_X6_init rfl wy_X6_init rfl wd_X6_init wi_X6 (ez_rok hRm rfl) (Nat.le_of_ble_eq_true rfl) dX1_init_36 ?_
  show ez_Z X _ em_r19 em_m3 _ _ _ _ _
  refine ez_putFr hX kc_11 rfl (Nat.le_of_ble_eq_true rfl) (Nat.le_of_ble_eq_true rfl) (Nat.le_of_ble_eq_true rfl) inX1 tyX1 tyX1_ok nmX1 18 rfl wf_X1_23 rfl hnm rfl rfl rfl dX1_init_39 ?_
  show ez_Z X _ em_r20 em_m3 _ _ _ _ _
  refine ez_aload_n hX 0 dX1_init_42 rfl ?_
  refine ez_new hX (N0 := 12) (hsz rfl) rfl kc_21 (Nat.le_of_ble_eq_true rfl) rfl inX10 tyX10 tyX10_ok (ez_df10 (rz_20 21 (by decide)) (mz_3 21 (by decide))) wc_X1_26 wn_X10 wi_X10 (ez_rn hRm rfl) dX1_init_43 ?_
  refine ez_dup hX dX1_init_46 rfl ?_
  refine ez_callI hX (N0 := 12) (As := []) (st := [.ref (ez_B X + 21), .ref (ez_B X + 11)]) (ecn_8 _ _ _) (Or.inr ⟨hsz rfl, rfl⟩) wm_X1_28 wv_X10_init rfl wy_X10_init rfl wd_X10_init wi_X10 (ez_rok hRm rfl) (Nat.le_of_ble_eq_true rfl) dX1_init_47 ?_
  show ez_Z X _ em_r22 em_m6 _ _ _ _ _
  refine ez_putFr hX kc_11 rfl (Nat.le_of_ble_eq_true rfl) (Nat.le_of_ble_eq_true rfl) (Nat.le_of_ble_eq_true rfl) inX1 tyX1 tyX1_ok nmX1 21 rfl wf_X1_29 rfl hnm rfl rfl rfl dX1_init_50 ?_
  show ez_Z X _ em_r23 em_m6 _ _ _ _ _
  refine ez_aload_n hX 0 dX1_init_53 rfl ?_
  refine ez_new hX (N0 := 12) (hsz rfl) rfl kc_24 (Nat.le_of_ble_eq_true rfl) rfl inX3 tyX3 tyX3_ok (ez_df3 (rz_23 24 (by decide)) (mz_6 24 (by decide))) wc_X1_33 wn_X3 wi_X3 (ez_rn hRm rfl) dX1_init_54 ?_
  refine ez_dup hX dX1_init_57 rfl ?_
  refine ez_aload_n hX 1 dX1_init_58 rfl ?_
  refine ez_aload_n hX 0 dX1_init_59 rfl ?_
  refine ez_getr hX kc_11 rfl (Nat.le_of_ble_eq_true rfl) (Nat.le_of_ble_eq_true rfl) (Nat.le_of_ble_eq_true rfl) inX1 21 rfl (by decide +kernel) wf_X1_29 dX1_init_60 ?_
  refine ez_callI hX (N0 := 12) (As := [.ref (ez_B X + 1), .ref (ez_B X + 21)]) (st := [.ref (ez_B X + 24), .ref (ez_B X + 11)]) (ecn_9 _ _ _) (Or.inr ⟨hsz rfl, rfl⟩) wm_X1_35 wv_X3_init rfl wy_X3_init rfl wd_X3_init wi_X3 (ez_rok hRm rfl) (Nat.le_of_ble_eq_true rfl) dX1_init_63 ?_
  show ez_Z X _ em_r45 em_m7 _ _ _ _ _
  refine ez_putFr hX kc_11 rfl (Nat.le_of_ble_eq_true rfl) (Nat.le_of_ble_eq_true rfl) (Nat.le_of_ble_eq_true rfl) inX1 tyX1 tyX1_ok nmX1 24 rfl wf_X1_38 rfl hnm rfl rfl rfl dX1_init_66 ?_
  show ez_Z X _ em_r46 em_m7 _ _ _ _ _
  exact ez_vret hX hQ dX1_init_69 rfl rfl
set_option maxHeartbeats 4000000 in
set_option maxRecDepth 100000 in
theorem ecn_15 (l : Launch) (D : em_G) (B : Nat) : em_C l D B yX6_init cX6_init 2 none 1 12 2 20 true [.ref (B + 46), .int (5 : Int32)] 47 em_r47 em_m7 none 49 em_r49 em_m8 := by
  refine em_C_of RX6 [(0, .ref (B + 46)), (1, .int (5 : Int32))] (by decide) rfl rfl (Nat.le_of_ble_eq_true rfl) ?_
  rintro X rfl rfl rfl hRm hnL hnm hsz hX hQ
  refine ez_aload_n hX 0 dX6_init_0 rfl ?_
  refine ez_objInit hX wm_X6_3 ⟨ez_ra hRm rfl, ez_rb hRm rfl⟩ dX6_init_1 ?_
  refine ez_aload_n hX 0 dX6_init_4 rfl ?_
  refine ez_bipush hX (10 : Int32) dX6_init_5 (by decide) ?_
  refine ez_newI hX (N0 := 47) (hsz rfl) rfl kc_47 ⟨by decide, by decide, Nat.le_of_ble_eq_true rfl⟩ (fun j => congrFun (mz_7 47 (by decide)).1 j) (ez_rn hRm rfl) dX6_init_7 ?_
  refine ez_putFr hX kc_46 rfl (Nat.le_of_ble_eq_true rfl) (Nat.le_of_ble_eq_true rfl) (Nat.le_of_ble_eq_true rfl) inX6 tyX6 tyX6_ok nmX6 47 rfl wf_X6_9 rfl hnm rfl rfl rfl dX6_init_9 ?_
  show ez_Z X _ em_r48 em_m7 _ _ _ _ _
  refine ez_aload_n hX 0 dX6_init_12 rfl ?_
  refine ez_bipush hX (10 : Int32) dX6_init_13 (by decide) ?_
  refine ez_newI hX (N0 := 47) (hsz rfl) rfl kc_48 ⟨by decide, by decide, Nat.le_of_ble_eq_true rfl⟩ (fun j => congrFun (mz_7 48 (by decide)).1 j) (ez_rn hRm rfl) dX6_init_15 ?_
  refine ez_putFr hX kc_46 rfl (Nat.le_of_ble_eq_true rfl) (Nat.le_of_ble_eq_true rfl) (Nat.le_of_ble_eq_true rfl) inX6 tyX6 tyX6_ok nmX6 48 rfl wf_X6_15 rfl hnm rfl rfl rfl dX6_init_17 ?_
  show ez_Z X _ em_r49 em_m7 _ _ _ _ _
  refine ez_aload_n hX 0 dX6_init_20 rfl ?_
  refine ez_iload_n hX 1 dX6_init_21 rfl ?_
  refine ez_putFi hX kc_46 rfl (Nat.le_of_ble_eq_true rfl) (Nat.le_of_ble_eq_true rfl) (Nat.le_of_ble_eq_true rfl) inX6 tyX6 tyX6_ok nmX6 (5 : Int32) rfl wf_X6_18 rfl hnm rfl rfl rfl dX6_init_22 ?_
  show ez_Z X _ em_r49 em_m8 _ _ _ _ _
  exact ez_vret hX hQ dX6_init_25 rfl rfl
set_option maxHeartbeats 4000000 in
set_option maxRecDepth 100000 in
theorem ecn_16 (l : Launch) (D : em_G) (B : Nat) : em_C l D B yX6_init cX6_init 2 none 1 12 2 20 true [.ref (B + 49), .int (10 : Int32)] 50 em_r50 em_m8 none 52 em_r52 em_m9 := by
  refine em_C_of RX6 [(0, .ref (B + 49)), (1, .int (10 : Int32))] (by decide) rfl rfl (Nat.le_of_ble_eq_true rfl) ?_
  rintro X rfl rfl rfl hRm hnL hnm hsz hX hQ
  refine ez_aload_n hX 0 dX6_init_0 rfl ?_
  refine ez_objInit hX wm_X6_3 ⟨ez_ra hRm rfl, ez_rb hRm rfl⟩ dX6_init_1 ?_
  refine ez_aload_n hX 0 dX6_init_4 rfl ?_
  refine ez_bipush hX (10 : Int32) dX6_init_5 (by decide) ?_
  refine ez_newI hX (N0 := 50) (hsz rfl) rfl kc_50 ⟨by decide, by decide, Nat.le_of_ble_eq_true rfl⟩ (fun j => congrFun (mz_8 50 (by decide)).1 j) (ez_rn hRm rfl) dX6_init_7 ?_
  refine ez_putFr hX kc_49 rfl (Nat.le_of_ble_eq_true rfl) (Nat.le_of_ble_eq_true rfl) (Nat.le_of_ble_eq_true rfl) inX6 tyX6 tyX6_ok nmX6 50 rfl wf_X6_9 rfl hnm rfl rfl rfl dX6_init_9 ?_
  show ez_Z X _ em_r51 em_m8 _ _ _ _ _
  refine ez_aload_n hX 0 dX6_init_12 rfl ?_
  refine ez_bipush hX (10 : Int32) dX6_init_13 (by decide) ?_
  refine ez_newI hX (N0 := 50) (hsz rfl) rfl kc_51 ⟨by decide, by decide, Nat.le_of_ble_eq_true rfl⟩ (fun j => congrFun (mz_8 51 (by decide)).1 j) (ez_rn hRm rfl) dX6_init_15 ?_
  refine ez_putFr hX kc_49 rfl (Nat.le_of_ble_eq_true rfl) (Nat.le_of_ble_eq_true rfl) (Nat.le_of_ble_eq_true rfl) inX6 tyX6 tyX6_ok nmX6 51 rfl wf_X6_15 rfl hnm rfl rfl rfl dX6_init_17 ?_
  show ez_Z X _ em_r52 em_m8 _ _ _ _ _
  refine ez_aload_n hX 0 dX6_init_20 rfl ?_
  refine ez_iload_n hX 1 dX6_init_21 rfl ?_
  refine ez_putFi hX kc_49 rfl (Nat.le_of_ble_eq_true rfl) (Nat.le_of_ble_eq_true rfl) (Nat.le_of_ble_eq_true rfl) inX6 tyX6 tyX6_ok nmX6 (10 : Int32) rfl wf_X6_18 rfl hnm rfl rfl rfl dX6_init_22 ?_
  show ez_Z X _ em_r52 em_m9 _ _ _ _ _
  exact ez_vret hX hQ dX6_init_25 rfl rfl
set_option maxHeartbeats 4000000 in
set_option maxRecDepth 100000 in
theorem ecn_17 (l : Launch) (D : em_G) (B : Nat) : em_C l D B yX6_init cX6_init 2 none 1 12 2 20 true [.ref (B + 52), .int (8 : Int32)] 53 em_r53 em_m9 none 55 em_r55 em_m10 := by
  refine em_C_of RX6 [(0, .ref (B + 52)), (1, .int (8 : Int32))] (by decide) rfl rfl (Nat.le_of_ble_eq_true rfl) ?_
  rintro X rfl rfl rfl hRm hnL hnm hsz hX hQ
  refine ez_aload_n hX 0 dX6_init_0 rfl ?_
  refine ez_objInit hX wm_X6_3 ⟨ez_ra hRm rfl, ez_rb hRm rfl⟩ dX6_init_1 ?_
  refine ez_aload_n hX 0 dX6_init_4 rfl ?_
  refine ez_bipush hX (10 : Int32) dX6_init_5 (by decide) ?_
  refine ez_newI hX (N0 := 53) (hsz rfl) rfl kc_53 ⟨by decide, by decide, Nat.le_of_ble_eq_true rfl⟩ (fun j => congrFun (mz_9 53 (by decide)).1 j) (ez_rn hRm rfl) dX6_init_7 ?_
  refine ez_putFr hX kc_52 rfl (Nat.le_of_ble_eq_true rfl) (Nat.le_of_ble_eq_true rfl) (Nat.le_of_ble_eq_true rfl) inX6 tyX6 tyX6_ok nmX6 53 rfl wf_X6_9 rfl hnm rfl rfl rfl dX6_init_9 ?_
  show ez_Z X _ em_r54 em_m9 _ _ _ _ _
  refine ez_aload_n hX 0 dX6_init_12 rfl ?_
  refine ez_bipush hX (10 : Int32) dX6_init_13 (by decide) ?_
  refine ez_newI hX (N0 := 53) (hsz rfl) rfl kc_54 ⟨by decide, by decide, Nat.le_of_ble_eq_true rfl⟩ (fun j => congrFun (mz_9 54 (by decide)).1 j) (ez_rn hRm rfl) dX6_init_15 ?_
  refine ez_putFr hX kc_52 rfl (Nat.le_of_ble_eq_true rfl) (Nat.le_of_ble_eq_true rfl) (Nat.le_of_ble_eq_true rfl) inX6 tyX6 tyX6_ok nmX6 54 rfl wf_X6_15 rfl hnm rfl rfl rfl dX6_init_17 ?_
  show ez_Z X _ em_r55 em_m9 _ _ _ _ _
  refine ez_aload_n hX 0 dX6_init_20 rfl ?_
  refine ez_iload_n hX 1 dX6_init_21 rfl ?_
  refine ez_putFi hX kc_52 rfl (Nat.le_of_ble_eq_true rfl) (Nat.le_of_ble_eq_true rfl) (Nat.le_of_ble_eq_true rfl) inX6 tyX6 tyX6_ok nmX6 (8 : Int32) rfl wf_X6_18 rfl hnm rfl rfl rfl dX6_init_22 ?_
  show ez_Z X _ em_r55 em_m10 _ _ _ _ _
  exact ez_vret hX hQ dX6_init_25 rfl rfl
set_option maxHeartbeats 4000000 in
set_option maxRecDepth 100000 in
theorem ecn_18 (l : Launch) (D : em_G) (B : Nat) : em_C l D B yX10_init cX10_init 2 none 1 12 2 7 true [.ref (B + 55)] 56 em_r56 em_m10 none 58 em_r58 em_m13 := by
  refine em_C_of RX10 [(0, .ref (B + 55))] (by decide) rfl rfl (Nat.le_of_ble_eq_true rfl) ?_
  rintro X rfl rfl rfl hRm hnL hnm hsz hX hQ
  refine ez_aload_n hX 0 dX10_init_0 rfl ?_
  refine ez_objInit hX wm_X10_3 ⟨ez_ra hRm rfl, ez_rb hRm rfl⟩ dX10_init_1 ?_
  refine ez_aload_n hX 0 dX10_init_4 rfl ?_
  refine ez_iconst hX (4 : Int32) dX10_init_5 (by decide) ?_
  refine ez_newI hX (N0 := 56) (hsz rfl) rfl kc_56 ⟨by decide, by decide, Nat.le_of_ble_eq_true rfl⟩ (fun j => congrFun (mz_10 56 (by decide)).1 j) (ez_rn hRm rfl) dX10_init_6 ?_
  refine ez_putFr hX kc_55 rfl (Nat.le_of_ble_eq_true rfl) (Nat.le_of_ble_eq_true rfl) (Nat.le_of_ble_eq_true rfl) inX10 tyX10 tyX10_ok nmX10 56 rfl wf_X10_9 rfl hnm rfl rfl rfl dX10_init_8 ?_
  show ez_Z X _ em_r57 em_m10 _ _ _ _ _
  refine ez_aload_n hX 0 dX10_init_11 rfl ?_
  refine ez_iconst hX (3 : Int32) dX10_init_12 (by decide) ?_
  refine ez_newI hX (N0 := 56) (hsz rfl) rfl kc_57 ⟨by decide, by decide, Nat.le_of_ble_eq_true rfl⟩ (fun j => congrFun (mz_10 57 (by decide)).1 j) (ez_rn hRm rfl) dX10_init_13 ?_
  refine ez_putFr hX kc_55 rfl (Nat.le_of_ble_eq_true rfl) (Nat.le_of_ble_eq_true rfl) (Nat.le_of_ble_eq_true rfl) inX10 tyX10 tyX10_ok nmX10 57 rfl wf_X10_15 rfl hnm rfl rfl rfl dX10_init_15 ?_
  show ez_Z X _ em_r58 em_m10 _ _ _ _ _
  refine ez_iconst hX (0 : Int32) dX10_init_18 (by decide) ?_
  refine ez_istore_n hX [(1, .int (0 : Int32)), (0, .ref (ez_B X + 55))] dX10_init_19 (ez_lt hnL rfl) rfl ?_
  refine ez_iload_n hX 0 dX10_init_20 rfl ?_
  refine ez_aload_n hX 1 dX10_init_21 rfl ?_
  refine ez_getr hX kc_55 rfl (Nat.le_of_ble_eq_true rfl) (Nat.le_of_ble_eq_true rfl) (Nat.le_of_ble_eq_true rfl) inX10 57 rfl (by decide +kernel) wf_X10_15 dX10_init_22 ?_
  refine ez_alenI hX kc_57 (Nat.le_of_ble_eq_true rfl) (3 : Int32) (by decide) dX10_init_25 ?_
  refine ez_icmp_ge hX 43 dX10_init_26 (by decide) (fun c => absurd c (by decide)) (fun _ => ?_)
  refine ez_aload_n hX 1 dX10_init_29 rfl ?_
  refine ez_getr hX kc_55 rfl (Nat.le_of_ble_eq_true rfl) (Nat.le_of_ble_eq_true rfl) (Nat.le_of_ble_eq_true rfl) inX10 57 rfl (by decide +kernel) wf_X10_15 dX10_init_30 ?_
  refine ez_iload_n hX 0 dX10_init_33 rfl ?_
  refine ez_bipush hX (-5 : Int32) dX10_init_34 (by decide) ?_
  refine ez_iast hX kc_57 (Nat.le_of_ble_eq_true rfl) (by unfold vp_in; decide) dX10_init_36 ?_
  show ez_Z X _ em_r58 em_m11 _ _ _ _ _
  refine ez_iinc hX (1 : Int32) 0 [(1, .int (1 : Int32)), (0, .ref (ez_B X + 55))] dX10_init_37 rfl (by decide) (ez_lt hnL rfl) rfl ?_
  refine ez_goto hX 20 dX10_init_40 (by decide) ?_
  refine ez_iload_n hX 0 dX10_init_20 rfl ?_
  refine ez_aload_n hX 1 dX10_init_21 rfl ?_
  refine ez_getr hX kc_55 rfl (Nat.le_of_ble_eq_true rfl) (Nat.le_of_ble_eq_true rfl) (Nat.le_of_ble_eq_true rfl) inX10 57 rfl (by decide +kernel) wf_X10_15 dX10_init_22 ?_
  refine ez_alenI hX kc_57 (Nat.le_of_ble_eq_true rfl) (3 : Int32) (by decide) dX10_init_25 ?_
  refine ez_icmp_ge hX 43 dX10_init_26 (by decide) (fun c => absurd c (by decide)) (fun _ => ?_)
  refine ez_aload_n hX 1 dX10_init_29 rfl ?_
  refine ez_getr hX kc_55 rfl (Nat.le_of_ble_eq_true rfl) (Nat.le_of_ble_eq_true rfl) (Nat.le_of_ble_eq_true rfl) inX10 57 rfl (by decide +kernel) wf_X10_15 dX10_init_30 ?_
  refine ez_iload_n hX 0 dX10_init_33 rfl ?_
  refine ez_bipush hX (-5 : Int32) dX10_init_34 (by decide) ?_
  refine ez_iast hX kc_57 (Nat.le_of_ble_eq_true rfl) (by unfold vp_in; decide) dX10_init_36 ?_
  show ez_Z X _ em_r58 em_m12 _ _ _ _ _
  refine ez_iinc hX (2 : Int32) 0 [(1, .int (2 : Int32)), (0, .ref (ez_B X + 55))] dX10_init_37 rfl (by decide) (ez_lt hnL rfl) rfl ?_
  refine ez_goto hX 20 dX10_init_40 (by decide) ?_
  refine ez_iload_n hX 0 dX10_init_20 rfl ?_
  refine ez_aload_n hX 1 dX10_init_21 rfl ?_
  refine ez_getr hX kc_55 rfl (Nat.le_of_ble_eq_true rfl) (Nat.le_of_ble_eq_true rfl) (Nat.le_of_ble_eq_true rfl) inX10 57 rfl (by decide +kernel) wf_X10_15 dX10_init_22 ?_
  refine ez_alenI hX kc_57 (Nat.le_of_ble_eq_true rfl) (3 : Int32) (by decide) dX10_init_25 ?_
  refine ez_icmp_ge hX 43 dX10_init_26 (by decide) (fun c => absurd c (by decide)) (fun _ => ?_)
  refine ez_aload_n hX 1 dX10_init_29 rfl ?_
  refine ez_getr hX kc_55 rfl (Nat.le_of_ble_eq_true rfl) (Nat.le_of_ble_eq_true rfl) (Nat.le_of_ble_eq_true rfl) inX10 57 rfl (by decide +kernel) wf_X10_15 dX10_init_30 ?_
  refine ez_iload_n hX 0 dX10_init_33 rfl ?_
  refine ez_bipush hX (-5 : Int32) dX10_init_34 (by decide) ?_
  refine ez_iast hX kc_57 (Nat.le_of_ble_eq_true rfl) (by unfold vp_in; decide) dX10_init_36 ?_
  show ez_Z X _ em_r58 em_m13 _ _ _ _ _
  refine ez_iinc hX (3 : Int32) 0 [(1, .int (3 : Int32)), (0, .ref (ez_B X + 55))] dX10_init_37 rfl (by decide) (ez_lt hnL rfl) rfl ?_
  refine ez_goto hX 20 dX10_init_40 (by decide) ?_
  refine ez_iload_n hX 0 dX10_init_20 rfl ?_
  refine ez_aload_n hX 1 dX10_init_21 rfl ?_
  refine ez_getr hX kc_55 rfl (Nat.le_of_ble_eq_true rfl) (Nat.le_of_ble_eq_true rfl) (Nat.le_of_ble_eq_true rfl) inX10 57 rfl (by decide +kernel) wf_X10_15 dX10_init_22 ?_
  refine ez_alenI hX kc_57 (Nat.le_of_ble_eq_true rfl) (3 : Int32) (by decide) dX10_init_25 ?_
  refine ez_icmp_ge hX 43 dX10_init_26 (by decide) (fun _ => ?_) (fun c => absurd (by decide) c)
  exact ez_vret hX hQ dX10_init_43 rfl rfl
set_option maxHeartbeats 4000000 in
set_option maxRecDepth 100000 in
theorem ecn_20 (l : Launch) (D : em_G) (B : Nat) : em_C l D B yX4_init cX4_init 1 none 1 12 1 40 true [.ref (B + 59)] 60 em_r59 em_m13 none 61 em_r60 em_m14 := by
  refine em_C_of RX4 [(0, .ref (B + 59))] (by decide) rfl rfl (Nat.le_of_ble_eq_true rfl) ?_
  rintro X rfl rfl rfl hRm hnL hnm hsz hX hQ
  refine ez_aload_n hX 0 dX4_init_0 rfl ?_
  refine ez_objInit hX wm_X4_3 ⟨ez_ra hRm rfl, ez_rb hRm rfl⟩ dX4_init_1 ?_
  refine ez_aload_n hX 0 dX4_init_4 rfl ?_
  refine ez_bipush hX (-9 : Int32) dX4_init_5 (by decide) ?_
  refine ez_puti hX kc_59 rfl (Nat.le_of_ble_eq_true rfl) (Nat.le_of_ble_eq_true rfl) (Nat.le_of_ble_eq_true rfl) inX4 tyX4 tyX4_ok nmX4 (-9 : Int32) rfl wf_X4_9 rfl  rfl rfl dX4_init_7 ?_
  show ez_Z X _ em_r59 em_m14 _ _ _ _ _
  refine ez_aload_n hX 0 dX4_init_10 rfl ?_
  refine ez_bipush hX (40 : Int32) dX4_init_11 (by decide) ?_
  refine ez_newI hX (N0 := 60) (hsz rfl) rfl kc_60 ⟨by decide, by decide, Nat.le_of_ble_eq_true rfl⟩ (fun j => congrFun (mz_14 60 (by decide)).1 j) (ez_rn hRm rfl) dX4_init_13 ?_
  refine ez_putFr hX kc_59 rfl (Nat.le_of_ble_eq_true rfl) (Nat.le_of_ble_eq_true rfl) (Nat.le_of_ble_eq_true rfl) inX4 tyX4 tyX4_ok nmX4 60 rfl wf_X4_15 rfl hnm rfl rfl rfl dX4_init_15 ?_
  show ez_Z X _ em_r60 em_m14 _ _ _ _ _
  exact ez_vret hX hQ dX4_init_18 rfl rfl
set_option maxHeartbeats 4000000 in
set_option maxRecDepth 100000 in
theorem ecn_21 (l : Launch) (D : em_G) (B : Nat) : em_C l D B yX7_init cX7_init 1 none 1 12 1 1204 true [.ref (B + 61)] 62 em_r61 em_m14 none 63 em_r62 em_m14 := by
  refine em_C_of RX7 [(0, .ref (B + 61))] (by decide) rfl rfl (Nat.le_of_ble_eq_true rfl) ?_
  rintro X rfl rfl rfl hRm hnL hnm hsz hX hQ
  refine ez_aload_n hX 0 dX7_init_0 rfl ?_
  refine ez_objInit hX wm_X7_3 ⟨ez_ra hRm rfl, ez_rb hRm rfl⟩ dX7_init_1 ?_
  refine ez_aload_n hX 0 dX7_init_4 rfl ?_
  refine ez_sipush hX (1204 : Int32) dX7_init_5 (by decide) ?_
  refine ez_newJ hX (N0 := 62) (hsz rfl) rfl kc_62 ⟨by decide, by decide, Nat.le_of_ble_eq_true rfl⟩ (fun j => congrFun (mz_14 62 (by decide)).2 j) (ez_rn hRm rfl) dX7_init_8 ?_
  refine ez_putFr hX kc_61 rfl (Nat.le_of_ble_eq_true rfl) (Nat.le_of_ble_eq_true rfl) (Nat.le_of_ble_eq_true rfl) inX7 tyX7 tyX7_ok nmX7 62 rfl wf_X7_9 rfl hnm rfl rfl rfl dX7_init_10 ?_
  show ez_Z X _ em_r62 em_m14 _ _ _ _ _
  exact ez_vret hX hQ dX7_init_13 rfl rfl
set_option maxHeartbeats 4000000 in
set_option maxRecDepth 100000 in
theorem ecn_22 (l : Launch) (D : em_G) (B : Nat) : em_C l D B yX0_init cX0_init 1 none 1 12 8 2408 true [.ref (B + 63)] 64 em_r63 em_m14 none 72 em_r71 em_m14 := by
  refine em_C_of RX0 [(0, .ref (B + 63))] (by decide) rfl rfl (Nat.le_of_ble_eq_true rfl) ?_
  rintro X rfl rfl rfl hRm hnL hnm hsz hX hQ
  refine ez_aload_n hX 0 dX0_init_0 rfl ?_
  refine ez_objInit hX wm_X0_3 ⟨ez_ra hRm rfl, ez_rb hRm rfl⟩ dX0_init_1 ?_
  refine ez_aload_n hX 0 dX0_init_4 rfl ?_
  refine ez_sipush hX (301 : Int32) dX0_init_5 (by decide) ?_
  refine ez_newI hX (N0 := 64) (hsz rfl) rfl kc_64 ⟨by decide, by decide, Nat.le_of_ble_eq_true rfl⟩ (fun j => congrFun (mz_14 64 (by decide)).1 j) (ez_rn hRm rfl) dX0_init_8 ?_
  refine ez_putFr hX kc_63 rfl (Nat.le_of_ble_eq_true rfl) (Nat.le_of_ble_eq_true rfl) (Nat.le_of_ble_eq_true rfl) inX0 tyX0 tyX0_ok nmX0 64 rfl wf_X0_9 rfl hnm rfl rfl rfl dX0_init_10 ?_
  show ez_Z X _ em_r64 em_m14 _ _ _ _ _
  refine ez_aload_n hX 0 dX0_init_13 rfl ?_
  refine ez_sipush hX (301 : Int32) dX0_init_14 (by decide) ?_
  refine ez_newI hX (N0 := 64) (hsz rfl) rfl kc_65 ⟨by decide, by decide, Nat.le_of_ble_eq_true rfl⟩ (fun j => congrFun (mz_14 65 (by decide)).1 j) (ez_rn hRm rfl) dX0_init_17 ?_
  refine ez_putFr hX kc_63 rfl (Nat.le_of_ble_eq_true rfl) (Nat.le_of_ble_eq_true rfl) (Nat.le_of_ble_eq_true rfl) inX0 tyX0 tyX0_ok nmX0 65 rfl wf_X0_15 rfl hnm rfl rfl rfl dX0_init_19 ?_
  show ez_Z X _ em_r65 em_m14 _ _ _ _ _
  refine ez_aload_n hX 0 dX0_init_22 rfl ?_
  refine ez_sipush hX (301 : Int32) dX0_init_23 (by decide) ?_
  refine ez_newI hX (N0 := 64) (hsz rfl) rfl kc_66 ⟨by decide, by decide, Nat.le_of_ble_eq_true rfl⟩ (fun j => congrFun (mz_14 66 (by decide)).1 j) (ez_rn hRm rfl) dX0_init_26 ?_
  refine ez_putFr hX kc_63 rfl (Nat.le_of_ble_eq_true rfl) (Nat.le_of_ble_eq_true rfl) (Nat.le_of_ble_eq_true rfl) inX0 tyX0 tyX0_ok nmX0 66 rfl wf_X0_18 rfl hnm rfl rfl rfl dX0_init_28 ?_
  show ez_Z X _ em_r66 em_m14 _ _ _ _ _
  refine ez_aload_n hX 0 dX0_init_31 rfl ?_
  refine ez_sipush hX (301 : Int32) dX0_init_32 (by decide) ?_
  refine ez_newI hX (N0 := 64) (hsz rfl) rfl kc_67 ⟨by decide, by decide, Nat.le_of_ble_eq_true rfl⟩ (fun j => congrFun (mz_14 67 (by decide)).1 j) (ez_rn hRm rfl) dX0_init_35 ?_
  refine ez_putFr hX kc_63 rfl (Nat.le_of_ble_eq_true rfl) (Nat.le_of_ble_eq_true rfl) (Nat.le_of_ble_eq_true rfl) inX0 tyX0 tyX0_ok nmX0 67 rfl wf_X0_21 rfl hnm rfl rfl rfl dX0_init_37 ?_
  show ez_Z X _ em_r67 em_m14 _ _ _ _ _
  refine ez_aload_n hX 0 dX0_init_40 rfl ?_
  refine ez_sipush hX (301 : Int32) dX0_init_41 (by decide) ?_
  refine ez_newI hX (N0 := 64) (hsz rfl) rfl kc_68 ⟨by decide, by decide, Nat.le_of_ble_eq_true rfl⟩ (fun j => congrFun (mz_14 68 (by decide)).1 j) (ez_rn hRm rfl) dX0_init_44 ?_
  refine ez_putFr hX kc_63 rfl (Nat.le_of_ble_eq_true rfl) (Nat.le_of_ble_eq_true rfl) (Nat.le_of_ble_eq_true rfl) inX0 tyX0 tyX0_ok nmX0 68 rfl wf_X0_24 rfl hnm rfl rfl rfl dX0_init_46 ?_
  show ez_Z X _ em_r68 em_m14 _ _ _ _ _
  refine ez_aload_n hX 0 dX0_init_49 rfl ?_
  refine ez_sipush hX (301 : Int32) dX0_init_50 (by decide) ?_
  refine ez_newI hX (N0 := 64) (hsz rfl) rfl kc_69 ⟨by decide, by decide, Nat.le_of_ble_eq_true rfl⟩ (fun j => congrFun (mz_14 69 (by decide)).1 j) (ez_rn hRm rfl) dX0_init_53 ?_
  refine ez_putFr hX kc_63 rfl (Nat.le_of_ble_eq_true rfl) (Nat.le_of_ble_eq_true rfl) (Nat.le_of_ble_eq_true rfl) inX0 tyX0 tyX0_ok nmX0 69 rfl wf_X0_27 rfl hnm rfl rfl rfl dX0_init_55 ?_
  show ez_Z X _ em_r69 em_m14 _ _ _ _ _
  refine ez_aload_n hX 0 dX0_init_58 rfl ?_
  refine ez_sipush hX (301 : Int32) dX0_init_59 (by decide) ?_
  refine ez_newI hX (N0 := 64) (hsz rfl) rfl kc_70 ⟨by decide, by decide, Nat.le_of_ble_eq_true rfl⟩ (fun j => congrFun (mz_14 70 (by decide)).1 j) (ez_rn hRm rfl) dX0_init_62 ?_
  refine ez_putFr hX kc_63 rfl (Nat.le_of_ble_eq_true rfl) (Nat.le_of_ble_eq_true rfl) (Nat.le_of_ble_eq_true rfl) inX0 tyX0 tyX0_ok nmX0 70 rfl wf_X0_30 rfl hnm rfl rfl rfl dX0_init_64 ?_
  show ez_Z X _ em_r70 em_m14 _ _ _ _ _
  refine ez_aload_n hX 0 dX0_init_67 rfl ?_
  refine ez_sipush hX (301 : Int32) dX0_init_68 (by decide) ?_
  refine ez_newJ hX (N0 := 64) (hsz rfl) rfl kc_71 ⟨by decide, by decide, Nat.le_of_ble_eq_true rfl⟩ (fun j => congrFun (mz_14 71 (by decide)).2 j) (ez_rn hRm rfl) dX0_init_71 ?_
  refine ez_putFr hX kc_63 rfl (Nat.le_of_ble_eq_true rfl) (Nat.le_of_ble_eq_true rfl) (Nat.le_of_ble_eq_true rfl) inX0 tyX0 tyX0_ok nmX0 71 rfl wf_X0_33 rfl hnm rfl rfl rfl dX0_init_73 ?_
  show ez_Z X _ em_r71 em_m14 _ _ _ _ _
  exact ez_vret hX hQ dX0_init_76 rfl rfl
set_option maxHeartbeats 4000000 in
set_option maxRecDepth 100000 in
theorem ecn_23 (l : Launch) (D : em_G) (B : Nat) : em_C l D B yX9_init cX9_init 1 none 1 12 4 1204 true [.ref (B + 72)] 73 em_r72 em_m14 none 77 em_r76 em_m14 := by
  refine em_C_of RX9 [(0, .ref (B + 72))] (by decide) rfl rfl (Nat.le_of_ble_eq_true rfl) ?_
  rintro X rfl rfl rfl hRm hnL hnm hsz hX hQ
  refine ez_aload_n hX 0 dX9_init_0 rfl ?_
  refine ez_objInit hX wm_X9_3 ⟨ez_ra hRm rfl, ez_rb hRm rfl⟩ dX9_init_1 ?_
  refine ez_aload_n hX 0 dX9_init_4 rfl ?_
  refine ez_sipush hX (301 : Int32) dX9_init_5 (by decide) ?_
  refine ez_newI hX (N0 := 73) (hsz rfl) rfl kc_73 ⟨by decide, by decide, Nat.le_of_ble_eq_true rfl⟩ (fun j => congrFun (mz_14 73 (by decide)).1 j) (ez_rn hRm rfl) dX9_init_8 ?_
  refine ez_putFr hX kc_72 rfl (Nat.le_of_ble_eq_true rfl) (Nat.le_of_ble_eq_true rfl) (Nat.le_of_ble_eq_true rfl) inX9 tyX9 tyX9_ok nmX9 73 rfl wf_X9_9 rfl hnm rfl rfl rfl dX9_init_10 ?_
  show ez_Z X _ em_r73 em_m14 _ _ _ _ _
  refine ez_aload_n hX 0 dX9_init_13 rfl ?_
  refine ez_sipush hX (301 : Int32) dX9_init_14 (by decide) ?_
  refine ez_newI hX (N0 := 73) (hsz rfl) rfl kc_74 ⟨by decide, by decide, Nat.le_of_ble_eq_true rfl⟩ (fun j => congrFun (mz_14 74 (by decide)).1 j) (ez_rn hRm rfl) dX9_init_17 ?_
  refine ez_putFr hX kc_72 rfl (Nat.le_of_ble_eq_true rfl) (Nat.le_of_ble_eq_true rfl) (Nat.le_of_ble_eq_true rfl) inX9 tyX9 tyX9_ok nmX9 74 rfl wf_X9_15 rfl hnm rfl rfl rfl dX9_init_19 ?_
  show ez_Z X _ em_r74 em_m14 _ _ _ _ _
  refine ez_aload_n hX 0 dX9_init_22 rfl ?_
  refine ez_sipush hX (301 : Int32) dX9_init_23 (by decide) ?_
  refine ez_newI hX (N0 := 73) (hsz rfl) rfl kc_75 ⟨by decide, by decide, Nat.le_of_ble_eq_true rfl⟩ (fun j => congrFun (mz_14 75 (by decide)).1 j) (ez_rn hRm rfl) dX9_init_26 ?_
  refine ez_putFr hX kc_72 rfl (Nat.le_of_ble_eq_true rfl) (Nat.le_of_ble_eq_true rfl) (Nat.le_of_ble_eq_true rfl) inX9 tyX9 tyX9_ok nmX9 75 rfl wf_X9_18 rfl hnm rfl rfl rfl dX9_init_28 ?_
  show ez_Z X _ em_r75 em_m14 _ _ _ _ _
  refine ez_aload_n hX 0 dX9_init_31 rfl ?_
  refine ez_sipush hX (301 : Int32) dX9_init_32 (by decide) ?_
  refine ez_newI hX (N0 := 73) (hsz rfl) rfl kc_76 ⟨by decide, by decide, Nat.le_of_ble_eq_true rfl⟩ (fun j => congrFun (mz_14 76 (by decide)).1 j) (ez_rn hRm rfl) dX9_init_35 ?_
  refine ez_putFr hX kc_72 rfl (Nat.le_of_ble_eq_true rfl) (Nat.le_of_ble_eq_true rfl) (Nat.le_of_ble_eq_true rfl) inX9 tyX9 tyX9_ok nmX9 76 rfl wf_X9_21 rfl hnm rfl rfl rfl dX9_init_37 ?_
  show ez_Z X _ em_r76 em_m14 _ _ _ _ _
  exact ez_vret hX hQ dX9_init_40 rfl rfl
set_option maxHeartbeats 4000000 in
set_option maxRecDepth 100000 in
theorem ecn_19 (l : Launch) (D : em_G) (B : Nat) : em_C l D B yX3_init cX3_init 3 none 2 32 20 5480 true [.ref (B + 58), .ref (B + 1), .ref (B + 55)] 59 em_r59 em_m13 none 79 em_r81 em_m14 := by
  refine em_C_of RX3 [(0, .ref (B + 58)), (1, .ref (B + 1)), (2, .ref (B + 55))] (by decide) rfl rfl (Nat.le_of_ble_eq_true rfl) ?_
  rintro X rfl rfl rfl hRm hnL hnm hsz hX hQ
  refine ez_aload_n hX 0 dX3_init_0 rfl ?_
  refine ez_objInit hX wm_X3_3 ⟨ez_ra hRm rfl, ez_rb hRm rfl⟩ dX3_init_1 ?_
  refine ez_aload_n hX 0 dX3_init_4 rfl ?_
  refine ez_new hX (N0 := 59) (hsz rfl) rfl kc_59 (Nat.le_of_ble_eq_true rfl) rfl inX4 tyX4 tyX4_ok (ez_df4 (rz_59 59 (by decide)) (mz_13 59 (by decide))) wc_X3_9 wn_X4 wi_X4 (ez_rn hRm rfl) dX3_init_5 ?_
  refine ez_dup hX dX3_init_8 rfl ?_
  refine ez_callIN hX (N0 := 59) (As := []) (st := [.ref (ez_B X + 59), .ref (ez_B X + 58)]) (ecn_20 _ _ _) (Or.inr ⟨hsz rfl, rfl⟩) wm_X3_11 wv_X4_init rfl wy_X4_init rfl wd_X4_init wi_X4 (ez_rok hRm rfl) (Nat.le_of_ble_eq_true rfl) dX3_init_9 ?_
  show ez_Z X _ em_r60 em_m14 _ _ _ _ _
  refine ez_putFr hX kc_58 rfl (Nat.le_of_ble_eq_true rfl) (Nat.le_of_ble_eq_true rfl) (Nat.le_of_ble_eq_true rfl) inX3 tyX3 tyX3_ok nmX3 59 rfl wf_X3_12 rfl hnm rfl rfl rfl dX3_init_12 ?_
  show ez_Z X _ em_r61 em_m14 _ _ _ _ _
  refine ez_aload_n hX 0 dX3_init_15 rfl ?_
  refine ez_new hX (N0 := 59) (hsz rfl) rfl kc_61 (Nat.le_of_ble_eq_true rfl) rfl inX7 tyX7 tyX7_ok (ez_df7 (rz_61 61 (by decide)) (mz_14 61 (by decide))) wc_X3_18 wn_X7 wi_X7 (ez_rn hRm rfl) dX3_init_16 ?_
  refine ez_dup hX dX3_init_19 rfl ?_
  refine ez_callIN hX (N0 := 59) (As := []) (st := [.ref (ez_B X + 61), .ref (ez_B X + 58)]) (ecn_21 _ _ _) (Or.inr ⟨hsz rfl, rfl⟩) wm_X3_20 wv_X7_init rfl wy_X7_init rfl wd_X7_init wi_X7 (ez_rok hRm rfl) (Nat.le_of_ble_eq_true rfl) dX3_init_20 ?_
  show ez_Z X _ em_r62 em_m14 _ _ _ _ _
  refine ez_putFr hX kc_58 rfl (Nat.le_of_ble_eq_true rfl) (Nat.le_of_ble_eq_true rfl) (Nat.le_of_ble_eq_true rfl) inX3 tyX3 tyX3_ok nmX3 61 rfl wf_X3_21 rfl hnm rfl rfl rfl dX3_init_23 ?_
  show ez_Z X _ em_r63 em_m14 _ _ _ _ _
  refine ez_aload_n hX 0 dX3_init_26 rfl ?_
  refine ez_new hX (N0 := 59) (hsz rfl) rfl kc_63 (Nat.le_of_ble_eq_true rfl) rfl inX0 tyX0 tyX0_ok (ez_df0 (rz_63 63 (by decide)) (mz_14 63 (by decide))) wc_X3_25 wn_X0 wi_X0 (ez_rn hRm rfl) dX3_init_27 ?_
  refine ez_dup hX dX3_init_30 rfl ?_
  refine ez_callIN hX (N0 := 59) (As := []) (st := [.ref (ez_B X + 63), .ref (ez_B X + 58)]) (ecn_22 _ _ _) (Or.inr ⟨hsz rfl, rfl⟩) wm_X3_27 wv_X0_init rfl wy_X0_init rfl wd_X0_init wi_X0 (ez_rok hRm rfl) (Nat.le_of_ble_eq_true rfl) dX3_init_31 ?_
  show ez_Z X _ em_r71 em_m14 _ _ _ _ _
  refine ez_putFr hX kc_58 rfl (Nat.le_of_ble_eq_true rfl) (Nat.le_of_ble_eq_true rfl) (Nat.le_of_ble_eq_true rfl) inX3 tyX3 tyX3_ok nmX3 63 rfl wf_X3_28 rfl hnm rfl rfl rfl dX3_init_34 ?_
  show ez_Z X _ em_r72 em_m14 _ _ _ _ _
  refine ez_aload_n hX 0 dX3_init_37 rfl ?_
  refine ez_new hX (N0 := 59) (hsz rfl) rfl kc_72 (Nat.le_of_ble_eq_true rfl) rfl inX9 tyX9 tyX9_ok (ez_df9 (rz_72 72 (by decide)) (mz_14 72 (by decide))) wc_X3_32 wn_X9 wi_X9 (ez_rn hRm rfl) dX3_init_38 ?_
  refine ez_dup hX dX3_init_41 rfl ?_
  refine ez_callIN hX (N0 := 59) (As := []) (st := [.ref (ez_B X + 72), .ref (ez_B X + 58)]) (ecn_23 _ _ _) (Or.inr ⟨hsz rfl, rfl⟩) wm_X3_34 wv_X9_init rfl wy_X9_init rfl wd_X9_init wi_X9 (ez_rok hRm rfl) (Nat.le_of_ble_eq_true rfl) dX3_init_42 ?_
  show ez_Z X _ em_r76 em_m14 _ _ _ _ _
  refine ez_putFr hX kc_58 rfl (Nat.le_of_ble_eq_true rfl) (Nat.le_of_ble_eq_true rfl) (Nat.le_of_ble_eq_true rfl) inX3 tyX3 tyX3_ok nmX3 72 rfl wf_X3_35 rfl hnm rfl rfl rfl dX3_init_45 ?_
  show ez_Z X _ em_r77 em_m14 _ _ _ _ _
  refine ez_aload_n hX 0 dX3_init_48 rfl ?_
  refine ez_sipush hX (301 : Int32) dX3_init_49 (by decide) ?_
  refine ez_newI hX (N0 := 59) (hsz rfl) rfl kc_77 ⟨by decide, by decide, Nat.le_of_ble_eq_true rfl⟩ (fun j => congrFun (mz_14 77 (by decide)).1 j) (ez_rn hRm rfl) dX3_init_52 ?_
  refine ez_putFr hX kc_58 rfl (Nat.le_of_ble_eq_true rfl) (Nat.le_of_ble_eq_true rfl) (Nat.le_of_ble_eq_true rfl) inX3 tyX3 tyX3_ok nmX3 77 rfl wf_X3_39 rfl hnm rfl rfl rfl dX3_init_54 ?_
  show ez_Z X _ em_r78 em_m14 _ _ _ _ _
  refine ez_aload_n hX 0 dX3_init_57 rfl ?_
  refine ez_sipush hX (301 : Int32) dX3_init_58 (by decide) ?_
  refine ez_newI hX (N0 := 59) (hsz rfl) rfl kc_78 ⟨by decide, by decide, Nat.le_of_ble_eq_true rfl⟩ (fun j => congrFun (mz_14 78 (by decide)).1 j) (ez_rn hRm rfl) dX3_init_61 ?_
  refine ez_putFr hX kc_58 rfl (Nat.le_of_ble_eq_true rfl) (Nat.le_of_ble_eq_true rfl) (Nat.le_of_ble_eq_true rfl) inX3 tyX3 tyX3_ok nmX3 78 rfl wf_X3_43 rfl hnm rfl rfl rfl dX3_init_63 ?_
  show ez_Z X _ em_r79 em_m14 _ _ _ _ _
  refine ez_aload_n hX 0 dX3_init_66 rfl ?_
  refine ez_aload_n hX 1 dX3_init_67 rfl ?_
  refine ez_putFr hX kc_58 rfl (Nat.le_of_ble_eq_true rfl) (Nat.le_of_ble_eq_true rfl) (Nat.le_of_ble_eq_true rfl) inX3 tyX3 tyX3_ok nmX3 1 rfl wf_X3_46 rfl hnm rfl rfl rfl dX3_init_68 ?_
  show ez_Z X _ em_r80 em_m14 _ _ _ _ _
  refine ez_aload_n hX 0 dX3_init_71 rfl ?_
  refine ez_aload_n hX 2 dX3_init_72 rfl ?_
  refine ez_putFr hX kc_58 rfl (Nat.le_of_ble_eq_true rfl) (Nat.le_of_ble_eq_true rfl) (Nat.le_of_ble_eq_true rfl) inX3 tyX3 tyX3_ok nmX3 55 rfl wf_X3_50 rfl hnm rfl rfl rfl dX3_init_73 ?_
  show ez_Z X _ em_r81 em_m14 _ _ _ _ _
  exact ez_vret hX hQ dX3_init_76 rfl rfl
set_option maxHeartbeats 4000000 in
set_option maxRecDepth 100000 in
theorem ecn_14 (l : Launch) (D : em_G) (B : Nat) : em_C l D B yX1_init cX1_init 2 none 3 54 33 5576 true [.ref (B + 45), .ref (B + 1)] 46 em_r47 em_m7 none 79 em_r82 em_m14 := by
  refine em_C_of RX1 [(0, .ref (B + 45)), (1, .ref (B + 1))] (by decide) rfl rfl (Nat.le_of_ble_eq_true rfl) ?_
  rintro X rfl rfl rfl hRm hnL hnm hsz hX hQ
  refine ez_aload_n hX 0 dX1_init_0 rfl ?_
  refine ez_objInit hX wm_X1_3 ⟨ez_ra hRm rfl, ez_rb hRm rfl⟩ dX1_init_1 ?_
  refine ez_aload_n hX 0 dX1_init_4 rfl ?_
  refine ez_new hX (N0 := 46) (hsz rfl) rfl kc_46 (Nat.le_of_ble_eq_true rfl) rfl inX6 tyX6 tyX6_ok (ez_df6 (rz_47 46 (by decide)) (mz_7 46 (by decide))) wc_X1_9 wn_X6 wi_X6 (ez_rn hRm rfl) dX1_init_5 ?_
  refine ez_dup hX dX1_init_8 rfl ?_
  refine ez_iconst hX (5 : Int32) dX1_init_9 (by decide) ?_
  refine ez_callI hX (N0 := 46) (As := [.int (5 : Int32)]) (st := [.ref (ez_B X + 46), .ref (ez_B X + 45)]) (ecn_15 _ _ _) (Or.inr ⟨hsz rfl, rfl⟩) wm_X1_11 wv_X6_init rfl wy_X6_init rfl wd_X6_init wi_X6 (ez_rok hRm rfl) (Nat.le_of_ble_eq_true rfl) dX1_init_10 ?_
  show ez_Z X _ em_r49 em_m8 _ _ _ _ _
  refine ez_putFr hX kc_45 rfl (Nat.le_of_ble_eq_true rfl) (Nat.le_of_ble_eq_true rfl) (Nat.le_of_ble_eq_true rfl) inX1 tyX1 tyX1_ok nmX1 46 rfl wf_X1_14 rfl hnm rfl rfl rfl dX1_init_13 ?_
  show ez_Z X _ em_r50 em_m8 _ _ _ _ _
  refine ez_aload_n hX 0 dX1_init_16 rfl ?_
  refine ez_new hX (N0 := 46) (hsz rfl) rfl kc_49 (Nat.le_of_ble_eq_true rfl) rfl inX6 tyX6 tyX6_ok (ez_df6 (rz_50 49 (by decide)) (mz_8 49 (by decide))) wc_X1_9 wn_X6 wi_X6 (ez_rn hRm rfl) dX1_init_17 ?_
  refine ez_dup hX dX1_init_20 rfl ?_
  refine ez_bipush hX (10 : Int32) dX1_init_21 (by decide) ?_
  refine ez_callI hX (N0 := 46) (As := [.int (10 : Int32)]) (st := [.ref (ez_B X + 49), .ref (ez_B X + 45)]) (ecn_16 _ _ _) (Or.inr ⟨hsz rfl, rfl⟩) wm_X1_11 wv_X6_init rfl wy_X6_init rfl wd_X6_init wi_X6 (ez_rok hRm rfl) (Nat.le_of_ble_eq_true rfl) dX1_init_23 ?_
  show ez_Z X _ em_r52 em_m9 _ _ _ _ _
  refine ez_putFr hX kc_45 rfl (Nat.le_of_ble_eq_true rfl) (Nat.le_of_ble_eq_true rfl) (Nat.le_of_ble_eq_true rfl) inX1 tyX1 tyX1_ok nmX1 49 rfl wf_X1_20 rfl hnm rfl rfl rfl dX1_init_26 ?_
  show ez_Z X _ em_r53 em_m9 _ _ _ _ _
  refine ez_aload_n hX 0 dX1_init_29 rfl ?_
  refine ez_new hX (N0 := 46) (hsz rfl) rfl kc_52 (Nat.le_of_ble_eq_true rfl) rfl inX6 tyX6 tyX6_ok (ez_df6 (rz_53 52 (by decide)) (mz_9 52 (by decide))) wc_X1_9 wn_X6 wi_X6 (ez_rn hRm rfl) dX1_init_30 ?_
  refine ez_dup hX dX1_init_33 rfl ?_
  refine ez_bipush hX (8 : Int32) dX1_init_34 (by decide) ?_
  refine ez_callI hX (N0 := 46) (As := [.int (8 : Int32)]) (st := [.ref (ez_B X + 52), .ref (ez_B X + 45)]) (ecn_17 _ _ _) (Or.inr ⟨hsz rfl, rfl⟩) wm_X1_11 wv_X6_init rfl wy_X6_init rfl wd_X6_init wi_X6 (ez_rok hRm rfl) (Nat.le_of_ble_eq_true rfl) dX1_init_36 ?_
  show ez_Z X _ em_r55 em_m10 _ _ _ _ _
  refine ez_putFr hX kc_45 rfl (Nat.le_of_ble_eq_true rfl) (Nat.le_of_ble_eq_true rfl) (Nat.le_of_ble_eq_true rfl) inX1 tyX1 tyX1_ok nmX1 52 rfl wf_X1_23 rfl hnm rfl rfl rfl dX1_init_39 ?_
  show ez_Z X _ em_r56 em_m10 _ _ _ _ _
  refine ez_aload_n hX 0 dX1_init_42 rfl ?_
  refine ez_new hX (N0 := 46) (hsz rfl) rfl kc_55 (Nat.le_of_ble_eq_true rfl) rfl inX10 tyX10 tyX10_ok (ez_df10 (rz_56 55 (by decide)) (mz_10 55 (by decide))) wc_X1_26 wn_X10 wi_X10 (ez_rn hRm rfl) dX1_init_43 ?_
  refine ez_dup hX dX1_init_46 rfl ?_
  refine ez_callI hX (N0 := 46) (As := []) (st := [.ref (ez_B X + 55), .ref (ez_B X + 45)]) (ecn_18 _ _ _) (Or.inr ⟨hsz rfl, rfl⟩) wm_X1_28 wv_X10_init rfl wy_X10_init rfl wd_X10_init wi_X10 (ez_rok hRm rfl) (Nat.le_of_ble_eq_true rfl) dX1_init_47 ?_
  show ez_Z X _ em_r58 em_m13 _ _ _ _ _
  refine ez_putFr hX kc_45 rfl (Nat.le_of_ble_eq_true rfl) (Nat.le_of_ble_eq_true rfl) (Nat.le_of_ble_eq_true rfl) inX1 tyX1 tyX1_ok nmX1 55 rfl wf_X1_29 rfl hnm rfl rfl rfl dX1_init_50 ?_
  show ez_Z X _ em_r59 em_m13 _ _ _ _ _
  refine ez_aload_n hX 0 dX1_init_53 rfl ?_
  refine ez_new hX (N0 := 46) (hsz rfl) rfl kc_58 (Nat.le_of_ble_eq_true rfl) rfl inX3 tyX3 tyX3_ok (ez_df3 (rz_59 58 (by decide)) (mz_13 58 (by decide))) wc_X1_33 wn_X3 wi_X3 (ez_rn hRm rfl) dX1_init_54 ?_
  refine ez_dup hX dX1_init_57 rfl ?_
  refine ez_aload_n hX 1 dX1_init_58 rfl ?_
  refine ez_aload_n hX 0 dX1_init_59 rfl ?_
  refine ez_getr hX kc_45 rfl (Nat.le_of_ble_eq_true rfl) (Nat.le_of_ble_eq_true rfl) (Nat.le_of_ble_eq_true rfl) inX1 55 rfl (by decide +kernel) wf_X1_29 dX1_init_60 ?_
  refine ez_callI hX (N0 := 46) (As := [.ref (ez_B X + 1), .ref (ez_B X + 55)]) (st := [.ref (ez_B X + 58), .ref (ez_B X + 45)]) (ecn_19 _ _ _) (Or.inr ⟨hsz rfl, rfl⟩) wm_X1_35 wv_X3_init rfl wy_X3_init rfl wd_X3_init wi_X3 (ez_rok hRm rfl) (Nat.le_of_ble_eq_true rfl) dX1_init_63 ?_
  show ez_Z X _ em_r81 em_m14 _ _ _ _ _
  refine ez_putFr hX kc_45 rfl (Nat.le_of_ble_eq_true rfl) (Nat.le_of_ble_eq_true rfl) (Nat.le_of_ble_eq_true rfl) inX1 tyX1 tyX1_ok nmX1 58 rfl wf_X1_38 rfl hnm rfl rfl rfl dX1_init_66 ?_
  show ez_Z X _ em_r82 em_m14 _ _ _ _ _
  exact ez_vret hX hQ dX1_init_69 rfl rfl
set_option maxHeartbeats 4000000 in
set_option maxRecDepth 100000 in
theorem ecn_24 (l : Launch) (D : em_G) (B : Nat) : em_C l D B yX10_init cX10_init 2 none 1 12 2 7 true [.ref (B + 79)] 80 em_r83 em_m14 none 82 em_r85 em_m17 := by
  refine em_C_of RX10 [(0, .ref (B + 79))] (by decide) rfl rfl (Nat.le_of_ble_eq_true rfl) ?_
  rintro X rfl rfl rfl hRm hnL hnm hsz hX hQ
  refine ez_aload_n hX 0 dX10_init_0 rfl ?_
  refine ez_objInit hX wm_X10_3 ⟨ez_ra hRm rfl, ez_rb hRm rfl⟩ dX10_init_1 ?_
  refine ez_aload_n hX 0 dX10_init_4 rfl ?_
  refine ez_iconst hX (4 : Int32) dX10_init_5 (by decide) ?_
  refine ez_newI hX (N0 := 80) (hsz rfl) rfl kc_80 ⟨by decide, by decide, Nat.le_of_ble_eq_true rfl⟩ (fun j => congrFun (mz_14 80 (by decide)).1 j) (ez_rn hRm rfl) dX10_init_6 ?_
  refine ez_putFr hX kc_79 rfl (Nat.le_of_ble_eq_true rfl) (Nat.le_of_ble_eq_true rfl) (Nat.le_of_ble_eq_true rfl) inX10 tyX10 tyX10_ok nmX10 80 rfl wf_X10_9 rfl hnm rfl rfl rfl dX10_init_8 ?_
  show ez_Z X _ em_r84 em_m14 _ _ _ _ _
  refine ez_aload_n hX 0 dX10_init_11 rfl ?_
  refine ez_iconst hX (3 : Int32) dX10_init_12 (by decide) ?_
  refine ez_newI hX (N0 := 80) (hsz rfl) rfl kc_81 ⟨by decide, by decide, Nat.le_of_ble_eq_true rfl⟩ (fun j => congrFun (mz_14 81 (by decide)).1 j) (ez_rn hRm rfl) dX10_init_13 ?_
  refine ez_putFr hX kc_79 rfl (Nat.le_of_ble_eq_true rfl) (Nat.le_of_ble_eq_true rfl) (Nat.le_of_ble_eq_true rfl) inX10 tyX10 tyX10_ok nmX10 81 rfl wf_X10_15 rfl hnm rfl rfl rfl dX10_init_15 ?_
  show ez_Z X _ em_r85 em_m14 _ _ _ _ _
  refine ez_iconst hX (0 : Int32) dX10_init_18 (by decide) ?_
  refine ez_istore_n hX [(1, .int (0 : Int32)), (0, .ref (ez_B X + 79))] dX10_init_19 (ez_lt hnL rfl) rfl ?_
  refine ez_iload_n hX 0 dX10_init_20 rfl ?_
  refine ez_aload_n hX 1 dX10_init_21 rfl ?_
  refine ez_getr hX kc_79 rfl (Nat.le_of_ble_eq_true rfl) (Nat.le_of_ble_eq_true rfl) (Nat.le_of_ble_eq_true rfl) inX10 81 rfl (by decide +kernel) wf_X10_15 dX10_init_22 ?_
  refine ez_alenI hX kc_81 (Nat.le_of_ble_eq_true rfl) (3 : Int32) (by decide) dX10_init_25 ?_
  refine ez_icmp_ge hX 43 dX10_init_26 (by decide) (fun c => absurd c (by decide)) (fun _ => ?_)
  refine ez_aload_n hX 1 dX10_init_29 rfl ?_
  refine ez_getr hX kc_79 rfl (Nat.le_of_ble_eq_true rfl) (Nat.le_of_ble_eq_true rfl) (Nat.le_of_ble_eq_true rfl) inX10 81 rfl (by decide +kernel) wf_X10_15 dX10_init_30 ?_
  refine ez_iload_n hX 0 dX10_init_33 rfl ?_
  refine ez_bipush hX (-5 : Int32) dX10_init_34 (by decide) ?_
  refine ez_iast hX kc_81 (Nat.le_of_ble_eq_true rfl) (by unfold vp_in; decide) dX10_init_36 ?_
  show ez_Z X _ em_r85 em_m15 _ _ _ _ _
  refine ez_iinc hX (1 : Int32) 0 [(1, .int (1 : Int32)), (0, .ref (ez_B X + 79))] dX10_init_37 rfl (by decide) (ez_lt hnL rfl) rfl ?_
  refine ez_goto hX 20 dX10_init_40 (by decide) ?_
  refine ez_iload_n hX 0 dX10_init_20 rfl ?_
  refine ez_aload_n hX 1 dX10_init_21 rfl ?_
  refine ez_getr hX kc_79 rfl (Nat.le_of_ble_eq_true rfl) (Nat.le_of_ble_eq_true rfl) (Nat.le_of_ble_eq_true rfl) inX10 81 rfl (by decide +kernel) wf_X10_15 dX10_init_22 ?_
  refine ez_alenI hX kc_81 (Nat.le_of_ble_eq_true rfl) (3 : Int32) (by decide) dX10_init_25 ?_
  refine ez_icmp_ge hX 43 dX10_init_26 (by decide) (fun c => absurd c (by decide)) (fun _ => ?_)
  refine ez_aload_n hX 1 dX10_init_29 rfl ?_
  refine ez_getr hX kc_79 rfl (Nat.le_of_ble_eq_true rfl) (Nat.le_of_ble_eq_true rfl) (Nat.le_of_ble_eq_true rfl) inX10 81 rfl (by decide +kernel) wf_X10_15 dX10_init_30 ?_
  refine ez_iload_n hX 0 dX10_init_33 rfl ?_
  refine ez_bipush hX (-5 : Int32) dX10_init_34 (by decide) ?_
  refine ez_iast hX kc_81 (Nat.le_of_ble_eq_true rfl) (by unfold vp_in; decide) dX10_init_36 ?_
  show ez_Z X _ em_r85 em_m16 _ _ _ _ _
  refine ez_iinc hX (2 : Int32) 0 [(1, .int (2 : Int32)), (0, .ref (ez_B X + 79))] dX10_init_37 rfl (by decide) (ez_lt hnL rfl) rfl ?_
  refine ez_goto hX 20 dX10_init_40 (by decide) ?_
  refine ez_iload_n hX 0 dX10_init_20 rfl ?_
  refine ez_aload_n hX 1 dX10_init_21 rfl ?_
  refine ez_getr hX kc_79 rfl (Nat.le_of_ble_eq_true rfl) (Nat.le_of_ble_eq_true rfl) (Nat.le_of_ble_eq_true rfl) inX10 81 rfl (by decide +kernel) wf_X10_15 dX10_init_22 ?_
  refine ez_alenI hX kc_81 (Nat.le_of_ble_eq_true rfl) (3 : Int32) (by decide) dX10_init_25 ?_
  refine ez_icmp_ge hX 43 dX10_init_26 (by decide) (fun c => absurd c (by decide)) (fun _ => ?_)
  refine ez_aload_n hX 1 dX10_init_29 rfl ?_
  refine ez_getr hX kc_79 rfl (Nat.le_of_ble_eq_true rfl) (Nat.le_of_ble_eq_true rfl) (Nat.le_of_ble_eq_true rfl) inX10 81 rfl (by decide +kernel) wf_X10_15 dX10_init_30 ?_
  refine ez_iload_n hX 0 dX10_init_33 rfl ?_
  refine ez_bipush hX (-5 : Int32) dX10_init_34 (by decide) ?_
  refine ez_iast hX kc_81 (Nat.le_of_ble_eq_true rfl) (by unfold vp_in; decide) dX10_init_36 ?_
  show ez_Z X _ em_r85 em_m17 _ _ _ _ _
  refine ez_iinc hX (3 : Int32) 0 [(1, .int (3 : Int32)), (0, .ref (ez_B X + 79))] dX10_init_37 rfl (by decide) (ez_lt hnL rfl) rfl ?_
  refine ez_goto hX 20 dX10_init_40 (by decide) ?_
  refine ez_iload_n hX 0 dX10_init_20 rfl ?_
  refine ez_aload_n hX 1 dX10_init_21 rfl ?_
  refine ez_getr hX kc_79 rfl (Nat.le_of_ble_eq_true rfl) (Nat.le_of_ble_eq_true rfl) (Nat.le_of_ble_eq_true rfl) inX10 81 rfl (by decide +kernel) wf_X10_15 dX10_init_22 ?_
  refine ez_alenI hX kc_81 (Nat.le_of_ble_eq_true rfl) (3 : Int32) (by decide) dX10_init_25 ?_
  refine ez_icmp_ge hX 43 dX10_init_26 (by decide) (fun _ => ?_) (fun c => absurd (by decide) c)
  exact ez_vret hX hQ dX10_init_43 rfl rfl
set_option maxHeartbeats 4000000 in
set_option maxRecDepth 100000 in
theorem ecn_26 (l : Launch) (D : em_G) (B : Nat) : em_C l D B yX4_init cX4_init 1 none 1 12 1 40 true [.ref (B + 83)] 84 em_r86 em_m17 none 85 em_r87 em_m18 := by
  refine em_C_of RX4 [(0, .ref (B + 83))] (by decide) rfl rfl (Nat.le_of_ble_eq_true rfl) ?_
  rintro X rfl rfl rfl hRm hnL hnm hsz hX hQ
  refine ez_aload_n hX 0 dX4_init_0 rfl ?_
  refine ez_objInit hX wm_X4_3 ⟨ez_ra hRm rfl, ez_rb hRm rfl⟩ dX4_init_1 ?_
  refine ez_aload_n hX 0 dX4_init_4 rfl ?_
  refine ez_bipush hX (-9 : Int32) dX4_init_5 (by decide) ?_
  refine ez_puti hX kc_83 rfl (Nat.le_of_ble_eq_true rfl) (Nat.le_of_ble_eq_true rfl) (Nat.le_of_ble_eq_true rfl) inX4 tyX4 tyX4_ok nmX4 (-9 : Int32) rfl wf_X4_9 rfl  rfl rfl dX4_init_7 ?_
  show ez_Z X _ em_r86 em_m18 _ _ _ _ _
  refine ez_aload_n hX 0 dX4_init_10 rfl ?_
  refine ez_bipush hX (40 : Int32) dX4_init_11 (by decide) ?_
  refine ez_newI hX (N0 := 84) (hsz rfl) rfl kc_84 ⟨by decide, by decide, Nat.le_of_ble_eq_true rfl⟩ (fun j => congrFun (mz_18 84 (by decide)).1 j) (ez_rn hRm rfl) dX4_init_13 ?_
  refine ez_putFr hX kc_83 rfl (Nat.le_of_ble_eq_true rfl) (Nat.le_of_ble_eq_true rfl) (Nat.le_of_ble_eq_true rfl) inX4 tyX4 tyX4_ok nmX4 84 rfl wf_X4_15 rfl hnm rfl rfl rfl dX4_init_15 ?_
  show ez_Z X _ em_r87 em_m18 _ _ _ _ _
  exact ez_vret hX hQ dX4_init_18 rfl rfl
set_option maxHeartbeats 4000000 in
set_option maxRecDepth 100000 in
theorem ecn_27 (l : Launch) (D : em_G) (B : Nat) : em_C l D B yX7_init cX7_init 1 none 1 12 1 1204 true [.ref (B + 85)] 86 em_r88 em_m18 none 87 em_r89 em_m18 := by
  refine em_C_of RX7 [(0, .ref (B + 85))] (by decide) rfl rfl (Nat.le_of_ble_eq_true rfl) ?_
  rintro X rfl rfl rfl hRm hnL hnm hsz hX hQ
  refine ez_aload_n hX 0 dX7_init_0 rfl ?_
  refine ez_objInit hX wm_X7_3 ⟨ez_ra hRm rfl, ez_rb hRm rfl⟩ dX7_init_1 ?_
  refine ez_aload_n hX 0 dX7_init_4 rfl ?_
  refine ez_sipush hX (1204 : Int32) dX7_init_5 (by decide) ?_
  refine ez_newJ hX (N0 := 86) (hsz rfl) rfl kc_86 ⟨by decide, by decide, Nat.le_of_ble_eq_true rfl⟩ (fun j => congrFun (mz_18 86 (by decide)).2 j) (ez_rn hRm rfl) dX7_init_8 ?_
  refine ez_putFr hX kc_85 rfl (Nat.le_of_ble_eq_true rfl) (Nat.le_of_ble_eq_true rfl) (Nat.le_of_ble_eq_true rfl) inX7 tyX7 tyX7_ok nmX7 86 rfl wf_X7_9 rfl hnm rfl rfl rfl dX7_init_10 ?_
  show ez_Z X _ em_r89 em_m18 _ _ _ _ _
  exact ez_vret hX hQ dX7_init_13 rfl rfl
set_option maxHeartbeats 4000000 in
set_option maxRecDepth 100000 in
theorem ecn_28 (l : Launch) (D : em_G) (B : Nat) : em_C l D B yX0_init cX0_init 1 none 1 12 8 2408 true [.ref (B + 87)] 88 em_r90 em_m18 none 96 em_r98 em_m18 := by
  refine em_C_of RX0 [(0, .ref (B + 87))] (by decide) rfl rfl (Nat.le_of_ble_eq_true rfl) ?_
  rintro X rfl rfl rfl hRm hnL hnm hsz hX hQ
  refine ez_aload_n hX 0 dX0_init_0 rfl ?_
  refine ez_objInit hX wm_X0_3 ⟨ez_ra hRm rfl, ez_rb hRm rfl⟩ dX0_init_1 ?_
  refine ez_aload_n hX 0 dX0_init_4 rfl ?_
  refine ez_sipush hX (301 : Int32) dX0_init_5 (by decide) ?_
  refine ez_newI hX (N0 := 88) (hsz rfl) rfl kc_88 ⟨by decide, by decide, Nat.le_of_ble_eq_true rfl⟩ (fun j => congrFun (mz_18 88 (by decide)).1 j) (ez_rn hRm rfl) dX0_init_8 ?_
  refine ez_putFr hX kc_87 rfl (Nat.le_of_ble_eq_true rfl) (Nat.le_of_ble_eq_true rfl) (Nat.le_of_ble_eq_true rfl) inX0 tyX0 tyX0_ok nmX0 88 rfl wf_X0_9 rfl hnm rfl rfl rfl dX0_init_10 ?_
  show ez_Z X _ em_r91 em_m18 _ _ _ _ _
  refine ez_aload_n hX 0 dX0_init_13 rfl ?_
  refine ez_sipush hX (301 : Int32) dX0_init_14 (by decide) ?_
  refine ez_newI hX (N0 := 88) (hsz rfl) rfl kc_89 ⟨by decide, by decide, Nat.le_of_ble_eq_true rfl⟩ (fun j => congrFun (mz_18 89 (by decide)).1 j) (ez_rn hRm rfl) dX0_init_17 ?_
  refine ez_putFr hX kc_87 rfl (Nat.le_of_ble_eq_true rfl) (Nat.le_of_ble_eq_true rfl) (Nat.le_of_ble_eq_true rfl) inX0 tyX0 tyX0_ok nmX0 89 rfl wf_X0_15 rfl hnm rfl rfl rfl dX0_init_19 ?_
  show ez_Z X _ em_r92 em_m18 _ _ _ _ _
  refine ez_aload_n hX 0 dX0_init_22 rfl ?_
  refine ez_sipush hX (301 : Int32) dX0_init_23 (by decide) ?_
  refine ez_newI hX (N0 := 88) (hsz rfl) rfl kc_90 ⟨by decide, by decide, Nat.le_of_ble_eq_true rfl⟩ (fun j => congrFun (mz_18 90 (by decide)).1 j) (ez_rn hRm rfl) dX0_init_26 ?_
  refine ez_putFr hX kc_87 rfl (Nat.le_of_ble_eq_true rfl) (Nat.le_of_ble_eq_true rfl) (Nat.le_of_ble_eq_true rfl) inX0 tyX0 tyX0_ok nmX0 90 rfl wf_X0_18 rfl hnm rfl rfl rfl dX0_init_28 ?_
  show ez_Z X _ em_r93 em_m18 _ _ _ _ _
  refine ez_aload_n hX 0 dX0_init_31 rfl ?_
  refine ez_sipush hX (301 : Int32) dX0_init_32 (by decide) ?_
  refine ez_newI hX (N0 := 88) (hsz rfl) rfl kc_91 ⟨by decide, by decide, Nat.le_of_ble_eq_true rfl⟩ (fun j => congrFun (mz_18 91 (by decide)).1 j) (ez_rn hRm rfl) dX0_init_35 ?_
  refine ez_putFr hX kc_87 rfl (Nat.le_of_ble_eq_true rfl) (Nat.le_of_ble_eq_true rfl) (Nat.le_of_ble_eq_true rfl) inX0 tyX0 tyX0_ok nmX0 91 rfl wf_X0_21 rfl hnm rfl rfl rfl dX0_init_37 ?_
  show ez_Z X _ em_r94 em_m18 _ _ _ _ _
  refine ez_aload_n hX 0 dX0_init_40 rfl ?_
  refine ez_sipush hX (301 : Int32) dX0_init_41 (by decide) ?_
  refine ez_newI hX (N0 := 88) (hsz rfl) rfl kc_92 ⟨by decide, by decide, Nat.le_of_ble_eq_true rfl⟩ (fun j => congrFun (mz_18 92 (by decide)).1 j) (ez_rn hRm rfl) dX0_init_44 ?_
  refine ez_putFr hX kc_87 rfl (Nat.le_of_ble_eq_true rfl) (Nat.le_of_ble_eq_true rfl) (Nat.le_of_ble_eq_true rfl) inX0 tyX0 tyX0_ok nmX0 92 rfl wf_X0_24 rfl hnm rfl rfl rfl dX0_init_46 ?_
  show ez_Z X _ em_r95 em_m18 _ _ _ _ _
  refine ez_aload_n hX 0 dX0_init_49 rfl ?_
  refine ez_sipush hX (301 : Int32) dX0_init_50 (by decide) ?_
  refine ez_newI hX (N0 := 88) (hsz rfl) rfl kc_93 ⟨by decide, by decide, Nat.le_of_ble_eq_true rfl⟩ (fun j => congrFun (mz_18 93 (by decide)).1 j) (ez_rn hRm rfl) dX0_init_53 ?_
  refine ez_putFr hX kc_87 rfl (Nat.le_of_ble_eq_true rfl) (Nat.le_of_ble_eq_true rfl) (Nat.le_of_ble_eq_true rfl) inX0 tyX0 tyX0_ok nmX0 93 rfl wf_X0_27 rfl hnm rfl rfl rfl dX0_init_55 ?_
  show ez_Z X _ em_r96 em_m18 _ _ _ _ _
  refine ez_aload_n hX 0 dX0_init_58 rfl ?_
  refine ez_sipush hX (301 : Int32) dX0_init_59 (by decide) ?_
  refine ez_newI hX (N0 := 88) (hsz rfl) rfl kc_94 ⟨by decide, by decide, Nat.le_of_ble_eq_true rfl⟩ (fun j => congrFun (mz_18 94 (by decide)).1 j) (ez_rn hRm rfl) dX0_init_62 ?_
  refine ez_putFr hX kc_87 rfl (Nat.le_of_ble_eq_true rfl) (Nat.le_of_ble_eq_true rfl) (Nat.le_of_ble_eq_true rfl) inX0 tyX0 tyX0_ok nmX0 94 rfl wf_X0_30 rfl hnm rfl rfl rfl dX0_init_64 ?_
  show ez_Z X _ em_r97 em_m18 _ _ _ _ _
  refine ez_aload_n hX 0 dX0_init_67 rfl ?_
  refine ez_sipush hX (301 : Int32) dX0_init_68 (by decide) ?_
  refine ez_newJ hX (N0 := 88) (hsz rfl) rfl kc_95 ⟨by decide, by decide, Nat.le_of_ble_eq_true rfl⟩ (fun j => congrFun (mz_18 95 (by decide)).2 j) (ez_rn hRm rfl) dX0_init_71 ?_
  refine ez_putFr hX kc_87 rfl (Nat.le_of_ble_eq_true rfl) (Nat.le_of_ble_eq_true rfl) (Nat.le_of_ble_eq_true rfl) inX0 tyX0 tyX0_ok nmX0 95 rfl wf_X0_33 rfl hnm rfl rfl rfl dX0_init_73 ?_
  show ez_Z X _ em_r98 em_m18 _ _ _ _ _
  exact ez_vret hX hQ dX0_init_76 rfl rfl
set_option maxHeartbeats 4000000 in
set_option maxRecDepth 100000 in
theorem ecn_29 (l : Launch) (D : em_G) (B : Nat) : em_C l D B yX9_init cX9_init 1 none 1 12 4 1204 true [.ref (B + 96)] 97 em_r99 em_m18 none 101 em_r103 em_m18 := by
  refine em_C_of RX9 [(0, .ref (B + 96))] (by decide) rfl rfl (Nat.le_of_ble_eq_true rfl) ?_
  rintro X rfl rfl rfl hRm hnL hnm hsz hX hQ
  refine ez_aload_n hX 0 dX9_init_0 rfl ?_
  refine ez_objInit hX wm_X9_3 ⟨ez_ra hRm rfl, ez_rb hRm rfl⟩ dX9_init_1 ?_
  refine ez_aload_n hX 0 dX9_init_4 rfl ?_
  refine ez_sipush hX (301 : Int32) dX9_init_5 (by decide) ?_
  refine ez_newI hX (N0 := 97) (hsz rfl) rfl kc_97 ⟨by decide, by decide, Nat.le_of_ble_eq_true rfl⟩ (fun j => congrFun (mz_18 97 (by decide)).1 j) (ez_rn hRm rfl) dX9_init_8 ?_
  refine ez_putFr hX kc_96 rfl (Nat.le_of_ble_eq_true rfl) (Nat.le_of_ble_eq_true rfl) (Nat.le_of_ble_eq_true rfl) inX9 tyX9 tyX9_ok nmX9 97 rfl wf_X9_9 rfl hnm rfl rfl rfl dX9_init_10 ?_
  show ez_Z X _ em_r100 em_m18 _ _ _ _ _
  refine ez_aload_n hX 0 dX9_init_13 rfl ?_
  refine ez_sipush hX (301 : Int32) dX9_init_14 (by decide) ?_
  refine ez_newI hX (N0 := 97) (hsz rfl) rfl kc_98 ⟨by decide, by decide, Nat.le_of_ble_eq_true rfl⟩ (fun j => congrFun (mz_18 98 (by decide)).1 j) (ez_rn hRm rfl) dX9_init_17 ?_
  refine ez_putFr hX kc_96 rfl (Nat.le_of_ble_eq_true rfl) (Nat.le_of_ble_eq_true rfl) (Nat.le_of_ble_eq_true rfl) inX9 tyX9 tyX9_ok nmX9 98 rfl wf_X9_15 rfl hnm rfl rfl rfl dX9_init_19 ?_
  show ez_Z X _ em_r101 em_m18 _ _ _ _ _
  refine ez_aload_n hX 0 dX9_init_22 rfl ?_
  refine ez_sipush hX (301 : Int32) dX9_init_23 (by decide) ?_
  refine ez_newI hX (N0 := 97) (hsz rfl) rfl kc_99 ⟨by decide, by decide, Nat.le_of_ble_eq_true rfl⟩ (fun j => congrFun (mz_18 99 (by decide)).1 j) (ez_rn hRm rfl) dX9_init_26 ?_
  refine ez_putFr hX kc_96 rfl (Nat.le_of_ble_eq_true rfl) (Nat.le_of_ble_eq_true rfl) (Nat.le_of_ble_eq_true rfl) inX9 tyX9 tyX9_ok nmX9 99 rfl wf_X9_18 rfl hnm rfl rfl rfl dX9_init_28 ?_
  show ez_Z X _ em_r102 em_m18 _ _ _ _ _
  refine ez_aload_n hX 0 dX9_init_31 rfl ?_
  refine ez_sipush hX (301 : Int32) dX9_init_32 (by decide) ?_
  refine ez_newI hX (N0 := 97) (hsz rfl) rfl kc_100 ⟨by decide, by decide, Nat.le_of_ble_eq_true rfl⟩ (fun j => congrFun (mz_18 100 (by decide)).1 j) (ez_rn hRm rfl) dX9_init_35 ?_
  refine ez_putFr hX kc_96 rfl (Nat.le_of_ble_eq_true rfl) (Nat.le_of_ble_eq_true rfl) (Nat.le_of_ble_eq_true rfl) inX9 tyX9 tyX9_ok nmX9 100 rfl wf_X9_21 rfl hnm rfl rfl rfl dX9_init_37 ?_
  show ez_Z X _ em_r103 em_m18 _ _ _ _ _
  exact ez_vret hX hQ dX9_init_40 rfl rfl
set_option maxHeartbeats 4000000 in
set_option maxRecDepth 100000 in
theorem ecn_25 (l : Launch) (D : em_G) (B : Nat) : em_C l D B yX3_init cX3_init 3 none 2 32 20 5480 true [.ref (B + 82), .ref (B + 1), .ref (B + 79)] 83 em_r86 em_m17 none 103 em_r108 em_m18 := by
  refine em_C_of RX3 [(0, .ref (B + 82)), (1, .ref (B + 1)), (2, .ref (B + 79))] (by decide) rfl rfl (Nat.le_of_ble_eq_true rfl) ?_
  rintro X rfl rfl rfl hRm hnL hnm hsz hX hQ
  refine ez_aload_n hX 0 dX3_init_0 rfl ?_
  refine ez_objInit hX wm_X3_3 ⟨ez_ra hRm rfl, ez_rb hRm rfl⟩ dX3_init_1 ?_
  refine ez_aload_n hX 0 dX3_init_4 rfl ?_
  refine ez_new hX (N0 := 83) (hsz rfl) rfl kc_83 (Nat.le_of_ble_eq_true rfl) rfl inX4 tyX4 tyX4_ok (ez_df4 (rz_86 83 (by decide)) (mz_17 83 (by decide))) wc_X3_9 wn_X4 wi_X4 (ez_rn hRm rfl) dX3_init_5 ?_
  refine ez_dup hX dX3_init_8 rfl ?_
  refine ez_callIN hX (N0 := 83) (As := []) (st := [.ref (ez_B X + 83), .ref (ez_B X + 82)]) (ecn_26 _ _ _) (Or.inr ⟨hsz rfl, rfl⟩) wm_X3_11 wv_X4_init rfl wy_X4_init rfl wd_X4_init wi_X4 (ez_rok hRm rfl) (Nat.le_of_ble_eq_true rfl) dX3_init_9 ?_
  show ez_Z X _ em_r87 em_m18 _ _ _ _ _
  refine ez_putFr hX kc_82 rfl (Nat.le_of_ble_eq_true rfl) (Nat.le_of_ble_eq_true rfl) (Nat.le_of_ble_eq_true rfl) inX3 tyX3 tyX3_ok nmX3 83 rfl wf_X3_12 rfl hnm rfl rfl rfl dX3_init_12 ?_
  show ez_Z X _ em_r88 em_m18 _ _ _ _ _
  refine ez_aload_n hX 0 dX3_init_15 rfl ?_
  refine ez_new hX (N0 := 83) (hsz rfl) rfl kc_85 (Nat.le_of_ble_eq_true rfl) rfl inX7 tyX7 tyX7_ok (ez_df7 (rz_88 85 (by decide)) (mz_18 85 (by decide))) wc_X3_18 wn_X7 wi_X7 (ez_rn hRm rfl) dX3_init_16 ?_
  refine ez_dup hX dX3_init_19 rfl ?_
  refine ez_callIN hX (N0 := 83) (As := []) (st := [.ref (ez_B X + 85), .ref (ez_B X + 82)]) (ecn_27 _ _ _) (Or.inr ⟨hsz rfl, rfl⟩) wm_X3_20 wv_X7_init rfl wy_X7_init rfl wd_X7_init wi_X7 (ez_rok hRm rfl) (Nat.le_of_ble_eq_true rfl) dX3_init_20 ?_
  show ez_Z X _ em_r89 em_m18 _ _ _ _ _
  refine ez_putFr hX kc_82 rfl (Nat.le_of_ble_eq_true rfl) (Nat.le_of_ble_eq_true rfl) (Nat.le_of_ble_eq_true rfl) inX3 tyX3 tyX3_ok nmX3 85 rfl wf_X3_21 rfl hnm rfl rfl rfl dX3_init_23 ?_
  show ez_Z X _ em_r90 em_m18 _ _ _ _ _
  refine ez_aload_n hX 0 dX3_init_26 rfl ?_
  refine ez_new hX (N0 := 83) (hsz rfl) rfl kc_87 (Nat.le_of_ble_eq_true rfl) rfl inX0 tyX0 tyX0_ok (ez_df0 (rz_90 87 (by decide)) (mz_18 87 (by decide))) wc_X3_25 wn_X0 wi_X0 (ez_rn hRm rfl) dX3_init_27 ?_
  refine ez_dup hX dX3_init_30 rfl ?_
  refine ez_callIN hX (N0 := 83) (As := []) (st := [.ref (ez_B X + 87), .ref (ez_B X + 82)]) (ecn_28 _ _ _) (Or.inr ⟨hsz rfl, rfl⟩) wm_X3_27 wv_X0_init rfl wy_X0_init rfl wd_X0_init wi_X0 (ez_rok hRm rfl) (Nat.le_of_ble_eq_true rfl) dX3_init_31 ?_
  show ez_Z X _ em_r98 em_m18 _ _ _ _ _
  refine ez_putFr hX kc_82 rfl (Nat.le_of_ble_eq_true rfl) (Nat.le_of_ble_eq_true rfl) (Nat.le_of_ble_eq_true rfl) inX3 tyX3 tyX3_ok nmX3 87 rfl wf_X3_28 rfl hnm rfl rfl rfl dX3_init_34 ?_
  show ez_Z X _ em_r99 em_m18 _ _ _ _ _
  refine ez_aload_n hX 0 dX3_init_37 rfl ?_
  refine ez_new hX (N0 := 83) (hsz rfl) rfl kc_96 (Nat.le_of_ble_eq_true rfl) rfl inX9 tyX9 tyX9_ok (ez_df9 (rz_99 96 (by decide)) (mz_18 96 (by decide))) wc_X3_32 wn_X9 wi_X9 (ez_rn hRm rfl) dX3_init_38 ?_
  refine ez_dup hX dX3_init_41 rfl ?_
  refine ez_callIN hX (N0 := 83) (As := []) (st := [.ref (ez_B X + 96), .ref (ez_B X + 82)]) (ecn_29 _ _ _) (Or.inr ⟨hsz rfl, rfl⟩) wm_X3_34 wv_X9_init rfl wy_X9_init rfl wd_X9_init wi_X9 (ez_rok hRm rfl) (Nat.le_of_ble_eq_true rfl) dX3_init_42 ?_
  show ez_Z X _ em_r103 em_m18 _ _ _ _ _
  refine ez_putFr hX kc_82 rfl (Nat.le_of_ble_eq_true rfl) (Nat.le_of_ble_eq_true rfl) (Nat.le_of_ble_eq_true rfl) inX3 tyX3 tyX3_ok nmX3 96 rfl wf_X3_35 rfl hnm rfl rfl rfl dX3_init_45 ?_
  show ez_Z X _ em_r104 em_m18 _ _ _ _ _
  refine ez_aload_n hX 0 dX3_init_48 rfl ?_
  refine ez_sipush hX (301 : Int32) dX3_init_49 (by decide) ?_
  refine ez_newI hX (N0 := 83) (hsz rfl) rfl kc_101 ⟨by decide, by decide, Nat.le_of_ble_eq_true rfl⟩ (fun j => congrFun (mz_18 101 (by decide)).1 j) (ez_rn hRm rfl) dX3_init_52 ?_
  refine ez_putFr hX kc_82 rfl (Nat.le_of_ble_eq_true rfl) (Nat.le_of_ble_eq_true rfl) (Nat.le_of_ble_eq_true rfl) inX3 tyX3 tyX3_ok nmX3 101 rfl wf_X3_39 rfl hnm rfl rfl rfl dX3_init_54 ?_
  show ez_Z X _ em_r105 em_m18 _ _ _ _ _
  refine ez_aload_n hX 0 dX3_init_57 rfl ?_
  refine ez_sipush hX (301 : Int32) dX3_init_58 (by decide) ?_
  refine ez_newI hX (N0 := 83) (hsz rfl) rfl kc_102 ⟨by decide, by decide, Nat.le_of_ble_eq_true rfl⟩ (fun j => congrFun (mz_18 102 (by decide)).1 j) (ez_rn hRm rfl) dX3_init_61 ?_
  refine ez_putFr hX kc_82 rfl (Nat.le_of_ble_eq_true rfl) (Nat.le_of_ble_eq_true rfl) (Nat.le_of_ble_eq_true rfl) inX3 tyX3 tyX3_ok nmX3 102 rfl wf_X3_43 rfl hnm rfl rfl rfl dX3_init_63 ?_
  show ez_Z X _ em_r106 em_m18 _ _ _ _ _
  refine ez_aload_n hX 0 dX3_init_66 rfl ?_
  refine ez_aload_n hX 1 dX3_init_67 rfl ?_
  refine ez_putFr hX kc_82 rfl (Nat.le_of_ble_eq_true rfl) (Nat.le_of_ble_eq_true rfl) (Nat.le_of_ble_eq_true rfl) inX3 tyX3 tyX3_ok nmX3 1 rfl wf_X3_46 rfl hnm rfl rfl rfl dX3_init_68 ?_
  show ez_Z X _ em_r107 em_m18 _ _ _ _ _
  refine ez_aload_n hX 0 dX3_init_71 rfl ?_
  refine ez_aload_n hX 2 dX3_init_72 rfl ?_
  refine ez_putFr hX kc_82 rfl (Nat.le_of_ble_eq_true rfl) (Nat.le_of_ble_eq_true rfl) (Nat.le_of_ble_eq_true rfl) inX3 tyX3 tyX3_ok nmX3 79 rfl wf_X3_50 rfl hnm rfl rfl rfl dX3_init_73 ?_
  show ez_Z X _ em_r108 em_m18 _ _ _ _ _
  exact ez_vret hX hQ dX3_init_76 rfl rfl
set_option maxHeartbeats 4000000 in
set_option maxRecDepth 100000 in
theorem ecn_30 (l : Launch) (D : em_G) (B : Nat) : em_C l D B yX4_init cX4_init 1 none 1 12 1 40 true [.ref (B + 103)] 104 em_r109 em_m18 none 105 em_r110 em_m19 := by
  refine em_C_of RX4 [(0, .ref (B + 103))] (by decide) rfl rfl (Nat.le_of_ble_eq_true rfl) ?_
  rintro X rfl rfl rfl hRm hnL hnm hsz hX hQ
  refine ez_aload_n hX 0 dX4_init_0 rfl ?_
  refine ez_objInit hX wm_X4_3 ⟨ez_ra hRm rfl, ez_rb hRm rfl⟩ dX4_init_1 ?_
  refine ez_aload_n hX 0 dX4_init_4 rfl ?_
  refine ez_bipush hX (-9 : Int32) dX4_init_5 (by decide) ?_
  refine ez_puti hX kc_103 rfl (Nat.le_of_ble_eq_true rfl) (Nat.le_of_ble_eq_true rfl) (Nat.le_of_ble_eq_true rfl) inX4 tyX4 tyX4_ok nmX4 (-9 : Int32) rfl wf_X4_9 rfl  rfl rfl dX4_init_7 ?_
  show ez_Z X _ em_r109 em_m19 _ _ _ _ _
  refine ez_aload_n hX 0 dX4_init_10 rfl ?_
  refine ez_bipush hX (40 : Int32) dX4_init_11 (by decide) ?_
  refine ez_newI hX (N0 := 104) (hsz rfl) rfl kc_104 ⟨by decide, by decide, Nat.le_of_ble_eq_true rfl⟩ (fun j => congrFun (mz_19 104 (by decide)).1 j) (ez_rn hRm rfl) dX4_init_13 ?_
  refine ez_putFr hX kc_103 rfl (Nat.le_of_ble_eq_true rfl) (Nat.le_of_ble_eq_true rfl) (Nat.le_of_ble_eq_true rfl) inX4 tyX4 tyX4_ok nmX4 104 rfl wf_X4_15 rfl hnm rfl rfl rfl dX4_init_15 ?_
  show ez_Z X _ em_r110 em_m19 _ _ _ _ _
  exact ez_vret hX hQ dX4_init_18 rfl rfl
set_option maxHeartbeats 4000000 in
set_option maxRecDepth 100000 in
theorem ecn_31 (l : Launch) (D : em_G) (B : Nat) : em_C l D B yX8_init cX8_init 1 none 1 12 1 60 true [.ref (B + 106)] 107 em_r112 em_m19 none 108 em_r113 em_m20 := by
  refine em_C_of RX8 [(0, .ref (B + 106))] (by decide) rfl rfl (Nat.le_of_ble_eq_true rfl) ?_
  rintro X rfl rfl rfl hRm hnL hnm hsz hX hQ
  refine ez_aload_n hX 0 dX8_init_0 rfl ?_
  refine ez_objInit hX wm_X8_3 ⟨ez_ra hRm rfl, ez_rb hRm rfl⟩ dX8_init_1 ?_
  refine ez_aload_n hX 0 dX8_init_4 rfl ?_
  refine ez_iconst hX (-1 : Int32) dX8_init_5 (by decide) ?_
  refine ez_puti hX kc_106 rfl (Nat.le_of_ble_eq_true rfl) (Nat.le_of_ble_eq_true rfl) (Nat.le_of_ble_eq_true rfl) inX8 tyX8 tyX8_ok nmX8 (-1 : Int32) rfl wf_X8_11 rfl  rfl rfl dX8_init_6 ?_
  show ez_Z X _ em_r112 em_m20 _ _ _ _ _
  refine ez_aload_n hX 0 dX8_init_9 rfl ?_
  refine ez_bipush hX (60 : Int32) dX8_init_10 (by decide) ?_
  refine ez_newJ hX (N0 := 107) (hsz rfl) rfl kc_107 ⟨by decide, by decide, Nat.le_of_ble_eq_true rfl⟩ (fun j => congrFun (mz_20 107 (by decide)).2 j) (ez_rn hRm rfl) dX8_init_12 ?_
  refine ez_putFr hX kc_106 rfl (Nat.le_of_ble_eq_true rfl) (Nat.le_of_ble_eq_true rfl) (Nat.le_of_ble_eq_true rfl) inX8 tyX8 tyX8_ok nmX8 107 rfl wf_X8_15 rfl hnm rfl rfl rfl dX8_init_14 ?_
  show ez_Z X _ em_r113 em_m20 _ _ _ _ _
  exact ez_vret hX hQ dX8_init_17 rfl rfl
set_option maxHeartbeats 4000000 in
set_option maxRecDepth 100000 in
theorem ecn_32 (l : Launch) (D : em_G) (B : Nat) : em_C l D B yX8_init cX8_init 1 none 1 12 1 60 true [.ref (B + 108)] 109 em_r114 em_m20 none 110 em_r115 em_m21 := by
  refine em_C_of RX8 [(0, .ref (B + 108))] (by decide) rfl rfl (Nat.le_of_ble_eq_true rfl) ?_
  rintro X rfl rfl rfl hRm hnL hnm hsz hX hQ
  refine ez_aload_n hX 0 dX8_init_0 rfl ?_
  refine ez_objInit hX wm_X8_3 ⟨ez_ra hRm rfl, ez_rb hRm rfl⟩ dX8_init_1 ?_
  refine ez_aload_n hX 0 dX8_init_4 rfl ?_
  refine ez_iconst hX (-1 : Int32) dX8_init_5 (by decide) ?_
  refine ez_puti hX kc_108 rfl (Nat.le_of_ble_eq_true rfl) (Nat.le_of_ble_eq_true rfl) (Nat.le_of_ble_eq_true rfl) inX8 tyX8 tyX8_ok nmX8 (-1 : Int32) rfl wf_X8_11 rfl  rfl rfl dX8_init_6 ?_
  show ez_Z X _ em_r114 em_m21 _ _ _ _ _
  refine ez_aload_n hX 0 dX8_init_9 rfl ?_
  refine ez_bipush hX (60 : Int32) dX8_init_10 (by decide) ?_
  refine ez_newJ hX (N0 := 109) (hsz rfl) rfl kc_109 ⟨by decide, by decide, Nat.le_of_ble_eq_true rfl⟩ (fun j => congrFun (mz_21 109 (by decide)).2 j) (ez_rn hRm rfl) dX8_init_12 ?_
  refine ez_putFr hX kc_108 rfl (Nat.le_of_ble_eq_true rfl) (Nat.le_of_ble_eq_true rfl) (Nat.le_of_ble_eq_true rfl) inX8 tyX8 tyX8_ok nmX8 109 rfl wf_X8_15 rfl hnm rfl rfl rfl dX8_init_14 ?_
  show ez_Z X _ em_r115 em_m21 _ _ _ _ _
  exact ez_vret hX hQ dX8_init_17 rfl rfl
set_option maxHeartbeats 4000000 in
set_option maxRecDepth 100000 in
theorem ecn_33 (l : Launch) (D : em_G) (B : Nat) : em_C l D B yX8_init cX8_init 1 none 1 12 1 60 true [.ref (B + 110)] 111 em_r116 em_m21 none 112 em_r117 em_m22 := by
  refine em_C_of RX8 [(0, .ref (B + 110))] (by decide) rfl rfl (Nat.le_of_ble_eq_true rfl) ?_
  rintro X rfl rfl rfl hRm hnL hnm hsz hX hQ
  refine ez_aload_n hX 0 dX8_init_0 rfl ?_
  refine ez_objInit hX wm_X8_3 ⟨ez_ra hRm rfl, ez_rb hRm rfl⟩ dX8_init_1 ?_
  refine ez_aload_n hX 0 dX8_init_4 rfl ?_
  refine ez_iconst hX (-1 : Int32) dX8_init_5 (by decide) ?_
  refine ez_puti hX kc_110 rfl (Nat.le_of_ble_eq_true rfl) (Nat.le_of_ble_eq_true rfl) (Nat.le_of_ble_eq_true rfl) inX8 tyX8 tyX8_ok nmX8 (-1 : Int32) rfl wf_X8_11 rfl  rfl rfl dX8_init_6 ?_
  show ez_Z X _ em_r116 em_m22 _ _ _ _ _
  refine ez_aload_n hX 0 dX8_init_9 rfl ?_
  refine ez_bipush hX (60 : Int32) dX8_init_10 (by decide) ?_
  refine ez_newJ hX (N0 := 111) (hsz rfl) rfl kc_111 ⟨by decide, by decide, Nat.le_of_ble_eq_true rfl⟩ (fun j => congrFun (mz_22 111 (by decide)).2 j) (ez_rn hRm rfl) dX8_init_12 ?_
  refine ez_putFr hX kc_110 rfl (Nat.le_of_ble_eq_true rfl) (Nat.le_of_ble_eq_true rfl) (Nat.le_of_ble_eq_true rfl) inX8 tyX8 tyX8_ok nmX8 111 rfl wf_X8_15 rfl hnm rfl rfl rfl dX8_init_14 ?_
  show ez_Z X _ em_r117 em_m22 _ _ _ _ _
  exact ez_vret hX hQ dX8_init_17 rfl rfl
set_option maxHeartbeats 4000000 in
set_option maxRecDepth 100000 in
theorem ecn_34 (l : Launch) (D : em_G) (B : Nat) : em_C l D B yX8_init cX8_init 1 none 1 12 1 60 true [.ref (B + 112)] 113 em_r118 em_m22 none 114 em_r119 em_m23 := by
  refine em_C_of RX8 [(0, .ref (B + 112))] (by decide) rfl rfl (Nat.le_of_ble_eq_true rfl) ?_
  rintro X rfl rfl rfl hRm hnL hnm hsz hX hQ
  refine ez_aload_n hX 0 dX8_init_0 rfl ?_
  refine ez_objInit hX wm_X8_3 ⟨ez_ra hRm rfl, ez_rb hRm rfl⟩ dX8_init_1 ?_
  refine ez_aload_n hX 0 dX8_init_4 rfl ?_
  refine ez_iconst hX (-1 : Int32) dX8_init_5 (by decide) ?_
  refine ez_puti hX kc_112 rfl (Nat.le_of_ble_eq_true rfl) (Nat.le_of_ble_eq_true rfl) (Nat.le_of_ble_eq_true rfl) inX8 tyX8 tyX8_ok nmX8 (-1 : Int32) rfl wf_X8_11 rfl  rfl rfl dX8_init_6 ?_
  show ez_Z X _ em_r118 em_m23 _ _ _ _ _
  refine ez_aload_n hX 0 dX8_init_9 rfl ?_
  refine ez_bipush hX (60 : Int32) dX8_init_10 (by decide) ?_
  refine ez_newJ hX (N0 := 113) (hsz rfl) rfl kc_113 ⟨by decide, by decide, Nat.le_of_ble_eq_true rfl⟩ (fun j => congrFun (mz_23 113 (by decide)).2 j) (ez_rn hRm rfl) dX8_init_12 ?_
  refine ez_putFr hX kc_112 rfl (Nat.le_of_ble_eq_true rfl) (Nat.le_of_ble_eq_true rfl) (Nat.le_of_ble_eq_true rfl) inX8 tyX8 tyX8_ok nmX8 113 rfl wf_X8_15 rfl hnm rfl rfl rfl dX8_init_14 ?_
  show ez_Z X _ em_r119 em_m23 _ _ _ _ _
  exact ez_vret hX hQ dX8_init_17 rfl rfl
set_option maxHeartbeats 4000000 in
set_option maxRecDepth 100000 in
theorem ecn_35 (l : Launch) (D : em_G) (B : Nat) : em_C l D B yX8_init cX8_init 1 none 1 12 1 60 true [.ref (B + 114)] 115 em_r120 em_m23 none 116 em_r121 em_m24 := by
  refine em_C_of RX8 [(0, .ref (B + 114))] (by decide) rfl rfl (Nat.le_of_ble_eq_true rfl) ?_
  rintro X rfl rfl rfl hRm hnL hnm hsz hX hQ
  refine ez_aload_n hX 0 dX8_init_0 rfl ?_
  refine ez_objInit hX wm_X8_3 ⟨ez_ra hRm rfl, ez_rb hRm rfl⟩ dX8_init_1 ?_
  refine ez_aload_n hX 0 dX8_init_4 rfl ?_
  refine ez_iconst hX (-1 : Int32) dX8_init_5 (by decide) ?_
  refine ez_puti hX kc_114 rfl (Nat.le_of_ble_eq_true rfl) (Nat.le_of_ble_eq_true rfl) (Nat.le_of_ble_eq_true rfl) inX8 tyX8 tyX8_ok nmX8 (-1 : Int32) rfl wf_X8_11 rfl  rfl rfl dX8_init_6 ?_
  show ez_Z X _ em_r120 em_m24 _ _ _ _ _
  refine ez_aload_n hX 0 dX8_init_9 rfl ?_
  refine ez_bipush hX (60 : Int32) dX8_init_10 (by decide) ?_
  refine ez_newJ hX (N0 := 115) (hsz rfl) rfl kc_115 ⟨by decide, by decide, Nat.le_of_ble_eq_true rfl⟩ (fun j => congrFun (mz_24 115 (by decide)).2 j) (ez_rn hRm rfl) dX8_init_12 ?_
  refine ez_putFr hX kc_114 rfl (Nat.le_of_ble_eq_true rfl) (Nat.le_of_ble_eq_true rfl) (Nat.le_of_ble_eq_true rfl) inX8 tyX8 tyX8_ok nmX8 115 rfl wf_X8_15 rfl hnm rfl rfl rfl dX8_init_14 ?_
  show ez_Z X _ em_r121 em_m24 _ _ _ _ _
  exact ez_vret hX hQ dX8_init_17 rfl rfl
set_option maxHeartbeats 4000000 in
set_option maxRecDepth 100000 in
theorem ecn_36 (l : Launch) (D : em_G) (B : Nat) : em_C l D B yX8_init cX8_init 1 none 1 12 1 60 true [.ref (B + 116)] 117 em_r122 em_m24 none 118 em_r123 em_m25 := by
  refine em_C_of RX8 [(0, .ref (B + 116))] (by decide) rfl rfl (Nat.le_of_ble_eq_true rfl) ?_
  rintro X rfl rfl rfl hRm hnL hnm hsz hX hQ
  refine ez_aload_n hX 0 dX8_init_0 rfl ?_
  refine ez_objInit hX wm_X8_3 ⟨ez_ra hRm rfl, ez_rb hRm rfl⟩ dX8_init_1 ?_
  refine ez_aload_n hX 0 dX8_init_4 rfl ?_
  refine ez_iconst hX (-1 : Int32) dX8_init_5 (by decide) ?_
  refine ez_puti hX kc_116 rfl (Nat.le_of_ble_eq_true rfl) (Nat.le_of_ble_eq_true rfl) (Nat.le_of_ble_eq_true rfl) inX8 tyX8 tyX8_ok nmX8 (-1 : Int32) rfl wf_X8_11 rfl  rfl rfl dX8_init_6 ?_
  show ez_Z X _ em_r122 em_m25 _ _ _ _ _
  refine ez_aload_n hX 0 dX8_init_9 rfl ?_
  refine ez_bipush hX (60 : Int32) dX8_init_10 (by decide) ?_
  refine ez_newJ hX (N0 := 117) (hsz rfl) rfl kc_117 ⟨by decide, by decide, Nat.le_of_ble_eq_true rfl⟩ (fun j => congrFun (mz_25 117 (by decide)).2 j) (ez_rn hRm rfl) dX8_init_12 ?_
  refine ez_putFr hX kc_116 rfl (Nat.le_of_ble_eq_true rfl) (Nat.le_of_ble_eq_true rfl) (Nat.le_of_ble_eq_true rfl) inX8 tyX8 tyX8_ok nmX8 117 rfl wf_X8_15 rfl hnm rfl rfl rfl dX8_init_14 ?_
  show ez_Z X _ em_r123 em_m25 _ _ _ _ _
  exact ez_vret hX hQ dX8_init_17 rfl rfl
set_option maxHeartbeats 4000000 in
set_option maxRecDepth 100000 in
theorem ecn_1 (l : Launch) (D : em_G) (B : Nat) : em_C l D B yX11_init cX11_init 2 none 4 75 117 22849 true [.ref (B + 0)] 1 em_r0 em_m0 none 118 em_r124 em_m25 := by
  refine em_C_of RX11 [(0, .ref (B + 0))] (by decide) rfl rfl (Nat.le_of_ble_eq_true rfl) ?_
  rintro X rfl rfl rfl hRm hnL hnm hsz hX hQ
  refine ez_aload_n hX 0 dX11_init_0 rfl ?_
  refine ez_objInit hX wm_X11_5 ⟨ez_ra hRm rfl, ez_rb hRm rfl⟩ dX11_init_1 ?_
  refine ez_aload_n hX 0 dX11_init_4 rfl ?_
  refine ez_new hX (N0 := 1) (hsz rfl) rfl kc_1 (Nat.le_of_ble_eq_true rfl) rfl inX2 tyX2 tyX2_ok (ez_df2 (rz_0 1 (by decide)) (mz_0 1 (by decide))) wc_X11_11 wn_X2 wi_X2 (ez_rn hRm rfl) dX11_init_5 ?_
  refine ez_dup hX dX11_init_8 rfl ?_
  refine ez_callIN hX (N0 := 1) (As := []) (st := [.ref (ez_B X + 1), .ref (ez_B X + 0)]) (ecn_2 _ _ _) (Or.inr ⟨hsz rfl, rfl⟩) wm_X11_13 wv_X2_init rfl wy_X2_init rfl wd_X2_init wi_X2 (ez_rok hRm rfl) (Nat.le_of_ble_eq_true rfl) dX11_init_9 ?_
  show ez_Z X _ em_r7 em_m0 _ _ _ _ _
  refine ez_putFr hX kc_0 rfl (Nat.le_of_ble_eq_true rfl) (Nat.le_of_ble_eq_true rfl) (Nat.le_of_ble_eq_true rfl) inX11 tyX11 tyX11_ok nmX11 1 rfl wf_X11_14 rfl hnm rfl rfl rfl dX11_init_12 ?_
  show ez_Z X _ em_r8 em_m0 _ _ _ _ _
  refine ez_aload_n hX 0 dX11_init_15 rfl ?_
  refine ez_new hX (N0 := 1) (hsz rfl) rfl kc_9 (Nat.le_of_ble_eq_true rfl) rfl inX5 tyX5 tyX5_ok (ez_df5 (rz_8 9 (by decide)) (mz_0 9 (by decide))) wc_X11_18 wn_X5 wi_X5 (ez_rn hRm rfl) dX11_init_16 ?_
  refine ez_dup hX dX11_init_19 rfl ?_
  refine ez_aload_n hX 0 dX11_init_20 rfl ?_
  refine ez_getr hX kc_0 rfl (Nat.le_of_ble_eq_true rfl) (Nat.le_of_ble_eq_true rfl) (Nat.le_of_ble_eq_true rfl) inX11 1 rfl (by decide +kernel) wf_X11_14 dX11_init_21 ?_
  refine ez_callI hX (N0 := 1) (As := [.ref (ez_B X + 1)]) (st := [.ref (ez_B X + 9), .ref (ez_B X + 0)]) (ecn_3 _ _ _) (Or.inr ⟨hsz rfl, rfl⟩) wm_X11_20 wv_X5_init rfl wy_X5_init rfl wd_X5_init wi_X5 (ez_rok hRm rfl) (Nat.le_of_ble_eq_true rfl) dX11_init_24 ?_
  show ez_Z X _ em_r10 em_m0 _ _ _ _ _
  refine ez_putFr hX kc_0 rfl (Nat.le_of_ble_eq_true rfl) (Nat.le_of_ble_eq_true rfl) (Nat.le_of_ble_eq_true rfl) inX11 tyX11 tyX11_ok nmX11 9 rfl wf_X11_23 rfl hnm rfl rfl rfl dX11_init_27 ?_
  show ez_Z X _ em_r11 em_m0 _ _ _ _ _
  refine ez_aload_n hX 0 dX11_init_30 rfl ?_
  refine ez_new hX (N0 := 1) (hsz rfl) rfl kc_11 (Nat.le_of_ble_eq_true rfl) rfl inX1 tyX1 tyX1_ok (ez_df1 (rz_11 11 (by decide)) (mz_0 11 (by decide))) wc_X11_27 wn_X1 wi_X1 (ez_rn hRm rfl) dX11_init_31 ?_
  refine ez_dup hX dX11_init_34 rfl ?_
  refine ez_aload_n hX 0 dX11_init_35 rfl ?_
  refine ez_getr hX kc_0 rfl (Nat.le_of_ble_eq_true rfl) (Nat.le_of_ble_eq_true rfl) (Nat.le_of_ble_eq_true rfl) inX11 1 rfl (by decide +kernel) wf_X11_14 dX11_init_36 ?_
  refine ez_callI hX (N0 := 1) (As := [.ref (ez_B X + 1)]) (st := [.ref (ez_B X + 11), .ref (ez_B X + 0)]) (ecn_4 _ _ _) (Or.inr ⟨hsz rfl, rfl⟩) wm_X11_29 wv_X1_init rfl wy_X1_init rfl wd_X1_init wi_X1 (ez_rok hRm rfl) (Nat.le_of_ble_eq_true rfl) dX11_init_39 ?_
  show ez_Z X _ em_r46 em_m7 _ _ _ _ _
  refine ez_putFr hX kc_0 rfl (Nat.le_of_ble_eq_true rfl) (Nat.le_of_ble_eq_true rfl) (Nat.le_of_ble_eq_true rfl) inX11 tyX11 tyX11_ok nmX11 11 rfl wf_X11_30 rfl hnm rfl rfl rfl dX11_init_42 ?_
  show ez_Z X _ em_r47 em_m7 _ _ _ _ _
  refine ez_aload_n hX 0 dX11_init_45 rfl ?_
  refine ez_new hX (N0 := 1) (hsz rfl) rfl kc_45 (Nat.le_of_ble_eq_true rfl) rfl inX1 tyX1 tyX1_ok (ez_df1 (rz_47 45 (by decide)) (mz_7 45 (by decide))) wc_X11_27 wn_X1 wi_X1 (ez_rn hRm rfl) dX11_init_46 ?_
  refine ez_dup hX dX11_init_49 rfl ?_
  refine ez_aload_n hX 0 dX11_init_50 rfl ?_
  refine ez_getr hX kc_0 rfl (Nat.le_of_ble_eq_true rfl) (Nat.le_of_ble_eq_true rfl) (Nat.le_of_ble_eq_true rfl) inX11 1 rfl (by decide +kernel) wf_X11_14 dX11_init_51 ?_
  refine ez_callI hX (N0 := 1) (As := [.ref (ez_B X + 1)]) (st := [.ref (ez_B X + 45), .ref (ez_B X + 0)]) (ecn_14 _ _ _) (Or.inr ⟨hsz rfl, rfl⟩) wm_X11_29 wv_X1_init rfl wy_X1_init rfl wd_X1_init wi_X1 (ez_rok hRm rfl) (Nat.le_of_ble_eq_true rfl) dX11_init_54 ?_
  show ez_Z X _ em_r82 em_m14 _ _ _ _ _
  refine ez_putFr hX kc_0 rfl (Nat.le_of_ble_eq_true rfl) (Nat.le_of_ble_eq_true rfl) (Nat.le_of_ble_eq_true rfl) inX11 tyX11 tyX11_ok nmX11 45 rfl wf_X11_34 rfl hnm rfl rfl rfl dX11_init_57 ?_
  show ez_Z X _ em_r83 em_m14 _ _ _ _ _
  refine ez_aload_n hX 0 dX11_init_60 rfl ?_
  refine ez_new hX (N0 := 1) (hsz rfl) rfl kc_79 (Nat.le_of_ble_eq_true rfl) rfl inX10 tyX10 tyX10_ok (ez_df10 (rz_83 79 (by decide)) (mz_14 79 (by decide))) wc_X11_37 wn_X10 wi_X10 (ez_rn hRm rfl) dX11_init_61 ?_
  refine ez_dup hX dX11_init_64 rfl ?_
  refine ez_callI hX (N0 := 1) (As := []) (st := [.ref (ez_B X + 79), .ref (ez_B X + 0)]) (ecn_24 _ _ _) (Or.inr ⟨hsz rfl, rfl⟩) wm_X11_39 wv_X10_init rfl wy_X10_init rfl wd_X10_init wi_X10 (ez_rok hRm rfl) (Nat.le_of_ble_eq_true rfl) dX11_init_65 ?_
  show ez_Z X _ em_r85 em_m17 _ _ _ _ _
  refine ez_putFr hX kc_0 rfl (Nat.le_of_ble_eq_true rfl) (Nat.le_of_ble_eq_true rfl) (Nat.le_of_ble_eq_true rfl) inX11 tyX11 tyX11_ok nmX11 79 rfl wf_X11_40 rfl hnm rfl rfl rfl dX11_init_68 ?_
  show ez_Z X _ em_r86 em_m17 _ _ _ _ _
  refine ez_aload_n hX 0 dX11_init_71 rfl ?_
  refine ez_new hX (N0 := 1) (hsz rfl) rfl kc_82 (Nat.le_of_ble_eq_true rfl) rfl inX3 tyX3 tyX3_ok (ez_df3 (rz_86 82 (by decide)) (mz_17 82 (by decide))) wc_X11_44 wn_X3 wi_X3 (ez_rn hRm rfl) dX11_init_72 ?_
  refine ez_dup hX dX11_init_75 rfl ?_
  refine ez_aload_n hX 0 dX11_init_76 rfl ?_
  refine ez_getr hX kc_0 rfl (Nat.le_of_ble_eq_true rfl) (Nat.le_of_ble_eq_true rfl) (Nat.le_of_ble_eq_true rfl) inX11 1 rfl (by decide +kernel) wf_X11_14 dX11_init_77 ?_
  refine ez_aload_n hX 0 dX11_init_80 rfl ?_
  refine ez_getr hX kc_0 rfl (Nat.le_of_ble_eq_true rfl) (Nat.le_of_ble_eq_true rfl) (Nat.le_of_ble_eq_true rfl) inX11 79 rfl (by decide +kernel) wf_X11_40 dX11_init_81 ?_
  refine ez_callI hX (N0 := 1) (As := [.ref (ez_B X + 1), .ref (ez_B X + 79)]) (st := [.ref (ez_B X + 82), .ref (ez_B X + 0)]) (ecn_25 _ _ _) (Or.inr ⟨hsz rfl, rfl⟩) wm_X11_46 wv_X3_init rfl wy_X3_init rfl wd_X3_init wi_X3 (ez_rok hRm rfl) (Nat.le_of_ble_eq_true rfl) dX11_init_84 ?_
  show ez_Z X _ em_r108 em_m18 _ _ _ _ _
  refine ez_putFr hX kc_0 rfl (Nat.le_of_ble_eq_true rfl) (Nat.le_of_ble_eq_true rfl) (Nat.le_of_ble_eq_true rfl) inX11 tyX11 tyX11_ok nmX11 82 rfl wf_X11_49 rfl hnm rfl rfl rfl dX11_init_87 ?_
  show ez_Z X _ em_r109 em_m18 _ _ _ _ _
  refine ez_aload_n hX 0 dX11_init_90 rfl ?_
  refine ez_new hX (N0 := 1) (hsz rfl) rfl kc_103 (Nat.le_of_ble_eq_true rfl) rfl inX4 tyX4 tyX4_ok (ez_df4 (rz_109 103 (by decide)) (mz_18 103 (by decide))) wc_X11_53 wn_X4 wi_X4 (ez_rn hRm rfl) dX11_init_91 ?_
  refine ez_dup hX dX11_init_94 rfl ?_
  refine ez_callIN hX (N0 := 1) (As := []) (st := [.ref (ez_B X + 103), .ref (ez_B X + 0)]) (ecn_30 _ _ _) (Or.inr ⟨hsz rfl, rfl⟩) wm_X11_55 wv_X4_init rfl wy_X4_init rfl wd_X4_init wi_X4 (ez_rok hRm rfl) (Nat.le_of_ble_eq_true rfl) dX11_init_95 ?_
  show ez_Z X _ em_r110 em_m19 _ _ _ _ _
  refine ez_putFr hX kc_0 rfl (Nat.le_of_ble_eq_true rfl) (Nat.le_of_ble_eq_true rfl) (Nat.le_of_ble_eq_true rfl) inX11 tyX11 tyX11_ok nmX11 103 rfl wf_X11_56 rfl hnm rfl rfl rfl dX11_init_98 ?_
  show ez_Z X _ em_r111 em_m19 _ _ _ _ _
  refine ez_aload_n hX 0 dX11_init_101 rfl ?_
  refine ez_bipush hX (6 : Int32) dX11_init_102 (by decide) ?_
  refine ez_newT hX (N0 := 1) (hsz rfl) rfl kc_105 ⟨by decide, by decide, Nat.le_of_ble_eq_true rfl⟩ (fun j => congrFun (rz_111 105 (by decide)) j) wc_X11_60 (ez_rn hRm rfl) dX11_init_104 ?_
  refine ez_putFr hX kc_0 rfl (Nat.le_of_ble_eq_true rfl) (Nat.le_of_ble_eq_true rfl) (Nat.le_of_ble_eq_true rfl) inX11 tyX11 tyX11_ok nmX11 105 rfl wf_X11_62 rfl hnm rfl rfl rfl dX11_init_107 ?_
  show ez_Z X _ em_r112 em_m19 _ _ _ _ _
  refine ez_iconst hX (0 : Int32) dX11_init_110 (by decide) ?_
  refine ez_istore_n hX [(1, .int (0 : Int32)), (0, .ref (ez_B X + 0))] dX11_init_111 (ez_lt hnL rfl) rfl ?_
  refine ez_iload_n hX 0 dX11_init_112 rfl ?_
  refine ez_aload_n hX 1 dX11_init_113 rfl ?_
  refine ez_getr hX kc_0 rfl (Nat.le_of_ble_eq_true rfl) (Nat.le_of_ble_eq_true rfl) (Nat.le_of_ble_eq_true rfl) inX11 105 rfl (by decide +kernel) wf_X11_62 dX11_init_114 ?_
  refine ez_alenT hX kc_105 (Nat.le_of_ble_eq_true rfl) (6 : Int32) (by decide) dX11_init_117 ?_
  refine ez_icmp_ge hX 140 dX11_init_118 (by decide) (fun c => absurd c (by decide)) (fun _ => ?_)
  refine ez_aload_n hX 1 dX11_init_121 rfl ?_
  refine ez_getr hX kc_0 rfl (Nat.le_of_ble_eq_true rfl) (Nat.le_of_ble_eq_true rfl) (Nat.le_of_ble_eq_true rfl) inX11 105 rfl (by decide +kernel) wf_X11_62 dX11_init_122 ?_
  refine ez_iload_n hX 0 dX11_init_125 rfl ?_
  refine ez_new hX (N0 := 1) (hsz rfl) rfl kc_106 (Nat.le_of_ble_eq_true rfl) rfl inX8 tyX8 tyX8_ok (ez_df8 (rz_112 106 (by decide)) (mz_19 106 (by decide))) wc_X11_60 wn_X8 wi_X8 (ez_rn hRm rfl) dX11_init_126 ?_
  refine ez_dup hX dX11_init_129 rfl ?_
  refine ez_callIN hX (N0 := 1) (As := []) (st := [.ref (ez_B X + 106), .int (0 : Int32), .ref (ez_B X + 105)]) (ecn_31 _ _ _) (Or.inr ⟨hsz rfl, rfl⟩) wm_X11_66 wv_X8_init rfl wy_X8_init rfl wd_X8_init wi_X8 (ez_rok hRm rfl) (Nat.le_of_ble_eq_true rfl) dX11_init_130 ?_
  show ez_Z X _ em_r113 em_m20 _ _ _ _ _
  refine ez_aast hX kc_105 (Nat.le_of_ble_eq_true rfl) (by unfold vp_in; decide) (Nat.le_of_ble_eq_true rfl) kc_106 dX11_init_133 ?_
  show ez_Z X _ em_r114 em_m20 _ _ _ _ _
  refine ez_iinc hX (1 : Int32) 0 [(1, .int (1 : Int32)), (0, .ref (ez_B X + 0))] dX11_init_134 rfl (by decide) (ez_lt hnL rfl) rfl ?_
  refine ez_goto hX 112 dX11_init_137 (by decide) ?_
  refine ez_iload_n hX 0 dX11_init_112 rfl ?_
  refine ez_aload_n hX 1 dX11_init_113 rfl ?_
  refine ez_getr hX kc_0 rfl (Nat.le_of_ble_eq_true rfl) (Nat.le_of_ble_eq_true rfl) (Nat.le_of_ble_eq_true rfl) inX11 105 rfl (by decide +kernel) wf_X11_62 dX11_init_114 ?_
  refine ez_alenT hX kc_105 (Nat.le_of_ble_eq_true rfl) (6 : Int32) (by decide) dX11_init_117 ?_
  refine ez_icmp_ge hX 140 dX11_init_118 (by decide) (fun c => absurd c (by decide)) (fun _ => ?_)
  refine ez_aload_n hX 1 dX11_init_121 rfl ?_
  refine ez_getr hX kc_0 rfl (Nat.le_of_ble_eq_true rfl) (Nat.le_of_ble_eq_true rfl) (Nat.le_of_ble_eq_true rfl) inX11 105 rfl (by decide +kernel) wf_X11_62 dX11_init_122 ?_
  refine ez_iload_n hX 0 dX11_init_125 rfl ?_
  refine ez_new hX (N0 := 1) (hsz rfl) rfl kc_108 (Nat.le_of_ble_eq_true rfl) rfl inX8 tyX8 tyX8_ok (ez_df8 (rz_114 108 (by decide)) (mz_20 108 (by decide))) wc_X11_60 wn_X8 wi_X8 (ez_rn hRm rfl) dX11_init_126 ?_
  refine ez_dup hX dX11_init_129 rfl ?_
  refine ez_callIN hX (N0 := 1) (As := []) (st := [.ref (ez_B X + 108), .int (1 : Int32), .ref (ez_B X + 105)]) (ecn_32 _ _ _) (Or.inr ⟨hsz rfl, rfl⟩) wm_X11_66 wv_X8_init rfl wy_X8_init rfl wd_X8_init wi_X8 (ez_rok hRm rfl) (Nat.le_of_ble_eq_true rfl) dX11_init_130 ?_
  show ez_Z X _ em_r115 em_m21 _ _ _ _ _
  refine ez_aast hX kc_105 (Nat.le_of_ble_eq_true rfl) (by unfold vp_in; decide) (Nat.le_of_ble_eq_true rfl) kc_108 dX11_init_133 ?_
  show ez_Z X _ em_r116 em_m21 _ _ _ _ _
  refine ez_iinc hX (2 : Int32) 0 [(1, .int (2 : Int32)), (0, .ref (ez_B X + 0))] dX11_init_134 rfl (by decide) (ez_lt hnL rfl) rfl ?_
  refine ez_goto hX 112 dX11_init_137 (by decide) ?_
  refine ez_iload_n hX 0 dX11_init_112 rfl ?_
  refine ez_aload_n hX 1 dX11_init_113 rfl ?_
  refine ez_getr hX kc_0 rfl (Nat.le_of_ble_eq_true rfl) (Nat.le_of_ble_eq_true rfl) (Nat.le_of_ble_eq_true rfl) inX11 105 rfl (by decide +kernel) wf_X11_62 dX11_init_114 ?_
  refine ez_alenT hX kc_105 (Nat.le_of_ble_eq_true rfl) (6 : Int32) (by decide) dX11_init_117 ?_
  refine ez_icmp_ge hX 140 dX11_init_118 (by decide) (fun c => absurd c (by decide)) (fun _ => ?_)
  refine ez_aload_n hX 1 dX11_init_121 rfl ?_
  refine ez_getr hX kc_0 rfl (Nat.le_of_ble_eq_true rfl) (Nat.le_of_ble_eq_true rfl) (Nat.le_of_ble_eq_true rfl) inX11 105 rfl (by decide +kernel) wf_X11_62 dX11_init_122 ?_
  refine ez_iload_n hX 0 dX11_init_125 rfl ?_
  refine ez_new hX (N0 := 1) (hsz rfl) rfl kc_110 (Nat.le_of_ble_eq_true rfl) rfl inX8 tyX8 tyX8_ok (ez_df8 (rz_116 110 (by decide)) (mz_21 110 (by decide))) wc_X11_60 wn_X8 wi_X8 (ez_rn hRm rfl) dX11_init_126 ?_
  refine ez_dup hX dX11_init_129 rfl ?_
  refine ez_callIN hX (N0 := 1) (As := []) (st := [.ref (ez_B X + 110), .int (2 : Int32), .ref (ez_B X + 105)]) (ecn_33 _ _ _) (Or.inr ⟨hsz rfl, rfl⟩) wm_X11_66 wv_X8_init rfl wy_X8_init rfl wd_X8_init wi_X8 (ez_rok hRm rfl) (Nat.le_of_ble_eq_true rfl) dX11_init_130 ?_
  show ez_Z X _ em_r117 em_m22 _ _ _ _ _
  refine ez_aast hX kc_105 (Nat.le_of_ble_eq_true rfl) (by unfold vp_in; decide) (Nat.le_of_ble_eq_true rfl) kc_110 dX11_init_133 ?_
  show ez_Z X _ em_r118 em_m22 _ _ _ _ _
  refine ez_iinc hX (3 : Int32) 0 [(1, .int (3 : Int32)), (0, .ref (ez_B X + 0))] dX11_init_134 rfl (by decide) (ez_lt hnL rfl) rfl ?_
  refine ez_goto hX 112 dX11_init_137 (by decide) ?_
  refine ez_iload_n hX 0 dX11_init_112 rfl ?_
  refine ez_aload_n hX 1 dX11_init_113 rfl ?_
  refine ez_getr hX kc_0 rfl (Nat.le_of_ble_eq_true rfl) (Nat.le_of_ble_eq_true rfl) (Nat.le_of_ble_eq_true rfl) inX11 105 rfl (by decide +kernel) wf_X11_62 dX11_init_114 ?_
  refine ez_alenT hX kc_105 (Nat.le_of_ble_eq_true rfl) (6 : Int32) (by decide) dX11_init_117 ?_
  refine ez_icmp_ge hX 140 dX11_init_118 (by decide) (fun c => absurd c (by decide)) (fun _ => ?_)
  refine ez_aload_n hX 1 dX11_init_121 rfl ?_
  refine ez_getr hX kc_0 rfl (Nat.le_of_ble_eq_true rfl) (Nat.le_of_ble_eq_true rfl) (Nat.le_of_ble_eq_true rfl) inX11 105 rfl (by decide +kernel) wf_X11_62 dX11_init_122 ?_
  refine ez_iload_n hX 0 dX11_init_125 rfl ?_
  refine ez_new hX (N0 := 1) (hsz rfl) rfl kc_112 (Nat.le_of_ble_eq_true rfl) rfl inX8 tyX8 tyX8_ok (ez_df8 (rz_118 112 (by decide)) (mz_22 112 (by decide))) wc_X11_60 wn_X8 wi_X8 (ez_rn hRm rfl) dX11_init_126 ?_
  refine ez_dup hX dX11_init_129 rfl ?_
  refine ez_callIN hX (N0 := 1) (As := []) (st := [.ref (ez_B X + 112), .int (3 : Int32), .ref (ez_B X + 105)]) (ecn_34 _ _ _) (Or.inr ⟨hsz rfl, rfl⟩) wm_X11_66 wv_X8_init rfl wy_X8_init rfl wd_X8_init wi_X8 (ez_rok hRm rfl) (Nat.le_of_ble_eq_true rfl) dX11_init_130 ?_
  show ez_Z X _ em_r119 em_m23 _ _ _ _ _
  refine ez_aast hX kc_105 (Nat.le_of_ble_eq_true rfl) (by unfold vp_in; decide) (Nat.le_of_ble_eq_true rfl) kc_112 dX11_init_133 ?_
  show ez_Z X _ em_r120 em_m23 _ _ _ _ _
  refine ez_iinc hX (4 : Int32) 0 [(1, .int (4 : Int32)), (0, .ref (ez_B X + 0))] dX11_init_134 rfl (by decide) (ez_lt hnL rfl) rfl ?_
  refine ez_goto hX 112 dX11_init_137 (by decide) ?_
  refine ez_iload_n hX 0 dX11_init_112 rfl ?_
  refine ez_aload_n hX 1 dX11_init_113 rfl ?_
  refine ez_getr hX kc_0 rfl (Nat.le_of_ble_eq_true rfl) (Nat.le_of_ble_eq_true rfl) (Nat.le_of_ble_eq_true rfl) inX11 105 rfl (by decide +kernel) wf_X11_62 dX11_init_114 ?_
  refine ez_alenT hX kc_105 (Nat.le_of_ble_eq_true rfl) (6 : Int32) (by decide) dX11_init_117 ?_
  refine ez_icmp_ge hX 140 dX11_init_118 (by decide) (fun c => absurd c (by decide)) (fun _ => ?_)
  refine ez_aload_n hX 1 dX11_init_121 rfl ?_
  refine ez_getr hX kc_0 rfl (Nat.le_of_ble_eq_true rfl) (Nat.le_of_ble_eq_true rfl) (Nat.le_of_ble_eq_true rfl) inX11 105 rfl (by decide +kernel) wf_X11_62 dX11_init_122 ?_
  refine ez_iload_n hX 0 dX11_init_125 rfl ?_
  refine ez_new hX (N0 := 1) (hsz rfl) rfl kc_114 (Nat.le_of_ble_eq_true rfl) rfl inX8 tyX8 tyX8_ok (ez_df8 (rz_120 114 (by decide)) (mz_23 114 (by decide))) wc_X11_60 wn_X8 wi_X8 (ez_rn hRm rfl) dX11_init_126 ?_
  refine ez_dup hX dX11_init_129 rfl ?_
  refine ez_callIN hX (N0 := 1) (As := []) (st := [.ref (ez_B X + 114), .int (4 : Int32), .ref (ez_B X + 105)]) (ecn_35 _ _ _) (Or.inr ⟨hsz rfl, rfl⟩) wm_X11_66 wv_X8_init rfl wy_X8_init rfl wd_X8_init wi_X8 (ez_rok hRm rfl) (Nat.le_of_ble_eq_true rfl) dX11_init_130 ?_
  show ez_Z X _ em_r121 em_m24 _ _ _ _ _
  refine ez_aast hX kc_105 (Nat.le_of_ble_eq_true rfl) (by unfold vp_in; decide) (Nat.le_of_ble_eq_true rfl) kc_114 dX11_init_133 ?_
  show ez_Z X _ em_r122 em_m24 _ _ _ _ _
  refine ez_iinc hX (5 : Int32) 0 [(1, .int (5 : Int32)), (0, .ref (ez_B X + 0))] dX11_init_134 rfl (by decide) (ez_lt hnL rfl) rfl ?_
  refine ez_goto hX 112 dX11_init_137 (by decide) ?_
  refine ez_iload_n hX 0 dX11_init_112 rfl ?_
  refine ez_aload_n hX 1 dX11_init_113 rfl ?_
  refine ez_getr hX kc_0 rfl (Nat.le_of_ble_eq_true rfl) (Nat.le_of_ble_eq_true rfl) (Nat.le_of_ble_eq_true rfl) inX11 105 rfl (by decide +kernel) wf_X11_62 dX11_init_114 ?_
  refine ez_alenT hX kc_105 (Nat.le_of_ble_eq_true rfl) (6 : Int32) (by decide) dX11_init_117 ?_
  refine ez_icmp_ge hX 140 dX11_init_118 (by decide) (fun c => absurd c (by decide)) (fun _ => ?_)
  refine ez_aload_n hX 1 dX11_init_121 rfl ?_
  refine ez_getr hX kc_0 rfl (Nat.le_of_ble_eq_true rfl) (Nat.le_of_ble_eq_true rfl) (Nat.le_of_ble_eq_true rfl) inX11 105 rfl (by decide +kernel) wf_X11_62 dX11_init_122 ?_
  refine ez_iload_n hX 0 dX11_init_125 rfl ?_
  refine ez_new hX (N0 := 1) (hsz rfl) rfl kc_116 (Nat.le_of_ble_eq_true rfl) rfl inX8 tyX8 tyX8_ok (ez_df8 (rz_122 116 (by decide)) (mz_24 116 (by decide))) wc_X11_60 wn_X8 wi_X8 (ez_rn hRm rfl) dX11_init_126 ?_
  refine ez_dup hX dX11_init_129 rfl ?_
  refine ez_callIN hX (N0 := 1) (As := []) (st := [.ref (ez_B X + 116), .int (5 : Int32), .ref (ez_B X + 105)]) (ecn_36 _ _ _) (Or.inr ⟨hsz rfl, rfl⟩) wm_X11_66 wv_X8_init rfl wy_X8_init rfl wd_X8_init wi_X8 (ez_rok hRm rfl) (Nat.le_of_ble_eq_true rfl) dX11_init_130 ?_
  show ez_Z X _ em_r123 em_m25 _ _ _ _ _
  refine ez_aast hX kc_105 (Nat.le_of_ble_eq_true rfl) (by unfold vp_in; decide) (Nat.le_of_ble_eq_true rfl) kc_116 dX11_init_133 ?_
  show ez_Z X _ em_r124 em_m25 _ _ _ _ _
  refine ez_iinc hX (6 : Int32) 0 [(1, .int (6 : Int32)), (0, .ref (ez_B X + 0))] dX11_init_134 rfl (by decide) (ez_lt hnL rfl) rfl ?_
  refine ez_goto hX 112 dX11_init_137 (by decide) ?_
  refine ez_iload_n hX 0 dX11_init_112 rfl ?_
  refine ez_aload_n hX 1 dX11_init_113 rfl ?_
  refine ez_getr hX kc_0 rfl (Nat.le_of_ble_eq_true rfl) (Nat.le_of_ble_eq_true rfl) (Nat.le_of_ble_eq_true rfl) inX11 105 rfl (by decide +kernel) wf_X11_62 dX11_init_114 ?_
  refine ez_alenT hX kc_105 (Nat.le_of_ble_eq_true rfl) (6 : Int32) (by decide) dX11_init_117 ?_
  refine ez_icmp_ge hX 140 dX11_init_118 (by decide) (fun _ => ?_) (fun c => absurd (by decide) c)
  exact ez_vret hX hQ dX11_init_140 rfl rfl
set_option maxHeartbeats 4000000 in
set_option maxRecDepth 100000 in
theorem ecn_37 (l : Launch) (D : em_G) (B : Nat) : em_C l D B yX12_init cX12_init 2 none 1 12 13 30464 true [.ref (B + 118)] 119 em_r124 em_m25 none 132 em_r137 em_m35 := by
  refine em_C_of RX12 [(0, .ref (B + 118))] (by decide) rfl rfl (Nat.le_of_ble_eq_true rfl) ?_
  rintro X rfl rfl rfl hRm hnL hnm hsz hX hQ
  refine ez_aload_n hX 0 dX12_init_0 rfl ?_
  refine ez_objInit hX wm_X12_3 ⟨ez_ra hRm rfl, ez_rb hRm rfl⟩ dX12_init_1 ?_
  refine ez_aload_n hX 0 dX12_init_4 rfl ?_
  refine ez_sipush hX (5880 : Int32) dX12_init_5 (by decide) ?_
  refine ez_newI hX (N0 := 119) (hsz rfl) rfl kc_119 ⟨by decide, by decide, Nat.le_of_ble_eq_true rfl⟩ (fun j => congrFun (mz_25 119 (by decide)).1 j) (ez_rn hRm rfl) dX12_init_8 ?_
  refine ez_putFr hX kc_118 rfl (Nat.le_of_ble_eq_true rfl) (Nat.le_of_ble_eq_true rfl) (Nat.le_of_ble_eq_true rfl) inX12 tyX12 tyX12_ok nmX12 119 rfl wf_X12_11 rfl hnm rfl rfl rfl dX12_init_10 ?_
  show ez_Z X _ em_r125 em_m25 _ _ _ _ _
  refine ez_aload_n hX 0 dX12_init_13 rfl ?_
  refine ez_sipush hX (5880 : Int32) dX12_init_14 (by decide) ?_
  refine ez_newI hX (N0 := 119) (hsz rfl) rfl kc_120 ⟨by decide, by decide, Nat.le_of_ble_eq_true rfl⟩ (fun j => congrFun (mz_25 120 (by decide)).1 j) (ez_rn hRm rfl) dX12_init_17 ?_
  refine ez_putFr hX kc_118 rfl (Nat.le_of_ble_eq_true rfl) (Nat.le_of_ble_eq_true rfl) (Nat.le_of_ble_eq_true rfl) inX12 tyX12 tyX12_ok nmX12 120 rfl wf_X12_15 rfl hnm rfl rfl rfl dX12_init_19 ?_
  show ez_Z X _ em_r126 em_m25 _ _ _ _ _
  refine ez_aload_n hX 0 dX12_init_22 rfl ?_
  refine ez_sipush hX (5880 : Int32) dX12_init_23 (by decide) ?_
  refine ez_newI hX (N0 := 119) (hsz rfl) rfl kc_121 ⟨by decide, by decide, Nat.le_of_ble_eq_true rfl⟩ (fun j => congrFun (mz_25 121 (by decide)).1 j) (ez_rn hRm rfl) dX12_init_26 ?_
  refine ez_putFr hX kc_118 rfl (Nat.le_of_ble_eq_true rfl) (Nat.le_of_ble_eq_true rfl) (Nat.le_of_ble_eq_true rfl) inX12 tyX12 tyX12_ok nmX12 121 rfl wf_X12_18 rfl hnm rfl rfl rfl dX12_init_28 ?_
  show ez_Z X _ em_r127 em_m25 _ _ _ _ _
  refine ez_aload_n hX 0 dX12_init_31 rfl ?_
  refine ez_sipush hX (808 : Int32) dX12_init_32 (by decide) ?_
  refine ez_newI hX (N0 := 119) (hsz rfl) rfl kc_122 ⟨by decide, by decide, Nat.le_of_ble_eq_true rfl⟩ (fun j => congrFun (mz_25 122 (by decide)).1 j) (ez_rn hRm rfl) dX12_init_35 ?_
  refine ez_putFr hX kc_118 rfl (Nat.le_of_ble_eq_true rfl) (Nat.le_of_ble_eq_true rfl) (Nat.le_of_ble_eq_true rfl) inX12 tyX12 tyX12_ok nmX12 122 rfl wf_X12_21 rfl hnm rfl rfl rfl dX12_init_37 ?_
  show ez_Z X _ em_r128 em_m25 _ _ _ _ _
  refine ez_aload_n hX 0 dX12_init_40 rfl ?_
  refine ez_sipush hX (808 : Int32) dX12_init_41 (by decide) ?_
  refine ez_newI hX (N0 := 119) (hsz rfl) rfl kc_123 ⟨by decide, by decide, Nat.le_of_ble_eq_true rfl⟩ (fun j => congrFun (mz_25 123 (by decide)).1 j) (ez_rn hRm rfl) dX12_init_44 ?_
  refine ez_putFr hX kc_118 rfl (Nat.le_of_ble_eq_true rfl) (Nat.le_of_ble_eq_true rfl) (Nat.le_of_ble_eq_true rfl) inX12 tyX12 tyX12_ok nmX12 123 rfl wf_X12_24 rfl hnm rfl rfl rfl dX12_init_46 ?_
  show ez_Z X _ em_r129 em_m25 _ _ _ _ _
  refine ez_aload_n hX 0 dX12_init_49 rfl ?_
  refine ez_sipush hX (808 : Int32) dX12_init_50 (by decide) ?_
  refine ez_newI hX (N0 := 119) (hsz rfl) rfl kc_124 ⟨by decide, by decide, Nat.le_of_ble_eq_true rfl⟩ (fun j => congrFun (mz_25 124 (by decide)).1 j) (ez_rn hRm rfl) dX12_init_53 ?_
  refine ez_putFr hX kc_118 rfl (Nat.le_of_ble_eq_true rfl) (Nat.le_of_ble_eq_true rfl) (Nat.le_of_ble_eq_true rfl) inX12 tyX12 tyX12_ok nmX12 124 rfl wf_X12_27 rfl hnm rfl rfl rfl dX12_init_55 ?_
  show ez_Z X _ em_r130 em_m25 _ _ _ _ _
  refine ez_aload_n hX 0 dX12_init_58 rfl ?_
  refine ez_sipush hX (4040 : Int32) dX12_init_59 (by decide) ?_
  refine ez_newI hX (N0 := 119) (hsz rfl) rfl kc_125 ⟨by decide, by decide, Nat.le_of_ble_eq_true rfl⟩ (fun j => congrFun (mz_25 125 (by decide)).1 j) (ez_rn hRm rfl) dX12_init_62 ?_
  refine ez_putFr hX kc_118 rfl (Nat.le_of_ble_eq_true rfl) (Nat.le_of_ble_eq_true rfl) (Nat.le_of_ble_eq_true rfl) inX12 tyX12 tyX12_ok nmX12 125 rfl wf_X12_30 rfl hnm rfl rfl rfl dX12_init_64 ?_
  show ez_Z X _ em_r131 em_m25 _ _ _ _ _
  refine ez_aload_n hX 0 dX12_init_67 rfl ?_
  refine ez_bipush hX (8 : Int32) dX12_init_68 (by decide) ?_
  refine ez_newI hX (N0 := 119) (hsz rfl) rfl kc_126 ⟨by decide, by decide, Nat.le_of_ble_eq_true rfl⟩ (fun j => congrFun (mz_25 126 (by decide)).1 j) (ez_rn hRm rfl) dX12_init_70 ?_
  refine ez_putFr hX kc_118 rfl (Nat.le_of_ble_eq_true rfl) (Nat.le_of_ble_eq_true rfl) (Nat.le_of_ble_eq_true rfl) inX12 tyX12 tyX12_ok nmX12 126 rfl wf_X12_33 rfl hnm rfl rfl rfl dX12_init_72 ?_
  show ez_Z X _ em_r132 em_m25 _ _ _ _ _
  refine ez_aload_n hX 0 dX12_init_75 rfl ?_
  refine ez_bipush hX (100 : Int32) dX12_init_76 (by decide) ?_
  refine ez_newI hX (N0 := 119) (hsz rfl) rfl kc_127 ⟨by decide, by decide, Nat.le_of_ble_eq_true rfl⟩ (fun j => congrFun (mz_25 127 (by decide)).1 j) (ez_rn hRm rfl) dX12_init_78 ?_
  refine ez_putFr hX kc_118 rfl (Nat.le_of_ble_eq_true rfl) (Nat.le_of_ble_eq_true rfl) (Nat.le_of_ble_eq_true rfl) inX12 tyX12 tyX12_ok nmX12 127 rfl wf_X12_36 rfl hnm rfl rfl rfl dX12_init_80 ?_
  show ez_Z X _ em_r133 em_m25 _ _ _ _ _
  refine ez_aload_n hX 0 dX12_init_83 rfl ?_
  refine ez_sipush hX (5880 : Int32) dX12_init_84 (by decide) ?_
  refine ez_newI hX (N0 := 119) (hsz rfl) rfl kc_128 ⟨by decide, by decide, Nat.le_of_ble_eq_true rfl⟩ (fun j => congrFun (mz_25 128 (by decide)).1 j) (ez_rn hRm rfl) dX12_init_87 ?_
  refine ez_putFr hX kc_118 rfl (Nat.le_of_ble_eq_true rfl) (Nat.le_of_ble_eq_true rfl) (Nat.le_of_ble_eq_true rfl) inX12 tyX12 tyX12_ok nmX12 128 rfl wf_X12_39 rfl hnm rfl rfl rfl dX12_init_89 ?_
  show ez_Z X _ em_r134 em_m25 _ _ _ _ _
  refine ez_aload_n hX 0 dX12_init_92 rfl ?_
  refine ez_bipush hX (6 : Int32) dX12_init_93 (by decide) ?_
  refine ez_newI hX (N0 := 119) (hsz rfl) rfl kc_129 ⟨by decide, by decide, Nat.le_of_ble_eq_true rfl⟩ (fun j => congrFun (mz_25 129 (by decide)).1 j) (ez_rn hRm rfl) dX12_init_95 ?_
  refine ez_dup hX dX12_init_97 rfl ?_
  refine ez_iconst hX (0 : Int32) dX12_init_98 (by decide) ?_
  refine ez_iconst hX (-1 : Int32) dX12_init_99 (by decide) ?_
  refine ez_iast hX kc_129 (Nat.le_of_ble_eq_true rfl) (by unfold vp_in; decide) dX12_init_100 ?_
  show ez_Z X _ em_r134 em_m26 _ _ _ _ _
  refine ez_dup hX dX12_init_101 rfl ?_
  refine ez_iconst hX (1 : Int32) dX12_init_102 (by decide) ?_
  refine ez_iconst hX (-1 : Int32) dX12_init_103 (by decide) ?_
  refine ez_iast hX kc_129 (Nat.le_of_ble_eq_true rfl) (by unfold vp_in; decide) dX12_init_104 ?_
  show ez_Z X _ em_r134 em_m27 _ _ _ _ _
  refine ez_dup hX dX12_init_105 rfl ?_
  refine ez_iconst hX (2 : Int32) dX12_init_106 (by decide) ?_
  refine ez_iconst hX (-1 : Int32) dX12_init_107 (by decide) ?_
  refine ez_iast hX kc_129 (Nat.le_of_ble_eq_true rfl) (by unfold vp_in; decide) dX12_init_108 ?_
  show ez_Z X _ em_r134 em_m28 _ _ _ _ _
  refine ez_dup hX dX12_init_109 rfl ?_
  refine ez_iconst hX (3 : Int32) dX12_init_110 (by decide) ?_
  refine ez_iconst hX (-1 : Int32) dX12_init_111 (by decide) ?_
  refine ez_iast hX kc_129 (Nat.le_of_ble_eq_true rfl) (by unfold vp_in; decide) dX12_init_112 ?_
  show ez_Z X _ em_r134 em_m29 _ _ _ _ _
  refine ez_dup hX dX12_init_113 rfl ?_
  refine ez_iconst hX (4 : Int32) dX12_init_114 (by decide) ?_
  refine ez_iconst hX (-1 : Int32) dX12_init_115 (by decide) ?_
  refine ez_iast hX kc_129 (Nat.le_of_ble_eq_true rfl) (by unfold vp_in; decide) dX12_init_116 ?_
  show ez_Z X _ em_r134 em_m30 _ _ _ _ _
  refine ez_dup hX dX12_init_117 rfl ?_
  refine ez_iconst hX (5 : Int32) dX12_init_118 (by decide) ?_
  refine ez_iconst hX (-1 : Int32) dX12_init_119 (by decide) ?_
  refine ez_iast hX kc_129 (Nat.le_of_ble_eq_true rfl) (by unfold vp_in; decide) dX12_init_120 ?_
  show ez_Z X _ em_r134 em_m31 _ _ _ _ _
  refine ez_putFr hX kc_118 rfl (Nat.le_of_ble_eq_true rfl) (Nat.le_of_ble_eq_true rfl) (Nat.le_of_ble_eq_true rfl) inX12 tyX12 tyX12_ok nmX12 129 rfl wf_X12_42 rfl hnm rfl rfl rfl dX12_init_121 ?_
  show ez_Z X _ em_r135 em_m31 _ _ _ _ _
  refine ez_aload_n hX 0 dX12_init_124 rfl ?_
  refine ez_bipush hX (6 : Int32) dX12_init_125 (by decide) ?_
  refine ez_newI hX (N0 := 119) (hsz rfl) rfl kc_130 ⟨by decide, by decide, Nat.le_of_ble_eq_true rfl⟩ (fun j => congrFun (mz_31 130 (by decide)).1 j) (ez_rn hRm rfl) dX12_init_127 ?_
  refine ez_putFr hX kc_118 rfl (Nat.le_of_ble_eq_true rfl) (Nat.le_of_ble_eq_true rfl) (Nat.le_of_ble_eq_true rfl) inX12 tyX12 tyX12_ok nmX12 130 rfl wf_X12_45 rfl hnm rfl rfl rfl dX12_init_129 ?_
  show ez_Z X _ em_r136 em_m31 _ _ _ _ _
  refine ez_aload_n hX 0 dX12_init_132 rfl ?_
  refine ez_sipush hX (360 : Int32) dX12_init_133 (by decide) ?_
  refine ez_newJ hX (N0 := 119) (hsz rfl) rfl kc_131 ⟨by decide, by decide, Nat.le_of_ble_eq_true rfl⟩ (fun j => congrFun (mz_31 131 (by decide)).2 j) (ez_rn hRm rfl) dX12_init_136 ?_
  refine ez_putFr hX kc_118 rfl (Nat.le_of_ble_eq_true rfl) (Nat.le_of_ble_eq_true rfl) (Nat.le_of_ble_eq_true rfl) inX12 tyX12 tyX12_ok nmX12 131 rfl wf_X12_48 rfl hnm rfl rfl rfl dX12_init_138 ?_
  show ez_Z X _ em_r137 em_m31 _ _ _ _ _
  refine ez_aload_n hX 0 dX12_init_141 rfl ?_
  refine ez_getr hX kc_118 rfl (Nat.le_of_ble_eq_true rfl) (Nat.le_of_ble_eq_true rfl) (Nat.le_of_ble_eq_true rfl) inX12 119 rfl (by decide +kernel) wf_X12_11 dX12_init_142 ?_
  refine ez_bipush hX (7 : Int32) dX12_init_145 (by decide) ?_
  refine ez_bipush hX (-9 : Int32) dX12_init_147 (by decide) ?_
  refine ez_iast hX kc_119 (Nat.le_of_ble_eq_true rfl) (by unfold vp_in; decide) dX12_init_149 ?_
  show ez_Z X _ em_r137 em_m32 _ _ _ _ _
  refine ez_iconst hX (0 : Int32) dX12_init_150 (by decide) ?_
  refine ez_istore_n hX [(1, .int (0 : Int32)), (0, .ref (ez_B X + 118))] dX12_init_151 (ez_lt hnL rfl) rfl ?_
  refine ez_iload_n hX 0 dX12_init_152 rfl ?_
  refine ez_iconst hX (3 : Int32) dX12_init_153 (by decide) ?_
  refine ez_icmp_ge hX 173 dX12_init_154 (by decide) (fun c => absurd c (by decide)) (fun _ => ?_)
  refine ez_aload_n hX 1 dX12_init_157 rfl ?_
  refine ez_getr hX kc_118 rfl (Nat.le_of_ble_eq_true rfl) (Nat.le_of_ble_eq_true rfl) (Nat.le_of_ble_eq_true rfl) inX12 119 rfl (by decide +kernel) wf_X12_11 dX12_init_158 ?_
  refine ez_iconst hX (4 : Int32) dX12_init_161 (by decide) ?_
  refine ez_iload_n hX 0 dX12_init_162 rfl ?_
  refine ez_iadd hX dX12_init_163 ?_
  show ez_Z X _ _ _ _ _ _ _ [.int (4 : Int32), .ref (ez_B X + 119)]
  refine ez_bipush hX (-5 : Int32) dX12_init_164 (by decide) ?_
  refine ez_iast hX kc_119 (Nat.le_of_ble_eq_true rfl) (by unfold vp_in; decide) dX12_init_166 ?_
  show ez_Z X _ em_r137 em_m33 _ _ _ _ _
  refine ez_iinc hX (1 : Int32) 0 [(1, .int (1 : Int32)), (0, .ref (ez_B X + 118))] dX12_init_167 rfl (by decide) (ez_lt hnL rfl) rfl ?_
  refine ez_goto hX 152 dX12_init_170 (by decide) ?_
  refine ez_iload_n hX 0 dX12_init_152 rfl ?_
  refine ez_iconst hX (3 : Int32) dX12_init_153 (by decide) ?_
  refine ez_icmp_ge hX 173 dX12_init_154 (by decide) (fun c => absurd c (by decide)) (fun _ => ?_)
  refine ez_aload_n hX 1 dX12_init_157 rfl ?_
  refine ez_getr hX kc_118 rfl (Nat.le_of_ble_eq_true rfl) (Nat.le_of_ble_eq_true rfl) (Nat.le_of_ble_eq_true rfl) inX12 119 rfl (by decide +kernel) wf_X12_11 dX12_init_158 ?_
  refine ez_iconst hX (4 : Int32) dX12_init_161 (by decide) ?_
  refine ez_iload_n hX 0 dX12_init_162 rfl ?_
  refine ez_iadd hX dX12_init_163 ?_
  show ez_Z X _ _ _ _ _ _ _ [.int (5 : Int32), .ref (ez_B X + 119)]
  refine ez_bipush hX (-5 : Int32) dX12_init_164 (by decide) ?_
  refine ez_iast hX kc_119 (Nat.le_of_ble_eq_true rfl) (by unfold vp_in; decide) dX12_init_166 ?_
  show ez_Z X _ em_r137 em_m34 _ _ _ _ _
  refine ez_iinc hX (2 : Int32) 0 [(1, .int (2 : Int32)), (0, .ref (ez_B X + 118))] dX12_init_167 rfl (by decide) (ez_lt hnL rfl) rfl ?_
  refine ez_goto hX 152 dX12_init_170 (by decide) ?_
  refine ez_iload_n hX 0 dX12_init_152 rfl ?_
  refine ez_iconst hX (3 : Int32) dX12_init_153 (by decide) ?_
  refine ez_icmp_ge hX 173 dX12_init_154 (by decide) (fun c => absurd c (by decide)) (fun _ => ?_)
  refine ez_aload_n hX 1 dX12_init_157 rfl ?_
  refine ez_getr hX kc_118 rfl (Nat.le_of_ble_eq_true rfl) (Nat.le_of_ble_eq_true rfl) (Nat.le_of_ble_eq_true rfl) inX12 119 rfl (by decide +kernel) wf_X12_11 dX12_init_158 ?_
  refine ez_iconst hX (4 : Int32) dX12_init_161 (by decide) ?_
  refine ez_iload_n hX 0 dX12_init_162 rfl ?_
  refine ez_iadd hX dX12_init_163 ?_
  show ez_Z X _ _ _ _ _ _ _ [.int (6 : Int32), .ref (ez_B X + 119)]
  refine ez_bipush hX (-5 : Int32) dX12_init_164 (by decide) ?_
  refine ez_iast hX kc_119 (Nat.le_of_ble_eq_true rfl) (by unfold vp_in; decide) dX12_init_166 ?_
  show ez_Z X _ em_r137 em_m35 _ _ _ _ _
  refine ez_iinc hX (3 : Int32) 0 [(1, .int (3 : Int32)), (0, .ref (ez_B X + 118))] dX12_init_167 rfl (by decide) (ez_lt hnL rfl) rfl ?_
  refine ez_goto hX 152 dX12_init_170 (by decide) ?_
  refine ez_iload_n hX 0 dX12_init_152 rfl ?_
  refine ez_iconst hX (3 : Int32) dX12_init_153 (by decide) ?_
  refine ez_icmp_ge hX 173 dX12_init_154 (by decide) (fun _ => ?_) (fun c => absurd (by decide) c)
  exact ez_vret hX hQ dX12_init_173 rfl rfl
def em_ups : List (Nat × Nat × Nat) := [(1, 2, 2), (1, 3, 3), (1, 4, 4), (1, 5, 5), (1, 6, 6), (1, 7, 7), (1, 8, 8), (0, 0, 1), (9, 2, 10), (9, 3, 1), (0, 1, 9), (12, 1, 13), (12, 2, 14), (11, 2, 12), (15, 1, 16), (15, 2, 17), (11, 3, 15), (18, 1, 19), (18, 2, 20), (11, 4, 18), (21, 0, 22), (21, 1, 23), (11, 0, 21), (25, 4, 26), (24, 0, 25), (27, 1, 28), (24, 3, 27), (29, 1, 30), (29, 2, 31), (29, 3, 32), (29, 4, 33), (29, 5, 34), (29, 6, 35), (29, 7, 36), (29, 8, 37), (24, 4, 29), (38, 1, 39), (38, 2, 40), (38, 3, 41), (38, 4, 42), (24, 5, 38), (24, 6, 43), (24, 7, 44), (24, 1, 1), (24, 2, 21), (11, 1, 24), (0, 2, 11), (46, 1, 47), (46, 2, 48), (45, 2, 46), (49, 1, 50), (49, 2, 51), (45, 3, 49), (52, 1, 53), (52, 2, 54), (45, 4, 52), (55, 0, 56), (55, 1, 57), (45, 0, 55), (59, 4, 60), (58, 0, 59), (61, 1, 62), (58, 3, 61), (63, 1, 64), (63, 2, 65), (63, 3, 66), (63, 4, 67), (63, 5, 68), (63, 6, 69), (63, 7, 70), (63, 8, 71), (58, 4, 63), (72, 1, 73), (72, 2, 74), (72, 3, 75), (72, 4, 76), (58, 5, 72), (58, 6, 77), (58, 7, 78), (58, 1, 1), (58, 2, 55), (45, 1, 58), (0, 3, 45), (79, 0, 80), (79, 1, 81), (0, 5, 79), (83, 4, 84), (82, 0, 83), (85, 1, 86), (82, 3, 85), (87, 1, 88), (87, 2, 89), (87, 3, 90), (87, 4, 91), (87, 5, 92), (87, 6, 93), (87, 7, 94), (87, 8, 95), (82, 4, 87), (96, 1, 97), (96, 2, 98), (96, 3, 99), (96, 4, 100), (82, 5, 96), (82, 6, 101), (82, 7, 102), (82, 1, 1), (82, 2, 79), (0, 6, 82), (103, 4, 104), (0, 7, 103), (0, 8, 105), (106, 2, 107), (105, 0, 106), (108, 2, 109), (105, 1, 108), (110, 2, 111), (105, 2, 110), (112, 2, 113), (105, 3, 112), (114, 2, 115), (105, 4, 114), (116, 2, 117), (105, 5, 116), (118, 0, 119), (118, 1, 120), (118, 2, 121), (118, 4, 122), (118, 5, 123), (118, 6, 124), (118, 7, 125), (118, 8, 126), (118, 10, 127), (118, 15, 128), (118, 16, 129), (118, 17, 130), (118, 18, 131)]
def em_fold : List (Nat × Nat × Nat) → em_Rt → em_Rt
  | [], R => R
  | q :: l, R => em_fold l (em_pR R q.1 q.2.1 (some q.2.2))
theorem em_fold_big {o j : Nat} : ∀ (l : List (Nat × Nat × Nat)) (R : em_Rt), l.all (fun q => decide (q.2.1 < 20)) = true → 20 ≤ j → R o j = none → em_fold l R o j = none
  | [], R, _, _, h => h
  | q :: l, R, ha, hj, h => by
    simp only [List.all_cons, Bool.and_eq_true, decide_eq_true_eq] at ha
    refine em_fold_big l _ ha.2 hj ?_
    unfold em_pR
    split
    · rename_i e
      unfold va_up
      rw [if_neg (by omega), ← e]
      exact h
    · exact h
set_option maxRecDepth 100000 in
theorem em_rlast : em_r137 = em_fold em_ups em_r0 := rfl
theorem em_R_big {o j : Nat} (h : 20 ≤ j) : em_R o j = none := by
  have key : ∀ l ∈ em_refs, l.length ≤ 19 := by decide +kernel
  have hl : (em_refs.getD o []).length ≤ 19 := by
    rw [List.getD_eq_getElem?_getD]
    cases he : em_refs[o]? with
    | none => simp
    | some l => exact key l (List.mem_of_getElem? he)
  unfold em_R
  rw [List.getD_eq_getElem?_getD (l := em_refs.getD o []), List.getElem?_eq_none (by omega)]
  rfl
theorem em_rfin {o : Nat} (h : o < 132) : em_r137 o = em_R o := by
  have key : ∀ o, o < 132 → ∀ j, j < 20 → em_r137 o j = em_R o j := by decide +kernel
  funext j
  by_cases hj : j < 20
  · exact key o h j hj
  · rw [em_R_big (by omega), em_rlast]
    exact em_fold_big _ _ (by decide +kernel) (by omega) rfl
theorem em_wsfin {D : em_G} {B : Nat} {M : em_M} : em_ws D B 132 em_r137 M = em_ws D B 132 em_R M := by
  unfold em_ws
  apply List.map_congr_left
  intro o ho
  rw [em_ce_same rfl rfl (em_rfin (List.mem_range.mp ho)).symm]
