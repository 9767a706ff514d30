/-! at first -/
theorem ep_zI (o k : Nat) (h : o ≠ 12 ∧ o ≠ 15 ∧ o ≠ 18 ∧ o ≠ 23 ∧ o ≠ 25 ∧ o ≠ 46 ∧ o ≠ 49 ∧ o ≠ 52 ∧ o ≠ 57 ∧ o ≠ 59 ∧ o ≠ 81 ∧ o ≠ 83 ∧ o ≠ 103 ∧ o ≠ 106 ∧ o ≠ 108 ∧ o ≠ 110 ∧ o ≠ 112 ∧ o ≠ 114 ∧ o ≠ 116 ∧ o ≠ 129 ∧ o ≠ 119) : em_m35.1 o k = 0 := by
  obtain ⟨h1, h2, h3, h4, h5, h6, h7, h8, h9, h10, h11, h12, h13, h14, h15, h16, h17, h18, h19, h20, h21⟩ := h
  simp (disch := assumption) only [em_m35, em_m34, em_m33, em_m32, em_m31, em_m30, em_m29, em_m28, em_m27, em_m26, em_m25, em_m24, em_m23, em_m22, em_m21, em_m20, em_m19, em_m18, em_m17, em_m16, em_m15, em_m14, em_m13, em_m12, em_m11, em_m10, em_m9, em_m8, em_m7, em_m6, em_m5, em_m4, em_m3, em_m2, em_m1, em_m0, ef_pI']
theorem ep_zL (o k : Nat) : em_m35.2 o k = 0 := by
  simp only [em_m35, em_m34, em_m33, em_m32, em_m31, em_m30, em_m29, em_m28, em_m27, em_m26, em_m25, em_m24, em_m23, em_m22, em_m21, em_m20, em_m19, em_m18, em_m17, em_m16, em_m15, em_m14, em_m13, em_m12, em_m11, em_m10, em_m9, em_m8, em_m7, em_m6, em_m5, em_m4, em_m3, em_m2, em_m1, em_m0, eq_pI2]
theorem ep_zG (k : Nat) (h : k ≠ 4 ∧ k ≠ 5 ∧ k ≠ 6 ∧ k ≠ 7) : em_m35.1 119 k = 0 := by
  obtain ⟨h1, h2, h3, h4⟩ := h
  simp (disch := first | decide | assumption) only [em_m35, em_m34, em_m33, em_m32, em_m31, em_m30, em_m29, em_m28, em_m27, em_m26, em_m25, em_m24, em_m23, em_m22, em_m21, em_m20, em_m19, em_m18, em_m17, em_m16, em_m15, em_m14, em_m13, em_m12, em_m11, em_m10, em_m9, em_m8, em_m7, em_m6, em_m5, em_m4, em_m3, em_m2, em_m1, em_m0, ef_pI', ef_pIk]
theorem ep_Inv0 : ep_Inv em_m35 := by
  have z : ∀ o k, (o ≠ 12 ∧ o ≠ 15 ∧ o ≠ 18 ∧ o ≠ 23 ∧ o ≠ 25 ∧ o ≠ 46 ∧ o ≠ 49 ∧ o ≠ 52 ∧ o ≠ 57 ∧ o ≠ 59 ∧ o ≠ 81 ∧ o ≠ 83 ∧ o ≠ 103 ∧ o ≠ 106 ∧ o ≠ 108 ∧ o ≠ 110 ∧ o ≠ 112 ∧ o ≠ 114 ∧ o ≠ 116 ∧ o ≠ 129 ∧ o ≠ 119) → em_m35.1 o k = nI 0 := fun o k h => ep_zI o k h
  have g : ∀ k, (k ≠ 4 ∧ k ≠ 5 ∧ k ≠ 6 ∧ k ≠ 7) → em_m35.1 119 k = nI 0 := fun k h => ep_zG k h
  have t0 : ∀ r m, (r = 12 ∧ m = 5) ∨ (r = 15 ∧ m = 10) ∨ (r = 18 ∧ m = 8) → em_m35.1 r 0 = nI 0 ∧ em_m35.1 r 3 = nI m := by
    rintro r m (⟨rfl, rfl⟩ | ⟨rfl, rfl⟩ | ⟨rfl, rfl⟩)
    all_goals refine ⟨?_, ?_⟩
    all_goals (simp (disch := decide) only [em_m35, em_m34, em_m33, em_m32, em_m31, em_m30, em_m29, em_m28, em_m27, em_m26, em_m25, em_m24, em_m23, em_m22, em_m21, em_m20, em_m19, em_m18, em_m17, em_m16, em_m15, em_m14, em_m13, em_m12, em_m11, em_m10, em_m9, em_m8, em_m7, em_m6, em_m5, em_m4, em_m3, em_m2, em_m1, em_m0, ef_pI', ef_pIk, ef_pIs]; rfl)
  have tq : ∀ i, i < 6 → em_m35.1 (106 + 2 * i) 0 = -1 ∧ em_m35.1 (106 + 2 * i) 1 = nI 0 ∧ em_m35.1 129 i = -1 := by
    intro i hi
    have hh : i = 0 ∨ i = 1 ∨ i = 2 ∨ i = 3 ∨ i = 4 ∨ i = 5 := by omega
    rcases hh with rfl | rfl | rfl | rfl | rfl | rfl
    all_goals refine ⟨?_, ?_, ?_⟩
    all_goals first
      | (simp (disch := decide) only [em_m35, em_m34, em_m33, em_m32, em_m31, em_m30, em_m29, em_m28, em_m27, em_m26, em_m25, em_m24, em_m23, em_m22, em_m21, em_m20, em_m19, em_m18, em_m17, em_m16, em_m15, em_m14, em_m13, em_m12, em_m11, em_m10, em_m9, em_m8, em_m7, em_m6, em_m5, em_m4, em_m3, em_m2, em_m1, em_m0, Nat.reduceMul, Nat.reduceAdd, ef_pI', ef_pIk, ef_pIs]; done)
      | (simp (disch := decide) only [em_m35, em_m34, em_m33, em_m32, em_m31, em_m30, em_m29, em_m28, em_m27, em_m26, em_m25, em_m24, em_m23, em_m22, em_m21, em_m20, em_m19, em_m18, em_m17, em_m16, em_m15, em_m14, em_m13, em_m12, em_m11, em_m10, em_m9, em_m8, em_m7, em_m6, em_m5, em_m4, em_m3, em_m2, em_m1, em_m0, Nat.reduceMul, Nat.reduceAdd, ef_pI', ef_pIk, ef_pIs]; rfl)
  have f7 : em_m35.1 119 7 = -9 := by simp (disch := decide) only [em_m35, em_m34, em_m33, em_m32, em_m31, em_m30, em_m29, em_m28, em_m27, em_m26, em_m25, em_m24, em_m23, em_m22, em_m21, em_m20, em_m19, em_m18, em_m17, em_m16, em_m15, em_m14, em_m13, em_m12, em_m11, em_m10, em_m9, em_m8, em_m7, em_m6, em_m5, em_m4, em_m3, em_m2, em_m1, em_m0, ef_pI', ef_pIk, ef_pIs]
  have f25 : em_m35.1 25 0 = -9 := by simp (disch := decide) only [em_m35, em_m34, em_m33, em_m32, em_m31, em_m30, em_m29, em_m28, em_m27, em_m26, em_m25, em_m24, em_m23, em_m22, em_m21, em_m20, em_m19, em_m18, em_m17, em_m16, em_m15, em_m14, em_m13, em_m12, em_m11, em_m10, em_m9, em_m8, em_m7, em_m6, em_m5, em_m4, em_m3, em_m2, em_m1, em_m0, ef_pI', ef_pIk, ef_pIs]
  have g25 : ∀ k, k ≠ 0 → em_m35.1 25 k = nI 0 := fun k hk => by
    simp (disch := first | decide | assumption) only [em_m35, em_m34, em_m33, em_m32, em_m31, em_m30, em_m29, em_m28, em_m27, em_m26, em_m25, em_m24, em_m23, em_m22, em_m21, em_m20, em_m19, em_m18, em_m17, em_m16, em_m15, em_m14, em_m13, em_m12, em_m11, em_m10, em_m9, em_m8, em_m7, em_m6, em_m5, em_m4, em_m3, em_m2, em_m1, em_m0, ef_pI', ef_pIk, ef_pIs]; rfl
  have ff : ∀ k, k < 3 → em_m35.1 23 k = -5 ∧ em_m35.1 119 (4 + k) = -5 := by
    intro k hk
    have hh : k = 0 ∨ k = 1 ∨ k = 2 := by omega
    rcases hh with rfl | rfl | rfl
    all_goals refine ⟨?_, ?_⟩
    all_goals simp (disch := decide) only [em_m35, em_m34, em_m33, em_m32, em_m31, em_m30, em_m29, em_m28, em_m27, em_m26, em_m25, em_m24, em_m23, em_m22, em_m21, em_m20, em_m19, em_m18, em_m17, em_m16, em_m15, em_m14, em_m13, em_m12, em_m11, em_m10, em_m9, em_m8, em_m7, em_m6, em_m5, em_m4, em_m3, em_m2, em_m1, em_m0, Nat.reduceAdd, ef_pI', ef_pIk, ef_pIs]
  have rows : ∀ (V : Int32 → Int32 → Prop) (r m many base : Nat), ((r = 12 ∧ m = 5) ∨ (r = 15 ∧ m = 10) ∨ (r = 18 ∧ m = 8)) → 7 < many → ep_Rw V r m 119 many base em_m35 em_m35 := fun V r m many base hr hm => ⟨0, Nat.zero_le _, (t0 r m hr).1, g many (by omega), fun k hk => absurd hk (Nat.not_lt_zero _)⟩
  refine ⟨fun _ => (0, 0), fun _ => (0, 0), 0, 0, ep_I.mk (ep_Ln.mk (by omega) (by omega) (z 1 0 (by decide)) (z 118 9 (by decide)) (z 1 1 (by decide)) (fun e he => absurd he (Nat.not_lt_zero _)) (fun e he => absurd he (Nat.not_lt_zero _)) (fun e he => absurd he (Nat.not_lt_zero _)) (fun e he => absurd he (Nat.not_lt_zero _)) (fun e he => absurd he (Nat.not_lt_zero _)) (fun k _ _ => z 8 k (by decide))) ⟨0, by omega, z 9 0 (by decide), z 118 11 (by decide), fun k hk => absurd hk (Nat.not_lt_zero _)⟩ (fun i hi => ⟨0, by omega, by rw [(tq i hi).1, (tq i hi).2.2], (tq i hi).2.1, z 130 i (by decide), Or.inl ⟨(tq i hi).2.2, rfl⟩, fun k hk => by rw [ep_zL, ep_zL]⟩) (rows _ 12 5 25 28 (by omega) (by omega)) (rows _ 15 10 26 38 (by omega) (by omega)) (rows _ 18 8 27 58 (by omega) (by omega)) ⟨(t0 12 5 (by omega)).2, (t0 15 10 (by omega)).2, (t0 18 8 (by omega)).2, z 89 0 (by decide), z 98 0 (by decide)⟩
    (ep_Wd.mk (fun k hk => by rw [g k (by omega)]; exact z (21 + 1) k (by decide)) (fun k hk => ⟨(ff k hk).1.trans (ff k hk).2.symm, Or.inl (ff k hk).2⟩) (f25.trans f7.symm) ⟨0, by omega, g25 1 (by decide), g 10 (by decide)⟩ ⟨0, by omega, g25 2 (by decide), g 11 (by decide)⟩ ⟨0, by omega, g25 3 (by decide), g 12 (by decide), fun k hk => absurd hk (Nat.not_lt_zero _)⟩ (fun q => absurd (f7.symm.trans q) (by decide)) ⟨Or.inl (z 24 9 (by decide)), z 31 0 (by decide), z 40 0 (by decide)⟩ (fun q => absurd (f7.symm.trans q) (by decide)))
    (ep_Io.mk ⟨(z 0 4 (by decide)).trans (z 118 3 (by decide)).symm, Or.inl (z 118 3 (by decide))⟩ ?_ (Or.inl (z 58 9 (by decide))) (fun q => absurd ((z 118 3 (by decide)).symm.trans q) (by decide)))⟩
  refine ⟨?_, ?_, ?_⟩
  all_goals (simp (disch := decide) only [em_m35, em_m34, em_m33, em_m32, em_m31, em_m30, em_m29, em_m28, em_m27, em_m26, em_m25, em_m24, em_m23, em_m22, em_m21, em_m20, em_m19, em_m18, em_m17, em_m16, em_m15, em_m14, em_m13, em_m12, em_m11, em_m10, em_m9, em_m8, em_m7, em_m6, em_m5, em_m4, em_m3, em_m2, em_m1, em_m0, ef_pI', ef_pIk, ef_pIs]; rfl)
