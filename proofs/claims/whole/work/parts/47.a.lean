/-! THE IMAGE -/
theorem em_copies2 {a b : Nat} (hab : a ≠ b) : ∀ (d k fu : Nat) (M : em_M), k + d = 5880 → d < fu → es_X12_copies_2 a 5880 b 5880 fu M (nI k) ∧ (∀ o, o ≠ b → (et_X12_copies_2 a 5880 b 5880 fu M (nI k)).1 o = M.1 o) ∧ (et_X12_copies_2 a 5880 b 5880 fu M (nI k)).2 = M.2 ∧ ∀ i, (et_X12_copies_2 a 5880 b 5880 fu M (nI k)).1 b i = if k ≤ i ∧ i < 5880 then M.1 a i else M.1 b i := by
  intro d
  induction d with
  | zero =>
    intro k fu M hk hf
    obtain ⟨fu, rfl⟩ : ∃ f, fu = f + 1 := ⟨fu - 1, by omega⟩
    have e : (5880 : Int32) ≤ nI k := nI_le (a := 5880) (by omega) (by omega)
    rw [et_X12_copies_2, es_X12_copies_2, if_pos e]
    exact ⟨⟨fun _ => trivial, fun q => absurd e q⟩, fun _ _ => rfl, rfl, fun i => (if_neg (by omega)).symm⟩
  | succ d ih =>
    intro k fu M hk hf
    obtain ⟨fu, rfl⟩ : ∃ f, fu = f + 1 := ⟨fu - 1, by omega⟩
    have e : ¬ (5880 : Int32) ≤ nI k := nI_ge (b := 5880) (by omega) (by omega)
    rw [et_X12_copies_2, es_X12_copies_2, if_neg e, nI_clamp (by omega), nI_1]
    obtain ⟨i1, i2, i3, i4⟩ := ih (k + 1) fu (em_pI M b k (M.1 a k)) (by omega) (by omega)
    refine ⟨⟨fun q => absurd q e, fun _ => ⟨vp_in_nI (by omega) (by omega), vp_in_nI (by omega) (by omega), fun M2 q => q ▸ i1⟩⟩, fun o ho => ?_, i3, fun i => ?_⟩
    · rw [i2 o ho, ef_pI' _ _ _ _ ho]
    · rw [i4 i]
      by_cases p : k = i
      · subst p
        rw [if_neg (by omega), if_pos (by omega), ef_pIs _ _ rfl]
      · by_cases q : k + 1 ≤ i ∧ i < 5880
        · rw [if_pos q, if_pos (by omega), ef_pI' _ _ _ _ hab]
        · rw [if_neg q, if_neg (by omega), ef_pIk _ _ (by omega)]
theorem em_copies {a b : Nat} (hab : a ≠ b) (M : em_M) : es_X12_copies a 5880 b 5880 M ∧ (∀ o, o ≠ b → (et_X12_copies a 5880 b 5880 M).1 o = M.1 o) ∧ (et_X12_copies a 5880 b 5880 M).2 = M.2 ∧ ∀ i, i < 5880 → (et_X12_copies a 5880 b 5880 M).1 b i = M.1 a i := by
  obtain ⟨i1, i2, i3, i4⟩ := em_copies2 hab 5880 0 5881 M (by omega) (by omega)
  have z : (0 : Int32) = nI 0 := rfl
  rw [es_X12_copies, et_X12_copies, z]
  generalize et_X12_copies_2 a 5880 b 5880 5881 M (nI 0) = M' at i2 i3 i4 ⊢
  exact ⟨i1, i2, i3, fun i hi => (i4 i).trans (if_pos ⟨Nat.zero_le _, hi⟩)⟩
