/-! shift -/
theorem em_sh {a b i j n : Nat} (ha : a < 6) (hb : b < 6) (hi : i + n ≤ 60) (hj : j + n ≤ 60) {M0 : em_M} : ∀ (d k fu : Nat) (M : em_M), k + d = n → d < fu → M.1 = M0.1 → (∀ p, M.2 131 p = if (j ≤ i ∧ 60 * b + j ≤ p ∧ p < 60 * b + j + k) ∨ (i < j ∧ 60 * b + j + (n - k) ≤ p ∧ p < 60 * b + j + n) then M0.2 131 (60 * a + i + (p - (60 * b + j))) else M0.2 131 p) → es_X12_shift_135 fu M (nI a) (nI i) (nI b) (nI j) (nI n) (nI k) ∧ (et_X12_shift_135 fu M (nI a) (nI i) (nI b) (nI j) (nI n) (nI k)).1 = nI n ∧ (et_X12_shift_135 fu M (nI a) (nI i) (nI b) (nI j) (nI n) (nI k)).2.1 = M0.1 ∧ ∀ p, (et_X12_shift_135 fu M (nI a) (nI i) (nI b) (nI j) (nI n) (nI k)).2.2 131 p = if 60 * b + j ≤ p ∧ p < 60 * b + j + n then M0.2 131 (60 * a + i + (p - (60 * b + j))) else M0.2 131 p := by
  intro d
  induction d with
  | zero =>
    intro k fu M hk hf m1 m2
    obtain ⟨fu, rfl⟩ : ∃ f, fu = f + 1 := ⟨fu - 1, by omega⟩
    have e : nI n ≤ nI k := nI_le (by omega) (by omega)
    rw [es_X12_shift_135, et_X12_shift_135, if_pos e]
    refine ⟨⟨fun _ => trivial, fun q => absurd e q⟩, rfl, m1, fun p => ?_⟩
    show M.2 131 p = _
    rw [m2 p]
    by_cases w : 60 * b + j ≤ p ∧ p < 60 * b + j + n
    · rw [if_pos w, if_pos (by omega)]
    · rw [if_neg w, if_neg (by omega)]
  | succ d ih =>
    intro k fu M hk hf m1 m2
    obtain ⟨fu, rfl⟩ : ∃ f, fu = f + 1 := ⟨fu - 1, by omega⟩
    have e : ¬ nI n ≤ nI k := nI_ge (by omega) (by omega)
    rw [es_X12_shift_135, et_X12_shift_135, if_neg e]
    have ab : a = b ∨ 60 * a + 60 ≤ 60 * b ∨ 60 * b + 60 ≤ 60 * a := by omega
    by_cases f : j ≤ i
    · have f' : nI j ≤ nI i := nI_le f (by omega)
      rw [if_pos f', eq_60, eq_60, nI_add, nI_add, nI_1]
      rw [nI_clamp (show 60 * b + j + k < 2 ^ 31 by omega), nI_clamp (show 60 * a + i + k < 2 ^ 31 by omega)]
      have rd : M.2 131 (60 * a + i + k) = M0.2 131 (60 * a + i + k) := by
        rw [m2, if_neg]
        rintro (⟨-, y1, y2⟩ | ⟨y0, -⟩)
        · rcases ab with rfl | q | q <;> omega
        · omega
      obtain ⟨r0, r1, r2, r3⟩ := ih (k + 1) fu (em_pL M 131 (60 * b + j + k) (M.2 131 (60 * a + i + k))) (by omega) (by omega) (by rw [eq_pL1]; exact m1) (fun p => by
        by_cases y : p = 60 * b + j + k
        · subst y
          rw [ef_pLs _ _ rfl, if_pos (by omega), rd, show 60 * a + i + (60 * b + j + k - (60 * b + j)) = 60 * a + i + k by omega]
        · rw [ef_pLk _ _ y, m2 p]
          by_cases w : (j ≤ i ∧ 60 * b + j ≤ p ∧ p < 60 * b + j + k) ∨ (i < j ∧ 60 * b + j + (n - k) ≤ p ∧ p < 60 * b + j + n)
          · rw [if_pos w, if_pos (by omega)]
          · rw [if_neg w, if_neg (by omega)])
      refine ⟨⟨fun q => absurd q e, fun _ => ⟨fun _ => ⟨vp_in_nI (by omega) (by omega), vp_in_nI (by omega) (by omega), ?_⟩, fun q => absurd f' q⟩⟩, r1, r2, r3⟩
      rintro _ rfl
      exact r0
    · have f' : ¬ nI j ≤ nI i := nI_ge (by omega) (by omega)
      obtain ⟨n', rfl⟩ : ∃ n', n = n' + 1 := ⟨n - 1, by omega⟩
      rw [if_neg f', eq_q1, eq_sub (show k ≤ n' by omega)]
      simp only [eq_60, nI_add, nI_1, nI_clamp (show 60 * b + j + (n' - k) < 2 ^ 31 by omega), nI_clamp (show 60 * a + i + (n' - k) < 2 ^ 31 by omega)]
      have rd : M.2 131 (60 * a + i + (n' - k)) = M0.2 131 (60 * a + i + (n' - k)) := by
        rw [m2, if_neg]
        rintro (⟨y0, -⟩ | ⟨-, y1, y2⟩)
        · omega
        · rcases ab with rfl | q | q <;> omega
      obtain ⟨r0, r1, r2, r3⟩ := ih (k + 1) fu (em_pL M 131 (60 * b + j + (n' - k)) (M.2 131 (60 * a + i + (n' - k)))) (by omega) (by omega) (by rw [eq_pL1]; exact m1) (fun p => by
        by_cases y : p = 60 * b + j + (n' - k)
        · subst y
          rw [ef_pLs _ _ rfl, if_pos (by omega), rd, show 60 * a + i + (60 * b + j + (n' - k) - (60 * b + j)) = 60 * a + i + (n' - k) by omega]
        · rw [ef_pLk _ _ y, m2 p]
          by_cases w : (j ≤ i ∧ 60 * b + j ≤ p ∧ p < 60 * b + j + k) ∨ (i < j ∧ 60 * b + j + (n' + 1 - k) ≤ p ∧ p < 60 * b + j + (n' + 1))
          · rw [if_pos w, if_pos (by omega)]
          · rw [if_neg w, if_neg (by omega)])
      refine ⟨⟨fun q => absurd q e, fun _ => ⟨fun q => absurd q f', fun _ => ⟨vp_in_nI (by omega) (by omega), vp_in_nI (by omega) (by omega), ?_⟩⟩⟩, r1, r2, r3⟩
      rintro _ rfl
      exact r0
