/-! judge, shift -/
theorem eq_sz {s : Nat} {x : Nat} (hs : s ≤ 60) (hx : x < 2 ^ 31) : (nI s - nI x).toInt = (s : Int) - x := by
  rw [Int32.toInt_sub, nI_toInt (by omega), nI_toInt hx, Int.bmod_eq_of_le (by omega) (by omega)]
theorem ep_judge {φ D : Nat → Nat × Nat} {u nl : Nat} {C G : em_M} (h : ep_I φ D u nl C G) {j s z : Nat} (hj : j < 6) (hs : s ≤ 60) (t2 : C.1 (106 + 2 * j) 1 = nI s) (t3 : G.1 130 j = nI s) (t4 : (G.1 129 j = -1 ∧ s = 0) ∨ ∃ q, q ≤ 4 ∧ G.1 129 j = nI q) (t5 : ∀ k, k < 60 → C.2 (107 + 2 * j) k = G.2 131 (60 * j + k)) (z1 : z ≤ 40) (z2 : C.1 25 3 = nI z) (z3 : G.1 119 12 = nI z) (z4 : ∀ k, k < z → C.1 26 k = G.1 119 (74 + k)) (i : Int32) : ∀ (d k f1 f2 : Nat), k + d = z → d < f1 → d < f2 → es_X12_judge_39 f2 G (nI j) i (nI k) ∧ et_X11_judge_46 (106 + 2 * j) f1 C i (nI k) = et_X12_judge_39 f2 G (nI j) i (nI k) := by
  intro d
  induction d with
  | zero =>
    intro k f1 f2 hk h1 h2
    obtain ⟨f1, rfl⟩ : ∃ f, f1 = f + 1 := ⟨f1 - 1, by omega⟩
    obtain ⟨f2, rfl⟩ : ∃ f, f2 = f + 1 := ⟨f2 - 1, by omega⟩
    have e : nI z ≤ nI k := nI_le (by omega) (by omega)
    rw [et_X11_judge_46, et_X12_judge_39, es_X12_judge_39, eq_c12, z2, z3, if_pos e, if_pos e]
    exact ⟨⟨fun _ => trivial, fun q => absurd e q⟩, rfl⟩
  | succ d ih =>
    intro k f1 f2 hk h1 h2
    obtain ⟨f1, rfl⟩ : ∃ f, f1 = f + 1 := ⟨f1 - 1, by omega⟩
    obtain ⟨f2, rfl⟩ : ∃ f, f2 = f + 1 := ⟨f2 - 1, by omega⟩
    have e : ¬ nI z ≤ nI k := nI_ge (by omega) (by omega)
    obtain ⟨i1, i2⟩ := ih (k + 1) f1 f2 (by omega) (by omega) (by omega)
    have vj : vp_in (nI j) 6 := vp_in_nI (by omega) (by omega)
    have n1 : ¬ (1 : Int32) = 0 := by decide
    rw [et_X11_judge_46, et_X12_judge_39, es_X12_judge_39, eq_c12, z2, z3, if_neg e, if_neg e, nI_clamp (show j < 2 ^ 31 by omega), et_X8_has, t2, t3]
    by_cases so : G.1 129 j = -1
    · have s0 : s = 0 := by
        rcases t4 with q | ⟨q, q1, q2⟩
        · exact q.2
        · rw [so] at q2
          exact absurd (show nI q < 0 by rw [← q2]; exact eq_neg) (nI_pos (by omega))
      subst s0
      have hz : (if i < 0 then (0 : Int32) else if nI 0 ≤ i then 0 else 1) = 0 := by
        by_cases p : i < 0
        · rw [if_pos p]
        · rw [if_neg p, if_pos (by rw [nI_0]; exact Int32.not_lt.mp p)]
      dsimp only
      rw [hz, if_pos rfl, if_pos so]
      exact ⟨⟨fun q => absurd q e, fun _ => ⟨vj, fun _ => trivial, fun q => absurd so q⟩⟩, rfl⟩
    dsimp only
    rw [if_neg so]
    by_cases p : i < 0
    · rw [if_pos p, if_pos p, if_pos rfl]
      exact ⟨⟨fun q => absurd q e, fun _ => ⟨vj, fun q => absurd q so, fun _ => ⟨fun _ => trivial, fun q => absurd p q⟩⟩⟩, rfl⟩
    obtain ⟨x, hx, rfl⟩ := nI_of p
    rw [if_neg p, if_neg p]
    have A : (nI k < nI s - nI x) = (k + x < s) := by
      rw [Int32.lt_iff_toInt_lt, nI_toInt (by omega), eq_sz hs hx]
      exact propext (by omega)
    have B : (nI x < nI s - nI k) = (k + x < s) := by
      rw [Int32.lt_iff_toInt_lt, nI_toInt hx, eq_sz hs (by omega)]
      exact propext (by omega)
    by_cases w : k + x < s
    · have w1 : ¬ nI s ≤ nI x := nI_ge (by omega) (by omega)
      have a : nI k < nI s - nI x := by rw [A]; exact w
      have b : nI x < nI s - nI k := by rw [B]; exact w
      rw [if_neg w1, if_neg n1, if_pos a, if_pos b, nI_add, eq_60, nI_add, eq_m74, eq_atS_ _ (by omega) (by omega), eq_atS _ (by omega) (by omega), nI_clamp (by omega), nI_clamp (by omega), nI_1, z4 k (by omega), show 106 + 2 * j + 1 = 107 + 2 * j by omega, t5 (x + k) (by omega), show 60 * j + (x + k) = 60 * j + x + k by omega]
      have v3 : vp_in (nI (60 * j + x + k)) 360 := vp_in_nI (by omega) (by omega)
      have v4 : vp_in (nI (74 + k)) 5880 := vp_in_nI (by omega) (by omega)
      rw [i2]
      exact ⟨⟨fun q => absurd q e, fun _ => ⟨vj, fun q => absurd q so, fun _ => ⟨fun q => absurd q p, fun _ => ⟨vj, fun _ => ⟨v3, v4, fun _ => i1, fun _ => trivial⟩, fun q => absurd a q⟩⟩⟩⟩, rfl⟩
    · have a : ¬ nI k < nI s - nI x := by rw [A]; exact w
      have b : ¬ nI x < nI s - nI k := by rw [B]; exact w
      rw [if_neg a]
      refine ⟨⟨fun q => absurd q e, fun _ => ⟨vj, fun q => absurd q so, fun _ => ⟨fun q => absurd q p, fun _ => ⟨vj, fun q => absurd q a, fun _ => trivial⟩⟩⟩⟩, ?_⟩
      by_cases w1 : nI s ≤ nI x
      · rw [if_pos w1, if_pos rfl]
      · rw [if_neg w1, if_neg n1, if_neg b]
theorem pm_judge {φ D : Nat → Nat × Nat} {u nl : Nat} {C G : em_M} (h : ep_I φ D u nl C G) (tape i : Int32) : es_X12_judge G tape i ∧ et_X11_judge C tape i = et_X12_judge G tape i := by
  rw [es_X12_judge, et_X11_judge, et_X12_judge, eq_tin]
  have n1 : ¬ (1 : Int32) = 0 := by decide
  by_cases p1 : tape < 0
  · rw [if_pos p1, if_pos p1]
    exact ⟨fun r e => ⟨fun _ => trivial, fun q => absurd e.symm q⟩, rfl⟩
  by_cases p2 : 6 ≤ tape
  · rw [if_neg p1, if_neg p1, if_pos p2, if_pos p2]
    exact ⟨fun r e => ⟨fun _ => trivial, fun q => absurd e.symm q⟩, rfl⟩
  obtain ⟨j, hj, rfl, et⟩ := eq_tpN p1 p2
  obtain ⟨s, hs, t1, t2, t3, t4, t5⟩ := h.tp j hj
  obtain ⟨z, z1, z2, z3, z4⟩ := h.wd.sz
  have vj : vp_in (nI j) 6 := vp_in_nI (by omega) (by omega)
  obtain ⟨k1, k2⟩ := ep_judge h hj hs t2 t3 t4 t5 z1 z2 z3 z4 i z 0 (z + 1) 42 (by omega) (by omega) (by omega)
  have zc : (C.1 25 3).toNatClampNeg = z := by rw [show C.1 25 3 = nI z from z2, nI_clamp (by omega)]
  have z0 : (0 : Int32) = nI 0 := rfl
  rw [if_neg p1, if_neg p1, if_neg p2, if_neg p2, et, t1, nI_clamp (by omega), zc, if_neg n1]
  by_cases q1 : G.1 129 j = -1
  · rw [if_pos q1, if_pos q1, z0]
    exact ⟨fun r e => ⟨fun _ => trivial, fun _ => ⟨vj, fun _ => k1, fun q => absurd q1 q⟩⟩, k2⟩
  · by_cases q2 : G.1 129 j = 2
    · rw [if_neg q1, if_neg q1, if_pos q2, if_pos q2, z0]
      exact ⟨fun r e => ⟨fun _ => trivial, fun _ => ⟨vj, fun q => absurd q q1, fun _ => ⟨vj, fun _ => k1, fun q => absurd q2 q⟩⟩⟩, k2⟩
    · rw [if_neg q1, if_neg q1, if_neg q2, if_neg q2]
      exact ⟨fun r e => ⟨fun _ => trivial, fun _ => ⟨vj, fun q => absurd q q1, fun _ => ⟨vj, fun q => absurd q q2, fun _ => trivial⟩⟩⟩, rfl⟩
theorem pl_judge {M : em_M} (hI : ep_Inv M) (tape : Int32) (i : Int32) {r1 : Int32} (e1 : et_X11_judge M tape i = r1) : es_X12_judge M tape i ∧ ∀ (r2 : Int32), et_X12_judge M tape i = r2 → r1 = r2 ∧ ep_Inv M :=
  ep_goP hI (fun M => et_X11_judge M tape i) (fun M => et_X12_judge M tape i) (fun M => es_X12_judge M tape i) (fun _ _ _ _ _ _ h => pm_judge h tape i) e1
