/-! odds, mean -/
theorem ep_odds {φ D : Nat → Nat × Nat} {u nl : Nat} {C0 G0 : em_M} (h : ep_I φ D u nl C0 G0) {j l : Nat} (hj : j < 4) (hl : l < nl) (part : Int32) : ∀ (d v f1 f2 g : Nat) (C G : em_M), v + d = 10 → d < f1 → d < f2 → g ≤ v → ep_Lq C0 G0 C G → (∀ k, k < 5880 → G.1 119 k = G0.1 119 k) → es_X12_odds_46 f2 G (nI l) (nI j) part (nI g).toInt64 (nI v) ∧ (et_X11_odds_37 f1 C (nI l) (nI j) part (nI g) (nI v)).1 = (et_X12_odds_46 f2 G (nI l) (nI j) part (nI g).toInt64 (nI v)).1 ∧ ep_I φ D u nl (et_X11_odds_37 f1 C (nI l) (nI j) part (nI g) (nI v)).2 (et_X12_odds_46 f2 G (nI l) (nI j) part (nI g).toInt64 (nI v)).2 := by
  intro d
  induction d with
  | zero =>
    intro v f1 f2 g C G hv h1 h2 hg p g3
    obtain ⟨f1, rfl⟩ : ∃ f, f1 = f + 1 := ⟨f1 - 1, by omega⟩
    obtain ⟨f2, rfl⟩ : ∃ f, f2 = f + 1 := ⟨f2 - 1, by omega⟩
    have e : (10 : Int32) ≤ nI v := nI_le (a := 10) (by omega) (by omega)
    have tg : ((nI g).toInt64).toInt = (g : Int) := by rw [Int32.toInt_toInt64, nI_toInt (by omega)]
    obtain ⟨l1, l2⟩ := ep_low G C (A := (nI g).toInt64) (b := 10) part (by rw [tg]; omega) (by omega) (by omega)
    have l1' : es_X12_lowest G (nI g).toInt64 (10 : Int64) part := l1
    have l2' : et_X11_inLowestTerms C (nI g).toInt64 (10 : Int32) part = et_X12_lowest G (nI g).toInt64 (10 : Int64) part := l2
    rw [et_X11_odds_37, et_X12_odds_46, es_X12_odds_46, if_pos e, if_pos e]
    exact ⟨⟨fun _ => ⟨l1', fun _ _ => trivial⟩, fun q => absurd e q⟩, l2', ep_I_try h p g3⟩
  | succ d ih =>
    intro v f1 f2 g C G hv h1 h2 hg p g3
    obtain ⟨f1, rfl⟩ : ∃ f, f1 = f + 1 := ⟨f1 - 1, by omega⟩
    obtain ⟨f2, rfl⟩ : ∃ f, f2 = f + 1 := ⟨f2 - 1, by omega⟩
    have e : ¬ (10 : Int32) ≤ nI v := nI_ge (b := 10) (by omega) (by omega)
    obtain ⟨t1, t2, t3⟩ := ep_fit1 h p g3 hj hl (nI v)
    obtain ⟨-, a⟩ := ep_ans t2 1
    obtain ⟨e1, e2, e3, e4⟩ := em_copies (a := 120) (b := 119) (by omega) (et_X12_runs (em_pI G 119 j (nI v)) (nI l))
    obtain ⟨k1, k2⟩ := ep_back t3 e2 e3 e4
    have vj : vp_in (nI j) 5880 := vp_in_nI (by omega) (by omega)
    have s0 : (nI g).toInt64 + (0 : Int64) = (nI g).toInt64 := Int64.add_zero _
    have s1 : (nI g).toInt64 + (1 : Int64) = (nI (g + 1)).toInt64 := by rw [nI_l (by omega), nI_l (by omega), lN_1]
    obtain ⟨i1, i2⟩ := ih (v + 1) f1 f2 g _ _ (by omega) (by omega) (by omega) (by omega) k1 k2
    obtain ⟨m1, m2⟩ := ih (v + 1) f1 f2 (g + 1) _ _ (by omega) (by omega) (by omega) (by omega) k1 k2
    rw [et_X11_odds_37, et_X12_odds_46, es_X12_odds_46, if_neg e, if_neg e]
    simp only [eq_m0, nI_clamp (show j < 2 ^ 31 by omega), nI_1, eq_c7, eq_c8, eq_c9, s0, s1]
    rw [show et_X4_answer 83 (et_X11_tryWith C (nI l) (nI j) (nI v)) 1 = et_X12_toldOf (et_X12_runs (em_pI G 119 j (nI v)) (nI l)) 1 from a, et_X12_toldOf, if_neg (show ¬ (1 : Int32) = 0 by decide), if_pos rfl]
    simp only [eq_c7, eq_c8, eq_c9]
    generalize et_X11_tryWith C (nI l) (nI j) (nI v) = C2 at i1 i2 m1 m2 ⊢
    have E : (∀ M11 : em_M, et_X12_runs (em_pI G 119 j (nI v)) (nI l) = M11 → ((M11.1 119 7 = 0 → ((M11.1 119 8 = 0 → ((M11.1 119 9 = 0 → es_X12_copies 120 5880 119 5880 M11 ∧ ∀ M17 : em_M, et_X12_copies 120 5880 119 5880 M11 = M17 → es_X12_odds_46 f2 M17 (nI l) (nI j) part (nI g).toInt64 (nI (v + 1))) ∧ (¬ M11.1 119 9 = 0 → es_X12_copies 120 5880 119 5880 M11 ∧ ∀ M18 : em_M, et_X12_copies 120 5880 119 5880 M11 = M18 → es_X12_odds_46 f2 M18 (nI l) (nI j) part (nI (g + 1)).toInt64 (nI (v + 1))))) ∧ (¬ M11.1 119 8 = 0 → es_X12_copies 120 5880 119 5880 M11 ∧ ∀ M15 : em_M, et_X12_copies 120 5880 119 5880 M11 = M15 → es_X12_odds_46 f2 M15 (nI l) (nI j) part (nI g).toInt64 (nI (v + 1))))) ∧ (¬ M11.1 119 7 = 0 → es_X12_copies 120 5880 119 5880 M11 ∧ ∀ M13 : em_M, et_X12_copies 120 5880 119 5880 M11 = M13 → es_X12_odds_46 f2 M13 (nI l) (nI j) part (nI g).toInt64 (nI (v + 1))))) := by
      rintro _ rfl
      have A : es_X12_copies 120 5880 119 5880 (et_X12_runs (em_pI G 119 j (nI v)) (nI l)) ∧ ∀ M17 : em_M, et_X12_copies 120 5880 119 5880 (et_X12_runs (em_pI G 119 j (nI v)) (nI l)) = M17 → es_X12_odds_46 f2 M17 (nI l) (nI j) part (nI g).toInt64 (nI (v + 1)) := ⟨e1, fun M q => q ▸ i1⟩
      exact ⟨fun _ => ⟨fun _ => ⟨fun _ => A, fun _ => ⟨e1, fun M q => q ▸ m1⟩⟩, fun _ => A⟩, fun _ => A⟩
    refine ⟨⟨fun q => absurd q e, fun _ => ⟨vj, ?_⟩⟩, ?_⟩
    · rintro _ rfl
      exact ⟨t1, E⟩
    · generalize et_X12_runs (em_pI G 119 j (nI v)) (nI l) = G2 at i2 m2 ⊢
      generalize et_X12_copies 120 5880 119 5880 G2 = G3 at i2 m2 ⊢
      by_cases q7 : G2.1 119 7 = 0
      · by_cases q8 : G2.1 119 8 = 0
        · have cm : ¬ lg_cmp (G2.1 119 9).toInt64 (-9223372036854775808 : Int64) = 0 := fun q => eq_min _ ((lg_cmp_eq _ _).mp q)
          have c0 : (lg_cmp (G2.1 119 9).toInt64 0 = 0) = (G2.1 119 9 = 0) := eq_cmp0 _
          by_cases q9 : G2.1 119 9 = 0
          · rw [if_pos q7, if_pos q7, if_pos q8, if_pos q8, if_pos q9, if_neg cm, if_pos (by rw [c0]; exact q9)]
            exact i2
          · rw [if_pos q7, if_pos q7, if_pos q8, if_pos q8, if_neg q9, if_neg cm, if_neg (by rw [c0]; exact q9)]
            exact m2
        · rw [if_pos q7, if_pos q7, if_neg q8, if_neg q8, if_pos ((lg_cmp_eq _ _).mpr rfl)]
          exact i2
      · rw [if_neg q7, if_neg q7, if_pos ((lg_cmp_eq _ _).mpr rfl)]
        exact i2
theorem pm_odds {φ D : Nat → Nat × Nat} {u nl : Nat} {C G : em_M} (h : ep_I φ D u nl C G) (line name part : Int32) : es_X12_odds G line name part ∧ (et_X11_odds C line name part).1 = (et_X12_odds G line name part).1 ∧ ∃ φ' D' u' nl', ep_I φ' D' u' nl' (et_X11_odds C line name part).2 (et_X12_odds G line name part).2 := by
  have ll : et_X12_isLine G line = et_X2_has C line := eq_line h.ln line
  rw [es_X12_odds, et_X11_odds, et_X12_odds, ll, eq_name, eq_nameC G C, show et_X12_in G part.toInt64 (0 : Int64) (1 : Int64) = if part < 0 then 0 else if 1 < part then 0 else 1 from eq_in G part 0 1]
  by_cases p : et_X2_has C line = 0
  · rw [if_pos p, if_pos p]
    exact ⟨fun r e => ⟨fun _ => trivial, fun q => absurd (e.symm.trans p) q⟩, rfl, φ, D, u, nl, h⟩
  rw [if_neg p, if_neg p]
  dsimp only
  by_cases q : et_X11_isName C name = 0
  · rw [if_pos q, if_pos q]
    exact ⟨fun r e => ⟨fun _ => trivial, fun _ r3 e3 => ⟨fun _ => trivial, fun z => absurd (e3.symm.trans q) z⟩⟩, rfl, φ, D, u, nl, h⟩
  rw [if_neg q, if_neg q]
  by_cases w1 : part < 0
  · rw [if_pos w1, if_pos w1, if_pos rfl]
    exact ⟨fun r e => ⟨fun _ => trivial, fun _ r3 e3 => ⟨fun _ => trivial, fun _ r5 e5 => ⟨fun _ => trivial, fun z => absurd e5.symm z⟩⟩⟩, rfl, φ, D, u, nl, h⟩
  by_cases w2 : part ≤ 1
  · have w3 : ¬ 1 < part := Int32.not_lt.mpr w2
    have n1 : ¬ (1 : Int32) = 0 := by decide
    rw [if_neg w1, if_neg w1, if_pos w2, if_neg w3, if_neg n1]
    obtain ⟨l, hl, rfl⟩ := eq_lineN h.ln p
    obtain ⟨j, hj, rfl⟩ := eq_nameN q
    obtain ⟨e1, e2, e3, e4⟩ := em_copies (a := 119) (b := 120) (by omega) G
    generalize et_X12_copies 119 5880 120 5880 G = G1 at e2 e3 e4 ⊢
    have lq := ep_Lq0 h (C1 := C) (fun _ _ => rfl) rfl e2 e3 e4
    have g3 : ∀ k, k < 5880 → G1.1 119 k = G.1 119 k := fun k _ => by rw [e2 _ (by omega)]
    obtain ⟨d1, d2, d3⟩ := ep_odds h hj hl part 10 0 11 11 0 C G1 (by omega) (by omega) (by omega) (by omega) lq g3
    have z0 : (0 : Int32) = nI 0 := rfl
    have z1 : (0 : Int64) = (nI 0).toInt64 := rfl
    rw [z1, z0]
    refine ⟨fun r e => ⟨fun _ => trivial, fun _ r3 e3 => ⟨fun _ => trivial, fun _ r5 e5 => ⟨fun _ => trivial, fun _ => ⟨e1, ?_⟩⟩⟩⟩, d2, φ, D, u, nl, d3⟩
    rintro _ rfl
    exact d1
  · have w3 : 1 < part := Int32.not_le.mp w2
    rw [if_neg w1, if_neg w1, if_neg w2, if_pos w3, if_pos rfl]
    exact ⟨fun r e => ⟨fun _ => trivial, fun _ r3 e3 => ⟨fun _ => trivial, fun _ r5 e5 => ⟨fun _ => trivial, fun z => absurd e5.symm z⟩⟩⟩, rfl, φ, D, u, nl, h⟩
theorem pl_odds {M : em_M} (hI : ep_Inv M) (line : Int32) (name : Int32) (part : Int32) {r1 : Int64} {M1 : em_M} (e1 : et_X11_odds M line name part = (r1, M1)) : es_X12_odds M1 line name part ∧ ∀ (r2 : Int64) (M2 : em_M), et_X12_odds M1 line name part = (r2, M2) → r1 = r2 ∧ ep_Inv M2 :=
  ep_go hI (fun M => et_X11_odds M line name part) (fun M => et_X12_odds M line name part) (fun M => es_X12_odds M line name part) (fun _ _ _ _ _ _ h => pm_odds h line name part) (fun o h => ef1_X11_odds _ _ _ _ (by omega)) (fun o h => ef2_X11_odds _ _ _ _ (by omega)) (fun o h => ef1_X12_odds _ _ _ _ (by omega)) (fun o h => ef2_X12_odds _ _ _ _ (by omega)) e1
/-- the sum of OUT, and what follows from it -/
theorem ep_mean {C0 G0 : em_M} {C G : em_M} {z : Nat} (hz : z ≤ 40) (z2 : C.1 83 3 = nI z) (z4 : ∀ k, k < z → C.1 (83 + 1) k = G.1 119 (74 + k)) (p : ep_Lq C0 G0 C G) (l : Int32) (part : Int32) : ∀ (d k f1 f2 : Nat) (sum : Int64), k + d = z → d < f1 → d < f2 → sum.toInt.natAbs ≤ k * 2147483648 → es_X12_mean_52 f2 G l part sum (nI z) (nI k) ∧ et_X12_mean_52 f2 G l part sum (nI z) (nI k) = ((if z = 0 then (-9223372036854775808 : Int64) else et_X11_inLowestTerms C (et_X4_sum_4 83 f1 C sum (nI k)) (nI z) part), et_X12_copies 120 5880 119 5880 G) := by
  intro d
  induction d with
  | zero =>
    intro k f1 f2 sum hk h1 h2 hs
    obtain ⟨f1, rfl⟩ : ∃ f, f1 = f + 1 := ⟨f1 - 1, by omega⟩
    obtain ⟨f2, rfl⟩ : ∃ f, f2 = f + 1 := ⟨f2 - 1, by omega⟩
    have e : nI z ≤ nI k := nI_le (by omega) (by omega)
    have e1 := (em_copies (a := 120) (b := 119) (by omega) G).1
    rw [es_X12_mean_52, et_X12_mean_52, et_X4_sum_4, z2, if_pos e, if_pos e]
    generalize et_X12_copies 120 5880 119 5880 G = G3
    by_cases z0 : z = 0
    · have n0 : nI z = 0 := by rw [z0]; rfl
      rw [if_pos n0, if_pos z0]
      exact ⟨⟨fun _ => ⟨e1, fun M q => ⟨fun _ => trivial, fun q => absurd n0 q⟩⟩, fun q => absurd e q⟩, rfl⟩
    · have n0 : ¬ nI z = 0 := nI_ne0 (by omega) (by omega)
      have B : sum.toInt.natAbs ≤ 2 ^ 40 := by omega
      rw [if_neg n0, if_neg z0]
      refine ⟨⟨fun _ => ⟨e1, fun M q => ⟨fun q => absurd q n0, fun _ => ⟨(ep_low M C part B hz (by omega)).1, fun _ _ => trivial⟩⟩⟩, fun q => absurd e q⟩, ?_⟩
      rw [(ep_low G3 C part B hz (by omega)).2]
  | succ d ih =>
    intro k f1 f2 sum hk h1 h2 hs
    obtain ⟨f1, rfl⟩ : ∃ f, f1 = f + 1 := ⟨f1 - 1, by omega⟩
    obtain ⟨f2, rfl⟩ : ∃ f, f2 = f + 1 := ⟨f2 - 1, by omega⟩
    have e : ¬ nI z ≤ nI k := nI_ge (by omega) (by omega)
    rw [es_X12_mean_52, et_X12_mean_52, et_X4_sum_4, z2, if_neg e, if_neg e, eq_m74, nI_clamp (by omega), nI_1, eq_atS (a := 83 + 1) _ (by omega) (by omega), z4 k (by omega)]
    have t1 := Int32.le_toInt (G.1 119 (74 + k))
    have t2 := Int32.toInt_lt (G.1 119 (74 + k))
    have s : (sum + (G.1 119 (74 + k)).toInt64).toInt = sum.toInt + (G.1 119 (74 + k)).toInt := by
      rw [Int64.toInt_add, Int32.toInt_toInt64, Int.bmod_eq_of_le (by omega) (by omega)]
    obtain ⟨i1, i2⟩ := ih (k + 1) f1 f2 (sum + (G.1 119 (74 + k)).toInt64) (by omega) (by omega) (by omega) (by rw [s]; omega)
    exact ⟨⟨fun q => absurd q e, fun _ => ⟨vp_in_nI (by omega) (by omega), i1⟩⟩, i2⟩
theorem pm_mean {φ D : Nat → Nat × Nat} {u nl : Nat} {C G : em_M} (h : ep_I φ D u nl C G) (line part : Int32) : es_X12_mean G line part ∧ (et_X11_mean C line part).1 = (et_X12_mean G line part).1 ∧ ∃ φ' D' u' nl', ep_I φ' D' u' nl' (et_X11_mean C line part).2 (et_X12_mean G line part).2 := by
  have ll : et_X12_isLine G line = et_X2_has C line := eq_line h.ln line
  rw [es_X12_mean, et_X11_mean, et_X12_mean, ll, show et_X12_in G part.toInt64 (0 : Int64) (1 : Int64) = if part < 0 then 0 else if 1 < part then 0 else 1 from eq_in G part 0 1]
  by_cases p : et_X2_has C line = 0
  · rw [if_pos p, if_pos p]
    exact ⟨fun r e => ⟨fun _ => trivial, fun q => absurd (e.symm.trans p) q⟩, rfl, φ, D, u, nl, h⟩
  rw [if_neg p, if_neg p]
  dsimp only
  by_cases w1 : part < 0
  · rw [if_pos w1, if_pos w1, if_pos rfl]
    exact ⟨fun r e => ⟨fun _ => trivial, fun _ r3 e3 => ⟨fun _ => trivial, fun z => absurd e3.symm z⟩⟩, rfl, φ, D, u, nl, h⟩
  by_cases w2 : part ≤ 1
  · have w3 : ¬ 1 < part := Int32.not_lt.mpr w2
    have n1 : ¬ (1 : Int32) = 0 := by decide
    rw [if_neg w1, if_neg w1, if_pos w2, if_neg w3, if_neg n1]
    obtain ⟨l, hl, rfl⟩ := eq_lineN h.ln p
    obtain ⟨t1, t2, t3, t4⟩ := ep_on1 h hl
    obtain ⟨z, z1, z2, z3, z4⟩ := t3.sz
    have z2' : (et_X11_tryOut (et_X10_copyFrom 79 21 C) (nI l)).1 83 3 = nI z := z2
    rw [z2', eq_c12]
    generalize et_X11_tryOut (et_X10_copyFrom 79 21 C) (nI l) = C2 at t3 t4 z2 z4 z2' ⊢
    generalize hG1 : et_X12_copies 119 5880 120 5880 G = G1 at t1 t2 t3 t4 z3 z4 ⊢
    generalize hG2 : et_X12_runs G1 (nI l) = G2 at t3 t4 z3 z4 ⊢
    rw [z3]
    obtain ⟨m1, m2⟩ := ep_mean z1 z2' z4 t4 (nI l) part z 0 (z + 1) 42 0 (by omega) (by omega) (by omega) (by show (0 : Int).natAbs ≤ _; omega)
    have z0 : (0 : Int32) = nI 0 := rfl
    obtain ⟨e1, e2, e3, e4⟩ := em_copies (a := 120) (b := 119) (by omega) G2
    have E : (∀ M5 : em_M, G1 = M5 → es_X12_runs M5 (nI l) ∧ ∀ M6 : em_M, et_X12_runs M5 (nI l) = M6 → es_X12_mean_52 42 M6 (nI l) part 0 (M6.1 119 12) 0) := by
      rintro _ rfl
      refine ⟨t2, ?_⟩
      intro M6 q
      rw [hG2] at q
      rw [← q, z3, z0]
      exact m1
    have I : ep_I φ D u nl C2 (et_X12_copies 120 5880 119 5880 G2) := by
      generalize et_X12_copies 120 5880 119 5880 G2 = G3 at e2 e3 e4 ⊢
      obtain ⟨k1, k2⟩ := ep_back t4 e2 e3 e4
      exact ep_I_try h k1 k2
    rw [z0, m2]
    refine ⟨fun r e => ⟨fun _ => trivial, fun _ r3 e3 => ⟨fun _ => trivial, fun _ => ⟨t1, E⟩⟩⟩, ?_⟩
    generalize et_X12_copies 120 5880 119 5880 G2 = G3 at I ⊢
    by_cases y : z = 0
    · have n0 : nI z = nI 0 := by rw [y]
      rw [if_pos n0, if_pos y]
      exact ⟨rfl, φ, D, u, nl, I⟩
    · have n0 : ¬ nI z = nI 0 := fun q => y ((nI_eq (by omega) (by omega)).mp q)
      rw [if_neg n0, if_neg y, et_X4_sum, z2', nI_clamp (by omega)]
      exact ⟨rfl, φ, D, u, nl, I⟩
  · have w3 : 1 < part := Int32.not_le.mp w2
    rw [if_neg w1, if_neg w1, if_neg w2, if_pos w3, if_pos rfl]
    exact ⟨fun r e => ⟨fun _ => trivial, fun _ r3 e3 => ⟨fun _ => trivial, fun z => absurd e3.symm z⟩⟩, rfl, φ, D, u, nl, h⟩
theorem pl_mean {M : em_M} (hI : ep_Inv M) (line : Int32) (part : Int32) {r1 : Int64} {M1 : em_M} (e1 : et_X11_mean M line part = (r1, M1)) : es_X12_mean M1 line part ∧ ∀ (r2 : Int64) (M2 : em_M), et_X12_mean M1 line part = (r2, M2) → r1 = r2 ∧ ep_Inv M2 :=
  ep_go hI (fun M => et_X11_mean M line part) (fun M => et_X12_mean M line part) (fun M => es_X12_mean M line part) (fun _ _ _ _ _ _ h => pm_mean h line part) (fun o h => ef1_X11_mean _ _ _ (by omega)) (fun o h => ef2_X11_mean _ _ _ (by omega)) (fun o h => ef1_X12_mean _ _ _ (by omega)) (fun o h => ef2_X12_mean _ _ _ (by omega)) e1
