/-! ALIKE -/
theorem ep_try_kg {φ D : Nat → Nat × Nat} {u nl : Nat} {C0 G0 C G C1 G1 : em_M} (ln : ep_Ln φ D u nl C0 G0) (p : ep_Lq C0 G0 C G) (a1 : ∀ o, o < 79 ∨ 81 < o → C1.1 o = C.1 o) (a2 : C1.2 = C.2) (b1 : ∀ o, o ≠ 119 → G1.1 o = G.1 o) (b2 : G1.2 = G.2) (b3 : ∀ k, 25 ≤ k → k ≤ 73 → G1.1 119 k = G.1 119 k) (va : ∀ k, k < 4 → C1.1 80 k = G1.1 119 k) (fu : ∀ k, k < 3 → C1.1 81 k = G1.1 119 (4 + k) ∧ (G1.1 119 (4 + k) = -5 ∨ ∃ l, l < nl ∧ G1.1 119 (4 + k) = nI l)) {l : Nat} (hl : l < nl) : ∀ o, o ≠ 119 → (et_X12_runs G1 (nI l)).1 o = G1.1 o := by
  have q : ep_Lq C0 G0 C1 G1 := ep_Lq.mk (fun o ho => by rw [a1 o (by omega)]; exact p.c1 o ho) (fun o ho => by rw [a2]; exact p.c2 o ho) (by rw [a1 _ (by omega), a1 _ (by omega)]; exact p.z) (fun o h1 h2 h3 => by rw [b1 o h1]; exact p.g1 o h1 h2 h3) (by rw [b2]; exact p.g2) (fun k h1 h2 => by rw [b3 k h1 h2]; exact p.kr k h1 h2) (fun k hk => by rw [b1 _ (by omega)]; exact p.g4 k hk)
  have wb : ep_Wb nl 79 C1 G1 C1 G1 := ep_Wb.mk va fu q.z (fun _ _ => rfl) (fun _ _ => rfl) (fun _ _ => rfl) rfl (fun _ _ _ => rfl)
  exact (ep_runs (w := 79) (by omega) (ep_Lq_ln ln q) wb hl).2.kg
theorem ep_al0 (G : em_M) {z : Nat} (hz : z ≤ 40) (g : G.1 119 12 = nI z) : ∀ (d k fu : Nat), k + d = z ∨ (d = 0 ∧ z ≤ k ∧ k < 2 ^ 31) → d < fu → es_X12_alike_169 fu G 0 (nI k) ∧ et_X12_alike_169 fu G 0 (nI k) = (0, et_X12_copies 120 5880 119 5880 G) := by
  have e1 := (em_copies (a := 120) (b := 119) (by omega) G).1
  intro d
  induction d with
  | zero =>
    intro k fu hk hf
    obtain ⟨fu, rfl⟩ : ∃ f, fu = f + 1 := ⟨fu - 1, by omega⟩
    have e : nI z ≤ nI k := nI_le (by omega) (by omega)
    rw [es_X12_alike_169, et_X12_alike_169, eq_c12, g, if_pos e]
    generalize et_X12_copies 120 5880 119 5880 G = G3
    exact ⟨⟨fun _ => ⟨e1, fun M q => ⟨fun _ => trivial, fun _ => trivial⟩⟩, fun q => absurd e q⟩, rfl⟩
  | succ d ih =>
    intro k fu hk hf
    obtain ⟨fu, rfl⟩ : ∃ f, fu = f + 1 := ⟨fu - 1, by omega⟩
    have e : ¬ nI z ≤ nI k := nI_ge (by omega) (by omega)
    obtain ⟨i1, i2⟩ := ih (k + 1) fu (by omega) (by omega)
    rw [es_X12_alike_169, et_X12_alike_169, eq_c12, g, if_neg e, if_pos rfl, nI_1]
    exact ⟨⟨fun q => absurd q e, fun _ => ⟨fun _ => i1, fun q => absurd rfl q⟩⟩, i2⟩
theorem ep_al1 {C G : em_M} {z : Nat} (hz : z ≤ 40) (c : C.1 83 3 = nI z) (g : G.1 119 12 = nI z) (x : ∀ k, k < z → C.1 (83 + 1) k = G.1 119 (74 + k)) (y : ∀ k, k < z → C.1 (103 + 1) k = G.1 128 (74 + k)) : ∀ (d k f1 f2 : Nat), k + d = z → d < f1 → d < f2 → es_X12_alike_169 f2 G 1 (nI k) ∧ ((et_X4_sameAs_44 83 103 f1 C 1 (nI k) = 1 ∧ et_X12_alike_169 f2 G 1 (nI k) = (1, et_X12_copies 120 5880 119 5880 G)) ∨ (et_X4_sameAs_44 83 103 f1 C 1 (nI k) = 0 ∧ et_X12_alike_169 f2 G 1 (nI k) = (0, et_X12_copies 120 5880 119 5880 G))) := by
  have e1 := (em_copies (a := 120) (b := 119) (by omega) G).1
  have n1 : ¬ (1 : Int32) = 0 := by decide
  intro d
  induction d with
  | zero =>
    intro k f1 f2 hk h1 h2
    obtain ⟨f1, rfl⟩ : ∃ f, f1 = f + 1 := ⟨f1 - 1, by omega⟩
    obtain ⟨f2, rfl⟩ : ∃ f, f2 = f + 1 := ⟨f2 - 1, by omega⟩
    have e : nI z ≤ nI k := nI_le (by omega) (by omega)
    rw [es_X12_alike_169, et_X12_alike_169, et_X4_sameAs_44, eq_c12, g, c, if_pos e, if_pos e]
    generalize et_X12_copies 120 5880 119 5880 G = G3
    dsimp only
    rw [if_neg n1]
    exact ⟨⟨fun _ => ⟨e1, fun M q => ⟨fun _ => trivial, fun _ => trivial⟩⟩, fun q => absurd e q⟩, Or.inl ⟨rfl, rfl⟩⟩
  | succ d ih =>
    intro k f1 f2 hk h1 h2
    obtain ⟨f1, rfl⟩ : ∃ f, f1 = f + 1 := ⟨f1 - 1, by omega⟩
    obtain ⟨f2, rfl⟩ : ∃ f, f2 = f + 1 := ⟨f2 - 1, by omega⟩
    have e : ¬ nI z ≤ nI k := nI_ge (by omega) (by omega)
    obtain ⟨i1, i2⟩ := ih (k + 1) f1 f2 (by omega) (by omega) (by omega)
    obtain ⟨j1, j2⟩ := ep_al0 G hz g d (k + 1) f2 (Or.inl (by omega)) (by omega)
    have v : vp_in (nI (74 + k)) 5880 := vp_in_nI (by omega) (by omega)
    rw [es_X12_alike_169, et_X12_alike_169, et_X4_sameAs_44, eq_c12, g, c, if_neg e, if_neg e, if_neg n1, if_neg n1, eq_m74, nI_clamp (show 74 + k < 2 ^ 31 by omega), nI_1, eq_atS (a := 83 + 1) _ (by omega) (by omega), eq_atS (a := 103 + 1) _ (by omega) (by omega), x k (by omega), y k (by omega)]
    dsimp only
    by_cases q : G.1 119 (74 + k) = G.1 128 (74 + k)
    · rw [if_pos q, if_pos q]
      exact ⟨⟨fun z => absurd z e, fun _ => ⟨fun z => absurd z n1, fun _ => ⟨v, v, fun _ => i1, fun z => absurd q z⟩⟩⟩, i2⟩
    · have s0 : et_X4_sameAs_44 83 103 f1 C 0 (nI (k + 1)) = 0 := by
        obtain ⟨f1, rfl⟩ : ∃ f, f1 = f + 1 := ⟨f1 - 1, by omega⟩
        rw [et_X4_sameAs_44, if_pos rfl, ite_self]
      rw [if_neg q, if_neg q]
      exact ⟨⟨fun z => absurd z e, fun _ => ⟨fun z => absurd z n1, fun _ => ⟨v, v, fun z => absurd z q, fun _ => j1⟩⟩⟩, Or.inr ⟨s0, j2⟩⟩
theorem ec_c4 (C : em_M) : (∀ k, k < 4 → (et_X4_copyFrom 103 83 C).1 103 k = C.1 83 k) ∧ (et_X4_copyFrom 103 83 C).2 103 5 = C.2 83 5 ∧ (∀ k, k < 40 → (et_X4_copyFrom 103 83 C).1 (103 + 1) k = C.1 (83 + 1) k) ∧ (∀ o, o < 103 ∨ 104 < o → (et_X4_copyFrom 103 83 C).1 o = C.1 o ∧ (et_X4_copyFrom 103 83 C).2 o = C.2 o) := by
  refine ⟨?_, ?_, ?_, ?_⟩
  · intro k hk
    have hh : k = 0 ∨ k = 1 ∨ k = 2 ∨ k = 3 := by omega
    rcases hh with rfl | rfl | rfl | rfl
    all_goals simp (disch := first | decide | omega) only [et_X4_copyFrom, ef_pI', ef_pIk, ef_pIs, eq_pL1, eq_pI2, ef_cpI]
  · simp (disch := first | decide | omega) only [et_X4_copyFrom, eq_pI2, ef_pLs, ef_cpI2]
  · intro k hk
    simp (disch := first | decide | omega) only [et_X4_copyFrom, ef_pI', eq_pL1, ef_crS]
  · intro o ho
    refine ⟨?_, ?_⟩
    · simp (disch := first | decide | omega) only [et_X4_copyFrom, ef_pI', eq_pL1, ef_cpI]
    · simp (disch := first | decide | omega) only [et_X4_copyFrom, eq_pI2, ef_pL', ef_cpI2]
theorem eq_ans1 (o : Nat) (C : em_M) : et_X4_answer o C 1 = if C.1 o 0 = 0 then (if et_X11_isNumber C (C.2 o 5) = 0 then (-9223372036854775808 : Int64) else C.2 o 5) else (-9223372036854775808 : Int64) := by
  rw [et_X4_answer, if_neg (show ¬ (1 : Int32) = 0 by decide), if_pos rfl]
theorem eq_told1 (G : em_M) : et_X12_toldOf G 1 = if G.1 119 7 = 0 then (if G.1 119 8 = 0 then (G.1 119 9).toInt64 else (-9223372036854775808 : Int64)) else (-9223372036854775808 : Int64) := by
  rw [et_X12_toldOf, if_neg (show ¬ (1 : Int32) = 0 by decide), if_pos rfl]
  rfl
def ep_alS (M9 : em_M) : Prop :=
  ((M9.1 119 7 = M9.1 128 7) → ((M9.1 119 12 = M9.1 128 12 → ((M9.1 119 7 = 0 → ((M9.1 119 8 = M9.1 128 8 → ((M9.1 119 8 = 1 → es_X12_alike_169 42 M9 1 0) ∧ (¬ M9.1 119 8 = 1 → ((M9.1 119 9 = M9.1 128 9 → es_X12_alike_169 42 M9 1 0) ∧ (¬ M9.1 119 9 = M9.1 128 9 → es_X12_alike_169 42 M9 0 0))))) ∧ (¬ M9.1 119 8 = M9.1 128 8 → es_X12_alike_169 42 M9 0 0))) ∧ (¬ M9.1 119 7 = 0 → es_X12_alike_169 42 M9 1 0))) ∧ (¬ M9.1 119 12 = M9.1 128 12 → ((M9.1 119 7 = 0 → es_X12_alike_169 42 M9 0 0) ∧ (¬ M9.1 119 7 = 0 → es_X12_alike_169 42 M9 0 0))))) ∧ (¬ M9.1 119 7 = M9.1 128 7 → ((M9.1 119 7 = 0 → es_X12_alike_169 42 M9 0 0) ∧ (¬ M9.1 119 7 = 0 → es_X12_alike_169 42 M9 0 0)))
def ep_alT (M9 : em_M) : Int32 × em_M :=
  (if M9.1 119 7 = M9.1 128 7 then (if M9.1 119 12 = M9.1 128 12 then (if M9.1 119 7 = 0 then (if M9.1 119 8 = M9.1 128 8 then (if M9.1 119 8 = 1 then et_X12_alike_169 42 M9 1 0 else (if M9.1 119 9 = M9.1 128 9 then et_X12_alike_169 42 M9 1 0 else et_X12_alike_169 42 M9 0 0)) else et_X12_alike_169 42 M9 0 0) else et_X12_alike_169 42 M9 1 0) else (if M9.1 119 7 = 0 then et_X12_alike_169 42 M9 0 0 else et_X12_alike_169 42 M9 0 0)) else (if M9.1 119 7 = 0 then et_X12_alike_169 42 M9 0 0 else et_X12_alike_169 42 M9 0 0))
theorem ep_al2 {C5 G5 G2 : em_M} {y z : Nat} (y1 : y ≤ 40) (y2' : C5.1 83 3 = nI y) (y3 : G5.1 119 12 = nI y) (y4 : ∀ k, k < y → C5.1 (83 + 1) k = G5.1 119 (74 + k)) (z1 : z ≤ 40) (x4 : ∀ k, k < z → C5.1 (103 + 1) k = G5.1 128 (74 + k)) (st5 : C5.1 83 0 = G5.1 119 7) (o0 : C5.1 103 0 = G2.1 119 7) (o3 : C5.1 103 3 = nI z) (a1 : et_X4_answer 83 C5 1 = et_X12_toldOf G5 1) (a2 : et_X4_answer 103 C5 1 = et_X12_toldOf G2 1) (m7 : G5.1 128 7 = G2.1 119 7) (m12 : G5.1 128 12 = nI z) (m8 : G5.1 128 8 = G2.1 119 8) (m9 : G5.1 128 9 = G2.1 119 9) (i5 : G5.1 119 7 = 0 → G5.1 119 8 = 0 ∨ G5.1 119 8 = 1) (i2 : G2.1 119 7 = 0 → G2.1 119 8 = 0 ∨ G2.1 119 8 = 1) : ep_alS G5 ∧ ((et_X4_sameAs 83 103 C5 = 1 ∧ ep_alT G5 = (1, et_X12_copies 120 5880 119 5880 G5)) ∨ (et_X4_sameAs 83 103 C5 = 0 ∧ ep_alT G5 = (0, et_X12_copies 120 5880 119 5880 G5))) := by
  have n1 : ¬ (1 : Int32) = 0 := by decide
  have q0 : (0 : Int32) = nI 0 := rfl
  have LL := ep_al0 G5 y1 y3 y 0 42 (Or.inl (by omega)) (by omega)
  rw [nI_0] at LL
  obtain ⟨L0, L0'⟩ := LL
  have s0 : ∀ f, et_X4_sameAs_44 83 103 (f + 1) C5 0 0 = 0 := fun f => by rw [et_X4_sameAs_44, if_pos rfl, ite_self]
  have lp : ∀ (same : Int32), (same = 1 ∧ y = z ∨ same = 0) → et_X4_sameAs 83 103 C5 = et_X4_sameAs_44 83 103 (y + 1) C5 same 0 → es_X12_alike_169 42 G5 same 0 ∧ ((et_X4_sameAs 83 103 C5 = 1 ∧ et_X12_alike_169 42 G5 same 0 = (1, et_X12_copies 120 5880 119 5880 G5)) ∨ (et_X4_sameAs 83 103 C5 = 0 ∧ et_X12_alike_169 42 G5 same 0 = (0, et_X12_copies 120 5880 119 5880 G5))) := by
    intro same hs hc
    rw [hc]
    rcases hs with ⟨rfl, yz⟩ | rfl
    · subst yz
      have e := ep_al1 y1 y2' y3 y4 x4 y 0 (y + 1) 42 (by omega) (by omega) (by omega)
      rw [nI_0] at e
      exact e
    · rw [s0]
      exact ⟨L0, Or.inr ⟨rfl, L0'⟩⟩
  have sA : et_X4_sameAs 83 103 C5 = if G5.1 119 7 = G2.1 119 7 then (if nI y = nI z then (if lg_cmp (et_X12_toldOf G5 1) (et_X12_toldOf G2 1) = 0 then et_X4_sameAs_44 83 103 (y + 1) C5 1 0 else et_X4_sameAs_44 83 103 (y + 1) C5 0 0) else et_X4_sameAs_44 83 103 (y + 1) C5 0 0) else et_X4_sameAs_44 83 103 (y + 1) C5 0 0 := by
    rw [et_X4_sameAs, st5, o0, y2', o3, a1, a2, nI_clamp (by omega)]
  have yz : (nI y = nI z) = (y = z) := propext (nI_eq (by omega) (by omega))
  have c12 : (G5.1 119 12 = G5.1 128 12) = (y = z) := by rw [y3, m12, yz]
  have PT : ep_alS G5 := by
    rw [ep_alS]
    refine ⟨fun _ => ⟨fun k => ?_, fun _ => ⟨fun _ => L0, fun _ => L0⟩⟩, fun _ => ⟨fun _ => L0, fun _ => L0⟩⟩
    rw [c12] at k
    subst k
    have e := ep_al1 y1 y2' y3 y4 x4 y 0 (y + 1) 42 (by omega) (by omega) (by omega)
    rw [nI_0] at e
    have e1 : es_X12_alike_169 42 G5 1 0 := e.1
    exact ⟨fun _ => ⟨fun _ => ⟨fun _ => e1, fun _ => ⟨fun _ => e1, fun _ => L0⟩⟩, fun _ => L0⟩, fun _ => e1⟩
  refine ⟨PT, ?_⟩
  rw [ep_alT]
  rw [m7, m8, m9]
  simp only [c12]
  rw [y3, m12] at c12
  by_cases q7 : G5.1 119 7 = G2.1 119 7
  · by_cases qz : y = z
    · by_cases k0 : G5.1 119 7 = 0
      · have k2 : G2.1 119 7 = 0 := q7 ▸ k0
        have w5 : et_X12_toldOf G5 1 = if G5.1 119 8 = 0 then (G5.1 119 9).toInt64 else (-9223372036854775808 : Int64) := by rw [eq_told1, if_pos k0]
        have w2 : et_X12_toldOf G2 1 = if G2.1 119 8 = 0 then (G2.1 119 9).toInt64 else (-9223372036854775808 : Int64) := by rw [eq_told1, if_pos k2]
        by_cases k8 : G5.1 119 8 = G2.1 119 8
        · by_cases k1 : G5.1 119 8 = 1
          · have n5 : ¬ G5.1 119 8 = 0 := by rw [k1]; decide
            have n2 : ¬ G2.1 119 8 = 0 := by rw [← k8]; exact n5
            have cmp : lg_cmp (et_X12_toldOf G5 1) (et_X12_toldOf G2 1) = 0 := by rw [w5, w2, if_neg n5, if_neg n2]; exact (lg_cmp_eq _ _).mpr rfl
            have hs : et_X4_sameAs 83 103 C5 = et_X4_sameAs_44 83 103 (y + 1) C5 1 0 := by rw [sA, if_pos q7, if_pos (by rw [yz]; exact qz), if_pos cmp]
            rw [if_pos q7, if_pos qz, if_pos k0, if_pos k8, if_pos k1]
            exact (lp 1 (Or.inl ⟨rfl, qz⟩) hs).2
          · have z5 : G5.1 119 8 = 0 := (i5 k0).resolve_right k1
            have z2' : G2.1 119 8 = 0 := by rw [← k8]; exact z5
            by_cases k9 : G5.1 119 9 = G2.1 119 9
            · have cmp : lg_cmp (et_X12_toldOf G5 1) (et_X12_toldOf G2 1) = 0 := by rw [w5, w2, if_pos z5, if_pos z2', k9]; exact (lg_cmp_eq _ _).mpr rfl
              have hs : et_X4_sameAs 83 103 C5 = et_X4_sameAs_44 83 103 (y + 1) C5 1 0 := by rw [sA, if_pos q7, if_pos (by rw [yz]; exact qz), if_pos cmp]
              rw [if_pos q7, if_pos qz, if_pos k0, if_pos k8, if_neg k1, if_pos k9]
              exact (lp 1 (Or.inl ⟨rfl, qz⟩) hs).2
            · have cmp : ¬ lg_cmp (et_X12_toldOf G5 1) (et_X12_toldOf G2 1) = 0 := by
                rw [w5, w2, if_pos z5, if_pos z2', lg_cmp_eq]
                intro k
                have := congrArg Int64.toInt k
                rw [Int32.toInt_toInt64, Int32.toInt_toInt64] at this
                exact k9 (Int32.toInt_inj.mp this)
              have hs : et_X4_sameAs 83 103 C5 = et_X4_sameAs_44 83 103 (y + 1) C5 0 0 := by rw [sA, if_pos q7, if_pos (by rw [yz]; exact qz), if_neg cmp]
              rw [if_pos q7, if_pos qz, if_pos k0, if_pos k8, if_neg k1, if_neg k9]
              exact (lp 0 (Or.inr rfl) hs).2
        · have cmp : ¬ lg_cmp (et_X12_toldOf G5 1) (et_X12_toldOf G2 1) = 0 := by
            rw [w5, w2, lg_cmp_eq]
            rcases i5 k0 with a5 | a5
            · rcases i2 k2 with b5 | b5
              · exact absurd (a5.trans b5.symm) k8
              · rw [if_pos a5, if_neg (by rw [b5]; decide)]; exact eq_min _
            · rcases i2 k2 with b5 | b5
              · rw [if_neg (by rw [a5]; decide), if_pos b5]; exact fun k => eq_min _ k.symm
              · exact absurd (a5.trans b5.symm) k8
          have hs : et_X4_sameAs 83 103 C5 = et_X4_sameAs_44 83 103 (y + 1) C5 0 0 := by rw [sA, if_pos q7, if_pos (by rw [yz]; exact qz), if_neg cmp]
          rw [if_pos q7, if_pos qz, if_pos k0, if_neg k8]
          exact (lp 0 (Or.inr rfl) hs).2
      · have k2 : ¬ G2.1 119 7 = 0 := q7 ▸ k0
        have cmp : lg_cmp (et_X12_toldOf G5 1) (et_X12_toldOf G2 1) = 0 := by rw [eq_told1, eq_told1, if_neg k0, if_neg k2]; exact (lg_cmp_eq _ _).mpr rfl
        have hs : et_X4_sameAs 83 103 C5 = et_X4_sameAs_44 83 103 (y + 1) C5 1 0 := by rw [sA, if_pos q7, if_pos (by rw [yz]; exact qz), if_pos cmp]
        rw [if_pos q7, if_pos qz, if_neg k0]
        exact (lp 1 (Or.inl ⟨rfl, qz⟩) hs).2
    · have hs : et_X4_sameAs 83 103 C5 = et_X4_sameAs_44 83 103 (y + 1) C5 0 0 := by rw [sA, if_pos q7, if_neg (by rw [yz]; exact qz)]
      rw [if_pos q7, if_neg qz, ite_self]
      exact (lp 0 (Or.inr rfl) hs).2
  · have hs : et_X4_sameAs 83 103 C5 = et_X4_sameAs_44 83 103 (y + 1) C5 0 0 := by rw [sA, if_neg q7]
    rw [if_neg q7, ite_self]
    exact (lp 0 (Or.inr rfl) hs).2
theorem ep_nuM (M M' : em_M) (t : Int64) : et_X11_isNumber M t = et_X11_isNumber M' t := rfl
theorem pm_alike {φ D : Nat → Nat × Nat} {u nl : Nat} {C G : em_M} (h : ep_I φ D u nl C G) (line second : Int32) : es_X12_alike G line second ∧ (et_X11_alike C line second).1 = (et_X12_alike G line second).1 ∧ ∃ φ' D' u' nl', ep_I φ' D' u' nl' (et_X11_alike C line second).2 (et_X12_alike G line second).2 := by
  have ll : et_X12_isLine G line = et_X2_has C line := eq_line h.ln line
  have l2 : et_X12_isLine G second = et_X2_has C second := eq_line h.ln second
  rw [es_X12_alike, et_X11_alike, et_X12_alike, ll, l2]
  by_cases p : et_X2_has C line = 0
  · rw [if_pos p, if_pos p]
    exact ⟨fun r e => ⟨fun _ => trivial, fun q => absurd (e.symm.trans p) q⟩, rfl, φ, D, u, nl, h⟩
  by_cases q : et_X2_has C second = 0
  · rw [if_neg p, if_neg p]
    dsimp only
    rw [if_pos q, if_pos q]
    exact ⟨fun r e => ⟨fun _ => trivial, fun _ r3 e3 => ⟨fun _ => trivial, fun z => absurd (e3.symm.trans q) z⟩⟩, rfl, φ, D, u, nl, h⟩
  rw [if_neg p, if_neg p]
  dsimp only
  rw [if_neg q, if_neg q]
  obtain ⟨a, ha, rfl⟩ := eq_lineN h.ln p
  obtain ⟨b, hb, rfl⟩ := eq_lineN h.ln q
  obtain ⟨t1, t2, t3, t4⟩ := ep_on1 h ha
  obtain ⟨-, an1⟩ := ep_ans t3 1
  obtain ⟨c1, c2, c3, c4⟩ := ec_c4 (et_X11_tryOut (et_X10_copyFrom 79 21 C) (nI a))
  generalize et_X11_tryOut (et_X10_copyFrom 79 21 C) (nI a) = C2 at t3 t4 an1 c1 c2 c3 c4 ⊢
  generalize hG1 : et_X12_copies 119 5880 120 5880 G = G1 at t1 t2 t3 t4 an1 ⊢
  generalize hG2 : et_X12_runs G1 (nI a) = G2 at t3 t4 an1 ⊢
  obtain ⟨d1, d2, d3, d4⟩ := em_copies (a := 119) (b := 128) (by omega) G2
  generalize hG3 : et_X12_copies 119 5880 128 5880 G2 = G3 at d1 d2 d3 d4 ⊢
  have lq3 : ep_Lq C G (et_X4_copyFrom 103 83 C2) G3 := ep_Lq.mk (fun o ho => by rw [(c4 o (by omega)).1]; exact t4.c1 o ho) (fun o ho => by rw [(c4 o (by omega)).2]; exact t4.c2 o ho) (by rw [(c4 _ (by omega)).1, (c4 _ (by omega)).1]; exact t4.z) (fun o h1 h2 h3 => by rw [d2 o h3]; exact t4.g1 o h1 h2 h3) (by rw [d3]; exact t4.g2) (fun k h1 h2 => by rw [d2 _ (by omega)]; exact t4.kr k h1 h2) (fun k hk => by rw [d2 _ (by omega)]; exact t4.g4 k hk)
  generalize et_X4_copyFrom 103 83 C2 = C3 at c1 c2 c3 c4 lq3 ⊢
  obtain ⟨e1, e2, e3, e4⟩ := em_copies (a := 120) (b := 119) (by omega) G3
  generalize hG4 : et_X12_copies 120 5880 119 5880 G3 = G4 at e1 e2 e3 e4 ⊢
  obtain ⟨lq4, g4⟩ := ep_back lq3 e2 e3 e4
  obtain ⟨x1, x2, x3, x4⟩ := ec_x10 C3
  generalize et_X10_copyFrom 79 21 C3 = C4 at x1 x2 x3 x4 ⊢
  have va : ∀ k, k < 4 → C4.1 80 k = G4.1 119 k := fun k hk => by
    rw [g4 _ (by omega)]
    refine (x1 k hk).trans ?_
    rw [lq3.c1 _ (by omega)]; exact h.wd.va k hk
  have fu : ∀ k, k < 3 → C4.1 81 k = G4.1 119 (4 + k) ∧ (G4.1 119 (4 + k) = -5 ∨ ∃ l, l < nl ∧ G4.1 119 (4 + k) = nI l) := fun k hk => by
    rw [g4 _ (by omega)]
    have y := h.wd.fu k hk
    refine ⟨(x2 k hk).trans ?_, y.2⟩
    rw [lq3.c1 _ (by omega)]; exact y.1
  obtain ⟨r1, r2, r3⟩ := ep_try h.ln lq4 (fun o ho => x3 o (by omega)) x4 (fun _ _ => rfl) rfl (fun _ _ _ => rfl) va fu hb
  have r4 := ep_try_kg h.ln lq4 (fun o ho => x3 o (by omega)) x4 (fun _ _ => rfl) rfl (fun _ _ _ => rfl) va fu hb 128 (by omega)
  obtain ⟨-, an2⟩ := ep_ans r2 1
  have k103 : ∀ o, 102 < o → (et_X11_tryOut C4 (nI b)).1 o = C3.1 o := fun o ho => by rw [ef1_X11_tryOut _ _ (by omega), x3 _ (by omega)]
  have k103L : (et_X11_tryOut C4 (nI b)).2 103 = C3.2 103 := by rw [ef2_X11_tryOut _ _ (by omega), x4]
  generalize et_X11_tryOut C4 (nI b) = C5 at r2 r3 an2 k103 k103L ⊢
  generalize hG5 : et_X12_runs G4 (nI b) = G5 at r2 r3 r4 an2 ⊢
  have m : ∀ k, k < 5880 → G5.1 128 k = G2.1 119 k := fun k hk => by rw [r4, e2 _ (by omega)]; exact d4 k hk
  obtain ⟨z, z1, z2, z3, z4⟩ := t3.sz
  obtain ⟨y, y1, y2, y3, y4⟩ := r2.sz
  have st2 : C2.1 83 0 = G2.1 119 7 := t3.st
  have st5 : C5.1 83 0 = G5.1 119 7 := r2.st
  have o0 : C5.1 103 0 = G2.1 119 7 := by rw [k103 _ (by omega), c1 0 (by omega)]; exact st2
  have o3 : C5.1 103 3 = nI z := by rw [k103 _ (by omega), c1 3 (by omega)]; exact z2
  have oL : C5.2 103 5 = C2.2 83 5 := by rw [k103L]; exact c2
  have y2' : C5.1 83 3 = nI y := y2
  have a1 : et_X4_answer 83 C5 1 = et_X12_toldOf G5 1 := an2
  have a2 : et_X4_answer 103 C5 1 = et_X12_toldOf G2 1 := by
    have k1 : et_X4_answer 83 C2 1 = et_X12_toldOf G2 1 := an1
    rw [← k1, eq_ans1, eq_ans1, o0, st2, oL, ep_nuM C5 C2]
  obtain ⟨f1, f2, f3, f4⟩ := em_copies (a := 120) (b := 119) (by omega) G5
  have I : ep_I φ D u nl C5 (et_X12_copies 120 5880 119 5880 G5) := by
    generalize et_X12_copies 120 5880 119 5880 G5 = G6 at f2 f3 f4 ⊢
    obtain ⟨k1, k2⟩ := ep_back r3 f2 f3 f4
    exact ep_I_try h k1 k2
  have n1 : ¬ (1 : Int32) = 0 := by decide
  -- the model's answer and the class's, by whether they are told alike ahead of OUT
  have fin : ∀ (P : Prop) (T : Int32 × em_M) (G6 : em_M), ep_I φ D u nl C5 G6 → (P ∧ ((et_X4_sameAs 83 103 C5 = 1 ∧ T = (1, G6)) ∨ (et_X4_sameAs 83 103 C5 = 0 ∧ T = (0, G6)))) → P ∧ (if et_X4_sameAs 83 103 C5 = 0 then ((0 : Int32), C5) else ((1 : Int32), C5)).1 = T.1 ∧ ∃ φ' D' u' nl', ep_I φ' D' u' nl' (if et_X4_sameAs 83 103 C5 = 0 then ((0 : Int32), C5) else ((1 : Int32), C5)).2 T.2 := by
    rintro P T G6 I' ⟨hP, ⟨s, rfl⟩ | ⟨s, rfl⟩⟩
    · rw [s, if_neg n1]; exact ⟨hP, rfl, φ, D, u, nl, I'⟩
    · rw [s, if_pos rfl]; exact ⟨hP, rfl, φ, D, u, nl, I'⟩
  have m7 : G5.1 128 7 = G2.1 119 7 := m 7 (by omega)
  have m12 : G5.1 128 12 = nI z := (m 12 (by omega)).trans z3
  have m8 : G5.1 128 8 = G2.1 119 8 := m 8 (by omega)
  have m9 : G5.1 128 9 = G2.1 119 9 := m 9 (by omega)
  have Q : ∀ (P : Prop), P → (∀ r1 : Int32, et_X2_has C (nI a) = r1 → ((r1 = 0 → True) ∧ (¬ r1 = 0 → ∀ r3 : Int32, et_X2_has C (nI b) = r3 → ((r3 = 0 → True) ∧ (¬ r3 = 0 → P))))) := fun P hP r e => ⟨fun _ => trivial, fun _ r3 e3 => ⟨fun _ => trivial, fun _ => hP⟩⟩
  have E : ∀ P : em_M → Prop, P G5 → (es_X12_copies 119 5880 120 5880 G ∧ (∀ M5 : em_M, G1 = M5 → (es_X12_runs M5 (nI a) ∧ (∀ M6 : em_M, et_X12_runs M5 (nI a) = M6 → (es_X12_copies 119 5880 128 5880 M6 ∧ (∀ M7 : em_M, et_X12_copies 119 5880 128 5880 M6 = M7 → (es_X12_copies 120 5880 119 5880 M7 ∧ (∀ M8 : em_M, et_X12_copies 120 5880 119 5880 M7 = M8 → (es_X12_runs M8 (nI b) ∧ (∀ M9 : em_M, et_X12_runs M8 (nI b) = M9 → P M9)))))))))) := by
    intro P hP
    refine ⟨t1, ?_⟩
    rintro _ rfl
    refine ⟨t2, ?_⟩
    intro M6 k6
    rw [hG2] at k6
    subst k6
    refine ⟨d1, ?_⟩
    intro M7 k7
    rw [hG3] at k7
    subst k7
    refine ⟨e1, ?_⟩
    intro M8 k8
    rw [hG4] at k8
    subst k8
    refine ⟨r1, ?_⟩
    intro M9 k9
    rw [hG5] at k9
    subst k9
    exact hP
  have i5 : G5.1 119 7 = 0 → G5.1 119 8 = 0 ∨ G5.1 119 8 = 1 := fun k => by
    rcases r2.re k with w | w
    · exact Or.inl w.1
    · exact Or.inr w.1
  have i2 : G2.1 119 7 = 0 → G2.1 119 8 = 0 ∨ G2.1 119 8 = 1 := fun k => by
    rcases t3.re k with w | w
    · exact Or.inl w.1
    · exact Or.inr w.1
  obtain ⟨PT, V⟩ := ep_al2 y1 y2' y3 y4 z1 (fun k hk => by rw [k103 _ (by omega), c3 k (by omega), m _ (by omega)]; exact z4 k hk) st5 o0 o3 a1 a2 m7 m12 m8 m9 i5 i2
  simp only [eq_c7, eq_c8, eq_c9, eq_c12]
  exact fin _ _ _ I ⟨Q _ (E ep_alS PT), V⟩
theorem pl_alike {M : em_M} (hI : ep_Inv M) (line : Int32) (other : Int32) {r1 : Int32} {M1 : em_M} (e1 : et_X11_alike M line other = (r1, M1)) : es_X12_alike M1 line other ∧ ∀ (r2 : Int32) (M2 : em_M), et_X12_alike M1 line other = (r2, M2) → r1 = r2 ∧ ep_Inv M2 :=
  ep_go hI (fun M => et_X11_alike M line other) (fun M => et_X12_alike M line other) (fun M => es_X12_alike M line other) (fun _ _ _ _ _ _ h => pm_alike h line other) (fun o h => ef1_X11_alike _ _ _ (by omega)) (fun o h => ef2_X11_alike _ _ _ (by omega)) (fun o h => ef1_X12_alike _ _ _ (by omega)) (fun o h => ef2_X12_alike _ _ _ (by omega)) e1
