/-! one E is read -/
def ep_xt (E : em_M → Int32 → Int32 × em_M) (deep : Int32) (M4 : em_M) (r1 e : Int32) : Int32 × em_M :=
    let r5 := et_X12_in M4 ((r1).toInt64) (48 : Int64) (57 : Int64)
  (if r5 = 0 then let r7 := et_X12_in M4 ((r1).toInt64) (97 : Int64) (100 : Int64)
  (if r7 = 0 then (if r1 = (91 : Int32) then (if deep = (7 : Int32) then let q83 := et_X12_stops M4
  let r81 := q83.1
  let M82 := q83.2
  (r81, M82) else let q80 := et_X12_list E M4 e deep
  let r78 := q80.1
  let M79 := q80.2
  (r78, M79)) else let r10 := et_X12_partsOf M4 r1
  (if r10 = 0 then let q14 := et_X12_stops M4
  let r12 := q14.1
  let M13 := q14.2
  (r12, M13) else (if deep = (7 : Int32) then let q76 := et_X12_stops M4
  let r74 := q76.1
  let M75 := q76.2
  (r74, M75) else let M16 := em_pI M4 118 12 ((M4.1 118 12) + (1 : Int32))
  let r17 := et_X12_hasName M16 r1
  (if r17 = 0 then let q21 := et_X12_is M16 (40 : Int32)
  let r19 := q21.1
  let M20 := q21.2
  (if r19 = 0 then let q58 := et_X12_stops M20
  let r56 := q58.1
  let M57 := q58.2
  (r56, M57) else et_X12_exprB_325 E deep ((r10).toNatClampNeg + 1) M20 e r10 (0 : Int32)) else let r59 := et_X12_byteAt M16 (M16.1 118 12)
  let r60 := et_X12_in M16 ((r59).toInt64) (97 : Int64) (100 : Int64)
  (if r60 = 0 then let q73 := et_X12_stops M16
  let r71 := q73.1
  let M72 := q73.2
  (r71, M72) else let M62 := em_pI M16 123 (e).toNatClampNeg (r59 - (97 : Int32))
  let M63 := em_pI M62 118 12 ((M62.1 118 12) + (1 : Int32))
  let q66 := et_X12_is M63 (40 : Int32)
  let r64 := q66.1
  let M65 := q66.2
  (if r64 = 0 then let q70 := et_X12_stops M65
  let r68 := q70.1
  let M69 := q70.2
  (r68, M69) else et_X12_exprB_325 E deep ((r10).toNatClampNeg + 1) M65 e r10 (0 : Int32))))))) else let M84 := em_pI M4 118 12 ((M4.1 118 12) + (1 : Int32))
  let M85 := em_pI M84 122 (e).toNatClampNeg (97 : Int32)
  let M86 := em_pI M85 123 (e).toNatClampNeg (r1 - (97 : Int32))
  (e, M86)) else et_X12_exprB_66_0 E deep M4 e (0 : Int32))
def ep_xs (E : em_M → Int32 → Int32 × em_M) (S : em_M → Int32 → Prop) (deep : Int32) (M4 : em_M) (r1 e : Int32) : Prop :=
    ∀ r5 : Int32, et_X12_in M4 ((r1).toInt64) (48 : Int64) (57 : Int64) = r5 → (
  ((r5 = 0) → (∀ r7 : Int32, et_X12_in M4 ((r1).toInt64) (97 : Int64) (100 : Int64) = r7 → (
  ((r7 = 0) → (((r1 = (91 : Int32)) → (((deep = (7 : Int32)) → (∀ (r81 : Int32) (M82 : em_M), et_X12_stops M4 = (r81, M82) → (
  True))) ∧
  (¬ (deep = (7 : Int32)) → (es_X12_list E S M4 e deep ∧ (∀ (r78 : Int32) (M79 : em_M), et_X12_list E M4 e deep = (r78, M79) → (
  True)))))) ∧
  (¬ (r1 = (91 : Int32)) → (∀ r10 : Int32, et_X12_partsOf M4 r1 = r10 → (
  ((r10 = 0) → (∀ (r12 : Int32) (M13 : em_M), et_X12_stops M4 = (r12, M13) → (
  True))) ∧
  (¬ (r10 = 0) → (((deep = (7 : Int32)) → (∀ (r74 : Int32) (M75 : em_M), et_X12_stops M4 = (r74, M75) → (
  True))) ∧
  (¬ (deep = (7 : Int32)) → (∀ M16 : em_M, em_pI M4 118 12 ((M4.1 118 12) + (1 : Int32)) = M16 → (
  ∀ r17 : Int32, et_X12_hasName M16 r1 = r17 → (
  ((r17 = 0) → (es_X12_is M16 (40 : Int32) ∧ (∀ (r19 : Int32) (M20 : em_M), et_X12_is M16 (40 : Int32) = (r19, M20) → (
  ((r19 = 0) → (∀ (r56 : Int32) (M57 : em_M), et_X12_stops M20 = (r56, M57) → (
  True))) ∧
  (¬ (r19 = 0) → (es_X12_exprB_325 E S deep ((r10).toNatClampNeg + 1) M20 e r10 (0 : Int32))))))) ∧
  (¬ (r17 = 0) → (es_X12_byteAt M16 (M16.1 118 12) ∧ (∀ r59 : Int32, et_X12_byteAt M16 (M16.1 118 12) = r59 → (
  ∀ r60 : Int32, et_X12_in M16 ((r59).toInt64) (97 : Int64) (100 : Int64) = r60 → (
  ((r60 = 0) → (∀ (r71 : Int32) (M72 : em_M), et_X12_stops M16 = (r71, M72) → (
  True))) ∧
  (¬ (r60 = 0) → (es_X12_byteAt M16 (M16.1 118 12) ∧ (vp_in e 808 ∧ (∀ M62 : em_M, em_pI M16 123 (e).toNatClampNeg (r59 - (97 : Int32)) = M62 → (
  ∀ M63 : em_M, em_pI M62 118 12 ((M62.1 118 12) + (1 : Int32)) = M63 → (
  es_X12_is M63 (40 : Int32) ∧ (∀ (r64 : Int32) (M65 : em_M), et_X12_is M63 (40 : Int32) = (r64, M65) → (
  ((r64 = 0) → (∀ (r68 : Int32) (M69 : em_M), et_X12_stops M65 = (r68, M69) → (
  True))) ∧
  (¬ (r64 = 0) → (es_X12_exprB_325 E S deep ((r10).toNatClampNeg + 1) M65 e r10 (0 : Int32))))))))))))))))))))))))))) ∧
  (¬ (r7 = 0) → (∀ M84 : em_M, em_pI M4 118 12 ((M4.1 118 12) + (1 : Int32)) = M84 → (
  vp_in e 808 ∧ (∀ M85 : em_M, em_pI M84 122 (e).toNatClampNeg (97 : Int32) = M85 → (
  vp_in e 808 ∧ (∀ M86 : em_M, em_pI M85 123 (e).toNatClampNeg (r1 - (97 : Int32)) = M86 → (
  True)))))))))) ∧
  (¬ (r5 = 0) → (es_X12_exprB_66_0 E S deep M4 e (0 : Int32))))
theorem ep_in1 (M M' : em_M) (s : Int32) : et_X12_in M s.toInt64 (48 : Int64) (57 : Int64) = et_X5_isDigit M' s := eq_in M s 48 57
theorem ep_in2 (M M' : em_M) (s : Int32) : et_X12_in M s.toInt64 (97 : Int64) (100 : Int64) = et_X5_isLetter M' s := eq_in M s 97 100
theorem ep_dM (M M' : em_M) (s : Int32) : et_X5_isDigit M s = et_X5_isDigit M' s := rfl
theorem ep_lM (M M' : em_M) (s : Int32) : et_X5_isLetter M s = et_X5_isLetter M' s := rfl
theorem ep_byG {K : Nat} {G G' : em_M} (g : ep_Pg K G G') (k : Int32) : et_X12_byteAt G' k = et_X12_byteAt G k := by
  rw [et_X12_byteAt, et_X12_byteAt, g.g3 11 (by omega), g.g1 127 (by omega)]
theorem ep_bsG {K : Nat} {G G' : em_M} (g : ep_Pg K G G') {k : Int32} (h : es_X12_byteAt G k) : es_X12_byteAt G' k := by
  rw [es_X12_byteAt] at h ⊢
  rw [g.g3 11 (by omega)]
  exact h
/-- a letter -/
theorem ep_let {c : Nat} (hc : c < 128) (M : em_M) : (et_X5_isLetter M (nI c) = 0) ∨ (et_X5_isLetter M (nI c) = 1 ∧ ∃ a, a < 4 ∧ c = 97 + a ∧ nI c - 97 = nI a) := by
  rw [et_X5_isLetter]
  by_cases h1 : c < 97
  · have l : nI c < (97 : Int32) := nI_lt (b := 97) h1 (by omega)
    rw [if_pos l]; exact Or.inl rfl
  · have l : ¬ nI c < (97 : Int32) := nI_nlt (b := 97) (by omega) (by omega)
    rw [if_neg l]
    by_cases h2 : 100 < c
    · have l2 : (100 : Int32) < nI c := nI_lt (a := 100) h2 (by omega)
      rw [if_pos l2]; exact Or.inl rfl
    · have l2 : ¬ (100 : Int32) < nI c := nI_nlt (a := 100) (by omega) (by omega)
      rw [if_neg l2]
      refine Or.inr ⟨rfl, c - 97, by omega, by omega, ?_⟩
      exact eq_sub (a := c) (b := 97) (by omega)
theorem ep_dgt {c : Nat} (M : em_M) : (et_X5_isDigit M (nI c) = 0) ∨ (et_X5_isDigit M (nI c) = 1) := by
  rw [et_X5_isDigit]
  by_cases h1 : nI c < (48 : Int32)
  · rw [if_pos h1]; exact Or.inl rfl
  · rw [if_neg h1]
    by_cases h2 : (57 : Int32) < nI c
    · rw [if_pos h2]; exact Or.inl rfl
    · rw [if_neg h2]; exact Or.inr rfl
/-- one node more is laid -/
theorem ep_lay {nl u0 n p u r : Nat} {C G : em_M} (z : ep_Pz nl u0 n p u r C G) (hu : u + 1 ≤ u0 + p) (kind mark : Int32) : ep_Pz nl u0 n p (u + 1) r (ep_ad C u kind mark) G := by
  refine ep_Pz_to z z.pn hu z.rb ?_ ?_ ?_ ?_ rfl z.p2 z.rd rfl rfl rfl
  · simp (disch := omega) only [ep_ad, ef_pI', ef_pIk]
  · simp (disch := omega) only [ep_ad, ef_pI', ef_pIk]; exact z.p1
  · simp (disch := omega) only [ep_ad, ef_pI']
  · simp (disch := omega) only [ep_ad, ef_pI', ef_pIs]
theorem ep_ad_rd (C : em_M) (u : Nat) (kind mark : Int32) : (ep_ad C u kind mark).1 2 u = kind ∧ (ep_ad C u kind mark).1 3 u = mark ∧ ∀ k, k < 3 → (ep_ad C u kind mark).1 4 (3 * u + k) = -1 := by
  refine ⟨?_, ?_, ?_⟩
  · simp (disch := omega) only [ep_ad, ef_pI', ef_pIs]
  · simp (disch := omega) only [ep_ad, ef_pI', ef_pIs]
  · intro k hk
    have hh : k = 0 ∨ k = 1 ∨ k = 2 := by omega
    rcases hh with rfl | rfl | rfl
    all_goals simp (disch := omega) only [ep_ad, ef_pI', ef_pIk, ef_pIs]
/-- the parts of an E whose head is read -/
theorem ep_body {d w : Nat} {EX EY : em_M → Int32 → Int32 × em_M} {SY : em_M → Int32 → Prop} (EE : ep_EE d (w + 1) EX EY SY) {nl u0 n p u r kd sg np : Nat} {C0 G0 C G : em_M} (K : ep_K kd sg np) (z : ep_Pz nl u0 n p u (r + 1) C G) (hu : u + 1 ≤ u0 + p) (mark : Int32) (hs : G.1 122 (101 * nl + r) = nI sg) (hn : G.1 124 (101 * nl + r) = nI 0) (hm : kd = 0 → mark = nI sg) (hf : kd = 4 → mark = nI (sg - 70)) (ha : ep_Kn kd → ∃ a, a < 4 ∧ mark = nI a ∧ G.1 123 (101 * nl + r) = nI a) (f : ep_Pc u C0 C) (g : ep_Pg (101 * nl + r) G0 G) : (es_X12_is G 40 ∧ ∀ (r19 : Int32) (M20 : em_M), et_X12_is G 40 = (r19, M20) → ((r19 = 0 → (∀ (r56 : Int32) (M57 : em_M), et_X12_stops M20 = (r56, M57) → True)) ∧ (¬ r19 = 0 → es_X12_exprB_325 EY SY (nI w) (np + 1) M20 (nI (101 * nl + r)) (nI np) 0))) ∧ ep_Po nl u0 n u (101 * nl + r) (d + 1) C0 G0 (et_X5_parts EX (ep_ad C u (nI kd) mark) (nI u) (nI np) (nI (w + 1))) (if (et_X12_is G 40).1 = 0 then ((et_X12_stops (et_X12_is G 40).2).1, (et_X12_stops (et_X12_is G 40).2).2) else et_X12_exprB_325 EY (nI w) (np + 1) (et_X12_is G 40).2 (nI (101 * nl + r)) (nI np) 0) := by
  obtain ⟨d1, d2, d3⟩ := ep_ad_rd C u (nI kd) mark
  have q : ep_Pl d kd sg u (101 * nl + r) 0 (fun _ => u + 1) (fun _ => 101 * nl + r + 1) (fun _ => 0) (fun _ => 0) (ep_ad C u (nI kd) mark) G := by
    refine ep_Pl.mk (ep_Ph.mk d1 hs ?_ ?_ ?_) rfl rfl (fun i hi => absurd hi (by omega)) (fun i _ hi => d3 i hi) hn
    · intro e; rw [d2]; exact hm e
    · intro e; rw [d2]; exact hf e
    · intro e; rw [d2]; exact ha e
  exact ep_pts0 EE K q (ep_lay z hu _ _) (by omega) (ep_Pc_ad f (Nat.le_refl _) _ _) g
/-- the model's row of an E is begun -/
def ep_B4 (nl u0 n p u r : Nat) (b : Int32) (C G G4 : em_M) : Prop :=
  (ep_Pz nl u0 n p u r C G) ∧
  (ep_Pg (101 * nl + r) G G4) ∧
  (et_X12_byteAt G (nI p) = b) ∧
  (G4.1 118 12 = nI p) ∧
  (G4.1 118 13 = -1) ∧
  (G4.1 118 14 = nI (r + 1)) ∧
  (G4.1 122 (101 * nl + r) = b) ∧
  (G4.1 124 (101 * nl + r) = nI 0)
theorem ep_B4.z {nl u0 n p u r : Nat} {b : Int32} {C G G4 : em_M} (h : ep_B4 nl u0 n p u r b C G G4) : ep_Pz nl u0 n p u r C G := h.1
theorem ep_B4.g {nl u0 n p u r : Nat} {b : Int32} {C G G4 : em_M} (h : ep_B4 nl u0 n p u r b C G G4) : ep_Pg (101 * nl + r) G G4 := h.2.1
theorem ep_B4.bb {nl u0 n p u r : Nat} {b : Int32} {C G G4 : em_M} (h : ep_B4 nl u0 n p u r b C G G4) : et_X12_byteAt G (nI p) = b := h.2.2.1
theorem ep_B4.pl {nl u0 n p u r : Nat} {b : Int32} {C G G4 : em_M} (h : ep_B4 nl u0 n p u r b C G G4) : G4.1 118 12 = nI p := h.2.2.2.1
theorem ep_B4.fa {nl u0 n p u r : Nat} {b : Int32} {C G G4 : em_M} (h : ep_B4 nl u0 n p u r b C G G4) : G4.1 118 13 = -1 := h.2.2.2.2.1
theorem ep_B4.rd {nl u0 n p u r : Nat} {b : Int32} {C G G4 : em_M} (h : ep_B4 nl u0 n p u r b C G G4) : G4.1 118 14 = nI (r + 1) := h.2.2.2.2.2.1
theorem ep_B4.s4 {nl u0 n p u r : Nat} {b : Int32} {C G G4 : em_M} (h : ep_B4 nl u0 n p u r b C G G4) : G4.1 122 (101 * nl + r) = b := h.2.2.2.2.2.2.1
theorem ep_B4.n4 {nl u0 n p u r : Nat} {b : Int32} {C G G4 : em_M} (h : ep_B4 nl u0 n p u r b C G G4) : G4.1 124 (101 * nl + r) = nI 0 := h.2.2.2.2.2.2.2
theorem ep_B4.mk {nl u0 n p u r : Nat} {b : Int32} {C G G4 : em_M} (z : ep_Pz nl u0 n p u r C G) (g : ep_Pg (101 * nl + r) G G4) (bb : et_X12_byteAt G (nI p) = b) (pl : G4.1 118 12 = nI p) (fa : G4.1 118 13 = -1) (rd : G4.1 118 14 = nI (r + 1)) (s4 : G4.1 122 (101 * nl + r) = b) (n4 : G4.1 124 (101 * nl + r) = nI 0) : ep_B4 nl u0 n p u r b C G G4 :=
  ⟨z, g, bb, pl, fa, rd, s4, n4⟩
/-- the first byte is passed -/
theorem ep_B4_on {nl u0 n p u r : Nat} {b : Int32} {C G G4 : em_M} (h : ep_B4 nl u0 n p u r b C G G4) (hp : p < n) : ep_Pz nl u0 n (p + 1) u (r + 1) (em_pI C 9 1 (nI (p + 1))) (em_pI G4 118 12 (nI (p + 1))) := by
  have z := h.z
  have ub := z.ub
  have rb := z.rb
  refine ep_Pz_to z (by omega) (by omega) (by omega) ?_ ?_ ?_ ?_ ?_ ?_ ?_ ?_ ?_ ?_
  · rw [ef_pIk _ _ (by omega)]
  · exact ef_pIs _ _ rfl
  · rw [ef_pI' _ _ _ _ (by omega)]
  · rw [ef_pI' _ _ _ _ (by omega)]; exact z.us
  · rw [ef_pIk _ _ (by omega)]; exact h.g.g3 11 (by omega)
  · exact ef_pIs _ _ rfl
  · rw [ef_pIk _ _ (by omega)]; exact h.rd
  · rw [ef_pIk _ _ (by omega), h.fa, z.fa]
  · rw [ef_pIk _ _ (by omega)]; exact h.g.g3 9 (by omega)
  · rw [ef_pI' _ _ _ _ (by omega)]; exact h.g.g1 127 (by omega)
/-- both stop ahead of the first byte -/
theorem ep_B4_no {nl u0 n p u r d : Nat} {b : Int32} {C G G4 : em_M} (h : ep_B4 nl u0 n p u r b C G G4) : ep_Po nl u0 n u (101 * nl + r) d C G (-1, C) (-1, em_pI G4 118 13 (G4.1 118 12)) :=
  Or.inl ⟨rfl, rfl, ⟨p, by have := h.z.pn; have := h.z.n1; omega, h.z.p1, (ef_pIs _ _ rfl).trans h.pl⟩, ep_Pc_rf _ _, ep_Pg_w h.g 118 13 _ (by omega)⟩
theorem ep_mno {EY : em_M → Int32 → Int32 × em_M} {SY : em_M → Int32 → Prop} {w m : Nat} {G4 : em_M} {s : Int32} (d0 : ∀ M, et_X5_isDigit M s = 0) (l0 : ∀ M, et_X5_isLetter M s = 0) (h : w = 7 ∨ (¬ s = 91 ∧ ∀ M, et_X12_partsOf M s = 0)) : ep_xs EY SY (nI w) G4 s (nI m) ∧ ep_xt EY (nI w) G4 s (nI m) = (-1, em_pI G4 118 13 (G4.1 118 12)) := by
  have t0 : ¬ ¬ (0 : Int32) = 0 := fun q => q rfl
  have w7 : w = 7 → nI w = (7 : Int32) := fun q => by rw [q]; rfl
  rw [ep_xs, ep_xt]
  dsimp only
  rw [ep_in1 G4 G4, d0, ep_in2 G4 G4, l0, if_pos rfl, if_pos rfl]
  refine ⟨?_, ?_⟩
  · rintro _ rfl
    refine ⟨fun _ => ?_, fun q => absurd q t0⟩
    rintro _ rfl
    refine ⟨fun _ => ⟨fun q => ⟨fun _ _ _ _ => trivial, fun e => ?_⟩, fun q => ?_⟩, fun q => absurd q t0⟩
    · rcases h with h | ⟨h, -⟩
      · exact absurd (w7 h) e
      · exact absurd q h
    · intro r10 e10
      refine ⟨fun _ _ _ _ => trivial, fun k => ⟨fun _ _ _ _ => trivial, fun e => ?_⟩⟩
      rcases h with h | ⟨-, h⟩
      · exact absurd (w7 h) e
      · rw [h] at e10; exact absurd e10.symm k
  · by_cases q : s = 91
    · rcases h with h | ⟨h, -⟩
      · rw [if_pos q, if_pos (w7 h), et_X12_stops]
      · exact absurd q h
    · rw [if_neg q]
      by_cases k : et_X12_partsOf G4 s = 0
      · rw [if_pos k, et_X12_stops]
      · rcases h with h | ⟨-, h⟩
        · rw [if_neg k, if_pos (w7 h), et_X12_stops]
        · exact absurd (h _) k
theorem ep_mlt {EY : em_M → Int32 → Int32 × em_M} {SY : em_M → Int32 → Prop} {w m p : Nat} {G4 : em_M} {s : Int32} (hm : m < 808) (d0 : ∀ M, et_X5_isDigit M s = 0) (l1 : ∀ M, et_X5_isLetter M s = 1) (p12 : G4.1 118 12 = nI p) : ep_xs EY SY (nI w) G4 s (nI m) ∧ ep_xt EY (nI w) G4 s (nI m) = (nI m, em_pI (em_pI (em_pI G4 118 12 (nI (p + 1))) 122 m 97) 123 m (s - 97)) := by
  have t0 : ¬ ¬ (0 : Int32) = 0 := fun q => q rfl
  have n1 : ¬ (1 : Int32) = 0 := by decide
  rw [ep_xs, ep_xt]
  dsimp only
  rw [ep_in1 G4 G4, d0, ep_in2 G4 G4, l1, if_pos rfl, if_neg n1, p12, nI_1, nI_clamp (show m < 2 ^ 31 by omega)]
  refine ⟨?_, rfl⟩
  rintro _ rfl
  refine ⟨fun _ => ?_, fun q => absurd q t0⟩
  rintro _ rfl
  exact ⟨fun q => absurd q n1, fun _ _ _ => ⟨vp_in_nI hm (by omega), fun _ _ => ⟨vp_in_nI hm (by omega), fun _ _ => trivial⟩⟩⟩
theorem ep_mls {EY : em_M → Int32 → Int32 × em_M} {SY : em_M → Int32 → Prop} {w m : Nat} {G4 : em_M} (w7 : w < 7) (hL : es_X12_list EY SY G4 (nI m) (nI w)) : ep_xs EY SY (nI w) G4 (nI 91) (nI m) ∧ ep_xt EY (nI w) G4 (nI 91) (nI m) = et_X12_list EY G4 (nI m) (nI w) := by
  have t0 : ¬ ¬ (0 : Int32) = 0 := fun q => q rfl
  have n7 : ¬ nI w = (7 : Int32) := by rw [show (7 : Int32) = nI 7 from rfl, nI_eq (by omega) (by omega)]; omega
  have e91 : nI 91 = (91 : Int32) := rfl
  have d0 : et_X5_isDigit G4 (nI 91) = 0 := by rw [et_X5_isDigit, if_neg (show ¬ nI 91 < (48 : Int32) by decide), if_pos (show (57 : Int32) < nI 91 by decide)]
  have l0 : et_X5_isLetter G4 (nI 91) = 0 := by rw [et_X5_isLetter, if_pos (show nI 91 < (97 : Int32) by decide)]
  rw [ep_xs, ep_xt]
  dsimp only
  rw [ep_in1 G4 G4, d0, ep_in2 G4 G4, l0, if_pos rfl, if_pos rfl, if_pos e91, if_neg n7]
  refine ⟨?_, rfl⟩
  rintro _ rfl
  refine ⟨fun _ => ?_, fun q => absurd q t0⟩
  rintro _ rfl
  exact ⟨fun _ => ⟨fun _ => ⟨fun q => absurd q n7, fun _ => ⟨hL, fun _ _ _ => trivial⟩⟩, fun q => absurd e91 q⟩, fun q => absurd q t0⟩
theorem ep_mpl {EY : em_M → Int32 → Int32 × em_M} {SY : em_M → Int32 → Prop} {w m p np : Nat} {G4 : em_M} {s : Int32} (w7 : w < 7) (np3 : 1 ≤ np ∧ np ≤ 3) (d0 : ∀ M, et_X5_isDigit M s = 0) (l0 : ∀ M, et_X5_isLetter M s = 0) (n91 : ¬ s = 91) (po : ∀ M, et_X12_partsOf M s = nI np) (hn : ∀ M, et_X12_hasName M s = 0) (p12 : G4.1 118 12 = nI p) (Q : es_X12_is (em_pI G4 118 12 (nI (p + 1))) 40 ∧ ∀ (r19 : Int32) (M20 : em_M), et_X12_is (em_pI G4 118 12 (nI (p + 1))) 40 = (r19, M20) → ((r19 = 0 → (∀ (r56 : Int32) (M57 : em_M), et_X12_stops M20 = (r56, M57) → True)) ∧ (¬ r19 = 0 → es_X12_exprB_325 EY SY (nI w) (np + 1) M20 (nI m) (nI np) 0))) : ep_xs EY SY (nI w) G4 s (nI m) ∧ ep_xt EY (nI w) G4 s (nI m) = (if (et_X12_is (em_pI G4 118 12 (nI (p + 1))) 40).1 = 0 then ((et_X12_stops (et_X12_is (em_pI G4 118 12 (nI (p + 1))) 40).2).1, (et_X12_stops (et_X12_is (em_pI G4 118 12 (nI (p + 1))) 40).2).2) else et_X12_exprB_325 EY (nI w) (np + 1) (et_X12_is (em_pI G4 118 12 (nI (p + 1))) 40).2 (nI m) (nI np) 0) := by
  have t0 : ¬ ¬ (0 : Int32) = 0 := fun q => q rfl
  have n7 : ¬ nI w = (7 : Int32) := by rw [show (7 : Int32) = nI 7 from rfl, nI_eq (by omega) (by omega)]; omega
  have p0 : ¬ nI np = 0 := nI_ne0 (by omega) (by omega)
  rw [ep_xs, ep_xt]
  dsimp only
  rw [ep_in1 G4 G4, d0, ep_in2 G4 G4, l0, if_pos rfl, if_pos rfl, if_neg n91, po, if_neg p0, if_neg n7, hn, if_pos rfl, p12, nI_1, nI_clamp (show np < 2 ^ 31 by omega)]
  refine ⟨?_, rfl⟩
  rintro _ rfl
  refine ⟨fun _ => ?_, fun q => absurd q t0⟩
  rintro _ rfl
  refine ⟨fun _ => ⟨fun q => absurd q n91, fun _ => ?_⟩, fun q => absurd q t0⟩
  rintro _ rfl
  refine ⟨fun q => absurd q p0, fun _ => ⟨fun q => absurd q n7, fun _ => ?_⟩⟩
  rintro _ rfl
  rw [hn]
  rintro _ rfl
  refine ⟨fun _ => ⟨Q.1, fun r19 M20 e => ⟨(Q.2 r19 M20 e).1, fun i => ?_⟩⟩, fun q => absurd q t0⟩
  rw [nI_clamp (show np < 2 ^ 31 by omega)]
  exact (Q.2 r19 M20 e).2 i
/-- a named E whose name is none -/
theorem ep_mnn {EY : em_M → Int32 → Int32 × em_M} {SY : em_M → Int32 → Prop} {w m p np : Nat} {G4 : em_M} {s b : Int32} (w7 : w < 7) (np3 : 1 ≤ np ∧ np ≤ 3) (d0 : ∀ M, et_X5_isDigit M s = 0) (l0 : ∀ M, et_X5_isLetter M s = 0) (n91 : ¬ s = 91) (po : ∀ M, et_X12_partsOf M s = nI np) (hn : ∀ M, et_X12_hasName M s = 1) (p12 : G4.1 118 12 = nI p) (sb : es_X12_byteAt (em_pI G4 118 12 (nI (p + 1))) (nI (p + 1))) (hb : et_X12_byteAt (em_pI G4 118 12 (nI (p + 1))) (nI (p + 1)) = b) (lb : ∀ M, et_X5_isLetter M b = 0) : ep_xs EY SY (nI w) G4 s (nI m) ∧ ep_xt EY (nI w) G4 s (nI m) = (-1, em_pI (em_pI G4 118 12 (nI (p + 1))) 118 13 ((em_pI G4 118 12 (nI (p + 1))).1 118 12)) := by
  have t0 : ¬ ¬ (0 : Int32) = 0 := fun q => q rfl
  have n1 : ¬ (1 : Int32) = 0 := by decide
  have n7 : ¬ nI w = (7 : Int32) := by rw [show (7 : Int32) = nI 7 from rfl, nI_eq (by omega) (by omega)]; omega
  have p0 : ¬ nI np = 0 := nI_ne0 (by omega) (by omega)
  have r12 : (em_pI G4 118 12 (nI (p + 1))).1 118 12 = nI (p + 1) := ef_pIs _ _ rfl
  rw [ep_xs, ep_xt]
  dsimp only
  rw [ep_in1 G4 G4, d0, ep_in2 G4 G4, l0, if_pos rfl, if_pos rfl, if_neg n91, po, if_neg p0, if_neg n7, hn, if_neg n1, p12, nI_1, r12, hb, ep_in2 _ G4, lb, if_pos rfl]
  refine ⟨?_, by rw [et_X12_stops, r12]⟩
  rintro _ rfl
  refine ⟨fun _ => ?_, fun q => absurd q t0⟩
  rintro _ rfl
  refine ⟨fun _ => ⟨fun q => absurd q n91, fun _ => ?_⟩, fun q => absurd q t0⟩
  rintro _ rfl
  refine ⟨fun q => absurd q p0, fun _ => ⟨fun q => absurd q n7, fun _ => ?_⟩⟩
  rintro _ rfl
  rw [hn]
  rintro _ rfl
  refine ⟨fun q => absurd q n1, fun _ => ?_⟩
  rw [r12]
  refine ⟨sb, ?_⟩
  rintro _ rfl
  rw [hb, ep_in2 _ G4, lb]
  rintro _ rfl
  exact ⟨fun _ _ _ _ => trivial, fun q => absurd q t0⟩
theorem ep_mnm {EY : em_M → Int32 → Int32 × em_M} {SY : em_M → Int32 → Prop} {w m p np a : Nat} {G4 : em_M} {s b : Int32} (hm : m < 808) (w7 : w < 7) (np3 : 1 ≤ np ∧ np ≤ 3) (d0 : ∀ M, et_X5_isDigit M s = 0) (l0 : ∀ M, et_X5_isLetter M s = 0) (n91 : ¬ s = 91) (po : ∀ M, et_X12_partsOf M s = nI np) (hn : ∀ M, et_X12_hasName M s = 1) (p12 : G4.1 118 12 = nI p) (sb : es_X12_byteAt (em_pI G4 118 12 (nI (p + 1))) (nI (p + 1))) (hb : et_X12_byteAt (em_pI G4 118 12 (nI (p + 1))) (nI (p + 1)) = b) (lb : ∀ M, et_X5_isLetter M b = 1) (ba : b - 97 = nI a) {G6 : em_M} (h6 : G6 = em_pI (em_pI (em_pI G4 118 12 (nI (p + 1))) 123 m (nI a)) 118 12 (nI (p + 1 + 1))) (Q : es_X12_is G6 40 ∧ ∀ (r19 : Int32) (M20 : em_M), et_X12_is G6 40 = (r19, M20) → ((r19 = 0 → (∀ (r56 : Int32) (M57 : em_M), et_X12_stops M20 = (r56, M57) → True)) ∧ (¬ r19 = 0 → es_X12_exprB_325 EY SY (nI w) (np + 1) M20 (nI m) (nI np) 0))) : ep_xs EY SY (nI w) G4 s (nI m) ∧ ep_xt EY (nI w) G4 s (nI m) = (if (et_X12_is G6 40).1 = 0 then ((et_X12_stops (et_X12_is G6 40).2).1, (et_X12_stops (et_X12_is G6 40).2).2) else et_X12_exprB_325 EY (nI w) (np + 1) (et_X12_is G6 40).2 (nI m) (nI np) 0) := by
  have t0 : ¬ ¬ (0 : Int32) = 0 := fun q => q rfl
  have n1 : ¬ (1 : Int32) = 0 := by decide
  have n7 : ¬ nI w = (7 : Int32) := by rw [show (7 : Int32) = nI 7 from rfl, nI_eq (by omega) (by omega)]; omega
  have p0 : ¬ nI np = 0 := nI_ne0 (by omega) (by omega)
  have r12 : (em_pI G4 118 12 (nI (p + 1))).1 118 12 = nI (p + 1) := ef_pIs _ _ rfl
  have r12' : (em_pI (em_pI G4 118 12 (nI (p + 1))) 123 m (nI a)).1 118 12 = nI (p + 1) := by rw [ef_pI' _ _ _ _ (by omega)]; exact r12
  rw [ep_xs, ep_xt]
  dsimp only
  rw [ep_in1 G4 G4, d0, ep_in2 G4 G4, l0, if_pos rfl, if_pos rfl, if_neg n91, po, if_neg p0, if_neg n7, hn, if_neg n1, p12, nI_1, r12, hb, ep_in2 _ G4, lb, if_neg n1, ba, nI_clamp (show m < 2 ^ 31 by omega), nI_clamp (show np < 2 ^ 31 by omega), r12', nI_1, ← h6]
  refine ⟨?_, rfl⟩
  rintro _ rfl
  refine ⟨fun _ => ?_, fun q => absurd q t0⟩
  rintro _ rfl
  refine ⟨fun _ => ⟨fun q => absurd q n91, fun _ => ?_⟩, fun q => absurd q t0⟩
  rintro _ rfl
  refine ⟨fun q => absurd q p0, fun _ => ⟨fun q => absurd q n7, fun _ => ?_⟩⟩
  rintro _ rfl
  rw [hn]
  rintro _ rfl
  refine ⟨fun q => absurd q n1, fun _ => ?_⟩
  rw [r12]
  refine ⟨sb, ?_⟩
  rintro _ rfl
  rw [hb, ep_in2 _ G4, lb]
  rintro _ rfl
  refine ⟨fun q => absurd q n1, fun _ => ⟨sb, vp_in_nI hm (by omega), ?_⟩⟩
  rw [ba]
  rintro _ rfl
  rw [r12', nI_1, ← h6]
  rintro _ rfl
  refine ⟨Q.1, fun r19 M20 e => ⟨(Q.2 r19 M20 e).1, fun i => ?_⟩⟩
  rw [nI_clamp (show np < 2 ^ 31 by omega)]
  exact (Q.2 r19 M20 e).2 i
theorem ep_cp0 {EX : em_M → Int32 → Int32 × em_M} {C : em_M} {u p c w : Nat} (hs : et_X5_sign C = nI c) (d0 : et_X5_isDigit C (nI c) = 0) (l0 : et_X5_isLetter C (nI c) = 0) (w7 : w < 7) (kb : et_X5_kindBy C (nI c) = nI 0) (p1 : C.1 9 1 = nI p) (us : C.1 1 1 = nI u) (u8 : u < 800) : et_X5_exprB EX C (nI w) = et_X5_parts EX (ep_ad (em_pI C 9 1 (nI (p + 1))) u (nI 0) (nI c)) (nI u) (nI 2) (nI (w + 1)) := by
  have ad := ec_add (C := em_pI C 9 1 (nI (p + 1))) (u := u) (nI 0) (nI c) (by rw [ef_pI' _ _ _ _ (by omega)]; exact us) u8
  have hm : ∀ M, et_X5_howMany M (nI 0) = nI 2 := fun _ => rfl
  have ng : ¬ (7 : Int32) ≤ nI w := nI_ge (b := 7) w7 (by omega)
  have ps : (0 : Int32) ≤ nI 0 := nI_pos' (by omega)
  rw [et_X5_exprB]
  dsimp only
  rw [hs, d0, if_pos rfl, l0, if_pos rfl, if_neg ng, kb, if_pos ps, p1, nI_1, if_neg (show ¬ nI 0 = (3 : Int32) by decide), if_neg (show ¬ nI 0 = (4 : Int32) by decide), if_neg (show ¬ nI 0 = (2 : Int32) by decide), if_neg (show ¬ nI 0 = (13 : Int32) by decide), if_neg (show ¬ nI 0 = (5 : Int32) by decide), if_neg (show ¬ nI 0 = (7 : Int32) by decide), ad]
  dsimp only
  rw [hm, nI_1]
theorem ep_cp1 {EX : em_M → Int32 → Int32 × em_M} {C : em_M} {u p c w : Nat} (hs : et_X5_sign C = nI c) (d0 : et_X5_isDigit C (nI c) = 0) (l0 : et_X5_isLetter C (nI c) = 0) (w7 : w < 7) (kb : et_X5_kindBy C (nI c) = nI 1) (p1 : C.1 9 1 = nI p) (us : C.1 1 1 = nI u) (u8 : u < 800) : et_X5_exprB EX C (nI w) = et_X5_parts EX (ep_ad (em_pI C 9 1 (nI (p + 1))) u (nI 1) (nI c)) (nI u) (nI 3) (nI (w + 1)) := by
  have ad := ec_add (C := em_pI C 9 1 (nI (p + 1))) (u := u) (nI 1) (nI c) (by rw [ef_pI' _ _ _ _ (by omega)]; exact us) u8
  have hm : ∀ M, et_X5_howMany M (nI 1) = nI 3 := fun _ => rfl
  have ng : ¬ (7 : Int32) ≤ nI w := nI_ge (b := 7) w7 (by omega)
  have ps : (0 : Int32) ≤ nI 1 := nI_pos' (by omega)
  rw [et_X5_exprB]
  dsimp only
  rw [hs, d0, if_pos rfl, l0, if_pos rfl, if_neg ng, kb, if_pos ps, p1, nI_1, if_neg (show ¬ nI 1 = (3 : Int32) by decide), if_neg (show ¬ nI 1 = (4 : Int32) by decide), if_neg (show ¬ nI 1 = (2 : Int32) by decide), if_neg (show ¬ nI 1 = (13 : Int32) by decide), if_neg (show ¬ nI 1 = (5 : Int32) by decide), if_neg (show ¬ nI 1 = (7 : Int32) by decide), ad]
  dsimp only
  rw [hm, nI_1]
theorem ep_cp6 {EX : em_M → Int32 → Int32 × em_M} {C : em_M} {u p c w : Nat} (hs : et_X5_sign C = nI c) (d0 : et_X5_isDigit C (nI c) = 0) (l0 : et_X5_isLetter C (nI c) = 0) (w7 : w < 7) (kb : et_X5_kindBy C (nI c) = nI 6) (p1 : C.1 9 1 = nI p) (us : C.1 1 1 = nI u) (u8 : u < 800) : et_X5_exprB EX C (nI w) = et_X5_parts EX (ep_ad (em_pI C 9 1 (nI (p + 1))) u (nI 6) (nI c)) (nI u) (nI 1) (nI (w + 1)) := by
  have ad := ec_add (C := em_pI C 9 1 (nI (p + 1))) (u := u) (nI 6) (nI c) (by rw [ef_pI' _ _ _ _ (by omega)]; exact us) u8
  have hm : ∀ M, et_X5_howMany M (nI 6) = nI 1 := fun _ => rfl
  have ng : ¬ (7 : Int32) ≤ nI w := nI_ge (b := 7) w7 (by omega)
  have ps : (0 : Int32) ≤ nI 6 := nI_pos' (by omega)
  rw [et_X5_exprB]
  dsimp only
  rw [hs, d0, if_pos rfl, l0, if_pos rfl, if_neg ng, kb, if_pos ps, p1, nI_1, if_neg (show ¬ nI 6 = (3 : Int32) by decide), if_neg (show ¬ nI 6 = (4 : Int32) by decide), if_neg (show ¬ nI 6 = (2 : Int32) by decide), if_neg (show ¬ nI 6 = (13 : Int32) by decide), if_neg (show ¬ nI 6 = (5 : Int32) by decide), if_neg (show ¬ nI 6 = (7 : Int32) by decide), ad]
  dsimp only
  rw [hm, nI_1]
theorem ep_cp8 {EX : em_M → Int32 → Int32 × em_M} {C : em_M} {u p c w : Nat} (hs : et_X5_sign C = nI c) (d0 : et_X5_isDigit C (nI c) = 0) (l0 : et_X5_isLetter C (nI c) = 0) (w7 : w < 7) (kb : et_X5_kindBy C (nI c) = nI 8) (p1 : C.1 9 1 = nI p) (us : C.1 1 1 = nI u) (u8 : u < 800) : et_X5_exprB EX C (nI w) = et_X5_parts EX (ep_ad (em_pI C 9 1 (nI (p + 1))) u (nI 8) (nI c)) (nI u) (nI 3) (nI (w + 1)) := by
  have ad := ec_add (C := em_pI C 9 1 (nI (p + 1))) (u := u) (nI 8) (nI c) (by rw [ef_pI' _ _ _ _ (by omega)]; exact us) u8
  have hm : ∀ M, et_X5_howMany M (nI 8) = nI 3 := fun _ => rfl
  have ng : ¬ (7 : Int32) ≤ nI w := nI_ge (b := 7) w7 (by omega)
  have ps : (0 : Int32) ≤ nI 8 := nI_pos' (by omega)
  rw [et_X5_exprB]
  dsimp only
  rw [hs, d0, if_pos rfl, l0, if_pos rfl, if_neg ng, kb, if_pos ps, p1, nI_1, if_neg (show ¬ nI 8 = (3 : Int32) by decide), if_neg (show ¬ nI 8 = (4 : Int32) by decide), if_neg (show ¬ nI 8 = (2 : Int32) by decide), if_neg (show ¬ nI 8 = (13 : Int32) by decide), if_neg (show ¬ nI 8 = (5 : Int32) by decide), if_neg (show ¬ nI 8 = (7 : Int32) by decide), ad]
  dsimp only
  rw [hm, nI_1]
theorem ep_cp4 {EX : em_M → Int32 → Int32 × em_M} {C : em_M} {u p c w : Nat} (hs : et_X5_sign C = nI c) (d0 : et_X5_isDigit C (nI c) = 0) (l0 : et_X5_isLetter C (nI c) = 0) (w7 : w < 7) (kb : et_X5_kindBy C (nI c) = nI 4) (p1 : C.1 9 1 = nI p) (us : C.1 1 1 = nI u) (u8 : u < 800) : et_X5_exprB EX C (nI w) = et_X5_parts EX (ep_ad (em_pI C 9 1 (nI (p + 1))) u (nI 4) (nI c - 70)) (nI u) (nI 1) (nI (w + 1)) := by
  have ad := ec_add (C := em_pI C 9 1 (nI (p + 1))) (u := u) (nI 4) (nI c - 70) (by rw [ef_pI' _ _ _ _ (by omega)]; exact us) u8
  have hm : ∀ M, et_X5_howMany M (nI 4) = nI 1 := fun _ => rfl
  have ng : ¬ (7 : Int32) ≤ nI w := nI_ge (b := 7) w7 (by omega)
  have ps : (0 : Int32) ≤ nI 4 := nI_pos' (by omega)
  rw [et_X5_exprB]
  dsimp only
  rw [hs, d0, if_pos rfl, l0, if_pos rfl, if_neg ng, kb, if_pos ps, p1, nI_1, if_neg (show ¬ nI 4 = (3 : Int32) by decide), if_pos (show nI 4 = (4 : Int32) from rfl), ad]
  dsimp only
  rw [hm, nI_1]
theorem ep_cp2 {EX : em_M → Int32 → Int32 × em_M} {C : em_M} {u p c w : Nat} (hs : et_X5_sign C = nI c) (d0 : et_X5_isDigit C (nI c) = 0) (l0 : et_X5_isLetter C (nI c) = 0) (w7 : w < 7) (kb : et_X5_kindBy C (nI c) = nI 2) (p1 : C.1 9 1 = nI p) (us : C.1 1 1 = nI u) (u8 : u < 800) {b : Int32} (hb : et_X5_sign (em_pI C 9 1 (nI (p + 1))) = b) : (et_X5_isLetter C b = 0 → et_X5_exprB EX C (nI w) = (-1, em_pI C 9 1 (nI (p + 1)))) ∧ (et_X5_isLetter C b = 1 → et_X5_exprB EX C (nI w) = et_X5_parts EX (ep_ad (em_pI (em_pI C 9 1 (nI (p + 1))) 9 1 (nI (p + 1 + 1))) u (nI 2) (b - 97)) (nI u) (nI 2) (nI (w + 1))) := by
  have ad := ec_add (C := em_pI (em_pI C 9 1 (nI (p + 1))) 9 1 (nI (p + 1 + 1))) (u := u) (nI 2) (b - 97) (by rw [ef_pI' _ _ _ _ (by omega), ef_pI' _ _ _ _ (by omega)]; exact us) u8
  have hm : ∀ M, et_X5_howMany M (nI 2) = nI 2 := fun _ => rfl
  have ng : ¬ (7 : Int32) ≤ nI w := nI_ge (b := 7) w7 (by omega)
  have ps : (0 : Int32) ≤ nI 2 := nI_pos' (by omega)
  have n1 : ¬ (1 : Int32) = 0 := by decide
  have r1 : (em_pI C 9 1 (nI (p + 1))).1 9 1 = nI (p + 1) := ef_pIs _ _ rfl
  rw [et_X5_exprB]
  dsimp only
  rw [hs, d0, if_pos rfl, l0, if_pos rfl, if_neg ng, kb, if_pos ps, p1, nI_1, if_neg (show ¬ nI 2 = (3 : Int32) by decide), if_neg (show ¬ nI 2 = (4 : Int32) by decide), if_pos (show nI 2 = (2 : Int32) from rfl), hb, ep_lM (em_pI C 9 1 (nI (p + 1))) C]
  refine ⟨fun l => ?_, fun l => ?_⟩
  · rw [l, if_pos rfl]
  · rw [l, if_neg n1, r1, nI_1, ad]
    dsimp only
    rw [hm, nI_1]
theorem ep_cp13 {EX : em_M → Int32 → Int32 × em_M} {C : em_M} {u p c w : Nat} (hs : et_X5_sign C = nI c) (d0 : et_X5_isDigit C (nI c) = 0) (l0 : et_X5_isLetter C (nI c) = 0) (w7 : w < 7) (kb : et_X5_kindBy C (nI c) = nI 13) (p1 : C.1 9 1 = nI p) (us : C.1 1 1 = nI u) (u8 : u < 800) {b : Int32} (hb : et_X5_sign (em_pI C 9 1 (nI (p + 1))) = b) : (et_X5_isLetter C b = 0 → et_X5_exprB EX C (nI w) = (-1, em_pI C 9 1 (nI (p + 1)))) ∧ (et_X5_isLetter C b = 1 → et_X5_exprB EX C (nI w) = et_X5_parts EX (ep_ad (em_pI (em_pI C 9 1 (nI (p + 1))) 9 1 (nI (p + 1 + 1))) u (nI 13) (b - 97)) (nI u) (nI 1) (nI (w + 1))) := by
  have ad := ec_add (C := em_pI (em_pI C 9 1 (nI (p + 1))) 9 1 (nI (p + 1 + 1))) (u := u) (nI 13) (b - 97) (by rw [ef_pI' _ _ _ _ (by omega), ef_pI' _ _ _ _ (by omega)]; exact us) u8
  have hm : ∀ M, et_X5_howMany M (nI 13) = nI 1 := fun _ => rfl
  have ng : ¬ (7 : Int32) ≤ nI w := nI_ge (b := 7) w7 (by omega)
  have ps : (0 : Int32) ≤ nI 13 := nI_pos' (by omega)
  have n1 : ¬ (1 : Int32) = 0 := by decide
  have r1 : (em_pI C 9 1 (nI (p + 1))).1 9 1 = nI (p + 1) := ef_pIs _ _ rfl
  rw [et_X5_exprB]
  dsimp only
  rw [hs, d0, if_pos rfl, l0, if_pos rfl, if_neg ng, kb, if_pos ps, p1, nI_1, if_neg (show ¬ nI 13 = (3 : Int32) by decide), if_neg (show ¬ nI 13 = (4 : Int32) by decide), if_neg (show ¬ nI 13 = (2 : Int32) by decide), if_pos (show nI 13 = (13 : Int32) from rfl), hb, ep_lM (em_pI C 9 1 (nI (p + 1))) C]
  refine ⟨fun l => ?_, fun l => ?_⟩
  · rw [l, if_pos rfl]
  · rw [l, if_neg n1, r1, nI_1, ad]
    dsimp only
    rw [hm, nI_1]
theorem ep_cp5 {EX : em_M → Int32 → Int32 × em_M} {C : em_M} {u p c w : Nat} (hs : et_X5_sign C = nI c) (d0 : et_X5_isDigit C (nI c) = 0) (l0 : et_X5_isLetter C (nI c) = 0) (w7 : w < 7) (kb : et_X5_kindBy C (nI c) = nI 5) (p1 : C.1 9 1 = nI p) (us : C.1 1 1 = nI u) (u8 : u < 800) {b : Int32} (hb : et_X5_sign (em_pI C 9 1 (nI (p + 1))) = b) : (et_X5_isLetter C b = 0 → et_X5_exprB EX C (nI w) = (-1, em_pI C 9 1 (nI (p + 1)))) ∧ (et_X5_isLetter C b = 1 → et_X5_exprB EX C (nI w) = et_X5_parts EX (ep_ad (em_pI (em_pI C 9 1 (nI (p + 1))) 9 1 (nI (p + 1 + 1))) u (nI 5) (b - 97)) (nI u) (nI 1) (nI (w + 1))) := by
  have ad := ec_add (C := em_pI (em_pI C 9 1 (nI (p + 1))) 9 1 (nI (p + 1 + 1))) (u := u) (nI 5) (b - 97) (by rw [ef_pI' _ _ _ _ (by omega), ef_pI' _ _ _ _ (by omega)]; exact us) u8
  have hm : ∀ M, et_X5_howMany M (nI 5) = nI 1 := fun _ => rfl
  have ng : ¬ (7 : Int32) ≤ nI w := nI_ge (b := 7) w7 (by omega)
  have ps : (0 : Int32) ≤ nI 5 := nI_pos' (by omega)
  have n1 : ¬ (1 : Int32) = 0 := by decide
  have r1 : (em_pI C 9 1 (nI (p + 1))).1 9 1 = nI (p + 1) := ef_pIs _ _ rfl
  rw [et_X5_exprB]
  dsimp only
  rw [hs, d0, if_pos rfl, l0, if_pos rfl, if_neg ng, kb, if_pos ps, p1, nI_1, if_neg (show ¬ nI 5 = (3 : Int32) by decide), if_neg (show ¬ nI 5 = (4 : Int32) by decide), if_neg (show ¬ nI 5 = (2 : Int32) by decide), if_neg (show ¬ nI 5 = (13 : Int32) by decide), if_pos (show nI 5 = (5 : Int32) from rfl), hb, ep_lM (em_pI C 9 1 (nI (p + 1))) C]
  refine ⟨fun l => ?_, fun l => ?_⟩
  · rw [l, if_pos rfl]
  · rw [l, if_neg n1, r1, nI_1, ad]
    dsimp only
    rw [hm, nI_1]
theorem ep_cp7 {EX : em_M → Int32 → Int32 × em_M} {C : em_M} {u p c w : Nat} (hs : et_X5_sign C = nI c) (d0 : et_X5_isDigit C (nI c) = 0) (l0 : et_X5_isLetter C (nI c) = 0) (w7 : w < 7) (kb : et_X5_kindBy C (nI c) = nI 7) (p1 : C.1 9 1 = nI p) (us : C.1 1 1 = nI u) (u8 : u < 800) {b : Int32} (hb : et_X5_sign (em_pI C 9 1 (nI (p + 1))) = b) : (et_X5_isLetter C b = 0 → et_X5_exprB EX C (nI w) = (-1, em_pI C 9 1 (nI (p + 1)))) ∧ (et_X5_isLetter C b = 1 → et_X5_exprB EX C (nI w) = et_X5_parts EX (ep_ad (em_pI (em_pI C 9 1 (nI (p + 1))) 9 1 (nI (p + 1 + 1))) u (nI 7) (b - 97)) (nI u) (nI 1) (nI (w + 1))) := by
  have ad := ec_add (C := em_pI (em_pI C 9 1 (nI (p + 1))) 9 1 (nI (p + 1 + 1))) (u := u) (nI 7) (b - 97) (by rw [ef_pI' _ _ _ _ (by omega), ef_pI' _ _ _ _ (by omega)]; exact us) u8
  have hm : ∀ M, et_X5_howMany M (nI 7) = nI 1 := fun _ => rfl
  have ng : ¬ (7 : Int32) ≤ nI w := nI_ge (b := 7) w7 (by omega)
  have ps : (0 : Int32) ≤ nI 7 := nI_pos' (by omega)
  have n1 : ¬ (1 : Int32) = 0 := by decide
  have r1 : (em_pI C 9 1 (nI (p + 1))).1 9 1 = nI (p + 1) := ef_pIs _ _ rfl
  rw [et_X5_exprB]
  dsimp only
  rw [hs, d0, if_pos rfl, l0, if_pos rfl, if_neg ng, kb, if_pos ps, p1, nI_1, if_neg (show ¬ nI 7 = (3 : Int32) by decide), if_neg (show ¬ nI 7 = (4 : Int32) by decide), if_neg (show ¬ nI 7 = (2 : Int32) by decide), if_neg (show ¬ nI 7 = (13 : Int32) by decide), if_neg (show ¬ nI 7 = (5 : Int32) by decide), if_pos (show nI 7 = (7 : Int32) from rfl), hb, ep_lM (em_pI C 9 1 (nI (p + 1))) C]
  refine ⟨fun l => ?_, fun l => ?_⟩
  · rw [l, if_pos rfl]
  · rw [l, if_neg n1, r1, nI_1, ad]
    dsimp only
    rw [hm, nI_1]
theorem ep_cpL {EX : em_M → Int32 → Int32 × em_M} {C : em_M} {p c w : Nat} (hs : et_X5_sign C = nI c) (d0 : et_X5_isDigit C (nI c) = 0) (l0 : et_X5_isLetter C (nI c) = 0) (w7 : w < 7) (kb : et_X5_kindBy C (nI c) = nI 3) (p1 : C.1 9 1 = nI p) : et_X5_exprB EX C (nI w) = et_X5_list EX (em_pI C 9 1 (nI (p + 1))) (nI (w + 1)) := by
  have ng : ¬ (7 : Int32) ≤ nI w := nI_ge (b := 7) w7 (by omega)
  have ps : (0 : Int32) ≤ nI 3 := nI_pos' (by omega)
  rw [et_X5_exprB]
  dsimp only
  rw [hs, d0, if_pos rfl, l0, if_pos rfl, if_neg ng, kb, if_pos ps, p1, nI_1, if_pos (show nI 3 = (3 : Int32) from rfl), nI_1]
theorem ep_cpno {EX : em_M → Int32 → Int32 × em_M} {C : em_M} {w : Nat} {s : Int32} (hs : et_X5_sign C = s) (d0 : et_X5_isDigit C s = 0) (l0 : et_X5_isLetter C s = 0) (h : w = 7 ∨ (w < 7 ∧ et_X5_kindBy C s = -1)) : et_X5_exprB EX C (nI w) = (-1, C) := by
  rw [et_X5_exprB]
  dsimp only
  rw [hs, d0, if_pos rfl, l0, if_pos rfl]
  rcases h with rfl | ⟨h, kb⟩
  · rw [if_pos (show (7 : Int32) ≤ nI 7 by decide)]
  · rw [if_neg (show ¬ (7 : Int32) ≤ nI w from nI_ge (b := 7) h (by omega)), kb, if_neg (show ¬ (0 : Int32) ≤ -1 by decide)]
theorem ep_cplt {EX : em_M → Int32 → Int32 × em_M} {C : em_M} {u p w : Nat} {s : Int32} (hs : et_X5_sign C = s) (d0 : et_X5_isDigit C s = 0) (l1 : et_X5_isLetter C s = 1) (p1 : C.1 9 1 = nI p) (us : C.1 1 1 = nI u) (u8 : u < 800) : et_X5_exprB EX C (nI w) = (nI u, ep_ad (em_pI C 9 1 (nI (p + 1))) u 12 (s - 97)) := by
  have ad := ec_add (C := em_pI C 9 1 (nI (p + 1))) (u := u) 12 (s - 97) (by rw [ef_pI' _ _ _ _ (by omega)]; exact us) u8
  have n1 : ¬ (1 : Int32) = 0 := by decide
  rw [et_X5_exprB]
  dsimp only
  rw [hs, d0, if_pos rfl, l1, if_neg n1, p1, nI_1, ad]
theorem ep_cpdg {EX : em_M → Int32 → Int32 × em_M} {C : em_M} {w : Nat} {s : Int32} (hs : et_X5_sign C = s) (d1 : et_X5_isDigit C s = 1) : et_X5_exprB EX C (nI w) = et_X5_digits C := by
  have n1 : ¬ (1 : Int32) = 0 := by decide
  rw [et_X5_exprB]
  dsimp only
  rw [hs, d1, if_neg n1]
theorem ep_mdg {EY : em_M → Int32 → Int32 × em_M} {SY : em_M → Int32 → Prop} {w m : Nat} {G4 : em_M} {s : Int32} (d1 : ∀ M, et_X5_isDigit M s = 1) (hS : es_X12_exprB_66_0 EY SY (nI w) G4 (nI m) 0) : ep_xs EY SY (nI w) G4 s (nI m) ∧ ep_xt EY (nI w) G4 s (nI m) = et_X12_exprB_66_0 EY (nI w) G4 (nI m) 0 := by
  have n1 : ¬ (1 : Int32) = 0 := by decide
  rw [ep_xs, ep_xt]
  dsimp only
  rw [ep_in1 G4 G4, d1, if_neg n1]
  refine ⟨?_, rfl⟩
  rintro _ rfl
  exact ⟨fun q => absurd q n1, fun _ => hS⟩
theorem ep_leaf {nl u0 n p u r d : Nat} {C0 G0 C G : em_M} (z : ep_Pz nl u0 n p u (r + 1) C G) (hu : u + 1 ≤ u0 + p) (u8 : u < 800) (f : ep_Pc u C0 C) (g : ep_Pg (101 * nl + r) G0 G) (n0 : G.1 124 (101 * nl + r) = nI 0) (v : Int32) : ep_Po nl u0 n u (101 * nl + r) (d + 1) C0 G0 (et_X2_add C 11 v) (nI (101 * nl + r), em_pI (em_pI G 122 (101 * nl + r) 48) 123 (101 * nl + r) v) := by
  rw [ec_add 11 v z.us u8]
  obtain ⟨d1, d2, d3⟩ := ep_ad_rd C u 11 v
  refine Or.inr ⟨p, u + 1, r + 1, 1, 0, rfl, rfl, ?_, Or.inl (ep_T1.mk d1 ?_ ?_ ?_ d3 ⟨rfl, rfl, rfl, rfl⟩), ep_Pc_ad f (Nat.le_refl _) _ _, ep_Pg_w (ep_Pg_w g 122 _ _ (by omega)) 123 _ _ (by omega)⟩
  · have z' := ep_lay z hu 11 v
    refine ep_Pz_to z' z'.pn z'.ub z'.rb rfl z'.p1 rfl z'.us ?_ ?_ ?_ ?_ ?_ ?_
    all_goals simp (disch := omega) only [ef_pI']
    · exact z.p2
    · exact z.rd
  · rw [ef_pI' _ _ _ _ (by omega)]; exact ef_pIs _ _ rfl
  · rw [ef_pI' _ _ _ _ (by omega), ef_pI' _ _ _ _ (by omega)]; exact n0
  · rw [d2]; exact (ef_pIs _ _ rfl).symm
/-- a digit, or none -/
theorem ep_dg1 {nl u0 n p u r : Nat} {C G : em_M} (z : ep_Pz nl u0 n p u r C G) : ∃ s, et_X5_sign C = s ∧ et_X12_byteAt G (nI p) = s ∧ es_X12_byteAt G (nI p) ∧ ((∀ M, et_X5_isDigit M s = 0) ∨ ((∀ M, et_X5_isDigit M s = 1) ∧ p < n)) := by
  obtain ⟨s1, s2⟩ := ep_sgn z
  rcases s2 with ⟨-, b, c⟩ | ⟨a, c, -, b, d⟩
  · exact ⟨-1, b, c, s1, Or.inl (fun _ => by rw [et_X5_isDigit, if_pos (by decide)])⟩
  · refine ⟨nI c, b, d, s1, ?_⟩
    rcases ep_dgt (c := c) C with e | e
    · exact Or.inl (fun M => e)
    · exact Or.inr ⟨fun M => e, a⟩
theorem ep_digs {d w : Nat} {EY : em_M → Int32 → Int32 × em_M} {SY : em_M → Int32 → Prop} {nl u0 n p u r : Nat} {b : Int32} {C G G4 : em_M} (h : ep_B4 nl u0 n p u r b C G G4) (hp : p < n) (d1 : ∀ M, et_X5_isDigit M b = 1) (u8 : u < 800) (m8 : 101 * nl + r < 808) : es_X12_exprB_66_0 EY SY (nI w) G4 (nI (101 * nl + r)) 0 ∧ ep_Po nl u0 n u (101 * nl + r) (d + 1) C G (et_X5_digits C) (et_X12_exprB_66_0 EY (nI w) G4 (nI (101 * nl + r)) 0) := by
  have n1 : ¬ (1 : Int32) = 0 := by decide
  have t0 : ¬ ¬ (0 : Int32) = 0 := fun q => q rfl
  have z := h.z
  have ub := z.ub
  have rb := z.rb
  have v8 : vp_in (nI (101 * nl + r)) 808 := vp_in_nI m8 (by omega)
  have b0 : et_X12_byteAt G4 (nI p) = b := (ep_byG h.g _).trans h.bb
  have s0 : es_X12_byteAt G4 (nI p) := ep_bsG h.g (ep_sgn z).1
  have sg0 : et_X5_sign C = b := (ep_sgE z).trans h.bb
  have z1 := ep_B4_on h hp
  have p1 := z.p1
  have f1 : ep_Pc u C (em_pI C 9 1 (nI (p + 1))) := ep_Pc_w (ep_Pc_rf _ _) 9 1 _ (by omega)
  have g1 : ep_Pg (101 * nl + r) G (em_pI G4 118 12 (nI (p + 1))) := ep_Pg_w h.g 118 12 _ (by omega)
  have k1 : (em_pI G4 118 12 (nI (p + 1))).1 124 (101 * nl + r) = nI 0 := by rw [ef_pI' _ _ _ _ (by omega)]; exact h.n4
  have cm : ∀ x : Int32, (10 : Int32) * x = x * 10 := fun x => Int32.mul_comm _ _
  rw [es_X12_exprB_66_0, et_X12_exprB_66_0, et_X5_digits]
  dsimp only
  rw [h.pl, b0, ep_in1 G4 G4, d1, if_neg n1, nI_1, sg0, d1, if_neg n1, p1, nI_1, cm]
  generalize em_pI C 9 1 (nI (p + 1)) = C1 at z1 f1 ⊢
  generalize em_pI G4 118 12 (nI (p + 1)) = G1 at z1 g1 k1 ⊢
  generalize hv : (0 : Int32) * 10 + b - 48 = v1
  -- the second
  obtain ⟨s, e1, e2, e3, e4⟩ := ep_dg1 z1
  have p1 := z1.p1
  have p2 := z1.p2
  have A : es_X12_exprB_66_1 EY SY (nI w) G1 (nI (101 * nl + r)) v1 ∧ ep_Po nl u0 n u (101 * nl + r) (d + 1) C G (if et_X5_isDigit C1 s = 0 then ((et_X2_add C1 11 v1).1, (et_X2_add C1 11 v1).2) else (if et_X5_isDigit (em_pI C1 9 1 (nI (p + 1 + 1))) (et_X5_sign (em_pI C1 9 1 (nI (p + 1 + 1)))) = 0 then ((et_X2_add (em_pI C1 9 1 (nI (p + 1 + 1))) 11 (v1 * 10 + s - 48)).1, (et_X2_add (em_pI C1 9 1 (nI (p + 1 + 1))) 11 (v1 * 10 + s - 48)).2) else ((et_X2_add (em_pI (em_pI C1 9 1 (nI (p + 1 + 1))) 9 1 ((em_pI C1 9 1 (nI (p + 1 + 1))).1 9 1 + 1)) 11 ((v1 * 10 + s - 48) * 10 + et_X5_sign (em_pI C1 9 1 (nI (p + 1 + 1))) - 48)).1, (et_X2_add (em_pI (em_pI C1 9 1 (nI (p + 1 + 1))) 9 1 ((em_pI C1 9 1 (nI (p + 1 + 1))).1 9 1 + 1)) 11 ((v1 * 10 + s - 48) * 10 + et_X5_sign (em_pI C1 9 1 (nI (p + 1 + 1))) - 48)).2))) (et_X12_exprB_66_1 EY (nI w) G1 (nI (101 * nl + r)) v1) := by
    rw [es_X12_exprB_66_1, et_X12_exprB_66_1]
    dsimp only
    rw [p2, e2, ep_in1 G1 C1]
    rcases e4 with e4 | ⟨e4, hp1⟩
    · rw [e4, if_pos rfl, if_pos rfl, nI_clamp (show 101 * nl + r < 2 ^ 31 by omega)]
      refine ⟨⟨e3, ?_⟩, ep_leaf z1 (by omega) u8 f1 g1 k1 v1⟩
      rintro _ rfl
      rw [ep_in1 G1 C1, e4]
      rintro _ rfl
      exact ⟨fun _ => ⟨v8, fun _ _ => ⟨v8, fun _ _ => trivial⟩⟩, fun q => absurd q t0⟩
    · have z2 := ep_adv z1 hp1
      have f2 : ep_Pc u C (em_pI C1 9 1 (nI (p + 1 + 1))) := ep_Pc_w f1 9 1 _ (by omega)
      have g2 : ep_Pg (101 * nl + r) G (em_pI G1 118 12 (nI (p + 1 + 1))) := ep_Pg_w g1 118 12 _ (by omega)
      have k2 : (em_pI G1 118 12 (nI (p + 1 + 1))).1 124 (101 * nl + r) = nI 0 := by rw [ef_pI' _ _ _ _ (by omega)]; exact k1
      rw [e4, if_neg n1, if_neg n1, nI_1, cm]
      generalize em_pI C1 9 1 (nI (p + 1 + 1)) = C2 at z2 f2 ⊢
      generalize em_pI G1 118 12 (nI (p + 1 + 1)) = G2 at z2 g2 k2 ⊢
      obtain ⟨s', i1, i2, i3, i4⟩ := ep_dg1 z2
      have q1 := z2.p1
      have q2 := z2.p2
      have B : ∀ v2 : Int32, es_X12_exprB_66_2 EY SY (nI w) G2 (nI (101 * nl + r)) v2 ∧ ep_Po nl u0 n u (101 * nl + r) (d + 1) C G (if et_X5_isDigit C2 s' = 0 then ((et_X2_add C2 11 v2).1, (et_X2_add C2 11 v2).2) else ((et_X2_add (em_pI C2 9 1 (nI (p + 1 + 1 + 1))) 11 (v2 * 10 + s' - 48)).1, (et_X2_add (em_pI C2 9 1 (nI (p + 1 + 1 + 1))) 11 (v2 * 10 + s' - 48)).2)) (et_X12_exprB_66_2 EY (nI w) G2 (nI (101 * nl + r)) v2) := by
        intro v2
        rw [es_X12_exprB_66_2, et_X12_exprB_66_2]
        dsimp only
        rw [q2, i2, ep_in1 G2 C2]
        rcases i4 with i4 | ⟨i4, hp2⟩
        · rw [i4, if_pos rfl, if_pos rfl, nI_clamp (show 101 * nl + r < 2 ^ 31 by omega)]
          refine ⟨⟨i3, ?_⟩, ep_leaf z2 (by omega) u8 f2 g2 k2 v2⟩
          rintro _ rfl
          rw [ep_in1 G2 C2, i4]
          rintro _ rfl
          exact ⟨fun _ => ⟨v8, fun _ _ => ⟨v8, fun _ _ => trivial⟩⟩, fun q => absurd q t0⟩
        · have z3 := ep_adv z2 hp2
          have f3 : ep_Pc u C (em_pI C2 9 1 (nI (p + 1 + 1 + 1))) := ep_Pc_w f2 9 1 _ (by omega)
          have g3 : ep_Pg (101 * nl + r) G (em_pI G2 118 12 (nI (p + 1 + 1 + 1))) := ep_Pg_w g2 118 12 _ (by omega)
          have k3 : (em_pI G2 118 12 (nI (p + 1 + 1 + 1))).1 124 (101 * nl + r) = nI 0 := by rw [ef_pI' _ _ _ _ (by omega)]; exact k2
          rw [i4, if_neg n1, if_neg n1, nI_1, cm]
          rw [et_X12_exprB_66_3]
          rw [nI_clamp (show 101 * nl + r < 2 ^ 31 by omega)]
          refine ⟨⟨i3, ?_⟩, ep_leaf z3 (by omega) u8 f3 g3 k3 _⟩
          rintro _ rfl
          rw [ep_in1 G2 C2, i4]
          rintro _ rfl
          refine ⟨fun q => absurd q n1, fun _ => ⟨i3, fun _ _ => ?_⟩⟩
          rw [es_X12_exprB_66_3]
          exact ⟨v8, fun _ _ => ⟨v8, fun _ _ => trivial⟩⟩
      have B2 := B (v1 * 10 + s - 48)
      rw [i1, q1, nI_1]
      refine ⟨⟨e3, ?_⟩, B2.2⟩
      rintro _ rfl
      rw [ep_in1 G1 C1, e4]
      rintro _ rfl
      refine ⟨fun q => absurd q n1, fun _ => ⟨e3, fun M hM => ?_⟩⟩
      rw [← hM]
      exact B2.1
  rw [e1, p1, nI_1]
  refine ⟨⟨s0, ?_⟩, A.2⟩
  rintro _ rfl
  rw [ep_in1 G4 G4, d1]
  rintro _ rfl
  refine ⟨fun q => absurd q n1, fun _ => ⟨s0, fun M hM => ?_⟩⟩
  rw [← hM, hv]
  exact A.1
