/-! THE IMAGE -/
theorem em_copies2 {a b : Nat} (hab : a ≠ b) : ∀ (d k fu : Nat) (M : em_M), k + d = 5880 → d < fu → es_X12_copies_2 a 5880 b 5880 fu M (nI k) ∧ (∀ o, o ≠ b → (et_X12_copies_2 a 5880 b 5880 fu M (nI k)).1 o = M.1 o) ∧ (et_X12_copies_2 a 5880 b 5880 fu M (nI k)).2 = M.2 ∧ ∀ i, (et_X12_copies_2 a 5880 b 5880 fu M (nI k)).1 b i = if k ≤ i ∧ i < 5880 then M.1 a i else M.1 b i := by
  intro d
  induction d with
  | zero =>
    intro k fu M hk hf
    obtain ⟨fu, rfl⟩ : ∃ f, fu = f + 1 := ⟨fu - 1, by omega⟩
    have e : (5880 : Int32) ≤ nI k := nI_le (a := 5880) (by omega) (by omega)
    rw [et_X12_copies_2, es_X12_copies_2, if_pos e]
    exact ⟨⟨fun _ => trivial, fun q => absurd e q⟩, fun _ _ => rfl, rfl, fun i => (if_neg (by omega)).symm⟩
  | succ d ih =>
    intro k fu M hk hf
    obtain ⟨fu, rfl⟩ : ∃ f, fu = f + 1 := ⟨fu - 1, by omega⟩
    have e : ¬ (5880 : Int32) ≤ nI k := nI_ge (b := 5880) (by omega) (by omega)
    rw [et_X12_copies_2, es_X12_copies_2, if_neg e, nI_clamp (by omega), nI_1]
    obtain ⟨i1, i2, i3, i4⟩ := ih (k + 1) fu (em_pI M b k (M.1 a k)) (by omega) (by omega)
    refine ⟨⟨fun q => absurd q e, fun _ => ⟨vp_in_nI (by omega) (by omega), vp_in_nI (by omega) (by omega), fun M2 q => q ▸ i1⟩⟩, fun o ho => ?_, i3, fun i => ?_⟩
    · rw [i2 o ho, ef_pI' _ _ _ _ ho]
    · rw [i4 i]
      by_cases p : k = i
      · subst p
        rw [if_neg (by omega), if_pos (by omega), ef_pIs _ _ rfl]
      · by_cases q : k + 1 ≤ i ∧ i < 5880
        · rw [if_pos q, if_pos (by omega), ef_pI' _ _ _ _ hab]
        · rw [if_neg q, if_neg (by omega), ef_pIk _ _ (by omega)]
theorem em_copies {a b : Nat} (hab : a ≠ b) (M : em_M) : es_X12_copies a 5880 b 5880 M ∧ (∀ o, o ≠ b → (et_X12_copies a 5880 b 5880 M).1 o = M.1 o) ∧ (et_X12_copies a 5880 b 5880 M).2 = M.2 ∧ ∀ i, i < 5880 → (et_X12_copies a 5880 b 5880 M).1 b i = M.1 a i := by
  obtain ⟨i1, i2, i3, i4⟩ := em_copies2 hab 5880 0 5881 M (by omega) (by omega)
  have z : (0 : Int32) = nI 0 := rfl
  rw [es_X12_copies, et_X12_copies, z]
  generalize et_X12_copies_2 a 5880 b 5880 5881 M (nI 0) = M' at i2 i3 i4 ⊢
  exact ⟨i1, i2, i3, fun i hi => (i4 i).trans (if_pos ⟨Nat.zero_le _, hi⟩)⟩
theorem ef_crS {a b n : Nat} (M : em_M) {k : Nat} (hk : k < n) (hn : n < 2 ^ 31) : (et_X11_copyRow a n b n M).1 b k = M.1 a k := by
  have e : (if Int32.ofNat n < Int32.ofNat n then Int32.ofNat n else Int32.ofNat n).toNatClampNeg = n := by
    rw [ite_self]; exact nI_clamp hn
  show (em_cI M a b ((0 : Int32)).toNatClampNeg ((0 : Int32)).toNatClampNeg (if Int32.ofNat n < Int32.ofNat n then Int32.ofNat n else Int32.ofNat n).toNatClampNeg).1 b k = M.1 a k
  rw [e]
  simp [em_cI, va_cpy, hk]
theorem ef_crL {a b n : Nat} (M : em_M) {k : Nat} (hk : k < n) (hn : n < 2 ^ 31) : (et_X11_copyRow_ a n b n M).2 b k = M.2 a k := by
  have e : (if Int32.ofNat n < Int32.ofNat n then Int32.ofNat n else Int32.ofNat n).toNatClampNeg = n := by
    rw [ite_self]; exact nI_clamp hn
  show (em_cL M a b ((0 : Int32)).toNatClampNeg ((0 : Int32)).toNatClampNeg (if Int32.ofNat n < Int32.ofNat n then Int32.ofNat n else Int32.ofNat n).toNatClampNeg).2 b k = M.2 a k
  rw [e]
  simp [em_cL, va_cpy, hk]
/-- world w' is what world w is -/
def ep_Cp (w : Nat) (C : em_M) (w' : Nat) (C' : em_M) : Prop :=
  (∀ k, k < 4 → C'.1 (w' + 1) k = C.1 (w + 1) k) ∧
  (∀ k, k < 3 → C'.1 (w' + 2) k = C.1 (w + 2) k) ∧
  (∀ k, 8 ≤ k → k ≤ 14 → k ≠ 12 → C'.1 (w' + 3) k = C.1 (w + 3) k) ∧
  (C'.2 (w' + 3) 12 = C.2 (w + 3) 12) ∧
  (∀ k, k < 4 → C'.1 (w' + 4) k = C.1 (w + 4) k) ∧
  (C'.2 (w' + 4) 5 = C.2 (w + 4) 5) ∧
  (∀ k, k < 40 → C'.1 (w' + 5) k = C.1 (w + 5) k) ∧
  (C'.1 (w' + 6) 0 = C.1 (w + 6) 0) ∧
  (∀ k, k < 1204 → C'.2 (w' + 7) k = C.2 (w + 7) k) ∧
  (C'.1 (w' + 8) 0 = C.1 (w + 8) 0) ∧
  (∀ j, 9 ≤ j → j ≤ 15 → ∀ k, k < 301 → C'.1 (w' + j) k = C.1 (w + j) k) ∧
  (∀ k, k < 301 → C'.2 (w' + 16) k = C.2 (w + 16) k) ∧
  (C'.1 (w' + 17) 0 = C.1 (w + 17) 0) ∧
  (∀ j, 18 ≤ j → j ≤ 23 → ∀ k, k < 301 → C'.1 (w' + j) k = C.1 (w + j) k)
theorem ep_Cp.c1 {w : Nat} {C : em_M} {w' : Nat} {C' : em_M} (h : ep_Cp w C w' C') : ∀ k, k < 4 → C'.1 (w' + 1) k = C.1 (w + 1) k := h.1
theorem ep_Cp.c2 {w : Nat} {C : em_M} {w' : Nat} {C' : em_M} (h : ep_Cp w C w' C') : ∀ k, k < 3 → C'.1 (w' + 2) k = C.1 (w + 2) k := h.2.1
theorem ep_Cp.c3 {w : Nat} {C : em_M} {w' : Nat} {C' : em_M} (h : ep_Cp w C w' C') : ∀ k, 8 ≤ k → k ≤ 14 → k ≠ 12 → C'.1 (w' + 3) k = C.1 (w + 3) k := h.2.2.1
theorem ep_Cp.c3l {w : Nat} {C : em_M} {w' : Nat} {C' : em_M} (h : ep_Cp w C w' C') : C'.2 (w' + 3) 12 = C.2 (w + 3) 12 := h.2.2.2.1
theorem ep_Cp.c4 {w : Nat} {C : em_M} {w' : Nat} {C' : em_M} (h : ep_Cp w C w' C') : ∀ k, k < 4 → C'.1 (w' + 4) k = C.1 (w + 4) k := h.2.2.2.2.1
theorem ep_Cp.c4l {w : Nat} {C : em_M} {w' : Nat} {C' : em_M} (h : ep_Cp w C w' C') : C'.2 (w' + 4) 5 = C.2 (w + 4) 5 := h.2.2.2.2.2.1
theorem ep_Cp.c5 {w : Nat} {C : em_M} {w' : Nat} {C' : em_M} (h : ep_Cp w C w' C') : ∀ k, k < 40 → C'.1 (w' + 5) k = C.1 (w + 5) k := h.2.2.2.2.2.2.1
theorem ep_Cp.c6 {w : Nat} {C : em_M} {w' : Nat} {C' : em_M} (h : ep_Cp w C w' C') : C'.1 (w' + 6) 0 = C.1 (w + 6) 0 := h.2.2.2.2.2.2.2.1
theorem ep_Cp.c7 {w : Nat} {C : em_M} {w' : Nat} {C' : em_M} (h : ep_Cp w C w' C') : ∀ k, k < 1204 → C'.2 (w' + 7) k = C.2 (w + 7) k := h.2.2.2.2.2.2.2.2.1
theorem ep_Cp.c8 {w : Nat} {C : em_M} {w' : Nat} {C' : em_M} (h : ep_Cp w C w' C') : C'.1 (w' + 8) 0 = C.1 (w + 8) 0 := h.2.2.2.2.2.2.2.2.2.1
theorem ep_Cp.c9 {w : Nat} {C : em_M} {w' : Nat} {C' : em_M} (h : ep_Cp w C w' C') : ∀ j, 9 ≤ j → j ≤ 15 → ∀ k, k < 301 → C'.1 (w' + j) k = C.1 (w + j) k := h.2.2.2.2.2.2.2.2.2.2.1
theorem ep_Cp.c16 {w : Nat} {C : em_M} {w' : Nat} {C' : em_M} (h : ep_Cp w C w' C') : ∀ k, k < 301 → C'.2 (w' + 16) k = C.2 (w + 16) k := h.2.2.2.2.2.2.2.2.2.2.2.1
theorem ep_Cp.c17 {w : Nat} {C : em_M} {w' : Nat} {C' : em_M} (h : ep_Cp w C w' C') : C'.1 (w' + 17) 0 = C.1 (w + 17) 0 := h.2.2.2.2.2.2.2.2.2.2.2.2.1
theorem ep_Cp.c18 {w : Nat} {C : em_M} {w' : Nat} {C' : em_M} (h : ep_Cp w C w' C') : ∀ j, 18 ≤ j → j ≤ 23 → ∀ k, k < 301 → C'.1 (w' + j) k = C.1 (w + j) k := h.2.2.2.2.2.2.2.2.2.2.2.2.2
theorem ep_Cp.mk {w : Nat} {C : em_M} {w' : Nat} {C' : em_M} (c1 : ∀ k, k < 4 → C'.1 (w' + 1) k = C.1 (w + 1) k) (c2 : ∀ k, k < 3 → C'.1 (w' + 2) k = C.1 (w + 2) k) (c3 : ∀ k, 8 ≤ k → k ≤ 14 → k ≠ 12 → C'.1 (w' + 3) k = C.1 (w + 3) k) (c3l : C'.2 (w' + 3) 12 = C.2 (w + 3) 12) (c4 : ∀ k, k < 4 → C'.1 (w' + 4) k = C.1 (w + 4) k) (c4l : C'.2 (w' + 4) 5 = C.2 (w + 4) 5) (c5 : ∀ k, k < 40 → C'.1 (w' + 5) k = C.1 (w + 5) k) (c6 : C'.1 (w' + 6) 0 = C.1 (w + 6) 0) (c7 : ∀ k, k < 1204 → C'.2 (w' + 7) k = C.2 (w + 7) k) (c8 : C'.1 (w' + 8) 0 = C.1 (w + 8) 0) (c9 : ∀ j, 9 ≤ j → j ≤ 15 → ∀ k, k < 301 → C'.1 (w' + j) k = C.1 (w + j) k) (c16 : ∀ k, k < 301 → C'.2 (w' + 16) k = C.2 (w + 16) k) (c17 : C'.1 (w' + 17) 0 = C.1 (w + 17) 0) (c18 : ∀ j, 18 ≤ j → j ≤ 23 → ∀ k, k < 301 → C'.1 (w' + j) k = C.1 (w + j) k) : ep_Cp w C w' C' :=
  ⟨c1, c2, c3, c3l, c4, c4l, c5, c6, c7, c8, c9, c16, c17, c18⟩
theorem ep_Cp_eq {w : Nat} {C C' : em_M} (h1 : ∀ o, w ≤ o → o ≤ w + 23 → C'.1 o = C.1 o) (h2 : ∀ o, w ≤ o → o ≤ w + 23 → C'.2 o = C.2 o) : ep_Cp w C w C' :=
  ep_Cp.mk (fun k _ => by rw [h1 _ (by omega) (by omega)]) (fun k _ => by rw [h1 _ (by omega) (by omega)]) (fun k _ _ _ => by rw [h1 _ (by omega) (by omega)]) (by rw [h2 _ (by omega) (by omega)]) (fun k _ => by rw [h1 _ (by omega) (by omega)]) (by rw [h2 _ (by omega) (by omega)]) (fun k _ => by rw [h1 _ (by omega) (by omega)]) (by rw [h1 _ (by omega) (by omega)]) (fun k _ => by rw [h2 _ (by omega) (by omega)]) (by rw [h1 _ (by omega) (by omega)]) (fun j _ _ k _ => by rw [h1 _ (by omega) (by omega)]) (fun k _ => by rw [h2 _ (by omega) (by omega)]) (by rw [h1 _ (by omega) (by omega)]) (fun j _ _ k _ => by rw [h1 _ (by omega) (by omega)])
theorem ep_Wd_to {φ : Nat → Nat × Nat} {u nl w g w' g' : Nat} {C C' G G' : em_M} (h : ep_Wd φ u nl w g C G) (k2 : C'.1 2 = C.1 2) (p4 : C'.1 4 = C.1 4) (c : ep_Cp w C w' C') (b : ∀ k, k < 25 ∨ 73 < k → k < 5880 → G'.1 g' k = G.1 g k) : ep_Wd φ u nl w' g' C' G' := by
  obtain ⟨z, z1, z2, z3, z4⟩ := h.sz
  refine ep_Wd.mk ?_ ?_ ?_ ?_ ?_ ?_ ?_ ?_ ?_
  · intro k hk; rw [c.c1 k hk, b _ (by omega) (by omega)]; exact h.va k hk
  · intro k hk; rw [c.c2 k hk, b _ (by omega) (by omega)]; exact h.fu k hk
  · rw [c.c4 _ (by omega), b _ (by omega) (by omega)]; exact h.st
  · rw [c.c4 _ (by omega), b _ (by omega) (by omega)]; exact h.sp
  · rw [c.c4 _ (by omega), b _ (by omega) (by omega)]; exact h.dp
  · rw [c.c4 _ (by omega), b _ (by omega) (by omega)]
    refine ⟨z, z1, z2, z3, fun k hk => ?_⟩
    rw [c.c5 _ (by omega), b _ (by omega) (by omega)]; exact z4 k hk
  · rw [c.c4l, b _ (by omega) (by omega), b _ (by omega) (by omega), b _ (by omega) (by omega)]; exact h.re
  · rw [c.c3 _ (by omega) (by omega) (by omega), c.c9 10 (by omega) (by omega) _ (by omega), c.c18 19 (by omega) (by omega) _ (by omega)]; exact h.gb
  · rw [b _ (by omega) (by omega), c.c4 _ (by omega)]
    intro q
    obtain ⟨H, s, ch, wi, e, r⟩ := h.ru q
    refine ⟨H, s, ch, wi, e, ?_⟩
    have s3 := r.s3
    have nf := r.nf
    have ns := r.ns
    have nw := r.nw
    have ne := r.ne
    have t : ep_Tb φ u H w' g' C' G' := ep_Tb_ag r.tb (ep_Ag.mk k2 p4 (c.c9 10 (by omega) (by omega) _ (by omega)) (fun j j1 j2 k _ _ => c.c9 j j1 j2 k (by omega)) (fun k _ _ => c.c16 k (by omega)) (fun k _ => c.c7 k (by omega)) (c.c18 19 (by omega) (by omega) _ (by omega)) (fun j j1 j2 k _ _ => c.c18 j j1 (by omega) k (by omega)) (fun j j1 j2 k _ => c.c18 j (by omega) j2 k (by omega)) (fun k _ _ => b k (by omega) (by omega)) (fun k _ _ => b k (by omega) (by omega)) (fun k _ _ => b k (by omega) (by omega)) (fun k _ _ => b k (by omega) (by omega)))
    refine ep_Rn.mk r.s3 r.nf r.ns r.nw r.ne ?_ ?_ ?_ ?_ ?_ ?_ ?_ ?_ r.ch0 ?_ ?_ r.wi0 ?_ ?_ r.cw ?_ t.fh0 t.fb t.fh t.fw t.fk t.sc0 t.sc t.wh0 t.wb t.we t.es
    · rw [c.c8]; exact r.nf1
    · rw [b _ (by omega) (by omega)]; exact r.nf2
    · rw [c.c6]; exact r.ns1
    · rw [b _ (by omega) (by omega)]; exact r.ns2
    · rw [c.c17]; exact r.nw1
    · rw [b _ (by omega) (by omega)]; exact r.nw2
    · rw [c.c3 _ (by omega) (by omega) (by omega)]; exact r.ne1
    · rw [b _ (by omega) (by omega)]; exact r.ne2
    · rw [c.c3 _ (by omega) (by omega) (by omega)]; exact r.ch1
    · rw [b _ (by omega) (by omega)]; exact r.ch2
    · rw [c.c3 _ (by omega) (by omega) (by omega)]; exact r.wi1
    · rw [b _ (by omega) (by omega)]; exact r.wi2
    · rw [c.c3 9 (by omega) (by omega) (by omega), c.c3 10 (by omega) (by omega) (by omega), c.c3 11 (by omega) (by omega) (by omega), c.c3l, b 13 (by omega) (by omega), b 14 (by omega) (by omega), b 15 (by omega) (by omega), b 16 (by omega) (by omega), b 19 (by omega) (by omega), b 20 (by omega) (by omega)]; exact r.gi
theorem ep_Rw_to {V : Int32 → Int32 → Prop} {r r' m g g' many base : Nat} {C C' G G' : em_M} (h : ep_Rw V r m g many base C G) (hm : m ≤ 10) (a0 : C'.1 r' 0 = C.1 r 0) (a1 : ∀ k, k < 10 → C'.1 (r' + 1) k = C.1 (r + 1) k) (a2 : ∀ k, k < 10 → C'.1 (r' + 2) k = C.1 (r + 2) k) (b1 : G'.1 g' many = G.1 g many) (b2 : ∀ k, base ≤ k → k < base + 2 * m → G'.1 g' k = G.1 g k) : ep_Rw V r' m g' many base C' G' := by
  obtain ⟨n, h1, h2, h3, h4⟩ := h
  refine ⟨n, h1, by rw [a0]; exact h2, by rw [b1]; exact h3, fun k hk => ?_⟩
  rw [a1 _ (by omega), a2 _ (by omega), b2 _ (by omega) (by omega), b2 _ (by omega) (by omega)]; exact h4 k hk
theorem ec_copy {w v : Nat} (hd : w + 23 < v ∨ v + 23 < w) (C : em_M) : ep_Cp v C w (et_X3_copyFrom w v (et_X10_copyFrom w v C)) := by
  refine ep_Cp.mk ?_ ?_ ?_ ?_ ?_ ?_ ?_ ?_ ?_ ?_ ?_ ?_ ?_ ?_
  case refine_3 =>
    intro k k1 k2 k3
    have : k = 8 ∨ k = 9 ∨ k = 10 ∨ k = 11 ∨ k = 13 ∨ k = 14 := by omega
    rcases this with rfl | rfl | rfl | rfl | rfl | rfl
    all_goals simp (disch := omega) only [et_X3_copyFrom, et_X10_copyFrom, et_X4_copyFrom, et_X7_copyFrom, et_X0_copyFrom, et_X9_copyFrom, ef_pI', ef_pIk, ef_pIs, eq_pL1, eq_pI2, ef_cpI, ef_cpI2, ef_cpL1]
  case refine_5 =>
    intro k k1
    have : k = 0 ∨ k = 1 ∨ k = 2 ∨ k = 3 := by omega
    rcases this with rfl | rfl | rfl | rfl
    all_goals simp (disch := omega) only [et_X3_copyFrom, et_X10_copyFrom, et_X4_copyFrom, et_X7_copyFrom, et_X0_copyFrom, et_X9_copyFrom, ef_pI', ef_pIk, ef_pIs, eq_pL1, eq_pI2, ef_cpI, ef_cpI2, ef_cpL1]
  case refine_11 =>
    intro j j1 j2 k hk
    have : j = 9 ∨ j = 10 ∨ j = 11 ∨ j = 12 ∨ j = 13 ∨ j = 14 ∨ j = 15 := by omega
    rcases this with rfl | rfl | rfl | rfl | rfl | rfl | rfl
    all_goals simp (disch := omega) only [et_X3_copyFrom, et_X10_copyFrom, et_X4_copyFrom, et_X7_copyFrom, et_X0_copyFrom, et_X9_copyFrom, ef_pI', ef_pIk, ef_pIs, eq_pL1, eq_pI2, ef_cpI, ef_cpI2, ef_cpL1, ef_crS]
  case refine_14 =>
    intro j j1 j2 k hk
    have : j = 18 ∨ j = 19 ∨ j = 20 ∨ j = 21 ∨ j = 22 ∨ j = 23 := by omega
    rcases this with rfl | rfl | rfl | rfl | rfl | rfl
    all_goals simp (disch := omega) only [et_X3_copyFrom, et_X10_copyFrom, et_X4_copyFrom, et_X7_copyFrom, et_X0_copyFrom, et_X9_copyFrom, ef_pI', ef_pIk, ef_pIs, eq_pL1, eq_pI2, ef_cpI, ef_cpI2, ef_cpL1, ef_crS]
  all_goals (intros; simp (disch := omega) only [et_X3_copyFrom, et_X10_copyFrom, et_X4_copyFrom, et_X7_copyFrom, et_X0_copyFrom, et_X9_copyFrom, ef_pI', ef_pIk, ef_pIs, eq_pL1, eq_pI2, ef_pL', ef_pLk, ef_pLs, ef_cpI, ef_cpI2, ef_cpL, ef_cpL1, ef_crS, ef_crL])
theorem ec_row {r q : Nat} (hd : r + 2 < q ∨ q + 2 < r) (C : em_M) : (et_X6_copyFrom r q C).1 r 0 = C.1 q 0 ∧ (∀ k, k < 10 → (et_X6_copyFrom r q C).1 (r + 1) k = C.1 (q + 1) k) ∧ (∀ k, k < 10 → (et_X6_copyFrom r q C).1 (r + 2) k = C.1 (q + 2) k) ∧ (∀ o, o < r ∨ r + 2 < o → (et_X6_copyFrom r q C).1 o = C.1 o) ∧ (et_X6_copyFrom r q C).2 = C.2 ∧ (et_X6_copyFrom r q C).1 r 3 = C.1 r 3 := by
  refine ⟨?_, ?_, ?_, ?_, ?_, ?_⟩
  all_goals (intros; simp (disch := omega) only [et_X6_copyFrom, ef_pI', ef_pIk, ef_pIs, eq_pI2, ef_cpI, ef_cpI2, ef_crS])
def ep_cx (k j : Nat) (C C' : em_M) : Prop :=
  (ep_Cp (j + 10) C (k + 10) C') ∧
  (C'.1 (k + 1) 0 = C.1 (j + 1) 0) ∧
  (C'.1 (k + 4) 0 = C.1 (j + 4) 0) ∧
  (C'.1 (k + 7) 0 = C.1 (j + 7) 0) ∧
  (∀ i, i < 10 → C'.1 (k + 2) i = C.1 (j + 2) i) ∧
  (∀ i, i < 10 → C'.1 (k + 5) i = C.1 (j + 5) i) ∧
  (∀ i, i < 10 → C'.1 (k + 8) i = C.1 (j + 8) i) ∧
  (∀ i, i < 10 → C'.1 (k + 3) i = C.1 (j + 3) i) ∧
  (∀ i, i < 10 → C'.1 (k + 6) i = C.1 (j + 6) i) ∧
  (∀ i, i < 10 → C'.1 (k + 9) i = C.1 (j + 9) i) ∧
  (C'.1 (k + 1) 3 = C.1 (k + 1) 3) ∧
  (C'.1 (k + 4) 3 = C.1 (k + 4) 3) ∧
  (C'.1 (k + 7) 3 = C.1 (k + 7) 3) ∧
  (∀ o, o < k + 1 ∨ k + 33 < o → C'.1 o = C.1 o) ∧
  (∀ o, o < k + 1 ∨ k + 33 < o → C'.2 o = C.2 o)
theorem ep_cx.cp {k j : Nat} {C C' : em_M} (h : ep_cx k j C C') : ep_Cp (j + 10) C (k + 10) C' := h.1
theorem ep_cx.r1 {k j : Nat} {C C' : em_M} (h : ep_cx k j C C') : C'.1 (k + 1) 0 = C.1 (j + 1) 0 := h.2.1
theorem ep_cx.r2 {k j : Nat} {C C' : em_M} (h : ep_cx k j C C') : C'.1 (k + 4) 0 = C.1 (j + 4) 0 := h.2.2.1
theorem ep_cx.r3 {k j : Nat} {C C' : em_M} (h : ep_cx k j C C') : C'.1 (k + 7) 0 = C.1 (j + 7) 0 := h.2.2.2.1
theorem ep_cx.s1 {k j : Nat} {C C' : em_M} (h : ep_cx k j C C') : ∀ i, i < 10 → C'.1 (k + 2) i = C.1 (j + 2) i := h.2.2.2.2.1
theorem ep_cx.s2 {k j : Nat} {C C' : em_M} (h : ep_cx k j C C') : ∀ i, i < 10 → C'.1 (k + 5) i = C.1 (j + 5) i := h.2.2.2.2.2.1
theorem ep_cx.s3 {k j : Nat} {C C' : em_M} (h : ep_cx k j C C') : ∀ i, i < 10 → C'.1 (k + 8) i = C.1 (j + 8) i := h.2.2.2.2.2.2.1
theorem ep_cx.t1 {k j : Nat} {C C' : em_M} (h : ep_cx k j C C') : ∀ i, i < 10 → C'.1 (k + 3) i = C.1 (j + 3) i := h.2.2.2.2.2.2.2.1
theorem ep_cx.t2 {k j : Nat} {C C' : em_M} (h : ep_cx k j C C') : ∀ i, i < 10 → C'.1 (k + 6) i = C.1 (j + 6) i := h.2.2.2.2.2.2.2.2.1
theorem ep_cx.t3 {k j : Nat} {C C' : em_M} (h : ep_cx k j C C') : ∀ i, i < 10 → C'.1 (k + 9) i = C.1 (j + 9) i := h.2.2.2.2.2.2.2.2.2.1
theorem ep_cx.m1 {k j : Nat} {C C' : em_M} (h : ep_cx k j C C') : C'.1 (k + 1) 3 = C.1 (k + 1) 3 := h.2.2.2.2.2.2.2.2.2.2.1
theorem ep_cx.m2 {k j : Nat} {C C' : em_M} (h : ep_cx k j C C') : C'.1 (k + 4) 3 = C.1 (k + 4) 3 := h.2.2.2.2.2.2.2.2.2.2.2.1
theorem ep_cx.m3 {k j : Nat} {C C' : em_M} (h : ep_cx k j C C') : C'.1 (k + 7) 3 = C.1 (k + 7) 3 := h.2.2.2.2.2.2.2.2.2.2.2.2.1
theorem ep_cx.o1 {k j : Nat} {C C' : em_M} (h : ep_cx k j C C') : ∀ o, o < k + 1 ∨ k + 33 < o → C'.1 o = C.1 o := h.2.2.2.2.2.2.2.2.2.2.2.2.2.1
theorem ep_cx.o2 {k j : Nat} {C C' : em_M} (h : ep_cx k j C C') : ∀ o, o < k + 1 ∨ k + 33 < o → C'.2 o = C.2 o := h.2.2.2.2.2.2.2.2.2.2.2.2.2.2
theorem ep_cx.mk {k j : Nat} {C C' : em_M} (cp : ep_Cp (j + 10) C (k + 10) C') (r1 : C'.1 (k + 1) 0 = C.1 (j + 1) 0) (r2 : C'.1 (k + 4) 0 = C.1 (j + 4) 0) (r3 : C'.1 (k + 7) 0 = C.1 (j + 7) 0) (s1 : ∀ i, i < 10 → C'.1 (k + 2) i = C.1 (j + 2) i) (s2 : ∀ i, i < 10 → C'.1 (k + 5) i = C.1 (j + 5) i) (s3 : ∀ i, i < 10 → C'.1 (k + 8) i = C.1 (j + 8) i) (t1 : ∀ i, i < 10 → C'.1 (k + 3) i = C.1 (j + 3) i) (t2 : ∀ i, i < 10 → C'.1 (k + 6) i = C.1 (j + 6) i) (t3 : ∀ i, i < 10 → C'.1 (k + 9) i = C.1 (j + 9) i) (m1 : C'.1 (k + 1) 3 = C.1 (k + 1) 3) (m2 : C'.1 (k + 4) 3 = C.1 (k + 4) 3) (m3 : C'.1 (k + 7) 3 = C.1 (k + 7) 3) (o1 : ∀ o, o < k + 1 ∨ k + 33 < o → C'.1 o = C.1 o) (o2 : ∀ o, o < k + 1 ∨ k + 33 < o → C'.2 o = C.2 o) : ep_cx k j C C' :=
  ⟨cp, r1, r2, r3, s1, s2, s3, t1, t2, t3, m1, m2, m3, o1, o2⟩
theorem ep_Cp_tr {w w' : Nat} {C C' C2 : em_M} (h : ep_Cp w C w' C') (h1 : ∀ o, w' ≤ o → o ≤ w' + 23 → C2.1 o = C'.1 o) (h2 : C2.2 = C'.2) : ep_Cp w C w' C2 :=
  ep_Cp.mk (fun k hk => by rw [h1 _ (by omega) (by omega)]; exact h.c1 k hk) (fun k hk => by rw [h1 _ (by omega) (by omega)]; exact h.c2 k hk) (fun k a b c => by rw [h1 _ (by omega) (by omega)]; exact h.c3 k a b c) (by rw [h2]; exact h.c3l) (fun k hk => by rw [h1 _ (by omega) (by omega)]; exact h.c4 k hk) (by rw [h2]; exact h.c4l) (fun k hk => by rw [h1 _ (by omega) (by omega)]; exact h.c5 k hk) (by rw [h1 _ (by omega) (by omega)]; exact h.c6) (fun k hk => by rw [h2]; exact h.c7 k hk) (by rw [h1 _ (by omega) (by omega)]; exact h.c8) (fun j a b k hk => by rw [h1 _ (by omega) (by omega)]; exact h.c9 j a b k hk) (fun k hk => by rw [h2]; exact h.c16 k hk) (by rw [h1 _ (by omega) (by omega)]; exact h.c17) (fun j a b k hk => by rw [h1 _ (by omega) (by omega)]; exact h.c18 j a b k hk)
theorem ec_X1 {k j : Nat} (hd : k + 33 < j ∨ j + 33 < k) (C : em_M) : ep_cx k j C (et_X1_copyFrom k j C) := by
  have c := ec_copy (w := k + 10) (v := j + 10) (by omega) C
  have e0 : et_X1_copyFrom k j C = et_X6_copyFrom (k + 7) (j + 7) (et_X6_copyFrom (k + 4) (j + 4) (et_X6_copyFrom (k + 1) (j + 1) (et_X3_copyFrom (k + 10) (j + 10) (et_X10_copyFrom (k + 10) (j + 10) C)))) := rfl
  have f1 : ∀ o, o < k + 10 ∨ k + 33 < o → (et_X3_copyFrom (k + 10) (j + 10) (et_X10_copyFrom (k + 10) (j + 10) C)).1 o = C.1 o := fun o ho => (ef1_X3_copyFrom _ _ _ (by omega)).trans (ef1_X10_copyFrom _ _ _ (by omega))
  have f2 : ∀ o, o < k + 10 ∨ k + 33 < o → (et_X3_copyFrom (k + 10) (j + 10) (et_X10_copyFrom (k + 10) (j + 10) C)).2 o = C.2 o := fun o ho => (ef2_X3_copyFrom _ _ _ (by omega)).trans (ef2_X10_copyFrom _ _ _ (by omega))
  rw [e0]
  generalize et_X3_copyFrom (k + 10) (j + 10) (et_X10_copyFrom (k + 10) (j + 10) C) = C1 at c f1 f2 ⊢
  obtain ⟨a1, a2, a3, a4, a5, a6⟩ := ec_row (r := k + 1) (q := j + 1) (by omega) C1
  generalize et_X6_copyFrom (k + 1) (j + 1) C1 = C2 at a1 a2 a3 a4 a5 a6 ⊢
  obtain ⟨b1, b2, b3, b4, b5, b6⟩ := ec_row (r := k + 4) (q := j + 4) (by omega) C2
  generalize et_X6_copyFrom (k + 4) (j + 4) C2 = C3 at b1 b2 b3 b4 b5 b6 ⊢
  obtain ⟨d1, d2, d3, d4, d5, d6⟩ := ec_row (r := k + 7) (q := j + 7) (by omega) C3
  generalize et_X6_copyFrom (k + 7) (j + 7) C3 = C4 at d1 d2 d3 d4 d5 d6 ⊢
  refine ep_cx.mk (ep_Cp_tr c (fun o o1 o2 => by rw [d4 _ (by omega), b4 _ (by omega), a4 _ (by omega)]) (by rw [d5, b5, a5])) ?_ ?_ ?_ ?_ ?_ ?_ ?_ ?_ ?_ ?_ ?_ ?_ ?_ ?_
  · rw [d4 _ (by omega), b4 _ (by omega), a1, f1 _ (by omega)]
  · rw [d4 _ (by omega), b1, a4 _ (by omega), f1 _ (by omega)]
  · rw [d1, b4 _ (by omega), a4 _ (by omega), f1 _ (by omega)]
  · intro i hi; rw [d4 _ (by omega), b4 _ (by omega)]; exact (a2 i hi).trans (by rw [f1 _ (by omega)])
  · intro i hi; rw [d4 _ (by omega)]; exact (b2 i hi).trans (by rw [a4 _ (by omega), f1 _ (by omega)])
  · intro i hi; exact (d2 i hi).trans (by rw [b4 _ (by omega), a4 _ (by omega), f1 _ (by omega)])
  · intro i hi; rw [d4 _ (by omega), b4 _ (by omega)]; exact (a3 i hi).trans (by rw [f1 _ (by omega)])
  · intro i hi; rw [d4 _ (by omega)]; exact (b3 i hi).trans (by rw [a4 _ (by omega), f1 _ (by omega)])
  · intro i hi; exact (d3 i hi).trans (by rw [b4 _ (by omega), a4 _ (by omega), f1 _ (by omega)])
  · rw [d4 _ (by omega), b4 _ (by omega), a6, f1 _ (by omega)]
  · rw [d4 _ (by omega), b6, a4 _ (by omega), f1 _ (by omega)]
  · rw [d6, b4 _ (by omega), a4 _ (by omega), f1 _ (by omega)]
  · intro o ho; rw [d4 _ (by omega), b4 _ (by omega), a4 _ (by omega), f1 _ (by omega)]
  · intro o ho; rw [d5, b5, a5, f2 _ (by omega)]
theorem pm_image {φ D : Nat → Nat × Nat} {u nl : Nat} {C G : em_M} (h : ep_I φ D u nl C G) : es_X12_image G ∧ (et_X11_image C).1 = (et_X12_image G).1 ∧ ∃ φ' D' u' nl', ep_I φ' D' u' nl' (et_X11_image C).2 (et_X12_image G).2 := by
  have x := ec_X1 (k := 45) (j := 11) (by omega) C
  obtain ⟨e1, e2, e3, e4⟩ := em_copies (a := 119) (b := 121) (by omega) G
  have E : es_X12_image G := by
    rw [es_X12_image]
    exact ⟨e1, fun _ _ _ _ => trivial⟩
  rw [et_X11_image, et_X12_image]
  generalize et_X1_copyFrom 45 11 C = C1 at x ⊢
  generalize et_X12_copies 119 5880 121 5880 G = G1 at e2 e3 e4 ⊢
  refine ⟨E, ?_, φ, D, u, nl, ?_⟩
  · dsimp only
    rw [ef_pI' _ _ _ _ (by omega), ef_pIk _ _ (by omega), x.o1 _ (by omega), e2 _ (by omega), h.ln.sz, h.ln.sm]
  · dsimp only
    have k1 : ∀ o, 0 < o → o < 46 ∨ 78 < o → (em_pI C1 0 4 1).1 o = C.1 o := fun o o1 o2 => by rw [ef_pI' _ _ _ _ (by omega), x.o1 _ (by omega)]
    have k2 : ∀ o, o < 46 ∨ 78 < o → (em_pI C1 0 4 1).2 o = C.2 o := fun o o2 => by rw [eq_pI2, x.o2 _ (by omega)]
    have g1 : ∀ o, o ≠ 118 → o ≠ 121 → (em_pI G1 118 3 1).1 o = G.1 o := fun o o1 o2 => by rw [ef_pI' _ _ _ _ o1, e2 _ o2]
    have g2 : (em_pI G1 118 3 1).2 = G.2 := e3
    have g3 : ∀ k, k ≠ 3 → (em_pI G1 118 3 1).1 118 k = G.1 118 k := fun k hk => by rw [ef_pIk _ _ hk, e2 _ (by omega)]
    have g4 : ∀ k, k < 5880 → (em_pI G1 118 3 1).1 121 k = G.1 119 k := fun k hk => by rw [ef_pI' _ _ _ _ (by omega)]; exact e4 k hk
    have xr : ∀ o, 45 < o → (em_pI C1 0 4 1).1 o = C1.1 o := fun o ho => ef_pI' _ _ _ _ (by omega)
    refine ep_I.mk (ep_Ln_cg (fun o _ _ => k1 o (by omega) (by omega)) (g3 _ (by omega)) (fun o _ _ => g1 o (by omega) (by omega)) h.ln) (ep_Tx_cg (by rw [k1 _ (by omega) (by omega)]) (k1 _ (by omega) (by omega)) (g3 _ (by omega)) (g1 _ (by omega) (by omega)) h.tx) (fun i hi => ep_Tp_cg (k1 _ (by omega) (by omega)) (k2 _ (by omega)) (by rw [g1 _ (by omega) (by omega)]) (by rw [g1 _ (by omega) (by omega)]) (fun k _ _ => by rw [g2]) (h.tp i hi))
      (ep_Rw_cg (fun o _ _ => k1 o (by omega) (by omega)) (by rw [g1 _ (by omega) (by omega)]) (fun k _ _ => by rw [g1 _ (by omega) (by omega)]) h.rs)
      (ep_Rw_cg (fun o _ _ => k1 o (by omega) (by omega)) (by rw [g1 _ (by omega) (by omega)]) (fun k _ _ => by rw [g1 _ (by omega) (by omega)]) h.rp)
      (ep_Rw_cg (fun o _ _ => k1 o (by omega) (by omega)) (by rw [g1 _ (by omega) (by omega)]) (fun k _ _ => by rw [g1 _ (by omega) (by omega)]) h.rb) ?_
      (ep_Wd_cg (k1 _ (by omega) (by omega)) (k1 _ (by omega) (by omega)) (fun o _ _ => k1 o (by omega) (by omega)) (fun o _ _ => k2 o (by omega)) (fun k _ => by rw [g1 _ (by omega) (by omega)]) h.wd) (ep_Io.mk ?_ ?_ ?_ ?_)
    · rw [k1 12 (by omega) (by omega), k1 15 (by omega) (by omega), k1 18 (by omega) (by omega), k1 89 (by omega) (by omega), k1 98 (by omega) (by omega)]; exact h.iz
    · rw [ef_pIs _ _ rfl, ef_pIs _ _ rfl]; exact ⟨rfl, Or.inr rfl⟩
    · rw [xr 46 (by omega), xr 49 (by omega), xr 52 (by omega)]
      exact ⟨x.m1.trans h.io.is.1, x.m2.trans h.io.is.2.1, x.m3.trans h.io.is.2.2⟩
    · rw [xr 58 (by omega), show C1.1 58 9 = C.1 24 9 from x.cp.c3 9 (by omega) (by omega) (by omega)]; exact h.wd.gb.1
    · intro _
      refine ⟨ep_Rw_to h.rs (by omega) (by rw [xr _ (by omega)]; exact x.r1) (fun k hk => by rw [xr _ (by omega)]; exact x.s1 k hk) (fun k hk => by rw [xr _ (by omega)]; exact x.t1 k hk) (g4 _ (by omega)) (fun k _ _ => g4 k (by omega)), ep_Rw_to h.rp (by omega) (by rw [xr _ (by omega)]; exact x.r2) (fun k hk => by rw [xr _ (by omega)]; exact x.s2 k hk) (fun k hk => by rw [xr _ (by omega)]; exact x.t2 k hk) (g4 _ (by omega)) (fun k _ _ => g4 k (by omega)), ep_Rw_to h.rb (by omega) (by rw [xr _ (by omega)]; exact x.r3) (fun k hk => by rw [xr _ (by omega)]; exact x.s3 k hk) (fun k hk => by rw [xr _ (by omega)]; exact x.t3 k hk) (g4 _ (by omega)) (fun k _ _ => g4 k (by omega)), ?_⟩
      exact ep_Wd_to h.wd (k1 _ (by omega) (by omega)) (k1 _ (by omega) (by omega)) (ep_Cp_tr x.cp (fun o o1 o2 => xr o (by omega)) rfl) (fun k _ hk => g4 k hk)
theorem pl_image {M : em_M} (hI : ep_Inv M)  {r1 : Int32} {M1 : em_M} (e1 : et_X11_image M = (r1, M1)) : es_X12_image M1 ∧ ∀ (r2 : Int32) (M2 : em_M), et_X12_image M1 = (r2, M2) → r1 = r2 ∧ ep_Inv M2 :=
  ep_go hI (fun M => et_X11_image M) (fun M => et_X12_image M) (fun M => es_X12_image M) (fun _ _ _ _ _ _ h => pm_image h) (fun o h => ef1_X11_image _ (by omega)) (fun o h => ef2_X11_image _ (by omega)) (fun o h => ef1_X12_image _ (by omega)) (fun o h => ef2_X12_image _ (by omega)) e1
theorem pm_undo {φ D : Nat → Nat × Nat} {u nl : Nat} {C G : em_M} (h : ep_I φ D u nl C G) : es_X12_undo G ∧ (et_X11_undo C).1 = (et_X12_undo G).1 ∧ ∃ φ' D' u' nl', ep_I φ' D' u' nl' (et_X11_undo C).2 (et_X12_undo G).2 := by
  obtain ⟨e1, e2, e3, e4⟩ := em_copies (a := 121) (b := 119) (by omega) G
  have x := ec_X1 (k := 11) (j := 45) (by omega) C
  obtain ⟨im, im2⟩ := h.io.im
  by_cases p : G.1 118 3 = 0
  · have E : es_X12_undo G := by
      rw [es_X12_undo]
      exact ⟨fun _ => trivial, fun q => absurd p q⟩
    rw [et_X11_undo, et_X12_undo, im, if_pos p, if_pos p]
    exact ⟨E, rfl, φ, D, u, nl, h⟩
  · obtain ⟨i1, i2, i3, i4⟩ := h.io.ii (im2.resolve_left p)
    have E : es_X12_undo G := by
      rw [es_X12_undo]
      exact ⟨fun q => absurd q p, fun _ => ⟨e1, fun _ _ => trivial⟩⟩
    rw [et_X11_undo, et_X12_undo, im, if_neg p, if_neg p]
    generalize et_X1_copyFrom 11 45 C = C1 at x ⊢
    generalize et_X12_copies 121 5880 119 5880 G = G1 at e2 e3 e4 ⊢
    refine ⟨E, ?_, φ, D, u, nl, ?_⟩
    · dsimp only
      rw [x.o1 _ (by omega), e2 _ (by omega), h.ln.sz, h.ln.sm]
    · dsimp only
      refine ep_I.mk (ep_Ln_cg (fun o _ _ => x.o1 o (by omega)) (by rw [e2 _ (by omega)]) (fun o _ _ => e2 o (by omega)) h.ln) (ep_Tx_cg (by rw [x.o1 _ (by omega)]) (x.o1 _ (by omega)) (by rw [e2 _ (by omega)]) (e2 _ (by omega)) h.tx) (fun i hi => ep_Tp_cg (x.o1 _ (by omega)) (x.o2 _ (by omega)) (by rw [e2 _ (by omega)]) (by rw [e2 _ (by omega)]) (fun k _ _ => by rw [e3]) (h.tp i hi))
        (ep_Rw_to i1 (by omega) x.r1 x.s1 x.t1 (e4 _ (by omega)) (fun k _ _ => e4 k (by omega))) (ep_Rw_to i2 (by omega) x.r2 x.s2 x.t2 (e4 _ (by omega)) (fun k _ _ => e4 k (by omega))) (ep_Rw_to i3 (by omega) x.r3 x.s3 x.t3 (e4 _ (by omega)) (fun k _ _ => e4 k (by omega))) ?_ (ep_Wd_to i4 (x.o1 _ (by omega)) (x.o1 _ (by omega)) x.cp (fun k _ hk => e4 k hk)) (ep_Io_cg (by rw [x.o1 _ (by omega)]) (x.o1 _ (by omega)) (x.o1 _ (by omega)) (fun o _ _ => x.o1 o (by omega)) (fun o _ _ => x.o2 o (by omega)) (by rw [e2 _ (by omega)]) (e2 _ (by omega)) h.io)
      rw [x.o1 89 (by omega), x.o1 98 (by omega)]
      exact ⟨x.m1.trans h.iz.1, x.m2.trans h.iz.2.1, x.m3.trans h.iz.2.2.1, h.iz.2.2.2⟩
theorem pl_undo {M : em_M} (hI : ep_Inv M)  {r1 : Int32} {M1 : em_M} (e1 : et_X11_undo M = (r1, M1)) : es_X12_undo M1 ∧ ∀ (r2 : Int32) (M2 : em_M), et_X12_undo M1 = (r2, M2) → r1 = r2 ∧ ep_Inv M2 :=
  ep_go hI (fun M => et_X11_undo M) (fun M => et_X12_undo M) (fun M => es_X12_undo M) (fun _ _ _ _ _ _ h => pm_undo h) (fun o h => ef1_X11_undo _ (by omega)) (fun o h => ef2_X11_undo _ (by omega)) (fun o h => ef1_X12_undo _ (by omega)) (fun o h => ef2_X12_undo _ (by omega)) e1
