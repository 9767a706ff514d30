/-! a STEP at work on an E -/
theorem eq_c0 : ((0 : Int32)).toNatClampNeg = 0 := rfl
theorem eq_c1 : ((1 : Int32)).toNatClampNeg = 1 := rfl
theorem eq_c2 : ((2 : Int32)).toNatClampNeg = 2 := rfl
theorem eq_c3 : ((3 : Int32)).toNatClampNeg = 3 := rfl
theorem eq_c4 : ((4 : Int32)).toNatClampNeg = 4 := rfl
theorem eq_c5 : ((5 : Int32)).toNatClampNeg = 5 := rfl
theorem eq_c6 : ((6 : Int32)).toNatClampNeg = 6 := rfl
theorem eq_c7 : ((7 : Int32)).toNatClampNeg = 7 := rfl
theorem eq_c8 : ((8 : Int32)).toNatClampNeg = 8 := rfl
theorem eq_c9 : ((9 : Int32)).toNatClampNeg = 9 := rfl
theorem eq_c10 : ((10 : Int32)).toNatClampNeg = 10 := rfl
theorem eq_c11 : ((11 : Int32)).toNatClampNeg = 11 := rfl
theorem eq_c12 : ((12 : Int32)).toNatClampNeg = 12 := rfl
theorem eq_c13 : ((13 : Int32)).toNatClampNeg = 13 := rfl
theorem eq_c14 : ((14 : Int32)).toNatClampNeg = 14 := rfl
theorem eq_c15 : ((15 : Int32)).toNatClampNeg = 15 := rfl
theorem eq_c16 : ((16 : Int32)).toNatClampNeg = 16 := rfl
theorem eq_c17 : ((17 : Int32)).toNatClampNeg = 17 := rfl
theorem eq_c18 : ((18 : Int32)).toNatClampNeg = 18 := rfl
theorem eq_c19 : ((19 : Int32)).toNatClampNeg = 19 := rfl
theorem eq_c20 : ((20 : Int32)).toNatClampNeg = 20 := rfl
theorem eq_c21 : ((21 : Int32)).toNatClampNeg = 21 := rfl
theorem eq_c22 : ((22 : Int32)).toNatClampNeg = 22 := rfl
theorem eq_c23 : ((23 : Int32)).toNatClampNeg = 23 := rfl
theorem eq_c24 : ((24 : Int32)).toNatClampNeg = 24 := rfl
theorem eq_c25 : ((25 : Int32)).toNatClampNeg = 25 := rfl
theorem eq_c26 : ((26 : Int32)).toNatClampNeg = 26 := rfl
theorem eq_c27 : ((27 : Int32)).toNatClampNeg = 27 := rfl
theorem eq_c28 : ((28 : Int32)).toNatClampNeg = 28 := rfl
theorem eq_c29 : ((29 : Int32)).toNatClampNeg = 29 := rfl
theorem eq_c30 : ((30 : Int32)).toNatClampNeg = 30 := rfl
theorem eq_c31 : ((31 : Int32)).toNatClampNeg = 31 := rfl
theorem eq_c32 : ((32 : Int32)).toNatClampNeg = 32 := rfl
theorem eq_c33 : ((33 : Int32)).toNatClampNeg = 33 := rfl
theorem eq_c34 : ((34 : Int32)).toNatClampNeg = 34 := rfl
theorem eq_c35 : ((35 : Int32)).toNatClampNeg = 35 := rfl
theorem eq_c36 : ((36 : Int32)).toNatClampNeg = 36 := rfl
theorem eq_c37 : ((37 : Int32)).toNatClampNeg = 37 := rfl
theorem eq_c38 : ((38 : Int32)).toNatClampNeg = 38 := rfl
theorem eq_c39 : ((39 : Int32)).toNatClampNeg = 39 := rfl
theorem eq_c40 : ((40 : Int32)).toNatClampNeg = 40 := rfl
theorem eq_back (x : Nat) (h : x < 2 ^ 31) : (((4294967296 : Int64) + (nI x).toInt64) - (4294967296 : Int64)).toInt32 = nI x := by
  rw [nI_l h, show (4294967296 : Int64) = lN 4294967296 from rfl, lN_add, lN_sub (by omega), Nat.add_sub_cancel_left, lN_i]
theorem eq_cmpm {t : Int64} (h : ¬ t = (-9223372036854775808 : Int64)) : (lg_cmp t (-9223372036854775808 : Int64) = 0) = False := eq_false (fun q => h ((lg_cmp_eq _ _).mp q))
theorem eq_cmpM : (lg_cmp (-9223372036854775808 : Int64) (-9223372036854775808 : Int64) = 0) = True := eq_true ((lg_cmp_eq _ _).mpr rfl)
/-- what a NAME is, on both sides -/
theorem ep_look {φ : Nat → Nat × Nat} {u nl : Nat} {H : ep_H} {t w : Nat} {C0 G0 C G : em_M} (h : ep_Md φ u nl H t w C0 G0 C G) {sc nm : Nat} (hs : sc ≤ H.ns) (hm : nm < 4) (c11 : C.1 (w + 3) 11 = nI sc) : es_X12_found G (nI sc - 1) (nI nm) ∧ ((et_X12_found G (nI sc - 1) (nI nm) = -1 ∧ et_X3_lookUp w C (nI nm) = (G.1 119 nm).toInt64) ∨ ∃ s, s < H.ns ∧ et_X12_found G (nI sc - 1) (nI nm) = nI s ∧ ep_Th H.ne (et_X3_lookUp w C (nI nm)) (G.1 119 (2680 + 4 * s + 1)) (G.1 119 (2680 + 4 * s + 2))) := by
  have w6 := h.w6
  have n3 := h.ns
  obtain ⟨q1, q2⟩ := em_found h.tb h.ns nm hm sc hs 400 (by omega)
  have th : et_X7_thing w C (C.1 (w + 3) 11) (nI nm) = C.2 (w + 7) (4 * sc + nm) := by
    rw [et_X7_thing, c11, eq_y4, nI_add, eq_atS_ _ (by omega) (by omega), show sc * 4 + nm = 4 * sc + nm by omega]
  refine ⟨q1, ?_⟩
  rcases q2 with ⟨e1, e2⟩ | ⟨s, s1, s2, s3⟩
  · refine Or.inl ⟨e1, ?_⟩
    rw [et_X3_lookUp, th, e2]
    simp only [eq_cmpM, if_true]
    rw [eq_atS _ (by omega) (by omega), h.va nm hm]
  · refine Or.inr ⟨s, s1, s2, ?_⟩
    rw [et_X3_lookUp, th]
    simp only [eq_cmpm (eq_Thm s3 h.ne), if_false]
    exact s3

theorem ep_catch {φ D : Nat → Nat × Nat} {u nl : Nat} {H : ep_H} {t w : Nat} {C0 G0 C G : em_M} (h : ep_Md φ u nl H t w C0 G0 C G) (ln : ep_Ln φ D u nl C G) (b : H.nf ≤ t ∧ H.ns ≤ t ∧ H.nw ≤ t ∧ H.ne ≤ t) {ch wi e sc : Nat} (hch : ch ≤ H.nf) (c13 : C.1 (w + 3) 13 = nI ch) (g17 : G.1 119 17 = nI ch - 1) (hwi : wi ≤ H.nw) (c14 : C.1 (w + 3) 14 = nI wi) (g18 : G.1 119 18 = nI wi - 1) (cw : ch ≠ 0 → H.W ch = wi) (he : e < u) (c10 : C.1 (w + 3) 10 = nI e) (g14 : G.1 119 14 = nI (φ e).1) (hs : sc ≤ H.ns) (c11 : C.1 (w + 3) 11 = nI sc) (g16 : G.1 119 16 = nI sc - 1) (q : ep_Nd4 φ u C G e 13 64 1) : es_X12_worksOn G ∧ ep_Ps φ u nl t w C0 G0 (et_X3_work w C) (et_X12_worksOn G) := by
  have w6 := h.w6
  have t3 := h.t3
  have n8 := ln.n8
  have hu := ln.hu
  have hm : (φ e).1 < 808 := by have := ln.hm e he; omega
  have nf := h.nf
  have ns := h.ns
  have nw := h.nw
  have ne := h.ne
  obtain ⟨p, p1, p2, p3, p4⟩ := q.hp 0 (by omega)
  have p4' : G.1 125 (5 * (φ e).1) = nI (φ p).1 := p4
  have e1 : et_X2_kind C (nI e) = nI 13 := by rw [et_X2_kind, eq_atS _ (by omega) (by omega), q.hk]
  have e2 : et_X2_mark C (nI e) = C.1 3 e := by rw [et_X2_mark, eq_atS _ (by omega) (by omega)]
  have hsg := q.hs
  obtain ⟨a, a1, a2, a3⟩ := q.ha (Or.inr (Or.inr (Or.inr rfl)))
  obtain ⟨C1, k1, k2, k3, k4, k5⟩ := ep_caught h (by omega) ch wi hch c13 hwi c14 cw
  have k6 : C1.1 (w + 3) 11 = nI sc := by rw [k3 _ (by omega)]; exact c11
  obtain ⟨C2, G2, m1, m2, m3, m4, m5, m6, m7, m8⟩ := ep_bind k2 (by show H.ns < 300; omega) sc a hs a1 (th := 4294967296 + (nI H.ne).toInt64) (ie := 1) (v := nI H.ne) (Or.inr ⟨rfl, H.ne, Nat.lt_succ_self _, rfl, rfl⟩)
  have W : et_X3_work w C = em_pI (em_pI (em_pI C2 (w + 3) 11 (nI (H.ns + 1))) (w + 3) 10 (nI p)) (w + 3) 9 0 := by
    rw [et_X3_work]
    simp only [c10, e1, e2, a2, k1, c11, m1, eq_false (show ¬ nI 13 = (3 : Int32) by decide), eq_false (show ¬ nI 13 = (14 : Int32) by decide), eq_false (show ¬ nI 13 = (11 : Int32) by decide), eq_false (show ¬ nI 13 = (12 : Int32) by decide), eq_true (show nI 13 = (13 : Int32) from rfl), eq_false (show ¬ nI 13 = (5 : Int32) by decide), ↓reduceIte]
    rw [show (0 : Int32) = nI 0 from rfl, eq_workOn (e := e) (by omega) (by omega) (by simp (disch := omega) only [ef_pI', ef_pIk, ef_pIs]; rw [m5 _ (by omega), k3 _ (by omega)]; exact c10)]
    rw [ef_pI' _ _ _ _ (by omega), m5 _ (by omega), k5 _ (by omega) (by omega), p2]
    rfl
  have V : et_X12_worksOn G = et_X12_works G2 (nI (φ p).1) 0 (nI H.ns) := by
    rw [et_X12_worksOn]
    simp (disch := omega) only [eq_c7, eq_c8, eq_c9, eq_c10, eq_c11, eq_c12, eq_c13, eq_c14, eq_c15, eq_c16, eq_c17, eq_c18, eq_c19, eq_c20, eq_c21, eq_c22, eq_c23, eq_c24, nI_clamp, eq_x5, eq_s4, eq_e2, nI_1, eq_p2, eq_m0, vp_in_nI, g14, g16, g17, hsg, a3, h.ne2, ef_pI', ef_pIk, ef_pIs, g18, eq_false (show ¬ nI 64 = (97 : Int32) by decide), eq_false (show ¬ nI 64 = (94 : Int32) by decide), eq_false (show ¬ nI 64 = (48 : Int32) by decide), eq_false (show ¬ nI 64 = (91 : Int32) by decide), eq_true (show nI 64 = (64 : Int32) from rfl), ↓reduceIte, forall_eq', true_and, and_true, implies_true, forall_const, true_implies, false_implies, not_true_eq_false, not_false_eq_true, if_true, if_false]
    rw [m3, p4']
    rfl
  have E : es_X12_worksOn G := by
    rw [es_X12_worksOn]
    simp (disch := omega) only [eq_c7, eq_c8, eq_c9, eq_c10, eq_c11, eq_c12, eq_c13, eq_c14, eq_c15, eq_c16, eq_c17, eq_c18, eq_c19, eq_c20, eq_c21, eq_c22, eq_c23, eq_c24, nI_clamp, eq_x5, eq_s4, eq_e2, nI_1, eq_p2, eq_m0, vp_in_nI, g14, g16, g17, hsg, a3, h.ne2, ef_pI', ef_pIk, ef_pIs, g18, eq_false (show ¬ nI 64 = (97 : Int32) by decide), eq_false (show ¬ nI 64 = (94 : Int32) by decide), eq_false (show ¬ nI 64 = (48 : Int32) by decide), eq_false (show ¬ nI 64 = (91 : Int32) by decide), eq_true (show nI 64 = (64 : Int32) from rfl), ↓reduceIte, forall_eq', true_and, and_true, implies_true, forall_const, true_implies, false_implies, not_true_eq_false, not_false_eq_true, if_true, if_false]
    exact m2
  have mm : ep_Md φ u nl (ep_aS (ep_aE H ch wi)) t w C0 G0 (em_pI C2 (w + 3) 11 (nI (H.ns + 1))) G2 := ep_Md_rg m4 (fun o ho => by simp (disch := omega) only [ef_pI']) (fun o ho => rfl) (by simp (disch := omega) only [ef_pI', ef_pIk, ef_pIs]) (fun _ _ => rfl) rfl (fun _ _ => rfl)
  rw [W, V]
  refine ⟨E, ep_wk mm ⟨by show H.nf ≤ _; omega, by show H.ns + 1 ≤ _; omega, by show H.nw ≤ _; omega, by show H.ne + 1 ≤ _; omega⟩ hch (sc := H.ns + 1) ?_ ?_ hwi ?_ cw p1 (Nat.le_refl _) ?_ rfl (ep_fwW rfl (by rw [p3]; rfl) (by rw [eq_q1]) ?_)⟩
  · simp (disch := omega) only [ef_pI', ef_pIk, ef_pIs]; rw [m5 _ (by omega), k3 _ (by omega)]; exact c13
  · rw [m7 _ (by omega)]; simp (disch := omega) only [ef_pI', ef_pIk, ef_pIs]; exact g17
  · simp (disch := omega) only [ef_pI', ef_pIk, ef_pIs]; rw [m5 _ (by omega), k3 _ (by omega)]; exact c14
  · simp (disch := omega) only [ef_pI', ef_pIk, ef_pIs]
  · rw [m7 _ (by omega)]; simp (disch := omega) only [ef_pI', ef_pIk, ef_pIs]; exact g18
