/-! going on, coming in, OVER; all of them -/
set_option maxHeartbeats 4000000 in
theorem ep_r9 {φ D : Nat → Nat × Nat} {u nl : Nat} {H : ep_H} {t w : Nat} {C0 G0 C G : em_M} {f wi : Nat} {v : Int64} {ie y : Int32} (R : ep_Rc φ D u nl H t w C0 G0 C G f wi v ie y) {x : Nat} (q : ep_F3 H w 119 C G f 9 12 x) : es_X12_givesOn G ∧ ep_Ps φ u nl t w C0 G0 (et_X3_receive w C) (et_X12_givesOn G) := by
  have h := R.md
  have ln := R.ln
  have w6 := h.w6
  have t3 := h.t3
  have n8 := ln.n8
  have nf := h.nf
  have ns := h.ns
  have nw := h.nw
  have ne := h.ne
  have b := R.b
  have b' : H.nf ≤ t + 1 ∧ H.ns ≤ t + 1 ∧ H.nw ≤ t + 1 ∧ H.ne ≤ t + 1 := by omega
  have f0 := R.f0
  obtain ⟨b1, b2, b3⟩ := h.tb.fb f f0
  have hx := q.hx
  have W := er_9 R q.hs b2 rfl rfl
  obtain ⟨P, hP⟩ : ∃ P, ep_pC w C (nI (H.fb (f + 1))) (C.1 (w + 13) (f + 1)) (C.1 (w + 14) (f + 1)) = P := ⟨_, rfl⟩
  have r : ep_pr w C (nI (H.fb (f + 1))) (C.1 (w + 13) (f + 1)) (C.1 (w + 14) (f + 1)) P := hP ▸ ep_pCr w C (nI (H.fb (f + 1))) (C.1 (w + 13) (f + 1)) (C.1 (w + 14) (f + 1))
  rw [hP] at W
  obtain ⟨Q, hQ⟩ : ∃ Q, em_pI G 119 17 (nI (H.fb (f + 1)) - 1) = Q := ⟨_, rfl⟩
  have mp : ep_Md φ u nl H t w C0 G0 P Q := hQ ▸ ep_Md_pop h r _
  have qo : ∀ o, o ≠ 119 → Q.1 o = G.1 o := fun o ho => by rw [← hQ]; exact ef_pI' _ _ _ _ ho
  have qk : ∀ k, k ≠ 17 → Q.1 119 k = G.1 119 k := fun k hk => by rw [← hQ]; exact ef_pIk _ _ hk
  have p14 : P.1 (w + 3) 14 = nI wi := by rw [r.rk _ (by omega) (by omega) (by omega)]; exact R.c14
  have q18 : Q.1 119 18 = nI wi - 1 := by rw [qk _ (by omega)]; exact R.g18
  have lnP := ep_Ln_md mp (C0 := C0) (G0 := G0) (D := D) (nl := nl) (by
    exact ep_Ln_cg (fun o o1 o2 => (h.kc o (by omega)).symm) (by rw [h.kg _ (by omega)]) (fun o o1 o2 => (h.kg o (by omega)).symm) ln)
  have es : ∀ M : em_M, M.1 (w + 15) = P.1 (w + 15) → et_X0_escape w M (nI (f + 1)) = nI x := fun M hM => by rw [et_X0_escape, eq_atS _ (by omega) (by omega), hM, r.o1 _ (by omega)]; exact q.hx1
  have kp : ∀ M : em_M, M.2 = P.2 → et_X0_kept w M (nI (f + 1)) = C.2 (w + 16) (f + 1) := fun M hM => by rw [et_X0_kept, eq_atS_ _ (by omega) (by omega), hM, r.o2]
  rw [W, es P rfl, kp P rfl]
  obtain ⟨g1, g2⟩ := ep_goes mp lnP ⟨b.1, b'.2⟩ q.hx R.hwi p14 q18 q.ht
  have V : et_X12_givesOn G = et_X12_goes Q (nI x) (G.1 119 (120 + 8 * f + 3)) (G.1 119 (120 + 8 * f + 4)) := by
    rw [et_X12_givesOn]
    simp (disch := omega) only [eq_c7, eq_c8, eq_c9, eq_c10, eq_c11, eq_c12, eq_c13, eq_c14, eq_c15, eq_c16, eq_c17, eq_c18, eq_c19, eq_c20, eq_c21, eq_c22, eq_c23, eq_c24, nI_clamp, eq_x5, eq_s4, eq_e2, nI_1, eq_p2, eq_m0, vp_in_nI, eq_f8, eq_p3, eq_p4, eq_p5, eq_p6, eq_p7, nI_pos', R.g17, R.g19, R.g20, q.hw, b3, hQ, et_X12_winds, qk, q.hx2, eq_false (show ¬ nI 12 = (1 : Int32) by decide), eq_false (show ¬ nI 12 = (2 : Int32) by decide), eq_false (show ¬ nI 12 = (7 : Int32) by decide), eq_false (show ¬ nI 12 = (8 : Int32) by decide), eq_false (show ¬ nI 12 = (0 : Int32) by decide), eq_false (show ¬ nI 12 = (3 : Int32) by decide), eq_false (show ¬ nI 12 = (4 : Int32) by decide), eq_false (show ¬ nI 12 = (5 : Int32) by decide), eq_false (show ¬ nI 12 = (6 : Int32) by decide), eq_false (show ¬ nI 12 = (9 : Int32) by decide), eq_false (show ¬ nI 12 = (10 : Int32) by decide), eq_false (show ¬ nI 12 = (11 : Int32) by decide), eq_false (show ¬ nI 12 = (13 : Int32) by decide), ↓reduceIte, forall_eq', true_and, and_true, implies_true, forall_const, true_implies, false_implies, not_true_eq_false, not_false_eq_true, if_true, if_false]
  have E : es_X12_givesOn G := by
    rw [es_X12_givesOn]
    simp (disch := omega) only [eq_c7, eq_c8, eq_c9, eq_c10, eq_c11, eq_c12, eq_c13, eq_c14, eq_c15, eq_c16, eq_c17, eq_c18, eq_c19, eq_c20, eq_c21, eq_c22, eq_c23, eq_c24, nI_clamp, eq_x5, eq_s4, eq_e2, nI_1, eq_p2, eq_m0, vp_in_nI, eq_f8, eq_p3, eq_p4, eq_p5, eq_p6, eq_p7, nI_pos', R.g17, R.g19, R.g20, q.hw, b3, hQ, es_X12_winds, qk, q.hx2, g1, eq_false (show ¬ nI 12 = (1 : Int32) by decide), eq_false (show ¬ nI 12 = (2 : Int32) by decide), eq_false (show ¬ nI 12 = (7 : Int32) by decide), eq_false (show ¬ nI 12 = (8 : Int32) by decide), eq_false (show ¬ nI 12 = (0 : Int32) by decide), eq_false (show ¬ nI 12 = (3 : Int32) by decide), eq_false (show ¬ nI 12 = (4 : Int32) by decide), eq_false (show ¬ nI 12 = (5 : Int32) by decide), eq_false (show ¬ nI 12 = (6 : Int32) by decide), eq_false (show ¬ nI 12 = (9 : Int32) by decide), eq_false (show ¬ nI 12 = (10 : Int32) by decide), eq_false (show ¬ nI 12 = (11 : Int32) by decide), eq_false (show ¬ nI 12 = (13 : Int32) by decide), ↓reduceIte, forall_eq', true_and, and_true, implies_true, forall_const, true_implies, false_implies, not_true_eq_false, not_false_eq_true, if_true, if_false]
  rw [V]
  exact ⟨E, g2⟩
set_option maxHeartbeats 4000000 in
theorem ep_r10 {φ D : Nat → Nat × Nat} {u nl : Nat} {H : ep_H} {t w : Nat} {C0 G0 C G : em_M} {f wi : Nat} {v : Int64} {ie y : Int32} (R : ep_Rc φ D u nl H t w C0 G0 C G f wi v ie y) {x : Nat} (q : ep_F3 H w 119 C G f 10 13 x) : es_X12_givesOn G ∧ ep_Ps φ u nl t w C0 G0 (et_X3_receive w C) (et_X12_givesOn G) := by
  have h := R.md
  have ln := R.ln
  have w6 := h.w6
  have t3 := h.t3
  have n8 := ln.n8
  have nf := h.nf
  have ns := h.ns
  have nw := h.nw
  have ne := h.ne
  have b := R.b
  have b' : H.nf ≤ t + 1 ∧ H.ns ≤ t + 1 ∧ H.nw ≤ t + 1 ∧ H.ne ≤ t + 1 := by omega
  have f0 := R.f0
  obtain ⟨b1, b2, b3⟩ := h.tb.fb f f0
  have hx := q.hx
  have W := er_10 R q.hs b2 rfl rfl
  obtain ⟨P, hP⟩ : ∃ P, ep_pC w C (nI (H.fb (f + 1))) (C.1 (w + 13) (f + 1)) (C.1 (w + 14) (f + 1)) = P := ⟨_, rfl⟩
  have r : ep_pr w C (nI (H.fb (f + 1))) (C.1 (w + 13) (f + 1)) (C.1 (w + 14) (f + 1)) P := hP ▸ ep_pCr w C (nI (H.fb (f + 1))) (C.1 (w + 13) (f + 1)) (C.1 (w + 14) (f + 1))
  rw [hP] at W
  obtain ⟨Q, hQ⟩ : ∃ Q, em_pI G 119 17 (nI (H.fb (f + 1)) - 1) = Q := ⟨_, rfl⟩
  have mp : ep_Md φ u nl H t w C0 G0 P Q := hQ ▸ ep_Md_pop h r _
  have qo : ∀ o, o ≠ 119 → Q.1 o = G.1 o := fun o ho => by rw [← hQ]; exact ef_pI' _ _ _ _ ho
  have qk : ∀ k, k ≠ 17 → Q.1 119 k = G.1 119 k := fun k hk => by rw [← hQ]; exact ef_pIk _ _ hk
  have p14 : P.1 (w + 3) 14 = nI wi := by rw [r.rk _ (by omega) (by omega) (by omega)]; exact R.c14
  have q18 : Q.1 119 18 = nI wi - 1 := by rw [qk _ (by omega)]; exact R.g18
  have lnP := ep_Ln_md mp (C0 := C0) (G0 := G0) (D := D) (nl := nl) (by
    exact ep_Ln_cg (fun o o1 o2 => (h.kc o (by omega)).symm) (by rw [h.kg _ (by omega)]) (fun o o1 o2 => (h.kg o (by omega)).symm) ln)
  have es : ∀ M : em_M, M.1 (w + 15) = P.1 (w + 15) → et_X0_escape w M (nI (f + 1)) = nI x := fun M hM => by rw [et_X0_escape, eq_atS _ (by omega) (by omega), hM, r.o1 _ (by omega)]; exact q.hx1
  have kp : ∀ M : em_M, M.2 = P.2 → et_X0_kept w M (nI (f + 1)) = C.2 (w + 16) (f + 1) := fun M hM => by rw [et_X0_kept, eq_atS_ _ (by omega) (by omega), hM, r.o2]
  obtain ⟨v0, v1, v2, v3⟩ := q.hv rfl
  rw [R.cw] at v3
  obtain ⟨s1, s2, s3, s4, s5, s6, s7⟩ := mp.tb.es x q.hx
  have nx : et_X9_next w P (P.1 (w + 3) 14) (et_X11_at (w + 23) 301 P (et_X0_escape w P (nI (f + 1)))) = nI (v0 + 1) := by
    rw [es P rfl, eq_atS _ (by omega) (by omega), s5, p14, ec_next mp.tb nw R.hwi s2, v3]
  rw [W, nx, es _ (by rw [ef_pI' _ _ _ _ (by omega)]), kp _ (by rw [eq_pI2])]
  obtain ⟨Q', hQ'⟩ : ∃ Q', em_pI Q 119 18 (nI v0) = Q' := ⟨_, rfl⟩
  have mq : ep_Md φ u nl H t w C0 G0 (em_pI P (w + 3) 14 (nI (v0 + 1))) Q' := hQ' ▸ ep_Md_pG (ep_Md_pI mp 14 _ (by omega)) 18 _ (by omega)
  have lnQ : ep_Ln φ D u nl (em_pI P (w + 3) 14 (nI (v0 + 1))) Q' := by
    rw [← hQ']
    exact ep_Ln_cg (fun o o1 o2 => ef_pI' _ _ _ _ (by omega)) (by rw [ef_pI' _ _ _ _ (by omega)]) (fun o o1 o2 => ef_pI' _ _ _ _ (by omega)) lnP
  have qk' : ∀ k, k ≠ 18 → Q'.1 119 k = Q.1 119 k := fun k hk => by rw [← hQ']; exact ef_pIk _ _ hk
  obtain ⟨g1, g2⟩ := ep_goes mq lnQ ⟨b.1, b'.2⟩ q.hx (wi := v0 + 1) (by omega) (by rw [ef_pIs _ _ rfl]) (by rw [← hQ', ef_pIs _ _ rfl, eq_q1]) q.ht
  have V : et_X12_givesOn G = et_X12_goes Q' (nI x) (G.1 119 (120 + 8 * f + 3)) (G.1 119 (120 + 8 * f + 4)) := by
    rw [et_X12_givesOn]
    simp (disch := omega) only [eq_c7, eq_c8, eq_c9, eq_c10, eq_c11, eq_c12, eq_c13, eq_c14, eq_c15, eq_c16, eq_c17, eq_c18, eq_c19, eq_c20, eq_c21, eq_c22, eq_c23, eq_c24, nI_clamp, eq_x5, eq_s4, eq_e2, nI_1, eq_p2, eq_m0, vp_in_nI, eq_f8, eq_p3, eq_p4, eq_p5, eq_p6, eq_p7, nI_pos', R.g17, R.g19, R.g20, q.hw, b3, hQ, et_X12_winds, v2, hQ', qk', qk, q.hx2, eq_false (show ¬ nI 13 = (1 : Int32) by decide), eq_false (show ¬ nI 13 = (2 : Int32) by decide), eq_false (show ¬ nI 13 = (7 : Int32) by decide), eq_false (show ¬ nI 13 = (8 : Int32) by decide), eq_false (show ¬ nI 13 = (0 : Int32) by decide), eq_false (show ¬ nI 13 = (3 : Int32) by decide), eq_false (show ¬ nI 13 = (4 : Int32) by decide), eq_false (show ¬ nI 13 = (5 : Int32) by decide), eq_false (show ¬ nI 13 = (6 : Int32) by decide), eq_false (show ¬ nI 13 = (9 : Int32) by decide), eq_false (show ¬ nI 13 = (10 : Int32) by decide), eq_false (show ¬ nI 13 = (11 : Int32) by decide), eq_true (show nI 13 = (13 : Int32) from rfl), ↓reduceIte, forall_eq', true_and, and_true, implies_true, forall_const, true_implies, false_implies, not_true_eq_false, not_false_eq_true, if_true, if_false]
  have E : es_X12_givesOn G := by
    rw [es_X12_givesOn]
    simp (disch := omega) only [eq_c7, eq_c8, eq_c9, eq_c10, eq_c11, eq_c12, eq_c13, eq_c14, eq_c15, eq_c16, eq_c17, eq_c18, eq_c19, eq_c20, eq_c21, eq_c22, eq_c23, eq_c24, nI_clamp, eq_x5, eq_s4, eq_e2, nI_1, eq_p2, eq_m0, vp_in_nI, eq_f8, eq_p3, eq_p4, eq_p5, eq_p6, eq_p7, nI_pos', R.g17, R.g19, R.g20, q.hw, b3, hQ, es_X12_winds, v2, hQ', qk', qk, q.hx2, g1, eq_false (show ¬ nI 13 = (1 : Int32) by decide), eq_false (show ¬ nI 13 = (2 : Int32) by decide), eq_false (show ¬ nI 13 = (7 : Int32) by decide), eq_false (show ¬ nI 13 = (8 : Int32) by decide), eq_false (show ¬ nI 13 = (0 : Int32) by decide), eq_false (show ¬ nI 13 = (3 : Int32) by decide), eq_false (show ¬ nI 13 = (4 : Int32) by decide), eq_false (show ¬ nI 13 = (5 : Int32) by decide), eq_false (show ¬ nI 13 = (6 : Int32) by decide), eq_false (show ¬ nI 13 = (9 : Int32) by decide), eq_false (show ¬ nI 13 = (10 : Int32) by decide), eq_false (show ¬ nI 13 = (11 : Int32) by decide), eq_true (show nI 13 = (13 : Int32) from rfl), ↓reduceIte, forall_eq', true_and, and_true, implies_true, forall_const, true_implies, false_implies, not_true_eq_false, not_false_eq_true, if_true, if_false]
  rw [V]
  exact ⟨E, g2⟩
theorem ep_over {φ : Nat → Nat × Nat} {u nl : Nat} {H : ep_H} {t w : Nat} {C0 G0 C G : em_M} (h : ep_Md φ u nl H t w C0 G0 C G) (c13 : C.1 (w + 3) 13 = nI 0) (g17 : G.1 119 17 = nI 0 - 1) (c9 : C.1 (w + 3) 9 = 1) (ht : ep_Th H.ne (C.2 (w + 3) 12) (G.1 119 19) (G.1 119 20)) : es_X12_givesOn G ∧ ep_Ps φ u nl t w C0 G0 (et_X3_receive w C) (et_X12_givesOn G) := by
  have w6 := h.w6
  have ne := h.ne
  obtain ⟨z, z1, z2, z3, z4⟩ := h.sz
  have W : et_X3_receive w C = em_pL (em_pI C (w + 4) 0 0) (w + 4) 5 (C.2 (w + 3) 12) := by
    rw [et_X3_receive, c13, if_pos nI_0]
    rfl
  have V : et_X12_givesOn G = em_pI (em_pI (em_pI G 119 8 (G.1 119 19)) 119 9 (G.1 119 20)) 119 7 0 := by
    rw [et_X12_givesOn]
    simp (disch := omega) only [eq_c7, eq_c8, eq_c9, eq_c10, eq_c11, eq_c12, eq_c13, eq_c14, eq_c15, eq_c16, eq_c17, eq_c18, eq_c19, eq_c20, eq_c21, eq_c22, eq_c23, eq_c24, g17, eq_q0, eq_false (show ¬ (0 : Int32) ≤ -1 by decide), eq_stands, ↓reduceIte, forall_eq', true_and, and_true, implies_true, forall_const, true_implies, false_implies, not_true_eq_false, not_false_eq_true, if_true, if_false]
  have E : es_X12_givesOn G := by
    rw [es_X12_givesOn]
    simp (disch := omega) only [eq_c7, eq_c8, eq_c9, eq_c10, eq_c11, eq_c12, eq_c13, eq_c14, eq_c15, eq_c16, eq_c17, eq_c18, eq_c19, eq_c20, eq_c21, eq_c22, eq_c23, eq_c24, g17, eq_q0, eq_false (show ¬ (0 : Int32) ≤ -1 by decide), eq_stands, ↓reduceIte, forall_eq', true_and, and_true, implies_true, forall_const, true_implies, false_implies, not_true_eq_false, not_false_eq_true, if_true, if_false]
  rw [W, V]
  refine ⟨E, ep_Ps.mk ?_ ?_ ?_ ?_ ?_ ?_ ?_ ?_ ⟨Or.inr ?_, by simp (disch := omega) only [eq_pL1, ef_pI']; exact h.tb.fh0, by simp (disch := omega) only [eq_pL1, ef_pI']; exact h.tb.wh0.2⟩ ?_ ?_ ?_ ?_ h.kl ?_⟩
  · intro k hk; simp (disch := omega) only [eq_pL1, ef_pI', ef_pIk]; exact h.va k hk
  · intro k hk; simp (disch := omega) only [eq_pL1, ef_pI', ef_pIk]; exact h.fu k hk
  · simp (disch := omega) only [eq_pL1, ef_pIs]
  · simp (disch := omega) only [eq_pL1, ef_pIk]; exact h.t0
  · simp (disch := omega) only [ef_pIk]; exact h.t1
  · simp (disch := omega) only [eq_pL1, ef_pIk]; exact h.dp
  · refine ⟨z, z1, by simp (disch := omega) only [eq_pL1, ef_pIk]; exact z2, by simp (disch := omega) only [ef_pIk]; exact z3, fun k hk => ?_⟩
    simp (disch := omega) only [eq_pL1, ef_pI', ef_pIk]; exact z4 k hk
  · intro _
    simp (disch := omega) only [ef_pLs, ef_pIk, ef_pIs]
    exact ep_Th_mo ht ne
  · simp (disch := omega) only [eq_pL1, ef_pI']; exact c9
  · simp (disch := omega) only [ef_pIs]
    intro q; exact absurd q (by decide)
  · intro o ho; simp (disch := omega) only [eq_pL1, ef_pI']; exact h.kc o ho
  · intro o ho; simp (disch := omega) only [ef_pL', eq_pI2]; exact h.k2 o ho
  · intro o ho; simp (disch := omega) only [ef_pI']; exact h.kg o ho
  · intro k k1 k2; simp (disch := omega) only [ef_pIk]; exact h.kr k k1 k2
theorem ep_receive {φ D : Nat → Nat × Nat} {u nl : Nat} {H : ep_H} {t w : Nat} {C0 G0 C G : em_M} (h : ep_Md φ u nl H t w C0 G0 C G) (ln : ep_Ln φ D u nl C G) (b : H.nf ≤ t ∧ H.ns ≤ t ∧ H.nw ≤ t ∧ H.ne ≤ t) {ch wi : Nat} (hch : ch ≤ H.nf) (c13 : C.1 (w + 3) 13 = nI ch) (g17 : G.1 119 17 = nI ch - 1) (hwi : wi ≤ H.nw) (c14 : C.1 (w + 3) 14 = nI wi) (g18 : G.1 119 18 = nI wi - 1) (cw : ch ≠ 0 → H.W ch = wi) (c9 : C.1 (w + 3) 9 = 1) (g13 : G.1 119 13 = 1) (ht : ep_Th H.ne (C.2 (w + 3) 12) (G.1 119 19) (G.1 119 20)) : es_X12_givesOn G ∧ ep_Ps φ u nl t w C0 G0 (et_X3_receive w C) (et_X12_givesOn G) := by
  cases ch with
  | zero => exact ep_over h c13 g17 c9 ht
  | succ f =>
    have R : ep_Rc φ D u nl H t w C0 G0 C G f wi (C.2 (w + 3) 12) (G.1 119 19) (G.1 119 20) := ep_Rc.mk h ln b hch c13 (by rw [g17, eq_q1]) hwi c14 g18 (cw (by omega)) c9 g13 rfl rfl rfl ht
    rcases h.tb.fk f hch with ⟨so, be, wh, e, sc, q⟩ | ⟨e, sc, p, q⟩ | ⟨so, wh, x, q⟩
    · have hS := q.hS
      unfold ep_S at hS
      rcases hS with ⟨rfl, rfl, rfl⟩ | ⟨rfl, rfl, rfl⟩ | ⟨rfl, rfl, rfl⟩ | ⟨rfl, rfl, rfl⟩ | ⟨rfl, rfl, rfl⟩ | ⟨rfl, rfl, rfl⟩ | ⟨rfl, rfl, rfl⟩ | ⟨rfl, rfl, rfl⟩ | ⟨rfl, rfl, rfl⟩ | ⟨rfl, rfl, rfl⟩ | ⟨rfl, rfl, rfl⟩
      · exact ep_r00 R q
      · exact ep_r01 R q
      · exact ep_r1 R q
      · exact ep_r2 R q
      · exact ep_r4 R q
      · exact ep_r5 R q
      · exact ep_r6 R q
      · exact ep_r7 R q
      · exact ep_r80 R q
      · exact ep_r81 R q
      · exact ep_r82 R q
    · exact ep_r3 R q
    · rcases q.hsw with ⟨rfl, rfl⟩ | ⟨rfl, rfl⟩
      · exact ep_r9 R q
      · exact ep_r10 R q
