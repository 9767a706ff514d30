/-! a STEP that gives a THING, by the frame: the others -/
set_option maxHeartbeats 4000000 in
theorem ep_r4 {φ D : Nat → Nat × Nat} {u nl : Nat} {H : ep_H} {t w : Nat} {C0 G0 C G : em_M} {f wi : Nat} {v : Int64} {ie y : Int32} (R : ep_Rc φ D u nl H t w C0 G0 C G f wi v ie y) {e sc : Nat} (q : ep_F1 φ u H w 119 C G f 4 0 5 e sc) : es_X12_givesOn G ∧ ep_Ps φ u nl t w C0 G0 (et_X3_receive w C) (et_X12_givesOn G) := by
  have h := R.md
  have ln := R.ln
  have w6 := h.w6
  have t3 := h.t3
  have n8 := ln.n8
  have hu := ln.hu
  have nf := h.nf
  have ns := h.ns
  have nw := h.nw
  have ne := h.ne
  have b := R.b
  have b' : H.nf ≤ t + 1 ∧ H.ns ≤ t + 1 ∧ H.nw ≤ t + 1 ∧ H.ne ≤ t + 1 := by omega
  have f0 := R.f0
  have he := q.he
  obtain ⟨b1, b2, b3⟩ := h.tb.fb f f0
  have hm : (φ e).1 < 808 := by have := ln.hm e he; omega
  obtain ⟨sg, np, nd⟩ := ep_n4 ln he q.hk (by omega) (by omega)
  have hK := nd.hK
  have W := er_4 R q.hs b2 q.he1 q.hc1
  obtain ⟨P, hP⟩ : ∃ P, ep_pC w C (nI (H.fb (f + 1))) (nI e) (nI sc) = P := ⟨_, rfl⟩
  have r : ep_pr w C (nI (H.fb (f + 1))) (nI e) (nI sc) P := hP ▸ ep_pCr w C (nI (H.fb (f + 1))) (nI e) (nI sc)
  rw [hP] at W
  obtain ⟨Q, hQ⟩ : ∃ Q, em_pI G 119 17 (nI (H.fb (f + 1)) - 1) = Q := ⟨_, rfl⟩
  have mp : ep_Md φ u nl H t w C0 G0 P Q := hQ ▸ ep_Md_pop h r _
  have qo : ∀ o, o ≠ 119 → Q.1 o = G.1 o := fun o ho => by rw [← hQ]; exact ef_pI' _ _ _ _ ho
  have qk : ∀ k, k ≠ 17 → Q.1 119 k = G.1 119 k := fun k hk => by rw [← hQ]; exact ef_pIk _ _ hk
  have q17 : Q.1 119 17 = nI (H.fb (f + 1)) - 1 := by rw [← hQ]; exact ef_pIs _ _ rfl
  have q2 : Q.2 = G.2 := by rw [← hQ]; rfl
  have p9 : P.1 (w + 3) 9 = 1 := by rw [r.rk _ (by omega) (by omega) (by omega)]; exact R.c9
  have p14 : P.1 (w + 3) 14 = nI wi := by rw [r.rk _ (by omega) (by omega) (by omega)]; exact R.c14
  have p12 : P.2 (w + 3) 12 = v := by rw [r.o2]; exact R.c12
  have q18 : Q.1 119 18 = nI wi - 1 := by rw [qk _ (by omega)]; exact R.g18
  have hch : H.fb (f + 1) ≤ H.nf := by omega
  have cwp : H.fb (f + 1) ≠ 0 → H.W (H.fb (f + 1)) = wi := fun z => by rw [← q.hW z (by omega)]; exact R.cw
  have hsg : sg = 70 ∨ sg = 71 ∨ sg = 72 := by unfold ep_K at hK; omega
  have mk : et_X2_mark P (nI e) = nI (sg - 70) := by rw [et_X2_mark, eq_atS _ (by omega) (by omega), r.o1 _ (by omega)]; exact nd.hf rfl
  have sm : nI sg - 70 = nI (sg - 70) := by rcases hsg with rfl | rfl | rfl <;> rfl
  obtain ⟨fu1, fu2⟩ := mp.fu (sg - 70) (by omega)
  have fw : et_X11_at (w + 2) 3 P (nI (sg - 70)) = Q.1 119 (4 + (sg - 70)) := by rw [eq_atS _ (by omega) (by omega)]; exact fu1
  rw [W, mk, fw]
  have V0 : et_X12_givesOn G = et_X12_calls Q (nI (sg - 70)) ie y := by
    rw [et_X12_givesOn]
    simp (disch := omega) only [eq_c7, eq_c8, eq_c9, eq_c10, eq_c11, eq_c12, eq_c13, eq_c14, eq_c15, eq_c16, eq_c17, eq_c18, eq_c19, eq_c20, eq_c21, eq_c22, eq_c23, eq_c24, nI_clamp, eq_x5, eq_s4, eq_e2, nI_1, eq_p2, eq_m0, vp_in_nI, eq_f8, eq_p3, eq_p4, eq_p5, eq_p6, eq_p7, nI_pos', R.g17, R.g19, R.g20, q.hw, q.he2, q.hc2, b3, hQ, qo, nd.hs, sm, eq_false (show ¬ nI 5 = (1 : Int32) by decide), eq_false (show ¬ nI 5 = (2 : Int32) by decide), eq_false (show ¬ nI 5 = (7 : Int32) by decide), eq_false (show ¬ nI 5 = (8 : Int32) by decide), eq_false (show ¬ nI 5 = (0 : Int32) by decide), eq_false (show ¬ nI 5 = (3 : Int32) by decide), eq_false (show ¬ nI 5 = (4 : Int32) by decide), eq_true (show nI 5 = (5 : Int32) from rfl), eq_false (show ¬ nI 5 = (6 : Int32) by decide), eq_false (show ¬ nI 5 = (9 : Int32) by decide), eq_false (show ¬ nI 5 = (10 : Int32) by decide), eq_false (show ¬ nI 5 = (11 : Int32) by decide), eq_false (show ¬ nI 5 = (13 : Int32) by decide), ↓reduceIte, forall_eq', true_and, and_true, implies_true, forall_const, true_implies, false_implies, not_true_eq_false, not_false_eq_true, if_true, if_false]
  have E0 : es_X12_givesOn G = es_X12_calls Q (nI (sg - 70)) ie y := by
    rw [es_X12_givesOn]
    simp (disch := omega) only [eq_c7, eq_c8, eq_c9, eq_c10, eq_c11, eq_c12, eq_c13, eq_c14, eq_c15, eq_c16, eq_c17, eq_c18, eq_c19, eq_c20, eq_c21, eq_c22, eq_c23, eq_c24, nI_clamp, eq_x5, eq_s4, eq_e2, nI_1, eq_p2, eq_m0, vp_in_nI, eq_f8, eq_p3, eq_p4, eq_p5, eq_p6, eq_p7, nI_pos', R.g17, R.g19, R.g20, q.hw, q.he2, q.hc2, b3, hQ, qo, nd.hs, sm, eq_false (show ¬ nI 5 = (1 : Int32) by decide), eq_false (show ¬ nI 5 = (2 : Int32) by decide), eq_false (show ¬ nI 5 = (7 : Int32) by decide), eq_false (show ¬ nI 5 = (8 : Int32) by decide), eq_false (show ¬ nI 5 = (0 : Int32) by decide), eq_false (show ¬ nI 5 = (3 : Int32) by decide), eq_false (show ¬ nI 5 = (4 : Int32) by decide), eq_true (show nI 5 = (5 : Int32) from rfl), eq_false (show ¬ nI 5 = (6 : Int32) by decide), eq_false (show ¬ nI 5 = (9 : Int32) by decide), eq_false (show ¬ nI 5 = (10 : Int32) by decide), eq_false (show ¬ nI 5 = (11 : Int32) by decide), eq_false (show ¬ nI 5 = (13 : Int32) by decide), ↓reduceIte, forall_eq', true_and, and_true, implies_true, forall_const, true_implies, false_implies, not_true_eq_false, not_false_eq_true, if_true, if_false]
  rw [V0, E0]
  have lnP := ep_Ln_md mp (C0 := C0) (G0 := G0) (D := D) (nl := nl) (by
    exact ep_Ln_cg (fun o o1 o2 => (h.kc o (by omega)).symm) (by rw [h.kg _ (by omega)]) (fun o o1 o2 => (h.kg o (by omega)).symm) ln)
  rcases fu2 with z | ⟨l, hl, z⟩
  · have W2 : et_X3_call w P (Q.1 119 (4 + (sg - 70))) = em_pI P (w + 4) 0 3 := by
      rw [et_X3_call, z]
      rfl
    have V : et_X12_calls Q (nI (sg - 70)) ie y = em_pI Q 119 7 3 := by
      rw [et_X12_calls]
      simp (disch := omega) only [eq_m4, nI_clamp, z, eq_false (show ¬ (0 : Int32) ≤ -5 by decide), eq_stands, ↓reduceIte, forall_eq', true_and, and_true, implies_true, forall_const, true_implies, false_implies, not_true_eq_false, not_false_eq_true, if_true, if_false]
    have E : es_X12_calls Q (nI (sg - 70)) ie y := by
      rw [es_X12_calls]
      simp (disch := omega) only [eq_m4, nI_clamp, vp_in_nI, z, eq_false (show ¬ (0 : Int32) ≤ -5 by decide), eq_stands, ↓reduceIte, forall_eq', true_and, and_true, implies_true, forall_const, true_implies, false_implies, not_true_eq_false, not_false_eq_true, if_true, if_false]
    rw [W2, V]
    exact ⟨E, ep_stopP h 3 (by decide) R.c9 r qo q2 (fun k hk => qk k (by omega))⟩
  · obtain ⟨e0, r1, r2, r3, -, -⟩ := lnP.ro l hl
    obtain ⟨C2, G2, m1, m2, m3, m4, m5, m6, m7, m8⟩ := ep_bind mp (by omega) 0 0 (Nat.zero_le _) (by omega) R.ht
    have hz : ¬ et_X2_has P (nI l) = 0 := by
      rw [et_X2_has, lnP.sz, if_neg (nI_pos (by omega)), if_neg (nI_ge hl (by omega))]
      decide
    have W2 : et_X3_call w P (Q.1 119 (4 + (sg - 70))) = em_pI (em_pI (em_pI C2 (w + 3) 11 (nI (H.ns + 1))) (w + 3) 10 (nI e0)) (w + 3) 9 0 := by
      have m1' : et_X7_bind w P (0 : Int32) (0 : Int32) v = (nI (H.ns + 1), C2) := m1
      have rr : et_X2_root (em_pI C2 (w + 3) 11 (nI (H.ns + 1))) (nI l) = nI e0 := by
        rw [et_X2_root, eq_atS _ (by omega) (by omega), ef_pI' _ _ _ _ (by omega), m5 _ (by omega)]; exact r2
      rw [et_X3_call, z]
      simp only [eq_false hz, if_false, p12, m1', rr]
    have m2' : es_X12_bound Q (-1) 0 ie y := m2
    have m3' : et_X12_bound Q (-1) 0 ie y = (nI H.ns, G2) := m3
    have V : et_X12_calls Q (nI (sg - 70)) ie y = et_X12_works G2 (nI (101 * l)) 0 (nI H.ns) := by
      rw [et_X12_calls]
      simp (disch := omega) only [eq_m4, nI_clamp, z, nI_pos', eq_x101, m3', ↓reduceIte, forall_eq', true_and, and_true, implies_true, forall_const, true_implies, false_implies, not_true_eq_false, not_false_eq_true, if_true, if_false]
    have E : es_X12_calls Q (nI (sg - 70)) ie y := by
      rw [es_X12_calls]
      simp (disch := omega) only [eq_m4, nI_clamp, vp_in_nI, z, nI_pos', eq_x101, m2', m3', ↓reduceIte, forall_eq', true_and, and_true, implies_true, forall_const, true_implies, false_implies, not_true_eq_false, not_false_eq_true, if_true, if_false]
    have mm : ep_Md φ u nl (ep_aS H) t w C0 G0 (em_pI C2 (w + 3) 11 (nI (H.ns + 1))) G2 := ep_Md_pI m4 11 _ (by omega)
    rw [W2, V]
    refine ⟨E, ep_wk mm ⟨by show H.nf ≤ _; omega, by show H.ns + 1 ≤ _; omega, by show H.nw ≤ _; omega, by show H.ne ≤ _; omega⟩ hch (sc := H.ns + 1) ?_ ?_ R.hwi ?_ cwp r1 (Nat.le_refl _) ?_ rfl (ep_fwW (by rw [r3]) (by rw [r3]; rfl) (by rw [eq_q1]) ?_)⟩
    · rw [ef_pIk _ _ (by omega), m5 _ (by omega)]; exact r.r13
    · rw [m7 _ (by omega)]; exact q17
    · rw [ef_pIk _ _ (by omega), m5 _ (by omega)]; exact p14
    · rw [ef_pIs _ _ rfl]
    · rw [m7 _ (by omega)]; exact q18
set_option maxHeartbeats 4000000 in
theorem ep_r5 {φ D : Nat → Nat × Nat} {u nl : Nat} {H : ep_H} {t w : Nat} {C0 G0 C G : em_M} {f wi : Nat} {v : Int64} {ie y : Int32} (R : ep_Rc φ D u nl H t w C0 G0 C G f wi v ie y) {e sc : Nat} (q : ep_F1 φ u H w 119 C G f 5 0 6 e sc) : es_X12_givesOn G ∧ ep_Ps φ u nl t w C0 G0 (et_X3_receive w C) (et_X12_givesOn G) := by
  have h := R.md
  have ln := R.ln
  have w6 := h.w6
  have t3 := h.t3
  have n8 := ln.n8
  have hu := ln.hu
  have nf := h.nf
  have ns := h.ns
  have nw := h.nw
  have ne := h.ne
  have b := R.b
  have b' : H.nf ≤ t + 1 ∧ H.ns ≤ t + 1 ∧ H.nw ≤ t + 1 ∧ H.ne ≤ t + 1 := by omega
  have f0 := R.f0
  have he := q.he
  obtain ⟨b1, b2, b3⟩ := h.tb.fb f f0
  have hm : (φ e).1 < 808 := by have := ln.hm e he; omega
  obtain ⟨sg, np, nd⟩ := ep_n4 ln he q.hk (by omega) (by omega)
  have hK := nd.hK
  have W := er_5 R q.hs b2 q.he1 q.hc1
  obtain ⟨P, hP⟩ : ∃ P, ep_pC w C (nI (H.fb (f + 1))) (nI e) (nI sc) = P := ⟨_, rfl⟩
  have r : ep_pr w C (nI (H.fb (f + 1))) (nI e) (nI sc) P := hP ▸ ep_pCr w C (nI (H.fb (f + 1))) (nI e) (nI sc)
  rw [hP] at W
  obtain ⟨Q, hQ⟩ : ∃ Q, em_pI G 119 17 (nI (H.fb (f + 1)) - 1) = Q := ⟨_, rfl⟩
  have mp : ep_Md φ u nl H t w C0 G0 P Q := hQ ▸ ep_Md_pop h r _
  have qo : ∀ o, o ≠ 119 → Q.1 o = G.1 o := fun o ho => by rw [← hQ]; exact ef_pI' _ _ _ _ ho
  have qk : ∀ k, k ≠ 17 → Q.1 119 k = G.1 119 k := fun k hk => by rw [← hQ]; exact ef_pIk _ _ hk
  have q17 : Q.1 119 17 = nI (H.fb (f + 1)) - 1 := by rw [← hQ]; exact ef_pIs _ _ rfl
  have q2 : Q.2 = G.2 := by rw [← hQ]; rfl
  have p9 : P.1 (w + 3) 9 = 1 := by rw [r.rk _ (by omega) (by omega) (by omega)]; exact R.c9
  have p14 : P.1 (w + 3) 14 = nI wi := by rw [r.rk _ (by omega) (by omega) (by omega)]; exact R.c14
  have p12 : P.2 (w + 3) 12 = v := by rw [r.o2]; exact R.c12
  have q18 : Q.1 119 18 = nI wi - 1 := by rw [qk _ (by omega)]; exact R.g18
  have hch : H.fb (f + 1) ≤ H.nf := by omega
  obtain ⟨x, x1, x2, x3⟩ := q.hx rfl
  have lnP := ep_Ln_md mp (C0 := C0) (G0 := G0) (D := D) (nl := nl) (by
    exact ep_Ln_cg (fun o o1 o2 => (h.kc o (by omega)).symm) (by rw [h.kg _ (by omega)]) (fun o o1 o2 => (h.kg o (by omega)).symm) ln)
  have es : et_X0_escape w P (nI (f + 1)) = nI x := by rw [et_X0_escape, eq_atS _ (by omega) (by omega), r.o1 _ (by omega)]; exact x2
  rw [W, es]
  obtain ⟨g1, g2⟩ := ep_goes mp lnP ⟨b.1, b'.2⟩ x1 R.hwi p14 q18 R.ht
  have V : et_X12_givesOn G = et_X12_goes Q (nI x) ie y := by
    rw [et_X12_givesOn]
    simp (disch := omega) only [eq_c7, eq_c8, eq_c9, eq_c10, eq_c11, eq_c12, eq_c13, eq_c14, eq_c15, eq_c16, eq_c17, eq_c18, eq_c19, eq_c20, eq_c21, eq_c22, eq_c23, eq_c24, nI_clamp, eq_x5, eq_s4, eq_e2, nI_1, eq_p2, eq_m0, vp_in_nI, eq_f8, eq_p3, eq_p4, eq_p5, eq_p6, eq_p7, nI_pos', R.g17, R.g19, R.g20, q.hw, q.he2, q.hc2, b3, hQ, qo, qk, x3, eq_false (show ¬ nI 6 = (1 : Int32) by decide), eq_false (show ¬ nI 6 = (2 : Int32) by decide), eq_false (show ¬ nI 6 = (7 : Int32) by decide), eq_false (show ¬ nI 6 = (8 : Int32) by decide), eq_false (show ¬ nI 6 = (0 : Int32) by decide), eq_false (show ¬ nI 6 = (3 : Int32) by decide), eq_false (show ¬ nI 6 = (4 : Int32) by decide), eq_false (show ¬ nI 6 = (5 : Int32) by decide), eq_true (show nI 6 = (6 : Int32) from rfl), eq_false (show ¬ nI 6 = (9 : Int32) by decide), eq_false (show ¬ nI 6 = (10 : Int32) by decide), eq_false (show ¬ nI 6 = (11 : Int32) by decide), eq_false (show ¬ nI 6 = (13 : Int32) by decide), ↓reduceIte, forall_eq', true_and, and_true, implies_true, forall_const, true_implies, false_implies, not_true_eq_false, not_false_eq_true, if_true, if_false]
  have E : es_X12_givesOn G := by
    rw [es_X12_givesOn]
    simp (disch := omega) only [eq_c7, eq_c8, eq_c9, eq_c10, eq_c11, eq_c12, eq_c13, eq_c14, eq_c15, eq_c16, eq_c17, eq_c18, eq_c19, eq_c20, eq_c21, eq_c22, eq_c23, eq_c24, nI_clamp, eq_x5, eq_s4, eq_e2, nI_1, eq_p2, eq_m0, vp_in_nI, eq_f8, eq_p3, eq_p4, eq_p5, eq_p6, eq_p7, nI_pos', R.g17, R.g19, R.g20, q.hw, q.he2, q.hc2, b3, hQ, qo, qk, x3, g1, eq_false (show ¬ nI 6 = (1 : Int32) by decide), eq_false (show ¬ nI 6 = (2 : Int32) by decide), eq_false (show ¬ nI 6 = (7 : Int32) by decide), eq_false (show ¬ nI 6 = (8 : Int32) by decide), eq_false (show ¬ nI 6 = (0 : Int32) by decide), eq_false (show ¬ nI 6 = (3 : Int32) by decide), eq_false (show ¬ nI 6 = (4 : Int32) by decide), eq_false (show ¬ nI 6 = (5 : Int32) by decide), eq_true (show nI 6 = (6 : Int32) from rfl), eq_false (show ¬ nI 6 = (9 : Int32) by decide), eq_false (show ¬ nI 6 = (10 : Int32) by decide), eq_false (show ¬ nI 6 = (11 : Int32) by decide), eq_false (show ¬ nI 6 = (13 : Int32) by decide), ↓reduceIte, forall_eq', true_and, and_true, implies_true, forall_const, true_implies, false_implies, not_true_eq_false, not_false_eq_true, if_true, if_false]
  rw [V]
  exact ⟨E, g2⟩
set_option maxHeartbeats 4000000 in
theorem ep_r6 {φ D : Nat → Nat × Nat} {u nl : Nat} {H : ep_H} {t w : Nat} {C0 G0 C G : em_M} {f wi : Nat} {v : Int64} {ie y : Int32} (R : ep_Rc φ D u nl H t w C0 G0 C G f wi v ie y) {e sc : Nat} (q : ep_F1 φ u H w 119 C G f 6 0 7 e sc) : es_X12_givesOn G ∧ ep_Ps φ u nl t w C0 G0 (et_X3_receive w C) (et_X12_givesOn G) := by
  have h := R.md
  have ln := R.ln
  have w6 := h.w6
  have t3 := h.t3
  have n8 := ln.n8
  have hu := ln.hu
  have nf := h.nf
  have ns := h.ns
  have nw := h.nw
  have ne := h.ne
  have b := R.b
  have b' : H.nf ≤ t + 1 ∧ H.ns ≤ t + 1 ∧ H.nw ≤ t + 1 ∧ H.ne ≤ t + 1 := by omega
  have f0 := R.f0
  have he := q.he
  obtain ⟨b1, b2, b3⟩ := h.tb.fb f f0
  have hm : (φ e).1 < 808 := by have := ln.hm e he; omega
  obtain ⟨sg, np, nd⟩ := ep_n4 ln he q.hk (by omega) (by omega)
  have hK := nd.hK
  have W := er_6 R q.hs b2 q.he1 q.hc1
  obtain ⟨P, hP⟩ : ∃ P, ep_pC w C (nI (H.fb (f + 1))) (nI e) (nI sc) = P := ⟨_, rfl⟩
  have r : ep_pr w C (nI (H.fb (f + 1))) (nI e) (nI sc) P := hP ▸ ep_pCr w C (nI (H.fb (f + 1))) (nI e) (nI sc)
  rw [hP] at W
  obtain ⟨Q, hQ⟩ : ∃ Q, em_pI G 119 17 (nI (H.fb (f + 1)) - 1) = Q := ⟨_, rfl⟩
  have mp : ep_Md φ u nl H t w C0 G0 P Q := hQ ▸ ep_Md_pop h r _
  have qo : ∀ o, o ≠ 119 → Q.1 o = G.1 o := fun o ho => by rw [← hQ]; exact ef_pI' _ _ _ _ ho
  have qk : ∀ k, k ≠ 17 → Q.1 119 k = G.1 119 k := fun k hk => by rw [← hQ]; exact ef_pIk _ _ hk
  have q17 : Q.1 119 17 = nI (H.fb (f + 1)) - 1 := by rw [← hQ]; exact ef_pIs _ _ rfl
  have q2 : Q.2 = G.2 := by rw [← hQ]; rfl
  have p9 : P.1 (w + 3) 9 = 1 := by rw [r.rk _ (by omega) (by omega) (by omega)]; exact R.c9
  have p14 : P.1 (w + 3) 14 = nI wi := by rw [r.rk _ (by omega) (by omega) (by omega)]; exact R.c14
  have p12 : P.2 (w + 3) 12 = v := by rw [r.o2]; exact R.c12
  have q18 : Q.1 119 18 = nI wi - 1 := by rw [qk _ (by omega)]; exact R.g18
  have hch : H.fb (f + 1) ≤ H.nf := by omega
  have cwp : H.fb (f + 1) ≠ 0 → H.W (H.fb (f + 1)) = wi := fun z => by rw [← q.hW z (by omega)]; exact R.cw
  have stp : ep_Ps φ u nl t w C0 G0 (em_pI P (w + 4) 0 2) (em_pI G 119 7 2) := ep_stopP h 2 (by decide) R.c9 r (fun _ _ => rfl) rfl (fun _ _ => rfl)
  rw [W]
  simp only [eq_num0 R.ht ne]
  by_cases i1 : ie = 1
  · have V : et_X12_givesOn G = em_pI G 119 7 2 := by
      rw [et_X12_givesOn]
      simp (disch := omega) only [eq_c7, eq_c8, eq_c9, eq_c10, eq_c11, eq_c12, eq_c13, eq_c14, eq_c15, eq_c16, eq_c17, eq_c18, eq_c19, eq_c20, eq_c21, eq_c22, eq_c23, eq_c24, nI_clamp, eq_x5, eq_s4, eq_e2, nI_1, eq_p2, eq_m0, vp_in_nI, eq_f8, eq_p3, eq_p4, eq_p5, eq_p6, eq_p7, nI_pos', R.g17, R.g19, R.g20, q.hw, q.he2, q.hc2, b3, hQ, eq_true i1, eq_stands, eq_false (show ¬ nI 7 = (1 : Int32) by decide), eq_false (show ¬ nI 7 = (2 : Int32) by decide), eq_true (show nI 7 = (7 : Int32) from rfl), eq_false (show ¬ nI 7 = (8 : Int32) by decide), eq_false (show ¬ nI 7 = (0 : Int32) by decide), eq_false (show ¬ nI 7 = (3 : Int32) by decide), eq_false (show ¬ nI 7 = (4 : Int32) by decide), eq_false (show ¬ nI 7 = (5 : Int32) by decide), eq_false (show ¬ nI 7 = (6 : Int32) by decide), eq_false (show ¬ nI 7 = (9 : Int32) by decide), eq_false (show ¬ nI 7 = (10 : Int32) by decide), eq_false (show ¬ nI 7 = (11 : Int32) by decide), eq_false (show ¬ nI 7 = (13 : Int32) by decide), ↓reduceIte, forall_eq', true_and, and_true, implies_true, forall_const, true_implies, false_implies, not_true_eq_false, not_false_eq_true, if_true, if_false]
    have E : es_X12_givesOn G := by
      rw [es_X12_givesOn]
      simp (disch := omega) only [eq_c7, eq_c8, eq_c9, eq_c10, eq_c11, eq_c12, eq_c13, eq_c14, eq_c15, eq_c16, eq_c17, eq_c18, eq_c19, eq_c20, eq_c21, eq_c22, eq_c23, eq_c24, nI_clamp, eq_x5, eq_s4, eq_e2, nI_1, eq_p2, eq_m0, vp_in_nI, eq_f8, eq_p3, eq_p4, eq_p5, eq_p6, eq_p7, nI_pos', R.g17, R.g19, R.g20, q.hw, q.he2, q.hc2, b3, hQ, eq_true i1, eq_stands, eq_false (show ¬ nI 7 = (1 : Int32) by decide), eq_false (show ¬ nI 7 = (2 : Int32) by decide), eq_true (show nI 7 = (7 : Int32) from rfl), eq_false (show ¬ nI 7 = (8 : Int32) by decide), eq_false (show ¬ nI 7 = (0 : Int32) by decide), eq_false (show ¬ nI 7 = (3 : Int32) by decide), eq_false (show ¬ nI 7 = (4 : Int32) by decide), eq_false (show ¬ nI 7 = (5 : Int32) by decide), eq_false (show ¬ nI 7 = (6 : Int32) by decide), eq_false (show ¬ nI 7 = (9 : Int32) by decide), eq_false (show ¬ nI 7 = (10 : Int32) by decide), eq_false (show ¬ nI 7 = (11 : Int32) by decide), eq_false (show ¬ nI 7 = (13 : Int32) by decide), ↓reduceIte, forall_eq', true_and, and_true, implies_true, forall_const, true_implies, false_implies, not_true_eq_false, not_false_eq_true, if_true, if_false]
    rw [V, if_pos i1]
    exact ⟨E, stp⟩
  · obtain ⟨-, z1, z2⟩ := eq_numv R.ht i1
    rw [if_neg i1, z2]
    rcases ep_Md_wr mp y with ⟨o1, o2⟩ | ⟨z, o1, o2, o3, o4⟩
    · have W2 : et_X4_write (w + 4) P y = P := by
        rw [et_X4_write, o1]
        exact if_pos (by decide)
      have V : et_X12_givesOn G = Q := by
        rw [et_X12_givesOn]
        simp (disch := omega) only [eq_c7, eq_c8, eq_c9, eq_c10, eq_c11, eq_c12, eq_c13, eq_c14, eq_c15, eq_c16, eq_c17, eq_c18, eq_c19, eq_c20, eq_c21, eq_c22, eq_c23, eq_c24, nI_clamp, eq_x5, eq_s4, eq_e2, nI_1, eq_p2, eq_m0, vp_in_nI, eq_f8, eq_p3, eq_p4, eq_p5, eq_p6, eq_p7, nI_pos', R.g17, R.g19, R.g20, q.hw, q.he2, q.hc2, b3, hQ, eq_false i1, o2, eq_true (show (40 : Int32) ≤ 40 by decide), eq_false (show ¬ nI 7 = (1 : Int32) by decide), eq_false (show ¬ nI 7 = (2 : Int32) by decide), eq_true (show nI 7 = (7 : Int32) from rfl), eq_false (show ¬ nI 7 = (8 : Int32) by decide), eq_false (show ¬ nI 7 = (0 : Int32) by decide), eq_false (show ¬ nI 7 = (3 : Int32) by decide), eq_false (show ¬ nI 7 = (4 : Int32) by decide), eq_false (show ¬ nI 7 = (5 : Int32) by decide), eq_false (show ¬ nI 7 = (6 : Int32) by decide), eq_false (show ¬ nI 7 = (9 : Int32) by decide), eq_false (show ¬ nI 7 = (10 : Int32) by decide), eq_false (show ¬ nI 7 = (11 : Int32) by decide), eq_false (show ¬ nI 7 = (13 : Int32) by decide), ↓reduceIte, forall_eq', true_and, and_true, implies_true, forall_const, true_implies, false_implies, not_true_eq_false, not_false_eq_true, if_true, if_false]
      have E : es_X12_givesOn G := by
        rw [es_X12_givesOn]
        simp (disch := omega) only [eq_c7, eq_c8, eq_c9, eq_c10, eq_c11, eq_c12, eq_c13, eq_c14, eq_c15, eq_c16, eq_c17, eq_c18, eq_c19, eq_c20, eq_c21, eq_c22, eq_c23, eq_c24, nI_clamp, eq_x5, eq_s4, eq_e2, nI_1, eq_p2, eq_m0, vp_in_nI, eq_f8, eq_p3, eq_p4, eq_p5, eq_p6, eq_p7, nI_pos', R.g17, R.g19, R.g20, q.hw, q.he2, q.hc2, b3, hQ, eq_false i1, o2, eq_true (show (40 : Int32) ≤ 40 by decide), eq_false (show ¬ nI 7 = (1 : Int32) by decide), eq_false (show ¬ nI 7 = (2 : Int32) by decide), eq_true (show nI 7 = (7 : Int32) from rfl), eq_false (show ¬ nI 7 = (8 : Int32) by decide), eq_false (show ¬ nI 7 = (0 : Int32) by decide), eq_false (show ¬ nI 7 = (3 : Int32) by decide), eq_false (show ¬ nI 7 = (4 : Int32) by decide), eq_false (show ¬ nI 7 = (5 : Int32) by decide), eq_false (show ¬ nI 7 = (6 : Int32) by decide), eq_false (show ¬ nI 7 = (9 : Int32) by decide), eq_false (show ¬ nI 7 = (10 : Int32) by decide), eq_false (show ¬ nI 7 = (11 : Int32) by decide), eq_false (show ¬ nI 7 = (13 : Int32) by decide), ↓reduceIte, forall_eq', true_and, and_true, implies_true, forall_const, true_implies, false_implies, not_true_eq_false, not_false_eq_true, if_true, if_false]
      rw [W2, V]
      exact ⟨E, ep_fin mp b' _ _ hch r.r13 q17 R.hwi p14 q18 cwp (Or.inr ⟨p9, by rw [qk _ (by omega)]; exact R.g13, by rw [p12, qk _ (by omega), qk _ (by omega), R.g19, R.g20]; exact R.ht⟩)⟩
    · have p40 : (40 ≤ nI z) = False := eq_false (nI_ge (b := 40) o1 (by omega))
      have W2 : et_X4_write (w + 4) P y = em_pI (em_pI P (w + 5) z y) (w + 4) 3 (nI (z + 1)) := by
        rw [et_X4_write, o2]
        simp (disch := omega) only [p40, if_false, eq_putS, ef_pI', o2, nI_1]
      have V : et_X12_givesOn G = em_pI (em_pI Q 119 (74 + z) y) 119 12 (nI (z + 1)) := by
        rw [et_X12_givesOn]
        simp (disch := omega) only [eq_c7, eq_c8, eq_c9, eq_c10, eq_c11, eq_c12, eq_c13, eq_c14, eq_c15, eq_c16, eq_c17, eq_c18, eq_c19, eq_c20, eq_c21, eq_c22, eq_c23, eq_c24, nI_clamp, eq_x5, eq_s4, eq_e2, nI_1, eq_p2, eq_m0, vp_in_nI, eq_f8, eq_p3, eq_p4, eq_p5, eq_p6, eq_p7, nI_pos', R.g17, R.g19, R.g20, q.hw, q.he2, q.hc2, b3, hQ, eq_false i1, o3, p40, eq_m74, ef_pIk, eq_false (show ¬ nI 7 = (1 : Int32) by decide), eq_false (show ¬ nI 7 = (2 : Int32) by decide), eq_true (show nI 7 = (7 : Int32) from rfl), eq_false (show ¬ nI 7 = (8 : Int32) by decide), eq_false (show ¬ nI 7 = (0 : Int32) by decide), eq_false (show ¬ nI 7 = (3 : Int32) by decide), eq_false (show ¬ nI 7 = (4 : Int32) by decide), eq_false (show ¬ nI 7 = (5 : Int32) by decide), eq_false (show ¬ nI 7 = (6 : Int32) by decide), eq_false (show ¬ nI 7 = (9 : Int32) by decide), eq_false (show ¬ nI 7 = (10 : Int32) by decide), eq_false (show ¬ nI 7 = (11 : Int32) by decide), eq_false (show ¬ nI 7 = (13 : Int32) by decide), ↓reduceIte, forall_eq', true_and, and_true, implies_true, forall_const, true_implies, false_implies, not_true_eq_false, not_false_eq_true, if_true, if_false]
      have E : es_X12_givesOn G := by
        rw [es_X12_givesOn]
        simp (disch := omega) only [eq_c7, eq_c8, eq_c9, eq_c10, eq_c11, eq_c12, eq_c13, eq_c14, eq_c15, eq_c16, eq_c17, eq_c18, eq_c19, eq_c20, eq_c21, eq_c22, eq_c23, eq_c24, nI_clamp, eq_x5, eq_s4, eq_e2, nI_1, eq_p2, eq_m0, vp_in_nI, eq_f8, eq_p3, eq_p4, eq_p5, eq_p6, eq_p7, nI_pos', R.g17, R.g19, R.g20, q.hw, q.he2, q.hc2, b3, hQ, eq_false i1, o3, p40, eq_m74, ef_pIk, eq_false (show ¬ nI 7 = (1 : Int32) by decide), eq_false (show ¬ nI 7 = (2 : Int32) by decide), eq_true (show nI 7 = (7 : Int32) from rfl), eq_false (show ¬ nI 7 = (8 : Int32) by decide), eq_false (show ¬ nI 7 = (0 : Int32) by decide), eq_false (show ¬ nI 7 = (3 : Int32) by decide), eq_false (show ¬ nI 7 = (4 : Int32) by decide), eq_false (show ¬ nI 7 = (5 : Int32) by decide), eq_false (show ¬ nI 7 = (6 : Int32) by decide), eq_false (show ¬ nI 7 = (9 : Int32) by decide), eq_false (show ¬ nI 7 = (10 : Int32) by decide), eq_false (show ¬ nI 7 = (11 : Int32) by decide), eq_false (show ¬ nI 7 = (13 : Int32) by decide), ↓reduceIte, forall_eq', true_and, and_true, implies_true, forall_const, true_implies, false_implies, not_true_eq_false, not_false_eq_true, if_true, if_false]
      rw [W2, V]
      refine ⟨E, ep_fin o4 b' _ _ hch ?_ ?_ R.hwi ?_ ?_ cwp (Or.inr ⟨?_, ?_, ?_⟩)⟩
      · rw [ef_pI' _ _ _ _ (by omega), ef_pI' _ _ _ _ (by omega)]; exact r.r13
      · rw [ef_pIk _ _ (by omega), ef_pIk _ _ (by omega)]; exact q17
      · rw [ef_pI' _ _ _ _ (by omega), ef_pI' _ _ _ _ (by omega)]; exact p14
      · rw [ef_pIk _ _ (by omega), ef_pIk _ _ (by omega)]; exact q18
      · rw [ef_pI' _ _ _ _ (by omega), ef_pI' _ _ _ _ (by omega)]; exact p9
      · rw [ef_pIk _ _ (by omega), ef_pIk _ _ (by omega), qk _ (by omega)]; exact R.g13
      · rw [ef_pIk _ _ (by omega), ef_pIk _ _ (by omega), ef_pIk _ _ (by omega), ef_pIk _ _ (by omega), qk _ (by omega), qk _ (by omega), R.g19, R.g20, eq_pI2, eq_pI2, p12]
        exact R.ht
set_option maxHeartbeats 4000000 in
theorem ep_r7 {φ D : Nat → Nat × Nat} {u nl : Nat} {H : ep_H} {t w : Nat} {C0 G0 C G : em_M} {f wi : Nat} {v : Int64} {ie y : Int32} (R : ep_Rc φ D u nl H t w C0 G0 C G f wi v ie y) {e sc : Nat} (q : ep_F1 φ u H w 119 C G f 7 0 8 e sc) : es_X12_givesOn G ∧ ep_Ps φ u nl t w C0 G0 (et_X3_receive w C) (et_X12_givesOn G) := by
  have h := R.md
  have ln := R.ln
  have w6 := h.w6
  have t3 := h.t3
  have n8 := ln.n8
  have hu := ln.hu
  have nf := h.nf
  have ns := h.ns
  have nw := h.nw
  have ne := h.ne
  have b := R.b
  have b' : H.nf ≤ t + 1 ∧ H.ns ≤ t + 1 ∧ H.nw ≤ t + 1 ∧ H.ne ≤ t + 1 := by omega
  have f0 := R.f0
  have he := q.he
  obtain ⟨b1, b2, b3⟩ := h.tb.fb f f0
  have hm : (φ e).1 < 808 := by have := ln.hm e he; omega
  obtain ⟨sg, np, nd⟩ := ep_n4 ln he q.hk (by omega) (by omega)
  have hK := nd.hK
  have W := er_7 R q.hs b2 q.he1 q.hc1
  obtain ⟨P, hP⟩ : ∃ P, ep_pC w C (nI (H.fb (f + 1))) (nI e) (nI sc) = P := ⟨_, rfl⟩
  have r : ep_pr w C (nI (H.fb (f + 1))) (nI e) (nI sc) P := hP ▸ ep_pCr w C (nI (H.fb (f + 1))) (nI e) (nI sc)
  rw [hP] at W
  obtain ⟨Q, hQ⟩ : ∃ Q, em_pI G 119 17 (nI (H.fb (f + 1)) - 1) = Q := ⟨_, rfl⟩
  have mp : ep_Md φ u nl H t w C0 G0 P Q := hQ ▸ ep_Md_pop h r _
  have qo : ∀ o, o ≠ 119 → Q.1 o = G.1 o := fun o ho => by rw [← hQ]; exact ef_pI' _ _ _ _ ho
  have qk : ∀ k, k ≠ 17 → Q.1 119 k = G.1 119 k := fun k hk => by rw [← hQ]; exact ef_pIk _ _ hk
  have q17 : Q.1 119 17 = nI (H.fb (f + 1)) - 1 := by rw [← hQ]; exact ef_pIs _ _ rfl
  have q2 : Q.2 = G.2 := by rw [← hQ]; rfl
  have p9 : P.1 (w + 3) 9 = 1 := by rw [r.rk _ (by omega) (by omega) (by omega)]; exact R.c9
  have p14 : P.1 (w + 3) 14 = nI wi := by rw [r.rk _ (by omega) (by omega) (by omega)]; exact R.c14
  have p12 : P.2 (w + 3) 12 = v := by rw [r.o2]; exact R.c12
  have q18 : Q.1 119 18 = nI wi - 1 := by rw [qk _ (by omega)]; exact R.g18
  have hch : H.fb (f + 1) ≤ H.nf := by omega
  have cwp : H.fb (f + 1) ≠ 0 → H.W (H.fb (f + 1)) = wi := fun z => by rw [← q.hW z (by omega)]; exact R.cw
  have stp : ep_Ps φ u nl t w C0 G0 (em_pI P (w + 4) 0 2) (em_pI G 119 7 2) := ep_stopP h 2 (by decide) R.c9 r (fun _ _ => rfl) rfl (fun _ _ => rfl)
  obtain ⟨a, a1, a2, a3⟩ := nd.ha (Or.inr (Or.inr (Or.inl rfl)))
  have mk : et_X2_mark P (nI e) = nI a := by rw [et_X2_mark, eq_atS _ (by omega) (by omega), r.o1 _ (by omega)]; exact a2
  rw [W, mk]
  simp only [eq_num0 R.ht ne]
  by_cases i1 : ie = 1
  · have V : et_X12_givesOn G = em_pI G 119 7 2 := by
      rw [et_X12_givesOn]
      simp (disch := omega) only [eq_c7, eq_c8, eq_c9, eq_c10, eq_c11, eq_c12, eq_c13, eq_c14, eq_c15, eq_c16, eq_c17, eq_c18, eq_c19, eq_c20, eq_c21, eq_c22, eq_c23, eq_c24, nI_clamp, eq_x5, eq_s4, eq_e2, nI_1, eq_p2, eq_m0, vp_in_nI, eq_f8, eq_p3, eq_p4, eq_p5, eq_p6, eq_p7, nI_pos', R.g17, R.g19, R.g20, q.hw, q.he2, q.hc2, b3, hQ, eq_true i1, eq_stands, eq_false (show ¬ nI 8 = (1 : Int32) by decide), eq_false (show ¬ nI 8 = (2 : Int32) by decide), eq_false (show ¬ nI 8 = (7 : Int32) by decide), eq_true (show nI 8 = (8 : Int32) from rfl), eq_false (show ¬ nI 8 = (0 : Int32) by decide), eq_false (show ¬ nI 8 = (3 : Int32) by decide), eq_false (show ¬ nI 8 = (4 : Int32) by decide), eq_false (show ¬ nI 8 = (5 : Int32) by decide), eq_false (show ¬ nI 8 = (6 : Int32) by decide), eq_false (show ¬ nI 8 = (9 : Int32) by decide), eq_false (show ¬ nI 8 = (10 : Int32) by decide), eq_false (show ¬ nI 8 = (11 : Int32) by decide), eq_false (show ¬ nI 8 = (13 : Int32) by decide), ↓reduceIte, forall_eq', true_and, and_true, implies_true, forall_const, true_implies, false_implies, not_true_eq_false, not_false_eq_true, if_true, if_false]
    have E : es_X12_givesOn G := by
      rw [es_X12_givesOn]
      simp (disch := omega) only [eq_c7, eq_c8, eq_c9, eq_c10, eq_c11, eq_c12, eq_c13, eq_c14, eq_c15, eq_c16, eq_c17, eq_c18, eq_c19, eq_c20, eq_c21, eq_c22, eq_c23, eq_c24, nI_clamp, eq_x5, eq_s4, eq_e2, nI_1, eq_p2, eq_m0, vp_in_nI, eq_f8, eq_p3, eq_p4, eq_p5, eq_p6, eq_p7, nI_pos', R.g17, R.g19, R.g20, q.hw, q.he2, q.hc2, b3, hQ, eq_true i1, eq_stands, eq_false (show ¬ nI 8 = (1 : Int32) by decide), eq_false (show ¬ nI 8 = (2 : Int32) by decide), eq_false (show ¬ nI 8 = (7 : Int32) by decide), eq_true (show nI 8 = (8 : Int32) from rfl), eq_false (show ¬ nI 8 = (0 : Int32) by decide), eq_false (show ¬ nI 8 = (3 : Int32) by decide), eq_false (show ¬ nI 8 = (4 : Int32) by decide), eq_false (show ¬ nI 8 = (5 : Int32) by decide), eq_false (show ¬ nI 8 = (6 : Int32) by decide), eq_false (show ¬ nI 8 = (9 : Int32) by decide), eq_false (show ¬ nI 8 = (10 : Int32) by decide), eq_false (show ¬ nI 8 = (11 : Int32) by decide), eq_false (show ¬ nI 8 = (13 : Int32) by decide), ↓reduceIte, forall_eq', true_and, and_true, implies_true, forall_const, true_implies, false_implies, not_true_eq_false, not_false_eq_true, if_true, if_false]
    rw [V, if_pos i1]
    exact ⟨E, stp⟩
  · obtain ⟨-, z1, z2⟩ := eq_numv R.ht i1
    rw [if_neg i1, z2, eq_putS _ (by omega) (by omega)]
    have o4 := ep_Md_va mp a1 y
    have V : et_X12_givesOn G = em_pI Q 119 a y := by
      rw [et_X12_givesOn]
      simp (disch := omega) only [eq_c7, eq_c8, eq_c9, eq_c10, eq_c11, eq_c12, eq_c13, eq_c14, eq_c15, eq_c16, eq_c17, eq_c18, eq_c19, eq_c20, eq_c21, eq_c22, eq_c23, eq_c24, nI_clamp, eq_x5, eq_s4, eq_e2, nI_1, eq_p2, eq_m0, vp_in_nI, eq_f8, eq_p3, eq_p4, eq_p5, eq_p6, eq_p7, nI_pos', R.g17, R.g19, R.g20, q.hw, q.he2, q.hc2, b3, hQ, eq_false i1, qo, a3, eq_false (show ¬ nI 8 = (1 : Int32) by decide), eq_false (show ¬ nI 8 = (2 : Int32) by decide), eq_false (show ¬ nI 8 = (7 : Int32) by decide), eq_true (show nI 8 = (8 : Int32) from rfl), eq_false (show ¬ nI 8 = (0 : Int32) by decide), eq_false (show ¬ nI 8 = (3 : Int32) by decide), eq_false (show ¬ nI 8 = (4 : Int32) by decide), eq_false (show ¬ nI 8 = (5 : Int32) by decide), eq_false (show ¬ nI 8 = (6 : Int32) by decide), eq_false (show ¬ nI 8 = (9 : Int32) by decide), eq_false (show ¬ nI 8 = (10 : Int32) by decide), eq_false (show ¬ nI 8 = (11 : Int32) by decide), eq_false (show ¬ nI 8 = (13 : Int32) by decide), ↓reduceIte, forall_eq', true_and, and_true, implies_true, forall_const, true_implies, false_implies, not_true_eq_false, not_false_eq_true, if_true, if_false]
    have E : es_X12_givesOn G := by
      rw [es_X12_givesOn]
      simp (disch := omega) only [eq_c7, eq_c8, eq_c9, eq_c10, eq_c11, eq_c12, eq_c13, eq_c14, eq_c15, eq_c16, eq_c17, eq_c18, eq_c19, eq_c20, eq_c21, eq_c22, eq_c23, eq_c24, nI_clamp, eq_x5, eq_s4, eq_e2, nI_1, eq_p2, eq_m0, vp_in_nI, eq_f8, eq_p3, eq_p4, eq_p5, eq_p6, eq_p7, nI_pos', R.g17, R.g19, R.g20, q.hw, q.he2, q.hc2, b3, hQ, eq_false i1, qo, a3, eq_false (show ¬ nI 8 = (1 : Int32) by decide), eq_false (show ¬ nI 8 = (2 : Int32) by decide), eq_false (show ¬ nI 8 = (7 : Int32) by decide), eq_true (show nI 8 = (8 : Int32) from rfl), eq_false (show ¬ nI 8 = (0 : Int32) by decide), eq_false (show ¬ nI 8 = (3 : Int32) by decide), eq_false (show ¬ nI 8 = (4 : Int32) by decide), eq_false (show ¬ nI 8 = (5 : Int32) by decide), eq_false (show ¬ nI 8 = (6 : Int32) by decide), eq_false (show ¬ nI 8 = (9 : Int32) by decide), eq_false (show ¬ nI 8 = (10 : Int32) by decide), eq_false (show ¬ nI 8 = (11 : Int32) by decide), eq_false (show ¬ nI 8 = (13 : Int32) by decide), ↓reduceIte, forall_eq', true_and, and_true, implies_true, forall_const, true_implies, false_implies, not_true_eq_false, not_false_eq_true, if_true, if_false]
    rw [V]
    refine ⟨E, ep_fin o4 b' _ _ hch ?_ ?_ R.hwi ?_ ?_ cwp (Or.inr ⟨?_, ?_, ?_⟩)⟩
    · rw [ef_pI' _ _ _ _ (by omega)]; exact r.r13
    · rw [ef_pIk _ _ (by omega)]; exact q17
    · rw [ef_pI' _ _ _ _ (by omega)]; exact p14
    · rw [ef_pIk _ _ (by omega)]; exact q18
    · rw [ef_pI' _ _ _ _ (by omega)]; exact p9
    · rw [ef_pIk _ _ (by omega), qk _ (by omega)]; exact R.g13
    · rw [ef_pIk _ _ (by omega), ef_pIk _ _ (by omega), qk _ (by omega), qk _ (by omega), R.g19, R.g20, eq_pI2, p12]
      exact R.ht
set_option maxHeartbeats 4000000 in
theorem ep_r82 {φ D : Nat → Nat × Nat} {u nl : Nat} {H : ep_H} {t w : Nat} {C0 G0 C G : em_M} {f wi : Nat} {v : Int64} {ie y : Int32} (R : ep_Rc φ D u nl H t w C0 G0 C G f wi v ie y) {e sc : Nat} (q : ep_F1 φ u H w 119 C G f 8 2 11 e sc) : es_X12_givesOn G ∧ ep_Ps φ u nl t w C0 G0 (et_X3_receive w C) (et_X12_givesOn G) := by
  have h := R.md
  have ln := R.ln
  have w6 := h.w6
  have t3 := h.t3
  have n8 := ln.n8
  have hu := ln.hu
  have nf := h.nf
  have ns := h.ns
  have nw := h.nw
  have ne := h.ne
  have b := R.b
  have b' : H.nf ≤ t + 1 ∧ H.ns ≤ t + 1 ∧ H.nw ≤ t + 1 ∧ H.ne ≤ t + 1 := by omega
  have f0 := R.f0
  have he := q.he
  obtain ⟨b1, b2, b3⟩ := h.tb.fb f f0
  have hm : (φ e).1 < 808 := by have := ln.hm e he; omega
  obtain ⟨sg, np, nd⟩ := ep_n4 ln he q.hk (by omega) (by omega)
  have hK := nd.hK
  have W := er_8 R q.hs b2 q.he1 q.hc1
  obtain ⟨P, hP⟩ : ∃ P, ep_pC w C (nI (H.fb (f + 1))) (nI e) (nI sc) = P := ⟨_, rfl⟩
  have r : ep_pr w C (nI (H.fb (f + 1))) (nI e) (nI sc) P := hP ▸ ep_pCr w C (nI (H.fb (f + 1))) (nI e) (nI sc)
  rw [hP] at W
  obtain ⟨Q, hQ⟩ : ∃ Q, em_pI G 119 17 (nI (H.fb (f + 1)) - 1) = Q := ⟨_, rfl⟩
  have mp : ep_Md φ u nl H t w C0 G0 P Q := hQ ▸ ep_Md_pop h r _
  have qo : ∀ o, o ≠ 119 → Q.1 o = G.1 o := fun o ho => by rw [← hQ]; exact ef_pI' _ _ _ _ ho
  have qk : ∀ k, k ≠ 17 → Q.1 119 k = G.1 119 k := fun k hk => by rw [← hQ]; exact ef_pIk _ _ hk
  have q17 : Q.1 119 17 = nI (H.fb (f + 1)) - 1 := by rw [← hQ]; exact ef_pIs _ _ rfl
  have q2 : Q.2 = G.2 := by rw [← hQ]; rfl
  have p9 : P.1 (w + 3) 9 = 1 := by rw [r.rk _ (by omega) (by omega) (by omega)]; exact R.c9
  have p14 : P.1 (w + 3) 14 = nI wi := by rw [r.rk _ (by omega) (by omega) (by omega)]; exact R.c14
  have p12 : P.2 (w + 3) 12 = v := by rw [r.o2]; exact R.c12
  have q18 : Q.1 119 18 = nI wi - 1 := by rw [qk _ (by omega)]; exact R.g18
  have hch : H.fb (f + 1) ≤ H.nf := by omega
  have cwp : H.fb (f + 1) ≠ 0 → H.W (H.fb (f + 1)) = wi := fun z => by rw [← q.hW z (by omega)]; exact R.cw
  have ht2 := q.ht (Or.inr rfl)
  have W2 : et_X3_receiveWind w P (nI (f + 1)) = et_X3_give w P (C.2 (w + 16) (f + 1)) := by
    rw [et_X3_receiveWind]
    simp (disch := omega) only [↓reduceIte, et_X0_behind, et_X0_kept, eq_atS, eq_atS_, r.o1, r.o2, q.hb, eq_false (show ¬ nI 2 = (0 : Int32) by decide), eq_false (show ¬ nI 2 = (1 : Int32) by decide)]
  have V : et_X12_givesOn G = et_X12_gives Q (G.1 119 (120 + 8 * f + 3)) (G.1 119 (120 + 8 * f + 4)) := by
    rw [et_X12_givesOn]
    simp (disch := omega) only [eq_c7, eq_c8, eq_c9, eq_c10, eq_c11, eq_c12, eq_c13, eq_c14, eq_c15, eq_c16, eq_c17, eq_c18, eq_c19, eq_c20, eq_c21, eq_c22, eq_c23, eq_c24, nI_clamp, eq_x5, eq_s4, eq_e2, nI_1, eq_p2, eq_m0, vp_in_nI, eq_f8, eq_p3, eq_p4, eq_p5, eq_p6, eq_p7, nI_pos', R.g17, R.g19, R.g20, q.hw, q.he2, q.hc2, b3, hQ, et_X12_winds, qk, eq_false (show ¬ nI 11 = (1 : Int32) by decide), eq_false (show ¬ nI 11 = (2 : Int32) by decide), eq_false (show ¬ nI 11 = (7 : Int32) by decide), eq_false (show ¬ nI 11 = (8 : Int32) by decide), eq_false (show ¬ nI 11 = (0 : Int32) by decide), eq_false (show ¬ nI 11 = (3 : Int32) by decide), eq_false (show ¬ nI 11 = (4 : Int32) by decide), eq_false (show ¬ nI 11 = (5 : Int32) by decide), eq_false (show ¬ nI 11 = (6 : Int32) by decide), eq_false (show ¬ nI 11 = (9 : Int32) by decide), eq_false (show ¬ nI 11 = (10 : Int32) by decide), eq_true (show nI 11 = (11 : Int32) from rfl), eq_false (show ¬ nI 11 = (13 : Int32) by decide), ↓reduceIte, forall_eq', true_and, and_true, implies_true, forall_const, true_implies, false_implies, not_true_eq_false, not_false_eq_true, if_true, if_false]
  have E : es_X12_givesOn G := by
    rw [es_X12_givesOn]
    simp (disch := omega) only [eq_c7, eq_c8, eq_c9, eq_c10, eq_c11, eq_c12, eq_c13, eq_c14, eq_c15, eq_c16, eq_c17, eq_c18, eq_c19, eq_c20, eq_c21, eq_c22, eq_c23, eq_c24, nI_clamp, eq_x5, eq_s4, eq_e2, nI_1, eq_p2, eq_m0, vp_in_nI, eq_f8, eq_p3, eq_p4, eq_p5, eq_p6, eq_p7, nI_pos', R.g17, R.g19, R.g20, q.hw, q.he2, q.hc2, b3, hQ, es_X12_winds, qk, eq_false (show ¬ nI 11 = (1 : Int32) by decide), eq_false (show ¬ nI 11 = (2 : Int32) by decide), eq_false (show ¬ nI 11 = (7 : Int32) by decide), eq_false (show ¬ nI 11 = (8 : Int32) by decide), eq_false (show ¬ nI 11 = (0 : Int32) by decide), eq_false (show ¬ nI 11 = (3 : Int32) by decide), eq_false (show ¬ nI 11 = (4 : Int32) by decide), eq_false (show ¬ nI 11 = (5 : Int32) by decide), eq_false (show ¬ nI 11 = (6 : Int32) by decide), eq_false (show ¬ nI 11 = (9 : Int32) by decide), eq_false (show ¬ nI 11 = (10 : Int32) by decide), eq_true (show nI 11 = (11 : Int32) from rfl), eq_false (show ¬ nI 11 = (13 : Int32) by decide), ↓reduceIte, forall_eq', true_and, and_true, implies_true, forall_const, true_implies, false_implies, not_true_eq_false, not_false_eq_true, if_true, if_false]
  rw [W, W2, V]
  exact ⟨E, ep_gv mp b' hch r.r13 q17 R.hwi p14 q18 cwp ht2⟩
set_option maxHeartbeats 4000000 in
theorem ep_r81 {φ D : Nat → Nat × Nat} {u nl : Nat} {H : ep_H} {t w : Nat} {C0 G0 C G : em_M} {f wi : Nat} {v : Int64} {ie y : Int32} (R : ep_Rc φ D u nl H t w C0 G0 C G f wi v ie y) {e sc : Nat} (q : ep_F1 φ u H w 119 C G f 8 1 10 e sc) : es_X12_givesOn G ∧ ep_Ps φ u nl t w C0 G0 (et_X3_receive w C) (et_X12_givesOn G) := by
  have h := R.md
  have ln := R.ln
  have w6 := h.w6
  have t3 := h.t3
  have n8 := ln.n8
  have hu := ln.hu
  have nf := h.nf
  have ns := h.ns
  have nw := h.nw
  have ne := h.ne
  have b := R.b
  have b' : H.nf ≤ t + 1 ∧ H.ns ≤ t + 1 ∧ H.nw ≤ t + 1 ∧ H.ne ≤ t + 1 := by omega
  have f0 := R.f0
  have he := q.he
  obtain ⟨b1, b2, b3⟩ := h.tb.fb f f0
  have hm : (φ e).1 < 808 := by have := ln.hm e he; omega
  obtain ⟨sg, np, nd⟩ := ep_n4 ln he q.hk (by omega) (by omega)
  have hK := nd.hK
  have W := er_8 R q.hs b2 q.he1 q.hc1
  obtain ⟨P, hP⟩ : ∃ P, ep_pC w C (nI (H.fb (f + 1))) (nI e) (nI sc) = P := ⟨_, rfl⟩
  have r : ep_pr w C (nI (H.fb (f + 1))) (nI e) (nI sc) P := hP ▸ ep_pCr w C (nI (H.fb (f + 1))) (nI e) (nI sc)
  rw [hP] at W
  obtain ⟨Q, hQ⟩ : ∃ Q, em_pI G 119 17 (nI (H.fb (f + 1)) - 1) = Q := ⟨_, rfl⟩
  have mp : ep_Md φ u nl H t w C0 G0 P Q := hQ ▸ ep_Md_pop h r _
  have qo : ∀ o, o ≠ 119 → Q.1 o = G.1 o := fun o ho => by rw [← hQ]; exact ef_pI' _ _ _ _ ho
  have qk : ∀ k, k ≠ 17 → Q.1 119 k = G.1 119 k := fun k hk => by rw [← hQ]; exact ef_pIk _ _ hk
  have q17 : Q.1 119 17 = nI (H.fb (f + 1)) - 1 := by rw [← hQ]; exact ef_pIs _ _ rfl
  have q2 : Q.2 = G.2 := by rw [← hQ]; rfl
  have p9 : P.1 (w + 3) 9 = 1 := by rw [r.rk _ (by omega) (by omega) (by omega)]; exact R.c9
  have p14 : P.1 (w + 3) 14 = nI wi := by rw [r.rk _ (by omega) (by omega) (by omega)]; exact R.c14
  have p12 : P.2 (w + 3) 12 = v := by rw [r.o2]; exact R.c12
  have q18 : Q.1 119 18 = nI wi - 1 := by rw [qk _ (by omega)]; exact R.g18
  have hch : H.fb (f + 1) ≤ H.nf := by omega
  obtain ⟨p, p1, p2, p3, p4⟩ := nd.hp 2 (by unfold ep_K at hK; omega)
  obtain ⟨x1, x2⟩ := q.hW1 rfl rfl
  rw [R.cw] at x1 x2
  have hwi := R.hwi
  obtain ⟨v0, rfl⟩ : ∃ v0, wi = v0 + 1 := ⟨wi - 1, by omega⟩
  obtain ⟨y1, -, -, y4, -, y6⟩ := h.tb.wb v0 (by omega)
  rw [eq_q1] at q18
  have bl : et_X9_below w P (P.1 (w + 3) 14) = nI (H.bw (v0 + 1)) := by rw [et_X9_below, p14, eq_atS _ (by omega) (by omega), r.o1 _ (by omega)]; exact y4
  have W2 : et_X3_receiveWind w P (nI (f + 1)) = et_X3_workOn w ((fun M r => et_X0_keep w M r v 0) (et_X3_comes w (em_pI P (w + 3) 14 (nI (H.bw (v0 + 1)))) (nI 8) (nI 2)).2 (et_X3_comes w (em_pI P (w + 3) 14 (nI (H.bw (v0 + 1)))) (nI 8) (nI 2)).1) (nI 2) := by
    rw [et_X3_receiveWind]
    simp (disch := omega) only [↓reduceIte, et_X0_behind, eq_atS, r.o1, q.hb, eq_false (show ¬ nI 1 = (0 : Int32) by decide), eq_true (show nI 1 = (1 : Int32) from rfl), bl, ec_comes2, eq_pI2, p12]
    rfl
  have mP : ep_Md φ u nl H t w C0 G0 (em_pI P (w + 3) 14 (nI (H.bw (v0 + 1)))) Q := ep_Md_pI mp 14 _ (by omega)
  have V : et_X12_givesOn G = if (et_X12_comes Q (nI (H.fb (f + 1)) - 1) (nI 11) (nI (φ e).1) (nI sc - 1) ie y 0).1 = 0 then (et_X12_comes Q (nI (H.fb (f + 1)) - 1) (nI 11) (nI (φ e).1) (nI sc - 1) ie y 0).2 else (fun M : em_M => et_X12_works (em_pI M 119 18 (M.1 119 (3960 + 4 * v0 + 2))) (M.1 125 (5 * (φ e).1 + 2)) 0 (nI sc - 1)) (et_X12_comes Q (nI (H.fb (f + 1)) - 1) (nI 11) (nI (φ e).1) (nI sc - 1) ie y 0).2 := by
    rw [et_X12_givesOn]
    simp (disch := omega) only [eq_c7, eq_c8, eq_c9, eq_c10, eq_c11, eq_c12, eq_c13, eq_c14, eq_c15, eq_c16, eq_c17, eq_c18, eq_c19, eq_c20, eq_c21, eq_c22, eq_c23, eq_c24, nI_clamp, eq_x5, eq_s4, eq_e2, nI_1, eq_p2, eq_m0, vp_in_nI, eq_f8, eq_p3, eq_p4, eq_p5, eq_p6, eq_p7, nI_pos', R.g17, R.g19, R.g20, q.hw, q.he2, q.hc2, b3, hQ, et_X12_winds, q17, q18, eq_w4, ef_pI', eq_false (show ¬ nI 10 = (1 : Int32) by decide), eq_false (show ¬ nI 10 = (2 : Int32) by decide), eq_false (show ¬ nI 10 = (7 : Int32) by decide), eq_false (show ¬ nI 10 = (8 : Int32) by decide), eq_false (show ¬ nI 10 = (0 : Int32) by decide), eq_false (show ¬ nI 10 = (3 : Int32) by decide), eq_false (show ¬ nI 10 = (4 : Int32) by decide), eq_false (show ¬ nI 10 = (5 : Int32) by decide), eq_false (show ¬ nI 10 = (6 : Int32) by decide), eq_false (show ¬ nI 10 = (9 : Int32) by decide), eq_true (show nI 10 = (10 : Int32) from rfl), eq_false (show ¬ nI 10 = (11 : Int32) by decide), eq_false (show ¬ nI 10 = (13 : Int32) by decide), ↓reduceIte, forall_eq', true_and, and_true, implies_true, forall_const, true_implies, false_implies, not_true_eq_false, not_false_eq_true, if_true, if_false]
    rfl
  obtain ⟨c1, c2⟩ := ep_cw mP ⟨b.1, b'.2⟩ (nI 8) (nI 2) (nI 11) (nI (φ e).1) (nI sc - 1) ie y 0 v 0 (H.fb (f + 1)) (H.bw (v0 + 1)) hch (by rw [ef_pIk _ _ (by omega)]; exact r.r13) (by omega) (by rw [ef_pIs _ _ rfl]) (ep_come1 mP (show ep_S 8 2 11 by unfold ep_S; omega) hch he (by rw [ef_pI' _ _ _ _ (by omega), r.o1 _ (by omega)]; exact q.hk) (by rw [ef_pIk _ _ (by omega)]; exact r.r10) q.hc (by rw [ef_pIk _ _ (by omega)]; exact r.r11) (fun z _ => x2 z) (fun _ z => absurd z (by omega)) (fun z => absurd z (by omega)) (fun _ => R.ht)) (by rw [ef_pIk _ _ (by omega)]; exact r.r10) (by omega) (show 2 < 3 by omega) p1 (by rw [ef_pI' _ _ _ _ (by omega), r.o1 _ (by omega)]; exact p2) q.hc (by rw [ef_pIk _ _ (by omega)]; exact r.r11) (fun M r => et_X0_keep w M r v 0) (Or.inl rfl) (fun M : em_M => et_X12_works (em_pI M 119 18 (M.1 119 (3960 + 4 * v0 + 2))) (M.1 125 (5 * (φ e).1 + 2)) 0 (nI sc - 1)) (fun M m1 m2 m3 => by
    have g := ep_fwW (φ := φ) (p := p) (sc := sc) (wi := H.bw (v0 + 1)) (M := em_pI M 119 18 (M.1 119 (3960 + 4 * v0 + 2))) (e := M.1 125 (5 * (φ e).1 + 2)) (o := 0) (s := nI sc - 1) (by rw [m1 _ (by omega), qo _ (by omega)]; exact p4) (by rw [p3]; rfl) rfl (by rw [ef_pIs _ _ rfl, m2 _ (by omega), qk _ (by omega)]; exact y6)
    refine ep_fw.mk (fun o ho => ?_) g.f2 (fun k hk => ?_) g.f13 g.f14 g.f15 g.f16 ?_ g.f18
    · rw [g.f1 o ho, ef_pI' _ _ _ _ ho]
    · rw [g.f3 k hk, ef_pIk _ _ (by omega)]
    · rw [g.f17, ef_pIk _ _ (by omega)])
  have E : es_X12_givesOn G := by
    rw [es_X12_givesOn]
    simp (disch := omega) only [eq_c7, eq_c8, eq_c9, eq_c10, eq_c11, eq_c12, eq_c13, eq_c14, eq_c15, eq_c16, eq_c17, eq_c18, eq_c19, eq_c20, eq_c21, eq_c22, eq_c23, eq_c24, nI_clamp, eq_x5, eq_s4, eq_e2, nI_1, eq_p2, eq_m0, vp_in_nI, eq_f8, eq_p3, eq_p4, eq_p5, eq_p6, eq_p7, nI_pos', R.g17, R.g19, R.g20, q.hw, q.he2, q.hc2, b3, hQ, es_X12_winds, q17, q18, eq_w4, ef_pI', eq_false (show ¬ nI 10 = (1 : Int32) by decide), eq_false (show ¬ nI 10 = (2 : Int32) by decide), eq_false (show ¬ nI 10 = (7 : Int32) by decide), eq_false (show ¬ nI 10 = (8 : Int32) by decide), eq_false (show ¬ nI 10 = (0 : Int32) by decide), eq_false (show ¬ nI 10 = (3 : Int32) by decide), eq_false (show ¬ nI 10 = (4 : Int32) by decide), eq_false (show ¬ nI 10 = (5 : Int32) by decide), eq_false (show ¬ nI 10 = (6 : Int32) by decide), eq_false (show ¬ nI 10 = (9 : Int32) by decide), eq_true (show nI 10 = (10 : Int32) from rfl), eq_false (show ¬ nI 10 = (11 : Int32) by decide), eq_false (show ¬ nI 10 = (13 : Int32) by decide), ↓reduceIte, forall_eq', true_and, and_true, implies_true, forall_const, true_implies, false_implies, not_true_eq_false, not_false_eq_true, if_true, if_false]
    exact c1
  rw [W, W2, V]
  exact ⟨E, c2⟩
set_option maxHeartbeats 4000000 in
theorem ep_r3 {φ D : Nat → Nat × Nat} {u nl : Nat} {H : ep_H} {t w : Nat} {C0 G0 C G : em_M} {f wi : Nat} {v : Int64} {ie y : Int32} (R : ep_Rc φ D u nl H t w C0 G0 C G f wi v ie y) {e sc p : Nat} (q : ep_F2 φ u H w 119 C G f e sc p) : es_X12_givesOn G ∧ ep_Ps φ u nl t w C0 G0 (et_X3_receive w C) (et_X12_givesOn G) := by
  have h := R.md
  have ln := R.ln
  have w6 := h.w6
  have t3 := h.t3
  have n8 := ln.n8
  have hu := ln.hu
  have nf := h.nf
  have ns := h.ns
  have nw := h.nw
  have ne := h.ne
  have b := R.b
  have b' : H.nf ≤ t + 1 ∧ H.ns ≤ t + 1 ∧ H.nw ≤ t + 1 ∧ H.ne ≤ t + 1 := by omega
  have f0 := R.f0
  have he := q.he
  obtain ⟨b1, b2, b3⟩ := h.tb.fb f f0
  have hm : (φ e).1 < 808 := by have := ln.hm e he; omega
  have W := er_3 R q.hs b2 q.he1 q.hc1
  obtain ⟨P, hP⟩ : ∃ P, ep_pC w C (nI (H.fb (f + 1))) (nI e) (nI sc) = P := ⟨_, rfl⟩
  have r : ep_pr w C (nI (H.fb (f + 1))) (nI e) (nI sc) P := hP ▸ ep_pCr w C (nI (H.fb (f + 1))) (nI e) (nI sc)
  rw [hP] at W
  obtain ⟨Q, hQ⟩ : ∃ Q, em_pI G 119 17 (nI (H.fb (f + 1)) - 1) = Q := ⟨_, rfl⟩
  have mp : ep_Md φ u nl H t w C0 G0 P Q := hQ ▸ ep_Md_pop h r _
  have qo : ∀ o, o ≠ 119 → Q.1 o = G.1 o := fun o ho => by rw [← hQ]; exact ef_pI' _ _ _ _ ho
  have qk : ∀ k, k ≠ 17 → Q.1 119 k = G.1 119 k := fun k hk => by rw [← hQ]; exact ef_pIk _ _ hk
  have q17 : Q.1 119 17 = nI (H.fb (f + 1)) - 1 := by rw [← hQ]; exact ef_pIs _ _ rfl
  have q2 : Q.2 = G.2 := by rw [← hQ]; rfl
  have p9 : P.1 (w + 3) 9 = 1 := by rw [r.rk _ (by omega) (by omega) (by omega)]; exact R.c9
  have p14 : P.1 (w + 3) 14 = nI wi := by rw [r.rk _ (by omega) (by omega) (by omega)]; exact R.c14
  have p12 : P.2 (w + 3) 12 = v := by rw [r.o2]; exact R.c12
  have q18 : Q.1 119 18 = nI wi - 1 := by rw [qk _ (by omega)]; exact R.g18
  have hch : H.fb (f + 1) ≤ H.nf := by omega
  have cwp : H.fb (f + 1) ≠ 0 → H.W (H.fb (f + 1)) = wi := fun z => by rw [← q.hW z]; exact R.cw
  have V : et_X12_givesOn G = et_X12_works Q (nI (φ e).1) (nI ((φ e).2 + 1)) (nI sc - 1) := by
    rw [et_X12_givesOn]
    simp (disch := omega) only [eq_c7, eq_c8, eq_c9, eq_c10, eq_c11, eq_c12, eq_c13, eq_c14, eq_c15, eq_c16, eq_c17, eq_c18, eq_c19, eq_c20, eq_c21, eq_c22, eq_c23, eq_c24, nI_clamp, eq_x5, eq_s4, eq_e2, nI_1, eq_p2, eq_m0, vp_in_nI, eq_f8, eq_p3, eq_p4, eq_p5, eq_p6, eq_p7, nI_pos', R.g17, R.g19, R.g20, q.hw, q.he2, q.hc2, b3, hQ, qk, q.hx, eq_false (show ¬ nI 4 = (1 : Int32) by decide), eq_false (show ¬ nI 4 = (2 : Int32) by decide), eq_false (show ¬ nI 4 = (7 : Int32) by decide), eq_false (show ¬ nI 4 = (8 : Int32) by decide), eq_false (show ¬ nI 4 = (0 : Int32) by decide), eq_false (show ¬ nI 4 = (3 : Int32) by decide), eq_true (show nI 4 = (4 : Int32) from rfl), eq_false (show ¬ nI 4 = (5 : Int32) by decide), eq_false (show ¬ nI 4 = (6 : Int32) by decide), eq_false (show ¬ nI 4 = (9 : Int32) by decide), eq_false (show ¬ nI 4 = (10 : Int32) by decide), eq_false (show ¬ nI 4 = (11 : Int32) by decide), eq_false (show ¬ nI 4 = (13 : Int32) by decide), ↓reduceIte, forall_eq', true_and, and_true, implies_true, forall_const, true_implies, false_implies, not_true_eq_false, not_false_eq_true, if_true, if_false]
  have E : es_X12_givesOn G := by
    rw [es_X12_givesOn]
    simp (disch := omega) only [eq_c7, eq_c8, eq_c9, eq_c10, eq_c11, eq_c12, eq_c13, eq_c14, eq_c15, eq_c16, eq_c17, eq_c18, eq_c19, eq_c20, eq_c21, eq_c22, eq_c23, eq_c24, nI_clamp, eq_x5, eq_s4, eq_e2, nI_1, eq_p2, eq_m0, vp_in_nI, eq_f8, eq_p3, eq_p4, eq_p5, eq_p6, eq_p7, nI_pos', R.g17, R.g19, R.g20, q.hw, q.he2, q.hc2, b3, hQ, qk, q.hx, eq_false (show ¬ nI 4 = (1 : Int32) by decide), eq_false (show ¬ nI 4 = (2 : Int32) by decide), eq_false (show ¬ nI 4 = (7 : Int32) by decide), eq_false (show ¬ nI 4 = (8 : Int32) by decide), eq_false (show ¬ nI 4 = (0 : Int32) by decide), eq_false (show ¬ nI 4 = (3 : Int32) by decide), eq_true (show nI 4 = (4 : Int32) from rfl), eq_false (show ¬ nI 4 = (5 : Int32) by decide), eq_false (show ¬ nI 4 = (6 : Int32) by decide), eq_false (show ¬ nI 4 = (9 : Int32) by decide), eq_false (show ¬ nI 4 = (10 : Int32) by decide), eq_false (show ¬ nI 4 = (11 : Int32) by decide), eq_false (show ¬ nI 4 = (13 : Int32) by decide), ↓reduceIte, forall_eq', true_and, and_true, implies_true, forall_const, true_implies, false_implies, not_true_eq_false, not_false_eq_true, if_true, if_false]
  rw [W, V, show (1 : Int32) = nI 1 from rfl, eq_workOn (by omega) (by omega) r.r10]
  exact ⟨E, ep_wk mp b' hch r.r13 q17 R.hwi p14 cwp q.hq q.hc r.r11 (by rw [r.o1 _ (by omega)]; exact q.hk) (ep_fwW (by rw [q.hq1]) (by rw [q.hq1]) rfl q18)⟩
