/-! a STEP that gives a THING, by the frame -/
set_option maxHeartbeats 4000000 in
theorem ep_r00 {φ D : Nat → Nat × Nat} {u nl : Nat} {H : ep_H} {t w : Nat} {C0 G0 C G : em_M} {f wi : Nat} {v : Int64} {ie y : Int32} (R : ep_Rc φ D u nl H t w C0 G0 C G f wi v ie y) {e sc : Nat} (q : ep_F1 φ u H w 119 C G f 0 0 0 e sc) : es_X12_givesOn G ∧ ep_Ps φ u nl t w C0 G0 (et_X3_receive w C) (et_X12_givesOn G) := by
  have h := R.md
  have ln := R.ln
  have w6 := h.w6
  have t3 := h.t3
  have n8 := ln.n8
  have hu := ln.hu
  have nf := h.nf
  have ns := h.ns
  have nw := h.nw
  have ne := h.ne
  have b := R.b
  have b' : H.nf ≤ t + 1 ∧ H.ns ≤ t + 1 ∧ H.nw ≤ t + 1 ∧ H.ne ≤ t + 1 := by omega
  have f0 := R.f0
  have he := q.he
  obtain ⟨b1, b2, b3⟩ := h.tb.fb f f0
  have hm : (φ e).1 < 808 := by have := ln.hm e he; omega
  obtain ⟨sg, np, nd⟩ := ep_n4 ln he q.hk (by omega) (by omega)
  have hK := nd.hK
  have W := er_0 R q.hs b2 q.he1 q.hc1
  obtain ⟨P, hP⟩ : ∃ P, ep_pC w C (nI (H.fb (f + 1))) (nI e) (nI sc) = P := ⟨_, rfl⟩
  have r : ep_pr w C (nI (H.fb (f + 1))) (nI e) (nI sc) P := hP ▸ ep_pCr w C (nI (H.fb (f + 1))) (nI e) (nI sc)
  rw [hP] at W
  obtain ⟨Q, hQ⟩ : ∃ Q, em_pI G 119 17 (nI (H.fb (f + 1)) - 1) = Q := ⟨_, rfl⟩
  have mp : ep_Md φ u nl H t w C0 G0 P Q := hQ ▸ ep_Md_pop h r _
  have qo : ∀ o, o ≠ 119 → Q.1 o = G.1 o := fun o ho => by rw [← hQ]; exact ef_pI' _ _ _ _ ho
  have qk : ∀ k, k ≠ 17 → Q.1 119 k = G.1 119 k := fun k hk => by rw [← hQ]; exact ef_pIk _ _ hk
  have q17 : Q.1 119 17 = nI (H.fb (f + 1)) - 1 := by rw [← hQ]; exact ef_pIs _ _ rfl
  have q2 : Q.2 = G.2 := by rw [← hQ]; rfl
  have p9 : P.1 (w + 3) 9 = 1 := by rw [r.rk _ (by omega) (by omega) (by omega)]; exact R.c9
  have p14 : P.1 (w + 3) 14 = nI wi := by rw [r.rk _ (by omega) (by omega) (by omega)]; exact R.c14
  have p12 : P.2 (w + 3) 12 = v := by rw [r.o2]; exact R.c12
  have q18 : Q.1 119 18 = nI wi - 1 := by rw [qk _ (by omega)]; exact R.g18
  have hch : H.fb (f + 1) ≤ H.nf := by omega
  have cwp : H.fb (f + 1) ≠ 0 → H.W (H.fb (f + 1)) = wi := fun z => by rw [← q.hW z (by omega)]; exact R.cw
  obtain ⟨p, p1, p2, p3, p4⟩ := nd.hp 1 (by unfold ep_K at hK; omega)
  have W2 : et_X3_receiveOp w P (nI (f + 1)) = et_X3_workOn w ((fun M r => et_X0_keep w M r v 0) (et_X3_comes w P (nI 0) (nI 1)).2 (et_X3_comes w P (nI 0) (nI 1)).1) (nI 1) := by
    rw [et_X3_receiveOp]
    simp (disch := omega) only [↓reduceIte, et_X0_behind, eq_atS, r.o1, q.hb, nI_0, ec_comes2, p12]
    rfl
  have V : et_X12_givesOn G = if (et_X12_comes Q (nI (H.fb (f + 1)) - 1) (nI 1) (nI (φ e).1) (nI sc - 1) ie y 0).1 = 0 then (et_X12_comes Q (nI (H.fb (f + 1)) - 1) (nI 1) (nI (φ e).1) (nI sc - 1) ie y 0).2 else (fun M : em_M => et_X12_works M (M.1 125 (5 * (φ e).1 + 1)) 0 (nI sc - 1)) (et_X12_comes Q (nI (H.fb (f + 1)) - 1) (nI 1) (nI (φ e).1) (nI sc - 1) ie y 0).2 := by
    rw [et_X12_givesOn]
    simp (disch := omega) only [eq_c7, eq_c8, eq_c9, eq_c10, eq_c11, eq_c12, eq_c13, eq_c14, eq_c15, eq_c16, eq_c17, eq_c18, eq_c19, eq_c20, eq_c21, eq_c22, eq_c23, eq_c24, nI_clamp, eq_x5, eq_s4, eq_e2, nI_1, eq_p2, eq_m0, vp_in_nI, eq_f8, eq_p3, eq_p4, eq_p5, eq_p6, eq_p7, nI_pos', R.g17, R.g19, R.g20, q.hw, q.he2, q.hc2, b3, hQ, q17, eq_false (show ¬ nI 0 = (1 : Int32) by decide), eq_false (show ¬ nI 0 = (2 : Int32) by decide), eq_false (show ¬ nI 0 = (7 : Int32) by decide), eq_false (show ¬ nI 0 = (8 : Int32) by decide), eq_true (show nI 0 = (0 : Int32) from rfl), eq_false (show ¬ nI 0 = (3 : Int32) by decide), eq_false (show ¬ nI 0 = (4 : Int32) by decide), eq_false (show ¬ nI 0 = (5 : Int32) by decide), eq_false (show ¬ nI 0 = (6 : Int32) by decide), eq_false (show ¬ nI 0 = (9 : Int32) by decide), eq_false (show ¬ nI 0 = (10 : Int32) by decide), eq_false (show ¬ nI 0 = (11 : Int32) by decide), eq_false (show ¬ nI 0 = (13 : Int32) by decide), ↓reduceIte, forall_eq', true_and, and_true, implies_true, forall_const, true_implies, false_implies, not_true_eq_false, not_false_eq_true, if_true, if_false]
    rfl
  obtain ⟨c1, c2⟩ := ep_cw mp ⟨b.1, b'.2⟩ (nI 0) (nI 1) (nI 1) (nI (φ e).1) (nI sc - 1) ie y 0 v 0 (H.fb (f + 1)) wi hch r.r13 R.hwi p14 (ep_come1 mp (show ep_S 0 1 1 by unfold ep_S; omega) hch he (by rw [r.o1 _ (by omega)]; exact q.hk) r.r10 q.hc r.r11 (fun z _ => (cwp z).symm) (fun z => absurd z (by omega)) (fun z => absurd z (by omega)) (fun _ => R.ht)) r.r10 (by omega) (show 1 < 3 by omega) p1 (by rw [r.o1 _ (by omega)]; exact p2) q.hc r.r11 (fun M r => et_X0_keep w M r v 0) (Or.inl rfl) (fun M : em_M => et_X12_works M (M.1 125 (5 * (φ e).1 + 1)) 0 (nI sc - 1)) (fun M m1 m2 m3 => ep_fwW (by rw [m1 _ (by omega), qo _ (by omega)]; exact p4) (by rw [p3]; rfl) rfl (by rw [m3]; exact q18))
  have E : es_X12_givesOn G := by
    rw [es_X12_givesOn]
    simp (disch := omega) only [eq_c7, eq_c8, eq_c9, eq_c10, eq_c11, eq_c12, eq_c13, eq_c14, eq_c15, eq_c16, eq_c17, eq_c18, eq_c19, eq_c20, eq_c21, eq_c22, eq_c23, eq_c24, nI_clamp, eq_x5, eq_s4, eq_e2, nI_1, eq_p2, eq_m0, vp_in_nI, eq_f8, eq_p3, eq_p4, eq_p5, eq_p6, eq_p7, nI_pos', R.g17, R.g19, R.g20, q.hw, q.he2, q.hc2, b3, hQ, q17, eq_false (show ¬ nI 0 = (1 : Int32) by decide), eq_false (show ¬ nI 0 = (2 : Int32) by decide), eq_false (show ¬ nI 0 = (7 : Int32) by decide), eq_false (show ¬ nI 0 = (8 : Int32) by decide), eq_true (show nI 0 = (0 : Int32) from rfl), eq_false (show ¬ nI 0 = (3 : Int32) by decide), eq_false (show ¬ nI 0 = (4 : Int32) by decide), eq_false (show ¬ nI 0 = (5 : Int32) by decide), eq_false (show ¬ nI 0 = (6 : Int32) by decide), eq_false (show ¬ nI 0 = (9 : Int32) by decide), eq_false (show ¬ nI 0 = (10 : Int32) by decide), eq_false (show ¬ nI 0 = (11 : Int32) by decide), eq_false (show ¬ nI 0 = (13 : Int32) by decide), ↓reduceIte, forall_eq', true_and, and_true, implies_true, forall_const, true_implies, false_implies, not_true_eq_false, not_false_eq_true, if_true, if_false]
    exact c1
  rw [W, W2, V]
  exact ⟨E, c2⟩
set_option maxHeartbeats 4000000 in
theorem ep_r01 {φ D : Nat → Nat × Nat} {u nl : Nat} {H : ep_H} {t w : Nat} {C0 G0 C G : em_M} {f wi : Nat} {v : Int64} {ie y : Int32} (R : ep_Rc φ D u nl H t w C0 G0 C G f wi v ie y) {e sc : Nat} (q : ep_F1 φ u H w 119 C G f 0 1 1 e sc) : es_X12_givesOn G ∧ ep_Ps φ u nl t w C0 G0 (et_X3_receive w C) (et_X12_givesOn G) := by
  have h := R.md
  have ln := R.ln
  have w6 := h.w6
  have t3 := h.t3
  have n8 := ln.n8
  have hu := ln.hu
  have nf := h.nf
  have ns := h.ns
  have nw := h.nw
  have ne := h.ne
  have b := R.b
  have b' : H.nf ≤ t + 1 ∧ H.ns ≤ t + 1 ∧ H.nw ≤ t + 1 ∧ H.ne ≤ t + 1 := by omega
  have f0 := R.f0
  have he := q.he
  obtain ⟨b1, b2, b3⟩ := h.tb.fb f f0
  have hm : (φ e).1 < 808 := by have := ln.hm e he; omega
  obtain ⟨sg, np, nd⟩ := ep_n4 ln he q.hk (by omega) (by omega)
  have hK := nd.hK
  have W := er_0 R q.hs b2 q.he1 q.hc1
  obtain ⟨P, hP⟩ : ∃ P, ep_pC w C (nI (H.fb (f + 1))) (nI e) (nI sc) = P := ⟨_, rfl⟩
  have r : ep_pr w C (nI (H.fb (f + 1))) (nI e) (nI sc) P := hP ▸ ep_pCr w C (nI (H.fb (f + 1))) (nI e) (nI sc)
  rw [hP] at W
  obtain ⟨Q, hQ⟩ : ∃ Q, em_pI G 119 17 (nI (H.fb (f + 1)) - 1) = Q := ⟨_, rfl⟩
  have mp : ep_Md φ u nl H t w C0 G0 P Q := hQ ▸ ep_Md_pop h r _
  have qo : ∀ o, o ≠ 119 → Q.1 o = G.1 o := fun o ho => by rw [← hQ]; exact ef_pI' _ _ _ _ ho
  have qk : ∀ k, k ≠ 17 → Q.1 119 k = G.1 119 k := fun k hk => by rw [← hQ]; exact ef_pIk _ _ hk
  have q17 : Q.1 119 17 = nI (H.fb (f + 1)) - 1 := by rw [← hQ]; exact ef_pIs _ _ rfl
  have q2 : Q.2 = G.2 := by rw [← hQ]; rfl
  have p9 : P.1 (w + 3) 9 = 1 := by rw [r.rk _ (by omega) (by omega) (by omega)]; exact R.c9
  have p14 : P.1 (w + 3) 14 = nI wi := by rw [r.rk _ (by omega) (by omega) (by omega)]; exact R.c14
  have p12 : P.2 (w + 3) 12 = v := by rw [r.o2]; exact R.c12
  have q18 : Q.1 119 18 = nI wi - 1 := by rw [qk _ (by omega)]; exact R.g18
  have hch : H.fb (f + 1) ≤ H.nf := by omega
  have cwp : H.fb (f + 1) ≠ 0 → H.W (H.fb (f + 1)) = wi := fun z => by rw [← q.hW z (by omega)]; exact R.cw
  have ht2 := q.ht (Or.inl rfl)
  have stp : ep_Ps φ u nl t w C0 G0 (em_pI P (w + 4) 0 2) (em_pI G 119 7 2) := ep_stopP h 2 (by decide) R.c9 r (fun _ _ => rfl) rfl (fun _ _ => rfl)
  have W2 : et_X3_receiveOp w P (nI (f + 1)) = if G.1 119 (120 + 8 * f + 3) = 1 then em_pI P (w + 4) 0 2 else if ie = 1 then em_pI P (w + 4) 0 2 else et_X3_give w P (et_X3_made P (nI sg) (C.2 (w + 16) (f + 1)).toInt32 v.toInt32).toInt64 := by
    have mk : et_X2_mark P (nI e) = nI sg := by rw [et_X2_mark, eq_atS _ (by omega) (by omega), r.o1 _ (by omega)]; exact nd.hm rfl
    rw [et_X3_receiveOp]
    simp (disch := omega) only [↓reduceIte, et_X0_behind, et_X0_kept, eq_atS, eq_atS_, r.o1, r.o2, q.hb, eq_false (show ¬ nI 1 = 0 by decide), eq_num0 ht2 ne, R.c12, eq_num0 R.ht ne, r.r10, mk]
  rw [W, W2]
  by_cases i1 : ie = 1
  · have V : et_X12_givesOn G = em_pI G 119 7 2 := by
      rw [et_X12_givesOn]
      simp (disch := omega) only [eq_c7, eq_c8, eq_c9, eq_c10, eq_c11, eq_c12, eq_c13, eq_c14, eq_c15, eq_c16, eq_c17, eq_c18, eq_c19, eq_c20, eq_c21, eq_c22, eq_c23, eq_c24, nI_clamp, eq_x5, eq_s4, eq_e2, nI_1, eq_p2, eq_m0, vp_in_nI, eq_f8, eq_p3, eq_p4, eq_p5, eq_p6, eq_p7, nI_pos', R.g17, R.g19, R.g20, q.hw, q.he2, q.hc2, b3, hQ, eq_true i1, eq_stands, eq_true (show nI 1 = (1 : Int32) from rfl), eq_false (show ¬ nI 1 = (2 : Int32) by decide), eq_false (show ¬ nI 1 = (7 : Int32) by decide), eq_false (show ¬ nI 1 = (8 : Int32) by decide), eq_false (show ¬ nI 1 = (0 : Int32) by decide), eq_false (show ¬ nI 1 = (3 : Int32) by decide), eq_false (show ¬ nI 1 = (4 : Int32) by decide), eq_false (show ¬ nI 1 = (5 : Int32) by decide), eq_false (show ¬ nI 1 = (6 : Int32) by decide), eq_false (show ¬ nI 1 = (9 : Int32) by decide), eq_false (show ¬ nI 1 = (10 : Int32) by decide), eq_false (show ¬ nI 1 = (11 : Int32) by decide), eq_false (show ¬ nI 1 = (13 : Int32) by decide), ↓reduceIte, forall_eq', true_and, and_true, implies_true, forall_const, true_implies, false_implies, not_true_eq_false, not_false_eq_true, if_true, if_false]
    have E : es_X12_givesOn G := by
      rw [es_X12_givesOn]
      simp (disch := omega) only [eq_c7, eq_c8, eq_c9, eq_c10, eq_c11, eq_c12, eq_c13, eq_c14, eq_c15, eq_c16, eq_c17, eq_c18, eq_c19, eq_c20, eq_c21, eq_c22, eq_c23, eq_c24, nI_clamp, eq_x5, eq_s4, eq_e2, nI_1, eq_p2, eq_m0, vp_in_nI, eq_f8, eq_p3, eq_p4, eq_p5, eq_p6, eq_p7, nI_pos', R.g17, R.g19, R.g20, q.hw, q.he2, q.hc2, b3, hQ, eq_true i1, eq_stands, eq_true (show nI 1 = (1 : Int32) from rfl), eq_false (show ¬ nI 1 = (2 : Int32) by decide), eq_false (show ¬ nI 1 = (7 : Int32) by decide), eq_false (show ¬ nI 1 = (8 : Int32) by decide), eq_false (show ¬ nI 1 = (0 : Int32) by decide), eq_false (show ¬ nI 1 = (3 : Int32) by decide), eq_false (show ¬ nI 1 = (4 : Int32) by decide), eq_false (show ¬ nI 1 = (5 : Int32) by decide), eq_false (show ¬ nI 1 = (6 : Int32) by decide), eq_false (show ¬ nI 1 = (9 : Int32) by decide), eq_false (show ¬ nI 1 = (10 : Int32) by decide), eq_false (show ¬ nI 1 = (11 : Int32) by decide), eq_false (show ¬ nI 1 = (13 : Int32) by decide), ↓reduceIte, forall_eq', true_and, and_true, implies_true, forall_const, true_implies, false_implies, not_true_eq_false, not_false_eq_true, if_true, if_false]
    rw [V]
    refine ⟨E, ?_⟩
    by_cases i2 : G.1 119 (120 + 8 * f + 3) = 1
    · rw [if_pos i2]; exact stp
    · rw [if_neg i2, if_pos i1]; exact stp
  · by_cases i2 : G.1 119 (120 + 8 * f + 3) = 1
    · have V : et_X12_givesOn G = em_pI G 119 7 2 := by
        rw [et_X12_givesOn]
        simp (disch := omega) only [eq_c7, eq_c8, eq_c9, eq_c10, eq_c11, eq_c12, eq_c13, eq_c14, eq_c15, eq_c16, eq_c17, eq_c18, eq_c19, eq_c20, eq_c21, eq_c22, eq_c23, eq_c24, nI_clamp, eq_x5, eq_s4, eq_e2, nI_1, eq_p2, eq_m0, vp_in_nI, eq_f8, eq_p3, eq_p4, eq_p5, eq_p6, eq_p7, nI_pos', R.g17, R.g19, R.g20, q.hw, q.he2, q.hc2, b3, hQ, eq_false i1, eq_true i2, eq_stands, eq_true (show nI 1 = (1 : Int32) from rfl), eq_false (show ¬ nI 1 = (2 : Int32) by decide), eq_false (show ¬ nI 1 = (7 : Int32) by decide), eq_false (show ¬ nI 1 = (8 : Int32) by decide), eq_false (show ¬ nI 1 = (0 : Int32) by decide), eq_false (show ¬ nI 1 = (3 : Int32) by decide), eq_false (show ¬ nI 1 = (4 : Int32) by decide), eq_false (show ¬ nI 1 = (5 : Int32) by decide), eq_false (show ¬ nI 1 = (6 : Int32) by decide), eq_false (show ¬ nI 1 = (9 : Int32) by decide), eq_false (show ¬ nI 1 = (10 : Int32) by decide), eq_false (show ¬ nI 1 = (11 : Int32) by decide), eq_false (show ¬ nI 1 = (13 : Int32) by decide), ↓reduceIte, forall_eq', true_and, and_true, implies_true, forall_const, true_implies, false_implies, not_true_eq_false, not_false_eq_true, if_true, if_false]
      have E : es_X12_givesOn G := by
        rw [es_X12_givesOn]
        simp (disch := omega) only [eq_c7, eq_c8, eq_c9, eq_c10, eq_c11, eq_c12, eq_c13, eq_c14, eq_c15, eq_c16, eq_c17, eq_c18, eq_c19, eq_c20, eq_c21, eq_c22, eq_c23, eq_c24, nI_clamp, eq_x5, eq_s4, eq_e2, nI_1, eq_p2, eq_m0, vp_in_nI, eq_f8, eq_p3, eq_p4, eq_p5, eq_p6, eq_p7, nI_pos', R.g17, R.g19, R.g20, q.hw, q.he2, q.hc2, b3, hQ, eq_false i1, eq_true i2, eq_stands, eq_true (show nI 1 = (1 : Int32) from rfl), eq_false (show ¬ nI 1 = (2 : Int32) by decide), eq_false (show ¬ nI 1 = (7 : Int32) by decide), eq_false (show ¬ nI 1 = (8 : Int32) by decide), eq_false (show ¬ nI 1 = (0 : Int32) by decide), eq_false (show ¬ nI 1 = (3 : Int32) by decide), eq_false (show ¬ nI 1 = (4 : Int32) by decide), eq_false (show ¬ nI 1 = (5 : Int32) by decide), eq_false (show ¬ nI 1 = (6 : Int32) by decide), eq_false (show ¬ nI 1 = (9 : Int32) by decide), eq_false (show ¬ nI 1 = (10 : Int32) by decide), eq_false (show ¬ nI 1 = (11 : Int32) by decide), eq_false (show ¬ nI 1 = (13 : Int32) by decide), ↓reduceIte, forall_eq', true_and, and_true, implies_true, forall_const, true_implies, false_implies, not_true_eq_false, not_false_eq_true, if_true, if_false]
      rw [V, if_pos i2]
      exact ⟨E, stp⟩
    · obtain ⟨-, -, z1⟩ := eq_numv R.ht i1
      obtain ⟨-, -, z2⟩ := eq_numv ht2 i2
      have V : et_X12_givesOn G = et_X12_gives Q 0 (et_X12_made Q (nI sg) (G.1 119 (120 + 8 * f + 4)) y) := by
        rw [et_X12_givesOn]
        simp (disch := omega) only [eq_c7, eq_c8, eq_c9, eq_c10, eq_c11, eq_c12, eq_c13, eq_c14, eq_c15, eq_c16, eq_c17, eq_c18, eq_c19, eq_c20, eq_c21, eq_c22, eq_c23, eq_c24, nI_clamp, eq_x5, eq_s4, eq_e2, nI_1, eq_p2, eq_m0, vp_in_nI, eq_f8, eq_p3, eq_p4, eq_p5, eq_p6, eq_p7, nI_pos', R.g17, R.g19, R.g20, q.hw, q.he2, q.hc2, b3, hQ, eq_false i1, eq_false i2, qo, qk, nd.hs, eq_true (show nI 1 = (1 : Int32) from rfl), eq_false (show ¬ nI 1 = (2 : Int32) by decide), eq_false (show ¬ nI 1 = (7 : Int32) by decide), eq_false (show ¬ nI 1 = (8 : Int32) by decide), eq_false (show ¬ nI 1 = (0 : Int32) by decide), eq_false (show ¬ nI 1 = (3 : Int32) by decide), eq_false (show ¬ nI 1 = (4 : Int32) by decide), eq_false (show ¬ nI 1 = (5 : Int32) by decide), eq_false (show ¬ nI 1 = (6 : Int32) by decide), eq_false (show ¬ nI 1 = (9 : Int32) by decide), eq_false (show ¬ nI 1 = (10 : Int32) by decide), eq_false (show ¬ nI 1 = (11 : Int32) by decide), eq_false (show ¬ nI 1 = (13 : Int32) by decide), ↓reduceIte, forall_eq', true_and, and_true, implies_true, forall_const, true_implies, false_implies, not_true_eq_false, not_false_eq_true, if_true, if_false]
      have E : es_X12_givesOn G := by
        rw [es_X12_givesOn]
        simp (disch := omega) only [eq_c7, eq_c8, eq_c9, eq_c10, eq_c11, eq_c12, eq_c13, eq_c14, eq_c15, eq_c16, eq_c17, eq_c18, eq_c19, eq_c20, eq_c21, eq_c22, eq_c23, eq_c24, nI_clamp, eq_x5, eq_s4, eq_e2, nI_1, eq_p2, eq_m0, vp_in_nI, eq_f8, eq_p3, eq_p4, eq_p5, eq_p6, eq_p7, nI_pos', R.g17, R.g19, R.g20, q.hw, q.he2, q.hc2, b3, hQ, eq_false i1, eq_false i2, qo, qk, nd.hs, eq_true (show nI 1 = (1 : Int32) from rfl), eq_false (show ¬ nI 1 = (2 : Int32) by decide), eq_false (show ¬ nI 1 = (7 : Int32) by decide), eq_false (show ¬ nI 1 = (8 : Int32) by decide), eq_false (show ¬ nI 1 = (0 : Int32) by decide), eq_false (show ¬ nI 1 = (3 : Int32) by decide), eq_false (show ¬ nI 1 = (4 : Int32) by decide), eq_false (show ¬ nI 1 = (5 : Int32) by decide), eq_false (show ¬ nI 1 = (6 : Int32) by decide), eq_false (show ¬ nI 1 = (9 : Int32) by decide), eq_false (show ¬ nI 1 = (10 : Int32) by decide), eq_false (show ¬ nI 1 = (11 : Int32) by decide), eq_false (show ¬ nI 1 = (13 : Int32) by decide), ↓reduceIte, forall_eq', true_and, and_true, implies_true, forall_const, true_implies, false_implies, not_true_eq_false, not_false_eq_true, if_true, if_false]
      rw [V, if_neg i2, if_neg i1, z1, z2, eq_madeX P Q]
      exact ⟨E, ep_gv mp b' hch r.r13 q17 R.hwi p14 q18 cwp (Or.inl ⟨rfl, rfl⟩)⟩
set_option maxHeartbeats 4000000 in
theorem ep_r1 {φ D : Nat → Nat × Nat} {u nl : Nat} {H : ep_H} {t w : Nat} {C0 G0 C G : em_M} {f wi : Nat} {v : Int64} {ie y : Int32} (R : ep_Rc φ D u nl H t w C0 G0 C G f wi v ie y) {e sc : Nat} (q : ep_F1 φ u H w 119 C G f 1 0 2 e sc) : es_X12_givesOn G ∧ ep_Ps φ u nl t w C0 G0 (et_X3_receive w C) (et_X12_givesOn G) := by
  have h := R.md
  have ln := R.ln
  have w6 := h.w6
  have t3 := h.t3
  have n8 := ln.n8
  have hu := ln.hu
  have nf := h.nf
  have ns := h.ns
  have nw := h.nw
  have ne := h.ne
  have b := R.b
  have b' : H.nf ≤ t + 1 ∧ H.ns ≤ t + 1 ∧ H.nw ≤ t + 1 ∧ H.ne ≤ t + 1 := by omega
  have f0 := R.f0
  have he := q.he
  obtain ⟨b1, b2, b3⟩ := h.tb.fb f f0
  have hm : (φ e).1 < 808 := by have := ln.hm e he; omega
  obtain ⟨sg, np, nd⟩ := ep_n4 ln he q.hk (by omega) (by omega)
  have hK := nd.hK
  have W := er_1 R q.hs b2 q.he1 q.hc1
  obtain ⟨P, hP⟩ : ∃ P, ep_pC w C (nI (H.fb (f + 1))) (nI e) (nI sc) = P := ⟨_, rfl⟩
  have r : ep_pr w C (nI (H.fb (f + 1))) (nI e) (nI sc) P := hP ▸ ep_pCr w C (nI (H.fb (f + 1))) (nI e) (nI sc)
  rw [hP] at W
  obtain ⟨Q, hQ⟩ : ∃ Q, em_pI G 119 17 (nI (H.fb (f + 1)) - 1) = Q := ⟨_, rfl⟩
  have mp : ep_Md φ u nl H t w C0 G0 P Q := hQ ▸ ep_Md_pop h r _
  have qo : ∀ o, o ≠ 119 → Q.1 o = G.1 o := fun o ho => by rw [← hQ]; exact ef_pI' _ _ _ _ ho
  have qk : ∀ k, k ≠ 17 → Q.1 119 k = G.1 119 k := fun k hk => by rw [← hQ]; exact ef_pIk _ _ hk
  have q17 : Q.1 119 17 = nI (H.fb (f + 1)) - 1 := by rw [← hQ]; exact ef_pIs _ _ rfl
  have q2 : Q.2 = G.2 := by rw [← hQ]; rfl
  have p9 : P.1 (w + 3) 9 = 1 := by rw [r.rk _ (by omega) (by omega) (by omega)]; exact R.c9
  have p14 : P.1 (w + 3) 14 = nI wi := by rw [r.rk _ (by omega) (by omega) (by omega)]; exact R.c14
  have p12 : P.2 (w + 3) 12 = v := by rw [r.o2]; exact R.c12
  have q18 : Q.1 119 18 = nI wi - 1 := by rw [qk _ (by omega)]; exact R.g18
  have hch : H.fb (f + 1) ≤ H.nf := by omega
  have cwp : H.fb (f + 1) ≠ 0 → H.W (H.fb (f + 1)) = wi := fun z => by rw [← q.hW z (by omega)]; exact R.cw
  have stp : ep_Ps φ u nl t w C0 G0 (em_pI P (w + 4) 0 2) (em_pI G 119 7 2) := ep_stopP h 2 (by decide) R.c9 r (fun _ _ => rfl) rfl (fun _ _ => rfl)
  rw [W]
  simp only [eq_num0 R.ht ne]
  by_cases i1 : ie = 1
  · have V : et_X12_givesOn G = em_pI G 119 7 2 := by
      rw [et_X12_givesOn]
      simp (disch := omega) only [eq_c7, eq_c8, eq_c9, eq_c10, eq_c11, eq_c12, eq_c13, eq_c14, eq_c15, eq_c16, eq_c17, eq_c18, eq_c19, eq_c20, eq_c21, eq_c22, eq_c23, eq_c24, nI_clamp, eq_x5, eq_s4, eq_e2, nI_1, eq_p2, eq_m0, vp_in_nI, eq_f8, eq_p3, eq_p4, eq_p5, eq_p6, eq_p7, nI_pos', R.g17, R.g19, R.g20, q.hw, q.he2, q.hc2, b3, hQ, eq_true i1, eq_stands, eq_false (show ¬ nI 2 = (1 : Int32) by decide), eq_true (show nI 2 = (2 : Int32) from rfl), eq_false (show ¬ nI 2 = (7 : Int32) by decide), eq_false (show ¬ nI 2 = (8 : Int32) by decide), eq_false (show ¬ nI 2 = (0 : Int32) by decide), eq_false (show ¬ nI 2 = (3 : Int32) by decide), eq_false (show ¬ nI 2 = (4 : Int32) by decide), eq_false (show ¬ nI 2 = (5 : Int32) by decide), eq_false (show ¬ nI 2 = (6 : Int32) by decide), eq_false (show ¬ nI 2 = (9 : Int32) by decide), eq_false (show ¬ nI 2 = (10 : Int32) by decide), eq_false (show ¬ nI 2 = (11 : Int32) by decide), eq_false (show ¬ nI 2 = (13 : Int32) by decide), ↓reduceIte, forall_eq', true_and, and_true, implies_true, forall_const, true_implies, false_implies, not_true_eq_false, not_false_eq_true, if_true, if_false]
    have E : es_X12_givesOn G := by
      rw [es_X12_givesOn]
      simp (disch := omega) only [eq_c7, eq_c8, eq_c9, eq_c10, eq_c11, eq_c12, eq_c13, eq_c14, eq_c15, eq_c16, eq_c17, eq_c18, eq_c19, eq_c20, eq_c21, eq_c22, eq_c23, eq_c24, nI_clamp, eq_x5, eq_s4, eq_e2, nI_1, eq_p2, eq_m0, vp_in_nI, eq_f8, eq_p3, eq_p4, eq_p5, eq_p6, eq_p7, nI_pos', R.g17, R.g19, R.g20, q.hw, q.he2, q.hc2, b3, hQ, eq_true i1, eq_stands, eq_false (show ¬ nI 2 = (1 : Int32) by decide), eq_true (show nI 2 = (2 : Int32) from rfl), eq_false (show ¬ nI 2 = (7 : Int32) by decide), eq_false (show ¬ nI 2 = (8 : Int32) by decide), eq_false (show ¬ nI 2 = (0 : Int32) by decide), eq_false (show ¬ nI 2 = (3 : Int32) by decide), eq_false (show ¬ nI 2 = (4 : Int32) by decide), eq_false (show ¬ nI 2 = (5 : Int32) by decide), eq_false (show ¬ nI 2 = (6 : Int32) by decide), eq_false (show ¬ nI 2 = (9 : Int32) by decide), eq_false (show ¬ nI 2 = (10 : Int32) by decide), eq_false (show ¬ nI 2 = (11 : Int32) by decide), eq_false (show ¬ nI 2 = (13 : Int32) by decide), ↓reduceIte, forall_eq', true_and, and_true, implies_true, forall_const, true_implies, false_implies, not_true_eq_false, not_false_eq_true, if_true, if_false]
    rw [V, if_pos i1]
    exact ⟨E, stp⟩
  · obtain ⟨-, z1, -⟩ := eq_numv R.ht i1
    rw [if_neg i1, z1]
    simp only [eq_cmp0]
    by_cases y0 : y = 0
    · obtain ⟨p, p1, p2, p3, p4⟩ := nd.hp 2 (by unfold ep_K at hK; omega)
      have V : et_X12_givesOn G = et_X12_works Q (nI (φ p).1) 0 (nI sc - 1) := by
        rw [et_X12_givesOn]
        simp (disch := omega) only [eq_c7, eq_c8, eq_c9, eq_c10, eq_c11, eq_c12, eq_c13, eq_c14, eq_c15, eq_c16, eq_c17, eq_c18, eq_c19, eq_c20, eq_c21, eq_c22, eq_c23, eq_c24, nI_clamp, eq_x5, eq_s4, eq_e2, nI_1, eq_p2, eq_m0, vp_in_nI, eq_f8, eq_p3, eq_p4, eq_p5, eq_p6, eq_p7, nI_pos', R.g17, R.g19, R.g20, q.hw, q.he2, q.hc2, b3, hQ, eq_false i1, eq_true y0, qo, p4, eq_false (show ¬ nI 2 = (1 : Int32) by decide), eq_true (show nI 2 = (2 : Int32) from rfl), eq_false (show ¬ nI 2 = (7 : Int32) by decide), eq_false (show ¬ nI 2 = (8 : Int32) by decide), eq_false (show ¬ nI 2 = (0 : Int32) by decide), eq_false (show ¬ nI 2 = (3 : Int32) by decide), eq_false (show ¬ nI 2 = (4 : Int32) by decide), eq_false (show ¬ nI 2 = (5 : Int32) by decide), eq_false (show ¬ nI 2 = (6 : Int32) by decide), eq_false (show ¬ nI 2 = (9 : Int32) by decide), eq_false (show ¬ nI 2 = (10 : Int32) by decide), eq_false (show ¬ nI 2 = (11 : Int32) by decide), eq_false (show ¬ nI 2 = (13 : Int32) by decide), ↓reduceIte, forall_eq', true_and, and_true, implies_true, forall_const, true_implies, false_implies, not_true_eq_false, not_false_eq_true, if_true, if_false]
      have E : es_X12_givesOn G := by
        rw [es_X12_givesOn]
        simp (disch := omega) only [eq_c7, eq_c8, eq_c9, eq_c10, eq_c11, eq_c12, eq_c13, eq_c14, eq_c15, eq_c16, eq_c17, eq_c18, eq_c19, eq_c20, eq_c21, eq_c22, eq_c23, eq_c24, nI_clamp, eq_x5, eq_s4, eq_e2, nI_1, eq_p2, eq_m0, vp_in_nI, eq_f8, eq_p3, eq_p4, eq_p5, eq_p6, eq_p7, nI_pos', R.g17, R.g19, R.g20, q.hw, q.he2, q.hc2, b3, hQ, eq_false i1, eq_true y0, qo, p4, eq_false (show ¬ nI 2 = (1 : Int32) by decide), eq_true (show nI 2 = (2 : Int32) from rfl), eq_false (show ¬ nI 2 = (7 : Int32) by decide), eq_false (show ¬ nI 2 = (8 : Int32) by decide), eq_false (show ¬ nI 2 = (0 : Int32) by decide), eq_false (show ¬ nI 2 = (3 : Int32) by decide), eq_false (show ¬ nI 2 = (4 : Int32) by decide), eq_false (show ¬ nI 2 = (5 : Int32) by decide), eq_false (show ¬ nI 2 = (6 : Int32) by decide), eq_false (show ¬ nI 2 = (9 : Int32) by decide), eq_false (show ¬ nI 2 = (10 : Int32) by decide), eq_false (show ¬ nI 2 = (11 : Int32) by decide), eq_false (show ¬ nI 2 = (13 : Int32) by decide), ↓reduceIte, forall_eq', true_and, and_true, implies_true, forall_const, true_implies, false_implies, not_true_eq_false, not_false_eq_true, if_true, if_false]
      rw [V, if_pos y0, show (2 : Int32) = nI 2 from rfl, eq_workOn (by omega) (by omega) r.r10]
      exact ⟨E, ep_wk mp b' hch r.r13 q17 R.hwi p14 cwp p1 q.hc r.r11 (by rw [r.o1 _ (by omega)]; exact p2) (ep_fwW rfl (by rw [p3]; rfl) rfl q18)⟩
    · obtain ⟨p, p1, p2, p3, p4⟩ := nd.hp 1 (by unfold ep_K at hK; omega)
      have V : et_X12_givesOn G = et_X12_works Q (nI (φ p).1) 0 (nI sc - 1) := by
        rw [et_X12_givesOn]
        simp (disch := omega) only [eq_c7, eq_c8, eq_c9, eq_c10, eq_c11, eq_c12, eq_c13, eq_c14, eq_c15, eq_c16, eq_c17, eq_c18, eq_c19, eq_c20, eq_c21, eq_c22, eq_c23, eq_c24, nI_clamp, eq_x5, eq_s4, eq_e2, nI_1, eq_p2, eq_m0, vp_in_nI, eq_f8, eq_p3, eq_p4, eq_p5, eq_p6, eq_p7, nI_pos', R.g17, R.g19, R.g20, q.hw, q.he2, q.hc2, b3, hQ, eq_false i1, eq_false y0, qo, p4, eq_false (show ¬ nI 2 = (1 : Int32) by decide), eq_true (show nI 2 = (2 : Int32) from rfl), eq_false (show ¬ nI 2 = (7 : Int32) by decide), eq_false (show ¬ nI 2 = (8 : Int32) by decide), eq_false (show ¬ nI 2 = (0 : Int32) by decide), eq_false (show ¬ nI 2 = (3 : Int32) by decide), eq_false (show ¬ nI 2 = (4 : Int32) by decide), eq_false (show ¬ nI 2 = (5 : Int32) by decide), eq_false (show ¬ nI 2 = (6 : Int32) by decide), eq_false (show ¬ nI 2 = (9 : Int32) by decide), eq_false (show ¬ nI 2 = (10 : Int32) by decide), eq_false (show ¬ nI 2 = (11 : Int32) by decide), eq_false (show ¬ nI 2 = (13 : Int32) by decide), ↓reduceIte, forall_eq', true_and, and_true, implies_true, forall_const, true_implies, false_implies, not_true_eq_false, not_false_eq_true, if_true, if_false]
      have E : es_X12_givesOn G := by
        rw [es_X12_givesOn]
        simp (disch := omega) only [eq_c7, eq_c8, eq_c9, eq_c10, eq_c11, eq_c12, eq_c13, eq_c14, eq_c15, eq_c16, eq_c17, eq_c18, eq_c19, eq_c20, eq_c21, eq_c22, eq_c23, eq_c24, nI_clamp, eq_x5, eq_s4, eq_e2, nI_1, eq_p2, eq_m0, vp_in_nI, eq_f8, eq_p3, eq_p4, eq_p5, eq_p6, eq_p7, nI_pos', R.g17, R.g19, R.g20, q.hw, q.he2, q.hc2, b3, hQ, eq_false i1, eq_false y0, qo, p4, eq_false (show ¬ nI 2 = (1 : Int32) by decide), eq_true (show nI 2 = (2 : Int32) from rfl), eq_false (show ¬ nI 2 = (7 : Int32) by decide), eq_false (show ¬ nI 2 = (8 : Int32) by decide), eq_false (show ¬ nI 2 = (0 : Int32) by decide), eq_false (show ¬ nI 2 = (3 : Int32) by decide), eq_false (show ¬ nI 2 = (4 : Int32) by decide), eq_false (show ¬ nI 2 = (5 : Int32) by decide), eq_false (show ¬ nI 2 = (6 : Int32) by decide), eq_false (show ¬ nI 2 = (9 : Int32) by decide), eq_false (show ¬ nI 2 = (10 : Int32) by decide), eq_false (show ¬ nI 2 = (11 : Int32) by decide), eq_false (show ¬ nI 2 = (13 : Int32) by decide), ↓reduceIte, forall_eq', true_and, and_true, implies_true, forall_const, true_implies, false_implies, not_true_eq_false, not_false_eq_true, if_true, if_false]
      rw [V, if_neg y0, show (1 : Int32) = nI 1 from rfl, eq_workOn (by omega) (by omega) r.r10]
      exact ⟨E, ep_wk mp b' hch r.r13 q17 R.hwi p14 cwp p1 q.hc r.r11 (by rw [r.o1 _ (by omega)]; exact p2) (ep_fwW rfl (by rw [p3]; rfl) rfl q18)⟩
set_option maxHeartbeats 4000000 in
theorem ep_r2 {φ D : Nat → Nat × Nat} {u nl : Nat} {H : ep_H} {t w : Nat} {C0 G0 C G : em_M} {f wi : Nat} {v : Int64} {ie y : Int32} (R : ep_Rc φ D u nl H t w C0 G0 C G f wi v ie y) {e sc : Nat} (q : ep_F1 φ u H w 119 C G f 2 0 3 e sc) : es_X12_givesOn G ∧ ep_Ps φ u nl t w C0 G0 (et_X3_receive w C) (et_X12_givesOn G) := by
  have h := R.md
  have ln := R.ln
  have w6 := h.w6
  have t3 := h.t3
  have n8 := ln.n8
  have hu := ln.hu
  have nf := h.nf
  have ns := h.ns
  have nw := h.nw
  have ne := h.ne
  have b := R.b
  have b' : H.nf ≤ t + 1 ∧ H.ns ≤ t + 1 ∧ H.nw ≤ t + 1 ∧ H.ne ≤ t + 1 := by omega
  have f0 := R.f0
  have he := q.he
  obtain ⟨b1, b2, b3⟩ := h.tb.fb f f0
  have hm : (φ e).1 < 808 := by have := ln.hm e he; omega
  obtain ⟨sg, np, nd⟩ := ep_n4 ln he q.hk (by omega) (by omega)
  have hK := nd.hK
  have W := er_2 R q.hs b2 q.he1 q.hc1
  obtain ⟨P, hP⟩ : ∃ P, ep_pC w C (nI (H.fb (f + 1))) (nI e) (nI sc) = P := ⟨_, rfl⟩
  have r : ep_pr w C (nI (H.fb (f + 1))) (nI e) (nI sc) P := hP ▸ ep_pCr w C (nI (H.fb (f + 1))) (nI e) (nI sc)
  rw [hP] at W
  obtain ⟨Q, hQ⟩ : ∃ Q, em_pI G 119 17 (nI (H.fb (f + 1)) - 1) = Q := ⟨_, rfl⟩
  have mp : ep_Md φ u nl H t w C0 G0 P Q := hQ ▸ ep_Md_pop h r _
  have qo : ∀ o, o ≠ 119 → Q.1 o = G.1 o := fun o ho => by rw [← hQ]; exact ef_pI' _ _ _ _ ho
  have qk : ∀ k, k ≠ 17 → Q.1 119 k = G.1 119 k := fun k hk => by rw [← hQ]; exact ef_pIk _ _ hk
  have q17 : Q.1 119 17 = nI (H.fb (f + 1)) - 1 := by rw [← hQ]; exact ef_pIs _ _ rfl
  have q2 : Q.2 = G.2 := by rw [← hQ]; rfl
  have p9 : P.1 (w + 3) 9 = 1 := by rw [r.rk _ (by omega) (by omega) (by omega)]; exact R.c9
  have p14 : P.1 (w + 3) 14 = nI wi := by rw [r.rk _ (by omega) (by omega) (by omega)]; exact R.c14
  have p12 : P.2 (w + 3) 12 = v := by rw [r.o2]; exact R.c12
  have q18 : Q.1 119 18 = nI wi - 1 := by rw [qk _ (by omega)]; exact R.g18
  have hch : H.fb (f + 1) ≤ H.nf := by omega
  have cwp : H.fb (f + 1) ≠ 0 → H.W (H.fb (f + 1)) = wi := fun z => by rw [← q.hW z (by omega)]; exact R.cw
  obtain ⟨p, p1, p2, p3, p4⟩ := nd.hp 1 (by unfold ep_K at hK; omega)
  obtain ⟨a, a1, a2, a3⟩ := nd.ha (Or.inl rfl)
  have mk : et_X2_mark P (nI e) = nI a := by rw [et_X2_mark, eq_atS _ (by omega) (by omega), r.o1 _ (by omega)]; exact a2
  obtain ⟨C2, G2, m1, m2, m3, m4, m5, m6, m7, m8⟩ := ep_bind mp (by omega) sc a q.hc a1 R.ht
  have W2 : et_X3_receive w C = em_pI (em_pI (em_pI C2 (w + 3) 11 (nI (H.ns + 1))) (w + 3) 10 (nI p)) (w + 3) 9 0 := by
    rw [W, mk, m1, show (1 : Int32) = nI 1 from rfl, eq_workOn (e := e) (by omega) (by omega) (by rw [ef_pIk _ _ (by omega), m5 _ (by omega)]; exact r.r10)]
    rw [ef_pI' _ _ _ _ (by omega), m5 _ (by omega), r.o1 _ (by omega), p2]
  have V : et_X12_givesOn G = et_X12_works G2 (nI (φ p).1) 0 (nI H.ns) := by
    rw [et_X12_givesOn]
    simp (disch := omega) only [eq_c7, eq_c8, eq_c9, eq_c10, eq_c11, eq_c12, eq_c13, eq_c14, eq_c15, eq_c16, eq_c17, eq_c18, eq_c19, eq_c20, eq_c21, eq_c22, eq_c23, eq_c24, nI_clamp, eq_x5, eq_s4, eq_e2, nI_1, eq_p2, eq_m0, vp_in_nI, eq_f8, eq_p3, eq_p4, eq_p5, eq_p6, eq_p7, nI_pos', R.g17, R.g19, R.g20, q.hw, q.he2, q.hc2, b3, hQ, qo, a3, p4, m3, eq_false (show ¬ nI 3 = (1 : Int32) by decide), eq_false (show ¬ nI 3 = (2 : Int32) by decide), eq_false (show ¬ nI 3 = (7 : Int32) by decide), eq_false (show ¬ nI 3 = (8 : Int32) by decide), eq_false (show ¬ nI 3 = (0 : Int32) by decide), eq_true (show nI 3 = (3 : Int32) from rfl), eq_false (show ¬ nI 3 = (4 : Int32) by decide), eq_false (show ¬ nI 3 = (5 : Int32) by decide), eq_false (show ¬ nI 3 = (6 : Int32) by decide), eq_false (show ¬ nI 3 = (9 : Int32) by decide), eq_false (show ¬ nI 3 = (10 : Int32) by decide), eq_false (show ¬ nI 3 = (11 : Int32) by decide), eq_false (show ¬ nI 3 = (13 : Int32) by decide), ↓reduceIte, forall_eq', true_and, and_true, implies_true, forall_const, true_implies, false_implies, not_true_eq_false, not_false_eq_true, if_true, if_false]
  have E : es_X12_givesOn G := by
    rw [es_X12_givesOn]
    simp (disch := omega) only [eq_c7, eq_c8, eq_c9, eq_c10, eq_c11, eq_c12, eq_c13, eq_c14, eq_c15, eq_c16, eq_c17, eq_c18, eq_c19, eq_c20, eq_c21, eq_c22, eq_c23, eq_c24, nI_clamp, eq_x5, eq_s4, eq_e2, nI_1, eq_p2, eq_m0, vp_in_nI, eq_f8, eq_p3, eq_p4, eq_p5, eq_p6, eq_p7, nI_pos', R.g17, R.g19, R.g20, q.hw, q.he2, q.hc2, b3, hQ, qo, a3, p4, m2, m3, eq_false (show ¬ nI 3 = (1 : Int32) by decide), eq_false (show ¬ nI 3 = (2 : Int32) by decide), eq_false (show ¬ nI 3 = (7 : Int32) by decide), eq_false (show ¬ nI 3 = (8 : Int32) by decide), eq_false (show ¬ nI 3 = (0 : Int32) by decide), eq_true (show nI 3 = (3 : Int32) from rfl), eq_false (show ¬ nI 3 = (4 : Int32) by decide), eq_false (show ¬ nI 3 = (5 : Int32) by decide), eq_false (show ¬ nI 3 = (6 : Int32) by decide), eq_false (show ¬ nI 3 = (9 : Int32) by decide), eq_false (show ¬ nI 3 = (10 : Int32) by decide), eq_false (show ¬ nI 3 = (11 : Int32) by decide), eq_false (show ¬ nI 3 = (13 : Int32) by decide), ↓reduceIte, forall_eq', true_and, and_true, implies_true, forall_const, true_implies, false_implies, not_true_eq_false, not_false_eq_true, if_true, if_false]
  have mm : ep_Md φ u nl (ep_aS H) t w C0 G0 (em_pI C2 (w + 3) 11 (nI (H.ns + 1))) G2 := ep_Md_pI m4 11 _ (by omega)
  rw [W2, V]
  refine ⟨E, ep_wk mm ⟨by show H.nf ≤ _; omega, by show H.ns + 1 ≤ _; omega, by show H.nw ≤ _; omega, by show H.ne ≤ _; omega⟩ hch (sc := H.ns + 1) ?_ ?_ R.hwi ?_ cwp p1 (Nat.le_refl _) ?_ rfl (ep_fwW rfl (by rw [p3]; rfl) (by rw [eq_q1]) ?_)⟩
  · rw [ef_pIk _ _ (by omega), m5 _ (by omega)]; exact r.r13
  · rw [m7 _ (by omega)]; exact q17
  · rw [ef_pIk _ _ (by omega), m5 _ (by omega)]; exact p14
  · rw [ef_pIs _ _ rfl]
  · rw [m7 _ (by omega)]; exact q18
