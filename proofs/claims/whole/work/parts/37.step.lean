set_option maxHeartbeats 20000000 in
theorem ep_work {φ D : Nat → Nat × Nat} {u nl : Nat} {H : ep_H} {t w : Nat} {C0 G0 C G : em_M} (h : ep_Md φ u nl H t w C0 G0 C G) (ln : ep_Ln φ D u nl C G) (b : H.nf ≤ t ∧ H.ns ≤ t ∧ H.nw ≤ t ∧ H.ne ≤ t) {ch wi e sc : Nat} (hch : ch ≤ H.nf) (c13 : C.1 (w + 3) 13 = nI ch) (g17 : G.1 119 17 = nI ch - 1) (hwi : wi ≤ H.nw) (c14 : C.1 (w + 3) 14 = nI wi) (g18 : G.1 119 18 = nI wi - 1) (cw : ch ≠ 0 → H.W ch = wi) (c9 : C.1 (w + 3) 9 = 0) (he : e < u) (c10 : C.1 (w + 3) 10 = nI e) (g14 : G.1 119 14 = nI (φ e).1) (g15 : G.1 119 15 = nI (φ e).2) (hs : sc ≤ H.ns) (c11 : C.1 (w + 3) 11 = nI sc) (g16 : G.1 119 16 = nI sc - 1) : es_X12_worksOn G ∧ ep_Ps φ u nl t w C0 G0 (et_X3_work w C) (et_X12_worksOn G) := by
  have w6 := h.w6
  have t3 := h.t3
  have n8 := ln.n8
  have hu := ln.hu
  have hm : (φ e).1 < 808 := by have := ln.hm e he; omega
  have b' : H.nf ≤ t + 1 ∧ H.ns ≤ t + 1 ∧ H.nw ≤ t + 1 ∧ H.ne ≤ t + 1 := by omega
  have nf := h.nf
  have ns := h.ns
  have nw := h.nw
  have ne := h.ne
  rcases ln.nd e he with q | ⟨a, q⟩ | ⟨n, p, q⟩ | ⟨kd, sg, np, q⟩
  · have e1 : et_X2_kind C (nI e) = nI 11 := by rw [et_X2_kind, eq_atS _ (by omega) (by omega), q.hk]
    have e2 : et_X2_mark C (nI e) = C.1 3 e := by rw [et_X2_mark, eq_atS _ (by omega) (by omega)]
    have W : et_X3_work w C = et_X3_give w C (C.1 3 e).toInt64 := by
      rw [et_X3_work]
      simp only [c10, e1, e2, eq_false (show ¬ nI 11 = (3 : Int32) by decide), eq_false (show ¬ nI 11 = (14 : Int32) by decide), eq_true (show nI 11 = (11 : Int32) from rfl), eq_false (show ¬ nI 11 = (12 : Int32) by decide), eq_false (show ¬ nI 11 = (13 : Int32) by decide), eq_false (show ¬ nI 11 = (5 : Int32) by decide), ↓reduceIte]
    have V : et_X12_worksOn G = et_X12_gives G 0 (G.1 123 (φ e).1) := by
      rw [et_X12_worksOn]
      simp (disch := omega) only [eq_c7, eq_c8, eq_c9, eq_c10, eq_c11, eq_c12, eq_c13, eq_c14, eq_c15, eq_c16, eq_c17, eq_c18, eq_c19, eq_c20, eq_c21, eq_c22, eq_c23, eq_c24, nI_clamp, eq_x5, eq_s4, eq_e2, nI_1, eq_p2, eq_m0, vp_in_nI, g14, q.hs, eq_false (show ¬ nI 48 = (97 : Int32) by decide), eq_false (show ¬ nI 48 = (94 : Int32) by decide), eq_true (show nI 48 = (48 : Int32) from rfl), eq_false (show ¬ nI 48 = (91 : Int32) by decide), eq_false (show ¬ nI 48 = (64 : Int32) by decide), ↓reduceIte, forall_eq', true_and, and_true, implies_true, forall_const, true_implies, false_implies, not_true_eq_false, not_false_eq_true, if_true, if_false]
    have E : es_X12_worksOn G := by
      rw [es_X12_worksOn]
      simp (disch := omega) only [eq_c7, eq_c8, eq_c9, eq_c10, eq_c11, eq_c12, eq_c13, eq_c14, eq_c15, eq_c16, eq_c17, eq_c18, eq_c19, eq_c20, eq_c21, eq_c22, eq_c23, eq_c24, nI_clamp, eq_x5, eq_s4, eq_e2, nI_1, eq_p2, eq_m0, vp_in_nI, g14, q.hs, eq_false (show ¬ nI 48 = (97 : Int32) by decide), eq_false (show ¬ nI 48 = (94 : Int32) by decide), eq_true (show nI 48 = (48 : Int32) from rfl), eq_false (show ¬ nI 48 = (91 : Int32) by decide), eq_false (show ¬ nI 48 = (64 : Int32) by decide), ↓reduceIte, forall_eq', true_and, and_true, implies_true, forall_const, true_implies, false_implies, not_true_eq_false, not_false_eq_true, if_true, if_false]
    rw [W, V]
    exact ⟨E, ep_gv h b' hch c13 g17 hwi c14 g18 cw (Or.inl ⟨rfl, by rw [q.hm]⟩)⟩
  · have ha := q.ha
    have e1 : et_X2_kind C (nI e) = nI 12 := by rw [et_X2_kind, eq_atS _ (by omega) (by omega), q.hk]
    have e2 : et_X2_mark C (nI e) = nI a := by rw [et_X2_mark, eq_atS _ (by omega) (by omega), q.hm]
    have W : et_X3_work w C = et_X3_give w C (et_X3_lookUp w C (nI a)) := by
      rw [et_X3_work]
      simp only [c10, e1, e2, eq_false (show ¬ nI 12 = (3 : Int32) by decide), eq_false (show ¬ nI 12 = (14 : Int32) by decide), eq_false (show ¬ nI 12 = (11 : Int32) by decide), eq_true (show nI 12 = (12 : Int32) from rfl), eq_false (show ¬ nI 12 = (13 : Int32) by decide), eq_false (show ¬ nI 12 = (5 : Int32) by decide), ↓reduceIte]
    obtain ⟨l1, l2⟩ := ep_look h hs q.ha c11
    rcases l2 with ⟨f1, f2⟩ | ⟨s, s1, s2, s3⟩
    · have V : et_X12_worksOn G = et_X12_gives G 0 (G.1 119 a) := by
        rw [et_X12_worksOn]
        simp (disch := omega) only [eq_c7, eq_c8, eq_c9, eq_c10, eq_c11, eq_c12, eq_c13, eq_c14, eq_c15, eq_c16, eq_c17, eq_c18, eq_c19, eq_c20, eq_c21, eq_c22, eq_c23, eq_c24, nI_clamp, eq_x5, eq_s4, eq_e2, nI_1, eq_p2, eq_m0, vp_in_nI, g14, g16, q.hs, q.hm', f1, eq_true eq_neg, eq_true (show nI 97 = (97 : Int32) from rfl), eq_false (show ¬ nI 97 = (94 : Int32) by decide), eq_false (show ¬ nI 97 = (48 : Int32) by decide), eq_false (show ¬ nI 97 = (91 : Int32) by decide), eq_false (show ¬ nI 97 = (64 : Int32) by decide), ↓reduceIte, forall_eq', true_and, and_true, implies_true, forall_const, true_implies, false_implies, not_true_eq_false, not_false_eq_true, if_true, if_false]
      have E : es_X12_worksOn G := by
        rw [es_X12_worksOn]
        simp (disch := omega) only [eq_c7, eq_c8, eq_c9, eq_c10, eq_c11, eq_c12, eq_c13, eq_c14, eq_c15, eq_c16, eq_c17, eq_c18, eq_c19, eq_c20, eq_c21, eq_c22, eq_c23, eq_c24, nI_clamp, eq_x5, eq_s4, eq_e2, nI_1, eq_p2, eq_m0, vp_in_nI, g14, g16, q.hs, q.hm', f1, l1, eq_true eq_neg, eq_true (show nI 97 = (97 : Int32) from rfl), eq_false (show ¬ nI 97 = (94 : Int32) by decide), eq_false (show ¬ nI 97 = (48 : Int32) by decide), eq_false (show ¬ nI 97 = (91 : Int32) by decide), eq_false (show ¬ nI 97 = (64 : Int32) by decide), ↓reduceIte, forall_eq', true_and, and_true, implies_true, forall_const, true_implies, false_implies, not_true_eq_false, not_false_eq_true, if_true, if_false]
      rw [W, V, f2]
      exact ⟨E, ep_gv h b' hch c13 g17 hwi c14 g18 cw (Or.inl ⟨rfl, rfl⟩)⟩
    · have p0 : (nI s < 0) = False := eq_false (nI_pos (by omega))
      have i01 : G.1 119 (2680 + 4 * s + 1) = 0 ∨ G.1 119 (2680 + 4 * s + 1) = 1 := by
        rcases s3 with z | z
        · exact Or.inl z.1
        · exact Or.inr z.1
      have V : et_X12_worksOn G = et_X12_gives G (G.1 119 (2680 + 4 * s + 1)) (G.1 119 (2680 + 4 * s + 2)) := by
        rw [et_X12_worksOn]
        simp (disch := omega) only [eq_c7, eq_c8, eq_c9, eq_c10, eq_c11, eq_c12, eq_c13, eq_c14, eq_c15, eq_c16, eq_c17, eq_c18, eq_c19, eq_c20, eq_c21, eq_c22, eq_c23, eq_c24, nI_clamp, eq_x5, eq_s4, eq_e2, nI_1, eq_p2, eq_m0, vp_in_nI, g14, g16, q.hs, q.hm', s2, p0, eq_true (show nI 97 = (97 : Int32) from rfl), eq_false (show ¬ nI 97 = (94 : Int32) by decide), eq_false (show ¬ nI 97 = (48 : Int32) by decide), eq_false (show ¬ nI 97 = (91 : Int32) by decide), eq_false (show ¬ nI 97 = (64 : Int32) by decide), ↓reduceIte, forall_eq', true_and, and_true, implies_true, forall_const, true_implies, false_implies, not_true_eq_false, not_false_eq_true, if_true, if_false]
        rcases i01 with z | z
        · simp only [z, if_neg (show ¬ (0 : Int32) = 1 by decide)]
        · simp only [z, if_true]
      have E : es_X12_worksOn G := by
        rw [es_X12_worksOn]
        simp (disch := omega) only [eq_c7, eq_c8, eq_c9, eq_c10, eq_c11, eq_c12, eq_c13, eq_c14, eq_c15, eq_c16, eq_c17, eq_c18, eq_c19, eq_c20, eq_c21, eq_c22, eq_c23, eq_c24, nI_clamp, eq_x5, eq_s4, eq_e2, nI_1, eq_p2, eq_m0, vp_in_nI, g14, g16, q.hs, q.hm', s2, p0, l1, eq_true (show nI 97 = (97 : Int32) from rfl), eq_false (show ¬ nI 97 = (94 : Int32) by decide), eq_false (show ¬ nI 97 = (48 : Int32) by decide), eq_false (show ¬ nI 97 = (91 : Int32) by decide), eq_false (show ¬ nI 97 = (64 : Int32) by decide), ↓reduceIte, forall_eq', true_and, and_true, implies_true, forall_const, true_implies, false_implies, not_true_eq_false, not_false_eq_true, if_true, if_false]
      rw [W, V]
      exact ⟨E, ep_gv h b' hch c13 g17 hwi c14 g18 cw s3⟩
  · have hn5 := q.hn5
    have ho := q.ho
    have hp := q.hp
    have e2 : et_X2_part C (nI e) (1 : Int32) = C.1 4 (3 * e + 1) := eq_part (k := 1) (by omega) (by omega)
    by_cases L : (φ e).2 + 1 = n
    · have W : et_X3_work w C = et_X3_workOn w C (nI 0) := by
        have lt : ((0 : Int32) ≤ -1) = False := eq_false (by decide)
        rw [et_X3_work]
        rcases q.hk with ⟨k1, -⟩ | ⟨k1, -⟩
        · have e1 : et_X2_kind C (nI e) = nI 3 := by rw [et_X2_kind, eq_atS _ (by omega) (by omega), k1]
          simp only [c10, e1, e2, q.hl L, lt, eq_true (show nI 3 = (3 : Int32) from rfl), eq_false (show ¬ nI 3 = (14 : Int32) by decide), eq_false (show ¬ nI 3 = (11 : Int32) by decide), eq_false (show ¬ nI 3 = (12 : Int32) by decide), eq_false (show ¬ nI 3 = (13 : Int32) by decide), eq_false (show ¬ nI 3 = (5 : Int32) by decide), ↓reduceIte]
          rfl
        · have e1 : et_X2_kind C (nI e) = nI 14 := by rw [et_X2_kind, eq_atS _ (by omega) (by omega), k1]
          simp only [c10, e1, e2, q.hl L, lt, eq_false (show ¬ nI 14 = (3 : Int32) by decide), eq_true (show nI 14 = (14 : Int32) from rfl), eq_false (show ¬ nI 14 = (11 : Int32) by decide), eq_false (show ¬ nI 14 = (12 : Int32) by decide), eq_false (show ¬ nI 14 = (13 : Int32) by decide), eq_false (show ¬ nI 14 = (5 : Int32) by decide), ↓reduceIte]
          rfl
      have nn : (nI (φ e).2 = nI n - 1) = True := eq_true (by rw [← L, eq_q1])
      have V : et_X12_worksOn G = et_X12_works G (nI (φ p).1) 0 (nI sc - 1) := by
        rw [et_X12_worksOn]
        simp (disch := omega) only [eq_c7, eq_c8, eq_c9, eq_c10, eq_c11, eq_c12, eq_c13, eq_c14, eq_c15, eq_c16, eq_c17, eq_c18, eq_c19, eq_c20, eq_c21, eq_c22, eq_c23, eq_c24, nI_clamp, eq_x5, eq_s4, eq_e2, nI_1, eq_p2, eq_m0, vp_in_nI, g14, g15, g16, q.hs, q.hn, nn, nI_add, q.hp1, eq_false (show ¬ nI 91 = (97 : Int32) by decide), eq_false (show ¬ nI 91 = (94 : Int32) by decide), eq_false (show ¬ nI 91 = (48 : Int32) by decide), eq_true (show nI 91 = (91 : Int32) from rfl), eq_false (show ¬ nI 91 = (64 : Int32) by decide), ↓reduceIte, forall_eq', true_and, and_true, implies_true, forall_const, true_implies, false_implies, not_true_eq_false, not_false_eq_true, if_true, if_false]
      have E : es_X12_worksOn G := by
        rw [es_X12_worksOn]
        simp (disch := omega) only [eq_c7, eq_c8, eq_c9, eq_c10, eq_c11, eq_c12, eq_c13, eq_c14, eq_c15, eq_c16, eq_c17, eq_c18, eq_c19, eq_c20, eq_c21, eq_c22, eq_c23, eq_c24, nI_clamp, eq_x5, eq_s4, eq_e2, nI_1, eq_p2, eq_m0, vp_in_nI, g14, g15, g16, q.hs, q.hn, nn, nI_add, q.hp1, eq_false (show ¬ nI 91 = (97 : Int32) by decide), eq_false (show ¬ nI 91 = (94 : Int32) by decide), eq_false (show ¬ nI 91 = (48 : Int32) by decide), eq_true (show nI 91 = (91 : Int32) from rfl), eq_false (show ¬ nI 91 = (64 : Int32) by decide), ↓reduceIte, forall_eq', true_and, and_true, implies_true, forall_const, true_implies, false_implies, not_true_eq_false, not_false_eq_true, if_true, if_false]
      rw [W, V, eq_workOn (by omega) (by omega) c10]
      exact ⟨E, ep_wk h b' hch c13 g17 hwi c14 cw q.hp hs c11 q.h0 (ep_fwW rfl (by rw [q.hp0]; rfl) rfl g18)⟩
    · obtain ⟨z, z1, z2, z3⟩ := q.hr (by omega)
      have W : et_X3_work w C = et_X3_workOn w (et_X3_comes w C (nI 3) (nI 0)).2 (nI 0) := by
        have lt : ((0 : Int32) ≤ nI z) = True := eq_true (nI_pos' (by omega))
        rw [et_X3_work]
        rcases q.hk with ⟨k1, -⟩ | ⟨k1, -⟩
        · have e1 : et_X2_kind C (nI e) = nI 3 := by rw [et_X2_kind, eq_atS _ (by omega) (by omega), k1]
          simp only [c10, e1, e2, z2, lt, eq_true (show nI 3 = (3 : Int32) from rfl), eq_false (show ¬ nI 3 = (14 : Int32) by decide), eq_false (show ¬ nI 3 = (11 : Int32) by decide), eq_false (show ¬ nI 3 = (12 : Int32) by decide), eq_false (show ¬ nI 3 = (13 : Int32) by decide), eq_false (show ¬ nI 3 = (5 : Int32) by decide), ↓reduceIte]
          rfl
        · have e1 : et_X2_kind C (nI e) = nI 14 := by rw [et_X2_kind, eq_atS _ (by omega) (by omega), k1]
          simp only [c10, e1, e2, z2, lt, eq_false (show ¬ nI 14 = (3 : Int32) by decide), eq_true (show nI 14 = (14 : Int32) from rfl), eq_false (show ¬ nI 14 = (11 : Int32) by decide), eq_false (show ¬ nI 14 = (12 : Int32) by decide), eq_false (show ¬ nI 14 = (13 : Int32) by decide), eq_false (show ¬ nI 14 = (5 : Int32) by decide), ↓reduceIte]
          rfl
      have nn : (nI (φ e).2 = nI n - 1) = False := by
        obtain ⟨m, rfl⟩ : ∃ m, n = m + 1 := ⟨n - 1, by omega⟩
        rw [eq_q1]
        exact eq_false (fun z => L (by rw [(nI_eq (by omega) (by omega)).mp z]))
      have V : et_X12_worksOn G = if (et_X12_comes G (nI ch - 1) (nI 4) (nI (φ e).1) (nI sc - 1) 0 0 (nI ((φ e).2 + 1))).1 = 0 then (et_X12_comes G (nI ch - 1) (nI 4) (nI (φ e).1) (nI sc - 1) 0 0 (nI ((φ e).2 + 1))).2 else (fun M : em_M => et_X12_works M (M.1 125 (5 * (φ e).1 + (φ e).2)) 0 (nI sc - 1)) (et_X12_comes G (nI ch - 1) (nI 4) (nI (φ e).1) (nI sc - 1) 0 0 (nI ((φ e).2 + 1))).2 := by
        rw [et_X12_worksOn]
        simp (disch := omega) only [eq_c7, eq_c8, eq_c9, eq_c10, eq_c11, eq_c12, eq_c13, eq_c14, eq_c15, eq_c16, eq_c17, eq_c18, eq_c19, eq_c20, eq_c21, eq_c22, eq_c23, eq_c24, nI_clamp, eq_x5, eq_s4, eq_e2, nI_1, eq_p2, eq_m0, vp_in_nI, g14, g15, g16, g17, q.hs, q.hn, nn, nI_add, eq_false (show ¬ nI 91 = (97 : Int32) by decide), eq_false (show ¬ nI 91 = (94 : Int32) by decide), eq_false (show ¬ nI 91 = (48 : Int32) by decide), eq_true (show nI 91 = (91 : Int32) from rfl), eq_false (show ¬ nI 91 = (64 : Int32) by decide), ↓reduceIte, forall_eq', true_and, and_true, implies_true, forall_const, true_implies, false_implies, not_true_eq_false, not_false_eq_true, if_true, if_false]
        rfl
      obtain ⟨c1, c2⟩ := ep_cw h ⟨b.1, b'.2⟩ (nI 3) (nI 0) (nI 4) (nI (φ e).1) (nI sc - 1) 0 0 (nI ((φ e).2 + 1)) 0 0 ch wi hch c13 hwi c14 (ep_come2 h hch he z1 z2 z3 c10 hs c11 (fun z => (cw z).symm)) c10 (by omega) (show 0 < 3 by omega) q.hp q.h0 hs c11 (fun M _ => M) (Or.inr ⟨rfl, rfl, rfl⟩) (fun M : em_M => et_X12_works M (M.1 125 (5 * (φ e).1 + (φ e).2)) 0 (nI sc - 1)) (fun M m1 m2 m3 => ep_fwW (by rw [m1 _ (by omega), q.hp1]) (by rw [q.hp0]; rfl) rfl (by rw [m3]; exact g18))
      have E : es_X12_worksOn G := by
        rw [es_X12_worksOn]
        simp (disch := omega) only [eq_c7, eq_c8, eq_c9, eq_c10, eq_c11, eq_c12, eq_c13, eq_c14, eq_c15, eq_c16, eq_c17, eq_c18, eq_c19, eq_c20, eq_c21, eq_c22, eq_c23, eq_c24, nI_clamp, eq_x5, eq_s4, eq_e2, nI_1, eq_p2, eq_m0, vp_in_nI, g14, g15, g16, g17, q.hs, q.hn, nn, nI_add, eq_false (show ¬ nI 91 = (97 : Int32) by decide), eq_false (show ¬ nI 91 = (94 : Int32) by decide), eq_false (show ¬ nI 91 = (48 : Int32) by decide), eq_true (show nI 91 = (91 : Int32) from rfl), eq_false (show ¬ nI 91 = (64 : Int32) by decide), ↓reduceIte, forall_eq', true_and, and_true, implies_true, forall_const, true_implies, false_implies, not_true_eq_false, not_false_eq_true, if_true, if_false]
        exact c1
      rw [W, V]
      exact ⟨E, c2⟩
  · have hK := q.hK
    obtain ⟨p, p1, p2, p3, p4⟩ := q.hp 0 (by unfold ep_K at hK; omega)
    have e2 : et_X2_mark C (nI e) = C.1 3 e := by rw [et_X2_mark, eq_atS _ (by omega) (by omega)]
    have hf : ∀ M : em_M, (∀ o, o ≠ 119 → M.1 o = G.1 o) → (∀ k, 2680 ≤ k → M.1 119 k = G.1 119 k) → M.1 119 18 = G.1 119 18 → ep_fw φ p sc wi M ((fun M : em_M => et_X12_works M (M.1 125 (5 * (φ e).1)) 0 (nI sc - 1)) M) := fun M m1 m2 m3 => ep_fwW (by rw [m1 _ (by omega)]; exact p4) (by rw [p3]; rfl) rfl (by rw [m3]; exact g18)
    have gen : ∀ (wh : Nat), ep_S kd 0 wh → kd ≠ 5 → wh ≠ 1 → wh ≠ 11 → es_X12_comes G (nI ch - 1) (nI wh) (nI (φ e).1) (nI sc - 1) 0 0 0 ∧ ep_Ps φ u nl t w C0 G0 (et_X3_workOn w (et_X3_comes w C (nI kd) (nI 0)).2 (nI 0)) (if (et_X12_comes G (nI ch - 1) (nI wh) (nI (φ e).1) (nI sc - 1) 0 0 0).1 = 0 then (et_X12_comes G (nI ch - 1) (nI wh) (nI (φ e).1) (nI sc - 1) 0 0 0).2 else (fun M : em_M => et_X12_works M (M.1 125 (5 * (φ e).1)) 0 (nI sc - 1)) (et_X12_comes G (nI ch - 1) (nI wh) (nI (φ e).1) (nI sc - 1) 0 0 0).2) := by
      intro wh hS h5 h1 h11
      exact ep_cw h ⟨b.1, b'.2⟩ (nI kd) (nI 0) (nI wh) (nI (φ e).1) (nI sc - 1) 0 0 0 0 0 ch wi hch c13 hwi c14 (ep_come1 h hS hch he q.hk c10 hs c11 (fun z _ => (cw z).symm) (fun _ z => absurd z (by omega)) (fun z => absurd z h5) (fun z => absurd z (by omega))) c10 (by omega) (show 0 < 3 by omega) p1 p2 hs c11 (fun M _ => M) (Or.inr ⟨rfl, rfl, rfl⟩) _ hf
    have e1 : et_X2_kind C (nI e) = nI kd := by rw [et_X2_kind, eq_atS _ (by omega) (by omega), q.hk]
    have hsg := q.hs
    have hm' := q.ha
    unfold ep_K at hK
    rcases hK with ⟨rfl, rfl, rfl⟩ | ⟨rfl, rfl, rfl⟩ | ⟨rfl, rfl, rfl⟩ | ⟨rfl, rfl, rfl⟩ | ⟨rfl, rfl, rfl⟩ | ⟨rfl, rfl, rfl⟩ | ⟨rfl, rfl, rfl⟩ | ⟨rfl, rfl, rfl⟩ | ⟨rfl, rfl, rfl⟩ | ⟨rfl, rfl, rfl⟩ | ⟨rfl, rfl, rfl⟩ | ⟨rfl, rfl, rfl⟩ | ⟨rfl, rfl, rfl⟩ | ⟨rfl, rfl, rfl⟩
    · obtain ⟨c1, c2⟩ := gen 0 (by unfold ep_S; omega) (by omega) (by omega) (by omega)
      have W : et_X3_work w C = et_X3_workOn w (et_X3_comes w C (nI 0) (nI 0)).2 (nI 0) := by
        rw [et_X3_work]
        simp only [c10, e1, e2, eq_false (show ¬ nI 0 = (3 : Int32) by decide), eq_false (show ¬ nI 0 = (14 : Int32) by decide), eq_false (show ¬ nI 0 = (11 : Int32) by decide), eq_false (show ¬ nI 0 = (12 : Int32) by decide), eq_false (show ¬ nI 0 = (13 : Int32) by decide), eq_false (show ¬ nI 0 = (5 : Int32) by decide), ↓reduceIte]
        rfl
      have V : et_X12_worksOn G = if (et_X12_comes G (nI ch - 1) (nI 0) (nI (φ e).1) (nI sc - 1) 0 0 0).1 = 0 then (et_X12_comes G (nI ch - 1) (nI 0) (nI (φ e).1) (nI sc - 1) 0 0 0).2 else (fun M : em_M => et_X12_works M (M.1 125 (5 * (φ e).1)) 0 (nI sc - 1)) (et_X12_comes G (nI ch - 1) (nI 0) (nI (φ e).1) (nI sc - 1) 0 0 0).2 := by
        rw [et_X12_worksOn]
        simp (disch := omega) only [eq_c7, eq_c8, eq_c9, eq_c10, eq_c11, eq_c12, eq_c13, eq_c14, eq_c15, eq_c16, eq_c17, eq_c18, eq_c19, eq_c20, eq_c21, eq_c22, eq_c23, eq_c24, nI_clamp, eq_x5, eq_s4, eq_e2, nI_1, eq_p2, eq_m0, vp_in_nI, g14, g16, g17, hsg, show et_X12_frameOf G (nI 42) = nI 0 from rfl, eq_false (show ¬ nI 42 = (97 : Int32) by decide), eq_false (show ¬ nI 42 = (94 : Int32) by decide), eq_false (show ¬ nI 42 = (48 : Int32) by decide), eq_false (show ¬ nI 42 = (91 : Int32) by decide), eq_false (show ¬ nI 42 = (64 : Int32) by decide), ↓reduceIte, forall_eq', true_and, and_true, implies_true, forall_const, true_implies, false_implies, not_true_eq_false, not_false_eq_true, if_true, if_false]
      have E : es_X12_worksOn G := by
        rw [es_X12_worksOn]
        simp (disch := omega) only [eq_c7, eq_c8, eq_c9, eq_c10, eq_c11, eq_c12, eq_c13, eq_c14, eq_c15, eq_c16, eq_c17, eq_c18, eq_c19, eq_c20, eq_c21, eq_c22, eq_c23, eq_c24, nI_clamp, eq_x5, eq_s4, eq_e2, nI_1, eq_p2, eq_m0, vp_in_nI, g14, g16, g17, hsg, show et_X12_frameOf G (nI 42) = nI 0 from rfl, eq_false (show ¬ nI 42 = (97 : Int32) by decide), eq_false (show ¬ nI 42 = (94 : Int32) by decide), eq_false (show ¬ nI 42 = (48 : Int32) by decide), eq_false (show ¬ nI 42 = (91 : Int32) by decide), eq_false (show ¬ nI 42 = (64 : Int32) by decide), ↓reduceIte, forall_eq', true_and, and_true, implies_true, forall_const, true_implies, false_implies, not_true_eq_false, not_false_eq_true, if_true, if_false]
        exact c1
      rw [W, V]
      exact ⟨E, c2⟩
    · obtain ⟨c1, c2⟩ := gen 0 (by unfold ep_S; omega) (by omega) (by omega) (by omega)
      have W : et_X3_work w C = et_X3_workOn w (et_X3_comes w C (nI 0) (nI 0)).2 (nI 0) := by
        rw [et_X3_work]
        simp only [c10, e1, e2, eq_false (show ¬ nI 0 = (3 : Int32) by decide), eq_false (show ¬ nI 0 = (14 : Int32) by decide), eq_false (show ¬ nI 0 = (11 : Int32) by decide), eq_false (show ¬ nI 0 = (12 : Int32) by decide), eq_false (show ¬ nI 0 = (13 : Int32) by decide), eq_false (show ¬ nI 0 = (5 : Int32) by decide), ↓reduceIte]
        rfl
      have V : et_X12_worksOn G = if (et_X12_comes G (nI ch - 1) (nI 0) (nI (φ e).1) (nI sc - 1) 0 0 0).1 = 0 then (et_X12_comes G (nI ch - 1) (nI 0) (nI (φ e).1) (nI sc - 1) 0 0 0).2 else (fun M : em_M => et_X12_works M (M.1 125 (5 * (φ e).1)) 0 (nI sc - 1)) (et_X12_comes G (nI ch - 1) (nI 0) (nI (φ e).1) (nI sc - 1) 0 0 0).2 := by
        rw [et_X12_worksOn]
        simp (disch := omega) only [eq_c7, eq_c8, eq_c9, eq_c10, eq_c11, eq_c12, eq_c13, eq_c14, eq_c15, eq_c16, eq_c17, eq_c18, eq_c19, eq_c20, eq_c21, eq_c22, eq_c23, eq_c24, nI_clamp, eq_x5, eq_s4, eq_e2, nI_1, eq_p2, eq_m0, vp_in_nI, g14, g16, g17, hsg, show et_X12_frameOf G (nI 43) = nI 0 from rfl, eq_false (show ¬ nI 43 = (97 : Int32) by decide), eq_false (show ¬ nI 43 = (94 : Int32) by decide), eq_false (show ¬ nI 43 = (48 : Int32) by decide), eq_false (show ¬ nI 43 = (91 : Int32) by decide), eq_false (show ¬ nI 43 = (64 : Int32) by decide), ↓reduceIte, forall_eq', true_and, and_true, implies_true, forall_const, true_implies, false_implies, not_true_eq_false, not_false_eq_true, if_true, if_false]
      have E : es_X12_worksOn G := by
        rw [es_X12_worksOn]
        simp (disch := omega) only [eq_c7, eq_c8, eq_c9, eq_c10, eq_c11, eq_c12, eq_c13, eq_c14, eq_c15, eq_c16, eq_c17, eq_c18, eq_c19, eq_c20, eq_c21, eq_c22, eq_c23, eq_c24, nI_clamp, eq_x5, eq_s4, eq_e2, nI_1, eq_p2, eq_m0, vp_in_nI, g14, g16, g17, hsg, show et_X12_frameOf G (nI 43) = nI 0 from rfl, eq_false (show ¬ nI 43 = (97 : Int32) by decide), eq_false (show ¬ nI 43 = (94 : Int32) by decide), eq_false (show ¬ nI 43 = (48 : Int32) by decide), eq_false (show ¬ nI 43 = (91 : Int32) by decide), eq_false (show ¬ nI 43 = (64 : Int32) by decide), ↓reduceIte, forall_eq', true_and, and_true, implies_true, forall_const, true_implies, false_implies, not_true_eq_false, not_false_eq_true, if_true, if_false]
        exact c1
      rw [W, V]
      exact ⟨E, c2⟩
    · obtain ⟨c1, c2⟩ := gen 0 (by unfold ep_S; omega) (by omega) (by omega) (by omega)
      have W : et_X3_work w C = et_X3_workOn w (et_X3_comes w C (nI 0) (nI 0)).2 (nI 0) := by
        rw [et_X3_work]
        simp only [c10, e1, e2, eq_false (show ¬ nI 0 = (3 : Int32) by decide), eq_false (show ¬ nI 0 = (14 : Int32) by decide), eq_false (show ¬ nI 0 = (11 : Int32) by decide), eq_false (show ¬ nI 0 = (12 : Int32) by decide), eq_false (show ¬ nI 0 = (13 : Int32) by decide), eq_false (show ¬ nI 0 = (5 : Int32) by decide), ↓reduceIte]
        rfl
      have V : et_X12_worksOn G = if (et_X12_comes G (nI ch - 1) (nI 0) (nI (φ e).1) (nI sc - 1) 0 0 0).1 = 0 then (et_X12_comes G (nI ch - 1) (nI 0) (nI (φ e).1) (nI sc - 1) 0 0 0).2 else (fun M : em_M => et_X12_works M (M.1 125 (5 * (φ e).1)) 0 (nI sc - 1)) (et_X12_comes G (nI ch - 1) (nI 0) (nI (φ e).1) (nI sc - 1) 0 0 0).2 := by
        rw [et_X12_worksOn]
        simp (disch := omega) only [eq_c7, eq_c8, eq_c9, eq_c10, eq_c11, eq_c12, eq_c13, eq_c14, eq_c15, eq_c16, eq_c17, eq_c18, eq_c19, eq_c20, eq_c21, eq_c22, eq_c23, eq_c24, nI_clamp, eq_x5, eq_s4, eq_e2, nI_1, eq_p2, eq_m0, vp_in_nI, g14, g16, g17, hsg, show et_X12_frameOf G (nI 45) = nI 0 from rfl, eq_false (show ¬ nI 45 = (97 : Int32) by decide), eq_false (show ¬ nI 45 = (94 : Int32) by decide), eq_false (show ¬ nI 45 = (48 : Int32) by decide), eq_false (show ¬ nI 45 = (91 : Int32) by decide), eq_false (show ¬ nI 45 = (64 : Int32) by decide), ↓reduceIte, forall_eq', true_and, and_true, implies_true, forall_const, true_implies, false_implies, not_true_eq_false, not_false_eq_true, if_true, if_false]
      have E : es_X12_worksOn G := by
        rw [es_X12_worksOn]
        simp (disch := omega) only [eq_c7, eq_c8, eq_c9, eq_c10, eq_c11, eq_c12, eq_c13, eq_c14, eq_c15, eq_c16, eq_c17, eq_c18, eq_c19, eq_c20, eq_c21, eq_c22, eq_c23, eq_c24, nI_clamp, eq_x5, eq_s4, eq_e2, nI_1, eq_p2, eq_m0, vp_in_nI, g14, g16, g17, hsg, show et_X12_frameOf G (nI 45) = nI 0 from rfl, eq_false (show ¬ nI 45 = (97 : Int32) by decide), eq_false (show ¬ nI 45 = (94 : Int32) by decide), eq_false (show ¬ nI 45 = (48 : Int32) by decide), eq_false (show ¬ nI 45 = (91 : Int32) by decide), eq_false (show ¬ nI 45 = (64 : Int32) by decide), ↓reduceIte, forall_eq', true_and, and_true, implies_true, forall_const, true_implies, false_implies, not_true_eq_false, not_false_eq_true, if_true, if_false]
        exact c1
      rw [W, V]
      exact ⟨E, c2⟩
    · obtain ⟨c1, c2⟩ := gen 0 (by unfold ep_S; omega) (by omega) (by omega) (by omega)
      have W : et_X3_work w C = et_X3_workOn w (et_X3_comes w C (nI 0) (nI 0)).2 (nI 0) := by
        rw [et_X3_work]
        simp only [c10, e1, e2, eq_false (show ¬ nI 0 = (3 : Int32) by decide), eq_false (show ¬ nI 0 = (14 : Int32) by decide), eq_false (show ¬ nI 0 = (11 : Int32) by decide), eq_false (show ¬ nI 0 = (12 : Int32) by decide), eq_false (show ¬ nI 0 = (13 : Int32) by decide), eq_false (show ¬ nI 0 = (5 : Int32) by decide), ↓reduceIte]
        rfl
      have V : et_X12_worksOn G = if (et_X12_comes G (nI ch - 1) (nI 0) (nI (φ e).1) (nI sc - 1) 0 0 0).1 = 0 then (et_X12_comes G (nI ch - 1) (nI 0) (nI (φ e).1) (nI sc - 1) 0 0 0).2 else (fun M : em_M => et_X12_works M (M.1 125 (5 * (φ e).1)) 0 (nI sc - 1)) (et_X12_comes G (nI ch - 1) (nI 0) (nI (φ e).1) (nI sc - 1) 0 0 0).2 := by
        rw [et_X12_worksOn]
        simp (disch := omega) only [eq_c7, eq_c8, eq_c9, eq_c10, eq_c11, eq_c12, eq_c13, eq_c14, eq_c15, eq_c16, eq_c17, eq_c18, eq_c19, eq_c20, eq_c21, eq_c22, eq_c23, eq_c24, nI_clamp, eq_x5, eq_s4, eq_e2, nI_1, eq_p2, eq_m0, vp_in_nI, g14, g16, g17, hsg, show et_X12_frameOf G (nI 60) = nI 0 from rfl, eq_false (show ¬ nI 60 = (97 : Int32) by decide), eq_false (show ¬ nI 60 = (94 : Int32) by decide), eq_false (show ¬ nI 60 = (48 : Int32) by decide), eq_false (show ¬ nI 60 = (91 : Int32) by decide), eq_false (show ¬ nI 60 = (64 : Int32) by decide), ↓reduceIte, forall_eq', true_and, and_true, implies_true, forall_const, true_implies, false_implies, not_true_eq_false, not_false_eq_true, if_true, if_false]
      have E : es_X12_worksOn G := by
        rw [es_X12_worksOn]
        simp (disch := omega) only [eq_c7, eq_c8, eq_c9, eq_c10, eq_c11, eq_c12, eq_c13, eq_c14, eq_c15, eq_c16, eq_c17, eq_c18, eq_c19, eq_c20, eq_c21, eq_c22, eq_c23, eq_c24, nI_clamp, eq_x5, eq_s4, eq_e2, nI_1, eq_p2, eq_m0, vp_in_nI, g14, g16, g17, hsg, show et_X12_frameOf G (nI 60) = nI 0 from rfl, eq_false (show ¬ nI 60 = (97 : Int32) by decide), eq_false (show ¬ nI 60 = (94 : Int32) by decide), eq_false (show ¬ nI 60 = (48 : Int32) by decide), eq_false (show ¬ nI 60 = (91 : Int32) by decide), eq_false (show ¬ nI 60 = (64 : Int32) by decide), ↓reduceIte, forall_eq', true_and, and_true, implies_true, forall_const, true_implies, false_implies, not_true_eq_false, not_false_eq_true, if_true, if_false]
        exact c1
      rw [W, V]
      exact ⟨E, c2⟩
    · obtain ⟨c1, c2⟩ := gen 2 (by unfold ep_S; omega) (by omega) (by omega) (by omega)
      have W : et_X3_work w C = et_X3_workOn w (et_X3_comes w C (nI 1) (nI 0)).2 (nI 0) := by
        rw [et_X3_work]
        simp only [c10, e1, e2, eq_false (show ¬ nI 1 = (3 : Int32) by decide), eq_false (show ¬ nI 1 = (14 : Int32) by decide), eq_false (show ¬ nI 1 = (11 : Int32) by decide), eq_false (show ¬ nI 1 = (12 : Int32) by decide), eq_false (show ¬ nI 1 = (13 : Int32) by decide), eq_false (show ¬ nI 1 = (5 : Int32) by decide), ↓reduceIte]
        rfl
      have V : et_X12_worksOn G = if (et_X12_comes G (nI ch - 1) (nI 2) (nI (φ e).1) (nI sc - 1) 0 0 0).1 = 0 then (et_X12_comes G (nI ch - 1) (nI 2) (nI (φ e).1) (nI sc - 1) 0 0 0).2 else (fun M : em_M => et_X12_works M (M.1 125 (5 * (φ e).1)) 0 (nI sc - 1)) (et_X12_comes G (nI ch - 1) (nI 2) (nI (φ e).1) (nI sc - 1) 0 0 0).2 := by
        rw [et_X12_worksOn]
        simp (disch := omega) only [eq_c7, eq_c8, eq_c9, eq_c10, eq_c11, eq_c12, eq_c13, eq_c14, eq_c15, eq_c16, eq_c17, eq_c18, eq_c19, eq_c20, eq_c21, eq_c22, eq_c23, eq_c24, nI_clamp, eq_x5, eq_s4, eq_e2, nI_1, eq_p2, eq_m0, vp_in_nI, g14, g16, g17, hsg, show et_X12_frameOf G (nI 63) = nI 2 from rfl, eq_false (show ¬ nI 63 = (97 : Int32) by decide), eq_false (show ¬ nI 63 = (94 : Int32) by decide), eq_false (show ¬ nI 63 = (48 : Int32) by decide), eq_false (show ¬ nI 63 = (91 : Int32) by decide), eq_false (show ¬ nI 63 = (64 : Int32) by decide), ↓reduceIte, forall_eq', true_and, and_true, implies_true, forall_const, true_implies, false_implies, not_true_eq_false, not_false_eq_true, if_true, if_false]
      have E : es_X12_worksOn G := by
        rw [es_X12_worksOn]
        simp (disch := omega) only [eq_c7, eq_c8, eq_c9, eq_c10, eq_c11, eq_c12, eq_c13, eq_c14, eq_c15, eq_c16, eq_c17, eq_c18, eq_c19, eq_c20, eq_c21, eq_c22, eq_c23, eq_c24, nI_clamp, eq_x5, eq_s4, eq_e2, nI_1, eq_p2, eq_m0, vp_in_nI, g14, g16, g17, hsg, show et_X12_frameOf G (nI 63) = nI 2 from rfl, eq_false (show ¬ nI 63 = (97 : Int32) by decide), eq_false (show ¬ nI 63 = (94 : Int32) by decide), eq_false (show ¬ nI 63 = (48 : Int32) by decide), eq_false (show ¬ nI 63 = (91 : Int32) by decide), eq_false (show ¬ nI 63 = (64 : Int32) by decide), ↓reduceIte, forall_eq', true_and, and_true, implies_true, forall_const, true_implies, false_implies, not_true_eq_false, not_false_eq_true, if_true, if_false]
        exact c1
      rw [W, V]
      exact ⟨E, c2⟩
    · obtain ⟨c1, c2⟩ := gen 3 (by unfold ep_S; omega) (by omega) (by omega) (by omega)
      have W : et_X3_work w C = et_X3_workOn w (et_X3_comes w C (nI 2) (nI 0)).2 (nI 0) := by
        rw [et_X3_work]
        simp only [c10, e1, e2, eq_false (show ¬ nI 2 = (3 : Int32) by decide), eq_false (show ¬ nI 2 = (14 : Int32) by decide), eq_false (show ¬ nI 2 = (11 : Int32) by decide), eq_false (show ¬ nI 2 = (12 : Int32) by decide), eq_false (show ¬ nI 2 = (13 : Int32) by decide), eq_false (show ¬ nI 2 = (5 : Int32) by decide), ↓reduceIte]
        rfl
      have V : et_X12_worksOn G = if (et_X12_comes G (nI ch - 1) (nI 3) (nI (φ e).1) (nI sc - 1) 0 0 0).1 = 0 then (et_X12_comes G (nI ch - 1) (nI 3) (nI (φ e).1) (nI sc - 1) 0 0 0).2 else (fun M : em_M => et_X12_works M (M.1 125 (5 * (φ e).1)) 0 (nI sc - 1)) (et_X12_comes G (nI ch - 1) (nI 3) (nI (φ e).1) (nI sc - 1) 0 0 0).2 := by
        rw [et_X12_worksOn]
        simp (disch := omega) only [eq_c7, eq_c8, eq_c9, eq_c10, eq_c11, eq_c12, eq_c13, eq_c14, eq_c15, eq_c16, eq_c17, eq_c18, eq_c19, eq_c20, eq_c21, eq_c22, eq_c23, eq_c24, nI_clamp, eq_x5, eq_s4, eq_e2, nI_1, eq_p2, eq_m0, vp_in_nI, g14, g16, g17, hsg, show et_X12_frameOf G (nI 61) = nI 3 from rfl, eq_false (show ¬ nI 61 = (97 : Int32) by decide), eq_false (show ¬ nI 61 = (94 : Int32) by decide), eq_false (show ¬ nI 61 = (48 : Int32) by decide), eq_false (show ¬ nI 61 = (91 : Int32) by decide), eq_false (show ¬ nI 61 = (64 : Int32) by decide), ↓reduceIte, forall_eq', true_and, and_true, implies_true, forall_const, true_implies, false_implies, not_true_eq_false, not_false_eq_true, if_true, if_false]
      have E : es_X12_worksOn G := by
        rw [es_X12_worksOn]
        simp (disch := omega) only [eq_c7, eq_c8, eq_c9, eq_c10, eq_c11, eq_c12, eq_c13, eq_c14, eq_c15, eq_c16, eq_c17, eq_c18, eq_c19, eq_c20, eq_c21, eq_c22, eq_c23, eq_c24, nI_clamp, eq_x5, eq_s4, eq_e2, nI_1, eq_p2, eq_m0, vp_in_nI, g14, g16, g17, hsg, show et_X12_frameOf G (nI 61) = nI 3 from rfl, eq_false (show ¬ nI 61 = (97 : Int32) by decide), eq_false (show ¬ nI 61 = (94 : Int32) by decide), eq_false (show ¬ nI 61 = (48 : Int32) by decide), eq_false (show ¬ nI 61 = (91 : Int32) by decide), eq_false (show ¬ nI 61 = (64 : Int32) by decide), ↓reduceIte, forall_eq', true_and, and_true, implies_true, forall_const, true_implies, false_implies, not_true_eq_false, not_false_eq_true, if_true, if_false]
        exact c1
      rw [W, V]
      exact ⟨E, c2⟩
    · obtain ⟨c1, c2⟩ := gen 5 (by unfold ep_S; omega) (by omega) (by omega) (by omega)
      have W : et_X3_work w C = et_X3_workOn w (et_X3_comes w C (nI 4) (nI 0)).2 (nI 0) := by
        rw [et_X3_work]
        simp only [c10, e1, e2, eq_false (show ¬ nI 4 = (3 : Int32) by decide), eq_false (show ¬ nI 4 = (14 : Int32) by decide), eq_false (show ¬ nI 4 = (11 : Int32) by decide), eq_false (show ¬ nI 4 = (12 : Int32) by decide), eq_false (show ¬ nI 4 = (13 : Int32) by decide), eq_false (show ¬ nI 4 = (5 : Int32) by decide), ↓reduceIte]
        rfl
      have V : et_X12_worksOn G = if (et_X12_comes G (nI ch - 1) (nI 5) (nI (φ e).1) (nI sc - 1) 0 0 0).1 = 0 then (et_X12_comes G (nI ch - 1) (nI 5) (nI (φ e).1) (nI sc - 1) 0 0 0).2 else (fun M : em_M => et_X12_works M (M.1 125 (5 * (φ e).1)) 0 (nI sc - 1)) (et_X12_comes G (nI ch - 1) (nI 5) (nI (φ e).1) (nI sc - 1) 0 0 0).2 := by
        rw [et_X12_worksOn]
        simp (disch := omega) only [eq_c7, eq_c8, eq_c9, eq_c10, eq_c11, eq_c12, eq_c13, eq_c14, eq_c15, eq_c16, eq_c17, eq_c18, eq_c19, eq_c20, eq_c21, eq_c22, eq_c23, eq_c24, nI_clamp, eq_x5, eq_s4, eq_e2, nI_1, eq_p2, eq_m0, vp_in_nI, g14, g16, g17, hsg, show et_X12_frameOf G (nI 70) = nI 5 from rfl, eq_false (show ¬ nI 70 = (97 : Int32) by decide), eq_false (show ¬ nI 70 = (94 : Int32) by decide), eq_false (show ¬ nI 70 = (48 : Int32) by decide), eq_false (show ¬ nI 70 = (91 : Int32) by decide), eq_false (show ¬ nI 70 = (64 : Int32) by decide), ↓reduceIte, forall_eq', true_and, and_true, implies_true, forall_const, true_implies, false_implies, not_true_eq_false, not_false_eq_true, if_true, if_false]
      have E : es_X12_worksOn G := by
        rw [es_X12_worksOn]
        simp (disch := omega) only [eq_c7, eq_c8, eq_c9, eq_c10, eq_c11, eq_c12, eq_c13, eq_c14, eq_c15, eq_c16, eq_c17, eq_c18, eq_c19, eq_c20, eq_c21, eq_c22, eq_c23, eq_c24, nI_clamp, eq_x5, eq_s4, eq_e2, nI_1, eq_p2, eq_m0, vp_in_nI, g14, g16, g17, hsg, show et_X12_frameOf G (nI 70) = nI 5 from rfl, eq_false (show ¬ nI 70 = (97 : Int32) by decide), eq_false (show ¬ nI 70 = (94 : Int32) by decide), eq_false (show ¬ nI 70 = (48 : Int32) by decide), eq_false (show ¬ nI 70 = (91 : Int32) by decide), eq_false (show ¬ nI 70 = (64 : Int32) by decide), ↓reduceIte, forall_eq', true_and, and_true, implies_true, forall_const, true_implies, false_implies, not_true_eq_false, not_false_eq_true, if_true, if_false]
        exact c1
      rw [W, V]
      exact ⟨E, c2⟩
    · obtain ⟨c1, c2⟩ := gen 5 (by unfold ep_S; omega) (by omega) (by omega) (by omega)
      have W : et_X3_work w C = et_X3_workOn w (et_X3_comes w C (nI 4) (nI 0)).2 (nI 0) := by
        rw [et_X3_work]
        simp only [c10, e1, e2, eq_false (show ¬ nI 4 = (3 : Int32) by decide), eq_false (show ¬ nI 4 = (14 : Int32) by decide), eq_false (show ¬ nI 4 = (11 : Int32) by decide), eq_false (show ¬ nI 4 = (12 : Int32) by decide), eq_false (show ¬ nI 4 = (13 : Int32) by decide), eq_false (show ¬ nI 4 = (5 : Int32) by decide), ↓reduceIte]
        rfl
      have V : et_X12_worksOn G = if (et_X12_comes G (nI ch - 1) (nI 5) (nI (φ e).1) (nI sc - 1) 0 0 0).1 = 0 then (et_X12_comes G (nI ch - 1) (nI 5) (nI (φ e).1) (nI sc - 1) 0 0 0).2 else (fun M : em_M => et_X12_works M (M.1 125 (5 * (φ e).1)) 0 (nI sc - 1)) (et_X12_comes G (nI ch - 1) (nI 5) (nI (φ e).1) (nI sc - 1) 0 0 0).2 := by
        rw [et_X12_worksOn]
        simp (disch := omega) only [eq_c7, eq_c8, eq_c9, eq_c10, eq_c11, eq_c12, eq_c13, eq_c14, eq_c15, eq_c16, eq_c17, eq_c18, eq_c19, eq_c20, eq_c21, eq_c22, eq_c23, eq_c24, nI_clamp, eq_x5, eq_s4, eq_e2, nI_1, eq_p2, eq_m0, vp_in_nI, g14, g16, g17, hsg, show et_X12_frameOf G (nI 71) = nI 5 from rfl, eq_false (show ¬ nI 71 = (97 : Int32) by decide), eq_false (show ¬ nI 71 = (94 : Int32) by decide), eq_false (show ¬ nI 71 = (48 : Int32) by decide), eq_false (show ¬ nI 71 = (91 : Int32) by decide), eq_false (show ¬ nI 71 = (64 : Int32) by decide), ↓reduceIte, forall_eq', true_and, and_true, implies_true, forall_const, true_implies, false_implies, not_true_eq_false, not_false_eq_true, if_true, if_false]
      have E : es_X12_worksOn G := by
        rw [es_X12_worksOn]
        simp (disch := omega) only [eq_c7, eq_c8, eq_c9, eq_c10, eq_c11, eq_c12, eq_c13, eq_c14, eq_c15, eq_c16, eq_c17, eq_c18, eq_c19, eq_c20, eq_c21, eq_c22, eq_c23, eq_c24, nI_clamp, eq_x5, eq_s4, eq_e2, nI_1, eq_p2, eq_m0, vp_in_nI, g14, g16, g17, hsg, show et_X12_frameOf G (nI 71) = nI 5 from rfl, eq_false (show ¬ nI 71 = (97 : Int32) by decide), eq_false (show ¬ nI 71 = (94 : Int32) by decide), eq_false (show ¬ nI 71 = (48 : Int32) by decide), eq_false (show ¬ nI 71 = (91 : Int32) by decide), eq_false (show ¬ nI 71 = (64 : Int32) by decide), ↓reduceIte, forall_eq', true_and, and_true, implies_true, forall_const, true_implies, false_implies, not_true_eq_false, not_false_eq_true, if_true, if_false]
        exact c1
      rw [W, V]
      exact ⟨E, c2⟩
    · obtain ⟨c1, c2⟩ := gen 5 (by unfold ep_S; omega) (by omega) (by omega) (by omega)
      have W : et_X3_work w C = et_X3_workOn w (et_X3_comes w C (nI 4) (nI 0)).2 (nI 0) := by
        rw [et_X3_work]
        simp only [c10, e1, e2, eq_false (show ¬ nI 4 = (3 : Int32) by decide), eq_false (show ¬ nI 4 = (14 : Int32) by decide), eq_false (show ¬ nI 4 = (11 : Int32) by decide), eq_false (show ¬ nI 4 = (12 : Int32) by decide), eq_false (show ¬ nI 4 = (13 : Int32) by decide), eq_false (show ¬ nI 4 = (5 : Int32) by decide), ↓reduceIte]
        rfl
      have V : et_X12_worksOn G = if (et_X12_comes G (nI ch - 1) (nI 5) (nI (φ e).1) (nI sc - 1) 0 0 0).1 = 0 then (et_X12_comes G (nI ch - 1) (nI 5) (nI (φ e).1) (nI sc - 1) 0 0 0).2 else (fun M : em_M => et_X12_works M (M.1 125 (5 * (φ e).1)) 0 (nI sc - 1)) (et_X12_comes G (nI ch - 1) (nI 5) (nI (φ e).1) (nI sc - 1) 0 0 0).2 := by
        rw [et_X12_worksOn]
        simp (disch := omega) only [eq_c7, eq_c8, eq_c9, eq_c10, eq_c11, eq_c12, eq_c13, eq_c14, eq_c15, eq_c16, eq_c17, eq_c18, eq_c19, eq_c20, eq_c21, eq_c22, eq_c23, eq_c24, nI_clamp, eq_x5, eq_s4, eq_e2, nI_1, eq_p2, eq_m0, vp_in_nI, g14, g16, g17, hsg, show et_X12_frameOf G (nI 72) = nI 5 from rfl, eq_false (show ¬ nI 72 = (97 : Int32) by decide), eq_false (show ¬ nI 72 = (94 : Int32) by decide), eq_false (show ¬ nI 72 = (48 : Int32) by decide), eq_false (show ¬ nI 72 = (91 : Int32) by decide), eq_false (show ¬ nI 72 = (64 : Int32) by decide), ↓reduceIte, forall_eq', true_and, and_true, implies_true, forall_const, true_implies, false_implies, not_true_eq_false, not_false_eq_true, if_true, if_false]
      have E : es_X12_worksOn G := by
        rw [es_X12_worksOn]
        simp (disch := omega) only [eq_c7, eq_c8, eq_c9, eq_c10, eq_c11, eq_c12, eq_c13, eq_c14, eq_c15, eq_c16, eq_c17, eq_c18, eq_c19, eq_c20, eq_c21, eq_c22, eq_c23, eq_c24, nI_clamp, eq_x5, eq_s4, eq_e2, nI_1, eq_p2, eq_m0, vp_in_nI, g14, g16, g17, hsg, show et_X12_frameOf G (nI 72) = nI 5 from rfl, eq_false (show ¬ nI 72 = (97 : Int32) by decide), eq_false (show ¬ nI 72 = (94 : Int32) by decide), eq_false (show ¬ nI 72 = (48 : Int32) by decide), eq_false (show ¬ nI 72 = (91 : Int32) by decide), eq_false (show ¬ nI 72 = (64 : Int32) by decide), ↓reduceIte, forall_eq', true_and, and_true, implies_true, forall_const, true_implies, false_implies, not_true_eq_false, not_false_eq_true, if_true, if_false]
        exact c1
      rw [W, V]
      exact ⟨E, c2⟩
    · obtain ⟨a, a1, a2, a3⟩ := hm' (Or.inr (Or.inl rfl))
      have W : et_X3_work w C = et_X3_workToGo w C (et_X3_lookUp w C (nI a)) := by
        rw [et_X3_work]
        simp only [c10, e1, e2, a2, eq_false (show ¬ nI 5 = (3 : Int32) by decide), eq_false (show ¬ nI 5 = (14 : Int32) by decide), eq_false (show ¬ nI 5 = (11 : Int32) by decide), eq_false (show ¬ nI 5 = (12 : Int32) by decide), eq_false (show ¬ nI 5 = (13 : Int32) by decide), eq_true (show nI 5 = (5 : Int32) from rfl), ↓reduceIte]
      obtain ⟨l1, l2⟩ := ep_look h hs a1 c11
      have kind : ∀ v : Int32, et_X3_lookUp w C (nI a) = v.toInt64 → ep_Ps φ u nl t w C0 G0 (et_X3_workToGo w C (et_X3_lookUp w C (nI a))) (em_pI G 119 7 2) := by
        intro v hv
        have nz : ¬ et_X11_isNumber C v.toInt64 = 0 := by rw [eq_num]; simp
        rw [et_X3_workToGo, hv]
        simp only [if_neg nz]
        refine ep_stop h 2 (by decide) ?_ (fun _ _ => rfl) ?_ (Or.inl ?_) ?_ rfl ?_ ?_ (by simp (disch := omega) only [ef_pI'])
        · intro o o1 o2 o3 o4; simp (disch := omega) only [ef_pI']
        · intro k; simp (disch := omega) only [ef_pIa]
        · simp (disch := omega) only [ef_pI', ef_pIk, ef_pIs]; exact c9
        · intro o ho; simp (disch := omega) only [ef_pI']
        · intro k hk; simp (disch := omega) only [ef_pIa]
        · intro k hk; simp (disch := omega) only [ef_pI', ef_pIk, ef_pIs]
      rcases l2 with ⟨f1, f2⟩ | ⟨s, s1, s2, s3⟩
      · have V : et_X12_worksOn G = em_pI G 119 7 2 := by
          rw [et_X12_worksOn]
          simp (disch := omega) only [eq_c7, eq_c8, eq_c9, eq_c10, eq_c11, eq_c12, eq_c13, eq_c14, eq_c15, eq_c16, eq_c17, eq_c18, eq_c19, eq_c20, eq_c21, eq_c22, eq_c23, eq_c24, nI_clamp, eq_x5, eq_s4, eq_e2, nI_1, eq_p2, eq_m0, vp_in_nI, g14, g16, hsg, a3, f1, eq_true eq_neg, eq_stands, eq_false (show ¬ nI 94 = (97 : Int32) by decide), eq_true (show nI 94 = (94 : Int32) from rfl), eq_false (show ¬ nI 94 = (48 : Int32) by decide), eq_false (show ¬ nI 94 = (91 : Int32) by decide), eq_false (show ¬ nI 94 = (64 : Int32) by decide), ↓reduceIte, forall_eq', true_and, and_true, implies_true, forall_const, true_implies, false_implies, not_true_eq_false, not_false_eq_true, if_true, if_false]
        have E : es_X12_worksOn G := by
          rw [es_X12_worksOn]
          simp (disch := omega) only [eq_c7, eq_c8, eq_c9, eq_c10, eq_c11, eq_c12, eq_c13, eq_c14, eq_c15, eq_c16, eq_c17, eq_c18, eq_c19, eq_c20, eq_c21, eq_c22, eq_c23, eq_c24, nI_clamp, eq_x5, eq_s4, eq_e2, nI_1, eq_p2, eq_m0, vp_in_nI, g14, g16, hsg, a3, f1, l1, eq_true eq_neg, eq_stands, eq_false (show ¬ nI 94 = (97 : Int32) by decide), eq_true (show nI 94 = (94 : Int32) from rfl), eq_false (show ¬ nI 94 = (48 : Int32) by decide), eq_false (show ¬ nI 94 = (91 : Int32) by decide), eq_false (show ¬ nI 94 = (64 : Int32) by decide), ↓reduceIte, forall_eq', true_and, and_true, implies_true, forall_const, true_implies, false_implies, not_true_eq_false, not_false_eq_true, if_true, if_false]
        rw [W, V]
        exact ⟨E, kind _ f2⟩
      · have p0 : (nI s < 0) = False := eq_false (nI_pos (by omega))
        rcases s3 with ⟨i0, z⟩ | ⟨i1, x, x1, x2, x3⟩
        · have i0' : (G.1 119 (2680 + 4 * s + 1) = 1) = False := eq_false (by rw [i0]; decide)
          have V : et_X12_worksOn G = em_pI G 119 7 2 := by
            rw [et_X12_worksOn]
            simp (disch := omega) only [eq_c7, eq_c8, eq_c9, eq_c10, eq_c11, eq_c12, eq_c13, eq_c14, eq_c15, eq_c16, eq_c17, eq_c18, eq_c19, eq_c20, eq_c21, eq_c22, eq_c23, eq_c24, nI_clamp, eq_x5, eq_s4, eq_e2, nI_1, eq_p2, eq_m0, vp_in_nI, g14, g16, hsg, a3, s2, p0, i0', eq_stands, eq_false (show ¬ nI 94 = (97 : Int32) by decide), eq_true (show nI 94 = (94 : Int32) from rfl), eq_false (show ¬ nI 94 = (48 : Int32) by decide), eq_false (show ¬ nI 94 = (91 : Int32) by decide), eq_false (show ¬ nI 94 = (64 : Int32) by decide), ↓reduceIte, forall_eq', true_and, and_true, implies_true, forall_const, true_implies, false_implies, not_true_eq_false, not_false_eq_true, if_true, if_false]
          have E : es_X12_worksOn G := by
            rw [es_X12_worksOn]
            simp (disch := omega) only [eq_c7, eq_c8, eq_c9, eq_c10, eq_c11, eq_c12, eq_c13, eq_c14, eq_c15, eq_c16, eq_c17, eq_c18, eq_c19, eq_c20, eq_c21, eq_c22, eq_c23, eq_c24, nI_clamp, eq_x5, eq_s4, eq_e2, nI_1, eq_p2, eq_m0, vp_in_nI, g14, g16, hsg, a3, s2, p0, i0', l1, eq_stands, eq_false (show ¬ nI 94 = (97 : Int32) by decide), eq_true (show nI 94 = (94 : Int32) from rfl), eq_false (show ¬ nI 94 = (48 : Int32) by decide), eq_false (show ¬ nI 94 = (91 : Int32) by decide), eq_false (show ¬ nI 94 = (64 : Int32) by decide), ↓reduceIte, forall_eq', true_and, and_true, implies_true, forall_const, true_implies, false_implies, not_true_eq_false, not_false_eq_true, if_true, if_false]
          rw [W, V]
          exact ⟨E, kind _ z⟩
        · have i1' : (G.1 119 (2680 + 4 * s + 1) = 1) = True := eq_true i1
          have nz : et_X11_isNumber C (et_X3_lookUp w C (nI a)) = 0 := by
            rcases eq_Thn (Or.inr ⟨i1, x, x1, x2, x3⟩ : ep_Th H.ne (et_X3_lookUp w C (nI a)) (G.1 119 (2680 + 4 * s + 1)) (G.1 119 (2680 + 4 * s + 2))) h.ne C with z | z
            · exact z.1
            · exact absurd (i1.symm.trans z.2.1) (by decide)
          have W2 : et_X3_workToGo w C (et_X3_lookUp w C (nI a)) = et_X3_workOn w ((fun M r => et_X0_keep w M r 0 (nI x)) (et_X3_comes w C (nI 5) (nI 0)).2 (et_X3_comes w C (nI 5) (nI 0)).1) (nI 0) := by
            rw [et_X3_workToGo]
            simp only [nz, if_true]
            rw [x3, eq_back x (by omega)]
            rfl
          have V : et_X12_worksOn G = if (et_X12_comes G (nI ch - 1) (nI 6) (nI (φ e).1) (nI sc - 1) 0 0 (nI x)).1 = 0 then (et_X12_comes G (nI ch - 1) (nI 6) (nI (φ e).1) (nI sc - 1) 0 0 (nI x)).2 else (fun M : em_M => et_X12_works M (M.1 125 (5 * (φ e).1)) 0 (nI sc - 1)) (et_X12_comes G (nI ch - 1) (nI 6) (nI (φ e).1) (nI sc - 1) 0 0 (nI x)).2 := by
            rw [et_X12_worksOn]
            simp (disch := omega) only [eq_c7, eq_c8, eq_c9, eq_c10, eq_c11, eq_c12, eq_c13, eq_c14, eq_c15, eq_c16, eq_c17, eq_c18, eq_c19, eq_c20, eq_c21, eq_c22, eq_c23, eq_c24, nI_clamp, eq_x5, eq_s4, eq_e2, nI_1, eq_p2, eq_m0, vp_in_nI, g14, g16, g17, hsg, a3, s2, p0, i1', x2, show et_X12_frameOf G (nI 94) = nI 6 from rfl, eq_false (show ¬ nI 94 = (97 : Int32) by decide), eq_true (show nI 94 = (94 : Int32) from rfl), eq_false (show ¬ nI 94 = (48 : Int32) by decide), eq_false (show ¬ nI 94 = (91 : Int32) by decide), eq_false (show ¬ nI 94 = (64 : Int32) by decide), ↓reduceIte, forall_eq', true_and, and_true, implies_true, forall_const, true_implies, false_implies, not_true_eq_false, not_false_eq_true, if_true, if_false]
          obtain ⟨c1, c2⟩ := ep_cw h ⟨b.1, b'.2⟩ (nI 5) (nI 0) (nI 6) (nI (φ e).1) (nI sc - 1) 0 0 (nI x) 0 (nI x) ch wi hch c13 hwi c14 (ep_come1 h (show ep_S 5 0 6 by unfold ep_S; omega) hch he q.hk c10 hs c11 (fun z _ => (cw z).symm) (fun _ z => absurd z (by omega)) (fun _ => ⟨x, x1, rfl, rfl⟩) (fun z => absurd z (by omega))) c10 (by omega) (show 0 < 3 by omega) p1 p2 hs c11 (fun M r => et_X0_keep w M r 0 (nI x)) (Or.inl rfl) _ hf
          have E : es_X12_worksOn G := by
            rw [es_X12_worksOn]
            simp (disch := omega) only [eq_c7, eq_c8, eq_c9, eq_c10, eq_c11, eq_c12, eq_c13, eq_c14, eq_c15, eq_c16, eq_c17, eq_c18, eq_c19, eq_c20, eq_c21, eq_c22, eq_c23, eq_c24, nI_clamp, eq_x5, eq_s4, eq_e2, nI_1, eq_p2, eq_m0, vp_in_nI, g14, g16, g17, hsg, a3, s2, p0, i1', x2, l1, show et_X12_frameOf G (nI 94) = nI 6 from rfl, eq_false (show ¬ nI 94 = (97 : Int32) by decide), eq_true (show nI 94 = (94 : Int32) from rfl), eq_false (show ¬ nI 94 = (48 : Int32) by decide), eq_false (show ¬ nI 94 = (91 : Int32) by decide), eq_false (show ¬ nI 94 = (64 : Int32) by decide), ↓reduceIte, forall_eq', true_and, and_true, implies_true, forall_const, true_implies, false_implies, not_true_eq_false, not_false_eq_true, if_true, if_false]
            exact c1
          rw [W, W2, V]
          exact ⟨E, c2⟩
    · obtain ⟨c1, c2⟩ := gen 7 (by unfold ep_S; omega) (by omega) (by omega) (by omega)
      have W : et_X3_work w C = et_X3_workOn w (et_X3_comes w C (nI 6) (nI 0)).2 (nI 0) := by
        rw [et_X3_work]
        simp only [c10, e1, e2, eq_false (show ¬ nI 6 = (3 : Int32) by decide), eq_false (show ¬ nI 6 = (14 : Int32) by decide), eq_false (show ¬ nI 6 = (11 : Int32) by decide), eq_false (show ¬ nI 6 = (12 : Int32) by decide), eq_false (show ¬ nI 6 = (13 : Int32) by decide), eq_false (show ¬ nI 6 = (5 : Int32) by decide), ↓reduceIte]
        rfl
      have V : et_X12_worksOn G = if (et_X12_comes G (nI ch - 1) (nI 7) (nI (φ e).1) (nI sc - 1) 0 0 0).1 = 0 then (et_X12_comes G (nI ch - 1) (nI 7) (nI (φ e).1) (nI sc - 1) 0 0 0).2 else (fun M : em_M => et_X12_works M (M.1 125 (5 * (φ e).1)) 0 (nI sc - 1)) (et_X12_comes G (nI ch - 1) (nI 7) (nI (φ e).1) (nI sc - 1) 0 0 0).2 := by
        rw [et_X12_worksOn]
        simp (disch := omega) only [eq_c7, eq_c8, eq_c9, eq_c10, eq_c11, eq_c12, eq_c13, eq_c14, eq_c15, eq_c16, eq_c17, eq_c18, eq_c19, eq_c20, eq_c21, eq_c22, eq_c23, eq_c24, nI_clamp, eq_x5, eq_s4, eq_e2, nI_1, eq_p2, eq_m0, vp_in_nI, g14, g16, g17, hsg, show et_X12_frameOf G (nI 33) = nI 7 from rfl, eq_false (show ¬ nI 33 = (97 : Int32) by decide), eq_false (show ¬ nI 33 = (94 : Int32) by decide), eq_false (show ¬ nI 33 = (48 : Int32) by decide), eq_false (show ¬ nI 33 = (91 : Int32) by decide), eq_false (show ¬ nI 33 = (64 : Int32) by decide), ↓reduceIte, forall_eq', true_and, and_true, implies_true, forall_const, true_implies, false_implies, not_true_eq_false, not_false_eq_true, if_true, if_false]
      have E : es_X12_worksOn G := by
        rw [es_X12_worksOn]
        simp (disch := omega) only [eq_c7, eq_c8, eq_c9, eq_c10, eq_c11, eq_c12, eq_c13, eq_c14, eq_c15, eq_c16, eq_c17, eq_c18, eq_c19, eq_c20, eq_c21, eq_c22, eq_c23, eq_c24, nI_clamp, eq_x5, eq_s4, eq_e2, nI_1, eq_p2, eq_m0, vp_in_nI, g14, g16, g17, hsg, show et_X12_frameOf G (nI 33) = nI 7 from rfl, eq_false (show ¬ nI 33 = (97 : Int32) by decide), eq_false (show ¬ nI 33 = (94 : Int32) by decide), eq_false (show ¬ nI 33 = (48 : Int32) by decide), eq_false (show ¬ nI 33 = (91 : Int32) by decide), eq_false (show ¬ nI 33 = (64 : Int32) by decide), ↓reduceIte, forall_eq', true_and, and_true, implies_true, forall_const, true_implies, false_implies, not_true_eq_false, not_false_eq_true, if_true, if_false]
        exact c1
      rw [W, V]
      exact ⟨E, c2⟩
    · obtain ⟨c1, c2⟩ := gen 8 (by unfold ep_S; omega) (by omega) (by omega) (by omega)
      have W : et_X3_work w C = et_X3_workOn w (et_X3_comes w C (nI 7) (nI 0)).2 (nI 0) := by
        rw [et_X3_work]
        simp only [c10, e1, e2, eq_false (show ¬ nI 7 = (3 : Int32) by decide), eq_false (show ¬ nI 7 = (14 : Int32) by decide), eq_false (show ¬ nI 7 = (11 : Int32) by decide), eq_false (show ¬ nI 7 = (12 : Int32) by decide), eq_false (show ¬ nI 7 = (13 : Int32) by decide), eq_false (show ¬ nI 7 = (5 : Int32) by decide), ↓reduceIte]
        rfl
      have V : et_X12_worksOn G = if (et_X12_comes G (nI ch - 1) (nI 8) (nI (φ e).1) (nI sc - 1) 0 0 0).1 = 0 then (et_X12_comes G (nI ch - 1) (nI 8) (nI (φ e).1) (nI sc - 1) 0 0 0).2 else (fun M : em_M => et_X12_works M (M.1 125 (5 * (φ e).1)) 0 (nI sc - 1)) (et_X12_comes G (nI ch - 1) (nI 8) (nI (φ e).1) (nI sc - 1) 0 0 0).2 := by
        rw [et_X12_worksOn]
        simp (disch := omega) only [eq_c7, eq_c8, eq_c9, eq_c10, eq_c11, eq_c12, eq_c13, eq_c14, eq_c15, eq_c16, eq_c17, eq_c18, eq_c19, eq_c20, eq_c21, eq_c22, eq_c23, eq_c24, nI_clamp, eq_x5, eq_s4, eq_e2, nI_1, eq_p2, eq_m0, vp_in_nI, g14, g16, g17, hsg, show et_X12_frameOf G (nI 58) = nI 8 from rfl, eq_false (show ¬ nI 58 = (97 : Int32) by decide), eq_false (show ¬ nI 58 = (94 : Int32) by decide), eq_false (show ¬ nI 58 = (48 : Int32) by decide), eq_false (show ¬ nI 58 = (91 : Int32) by decide), eq_false (show ¬ nI 58 = (64 : Int32) by decide), ↓reduceIte, forall_eq', true_and, and_true, implies_true, forall_const, true_implies, false_implies, not_true_eq_false, not_false_eq_true, if_true, if_false]
      have E : es_X12_worksOn G := by
        rw [es_X12_worksOn]
        simp (disch := omega) only [eq_c7, eq_c8, eq_c9, eq_c10, eq_c11, eq_c12, eq_c13, eq_c14, eq_c15, eq_c16, eq_c17, eq_c18, eq_c19, eq_c20, eq_c21, eq_c22, eq_c23, eq_c24, nI_clamp, eq_x5, eq_s4, eq_e2, nI_1, eq_p2, eq_m0, vp_in_nI, g14, g16, g17, hsg, show et_X12_frameOf G (nI 58) = nI 8 from rfl, eq_false (show ¬ nI 58 = (97 : Int32) by decide), eq_false (show ¬ nI 58 = (94 : Int32) by decide), eq_false (show ¬ nI 58 = (48 : Int32) by decide), eq_false (show ¬ nI 58 = (91 : Int32) by decide), eq_false (show ¬ nI 58 = (64 : Int32) by decide), ↓reduceIte, forall_eq', true_and, and_true, implies_true, forall_const, true_implies, false_implies, not_true_eq_false, not_false_eq_true, if_true, if_false]
        exact c1
      rw [W, V]
      exact ⟨E, c2⟩
    · obtain ⟨c1, c2⟩ := gen 9 (by unfold ep_S; omega) (by omega) (by omega) (by omega)
      have W : et_X3_work w C = et_X3_workOn w (et_X3_comes w C (nI 8) (nI 0)).2 (nI 0) := by
        rw [et_X3_work]
        simp only [c10, e1, e2, eq_false (show ¬ nI 8 = (3 : Int32) by decide), eq_false (show ¬ nI 8 = (14 : Int32) by decide), eq_false (show ¬ nI 8 = (11 : Int32) by decide), eq_false (show ¬ nI 8 = (12 : Int32) by decide), eq_false (show ¬ nI 8 = (13 : Int32) by decide), eq_false (show ¬ nI 8 = (5 : Int32) by decide), ↓reduceIte]
        rfl
      have V : et_X12_worksOn G = if (et_X12_comes G (nI ch - 1) (nI 9) (nI (φ e).1) (nI sc - 1) 0 0 0).1 = 0 then (et_X12_comes G (nI ch - 1) (nI 9) (nI (φ e).1) (nI sc - 1) 0 0 0).2 else (fun M : em_M => et_X12_works M (M.1 125 (5 * (φ e).1)) 0 (nI sc - 1)) (et_X12_comes G (nI ch - 1) (nI 9) (nI (φ e).1) (nI sc - 1) 0 0 0).2 := by
        rw [et_X12_worksOn]
        simp (disch := omega) only [eq_c7, eq_c8, eq_c9, eq_c10, eq_c11, eq_c12, eq_c13, eq_c14, eq_c15, eq_c16, eq_c17, eq_c18, eq_c19, eq_c20, eq_c21, eq_c22, eq_c23, eq_c24, nI_clamp, eq_x5, eq_s4, eq_e2, nI_1, eq_p2, eq_m0, vp_in_nI, g14, g16, g17, hsg, show et_X12_frameOf G (nI 37) = nI 9 from rfl, eq_false (show ¬ nI 37 = (97 : Int32) by decide), eq_false (show ¬ nI 37 = (94 : Int32) by decide), eq_false (show ¬ nI 37 = (48 : Int32) by decide), eq_false (show ¬ nI 37 = (91 : Int32) by decide), eq_false (show ¬ nI 37 = (64 : Int32) by decide), ↓reduceIte, forall_eq', true_and, and_true, implies_true, forall_const, true_implies, false_implies, not_true_eq_false, not_false_eq_true, if_true, if_false]
      have E : es_X12_worksOn G := by
        rw [es_X12_worksOn]
        simp (disch := omega) only [eq_c7, eq_c8, eq_c9, eq_c10, eq_c11, eq_c12, eq_c13, eq_c14, eq_c15, eq_c16, eq_c17, eq_c18, eq_c19, eq_c20, eq_c21, eq_c22, eq_c23, eq_c24, nI_clamp, eq_x5, eq_s4, eq_e2, nI_1, eq_p2, eq_m0, vp_in_nI, g14, g16, g17, hsg, show et_X12_frameOf G (nI 37) = nI 9 from rfl, eq_false (show ¬ nI 37 = (97 : Int32) by decide), eq_false (show ¬ nI 37 = (94 : Int32) by decide), eq_false (show ¬ nI 37 = (48 : Int32) by decide), eq_false (show ¬ nI 37 = (91 : Int32) by decide), eq_false (show ¬ nI 37 = (64 : Int32) by decide), ↓reduceIte, forall_eq', true_and, and_true, implies_true, forall_const, true_implies, false_implies, not_true_eq_false, not_false_eq_true, if_true, if_false]
        exact c1
      rw [W, V]
      exact ⟨E, c2⟩
    · exact ep_catch h ln b hch c13 g17 hwi c14 g18 cw he c10 g14 hs c11 g16 q
