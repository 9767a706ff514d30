/-! to GO to an ESCAPE -/
theorem eq_p0 (a : Nat) : nI a + 0 = nI a := nI_add a 0
theorem ep_n4 {φ D : Nat → Nat × Nat} {u nl : Nat} {C G : em_M} (ln : ep_Ln φ D u nl C G) {e so : Nat} (he : e < u) (hk : C.1 2 e = nI so) (hso : so < 100) (h1 : so ≠ 3 ∧ so ≠ 11 ∧ so ≠ 12 ∧ so ≠ 14) : ∃ sg np, ep_Nd4 φ u C G e so sg np := by
  have inj : ∀ a, a < 100 → C.1 2 e = nI a → a = so := fun a ha q => (nI_eq (by omega) (by omega)).mp (q.symm.trans hk)
  rcases ln.nd e he with q | ⟨a, q⟩ | ⟨n, p, q⟩ | ⟨kd, sg, np, q⟩
  · exact absurd (inj 11 (by omega) q.hk) (by omega)
  · exact absurd (inj 12 (by omega) q.hk) (by omega)
  · rcases q.hk with ⟨k, -⟩ | ⟨k, -⟩
    · exact absurd (inj 3 (by omega) k) (by omega)
    · exact absurd (inj 14 (by omega) k) (by omega)
  · have hK := q.hK
    have := inj kd (by unfold ep_K at hK; omega) q.hk
    subst this
    exact ⟨sg, np, q⟩
theorem ep_Md_pI {φ : Nat → Nat × Nat} {u nl : Nat} {H : ep_H} {t w : Nat} {C0 G0 C G : em_M} (h : ep_Md φ u nl H t w C0 G0 C G) (k : Nat) (v : Int32) (hk : k ≠ 8) : ep_Md φ u nl H t w C0 G0 (em_pI C (w + 3) k v) G :=
  ep_Md_rg h (fun o ho => by simp (disch := omega) only [ef_pI']) (fun o ho => rfl) (by simp (disch := omega) only [ef_pIk]) (fun _ _ => rfl) rfl (fun _ _ => rfl)
theorem ep_Md_pG {φ : Nat → Nat × Nat} {u nl : Nat} {H : ep_H} {t w : Nat} {C0 G0 C G : em_M} (h : ep_Md φ u nl H t w C0 G0 C G) (k : Nat) (v : Int32) (hk : 12 < k ∧ k < 21) : ep_Md φ u nl H t w C0 G0 C (em_pI G 119 k v) :=
  ep_Md_rg h (fun o ho => rfl) (fun o ho => rfl) rfl (fun o ho => by simp (disch := omega) only [ef_pI']) rfl (fun k hk => by simp (disch := omega) only [ef_pIk])
theorem ep_goes {φ D : Nat → Nat × Nat} {u nl : Nat} {H : ep_H} {t w : Nat} {C0 G0 C G : em_M} (h : ep_Md φ u nl H t w C0 G0 C G) (ln : ep_Ln φ D u nl C G) (b : H.nf ≤ t ∧ H.ns ≤ t + 1 ∧ H.nw ≤ t + 1 ∧ H.ne ≤ t + 1) {x wi : Nat} (hx : x < H.ne) (hwi : wi ≤ H.nw) (c14 : C.1 (w + 3) 14 = nI wi) (g18 : G.1 119 18 = nI wi - 1) {v : Int64} {ie y : Int32} (ht : ep_Th H.ne v ie y) : es_X12_goes G (nI x) ie y ∧ ep_Ps φ u nl t w C0 G0 (et_X3_go w C (nI x) v) (et_X12_goes G (nI x) ie y) := by
  have w6 := h.w6
  have t3 := h.t3
  have n8 := ln.n8
  have hu := ln.hu
  have nf := h.nf
  have ns := h.ns
  have nw := h.nw
  have ne := h.ne
  have b' : H.nf ≤ t + 1 ∧ H.ns ≤ t + 1 ∧ H.nw ≤ t + 1 ∧ H.ne ≤ t + 1 := by omega
  obtain ⟨s1, s2, s3, s4, s5, s6, s7⟩ := h.tb.es x hx
  have d := fun v hv => (h.tb.wb v hv).1
  by_cases e : H.kw x = wi
  · have W : et_X3_go w C (nI x) v = et_X3_give w (em_pI C (w + 3) 13 (nI (H.kc x))) v := by
      rw [et_X3_go]
      simp (disch := omega) only [↓reduceIte, eq_atS, s4, s5, c14, e]
    have V : et_X12_goes G (nI x) ie y = et_X12_gives (em_pI G 119 17 (nI (H.kc x) - 1)) ie y := by
      rw [et_X12_goes]
      simp (disch := omega) only [eq_c7, eq_c8, eq_c9, eq_c10, eq_c11, eq_c12, eq_c13, eq_c14, eq_c15, eq_c16, eq_c17, eq_c18, eq_c19, eq_c20, eq_c21, eq_c22, eq_c23, eq_c24, nI_clamp, eq_x5, eq_s4, eq_e2, nI_1, eq_p2, eq_m0, vp_in_nI, g18, s6, s7, e, ↓reduceIte, forall_eq', true_and, and_true, implies_true, forall_const, true_implies, false_implies, not_true_eq_false, not_false_eq_true, if_true, if_false]
    have E : es_X12_goes G (nI x) ie y := by
      rw [es_X12_goes]
      simp (disch := omega) only [eq_c7, eq_c8, eq_c9, eq_c10, eq_c11, eq_c12, eq_c13, eq_c14, eq_c15, eq_c16, eq_c17, eq_c18, eq_c19, eq_c20, eq_c21, eq_c22, eq_c23, eq_c24, nI_clamp, eq_x5, eq_s4, eq_e2, nI_1, eq_p2, eq_m0, vp_in_nI, g18, s6, s7, e, ↓reduceIte, forall_eq', true_and, and_true, implies_true, forall_const, true_implies, false_implies, not_true_eq_false, not_false_eq_true, if_true, if_false]
    rw [W, V]
    refine ⟨E, ep_gv (ep_Md_pG (ep_Md_pI h 13 _ (by omega)) 17 _ (by omega)) b' s1 ?_ ?_ hwi ?_ ?_ (fun q => by rw [s3 q, e]) ht⟩
    · simp (disch := omega) only [ef_pIs]
    · simp (disch := omega) only [ef_pIs]
    · simp (disch := omega) only [ef_pIk]; exact c14
    · simp (disch := omega) only [ef_pIk]; exact g18
  · have e1 : (nI (H.kw x) = nI wi) = False := eq_false (fun q => e ((nI_eq (by omega) (by omega)).mp q))
    have e2 : (nI wi - 1 = nI (H.kw x) - 1) = False := eq_false (fun q => e ((eq_qe (by omega) (by omega)).mp q).symm)
    have nx := ec_next h.tb nw hwi s2
    obtain ⟨m1, m2⟩ := em_nexts h.tb nw hwi (H.kw x) s2 400 (H.kw x) (by omega) (Nat.le_refl _)
    obtain ⟨x1, x2, x3⟩ := ep_nxP (bw := H.bw) (row := wi) (n := H.nw) d (H.kw x) (H.kw x) s2 (Nat.le_refl _)
    by_cases z : ep_nx H.bw wi (H.kw x) (H.kw x) = 0
    · rw [z] at nx m2
      obtain ⟨v0, rfl⟩ : ∃ v0, wi = v0 + 1 := by
        refine ⟨wi - 1, ?_⟩
        by_cases q : wi = 0
        · exact absurd z (x3 q (fun r => e (by omega)))
        · omega
      obtain ⟨b1, -, -, b4, -, b6⟩ := h.tb.wb v0 (by omega)
      obtain ⟨ex, sc, a1, a2, a3, a4, a5, a6, a7⟩ := h.tb.we v0 (by omega)
      obtain ⟨sg, np, nd⟩ := ep_n4 ln a1 a2 (by omega) (by omega)
      have hK := nd.hK
      obtain ⟨p, p1, p2, p3, p4⟩ := nd.hp 2 (by unfold ep_K at hK; omega)
      have hm : (φ ex).1 < 808 := by have := ln.hm ex a1; omega
      rw [eq_q1] at m1 m2 g18 e2
      have W : et_X3_go w C (nI x) v = et_X3_workOn w ((fun M r => et_X0_keep w M r v (nI x)) (et_X3_comes w (em_pI (em_pI (em_pI (em_pI C (w + 3) 14 (nI (H.bw (v0 + 1)))) (w + 3) 10 (nI ex)) (w + 3) 11 (nI sc)) (w + 3) 13 (nI 0)) (nI 9) (nI 0)).2 (et_X3_comes w (em_pI (em_pI (em_pI (em_pI C (w + 3) 14 (nI (H.bw (v0 + 1)))) (w + 3) 10 (nI ex)) (w + 3) 11 (nI sc)) (w + 3) 13 (nI 0)) (nI 9) (nI 0)).1) (nI 2) := by
        rw [et_X3_go]
        simp (disch := omega) only [↓reduceIte, eq_atS, s5, c14, e1, nx, nI_0, et_X9_below, et_X9_expression, et_X9_scope, b4, ef_pI', a3, a6]
        rfl
      have V : et_X12_goes G (nI x) ie y = if (et_X12_comes (em_pI G 119 18 (nI (H.bw (v0 + 1)) - 1)) (nI 0 - 1) (nI 12) (nI v0) (-1) ie y (nI x)).1 = 0 then (et_X12_comes (em_pI G 119 18 (nI (H.bw (v0 + 1)) - 1)) (nI 0 - 1) (nI 12) (nI v0) (-1) ie y (nI x)).2 else (fun M : em_M => et_X12_works M (M.1 125 (5 * (φ ex).1 + 2)) 0 (M.1 119 (3960 + 4 * v0 + 1))) (et_X12_comes (em_pI G 119 18 (nI (H.bw (v0 + 1)) - 1)) (nI 0 - 1) (nI 12) (nI v0) (-1) ie y (nI x)).2 := by
        rw [et_X12_goes]
        simp (disch := omega) only [eq_c7, eq_c8, eq_c9, eq_c10, eq_c11, eq_c12, eq_c13, eq_c14, eq_c15, eq_c16, eq_c17, eq_c18, eq_c19, eq_c20, eq_c21, eq_c22, eq_c23, eq_c24, nI_clamp, eq_x5, eq_s4, eq_e2, nI_1, eq_p2, eq_m0, vp_in_nI, eq_w4, eq_q0, et_X12_goesOnFrom, g18, s7, e2, m2, b6, a4, ef_pI', ef_pIk, eq_false (show ¬ (0 : Int32) ≤ -1 by decide), ↓reduceIte, forall_eq', true_and, and_true, implies_true, forall_const, true_implies, false_implies, not_true_eq_false, not_false_eq_true, if_true, if_false]
        rfl
      have M : ep_Md φ u nl H t w C0 G0 (em_pI (em_pI (em_pI (em_pI C (w + 3) 14 (nI (H.bw (v0 + 1)))) (w + 3) 10 (nI ex)) (w + 3) 11 (nI sc)) (w + 3) 13 (nI 0)) (em_pI G 119 18 (nI (H.bw (v0 + 1)) - 1)) := ep_Md_pG (ep_Md_pI (ep_Md_pI (ep_Md_pI (ep_Md_pI h 14 _ (by omega)) 10 _ (by omega)) 11 _ (by omega)) 13 _ (by omega)) 18 _ (by omega)
      obtain ⟨c1, c2⟩ := ep_cw M b (nI 9) (nI 0) (nI 12) (nI v0) (-1) ie y (nI x) v (nI x) 0 (H.bw (v0 + 1)) (by omega) (by simp (disch := omega) only [ef_pIs]) (by omega) (by simp (disch := omega) only [ef_pIk, ef_pIs]) (ep_come3 (G := G) (Or.inl ⟨rfl, rfl⟩) hx ht (fun q => absurd q (by omega))) (x := ex) (sc := sc) (p := p) (k := 2) (by simp (disch := omega) only [ef_pIk, ef_pIs]) (by omega) (by omega) p1 (by simp (disch := omega) only [ef_pI']; exact p2) a5 (by simp (disch := omega) only [ef_pIk, ef_pIs]) (fun M r => et_X0_keep w M r v (nI x)) (Or.inl rfl) (fun M : em_M => et_X12_works M (M.1 125 (5 * (φ ex).1 + 2)) 0 (M.1 119 (3960 + 4 * v0 + 1))) (fun M r1 r2 r3 => ep_fwW (by rw [r1 _ (by omega), ef_pI' _ _ _ _ (by omega)]; exact p4) (by rw [p3]; rfl) (by rw [r2 _ (by omega), ef_pIk _ _ (by omega)]; exact a7) (by rw [r3, ef_pIs _ _ rfl]))
      have E : es_X12_goes G (nI x) ie y := by
        rw [eq_q0] at c1
        rw [es_X12_goes]
        simp (disch := omega) only [eq_c7, eq_c8, eq_c9, eq_c10, eq_c11, eq_c12, eq_c13, eq_c14, eq_c15, eq_c16, eq_c17, eq_c18, eq_c19, eq_c20, eq_c21, eq_c22, eq_c23, eq_c24, nI_clamp, eq_x5, eq_s4, eq_e2, nI_1, eq_p2, eq_m0, vp_in_nI, eq_w4, eq_q0, et_X12_goesOnFrom, es_X12_goesOnFrom, g18, s7, e2, m1, m2, b6, a4, ef_pI', ef_pIk, eq_false (show ¬ (0 : Int32) ≤ -1 by decide), ↓reduceIte, forall_eq', true_and, and_true, implies_true, forall_const, true_implies, false_implies, not_true_eq_false, not_false_eq_true, if_true, if_false]
        exact c1
      rw [W, V]
      exact ⟨E, c2⟩
    · obtain ⟨v0, z0⟩ : ∃ v0, ep_nx H.bw wi (H.kw x) (H.kw x) = v0 + 1 := ⟨ep_nx H.bw wi (H.kw x) (H.kw x) - 1, by omega⟩
      have v0n : v0 < H.nw := by omega
      rw [z0] at nx m2
      rw [eq_q1] at m2
      obtain ⟨ex, sc, a1, a2, a3, a4, a5, a6, a7⟩ := h.tb.we v0 (by omega)
      obtain ⟨sg, np, nd⟩ := ep_n4 ln a1 a2 (by omega) (by omega)
      have hK := nd.hK
      obtain ⟨p, p1, p2, p3, p4⟩ := nd.hp 0 (by unfold ep_K at hK; omega)
      have hm : (φ ex).1 < 808 := by have := ln.hm ex a1; omega
      have nz : (nI (v0 + 1) = 0) = False := eq_false (nI_ne0 (by omega) (by omega))
      have W : et_X3_go w C (nI x) v = et_X3_workOn w ((fun M r => et_X0_keep w M r v (nI x)) (et_X3_comes w (em_pI (em_pI (em_pI (em_pI C (w + 3) 14 (nI wi)) (w + 3) 10 (nI ex)) (w + 3) 11 (nI sc)) (w + 3) 13 (nI 0)) (nI 10) (nI 0)).2 (et_X3_comes w (em_pI (em_pI (em_pI (em_pI C (w + 3) 14 (nI wi)) (w + 3) 10 (nI ex)) (w + 3) 11 (nI sc)) (w + 3) 13 (nI 0)) (nI 10) (nI 0)).1) (nI 0) := by
        rw [et_X3_go]
        simp (disch := omega) only [↓reduceIte, eq_atS, s5, c14, e1, nx, nz, et_X9_below, et_X9_expression, et_X9_scope, ef_pI', a3, a6]
        rfl
      have V : et_X12_goes G (nI x) ie y = if (et_X12_comes G (nI 0 - 1) (nI 13) (nI v0) (-1) ie y (nI x)).1 = 0 then (et_X12_comes G (nI 0 - 1) (nI 13) (nI v0) (-1) ie y (nI x)).2 else (fun M : em_M => et_X12_works M (M.1 125 (5 * (φ ex).1)) 0 (M.1 119 (3960 + 4 * v0 + 1))) (et_X12_comes G (nI 0 - 1) (nI 13) (nI v0) (-1) ie y (nI x)).2 := by
        rw [et_X12_goes]
        simp (disch := omega) only [eq_c7, eq_c8, eq_c9, eq_c10, eq_c11, eq_c12, eq_c13, eq_c14, eq_c15, eq_c16, eq_c17, eq_c18, eq_c19, eq_c20, eq_c21, eq_c22, eq_c23, eq_c24, nI_clamp, eq_x5, eq_s4, eq_e2, nI_1, eq_p2, eq_m0, vp_in_nI, eq_w4, eq_q0, eq_p0, et_X12_goesOnFrom, g18, s7, e2, m2, a4, nI_pos', ↓reduceIte, forall_eq', true_and, and_true, implies_true, forall_const, true_implies, false_implies, not_true_eq_false, not_false_eq_true, if_true, if_false]
        rfl
      have M : ep_Md φ u nl H t w C0 G0 (em_pI (em_pI (em_pI (em_pI C (w + 3) 14 (nI wi)) (w + 3) 10 (nI ex)) (w + 3) 11 (nI sc)) (w + 3) 13 (nI 0)) G := ep_Md_pI (ep_Md_pI (ep_Md_pI (ep_Md_pI h 14 _ (by omega)) 10 _ (by omega)) 11 _ (by omega)) 13 _ (by omega)
      obtain ⟨c1, c2⟩ := ep_cw M b (nI 10) (nI 0) (nI 13) (nI v0) (-1) ie y (nI x) v (nI x) 0 wi (by omega) (by simp (disch := omega) only [ef_pIs]) (by omega) (by simp (disch := omega) only [ef_pIk, ef_pIs]) (ep_come3 (G := G) (Or.inr ⟨rfl, rfl⟩) hx ht (fun q => ⟨v0, v0n, rfl, z0⟩)) (x := ex) (sc := sc) (p := p) (k := 0) (by simp (disch := omega) only [ef_pIk, ef_pIs]) (by omega) (by omega) p1 (by simp (disch := omega) only [ef_pI']; exact p2) a5 (by simp (disch := omega) only [ef_pIk, ef_pIs]) (fun M r => et_X0_keep w M r v (nI x)) (Or.inl rfl) (fun M : em_M => et_X12_works M (M.1 125 (5 * (φ ex).1)) 0 (M.1 119 (3960 + 4 * v0 + 1))) (fun M r1 r2 r3 => ep_fwW (by rw [r1 _ (by omega)]; exact p4) (by rw [p3]; rfl) (by rw [r2 _ (by omega)]; exact a7) (by rw [r3]; exact g18))
      have E : es_X12_goes G (nI x) ie y := by
        rw [eq_q0] at c1
        rw [es_X12_goes]
        simp (disch := omega) only [eq_c7, eq_c8, eq_c9, eq_c10, eq_c11, eq_c12, eq_c13, eq_c14, eq_c15, eq_c16, eq_c17, eq_c18, eq_c19, eq_c20, eq_c21, eq_c22, eq_c23, eq_c24, nI_clamp, eq_x5, eq_s4, eq_e2, nI_1, eq_p2, eq_m0, vp_in_nI, eq_w4, eq_q0, eq_p0, et_X12_goesOnFrom, es_X12_goesOnFrom, g18, s7, e2, m1, m2, a4, nI_pos', ↓reduceIte, forall_eq', true_and, and_true, implies_true, forall_const, true_implies, false_implies, not_true_eq_false, not_false_eq_true, if_true, if_false]
        exact c1
      rw [W, V]
      exact ⟨E, c2⟩
