/-! a STEP that gives a THING: a winder comes; going on and coming in; OVER; all of them -/
set_option maxHeartbeats 4000000 in
theorem ep_r80 {φ D : Nat → Nat × Nat} {u nl : Nat} {H : ep_H} {t w : Nat} {C0 G0 C G : em_M} {f wi : Nat} {v : Int64} {ie y : Int32} (R : ep_Rc φ D u nl H t w C0 G0 C G f wi v ie y) {e sc : Nat} (q : ep_F1 φ u H w 119 C G f 8 0 9 e sc) : es_X12_givesOn G ∧ ep_Ps φ u nl t w C0 G0 (et_X3_receive w C) (et_X12_givesOn G) := by
  have h := R.md
  have ln := R.ln
  have w6 := h.w6
  have t3 := h.t3
  have n8 := ln.n8
  have hu := ln.hu
  have nf := h.nf
  have ns := h.ns
  have nw := h.nw
  have ne := h.ne
  have b := R.b
  have b' : H.nf ≤ t + 1 ∧ H.ns ≤ t + 1 ∧ H.nw ≤ t + 1 ∧ H.ne ≤ t + 1 := by omega
  have f0 := R.f0
  have he := q.he
  obtain ⟨b1, b2, b3⟩ := h.tb.fb f f0
  have hm : (φ e).1 < 808 := by have := ln.hm e he; omega
  obtain ⟨sg, np, nd⟩ := ep_n4 ln he q.hk (by omega) (by omega)
  have hK := nd.hK
  have W := er_8 R q.hs b2 q.he1 q.hc1
  obtain ⟨P, hP⟩ : ∃ P, ep_pC w C (nI (H.fb (f + 1))) (nI e) (nI sc) = P := ⟨_, rfl⟩
  have r : ep_pr w C (nI (H.fb (f + 1))) (nI e) (nI sc) P := hP ▸ ep_pCr w C (nI (H.fb (f + 1))) (nI e) (nI sc)
  rw [hP] at W
  obtain ⟨Q, hQ⟩ : ∃ Q, em_pI G 119 17 (nI (H.fb (f + 1)) - 1) = Q := ⟨_, rfl⟩
  have mp : ep_Md φ u nl H t w C0 G0 P Q := hQ ▸ ep_Md_pop h r _
  have qo : ∀ o, o ≠ 119 → Q.1 o = G.1 o := fun o ho => by rw [← hQ]; exact ef_pI' _ _ _ _ ho
  have qk : ∀ k, k ≠ 17 → Q.1 119 k = G.1 119 k := fun k hk => by rw [← hQ]; exact ef_pIk _ _ hk
  have q17 : Q.1 119 17 = nI (H.fb (f + 1)) - 1 := by rw [← hQ]; exact ef_pIs _ _ rfl
  have q2 : Q.2 = G.2 := by rw [← hQ]; rfl
  have p9 : P.1 (w + 3) 9 = 1 := by rw [r.rk _ (by omega) (by omega) (by omega)]; exact R.c9
  have p14 : P.1 (w + 3) 14 = nI wi := by rw [r.rk _ (by omega) (by omega) (by omega)]; exact R.c14
  have p12 : P.2 (w + 3) 12 = v := by rw [r.o2]; exact R.c12
  have q18 : Q.1 119 18 = nI wi - 1 := by rw [qk _ (by omega)]; exact R.g18
  have hch : H.fb (f + 1) ≤ H.nf := by omega
  have cwp : H.fb (f + 1) ≠ 0 → H.W (H.fb (f + 1)) = wi := fun z => by rw [← q.hW z (by omega)]; exact R.cw
  obtain ⟨p, p1, p2, p3, p4⟩ := nd.hp 1 (by unfold ep_K at hK; omega)
  have hwi := R.hwi
  obtain ⟨C1, k1, k2, k3, k4⟩ := ep_wadd mp (by omega) hwi he (by rw [r.o1 _ (by omega)]; exact q.hk) q.hc
  have m1 := ep_Md_pI k2 14 (nI (H.nw + 1)) (by omega)
  obtain ⟨C2, hC2⟩ : ∃ M, em_pI C1 (w + 3) 14 (nI (H.nw + 1)) = M := ⟨_, rfl⟩
  have e14 : C2.1 (w + 3) 14 = nI (H.nw + 1) := by rw [← hC2]; exact ef_pIs _ _ rfl
  have ek : ∀ k, k ≠ 14 → C2.1 (w + 3) k = P.1 (w + 3) k := fun k hk => by rw [← hC2, ef_pIk _ _ hk, k3 _ (by omega)]
  have eo : ∀ o, o ≠ w + 3 → (o < w + 17 ∨ w + 21 < o) → C2.1 o = P.1 o := fun o o1 o2 => by rw [← hC2, ef_pI' _ _ _ _ o1]; exact k3 o o2
  have e2 : C2.2 = P.2 := by rw [← hC2, eq_pI2]; exact k4
  rw [hC2] at m1
  have W2 : et_X3_receiveWind w P (nI (f + 1)) = et_X3_workOn w (et_X3_comes w C2 (nI 8) (nI 1)).2 (nI 1) := by
    rw [et_X3_receiveWind]
    simp (disch := omega) only [↓reduceIte, et_X0_behind, eq_atS, r.o1, q.hb, eq_true (show nI 0 = (0 : Int32) from rfl), p14, r.r10, r.r11, k1, hC2]
    rfl
  have Fw : ∀ M : em_M, M.1 125 (5 * (φ e).1 + 1) = nI (φ p).1 → et_X12_works (em_pI (em_pI (em_pI (em_pI (em_pI M 119 (3960 + 4 * H.nw) (nI (φ e).1)) 119 (3960 + 4 * H.nw + 1) (nI sc - 1)) 119 (3960 + 4 * H.nw + 2) (nI wi - 1)) 119 23 (nI (H.nw + 1))) 119 18 (nI H.nw)) ((em_pI (em_pI (em_pI (em_pI (em_pI M 119 (3960 + 4 * H.nw) (nI (φ e).1)) 119 (3960 + 4 * H.nw + 1) (nI sc - 1)) 119 (3960 + 4 * H.nw + 2) (nI wi - 1)) 119 23 (nI (H.nw + 1))) 119 18 (nI H.nw)).1 125 (5 * (φ e).1 + 1)) 0 (nI sc - 1) = et_X12_works (em_pI (em_pI (em_pI (em_pI (em_pI M 119 (3960 + 4 * H.nw) (nI (φ e).1)) 119 (3960 + 4 * H.nw + 1) (nI sc - 1)) 119 (3960 + 4 * H.nw + 2) (nI wi - 1)) 119 23 (nI (H.nw + 1))) 119 18 (nI H.nw)) (nI (φ p).1) 0 (nI sc - 1) := by
    intro M hM
    simp (disch := omega) only [ef_pI', hM]
  have V : et_X12_givesOn G = if (et_X12_comes Q (nI (H.fb (f + 1)) - 1) (nI 10) (nI (φ e).1) (nI sc - 1) 0 0 0).1 = 0 then (et_X12_comes Q (nI (H.fb (f + 1)) - 1) (nI 10) (nI (φ e).1) (nI sc - 1) 0 0 0).2 else et_X12_works (em_pI (em_pI (em_pI (em_pI (em_pI (et_X12_comes Q (nI (H.fb (f + 1)) - 1) (nI 10) (nI (φ e).1) (nI sc - 1) 0 0 0).2 119 (3960 + 4 * H.nw) (nI (φ e).1)) 119 (3960 + 4 * H.nw + 1) (nI sc - 1)) 119 (3960 + 4 * H.nw + 2) (nI wi - 1)) 119 23 (nI (H.nw + 1))) 119 18 (nI H.nw)) ((em_pI (em_pI (em_pI (em_pI (em_pI (et_X12_comes Q (nI (H.fb (f + 1)) - 1) (nI 10) (nI (φ e).1) (nI sc - 1) 0 0 0).2 119 (3960 + 4 * H.nw) (nI (φ e).1)) 119 (3960 + 4 * H.nw + 1) (nI sc - 1)) 119 (3960 + 4 * H.nw + 2) (nI wi - 1)) 119 23 (nI (H.nw + 1))) 119 18 (nI H.nw)).1 125 (5 * (φ e).1 + 1)) 0 (nI sc - 1) := by
    rw [et_X12_givesOn]
    simp (disch := omega) only [eq_c7, eq_c8, eq_c9, eq_c10, eq_c11, eq_c12, eq_c13, eq_c14, eq_c15, eq_c16, eq_c17, eq_c18, eq_c19, eq_c20, eq_c21, eq_c22, eq_c23, eq_c24, nI_clamp, eq_x5, eq_s4, eq_e2, nI_1, eq_p2, eq_m0, vp_in_nI, eq_f8, eq_p3, eq_p4, eq_p5, eq_p6, eq_p7, nI_pos', R.g17, R.g19, R.g20, q.hw, q.he2, q.hc2, b3, hQ, et_X12_winds, q17, q18, mp.nw2, eq_w4, ef_pI', eq_false (show ¬ nI 9 = (1 : Int32) by decide), eq_false (show ¬ nI 9 = (2 : Int32) by decide), eq_false (show ¬ nI 9 = (7 : Int32) by decide), eq_false (show ¬ nI 9 = (8 : Int32) by decide), eq_false (show ¬ nI 9 = (0 : Int32) by decide), eq_false (show ¬ nI 9 = (3 : Int32) by decide), eq_false (show ¬ nI 9 = (4 : Int32) by decide), eq_false (show ¬ nI 9 = (5 : Int32) by decide), eq_false (show ¬ nI 9 = (6 : Int32) by decide), eq_true (show nI 9 = (9 : Int32) from rfl), eq_false (show ¬ nI 9 = (10 : Int32) by decide), eq_false (show ¬ nI 9 = (11 : Int32) by decide), eq_false (show ¬ nI 9 = (13 : Int32) by decide), ↓reduceIte, forall_eq', true_and, and_true, implies_true, forall_const, true_implies, false_implies, not_true_eq_false, not_false_eq_true, if_true, if_false]
    rfl
  have hb1 : (ep_aW H wi).bw (H.nw + 1) = wi := if_pos rfl
  obtain ⟨x, x1, x2, x3, x4⟩ := ep_hts m1.tb m1.nf (show H.fb (f + 1) ≤ (ep_aW H wi).nf from hch)
  have hfr : es_X12_frames Q (nI (H.fb (f + 1)) - 1) ∧ et_X12_frames Q (nI (H.fb (f + 1)) - 1) = nI x := by
    rw [← x3]
    generalize H.fb (f + 1) = ch at b1 hch
    cases ch with
    | zero => exact ⟨(em_fr0 _).1, (em_fr0 _).2.trans (em_fr0 _).2.symm⟩
    | succ c =>
      refine ⟨(em_fr1 _ (by omega)).1, ?_⟩
      rw [(em_fr1 _ (by omega)).2, (em_fr1 _ (by omega)).2]
      simp (disch := omega) only [ef_pIk]
  have d13 : C2.1 (w + 3) 13 = nI (H.fb (f + 1)) := by rw [ek _ (by omega)]; exact r.r13
  rw [W, W2, V]
  by_cases x40 : x = 40
  · subst x40
    obtain ⟨z1, z2⟩ := em_deep (nI 10) (nI (φ e).1) (nI sc - 1) 0 0 0 hfr.1 hfr.2
    have E : es_X12_givesOn G := by
      rw [es_X12_givesOn]
      simp (disch := omega) only [eq_c7, eq_c8, eq_c9, eq_c10, eq_c11, eq_c12, eq_c13, eq_c14, eq_c15, eq_c16, eq_c17, eq_c18, eq_c19, eq_c20, eq_c21, eq_c22, eq_c23, eq_c24, nI_clamp, eq_x5, eq_s4, eq_e2, nI_1, eq_p2, eq_m0, vp_in_nI, eq_f8, eq_p3, eq_p4, eq_p5, eq_p6, eq_p7, nI_pos', R.g17, R.g19, R.g20, q.hw, q.he2, q.hc2, b3, hQ, es_X12_winds, q17, q18, mp.nw2, eq_w4, ef_pI', eq_false (show ¬ nI 9 = (1 : Int32) by decide), eq_false (show ¬ nI 9 = (2 : Int32) by decide), eq_false (show ¬ nI 9 = (7 : Int32) by decide), eq_false (show ¬ nI 9 = (8 : Int32) by decide), eq_false (show ¬ nI 9 = (0 : Int32) by decide), eq_false (show ¬ nI 9 = (3 : Int32) by decide), eq_false (show ¬ nI 9 = (4 : Int32) by decide), eq_false (show ¬ nI 9 = (5 : Int32) by decide), eq_false (show ¬ nI 9 = (6 : Int32) by decide), eq_true (show nI 9 = (9 : Int32) from rfl), eq_false (show ¬ nI 9 = (10 : Int32) by decide), eq_false (show ¬ nI 9 = (11 : Int32) by decide), eq_false (show ¬ nI 9 = (13 : Int32) by decide), ↓reduceIte, forall_eq', true_and, and_true, implies_true, forall_const, true_implies, false_implies, not_true_eq_false, not_false_eq_true, if_true, if_false]
      exact z1
    refine ⟨E, ?_⟩
    rw [ec_deep (nI 8) (nI 1) (by omega) d13 hch x2, z2]
    simp only [if_true]
    rw [et_X3_workOn]
    refine ep_stop mp 4 (by decide) ?_ ?_ ?_ (Or.inl ?_) ?_ rfl ?_ ?_ (by simp (disch := omega) only [ef_pI']; rw [m1.tb.wh0.2, mp.tb.wh0.2])
    · intro o o1 o2 o3 o4; simp (disch := omega) only [ef_pI']; exact eo o o1 o4
    · intro o o1; simp only [eq_pI2]; rw [e2]
    · intro k'; simp (disch := omega) only [ef_pI', ef_pIa]; rw [eo _ (by omega) (by omega)]
    · simp (disch := omega) only [ef_pIs]
    · intro o ho; simp (disch := omega) only [ef_pI']
    · intro k' hk'; simp (disch := omega) only [ef_pIa]
    · intro k' hk'; simp (disch := omega) only [ef_pIk]
  · obtain ⟨d, d1, d2, d3⟩ := mp.dp
    obtain ⟨z1, z2⟩ := em_come (nI 10) (nI (φ e).1) (nI sc - 1) 0 0 0 mp.nf2 (by omega) hch hfr.2 (by omega) d3 d1
    have E : es_X12_givesOn G := by
      rw [es_X12_givesOn]
      simp (disch := omega) only [eq_c7, eq_c8, eq_c9, eq_c10, eq_c11, eq_c12, eq_c13, eq_c14, eq_c15, eq_c16, eq_c17, eq_c18, eq_c19, eq_c20, eq_c21, eq_c22, eq_c23, eq_c24, nI_clamp, eq_x5, eq_s4, eq_e2, nI_1, eq_p2, eq_m0, vp_in_nI, eq_f8, eq_p3, eq_p4, eq_p5, eq_p6, eq_p7, nI_pos', R.g17, R.g19, R.g20, q.hw, q.he2, q.hc2, b3, hQ, es_X12_winds, q17, q18, mp.nw2, eq_w4, ef_pI', eq_false (show ¬ nI 9 = (1 : Int32) by decide), eq_false (show ¬ nI 9 = (2 : Int32) by decide), eq_false (show ¬ nI 9 = (7 : Int32) by decide), eq_false (show ¬ nI 9 = (8 : Int32) by decide), eq_false (show ¬ nI 9 = (0 : Int32) by decide), eq_false (show ¬ nI 9 = (3 : Int32) by decide), eq_false (show ¬ nI 9 = (4 : Int32) by decide), eq_false (show ¬ nI 9 = (5 : Int32) by decide), eq_false (show ¬ nI 9 = (6 : Int32) by decide), eq_true (show nI 9 = (9 : Int32) from rfl), eq_false (show ¬ nI 9 = (10 : Int32) by decide), eq_false (show ¬ nI 9 = (11 : Int32) by decide), eq_false (show ¬ nI 9 = (13 : Int32) by decide), ↓reduceIte, forall_eq', true_and, and_true, implies_true, forall_const, true_implies, false_implies, not_true_eq_false, not_false_eq_true, if_true, if_false]
      exact z1
    refine ⟨E, ?_⟩
    obtain ⟨-, q2'⟩ := ep_come m1 (show H.nf < 300 by omega) (nI 8) (nI 1) (nI 10) (nI (φ e).1) (nI sc - 1) 0 0 0 0 0 (H.fb (f + 1)) (H.nw + 1) hch d13 (Nat.le_refl _) (ep_come1 m1 (show ep_S 8 1 10 by unfold ep_S; omega) hch he (by rw [eo _ (by omega) (by omega), r.o1 _ (by omega)]; exact q.hk) (by rw [ek _ (by omega)]; exact r.r10) q.hc (by rw [ek _ (by omega)]; exact r.r11) (fun _ z => absurd z (by omega)) (fun _ _ => ⟨by omega, fun z => by rw [hb1]; exact (cwp z).symm⟩) (fun z => absurd z (by omega)) (fun z => absurd z (by omega)))
    have dd : C2.1 (w + 4) 2 = nI d := by rw [eo _ (by omega) (by omega)]; exact d2
    have u8 : C2.1 (w + 8) 0 = nI (H.nf + 1) := by rw [eo _ (by omega) (by omega)]; exact mp.nf1
    rcases q2' with ⟨y1, -⟩ | ⟨xx, dx, C', y1, y2, y3, y4, y5, y6⟩
    · rw [ec_come (nI 8) (nI 1) u8 (by omega) d13 hch x2 (by omega) dd d1] at y1
      exact absurd (Prod.mk.inj y1).1 (nI_ne0 (by omega) (by omega))
    · have gg := (em_come (G := (em_pI (em_pI (em_pI (em_pI (em_pI Q 119 (3960 + 4 * H.nw) (nI (φ e).1)) 119 (3960 + 4 * H.nw + 1) (nI sc - 1)) 119 (3960 + 4 * H.nw + 2) (nI wi - 1)) 119 23 (nI (H.nw + 1))) 119 18 (nI H.nw))) (nI 10) (nI (φ e).1) (nI sc - 1) 0 0 0 (by simp (disch := omega) only [ef_pIk]; exact mp.nf2) (show H.nf < 300 by omega) hch x3 (by omega) (by simp (disch := omega) only [ef_pIk]; exact d3) d1).2
      have hg := (Prod.mk.inj (y2.symm.trans gg)).2
      obtain ⟨m, r3, r3l, rk, rp⟩ := y3 C' (Or.inr ⟨rfl, rfl, rfl⟩)
      have g18 := y4 18 (by omega) (by omega)
      have g17 := y4 17 (by omega) (by omega)
      have g125 := y6 125 (by omega)
      rw [hg] at m g18 g17 g125
      have sw : ep_gF H.nf x d (nI 10) (nI (φ e).1) (nI sc - 1) 0 0 (nI (H.fb (f + 1)) - 1) 0 (em_pI (em_pI (em_pI (em_pI (em_pI Q 119 (3960 + 4 * H.nw) (nI (φ e).1)) 119 (3960 + 4 * H.nw + 1) (nI sc - 1)) 119 (3960 + 4 * H.nw + 2) (nI wi - 1)) 119 23 (nI (H.nw + 1))) 119 18 (nI H.nw)) = (em_pI (em_pI (em_pI (em_pI (em_pI (ep_gF H.nf x d (nI 10) (nI (φ e).1) (nI sc - 1) 0 0 (nI (H.fb (f + 1)) - 1) 0 Q) 119 (3960 + 4 * H.nw) (nI (φ e).1)) 119 (3960 + 4 * H.nw + 1) (nI sc - 1)) 119 (3960 + 4 * H.nw + 2) (nI wi - 1)) 119 23 (nI (H.nw + 1))) 119 18 (nI H.nw)) := by
        rw [em_gFcm (by omega) (by omega), em_gFcm (by omega) (by omega), em_gFcm (by omega) (by omega), em_gFcm (by omega) (by omega), em_gFcm (by omega) (by omega)]
      have hz : (ep_gF H.nf x d (nI 10) (nI (φ e).1) (nI sc - 1) 0 0 (nI (H.fb (f + 1)) - 1) 0 Q).1 125 (5 * (φ e).1 + 1) = nI (φ p).1 := by
        unfold ep_gF
        simp (disch := omega) only [ef_pI']
        rw [qo _ (by omega)]; exact p4
      rw [y1, z2]
      simp only [if_neg (show ¬ (1 : Int32) = 0 by decide)]
      rw [Fw _ hz, ← sw]
      rw [eq_workOn (e := e) (by omega) (by omega) (by rw [r3, if_neg (by omega), ek _ (by omega)]; exact r.r10)]
      refine ep_wk m ⟨by show H.nf + 1 ≤ t + 1; omega, by show H.ns ≤ t + 1; omega, by show H.nw + 1 ≤ t + 1; omega, by show H.ne ≤ t + 1; omega⟩ (ch := H.nf + 1) (wi := H.nw + 1) (sc := sc) (p := p) (Nat.le_refl _) (by rw [r3, if_pos rfl]; rfl) ?_ (Nat.le_refl _) (by rw [r3, if_neg (by omega)]; exact e14) (fun _ => if_pos rfl) p1 q.hc (by rw [r3, if_neg (by omega), ek _ (by omega)]; exact r.r11) (by rw [rp, eo _ (by omega) (by omega), r.o1 _ (by omega)]; exact p2) (ep_fwW rfl (by rw [p3]; rfl) rfl ?_)
      · rw [g17, if_pos rfl, eq_q1]; rfl
      · rw [g18, if_neg (by omega), eq_q1, ef_pIs _ _ rfl]
