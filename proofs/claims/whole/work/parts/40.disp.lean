/-! a STEP that gives a THING: what the class does, by the sort of the frame -/
def ep_Rc (φ D : Nat → Nat × Nat) (u nl : Nat) (H : ep_H) (t w : Nat) (C0 G0 C G : em_M) (f wi : Nat) (v : Int64) (ie y : Int32) : Prop :=
  (ep_Md φ u nl H t w C0 G0 C G) ∧
  (ep_Ln φ D u nl C G) ∧
  (H.nf ≤ t ∧ H.ns ≤ t ∧ H.nw ≤ t ∧ H.ne ≤ t) ∧
  (f < H.nf) ∧
  (C.1 (w + 3) 13 = nI (f + 1)) ∧
  (G.1 119 17 = nI f) ∧
  (wi ≤ H.nw) ∧
  (C.1 (w + 3) 14 = nI wi) ∧
  (G.1 119 18 = nI wi - 1) ∧
  (H.W (f + 1) = wi) ∧
  (C.1 (w + 3) 9 = 1) ∧
  (G.1 119 13 = 1) ∧
  (C.2 (w + 3) 12 = v) ∧
  (G.1 119 19 = ie) ∧
  (G.1 119 20 = y) ∧
  (ep_Th H.ne v ie y)
theorem ep_Rc.md {φ D : Nat → Nat × Nat} {u nl : Nat} {H : ep_H} {t w : Nat} {C0 G0 C G : em_M} {f wi : Nat} {v : Int64} {ie y : Int32} (h : ep_Rc φ D u nl H t w C0 G0 C G f wi v ie y) : ep_Md φ u nl H t w C0 G0 C G := h.1
theorem ep_Rc.ln {φ D : Nat → Nat × Nat} {u nl : Nat} {H : ep_H} {t w : Nat} {C0 G0 C G : em_M} {f wi : Nat} {v : Int64} {ie y : Int32} (h : ep_Rc φ D u nl H t w C0 G0 C G f wi v ie y) : ep_Ln φ D u nl C G := h.2.1
theorem ep_Rc.b {φ D : Nat → Nat × Nat} {u nl : Nat} {H : ep_H} {t w : Nat} {C0 G0 C G : em_M} {f wi : Nat} {v : Int64} {ie y : Int32} (h : ep_Rc φ D u nl H t w C0 G0 C G f wi v ie y) : H.nf ≤ t ∧ H.ns ≤ t ∧ H.nw ≤ t ∧ H.ne ≤ t := h.2.2.1
theorem ep_Rc.f0 {φ D : Nat → Nat × Nat} {u nl : Nat} {H : ep_H} {t w : Nat} {C0 G0 C G : em_M} {f wi : Nat} {v : Int64} {ie y : Int32} (h : ep_Rc φ D u nl H t w C0 G0 C G f wi v ie y) : f < H.nf := h.2.2.2.1
theorem ep_Rc.c13 {φ D : Nat → Nat × Nat} {u nl : Nat} {H : ep_H} {t w : Nat} {C0 G0 C G : em_M} {f wi : Nat} {v : Int64} {ie y : Int32} (h : ep_Rc φ D u nl H t w C0 G0 C G f wi v ie y) : C.1 (w + 3) 13 = nI (f + 1) := h.2.2.2.2.1
theorem ep_Rc.g17 {φ D : Nat → Nat × Nat} {u nl : Nat} {H : ep_H} {t w : Nat} {C0 G0 C G : em_M} {f wi : Nat} {v : Int64} {ie y : Int32} (h : ep_Rc φ D u nl H t w C0 G0 C G f wi v ie y) : G.1 119 17 = nI f := h.2.2.2.2.2.1
theorem ep_Rc.hwi {φ D : Nat → Nat × Nat} {u nl : Nat} {H : ep_H} {t w : Nat} {C0 G0 C G : em_M} {f wi : Nat} {v : Int64} {ie y : Int32} (h : ep_Rc φ D u nl H t w C0 G0 C G f wi v ie y) : wi ≤ H.nw := h.2.2.2.2.2.2.1
theorem ep_Rc.c14 {φ D : Nat → Nat × Nat} {u nl : Nat} {H : ep_H} {t w : Nat} {C0 G0 C G : em_M} {f wi : Nat} {v : Int64} {ie y : Int32} (h : ep_Rc φ D u nl H t w C0 G0 C G f wi v ie y) : C.1 (w + 3) 14 = nI wi := h.2.2.2.2.2.2.2.1
theorem ep_Rc.g18 {φ D : Nat → Nat × Nat} {u nl : Nat} {H : ep_H} {t w : Nat} {C0 G0 C G : em_M} {f wi : Nat} {v : Int64} {ie y : Int32} (h : ep_Rc φ D u nl H t w C0 G0 C G f wi v ie y) : G.1 119 18 = nI wi - 1 := h.2.2.2.2.2.2.2.2.1
theorem ep_Rc.cw {φ D : Nat → Nat × Nat} {u nl : Nat} {H : ep_H} {t w : Nat} {C0 G0 C G : em_M} {f wi : Nat} {v : Int64} {ie y : Int32} (h : ep_Rc φ D u nl H t w C0 G0 C G f wi v ie y) : H.W (f + 1) = wi := h.2.2.2.2.2.2.2.2.2.1
theorem ep_Rc.c9 {φ D : Nat → Nat × Nat} {u nl : Nat} {H : ep_H} {t w : Nat} {C0 G0 C G : em_M} {f wi : Nat} {v : Int64} {ie y : Int32} (h : ep_Rc φ D u nl H t w C0 G0 C G f wi v ie y) : C.1 (w + 3) 9 = 1 := h.2.2.2.2.2.2.2.2.2.2.1
theorem ep_Rc.g13 {φ D : Nat → Nat × Nat} {u nl : Nat} {H : ep_H} {t w : Nat} {C0 G0 C G : em_M} {f wi : Nat} {v : Int64} {ie y : Int32} (h : ep_Rc φ D u nl H t w C0 G0 C G f wi v ie y) : G.1 119 13 = 1 := h.2.2.2.2.2.2.2.2.2.2.2.1
theorem ep_Rc.c12 {φ D : Nat → Nat × Nat} {u nl : Nat} {H : ep_H} {t w : Nat} {C0 G0 C G : em_M} {f wi : Nat} {v : Int64} {ie y : Int32} (h : ep_Rc φ D u nl H t w C0 G0 C G f wi v ie y) : C.2 (w + 3) 12 = v := h.2.2.2.2.2.2.2.2.2.2.2.2.1
theorem ep_Rc.g19 {φ D : Nat → Nat × Nat} {u nl : Nat} {H : ep_H} {t w : Nat} {C0 G0 C G : em_M} {f wi : Nat} {v : Int64} {ie y : Int32} (h : ep_Rc φ D u nl H t w C0 G0 C G f wi v ie y) : G.1 119 19 = ie := h.2.2.2.2.2.2.2.2.2.2.2.2.2.1
theorem ep_Rc.g20 {φ D : Nat → Nat × Nat} {u nl : Nat} {H : ep_H} {t w : Nat} {C0 G0 C G : em_M} {f wi : Nat} {v : Int64} {ie y : Int32} (h : ep_Rc φ D u nl H t w C0 G0 C G f wi v ie y) : G.1 119 20 = y := h.2.2.2.2.2.2.2.2.2.2.2.2.2.2.1
theorem ep_Rc.ht {φ D : Nat → Nat × Nat} {u nl : Nat} {H : ep_H} {t w : Nat} {C0 G0 C G : em_M} {f wi : Nat} {v : Int64} {ie y : Int32} (h : ep_Rc φ D u nl H t w C0 G0 C G f wi v ie y) : ep_Th H.ne v ie y := h.2.2.2.2.2.2.2.2.2.2.2.2.2.2.2
theorem ep_Rc.mk {φ D : Nat → Nat × Nat} {u nl : Nat} {H : ep_H} {t w : Nat} {C0 G0 C G : em_M} {f wi : Nat} {v : Int64} {ie y : Int32} (md : ep_Md φ u nl H t w C0 G0 C G) (ln : ep_Ln φ D u nl C G) (b : H.nf ≤ t ∧ H.ns ≤ t ∧ H.nw ≤ t ∧ H.ne ≤ t) (f0 : f < H.nf) (c13 : C.1 (w + 3) 13 = nI (f + 1)) (g17 : G.1 119 17 = nI f) (hwi : wi ≤ H.nw) (c14 : C.1 (w + 3) 14 = nI wi) (g18 : G.1 119 18 = nI wi - 1) (cw : H.W (f + 1) = wi) (c9 : C.1 (w + 3) 9 = 1) (g13 : G.1 119 13 = 1) (c12 : C.2 (w + 3) 12 = v) (g19 : G.1 119 19 = ie) (g20 : G.1 119 20 = y) (ht : ep_Th H.ne v ie y) : ep_Rc φ D u nl H t w C0 G0 C G f wi v ie y :=
  ⟨md, ln, b, f0, c13, g17, hwi, c14, g18, cw, c9, g13, c12, g19, g20, ht⟩
theorem ep_pC2 (w : Nat) (C : em_M) (b x s : Int32) : (ep_pC w C b x s).2 = C.2 := rfl
theorem ep_pC10 (w : Nat) (C : em_M) (b x s : Int32) : (ep_pC w C b x s).1 (w + 3) 10 = x := (ep_pCr w C b x s).r10
theorem ep_pC11 (w : Nat) (C : em_M) (b x s : Int32) : (ep_pC w C b x s).1 (w + 3) 11 = s := (ep_pCr w C b x s).r11
theorem er_1 {φ D : Nat → Nat × Nat} {u nl : Nat} {H : ep_H} {t w : Nat} {C0 G0 C G : em_M} {f wi : Nat} {v : Int64} {ie y : Int32} (R : ep_Rc φ D u nl H t w C0 G0 C G f wi v ie y) {b x s : Int32} (hs : C.1 (w + 11) (f + 1) = nI 1) (hb : C.1 (w + 9) (f + 1) = b) (hx : C.1 (w + 13) (f + 1) = x) (hc : C.1 (w + 14) (f + 1) = s) : et_X3_receive w C = if et_X11_isNumber (ep_pC w C b x s) v = 0 then em_pI (ep_pC w C b x s) (w + 4) 0 2 else if lg_cmp v (0 : Int64) = 0 then et_X3_workOn w (ep_pC w C b x s) (2 : Int32) else et_X3_workOn w (ep_pC w C b x s) (1 : Int32) := by
  have w6 := R.md.w6
  have nf := R.md.nf
  have f0 := R.f0
  have nz : (nI (f + 1) = 0) = False := eq_false (nI_ne0 (by omega) (by omega))
  rw [et_X3_receive]
  simp (disch := omega) only [↓reduceIte, R.c13, nz, et_X0_sort, et_X0_below, et_X0_expression, et_X0_scope, eq_atS, hs, hb, ef_pI', hx, hc, ep_pCd, ep_pC2, ep_pC10, ep_pC11, R.c12, et_X3_receive_187, eq_true (show nI 1 = (1 : Int32) from rfl), eq_false (show ¬ nI 1 = (6 : Int32) by decide), eq_false (show ¬ nI 1 = (7 : Int32) by decide), eq_false (show ¬ nI 1 = (0 : Int32) by decide), eq_false (show ¬ nI 1 = (2 : Int32) by decide), eq_false (show ¬ nI 1 = (3 : Int32) by decide), eq_false (show ¬ nI 1 = (4 : Int32) by decide), eq_false (show ¬ nI 1 = (5 : Int32) by decide), eq_false (show ¬ nI 1 = (8 : Int32) by decide), eq_false (show ¬ nI 1 = (10 : Int32) by decide)]
theorem er_6 {φ D : Nat → Nat × Nat} {u nl : Nat} {H : ep_H} {t w : Nat} {C0 G0 C G : em_M} {f wi : Nat} {v : Int64} {ie y : Int32} (R : ep_Rc φ D u nl H t w C0 G0 C G f wi v ie y) {b x s : Int32} (hs : C.1 (w + 11) (f + 1) = nI 6) (hb : C.1 (w + 9) (f + 1) = b) (hx : C.1 (w + 13) (f + 1) = x) (hc : C.1 (w + 14) (f + 1) = s) : et_X3_receive w C = if et_X11_isNumber (ep_pC w C b x s) v = 0 then em_pI (ep_pC w C b x s) (w + 4) 0 2 else et_X4_write (w + 4) (ep_pC w C b x s) v.toInt32 := by
  have w6 := R.md.w6
  have nf := R.md.nf
  have f0 := R.f0
  have nz : (nI (f + 1) = 0) = False := eq_false (nI_ne0 (by omega) (by omega))
  rw [et_X3_receive]
  simp (disch := omega) only [↓reduceIte, R.c13, nz, et_X0_sort, et_X0_below, et_X0_expression, et_X0_scope, eq_atS, hs, hb, ef_pI', hx, hc, ep_pCd, ep_pC2, ep_pC10, ep_pC11, R.c12, et_X3_receive_187, eq_false (show ¬ nI 6 = (1 : Int32) by decide), eq_true (show nI 6 = (6 : Int32) from rfl), eq_false (show ¬ nI 6 = (7 : Int32) by decide), eq_false (show ¬ nI 6 = (0 : Int32) by decide), eq_false (show ¬ nI 6 = (2 : Int32) by decide), eq_false (show ¬ nI 6 = (3 : Int32) by decide), eq_false (show ¬ nI 6 = (4 : Int32) by decide), eq_false (show ¬ nI 6 = (5 : Int32) by decide), eq_false (show ¬ nI 6 = (8 : Int32) by decide), eq_false (show ¬ nI 6 = (10 : Int32) by decide)]
theorem er_7 {φ D : Nat → Nat × Nat} {u nl : Nat} {H : ep_H} {t w : Nat} {C0 G0 C G : em_M} {f wi : Nat} {v : Int64} {ie y : Int32} (R : ep_Rc φ D u nl H t w C0 G0 C G f wi v ie y) {b x s : Int32} (hs : C.1 (w + 11) (f + 1) = nI 7) (hb : C.1 (w + 9) (f + 1) = b) (hx : C.1 (w + 13) (f + 1) = x) (hc : C.1 (w + 14) (f + 1) = s) : et_X3_receive w C = if et_X11_isNumber (ep_pC w C b x s) v = 0 then em_pI (ep_pC w C b x s) (w + 4) 0 2 else et_X11_put (w + 1) 4 (ep_pC w C b x s) (et_X2_mark (ep_pC w C b x s) x) v.toInt32 := by
  have w6 := R.md.w6
  have nf := R.md.nf
  have f0 := R.f0
  have nz : (nI (f + 1) = 0) = False := eq_false (nI_ne0 (by omega) (by omega))
  rw [et_X3_receive]
  simp (disch := omega) only [↓reduceIte, R.c13, nz, et_X0_sort, et_X0_below, et_X0_expression, et_X0_scope, eq_atS, hs, hb, ef_pI', hx, hc, ep_pCd, ep_pC2, ep_pC10, ep_pC11, R.c12, et_X3_receive_187, eq_false (show ¬ nI 7 = (1 : Int32) by decide), eq_false (show ¬ nI 7 = (6 : Int32) by decide), eq_true (show nI 7 = (7 : Int32) from rfl), eq_false (show ¬ nI 7 = (0 : Int32) by decide), eq_false (show ¬ nI 7 = (2 : Int32) by decide), eq_false (show ¬ nI 7 = (3 : Int32) by decide), eq_false (show ¬ nI 7 = (4 : Int32) by decide), eq_false (show ¬ nI 7 = (5 : Int32) by decide), eq_false (show ¬ nI 7 = (8 : Int32) by decide), eq_false (show ¬ nI 7 = (10 : Int32) by decide)]
theorem er_0 {φ D : Nat → Nat × Nat} {u nl : Nat} {H : ep_H} {t w : Nat} {C0 G0 C G : em_M} {f wi : Nat} {v : Int64} {ie y : Int32} (R : ep_Rc φ D u nl H t w C0 G0 C G f wi v ie y) {b x s : Int32} (hs : C.1 (w + 11) (f + 1) = nI 0) (hb : C.1 (w + 9) (f + 1) = b) (hx : C.1 (w + 13) (f + 1) = x) (hc : C.1 (w + 14) (f + 1) = s) : et_X3_receive w C = et_X3_receiveOp w (ep_pC w C b x s) (nI (f + 1)) := by
  have w6 := R.md.w6
  have nf := R.md.nf
  have f0 := R.f0
  have nz : (nI (f + 1) = 0) = False := eq_false (nI_ne0 (by omega) (by omega))
  rw [et_X3_receive]
  simp (disch := omega) only [↓reduceIte, R.c13, nz, et_X0_sort, et_X0_below, et_X0_expression, et_X0_scope, eq_atS, hs, hb, ef_pI', hx, hc, ep_pCd, ep_pC2, ep_pC10, ep_pC11, R.c12, et_X3_receive_187, eq_false (show ¬ nI 0 = (1 : Int32) by decide), eq_false (show ¬ nI 0 = (6 : Int32) by decide), eq_false (show ¬ nI 0 = (7 : Int32) by decide), eq_true (show nI 0 = (0 : Int32) from rfl), eq_false (show ¬ nI 0 = (2 : Int32) by decide), eq_false (show ¬ nI 0 = (3 : Int32) by decide), eq_false (show ¬ nI 0 = (4 : Int32) by decide), eq_false (show ¬ nI 0 = (5 : Int32) by decide), eq_false (show ¬ nI 0 = (8 : Int32) by decide), eq_false (show ¬ nI 0 = (10 : Int32) by decide)]
theorem er_2 {φ D : Nat → Nat × Nat} {u nl : Nat} {H : ep_H} {t w : Nat} {C0 G0 C G : em_M} {f wi : Nat} {v : Int64} {ie y : Int32} (R : ep_Rc φ D u nl H t w C0 G0 C G f wi v ie y) {b x s : Int32} (hs : C.1 (w + 11) (f + 1) = nI 2) (hb : C.1 (w + 9) (f + 1) = b) (hx : C.1 (w + 13) (f + 1) = x) (hc : C.1 (w + 14) (f + 1) = s) : et_X3_receive w C = et_X3_workOn w (em_pI (et_X7_bind w (ep_pC w C b x s) s (et_X2_mark (ep_pC w C b x s) x) v).2 (w + 3) 11 (et_X7_bind w (ep_pC w C b x s) s (et_X2_mark (ep_pC w C b x s) x) v).1) (1 : Int32) := by
  have w6 := R.md.w6
  have nf := R.md.nf
  have f0 := R.f0
  have nz : (nI (f + 1) = 0) = False := eq_false (nI_ne0 (by omega) (by omega))
  rw [et_X3_receive]
  simp (disch := omega) only [↓reduceIte, R.c13, nz, et_X0_sort, et_X0_below, et_X0_expression, et_X0_scope, eq_atS, hs, hb, ef_pI', hx, hc, ep_pCd, ep_pC2, ep_pC10, ep_pC11, R.c12, et_X3_receive_187, eq_false (show ¬ nI 2 = (1 : Int32) by decide), eq_false (show ¬ nI 2 = (6 : Int32) by decide), eq_false (show ¬ nI 2 = (7 : Int32) by decide), eq_false (show ¬ nI 2 = (0 : Int32) by decide), eq_true (show nI 2 = (2 : Int32) from rfl), eq_false (show ¬ nI 2 = (3 : Int32) by decide), eq_false (show ¬ nI 2 = (4 : Int32) by decide), eq_false (show ¬ nI 2 = (5 : Int32) by decide), eq_false (show ¬ nI 2 = (8 : Int32) by decide), eq_false (show ¬ nI 2 = (10 : Int32) by decide)]
theorem er_3 {φ D : Nat → Nat × Nat} {u nl : Nat} {H : ep_H} {t w : Nat} {C0 G0 C G : em_M} {f wi : Nat} {v : Int64} {ie y : Int32} (R : ep_Rc φ D u nl H t w C0 G0 C G f wi v ie y) {b x s : Int32} (hs : C.1 (w + 11) (f + 1) = nI 3) (hb : C.1 (w + 9) (f + 1) = b) (hx : C.1 (w + 13) (f + 1) = x) (hc : C.1 (w + 14) (f + 1) = s) : et_X3_receive w C = et_X3_workOn w (ep_pC w C b x s) (1 : Int32) := by
  have w6 := R.md.w6
  have nf := R.md.nf
  have f0 := R.f0
  have nz : (nI (f + 1) = 0) = False := eq_false (nI_ne0 (by omega) (by omega))
  rw [et_X3_receive]
  simp (disch := omega) only [↓reduceIte, R.c13, nz, et_X0_sort, et_X0_below, et_X0_expression, et_X0_scope, eq_atS, hs, hb, ef_pI', hx, hc, ep_pCd, ep_pC2, ep_pC10, ep_pC11, R.c12, et_X3_receive_187, eq_false (show ¬ nI 3 = (1 : Int32) by decide), eq_false (show ¬ nI 3 = (6 : Int32) by decide), eq_false (show ¬ nI 3 = (7 : Int32) by decide), eq_false (show ¬ nI 3 = (0 : Int32) by decide), eq_false (show ¬ nI 3 = (2 : Int32) by decide), eq_true (show nI 3 = (3 : Int32) from rfl), eq_false (show ¬ nI 3 = (4 : Int32) by decide), eq_false (show ¬ nI 3 = (5 : Int32) by decide), eq_false (show ¬ nI 3 = (8 : Int32) by decide), eq_false (show ¬ nI 3 = (10 : Int32) by decide)]
theorem er_4 {φ D : Nat → Nat × Nat} {u nl : Nat} {H : ep_H} {t w : Nat} {C0 G0 C G : em_M} {f wi : Nat} {v : Int64} {ie y : Int32} (R : ep_Rc φ D u nl H t w C0 G0 C G f wi v ie y) {b x s : Int32} (hs : C.1 (w + 11) (f + 1) = nI 4) (hb : C.1 (w + 9) (f + 1) = b) (hx : C.1 (w + 13) (f + 1) = x) (hc : C.1 (w + 14) (f + 1) = s) : et_X3_receive w C = et_X3_call w (ep_pC w C b x s) (et_X11_at (w + 2) 3 (ep_pC w C b x s) (et_X2_mark (ep_pC w C b x s) x)) := by
  have w6 := R.md.w6
  have nf := R.md.nf
  have f0 := R.f0
  have nz : (nI (f + 1) = 0) = False := eq_false (nI_ne0 (by omega) (by omega))
  rw [et_X3_receive]
  simp (disch := omega) only [↓reduceIte, R.c13, nz, et_X0_sort, et_X0_below, et_X0_expression, et_X0_scope, eq_atS, hs, hb, ef_pI', hx, hc, ep_pCd, ep_pC2, ep_pC10, ep_pC11, R.c12, et_X3_receive_187, eq_false (show ¬ nI 4 = (1 : Int32) by decide), eq_false (show ¬ nI 4 = (6 : Int32) by decide), eq_false (show ¬ nI 4 = (7 : Int32) by decide), eq_false (show ¬ nI 4 = (0 : Int32) by decide), eq_false (show ¬ nI 4 = (2 : Int32) by decide), eq_false (show ¬ nI 4 = (3 : Int32) by decide), eq_true (show nI 4 = (4 : Int32) from rfl), eq_false (show ¬ nI 4 = (5 : Int32) by decide), eq_false (show ¬ nI 4 = (8 : Int32) by decide), eq_false (show ¬ nI 4 = (10 : Int32) by decide)]
theorem er_5 {φ D : Nat → Nat × Nat} {u nl : Nat} {H : ep_H} {t w : Nat} {C0 G0 C G : em_M} {f wi : Nat} {v : Int64} {ie y : Int32} (R : ep_Rc φ D u nl H t w C0 G0 C G f wi v ie y) {b x s : Int32} (hs : C.1 (w + 11) (f + 1) = nI 5) (hb : C.1 (w + 9) (f + 1) = b) (hx : C.1 (w + 13) (f + 1) = x) (hc : C.1 (w + 14) (f + 1) = s) : et_X3_receive w C = et_X3_go w (ep_pC w C b x s) (et_X0_escape w (ep_pC w C b x s) (nI (f + 1))) v := by
  have w6 := R.md.w6
  have nf := R.md.nf
  have f0 := R.f0
  have nz : (nI (f + 1) = 0) = False := eq_false (nI_ne0 (by omega) (by omega))
  rw [et_X3_receive]
  simp (disch := omega) only [↓reduceIte, R.c13, nz, et_X0_sort, et_X0_below, et_X0_expression, et_X0_scope, eq_atS, hs, hb, ef_pI', hx, hc, ep_pCd, ep_pC2, ep_pC10, ep_pC11, R.c12, et_X3_receive_187, eq_false (show ¬ nI 5 = (1 : Int32) by decide), eq_false (show ¬ nI 5 = (6 : Int32) by decide), eq_false (show ¬ nI 5 = (7 : Int32) by decide), eq_false (show ¬ nI 5 = (0 : Int32) by decide), eq_false (show ¬ nI 5 = (2 : Int32) by decide), eq_false (show ¬ nI 5 = (3 : Int32) by decide), eq_false (show ¬ nI 5 = (4 : Int32) by decide), eq_true (show nI 5 = (5 : Int32) from rfl), eq_false (show ¬ nI 5 = (8 : Int32) by decide), eq_false (show ¬ nI 5 = (10 : Int32) by decide)]
theorem er_8 {φ D : Nat → Nat × Nat} {u nl : Nat} {H : ep_H} {t w : Nat} {C0 G0 C G : em_M} {f wi : Nat} {v : Int64} {ie y : Int32} (R : ep_Rc φ D u nl H t w C0 G0 C G f wi v ie y) {b x s : Int32} (hs : C.1 (w + 11) (f + 1) = nI 8) (hb : C.1 (w + 9) (f + 1) = b) (hx : C.1 (w + 13) (f + 1) = x) (hc : C.1 (w + 14) (f + 1) = s) : et_X3_receive w C = et_X3_receiveWind w (ep_pC w C b x s) (nI (f + 1)) := by
  have w6 := R.md.w6
  have nf := R.md.nf
  have f0 := R.f0
  have nz : (nI (f + 1) = 0) = False := eq_false (nI_ne0 (by omega) (by omega))
  rw [et_X3_receive]
  simp (disch := omega) only [↓reduceIte, R.c13, nz, et_X0_sort, et_X0_below, et_X0_expression, et_X0_scope, eq_atS, hs, hb, ef_pI', hx, hc, ep_pCd, ep_pC2, ep_pC10, ep_pC11, R.c12, et_X3_receive_187, eq_false (show ¬ nI 8 = (1 : Int32) by decide), eq_false (show ¬ nI 8 = (6 : Int32) by decide), eq_false (show ¬ nI 8 = (7 : Int32) by decide), eq_false (show ¬ nI 8 = (0 : Int32) by decide), eq_false (show ¬ nI 8 = (2 : Int32) by decide), eq_false (show ¬ nI 8 = (3 : Int32) by decide), eq_false (show ¬ nI 8 = (4 : Int32) by decide), eq_false (show ¬ nI 8 = (5 : Int32) by decide), eq_true (show nI 8 = (8 : Int32) from rfl), eq_false (show ¬ nI 8 = (10 : Int32) by decide)]
theorem er_10 {φ D : Nat → Nat × Nat} {u nl : Nat} {H : ep_H} {t w : Nat} {C0 G0 C G : em_M} {f wi : Nat} {v : Int64} {ie y : Int32} (R : ep_Rc φ D u nl H t w C0 G0 C G f wi v ie y) {b x s : Int32} (hs : C.1 (w + 11) (f + 1) = nI 10) (hb : C.1 (w + 9) (f + 1) = b) (hx : C.1 (w + 13) (f + 1) = x) (hc : C.1 (w + 14) (f + 1) = s) : et_X3_receive w C = et_X3_go w (em_pI (ep_pC w C b x s) (w + 3) 14 (et_X9_next w (ep_pC w C b x s) ((ep_pC w C b x s).1 (w + 3) 14) (et_X11_at (w + 23) 301 (ep_pC w C b x s) (et_X0_escape w (ep_pC w C b x s) (nI (f + 1)))))) (et_X0_escape w (em_pI (ep_pC w C b x s) (w + 3) 14 (et_X9_next w (ep_pC w C b x s) ((ep_pC w C b x s).1 (w + 3) 14) (et_X11_at (w + 23) 301 (ep_pC w C b x s) (et_X0_escape w (ep_pC w C b x s) (nI (f + 1)))))) (nI (f + 1))) (et_X0_kept w (em_pI (ep_pC w C b x s) (w + 3) 14 (et_X9_next w (ep_pC w C b x s) ((ep_pC w C b x s).1 (w + 3) 14) (et_X11_at (w + 23) 301 (ep_pC w C b x s) (et_X0_escape w (ep_pC w C b x s) (nI (f + 1)))))) (nI (f + 1))) := by
  have w6 := R.md.w6
  have nf := R.md.nf
  have f0 := R.f0
  have nz : (nI (f + 1) = 0) = False := eq_false (nI_ne0 (by omega) (by omega))
  rw [et_X3_receive]
  simp (disch := omega) only [↓reduceIte, R.c13, nz, et_X0_sort, et_X0_below, et_X0_expression, et_X0_scope, eq_atS, hs, hb, ef_pI', hx, hc, ep_pCd, ep_pC2, ep_pC10, ep_pC11, R.c12, et_X3_receive_187, eq_false (show ¬ nI 10 = (1 : Int32) by decide), eq_false (show ¬ nI 10 = (6 : Int32) by decide), eq_false (show ¬ nI 10 = (7 : Int32) by decide), eq_false (show ¬ nI 10 = (0 : Int32) by decide), eq_false (show ¬ nI 10 = (2 : Int32) by decide), eq_false (show ¬ nI 10 = (3 : Int32) by decide), eq_false (show ¬ nI 10 = (4 : Int32) by decide), eq_false (show ¬ nI 10 = (5 : Int32) by decide), eq_false (show ¬ nI 10 = (8 : Int32) by decide), eq_true (show nI 10 = (10 : Int32) from rfl)]
theorem er_9 {φ D : Nat → Nat × Nat} {u nl : Nat} {H : ep_H} {t w : Nat} {C0 G0 C G : em_M} {f wi : Nat} {v : Int64} {ie y : Int32} (R : ep_Rc φ D u nl H t w C0 G0 C G f wi v ie y) {b x s : Int32} (hs : C.1 (w + 11) (f + 1) = nI 9) (hb : C.1 (w + 9) (f + 1) = b) (hx : C.1 (w + 13) (f + 1) = x) (hc : C.1 (w + 14) (f + 1) = s) : et_X3_receive w C = et_X3_go w (ep_pC w C b x s) (et_X0_escape w (ep_pC w C b x s) (nI (f + 1))) (et_X0_kept w (ep_pC w C b x s) (nI (f + 1))) := by
  have w6 := R.md.w6
  have nf := R.md.nf
  have f0 := R.f0
  have nz : (nI (f + 1) = 0) = False := eq_false (nI_ne0 (by omega) (by omega))
  rw [et_X3_receive]
  simp (disch := omega) only [↓reduceIte, R.c13, nz, et_X0_sort, et_X0_below, et_X0_expression, et_X0_scope, eq_atS, hs, hb, ef_pI', hx, hc, ep_pCd, ep_pC2, ep_pC10, ep_pC11, R.c12, et_X3_receive_187, eq_false (show ¬ nI 9 = (1 : Int32) by decide), eq_false (show ¬ nI 9 = (6 : Int32) by decide), eq_false (show ¬ nI 9 = (7 : Int32) by decide), eq_false (show ¬ nI 9 = (0 : Int32) by decide), eq_false (show ¬ nI 9 = (2 : Int32) by decide), eq_false (show ¬ nI 9 = (3 : Int32) by decide), eq_false (show ¬ nI 9 = (4 : Int32) by decide), eq_false (show ¬ nI 9 = (5 : Int32) by decide), eq_false (show ¬ nI 9 = (8 : Int32) by decide), eq_false (show ¬ nI 9 = (10 : Int32) by decide)]
