/-! in the middle of a STEP: all but what THE MACHINE is at -/
theorem eq_p2 (a : Nat) : nI a + 2 = nI (a + 2) := nI_add a 2
theorem eq_p3 (a : Nat) : nI a + 3 = nI (a + 3) := nI_add a 3
theorem eq_p4 (a : Nat) : nI a + 4 = nI (a + 4) := nI_add a 4
theorem eq_p5 (a : Nat) : nI a + 5 = nI (a + 5) := nI_add a 5
theorem eq_p6 (a : Nat) : nI a + 6 = nI (a + 6) := nI_add a 6
theorem eq_p7 (a : Nat) : nI a + 7 = nI (a + 7) := nI_add a 7
theorem eq_m0 (a : Nat) : (0 : Int32) + nI a = nI a := by rw [show (0 : Int32) = nI 0 from rfl, nI_add, Nat.zero_add]
theorem eq_m4 (a : Nat) : (4 : Int32) + nI a = nI (4 + a) := nI_add 4 a
theorem eq_m74 (a : Nat) : (74 : Int32) + nI a = nI (74 + a) := nI_add 74 a
theorem eq_x5 (a : Nat) : (5 : Int32) * nI a = nI (5 * a) := eq_mul 5 a
theorem eq_x101 (a : Nat) : (101 : Int32) * nI a = nI (101 * a) := eq_mul 101 a
theorem eq_y4 (a : Nat) : nI a * (4 : Int32) = nI (a * 4) := eq_mul a 4
theorem eq_y3 (a : Nat) : nI a * (3 : Int32) = nI (a * 3) := eq_mul a 3
theorem eq_f8 (a : Nat) : (120 : Int32) + 8 * nI a = nI (120 + 8 * a) := by rw [show (8 : Int32) = nI 8 from rfl, eq_mul]; exact nI_add 120 _
theorem eq_s4 (a : Nat) : (2680 : Int32) + 4 * nI a = nI (2680 + 4 * a) := by rw [show (4 : Int32) = nI 4 from rfl, eq_mul]; exact nI_add 2680 _
theorem eq_w4 (a : Nat) : (3960 : Int32) + 4 * nI a = nI (3960 + 4 * a) := by rw [show (4 : Int32) = nI 4 from rfl, eq_mul]; exact nI_add 3960 _
theorem eq_e2 (a : Nat) : (5240 : Int32) + 2 * nI a = nI (5240 + 2 * a) := by rw [show (2 : Int32) = nI 2 from rfl, eq_mul]; exact nI_add 5240 _
theorem eq_q0 : nI 0 - 1 = -1 := by decide
theorem eq_q1 (a : Nat) : nI (a + 1) - 1 = nI a := nI_pred a
theorem eq_neg : ((-1 : Int32) < 0) := by decide
theorem eq_qn {a : Nat} (h : a < 2 ^ 31) : (nI a - 1 < 0) ↔ a = 0 := by
  cases a with
  | zero => simp [eq_q0, eq_neg]
  | succ a => rw [eq_q1]; simp [nI_pos (show a < 2 ^ 31 by omega)]
theorem eq_qp {a : Nat} (h : a < 2 ^ 31) : (0 ≤ nI a - 1) ↔ a ≠ 0 := by
  rw [← Int32.not_lt, eq_qn h]
theorem eq_qe {a b : Nat} (ha : a < 2 ^ 30) (hb : b < 2 ^ 30) : (nI a - 1 = nI b - 1) ↔ a = b := by
  constructor
  · intro e
    cases a with
    | zero =>
      cases b with
      | zero => rfl
      | succ b =>
        rw [eq_q0, eq_q1] at e
        exact absurd (show nI b < 0 by rw [← e]; exact eq_neg) (nI_pos (by omega))
    | succ a =>
      cases b with
      | zero =>
        rw [eq_q0, eq_q1] at e
        exact absurd (show nI a < 0 by rw [e]; exact eq_neg) (nI_pos (by omega))
      | succ b =>
        rw [eq_q1, eq_q1, nI_eq (by omega) (by omega)] at e
        rw [e]
  · intro e; rw [e]
theorem eq_atS {a n : Nat} (M : em_M) {j : Nat} (hj : j < n) (hn : n < 2 ^ 31) : et_X11_at a n M (nI j) = M.1 a j := eq_at rfl hj hn
theorem eq_atS_ {a n : Nat} (M : em_M) {j : Nat} (hj : j < n) (hn : n < 2 ^ 31) : et_X11_at_ a n M (nI j) = M.2 a j := eq_at_ rfl hj hn
theorem eq_putS {a n : Nat} (M : em_M) {v : Int32} {j : Nat} (hj : j < n) (hn : n < 2 ^ 31) : et_X11_put a n M (nI j) v = em_pI M a j v := eq_put rfl hj hn
theorem eq_putS_ {a n : Nat} (M : em_M) {v : Int64} {j : Nat} (hj : j < n) (hn : n < 2 ^ 31) : et_X11_put_ a n M (nI j) v = em_pL M a j v := eq_put_ rfl hj hn
def ep_Md (φ : Nat → Nat × Nat) (u nl : Nat) (H : ep_H) (t w : Nat) (C0 G0 C G : em_M) : Prop :=
  (9 ≤ w) ∧
  (t < 300) ∧
  (H.nf ≤ 300) ∧
  (H.ns ≤ 300) ∧
  (H.nw ≤ 300) ∧
  (H.ne ≤ 300) ∧
  (∀ k, k < 4 → C.1 (w + 1) k = G.1 119 k) ∧
  (∀ k, k < 3 → C.1 (w + 2) k = G.1 119 (4 + k) ∧ (G.1 119 (4 + k) = -5 ∨ ∃ l, l < nl ∧ G.1 119 (4 + k) = nI l)) ∧
  (C.1 (w + 4) 0 = -5) ∧
  (G.1 119 7 = -5) ∧
  (C.1 (w + 4) 1 = nI (t + 1)) ∧
  (G.1 119 10 = nI t) ∧
  (∃ d, d ≤ 40 ∧ C.1 (w + 4) 2 = nI d ∧ G.1 119 11 = nI d) ∧
  (∃ z, z ≤ 40 ∧ C.1 (w + 4) 3 = nI z ∧ G.1 119 12 = nI z ∧ ∀ k, k < z → C.1 (w + 5) k = G.1 119 (74 + k)) ∧
  (C.1 (w + 8) 0 = nI (H.nf + 1)) ∧
  (G.1 119 21 = nI H.nf) ∧
  (C.1 (w + 6) 0 = nI (H.ns + 1)) ∧
  (G.1 119 22 = nI H.ns) ∧
  (C.1 (w + 17) 0 = nI (H.nw + 1)) ∧
  (G.1 119 23 = nI H.nw) ∧
  (C.1 (w + 3) 8 = nI H.ne) ∧
  (G.1 119 24 = nI H.ne) ∧
  (ep_Tb φ u H w 119 C G) ∧
  (∀ o, o < w + 1 ∨ w + 23 < o → C.1 o = C0.1 o) ∧
  (∀ o, o < w + 1 ∨ w + 23 < o → C.2 o = C0.2 o) ∧
  (∀ o, o ≠ 119 → G.1 o = G0.1 o) ∧
  (G.2 = G0.2) ∧
  (∀ k, 25 ≤ k → k ≤ 73 → G.1 119 k = G0.1 119 k)
theorem ep_Md.w6 {φ : Nat → Nat × Nat} {u nl : Nat} {H : ep_H} {t w : Nat} {C0 G0 C G : em_M} (h : ep_Md φ u nl H t w C0 G0 C G) : 9 ≤ w := h.1
theorem ep_Md.t3 {φ : Nat → Nat × Nat} {u nl : Nat} {H : ep_H} {t w : Nat} {C0 G0 C G : em_M} (h : ep_Md φ u nl H t w C0 G0 C G) : t < 300 := h.2.1
theorem ep_Md.nf {φ : Nat → Nat × Nat} {u nl : Nat} {H : ep_H} {t w : Nat} {C0 G0 C G : em_M} (h : ep_Md φ u nl H t w C0 G0 C G) : H.nf ≤ 300 := h.2.2.1
theorem ep_Md.ns {φ : Nat → Nat × Nat} {u nl : Nat} {H : ep_H} {t w : Nat} {C0 G0 C G : em_M} (h : ep_Md φ u nl H t w C0 G0 C G) : H.ns ≤ 300 := h.2.2.2.1
theorem ep_Md.nw {φ : Nat → Nat × Nat} {u nl : Nat} {H : ep_H} {t w : Nat} {C0 G0 C G : em_M} (h : ep_Md φ u nl H t w C0 G0 C G) : H.nw ≤ 300 := h.2.2.2.2.1
theorem ep_Md.ne {φ : Nat → Nat × Nat} {u nl : Nat} {H : ep_H} {t w : Nat} {C0 G0 C G : em_M} (h : ep_Md φ u nl H t w C0 G0 C G) : H.ne ≤ 300 := h.2.2.2.2.2.1
theorem ep_Md.va {φ : Nat → Nat × Nat} {u nl : Nat} {H : ep_H} {t w : Nat} {C0 G0 C G : em_M} (h : ep_Md φ u nl H t w C0 G0 C G) : ∀ k, k < 4 → C.1 (w + 1) k = G.1 119 k := h.2.2.2.2.2.2.1
theorem ep_Md.fu {φ : Nat → Nat × Nat} {u nl : Nat} {H : ep_H} {t w : Nat} {C0 G0 C G : em_M} (h : ep_Md φ u nl H t w C0 G0 C G) : ∀ k, k < 3 → C.1 (w + 2) k = G.1 119 (4 + k) ∧ (G.1 119 (4 + k) = -5 ∨ ∃ l, l < nl ∧ G.1 119 (4 + k) = nI l) := h.2.2.2.2.2.2.2.1
theorem ep_Md.s0 {φ : Nat → Nat × Nat} {u nl : Nat} {H : ep_H} {t w : Nat} {C0 G0 C G : em_M} (h : ep_Md φ u nl H t w C0 G0 C G) : C.1 (w + 4) 0 = -5 := h.2.2.2.2.2.2.2.2.1
theorem ep_Md.s1 {φ : Nat → Nat × Nat} {u nl : Nat} {H : ep_H} {t w : Nat} {C0 G0 C G : em_M} (h : ep_Md φ u nl H t w C0 G0 C G) : G.1 119 7 = -5 := h.2.2.2.2.2.2.2.2.2.1
theorem ep_Md.t0 {φ : Nat → Nat × Nat} {u nl : Nat} {H : ep_H} {t w : Nat} {C0 G0 C G : em_M} (h : ep_Md φ u nl H t w C0 G0 C G) : C.1 (w + 4) 1 = nI (t + 1) := h.2.2.2.2.2.2.2.2.2.2.1
theorem ep_Md.t1 {φ : Nat → Nat × Nat} {u nl : Nat} {H : ep_H} {t w : Nat} {C0 G0 C G : em_M} (h : ep_Md φ u nl H t w C0 G0 C G) : G.1 119 10 = nI t := h.2.2.2.2.2.2.2.2.2.2.2.1
theorem ep_Md.dp {φ : Nat → Nat × Nat} {u nl : Nat} {H : ep_H} {t w : Nat} {C0 G0 C G : em_M} (h : ep_Md φ u nl H t w C0 G0 C G) : ∃ d, d ≤ 40 ∧ C.1 (w + 4) 2 = nI d ∧ G.1 119 11 = nI d := h.2.2.2.2.2.2.2.2.2.2.2.2.1
theorem ep_Md.sz {φ : Nat → Nat × Nat} {u nl : Nat} {H : ep_H} {t w : Nat} {C0 G0 C G : em_M} (h : ep_Md φ u nl H t w C0 G0 C G) : ∃ z, z ≤ 40 ∧ C.1 (w + 4) 3 = nI z ∧ G.1 119 12 = nI z ∧ ∀ k, k < z → C.1 (w + 5) k = G.1 119 (74 + k) := h.2.2.2.2.2.2.2.2.2.2.2.2.2.1
theorem ep_Md.nf1 {φ : Nat → Nat × Nat} {u nl : Nat} {H : ep_H} {t w : Nat} {C0 G0 C G : em_M} (h : ep_Md φ u nl H t w C0 G0 C G) : C.1 (w + 8) 0 = nI (H.nf + 1) := h.2.2.2.2.2.2.2.2.2.2.2.2.2.2.1
theorem ep_Md.nf2 {φ : Nat → Nat × Nat} {u nl : Nat} {H : ep_H} {t w : Nat} {C0 G0 C G : em_M} (h : ep_Md φ u nl H t w C0 G0 C G) : G.1 119 21 = nI H.nf := h.2.2.2.2.2.2.2.2.2.2.2.2.2.2.2.1
theorem ep_Md.ns1 {φ : Nat → Nat × Nat} {u nl : Nat} {H : ep_H} {t w : Nat} {C0 G0 C G : em_M} (h : ep_Md φ u nl H t w C0 G0 C G) : C.1 (w + 6) 0 = nI (H.ns + 1) := h.2.2.2.2.2.2.2.2.2.2.2.2.2.2.2.2.1
theorem ep_Md.ns2 {φ : Nat → Nat × Nat} {u nl : Nat} {H : ep_H} {t w : Nat} {C0 G0 C G : em_M} (h : ep_Md φ u nl H t w C0 G0 C G) : G.1 119 22 = nI H.ns := h.2.2.2.2.2.2.2.2.2.2.2.2.2.2.2.2.2.1
theorem ep_Md.nw1 {φ : Nat → Nat × Nat} {u nl : Nat} {H : ep_H} {t w : Nat} {C0 G0 C G : em_M} (h : ep_Md φ u nl H t w C0 G0 C G) : C.1 (w + 17) 0 = nI (H.nw + 1) := h.2.2.2.2.2.2.2.2.2.2.2.2.2.2.2.2.2.2.1
theorem ep_Md.nw2 {φ : Nat → Nat × Nat} {u nl : Nat} {H : ep_H} {t w : Nat} {C0 G0 C G : em_M} (h : ep_Md φ u nl H t w C0 G0 C G) : G.1 119 23 = nI H.nw := h.2.2.2.2.2.2.2.2.2.2.2.2.2.2.2.2.2.2.2.1
theorem ep_Md.ne1 {φ : Nat → Nat × Nat} {u nl : Nat} {H : ep_H} {t w : Nat} {C0 G0 C G : em_M} (h : ep_Md φ u nl H t w C0 G0 C G) : C.1 (w + 3) 8 = nI H.ne := h.2.2.2.2.2.2.2.2.2.2.2.2.2.2.2.2.2.2.2.2.1
theorem ep_Md.ne2 {φ : Nat → Nat × Nat} {u nl : Nat} {H : ep_H} {t w : Nat} {C0 G0 C G : em_M} (h : ep_Md φ u nl H t w C0 G0 C G) : G.1 119 24 = nI H.ne := h.2.2.2.2.2.2.2.2.2.2.2.2.2.2.2.2.2.2.2.2.2.1
theorem ep_Md.tb {φ : Nat → Nat × Nat} {u nl : Nat} {H : ep_H} {t w : Nat} {C0 G0 C G : em_M} (h : ep_Md φ u nl H t w C0 G0 C G) : ep_Tb φ u H w 119 C G := h.2.2.2.2.2.2.2.2.2.2.2.2.2.2.2.2.2.2.2.2.2.2.1
theorem ep_Md.kc {φ : Nat → Nat × Nat} {u nl : Nat} {H : ep_H} {t w : Nat} {C0 G0 C G : em_M} (h : ep_Md φ u nl H t w C0 G0 C G) : ∀ o, o < w + 1 ∨ w + 23 < o → C.1 o = C0.1 o := h.2.2.2.2.2.2.2.2.2.2.2.2.2.2.2.2.2.2.2.2.2.2.2.1
theorem ep_Md.k2 {φ : Nat → Nat × Nat} {u nl : Nat} {H : ep_H} {t w : Nat} {C0 G0 C G : em_M} (h : ep_Md φ u nl H t w C0 G0 C G) : ∀ o, o < w + 1 ∨ w + 23 < o → C.2 o = C0.2 o := h.2.2.2.2.2.2.2.2.2.2.2.2.2.2.2.2.2.2.2.2.2.2.2.2.1
theorem ep_Md.kg {φ : Nat → Nat × Nat} {u nl : Nat} {H : ep_H} {t w : Nat} {C0 G0 C G : em_M} (h : ep_Md φ u nl H t w C0 G0 C G) : ∀ o, o ≠ 119 → G.1 o = G0.1 o := h.2.2.2.2.2.2.2.2.2.2.2.2.2.2.2.2.2.2.2.2.2.2.2.2.2.1
theorem ep_Md.kl {φ : Nat → Nat × Nat} {u nl : Nat} {H : ep_H} {t w : Nat} {C0 G0 C G : em_M} (h : ep_Md φ u nl H t w C0 G0 C G) : G.2 = G0.2 := h.2.2.2.2.2.2.2.2.2.2.2.2.2.2.2.2.2.2.2.2.2.2.2.2.2.2.1
theorem ep_Md.kr {φ : Nat → Nat × Nat} {u nl : Nat} {H : ep_H} {t w : Nat} {C0 G0 C G : em_M} (h : ep_Md φ u nl H t w C0 G0 C G) : ∀ k, 25 ≤ k → k ≤ 73 → G.1 119 k = G0.1 119 k := h.2.2.2.2.2.2.2.2.2.2.2.2.2.2.2.2.2.2.2.2.2.2.2.2.2.2.2
theorem ep_Md.mk {φ : Nat → Nat × Nat} {u nl : Nat} {H : ep_H} {t w : Nat} {C0 G0 C G : em_M} (w6 : 9 ≤ w) (t3 : t < 300) (nf : H.nf ≤ 300) (ns : H.ns ≤ 300) (nw : H.nw ≤ 300) (ne : H.ne ≤ 300) (va : ∀ k, k < 4 → C.1 (w + 1) k = G.1 119 k) (fu : ∀ k, k < 3 → C.1 (w + 2) k = G.1 119 (4 + k) ∧ (G.1 119 (4 + k) = -5 ∨ ∃ l, l < nl ∧ G.1 119 (4 + k) = nI l)) (s0 : C.1 (w + 4) 0 = -5) (s1 : G.1 119 7 = -5) (t0 : C.1 (w + 4) 1 = nI (t + 1)) (t1 : G.1 119 10 = nI t) (dp : ∃ d, d ≤ 40 ∧ C.1 (w + 4) 2 = nI d ∧ G.1 119 11 = nI d) (sz : ∃ z, z ≤ 40 ∧ C.1 (w + 4) 3 = nI z ∧ G.1 119 12 = nI z ∧ ∀ k, k < z → C.1 (w + 5) k = G.1 119 (74 + k)) (nf1 : C.1 (w + 8) 0 = nI (H.nf + 1)) (nf2 : G.1 119 21 = nI H.nf) (ns1 : C.1 (w + 6) 0 = nI (H.ns + 1)) (ns2 : G.1 119 22 = nI H.ns) (nw1 : C.1 (w + 17) 0 = nI (H.nw + 1)) (nw2 : G.1 119 23 = nI H.nw) (ne1 : C.1 (w + 3) 8 = nI H.ne) (ne2 : G.1 119 24 = nI H.ne) (tb : ep_Tb φ u H w 119 C G) (kc : ∀ o, o < w + 1 ∨ w + 23 < o → C.1 o = C0.1 o) (k2 : ∀ o, o < w + 1 ∨ w + 23 < o → C.2 o = C0.2 o) (kg : ∀ o, o ≠ 119 → G.1 o = G0.1 o) (kl : G.2 = G0.2) (kr : ∀ k, 25 ≤ k → k ≤ 73 → G.1 119 k = G0.1 119 k) : ep_Md φ u nl H t w C0 G0 C G :=
  ⟨w6, t3, nf, ns, nw, ne, va, fu, s0, s1, t0, t1, dp, sz, nf1, nf2, ns1, ns2, nw1, nw2, ne1, ne2, tb, kc, k2, kg, kl, kr⟩
/-- after a STEP, ahead of the model's counting it -/
def ep_Ps (φ : Nat → Nat × Nat) (u nl : Nat) (t w : Nat) (C0 G0 C G : em_M) : Prop :=
  (∀ k, k < 4 → C.1 (w + 1) k = G.1 119 k) ∧
  (∀ k, k < 3 → C.1 (w + 2) k = G.1 119 (4 + k) ∧ (G.1 119 (4 + k) = -5 ∨ ∃ l, l < nl ∧ G.1 119 (4 + k) = nI l)) ∧
  (C.1 (w + 4) 0 = G.1 119 7) ∧
  (C.1 (w + 4) 1 = nI (t + 1)) ∧
  (G.1 119 10 = nI t) ∧
  (∃ d, d ≤ 40 ∧ C.1 (w + 4) 2 = nI d ∧ G.1 119 11 = nI d) ∧
  (∃ z, z ≤ 40 ∧ C.1 (w + 4) 3 = nI z ∧ G.1 119 12 = nI z ∧ ∀ k, k < z → C.1 (w + 5) k = G.1 119 (74 + k)) ∧
  (G.1 119 7 = 0 → ep_Th 300 (C.2 (w + 4) 5) (G.1 119 8) (G.1 119 9)) ∧
  ((C.1 (w + 3) 9 = 0 ∨ C.1 (w + 3) 9 = 1) ∧ C.1 (w + 10) 0 = 0 ∧ C.1 (w + 19) 0 = 0) ∧
  (G.1 119 7 = -5 → ∃ H ch wi, (t + 1 < 300 → ep_Rn φ u H (t + 1) ch wi w 119 C G)) ∧
  (∀ o, o < w + 1 ∨ w + 23 < o → C.1 o = C0.1 o) ∧
  (∀ o, o < w + 1 ∨ w + 23 < o → C.2 o = C0.2 o) ∧
  (∀ o, o ≠ 119 → G.1 o = G0.1 o) ∧
  (G.2 = G0.2) ∧
  (∀ k, 25 ≤ k → k ≤ 73 → G.1 119 k = G0.1 119 k)
theorem ep_Ps.va {φ : Nat → Nat × Nat} {u nl : Nat} {t w : Nat} {C0 G0 C G : em_M} (h : ep_Ps φ u nl t w C0 G0 C G) : ∀ k, k < 4 → C.1 (w + 1) k = G.1 119 k := h.1
theorem ep_Ps.fu {φ : Nat → Nat × Nat} {u nl : Nat} {t w : Nat} {C0 G0 C G : em_M} (h : ep_Ps φ u nl t w C0 G0 C G) : ∀ k, k < 3 → C.1 (w + 2) k = G.1 119 (4 + k) ∧ (G.1 119 (4 + k) = -5 ∨ ∃ l, l < nl ∧ G.1 119 (4 + k) = nI l) := h.2.1
theorem ep_Ps.st {φ : Nat → Nat × Nat} {u nl : Nat} {t w : Nat} {C0 G0 C G : em_M} (h : ep_Ps φ u nl t w C0 G0 C G) : C.1 (w + 4) 0 = G.1 119 7 := h.2.2.1
theorem ep_Ps.t0 {φ : Nat → Nat × Nat} {u nl : Nat} {t w : Nat} {C0 G0 C G : em_M} (h : ep_Ps φ u nl t w C0 G0 C G) : C.1 (w + 4) 1 = nI (t + 1) := h.2.2.2.1
theorem ep_Ps.t1 {φ : Nat → Nat × Nat} {u nl : Nat} {t w : Nat} {C0 G0 C G : em_M} (h : ep_Ps φ u nl t w C0 G0 C G) : G.1 119 10 = nI t := h.2.2.2.2.1
theorem ep_Ps.dp {φ : Nat → Nat × Nat} {u nl : Nat} {t w : Nat} {C0 G0 C G : em_M} (h : ep_Ps φ u nl t w C0 G0 C G) : ∃ d, d ≤ 40 ∧ C.1 (w + 4) 2 = nI d ∧ G.1 119 11 = nI d := h.2.2.2.2.2.1
theorem ep_Ps.sz {φ : Nat → Nat × Nat} {u nl : Nat} {t w : Nat} {C0 G0 C G : em_M} (h : ep_Ps φ u nl t w C0 G0 C G) : ∃ z, z ≤ 40 ∧ C.1 (w + 4) 3 = nI z ∧ G.1 119 12 = nI z ∧ ∀ k, k < z → C.1 (w + 5) k = G.1 119 (74 + k) := h.2.2.2.2.2.2.1
theorem ep_Ps.re {φ : Nat → Nat × Nat} {u nl : Nat} {t w : Nat} {C0 G0 C G : em_M} (h : ep_Ps φ u nl t w C0 G0 C G) : G.1 119 7 = 0 → ep_Th 300 (C.2 (w + 4) 5) (G.1 119 8) (G.1 119 9) := h.2.2.2.2.2.2.2.1
theorem ep_Ps.gb {φ : Nat → Nat × Nat} {u nl : Nat} {t w : Nat} {C0 G0 C G : em_M} (h : ep_Ps φ u nl t w C0 G0 C G) : (C.1 (w + 3) 9 = 0 ∨ C.1 (w + 3) 9 = 1) ∧ C.1 (w + 10) 0 = 0 ∧ C.1 (w + 19) 0 = 0 := h.2.2.2.2.2.2.2.2.1
theorem ep_Ps.ru {φ : Nat → Nat × Nat} {u nl : Nat} {t w : Nat} {C0 G0 C G : em_M} (h : ep_Ps φ u nl t w C0 G0 C G) : G.1 119 7 = -5 → ∃ H ch wi, (t + 1 < 300 → ep_Rn φ u H (t + 1) ch wi w 119 C G) := h.2.2.2.2.2.2.2.2.2.1
theorem ep_Ps.kc {φ : Nat → Nat × Nat} {u nl : Nat} {t w : Nat} {C0 G0 C G : em_M} (h : ep_Ps φ u nl t w C0 G0 C G) : ∀ o, o < w + 1 ∨ w + 23 < o → C.1 o = C0.1 o := h.2.2.2.2.2.2.2.2.2.2.1
theorem ep_Ps.k2 {φ : Nat → Nat × Nat} {u nl : Nat} {t w : Nat} {C0 G0 C G : em_M} (h : ep_Ps φ u nl t w C0 G0 C G) : ∀ o, o < w + 1 ∨ w + 23 < o → C.2 o = C0.2 o := h.2.2.2.2.2.2.2.2.2.2.2.1
theorem ep_Ps.kg {φ : Nat → Nat × Nat} {u nl : Nat} {t w : Nat} {C0 G0 C G : em_M} (h : ep_Ps φ u nl t w C0 G0 C G) : ∀ o, o ≠ 119 → G.1 o = G0.1 o := h.2.2.2.2.2.2.2.2.2.2.2.2.1
theorem ep_Ps.kl {φ : Nat → Nat × Nat} {u nl : Nat} {t w : Nat} {C0 G0 C G : em_M} (h : ep_Ps φ u nl t w C0 G0 C G) : G.2 = G0.2 := h.2.2.2.2.2.2.2.2.2.2.2.2.2.1
theorem ep_Ps.kr {φ : Nat → Nat × Nat} {u nl : Nat} {t w : Nat} {C0 G0 C G : em_M} (h : ep_Ps φ u nl t w C0 G0 C G) : ∀ k, 25 ≤ k → k ≤ 73 → G.1 119 k = G0.1 119 k := h.2.2.2.2.2.2.2.2.2.2.2.2.2.2
theorem ep_Ps.mk {φ : Nat → Nat × Nat} {u nl : Nat} {t w : Nat} {C0 G0 C G : em_M} (va : ∀ k, k < 4 → C.1 (w + 1) k = G.1 119 k) (fu : ∀ k, k < 3 → C.1 (w + 2) k = G.1 119 (4 + k) ∧ (G.1 119 (4 + k) = -5 ∨ ∃ l, l < nl ∧ G.1 119 (4 + k) = nI l)) (st : C.1 (w + 4) 0 = G.1 119 7) (t0 : C.1 (w + 4) 1 = nI (t + 1)) (t1 : G.1 119 10 = nI t) (dp : ∃ d, d ≤ 40 ∧ C.1 (w + 4) 2 = nI d ∧ G.1 119 11 = nI d) (sz : ∃ z, z ≤ 40 ∧ C.1 (w + 4) 3 = nI z ∧ G.1 119 12 = nI z ∧ ∀ k, k < z → C.1 (w + 5) k = G.1 119 (74 + k)) (re : G.1 119 7 = 0 → ep_Th 300 (C.2 (w + 4) 5) (G.1 119 8) (G.1 119 9)) (gb : (C.1 (w + 3) 9 = 0 ∨ C.1 (w + 3) 9 = 1) ∧ C.1 (w + 10) 0 = 0 ∧ C.1 (w + 19) 0 = 0) (ru : G.1 119 7 = -5 → ∃ H ch wi, (t + 1 < 300 → ep_Rn φ u H (t + 1) ch wi w 119 C G)) (kc : ∀ o, o < w + 1 ∨ w + 23 < o → C.1 o = C0.1 o) (k2 : ∀ o, o < w + 1 ∨ w + 23 < o → C.2 o = C0.2 o) (kg : ∀ o, o ≠ 119 → G.1 o = G0.1 o) (kl : G.2 = G0.2) (kr : ∀ k, 25 ≤ k → k ≤ 73 → G.1 119 k = G0.1 119 k) : ep_Ps φ u nl t w C0 G0 C G :=
  ⟨va, fu, st, t0, t1, dp, sz, re, gb, ru, kc, k2, kg, kl, kr⟩
/-- the end of a STEP by which it runs on -/
theorem ep_fin {φ : Nat → Nat × Nat} {u nl : Nat} {H : ep_H} {t w : Nat} {C0 G0 C G : em_M} (h : ep_Md φ u nl H t w C0 G0 C G) (b : H.nf ≤ t + 1 ∧ H.ns ≤ t + 1 ∧ H.nw ≤ t + 1 ∧ H.ne ≤ t + 1) (ch wi : Nat) (ch0 : ch ≤ H.nf) (ch1 : C.1 (w + 3) 13 = nI ch) (ch2 : G.1 119 17 = nI ch - 1) (wi0 : wi ≤ H.nw) (wi1 : C.1 (w + 3) 14 = nI wi) (wi2 : G.1 119 18 = nI wi - 1) (cw : ch ≠ 0 → H.W ch = wi)
    (gi : (C.1 (w + 3) 9 = 0 ∧ G.1 119 13 = 0 ∧ ∃ e sc, e < u ∧ C.1 (w + 3) 10 = nI e ∧ G.1 119 14 = nI (φ e).1 ∧ G.1 119 15 = nI (φ e).2 ∧ sc ≤ H.ns ∧ C.1 (w + 3) 11 = nI sc ∧ G.1 119 16 = nI sc - 1) ∨ (C.1 (w + 3) 9 = 1 ∧ G.1 119 13 = 1 ∧ ep_Th H.ne (C.2 (w + 3) 12) (G.1 119 19) (G.1 119 20))) : ep_Ps φ u nl t w C0 G0 C G := by
  refine ep_Ps.mk h.va h.fu (by rw [h.s0, h.s1]) h.t0 h.t1 h.dp h.sz ?_ ?_ ?_ h.kc h.k2 h.kg h.kl h.kr
  · intro q; rw [h.s1] at q; exact absurd q (by decide)
  · refine ⟨?_, h.tb.fh0, h.tb.wh0.2⟩
    rcases gi with q | q
    · exact Or.inl q.1
    · exact Or.inr q.1
  · intro _
    exact ⟨H, ch, wi, fun s3 => ep_Rn.mk s3 b.1 b.2.1 b.2.2.1 b.2.2.2 h.nf1 h.nf2 h.ns1 h.ns2 h.nw1 h.nw2 h.ne1 h.ne2 ch0 ch1 ch2 wi0 wi1 wi2 cw gi h.tb.fh0 h.tb.fb h.tb.fh h.tb.fw h.tb.fk h.tb.sc0 h.tb.sc h.tb.wh0 h.tb.wb h.tb.we h.tb.es⟩
/-- only what THE MACHINE is at changes -/
theorem ep_Md_rg {φ : Nat → Nat × Nat} {u nl : Nat} {H : ep_H} {t w : Nat} {C0 G0 C G C' G' : em_M} (h : ep_Md φ u nl H t w C0 G0 C G) (c1 : ∀ o, o ≠ w + 3 → C'.1 o = C.1 o) (c2 : ∀ o, o ≠ w + 3 → C'.2 o = C.2 o) (c3 : C'.1 (w + 3) 8 = C.1 (w + 3) 8) (g1 : ∀ o, o ≠ 119 → G'.1 o = G.1 o) (g2 : G'.2 = G.2) (g3 : ∀ k, k < 13 ∨ 20 < k → G'.1 119 k = G.1 119 k) : ep_Md φ u nl H t w C0 G0 C' G' := by
  have w6 := h.w6
  refine ep_Md.mk h.w6 h.t3 h.nf h.ns h.nw h.ne ?_ ?_ ?_ ?_ ?_ ?_ ?_ ?_ ?_ ?_ ?_ ?_ ?_ ?_ ?_ ?_ ?_ ?_ ?_ ?_ ?_ ?_
  · intro k hk; rw [c1 _ (by omega), g3 _ (by omega)]; exact h.va k hk
  · intro k hk; rw [c1 _ (by omega), g3 _ (by omega)]; exact h.fu k hk
  · rw [c1 _ (by omega)]; exact h.s0
  · rw [g3 _ (by omega)]; exact h.s1
  · rw [c1 _ (by omega)]; exact h.t0
  · rw [g3 _ (by omega)]; exact h.t1
  · rw [c1 _ (by omega), g3 _ (by omega)]; exact h.dp
  · obtain ⟨z, z1, z2, z3, z4⟩ := h.sz
    rw [c1 _ (by omega), g3 _ (by omega)]
    refine ⟨z, z1, z2, z3, fun k hk => ?_⟩
    rw [c1 _ (by omega), g3 _ (by omega)]; exact z4 k hk
  · rw [c1 _ (by omega)]; exact h.nf1
  · rw [g3 _ (by omega)]; exact h.nf2
  · rw [c1 _ (by omega)]; exact h.ns1
  · rw [g3 _ (by omega)]; exact h.ns2
  · rw [c1 _ (by omega)]; exact h.nw1
  · rw [g3 _ (by omega)]; exact h.nw2
  · rw [c3]; exact h.ne1
  · rw [g3 _ (by omega)]; exact h.ne2
  · refine ep_Tb_ag h.tb (ep_Ag.mk (c1 _ (by omega)) (c1 _ (by omega)) (by rw [c1 _ (by omega)]) (fun j _ _ k _ _ => by rw [c1 _ (by omega)]) (fun k _ _ => by rw [c2 _ (by omega)]) (fun k _ => by rw [c2 _ (by omega)]) (by rw [c1 _ (by omega)]) (fun j _ _ k _ _ => by rw [c1 _ (by omega)]) (fun j _ _ k _ => by rw [c1 _ (by omega)]) (fun k _ _ => g3 k (by omega)) (fun k _ _ => g3 k (by omega)) (fun k _ _ => g3 k (by omega)) (fun k _ _ => g3 k (by omega)))
  · intro o ho; rw [c1 _ (by omega)]; exact h.kc o ho
  · intro o ho; rw [c2 _ (by omega)]; exact h.k2 o ho
  · intro o ho; rw [g1 _ ho]; exact h.kg o ho
  · rw [g2]; exact h.kl
  · intro k k1 k2; rw [g3 _ (by omega)]; exact h.kr k k1 k2
/-- it stands with one of KIND, LOST, DEEP -/
theorem ep_stop {φ : Nat → Nat × Nat} {u nl : Nat} {H : ep_H} {t w : Nat} {C0 G0 C G C' G' : em_M} (h : ep_Md φ u nl H t w C0 G0 C G) (v : Int32) (hv : v ≠ 0 ∧ v ≠ -5) (c1 : ∀ o, o ≠ w + 3 → o ≠ w + 4 → o ≠ w + 15 → (o < w + 17 ∨ w + 21 < o) → C'.1 o = C.1 o) (c2 : ∀ o, o ≠ w + 16 → C'.2 o = C.2 o) (c4 : ∀ k, C'.1 (w + 4) k = if k = 0 then v else C.1 (w + 4) k) (c3 : C'.1 (w + 3) 9 = 0 ∨ C'.1 (w + 3) 9 = 1) (g1 : ∀ o, o ≠ 119 → G'.1 o = G.1 o) (g2 : G'.2 = G.2) (g3 : ∀ k, k < 13 → G'.1 119 k = if k = 7 then v else G.1 119 k) (g4 : ∀ k, 20 < k → G'.1 119 k = G.1 119 k) (c5 : C'.1 (w + 19) 0 = C.1 (w + 19) 0) : ep_Ps φ u nl t w C0 G0 C' G' := by
  have w6 := h.w6
  refine ep_Ps.mk ?_ ?_ ?_ ?_ ?_ ?_ ?_ ?_ ⟨c3, by rw [c1 _ (by omega) (by omega) (by omega) (by omega)]; exact h.tb.fh0, by rw [c5]; exact h.tb.wh0.2⟩ ?_ ?_ ?_ ?_ ?_ ?_
  · intro k hk
    rw [c1 _ (by omega) (by omega) (by omega) (by omega), g3 _ (by omega), if_neg (by omega)]; exact h.va k hk
  · intro k hk
    rw [c1 _ (by omega) (by omega) (by omega) (by omega), g3 _ (by omega), if_neg (by omega)]; exact h.fu k hk
  · rw [c4, g3 _ (by omega), if_pos rfl, if_pos rfl]
  · rw [c4, if_neg (by omega)]; exact h.t0
  · rw [g3 _ (by omega), if_neg (by omega)]; exact h.t1
  · rw [c4, g3 _ (by omega), if_neg (by omega), if_neg (by omega)]; exact h.dp
  · obtain ⟨z, z1, z2, z3, z4⟩ := h.sz
    rw [c4, g3 _ (by omega), if_neg (by omega), if_neg (by omega)]
    refine ⟨z, z1, z2, z3, fun k hk => ?_⟩
    rw [c1 _ (by omega) (by omega) (by omega) (by omega), g4 _ (by omega)]; exact z4 k hk
  · rw [g3 _ (by omega), if_pos rfl]; intro q; exact absurd q hv.1
  · rw [g3 _ (by omega), if_pos rfl]; intro q; exact absurd q hv.2
  · intro o ho; rw [c1 _ (by omega) (by omega) (by omega) (by omega)]; exact h.kc o ho
  · intro o ho; rw [c2 _ (by omega)]; exact h.k2 o ho
  · intro o ho; rw [g1 _ ho]; exact h.kg o ho
  · rw [g2]; exact h.kl
  · intro k k1 k2; rw [g4 _ (by omega)]; exact h.kr k k1 k2
