/-! the tables of a RUN: how they carry over to other memories, and how they grow -/
def ep_Tb (φ : Nat → Nat × Nat) (u : Nat) (H : ep_H) (w g : Nat) (C G : em_M) : Prop :=
  (C.1 (w + 10) 0 = 0) ∧
  (∀ f, f < H.nf → H.fb (f + 1) ≤ f ∧ C.1 (w + 9) (f + 1) = nI (H.fb (f + 1)) ∧ G.1 g (120 + 8 * f + 5) = nI (H.fb (f + 1)) - 1) ∧
  (∀ f, f < H.nf → ∃ h, h ≤ 40 ∧ C.1 (w + 10) (f + 1) = nI h ∧ G.1 g (120 + 8 * f + 6) = nI h) ∧
  (∀ f, f < H.nf → H.W (f + 1) ≤ H.nw) ∧
  (∀ f, f < H.nf → ep_Fk φ u H w g C G f) ∧
  (∀ n, n < 4 → C.2 (w + 7) n = -9223372036854775808) ∧
  (∀ t, t < H.ns → ∃ nm sb, nm < 4 ∧ sb ≤ t ∧ G.1 g (2680 + 4 * t) = nI nm ∧ G.1 g (2680 + 4 * t + 3) = nI sb - 1 ∧ ep_Th H.ne (C.2 (w + 7) (4 * (t + 1) + nm)) (G.1 g (2680 + 4 * t + 1)) (G.1 g (2680 + 4 * t + 2)) ∧ ∀ n, n < 4 → n ≠ nm → C.2 (w + 7) (4 * (t + 1) + n) = C.2 (w + 7) (4 * sb + n)) ∧
  (H.hw 0 = 0 ∧ C.1 (w + 19) 0 = 0) ∧
  (∀ v, v < H.nw → H.bw (v + 1) ≤ v ∧ H.hw (v + 1) = H.hw (H.bw (v + 1)) + 1 ∧ H.hw (v + 1) ≤ v + 1 ∧ C.1 (w + 18) (v + 1) = nI (H.bw (v + 1)) ∧ C.1 (w + 19) (v + 1) = nI (H.hw (v + 1)) ∧ G.1 g (3960 + 4 * v + 2) = nI (H.bw (v + 1)) - 1) ∧
  (∀ v, v < H.nw → ∃ e sc, e < u ∧ C.1 2 e = nI 8 ∧ C.1 (w + 20) (v + 1) = nI e ∧ G.1 g (3960 + 4 * v) = nI (φ e).1 ∧ sc ≤ H.ns ∧ C.1 (w + 21) (v + 1) = nI sc ∧ G.1 g (3960 + 4 * v + 1) = nI sc - 1) ∧
  (∀ x, x < H.ne → H.kc x ≤ H.nf ∧ H.kw x ≤ H.nw ∧ (H.kc x ≠ 0 → H.W (H.kc x) = H.kw x) ∧ C.1 (w + 22) x = nI (H.kc x) ∧ C.1 (w + 23) x = nI (H.kw x) ∧ G.1 g (5240 + 2 * x) = nI (H.kc x) - 1 ∧ G.1 g (5240 + 2 * x + 1) = nI (H.kw x) - 1)
theorem ep_Tb.fh0 {φ : Nat → Nat × Nat} {u : Nat} {H : ep_H} {w g : Nat} {C G : em_M} (h : ep_Tb φ u H w g C G) : C.1 (w + 10) 0 = 0 := h.1
theorem ep_Tb.fb {φ : Nat → Nat × Nat} {u : Nat} {H : ep_H} {w g : Nat} {C G : em_M} (h : ep_Tb φ u H w g C G) : ∀ f, f < H.nf → H.fb (f + 1) ≤ f ∧ C.1 (w + 9) (f + 1) = nI (H.fb (f + 1)) ∧ G.1 g (120 + 8 * f + 5) = nI (H.fb (f + 1)) - 1 := h.2.1
theorem ep_Tb.fh {φ : Nat → Nat × Nat} {u : Nat} {H : ep_H} {w g : Nat} {C G : em_M} (h : ep_Tb φ u H w g C G) : ∀ f, f < H.nf → ∃ h, h ≤ 40 ∧ C.1 (w + 10) (f + 1) = nI h ∧ G.1 g (120 + 8 * f + 6) = nI h := h.2.2.1
theorem ep_Tb.fw {φ : Nat → Nat × Nat} {u : Nat} {H : ep_H} {w g : Nat} {C G : em_M} (h : ep_Tb φ u H w g C G) : ∀ f, f < H.nf → H.W (f + 1) ≤ H.nw := h.2.2.2.1
theorem ep_Tb.fk {φ : Nat → Nat × Nat} {u : Nat} {H : ep_H} {w g : Nat} {C G : em_M} (h : ep_Tb φ u H w g C G) : ∀ f, f < H.nf → ep_Fk φ u H w g C G f := h.2.2.2.2.1
theorem ep_Tb.sc0 {φ : Nat → Nat × Nat} {u : Nat} {H : ep_H} {w g : Nat} {C G : em_M} (h : ep_Tb φ u H w g C G) : ∀ n, n < 4 → C.2 (w + 7) n = -9223372036854775808 := h.2.2.2.2.2.1
theorem ep_Tb.sc {φ : Nat → Nat × Nat} {u : Nat} {H : ep_H} {w g : Nat} {C G : em_M} (h : ep_Tb φ u H w g C G) : ∀ t, t < H.ns → ∃ nm sb, nm < 4 ∧ sb ≤ t ∧ G.1 g (2680 + 4 * t) = nI nm ∧ G.1 g (2680 + 4 * t + 3) = nI sb - 1 ∧ ep_Th H.ne (C.2 (w + 7) (4 * (t + 1) + nm)) (G.1 g (2680 + 4 * t + 1)) (G.1 g (2680 + 4 * t + 2)) ∧ ∀ n, n < 4 → n ≠ nm → C.2 (w + 7) (4 * (t + 1) + n) = C.2 (w + 7) (4 * sb + n) := h.2.2.2.2.2.2.1
theorem ep_Tb.wh0 {φ : Nat → Nat × Nat} {u : Nat} {H : ep_H} {w g : Nat} {C G : em_M} (h : ep_Tb φ u H w g C G) : H.hw 0 = 0 ∧ C.1 (w + 19) 0 = 0 := h.2.2.2.2.2.2.2.1
theorem ep_Tb.wb {φ : Nat → Nat × Nat} {u : Nat} {H : ep_H} {w g : Nat} {C G : em_M} (h : ep_Tb φ u H w g C G) : ∀ v, v < H.nw → H.bw (v + 1) ≤ v ∧ H.hw (v + 1) = H.hw (H.bw (v + 1)) + 1 ∧ H.hw (v + 1) ≤ v + 1 ∧ C.1 (w + 18) (v + 1) = nI (H.bw (v + 1)) ∧ C.1 (w + 19) (v + 1) = nI (H.hw (v + 1)) ∧ G.1 g (3960 + 4 * v + 2) = nI (H.bw (v + 1)) - 1 := h.2.2.2.2.2.2.2.2.1
theorem ep_Tb.we {φ : Nat → Nat × Nat} {u : Nat} {H : ep_H} {w g : Nat} {C G : em_M} (h : ep_Tb φ u H w g C G) : ∀ v, v < H.nw → ∃ e sc, e < u ∧ C.1 2 e = nI 8 ∧ C.1 (w + 20) (v + 1) = nI e ∧ G.1 g (3960 + 4 * v) = nI (φ e).1 ∧ sc ≤ H.ns ∧ C.1 (w + 21) (v + 1) = nI sc ∧ G.1 g (3960 + 4 * v + 1) = nI sc - 1 := h.2.2.2.2.2.2.2.2.2.1
theorem ep_Tb.es {φ : Nat → Nat × Nat} {u : Nat} {H : ep_H} {w g : Nat} {C G : em_M} (h : ep_Tb φ u H w g C G) : ∀ x, x < H.ne → H.kc x ≤ H.nf ∧ H.kw x ≤ H.nw ∧ (H.kc x ≠ 0 → H.W (H.kc x) = H.kw x) ∧ C.1 (w + 22) x = nI (H.kc x) ∧ C.1 (w + 23) x = nI (H.kw x) ∧ G.1 g (5240 + 2 * x) = nI (H.kc x) - 1 ∧ G.1 g (5240 + 2 * x + 1) = nI (H.kw x) - 1 := h.2.2.2.2.2.2.2.2.2.2
theorem ep_Tb.mk {φ : Nat → Nat × Nat} {u : Nat} {H : ep_H} {w g : Nat} {C G : em_M} (fh0 : C.1 (w + 10) 0 = 0) (fb : ∀ f, f < H.nf → H.fb (f + 1) ≤ f ∧ C.1 (w + 9) (f + 1) = nI (H.fb (f + 1)) ∧ G.1 g (120 + 8 * f + 5) = nI (H.fb (f + 1)) - 1) (fh : ∀ f, f < H.nf → ∃ h, h ≤ 40 ∧ C.1 (w + 10) (f + 1) = nI h ∧ G.1 g (120 + 8 * f + 6) = nI h) (fw : ∀ f, f < H.nf → H.W (f + 1) ≤ H.nw) (fk : ∀ f, f < H.nf → ep_Fk φ u H w g C G f) (sc0 : ∀ n, n < 4 → C.2 (w + 7) n = -9223372036854775808) (sc : ∀ t, t < H.ns → ∃ nm sb, nm < 4 ∧ sb ≤ t ∧ G.1 g (2680 + 4 * t) = nI nm ∧ G.1 g (2680 + 4 * t + 3) = nI sb - 1 ∧ ep_Th H.ne (C.2 (w + 7) (4 * (t + 1) + nm)) (G.1 g (2680 + 4 * t + 1)) (G.1 g (2680 + 4 * t + 2)) ∧ ∀ n, n < 4 → n ≠ nm → C.2 (w + 7) (4 * (t + 1) + n) = C.2 (w + 7) (4 * sb + n)) (wh0 : H.hw 0 = 0 ∧ C.1 (w + 19) 0 = 0) (wb : ∀ v, v < H.nw → H.bw (v + 1) ≤ v ∧ H.hw (v + 1) = H.hw (H.bw (v + 1)) + 1 ∧ H.hw (v + 1) ≤ v + 1 ∧ C.1 (w + 18) (v + 1) = nI (H.bw (v + 1)) ∧ C.1 (w + 19) (v + 1) = nI (H.hw (v + 1)) ∧ G.1 g (3960 + 4 * v + 2) = nI (H.bw (v + 1)) - 1) (we : ∀ v, v < H.nw → ∃ e sc, e < u ∧ C.1 2 e = nI 8 ∧ C.1 (w + 20) (v + 1) = nI e ∧ G.1 g (3960 + 4 * v) = nI (φ e).1 ∧ sc ≤ H.ns ∧ C.1 (w + 21) (v + 1) = nI sc ∧ G.1 g (3960 + 4 * v + 1) = nI sc - 1) (es : ∀ x, x < H.ne → H.kc x ≤ H.nf ∧ H.kw x ≤ H.nw ∧ (H.kc x ≠ 0 → H.W (H.kc x) = H.kw x) ∧ C.1 (w + 22) x = nI (H.kc x) ∧ C.1 (w + 23) x = nI (H.kw x) ∧ G.1 g (5240 + 2 * x) = nI (H.kc x) - 1 ∧ G.1 g (5240 + 2 * x + 1) = nI (H.kw x) - 1) : ep_Tb φ u H w g C G :=
  ⟨fh0, fb, fh, fw, fk, sc0, sc, wh0, wb, we, es⟩
theorem ep_Rn.tb {φ : Nat → Nat × Nat} {u : Nat} {H : ep_H} {s ch wi w g : Nat} {C G : em_M} (h : ep_Rn φ u H s ch wi w g C G) : ep_Tb φ u H w g C G :=
  ep_Tb.mk h.fh0 h.fb h.fh h.fw h.fk h.sc0 h.sc h.wh0 h.wb h.we h.es
/-- other memories, the same as far as the tables go -/
def ep_Ag (H : ep_H) (w g : Nat) (C G : em_M) (w' g' : Nat) (C' G' : em_M) : Prop :=
  (C'.1 2 = C.1 2) ∧
  (C'.1 4 = C.1 4) ∧
  (C'.1 (w' + 10) 0 = C.1 (w + 10) 0) ∧
  (∀ j, 9 ≤ j → j ≤ 15 → ∀ k, 0 < k → k ≤ H.nf → C'.1 (w' + j) k = C.1 (w + j) k) ∧
  (∀ k, 0 < k → k ≤ H.nf → C'.2 (w' + 16) k = C.2 (w + 16) k) ∧
  (∀ k, k < 4 * (H.ns + 1) → C'.2 (w' + 7) k = C.2 (w + 7) k) ∧
  (C'.1 (w' + 19) 0 = C.1 (w + 19) 0) ∧
  (∀ j, 18 ≤ j → j ≤ 21 → ∀ k, 0 < k → k ≤ H.nw → C'.1 (w' + j) k = C.1 (w + j) k) ∧
  (∀ j, 22 ≤ j → j ≤ 23 → ∀ k, k < H.ne → C'.1 (w' + j) k = C.1 (w + j) k) ∧
  (∀ k, 120 ≤ k → k < 120 + 8 * H.nf → G'.1 g' k = G.1 g k) ∧
  (∀ k, 2680 ≤ k → k < 2680 + 4 * H.ns → G'.1 g' k = G.1 g k) ∧
  (∀ k, 3960 ≤ k → k < 3960 + 4 * H.nw → G'.1 g' k = G.1 g k) ∧
  (∀ k, 5240 ≤ k → k < 5240 + 2 * H.ne → G'.1 g' k = G.1 g k)
theorem ep_Ag.k2 {H : ep_H} {w g : Nat} {C G : em_M} {w' g' : Nat} {C' G' : em_M} (h : ep_Ag H w g C G w' g' C' G') : C'.1 2 = C.1 2 := h.1
theorem ep_Ag.p4 {H : ep_H} {w g : Nat} {C G : em_M} {w' g' : Nat} {C' G' : em_M} (h : ep_Ag H w g C G w' g' C' G') : C'.1 4 = C.1 4 := h.2.1
theorem ep_Ag.h0 {H : ep_H} {w g : Nat} {C G : em_M} {w' g' : Nat} {C' G' : em_M} (h : ep_Ag H w g C G w' g' C' G') : C'.1 (w' + 10) 0 = C.1 (w + 10) 0 := h.2.2.1
theorem ep_Ag.fr {H : ep_H} {w g : Nat} {C G : em_M} {w' g' : Nat} {C' G' : em_M} (h : ep_Ag H w g C G w' g' C' G') : ∀ j, 9 ≤ j → j ≤ 15 → ∀ k, 0 < k → k ≤ H.nf → C'.1 (w' + j) k = C.1 (w + j) k := h.2.2.2.1
theorem ep_Ag.fl {H : ep_H} {w g : Nat} {C G : em_M} {w' g' : Nat} {C' G' : em_M} (h : ep_Ag H w g C G w' g' C' G') : ∀ k, 0 < k → k ≤ H.nf → C'.2 (w' + 16) k = C.2 (w + 16) k := h.2.2.2.2.1
theorem ep_Ag.sc {H : ep_H} {w g : Nat} {C G : em_M} {w' g' : Nat} {C' G' : em_M} (h : ep_Ag H w g C G w' g' C' G') : ∀ k, k < 4 * (H.ns + 1) → C'.2 (w' + 7) k = C.2 (w + 7) k := h.2.2.2.2.2.1
theorem ep_Ag.h1 {H : ep_H} {w g : Nat} {C G : em_M} {w' g' : Nat} {C' G' : em_M} (h : ep_Ag H w g C G w' g' C' G') : C'.1 (w' + 19) 0 = C.1 (w + 19) 0 := h.2.2.2.2.2.2.1
theorem ep_Ag.wr {H : ep_H} {w g : Nat} {C G : em_M} {w' g' : Nat} {C' G' : em_M} (h : ep_Ag H w g C G w' g' C' G') : ∀ j, 18 ≤ j → j ≤ 21 → ∀ k, 0 < k → k ≤ H.nw → C'.1 (w' + j) k = C.1 (w + j) k := h.2.2.2.2.2.2.2.1
theorem ep_Ag.er {H : ep_H} {w g : Nat} {C G : em_M} {w' g' : Nat} {C' G' : em_M} (h : ep_Ag H w g C G w' g' C' G') : ∀ j, 22 ≤ j → j ≤ 23 → ∀ k, k < H.ne → C'.1 (w' + j) k = C.1 (w + j) k := h.2.2.2.2.2.2.2.2.1
theorem ep_Ag.gf {H : ep_H} {w g : Nat} {C G : em_M} {w' g' : Nat} {C' G' : em_M} (h : ep_Ag H w g C G w' g' C' G') : ∀ k, 120 ≤ k → k < 120 + 8 * H.nf → G'.1 g' k = G.1 g k := h.2.2.2.2.2.2.2.2.2.1
theorem ep_Ag.gs {H : ep_H} {w g : Nat} {C G : em_M} {w' g' : Nat} {C' G' : em_M} (h : ep_Ag H w g C G w' g' C' G') : ∀ k, 2680 ≤ k → k < 2680 + 4 * H.ns → G'.1 g' k = G.1 g k := h.2.2.2.2.2.2.2.2.2.2.1
theorem ep_Ag.gw {H : ep_H} {w g : Nat} {C G : em_M} {w' g' : Nat} {C' G' : em_M} (h : ep_Ag H w g C G w' g' C' G') : ∀ k, 3960 ≤ k → k < 3960 + 4 * H.nw → G'.1 g' k = G.1 g k := h.2.2.2.2.2.2.2.2.2.2.2.1
theorem ep_Ag.ge {H : ep_H} {w g : Nat} {C G : em_M} {w' g' : Nat} {C' G' : em_M} (h : ep_Ag H w g C G w' g' C' G') : ∀ k, 5240 ≤ k → k < 5240 + 2 * H.ne → G'.1 g' k = G.1 g k := h.2.2.2.2.2.2.2.2.2.2.2.2
theorem ep_Ag.mk {H : ep_H} {w g : Nat} {C G : em_M} {w' g' : Nat} {C' G' : em_M} (k2 : C'.1 2 = C.1 2) (p4 : C'.1 4 = C.1 4) (h0 : C'.1 (w' + 10) 0 = C.1 (w + 10) 0) (fr : ∀ j, 9 ≤ j → j ≤ 15 → ∀ k, 0 < k → k ≤ H.nf → C'.1 (w' + j) k = C.1 (w + j) k) (fl : ∀ k, 0 < k → k ≤ H.nf → C'.2 (w' + 16) k = C.2 (w + 16) k) (sc : ∀ k, k < 4 * (H.ns + 1) → C'.2 (w' + 7) k = C.2 (w + 7) k) (h1 : C'.1 (w' + 19) 0 = C.1 (w + 19) 0) (wr : ∀ j, 18 ≤ j → j ≤ 21 → ∀ k, 0 < k → k ≤ H.nw → C'.1 (w' + j) k = C.1 (w + j) k) (er : ∀ j, 22 ≤ j → j ≤ 23 → ∀ k, k < H.ne → C'.1 (w' + j) k = C.1 (w + j) k) (gf : ∀ k, 120 ≤ k → k < 120 + 8 * H.nf → G'.1 g' k = G.1 g k) (gs : ∀ k, 2680 ≤ k → k < 2680 + 4 * H.ns → G'.1 g' k = G.1 g k) (gw : ∀ k, 3960 ≤ k → k < 3960 + 4 * H.nw → G'.1 g' k = G.1 g k) (ge : ∀ k, 5240 ≤ k → k < 5240 + 2 * H.ne → G'.1 g' k = G.1 g k) : ep_Ag H w g C G w' g' C' G' :=
  ⟨k2, p4, h0, fr, fl, sc, h1, wr, er, gf, gs, gw, ge⟩
theorem ep_Tb_ag {φ : Nat → Nat × Nat} {u : Nat} {H : ep_H} {w g w' g' : Nat} {C C' G G' : em_M} (h : ep_Tb φ u H w g C G) (a : ep_Ag H w g C G w' g' C' G') : ep_Tb φ u H w' g' C' G' := by
  have r9 := a.fr 9 (by omega) (by omega)
  have r10 := a.fr 10 (by omega) (by omega)
  have r11 := a.fr 11 (by omega) (by omega)
  have r12 := a.fr 12 (by omega) (by omega)
  have r13 := a.fr 13 (by omega) (by omega)
  have r14 := a.fr 14 (by omega) (by omega)
  have r15 := a.fr 15 (by omega) (by omega)
  have r18 := a.wr 18 (by omega) (by omega)
  have r19 := a.wr 19 (by omega) (by omega)
  have r20 := a.wr 20 (by omega) (by omega)
  have r21 := a.wr 21 (by omega) (by omega)
  have r22 := a.er 22 (by omega) (by omega)
  have r23 := a.er 23 (by omega) (by omega)
  have fl := a.fl
  have gf := a.gf
  have gs := a.gs
  have gw := a.gw
  have ge := a.ge
  have k2 := a.k2
  have p4 := a.p4
  refine ep_Tb.mk ?_ ?_ ?_ ?_ ?_ ?_ ?_ ?_ ?_ ?_ ?_
  · rw [a.h0]; exact h.fh0
  · intro f hf
    have q := h.fb f hf
    rw [r9 _ (by omega) (by omega), gf _ (by omega) (by omega)]
    exact q
  · intro f hf
    have q := h.fh f hf
    rw [r10 _ (by omega) (by omega), gf _ (by omega) (by omega)]
    exact q
  · exact h.fw
  · intro f hf
    rcases h.fk f hf with ⟨so, be, wh, e, sc, q⟩ | ⟨e, sc, q1, q⟩ | ⟨so, wh, x, q⟩
    · refine Or.inl ⟨so, be, wh, e, sc, ?_⟩
      unfold ep_F1 at q ⊢
      simp (disch := omega) only [r11, r12, r13, r14, r15, fl, gf, k2]
      exact q
    · refine Or.inr (Or.inl ⟨e, sc, q1, ?_⟩)
      unfold ep_F2 at q ⊢
      simp (disch := omega) only [r11, r12, r13, r14, r15, fl, gf, k2, p4]
      exact q
    · refine Or.inr (Or.inr ⟨so, wh, x, ?_⟩)
      unfold ep_F3 at q ⊢
      simp (disch := omega) only [r11, r12, r13, r14, r15, fl, gf]
      exact q
  · intro n hn
    rw [a.sc _ (by omega)]
    exact h.sc0 n hn
  · intro t ht
    obtain ⟨nm, sb, q1, q2, q3, q4, q5, q6⟩ := h.sc t ht
    refine ⟨nm, sb, q1, q2, ?_, ?_, ?_, fun n hn hnm => ?_⟩
    · rw [gs _ (by omega) (by omega)]; exact q3
    · rw [gs _ (by omega) (by omega)]; exact q4
    · rw [gs _ (by omega) (by omega), gs _ (by omega) (by omega), a.sc _ (by omega)]; exact q5
    · rw [a.sc _ (by omega), a.sc _ (by omega)]; exact q6 n hn hnm
  · rw [a.h1]; exact h.wh0
  · intro v hv
    have q := h.wb v hv
    rw [r18 _ (by omega) (by omega), r19 _ (by omega) (by omega), gw _ (by omega) (by omega)]
    exact q
  · intro v hv
    have q := h.we v hv
    rw [r20 _ (by omega) (by omega), r21 _ (by omega) (by omega), gw _ (by omega) (by omega), gw _ (by omega) (by omega), k2]
    exact q
  · intro x hx
    have q := h.es x hx
    rw [r22 _ (by omega), r23 _ (by omega), ge _ (by omega) (by omega), ge _ (by omega) (by omega)]
    exact q
/-- more was made -/
def ep_Ex (H H' : ep_H) : Prop :=
  (H.nf ≤ H'.nf) ∧
  (H.ns ≤ H'.ns) ∧
  (H.nw ≤ H'.nw) ∧
  (H.ne ≤ H'.ne) ∧
  (∀ k, k ≤ H.nf → H'.fb k = H.fb k) ∧
  (∀ k, k ≤ H.nf → H'.W k = H.W k) ∧
  (∀ k, k ≤ H.nw → H'.bw k = H.bw k) ∧
  (∀ k, k ≤ H.nw → H'.hw k = H.hw k) ∧
  (∀ x, x < H.ne → H'.kc x = H.kc x) ∧
  (∀ x, x < H.ne → H'.kw x = H.kw x)
theorem ep_Ex.nf {H H' : ep_H} (h : ep_Ex H H') : H.nf ≤ H'.nf := h.1
theorem ep_Ex.ns {H H' : ep_H} (h : ep_Ex H H') : H.ns ≤ H'.ns := h.2.1
theorem ep_Ex.nw {H H' : ep_H} (h : ep_Ex H H') : H.nw ≤ H'.nw := h.2.2.1
theorem ep_Ex.ne {H H' : ep_H} (h : ep_Ex H H') : H.ne ≤ H'.ne := h.2.2.2.1
theorem ep_Ex.fb {H H' : ep_H} (h : ep_Ex H H') : ∀ k, k ≤ H.nf → H'.fb k = H.fb k := h.2.2.2.2.1
theorem ep_Ex.W {H H' : ep_H} (h : ep_Ex H H') : ∀ k, k ≤ H.nf → H'.W k = H.W k := h.2.2.2.2.2.1
theorem ep_Ex.bw {H H' : ep_H} (h : ep_Ex H H') : ∀ k, k ≤ H.nw → H'.bw k = H.bw k := h.2.2.2.2.2.2.1
theorem ep_Ex.hw {H H' : ep_H} (h : ep_Ex H H') : ∀ k, k ≤ H.nw → H'.hw k = H.hw k := h.2.2.2.2.2.2.2.1
theorem ep_Ex.kc {H H' : ep_H} (h : ep_Ex H H') : ∀ x, x < H.ne → H'.kc x = H.kc x := h.2.2.2.2.2.2.2.2.1
theorem ep_Ex.kw {H H' : ep_H} (h : ep_Ex H H') : ∀ x, x < H.ne → H'.kw x = H.kw x := h.2.2.2.2.2.2.2.2.2
theorem ep_Ex.mk {H H' : ep_H} (nf : H.nf ≤ H'.nf) (ns : H.ns ≤ H'.ns) (nw : H.nw ≤ H'.nw) (ne : H.ne ≤ H'.ne) (fb : ∀ k, k ≤ H.nf → H'.fb k = H.fb k) (W : ∀ k, k ≤ H.nf → H'.W k = H.W k) (bw : ∀ k, k ≤ H.nw → H'.bw k = H.bw k) (hw : ∀ k, k ≤ H.nw → H'.hw k = H.hw k) (kc : ∀ x, x < H.ne → H'.kc x = H.kc x) (kw : ∀ x, x < H.ne → H'.kw x = H.kw x) : ep_Ex H H' :=
  ⟨nf, ns, nw, ne, fb, W, bw, hw, kc, kw⟩
theorem ep_nx_cg {bw bw' : Nat → Nat} {row n : Nat} (e : ∀ k, k ≤ n → bw' k = bw k) (d : ∀ v, v < n → bw (v + 1) ≤ v) : ∀ fu k, k ≤ n → ep_nx bw' row fu k = ep_nx bw row fu k := by
  intro fu
  induction fu with
  | zero => intro k hk; rfl
  | succ fu ih =>
    intro k hk
    rw [ep_nx, ep_nx, e k hk]
    cases k with
    | zero => rfl
    | succ k => rw [ih _ (by have := d k (by omega); omega)]
theorem ep_Th_mo {ne ne' : Nat} {t : Int64} {i v : Int32} (h : ep_Th ne t i v) (hn : ne ≤ ne') : ep_Th ne' t i v := by
  rcases h with h | ⟨h1, x, h2, h3⟩
  · exact Or.inl h
  · exact Or.inr ⟨h1, x, by omega, h3⟩
theorem ep_Fk_ex {φ : Nat → Nat × Nat} {u : Nat} {H H' : ep_H} {w g : Nat} {C G : em_M} {f : Nat} (h : ep_Tb φ u H w g C G) (ex : ep_Ex H H') (hf : f < H.nf) : ep_Fk φ u H' w g C G f := by
  have b1 := (h.fb f hf).1
  have b2 := h.fw f hf
  have e1 : H'.fb (f + 1) = H.fb (f + 1) := ex.fb _ (by omega)
  have e2 : H'.W (f + 1) = H.W (f + 1) := ex.W _ (by omega)
  have e3 : H'.W (H.fb (f + 1)) = H.W (H.fb (f + 1)) := ex.W _ (by omega)
  have e4 : H'.bw (H.W (f + 1)) = H.bw (H.W (f + 1)) := ex.bw _ (by omega)
  have n1 := ex.nf
  have n2 := ex.ns
  have n3 := ex.nw
  have n4 := ex.ne
  rcases h.fk f hf with ⟨so, be, wh, e, sc, q⟩ | ⟨e, sc, q1, q⟩ | ⟨so, wh, x, q⟩
  · refine Or.inl ⟨so, be, wh, e, sc, ?_⟩
    refine ep_F1.mk q.hS q.hs q.hb q.hw q.he q.hk q.he1 q.he2 (Nat.le_trans q.hc n2) q.hc1 q.hc2 ?_ ?_ ?_ ?_
    · rw [e1, e2, e3]; exact q.hW
    · rw [e1, e2, e3, e4]; exact q.hW1
    · intro h5
      obtain ⟨x, q1, q2⟩ := q.hx h5
      exact ⟨x, by omega, q2⟩
    · intro h5
      exact ep_Th_mo (q.ht h5) n4
  · refine Or.inr (Or.inl ⟨e, sc, q1, ?_⟩)
    refine ep_F2.mk q.hs q.hw q.he q.hq q.hk q.hq1 q.he1 q.he2 (Nat.le_trans q.hc n2) q.hc1 q.hc2 ?_ q.hx
    rw [e1, e2, e3]; exact q.hW
  · refine Or.inr (Or.inr ⟨so, wh, x, ?_⟩)
    refine ep_F3.mk q.hs q.hw q.hsw (by rw [e1]; exact q.hb) (Nat.lt_of_lt_of_le q.hx n4) q.hx1 q.hx2 (ep_Th_mo q.ht n4) ?_
    intro h5
    obtain ⟨v, v1, v2, v3⟩ := q.hv h5
    refine ⟨v, by omega, v2, ?_⟩
    have kx := (h.es x q.hx).2.1
    rw [ex.kw x q.hx, e2, ep_nx_cg (bw := H.bw) (n := H.nw) (fun k hk => ex.bw k hk) (fun v hv => (h.wb v hv).1) _ _ kx]
    exact v3
theorem ep_Tb_ex {φ : Nat → Nat × Nat} {u : Nat} {H H' : ep_H} {w g : Nat} {C G : em_M} (h : ep_Tb φ u H w g C G) (ex : ep_Ex H H')
    (n1 : ∀ f, H.nf ≤ f → f < H'.nf → (H'.fb (f + 1) ≤ f ∧ C.1 (w + 9) (f + 1) = nI (H'.fb (f + 1)) ∧ G.1 g (120 + 8 * f + 5) = nI (H'.fb (f + 1)) - 1) ∧ (∃ h, h ≤ 40 ∧ C.1 (w + 10) (f + 1) = nI h ∧ G.1 g (120 + 8 * f + 6) = nI h) ∧ H'.W (f + 1) ≤ H'.nw ∧ ep_Fk φ u H' w g C G f)
    (n2 : ∀ t, H.ns ≤ t → t < H'.ns → ∃ nm sb, nm < 4 ∧ sb ≤ t ∧ G.1 g (2680 + 4 * t) = nI nm ∧ G.1 g (2680 + 4 * t + 3) = nI sb - 1 ∧ ep_Th H'.ne (C.2 (w + 7) (4 * (t + 1) + nm)) (G.1 g (2680 + 4 * t + 1)) (G.1 g (2680 + 4 * t + 2)) ∧ ∀ n, n < 4 → n ≠ nm → C.2 (w + 7) (4 * (t + 1) + n) = C.2 (w + 7) (4 * sb + n))
    (n3 : ∀ v, H.nw ≤ v → v < H'.nw → (H'.bw (v + 1) ≤ v ∧ H'.hw (v + 1) = H'.hw (H'.bw (v + 1)) + 1 ∧ H'.hw (v + 1) ≤ v + 1 ∧ C.1 (w + 18) (v + 1) = nI (H'.bw (v + 1)) ∧ C.1 (w + 19) (v + 1) = nI (H'.hw (v + 1)) ∧ G.1 g (3960 + 4 * v + 2) = nI (H'.bw (v + 1)) - 1) ∧ (∃ e sc, e < u ∧ C.1 2 e = nI 8 ∧ C.1 (w + 20) (v + 1) = nI e ∧ G.1 g (3960 + 4 * v) = nI (φ e).1 ∧ sc ≤ H'.ns ∧ C.1 (w + 21) (v + 1) = nI sc ∧ G.1 g (3960 + 4 * v + 1) = nI sc - 1))
    (n4 : ∀ x, H.ne ≤ x → x < H'.ne → H'.kc x ≤ H'.nf ∧ H'.kw x ≤ H'.nw ∧ (H'.kc x ≠ 0 → H'.W (H'.kc x) = H'.kw x) ∧ C.1 (w + 22) x = nI (H'.kc x) ∧ C.1 (w + 23) x = nI (H'.kw x) ∧ G.1 g (5240 + 2 * x) = nI (H'.kc x) - 1 ∧ G.1 g (5240 + 2 * x + 1) = nI (H'.kw x) - 1) : ep_Tb φ u H' w g C G := by
  have m1 := ex.nf
  have m2 := ex.ns
  have m3 := ex.nw
  have m4 := ex.ne
  refine ep_Tb.mk h.fh0 ?_ ?_ ?_ ?_ h.sc0 ?_ ?_ ?_ ?_ ?_
  · intro f hf
    by_cases p : f < H.nf
    · rw [ex.fb _ (by omega)]; exact h.fb f p
    · exact (n1 f (by omega) hf).1
  · intro f hf
    by_cases p : f < H.nf
    · exact h.fh f p
    · exact (n1 f (by omega) hf).2.1
  · intro f hf
    by_cases p : f < H.nf
    · rw [ex.W _ (by omega)]; exact Nat.le_trans (h.fw f p) m3
    · exact (n1 f (by omega) hf).2.2.1
  · intro f hf
    by_cases p : f < H.nf
    · exact ep_Fk_ex h ex p
    · exact (n1 f (by omega) hf).2.2.2
  · intro t ht
    by_cases p : t < H.ns
    · obtain ⟨nm, sb, q1, q2, q3, q4, q5, q6⟩ := h.sc t p
      exact ⟨nm, sb, q1, q2, q3, q4, ep_Th_mo q5 m4, q6⟩
    · exact n2 t (by omega) ht
  · rw [ex.hw 0 (by omega)]; exact h.wh0
  · intro v hv
    by_cases p : v < H.nw
    · have q := h.wb v p
      rw [ex.bw _ (by omega), ex.hw _ (by omega), ex.hw _ (by omega)]; exact q
    · exact (n3 v (by omega) hv).1
  · intro v hv
    by_cases p : v < H.nw
    · obtain ⟨e, sc, q1, q2, q3, q4, q5, q6⟩ := h.we v p
      exact ⟨e, sc, q1, q2, q3, q4, Nat.le_trans q5 m2, q6⟩
    · exact (n3 v (by omega) hv).2
  · intro x hx
    by_cases p : x < H.ne
    · obtain ⟨q1, q2, q3, q4⟩ := h.es x p
      rw [ex.kc x p, ex.kw x p]
      exact ⟨by omega, by omega, fun q => by rw [ex.W _ (by omega)]; exact q3 q, q4⟩
    · exact n4 x (by omega) hx
def ep_aF (H : ep_H) (ch W : Nat) : ep_H := ((H.nf + 1, H.ns, H.nw, H.ne), (fun k => if k = H.nf + 1 then ch else H.fb k, fun k => if k = H.nf + 1 then W else H.W k), (H.bw, H.hw), (H.kc, H.kw))
def ep_aS (H : ep_H) : ep_H := ((H.nf, H.ns + 1, H.nw, H.ne), (H.fb, H.W), (H.bw, H.hw), (H.kc, H.kw))
def ep_aW (H : ep_H) (b : Nat) : ep_H := ((H.nf, H.ns, H.nw + 1, H.ne), (H.fb, H.W), (fun k => if k = H.nw + 1 then b else H.bw k, fun k => if k = H.nw + 1 then H.hw b + 1 else H.hw k), (H.kc, H.kw))
def ep_aE (H : ep_H) (c v : Nat) : ep_H := ((H.nf, H.ns, H.nw, H.ne + 1), (H.fb, H.W), (H.bw, H.hw), (fun k => if k = H.ne then c else H.kc k, fun k => if k = H.ne then v else H.kw k))
theorem ep_aF_ex (H : ep_H) (ch W : Nat) : ep_Ex H (ep_aF H ch W) :=
  ep_Ex.mk (Nat.le_succ _) (Nat.le_refl _) (Nat.le_refl _) (Nat.le_refl _) (fun k hk => if_neg (by omega)) (fun k hk => if_neg (by omega)) (fun _ _ => rfl) (fun _ _ => rfl) (fun _ _ => rfl) (fun _ _ => rfl)
theorem ep_aS_ex (H : ep_H) : ep_Ex H (ep_aS H) :=
  ep_Ex.mk (Nat.le_refl _) (Nat.le_succ _) (Nat.le_refl _) (Nat.le_refl _) (fun _ _ => rfl) (fun _ _ => rfl) (fun _ _ => rfl) (fun _ _ => rfl) (fun _ _ => rfl) (fun _ _ => rfl)
theorem ep_aW_ex (H : ep_H) (b : Nat) : ep_Ex H (ep_aW H b) :=
  ep_Ex.mk (Nat.le_refl _) (Nat.le_refl _) (Nat.le_succ _) (Nat.le_refl _) (fun _ _ => rfl) (fun _ _ => rfl) (fun k hk => if_neg (by omega)) (fun k hk => if_neg (by omega)) (fun _ _ => rfl) (fun _ _ => rfl)
theorem ep_aE_ex (H : ep_H) (c v : Nat) : ep_Ex H (ep_aE H c v) :=
  ep_Ex.mk (Nat.le_refl _) (Nat.le_refl _) (Nat.le_refl _) (Nat.le_succ _) (fun _ _ => rfl) (fun _ _ => rfl) (fun _ _ => rfl) (fun _ _ => rfl) (fun k hk => if_neg (by omega)) (fun k hk => if_neg (by omega))
