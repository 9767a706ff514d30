theorem ef_crS {a b n : Nat} (M : em_M) {k : Nat} (hk : k < n) (hn : n < 2 ^ 31) : (et_X11_copyRow a n b n M).1 b k = M.1 a k := by
  have e : (if Int32.ofNat n < Int32.ofNat n then Int32.ofNat n else Int32.ofNat n).toNatClampNeg = n := by
    rw [ite_self]; exact nI_clamp hn
  show (em_cI M a b ((0 : Int32)).toNatClampNeg ((0 : Int32)).toNatClampNeg (if Int32.ofNat n < Int32.ofNat n then Int32.ofNat n else Int32.ofNat n).toNatClampNeg).1 b k = M.1 a k
  rw [e]
  simp [em_cI, va_cpy, hk]
theorem ef_crL {a b n : Nat} (M : em_M) {k : Nat} (hk : k < n) (hn : n < 2 ^ 31) : (et_X11_copyRow_ a n b n M).2 b k = M.2 a k := by
  have e : (if Int32.ofNat n < Int32.ofNat n then Int32.ofNat n else Int32.ofNat n).toNatClampNeg = n := by
    rw [ite_self]; exact nI_clamp hn
  show (em_cL M a b ((0 : Int32)).toNatClampNeg ((0 : Int32)).toNatClampNeg (if Int32.ofNat n < Int32.ofNat n then Int32.ofNat n else Int32.ofNat n).toNatClampNeg).2 b k = M.2 a k
  rw [e]
  simp [em_cL, va_cpy, hk]
/-- world w' is what world w is -/
def ep_Cp (w : Nat) (C : em_M) (w' : Nat) (C' : em_M) : Prop :=
  (∀ k, k < 4 → C'.1 (w' + 1) k = C.1 (w + 1) k) ∧
  (∀ k, k < 3 → C'.1 (w' + 2) k = C.1 (w + 2) k) ∧
  (∀ k, 8 ≤ k → k ≤ 14 → k ≠ 12 → C'.1 (w' + 3) k = C.1 (w + 3) k) ∧
  (C'.2 (w' + 3) 12 = C.2 (w + 3) 12) ∧
  (∀ k, k < 4 → C'.1 (w' + 4) k = C.1 (w + 4) k) ∧
  (C'.2 (w' + 4) 5 = C.2 (w + 4) 5) ∧
  (∀ k, k < 40 → C'.1 (w' + 5) k = C.1 (w + 5) k) ∧
  (C'.1 (w' + 6) 0 = C.1 (w + 6) 0) ∧
  (∀ k, k < 1204 → C'.2 (w' + 7) k = C.2 (w + 7) k) ∧
  (C'.1 (w' + 8) 0 = C.1 (w + 8) 0) ∧
  (∀ j, 9 ≤ j → j ≤ 15 → ∀ k, k < 301 → C'.1 (w' + j) k = C.1 (w + j) k) ∧
  (∀ k, k < 301 → C'.2 (w' + 16) k = C.2 (w + 16) k) ∧
  (C'.1 (w' + 17) 0 = C.1 (w + 17) 0) ∧
  (∀ j, 18 ≤ j → j ≤ 23 → ∀ k, k < 301 → C'.1 (w' + j) k = C.1 (w + j) k)
theorem ep_Cp.c1 {w : Nat} {C : em_M} {w' : Nat} {C' : em_M} (h : ep_Cp w C w' C') : ∀ k, k < 4 → C'.1 (w' + 1) k = C.1 (w + 1) k := h.1
theorem ep_Cp.c2 {w : Nat} {C : em_M} {w' : Nat} {C' : em_M} (h : ep_Cp w C w' C') : ∀ k, k < 3 → C'.1 (w' + 2) k = C.1 (w + 2) k := h.2.1
theorem ep_Cp.c3 {w : Nat} {C : em_M} {w' : Nat} {C' : em_M} (h : ep_Cp w C w' C') : ∀ k, 8 ≤ k → k ≤ 14 → k ≠ 12 → C'.1 (w' + 3) k = C.1 (w + 3) k := h.2.2.1
theorem ep_Cp.c3l {w : Nat} {C : em_M} {w' : Nat} {C' : em_M} (h : ep_Cp w C w' C') : C'.2 (w' + 3) 12 = C.2 (w + 3) 12 := h.2.2.2.1
theorem ep_Cp.c4 {w : Nat} {C : em_M} {w' : Nat} {C' : em_M} (h : ep_Cp w C w' C') : ∀ k, k < 4 → C'.1 (w' + 4) k = C.1 (w + 4) k := h.2.2.2.2.1
theorem ep_Cp.c4l {w : Nat} {C : em_M} {w' : Nat} {C' : em_M} (h : ep_Cp w C w' C') : C'.2 (w' + 4) 5 = C.2 (w + 4) 5 := h.2.2.2.2.2.1
theorem ep_Cp.c5 {w : Nat} {C : em_M} {w' : Nat} {C' : em_M} (h : ep_Cp w C w' C') : ∀ k, k < 40 → C'.1 (w' + 5) k = C.1 (w + 5) k := h.2.2.2.2.2.2.1
theorem ep_Cp.c6 {w : Nat} {C : em_M} {w' : Nat} {C' : em_M} (h : ep_Cp w C w' C') : C'.1 (w' + 6) 0 = C.1 (w + 6) 0 := h.2.2.2.2.2.2.2.1
theorem ep_Cp.c7 {w : Nat} {C : em_M} {w' : Nat} {C' : em_M} (h : ep_Cp w C w' C') : ∀ k, k < 1204 → C'.2 (w' + 7) k = C.2 (w + 7) k := h.2.2.2.2.2.2.2.2.1
theorem ep_Cp.c8 {w : Nat} {C : em_M} {w' : Nat} {C' : em_M} (h : ep_Cp w C w' C') : C'.1 (w' + 8) 0 = C.1 (w + 8) 0 := h.2.2.2.2.2.2.2.2.2.1
theorem ep_Cp.c9 {w : Nat} {C : em_M} {w' : Nat} {C' : em_M} (h : ep_Cp w C w' C') : ∀ j, 9 ≤ j → j ≤ 15 → ∀ k, k < 301 → C'.1 (w' + j) k = C.1 (w + j) k := h.2.2.2.2.2.2.2.2.2.2.1
theorem ep_Cp.c16 {w : Nat} {C : em_M} {w' : Nat} {C' : em_M} (h : ep_Cp w C w' C') : ∀ k, k < 301 → C'.2 (w' + 16) k = C.2 (w + 16) k := h.2.2.2.2.2.2.2.2.2.2.2.1
theorem ep_Cp.c17 {w : Nat} {C : em_M} {w' : Nat} {C' : em_M} (h : ep_Cp w C w' C') : C'.1 (w' + 17) 0 = C.1 (w + 17) 0 := h.2.2.2.2.2.2.2.2.2.2.2.2.1
theorem ep_Cp.c18 {w : Nat} {C : em_M} {w' : Nat} {C' : em_M} (h : ep_Cp w C w' C') : ∀ j, 18 ≤ j → j ≤ 23 → ∀ k, k < 301 → C'.1 (w' + j) k = C.1 (w + j) k := h.2.2.2.2.2.2.2.2.2.2.2.2.2
theorem ep_Cp.mk {w : Nat} {C : em_M} {w' : Nat} {C' : em_M} (c1 : ∀ k, k < 4 → C'.1 (w' + 1) k = C.1 (w + 1) k) (c2 : ∀ k, k < 3 → C'.1 (w' + 2) k = C.1 (w + 2) k) (c3 : ∀ k, 8 ≤ k → k ≤ 14 → k ≠ 12 → C'.1 (w' + 3) k = C.1 (w + 3) k) (c3l : C'.2 (w' + 3) 12 = C.2 (w + 3) 12) (c4 : ∀ k, k < 4 → C'.1 (w' + 4) k = C.1 (w + 4) k) (c4l : C'.2 (w' + 4) 5 = C.2 (w + 4) 5) (c5 : ∀ k, k < 40 → C'.1 (w' + 5) k = C.1 (w + 5) k) (c6 : C'.1 (w' + 6) 0 = C.1 (w + 6) 0) (c7 : ∀ k, k < 1204 → C'.2 (w' + 7) k = C.2 (w + 7) k) (c8 : C'.1 (w' + 8) 0 = C.1 (w + 8) 0) (c9 : ∀ j, 9 ≤ j → j ≤ 15 → ∀ k, k < 301 → C'.1 (w' + j) k = C.1 (w + j) k) (c16 : ∀ k, k < 301 → C'.2 (w' + 16) k = C.2 (w + 16) k) (c17 : C'.1 (w' + 17) 0 = C.1 (w + 17) 0) (c18 : ∀ j, 18 ≤ j → j ≤ 23 → ∀ k, k < 301 → C'.1 (w' + j) k = C.1 (w + j) k) : ep_Cp w C w' C' :=
  ⟨c1, c2, c3, c3l, c4, c4l, c5, c6, c7, c8, c9, c16, c17, c18⟩
theorem ep_Cp_eq {w : Nat} {C C' : em_M} (h1 : ∀ o, w ≤ o → o ≤ w + 23 → C'.1 o = C.1 o) (h2 : ∀ o, w ≤ o → o ≤ w + 23 → C'.2 o = C.2 o) : ep_Cp w C w C' :=
  ep_Cp.mk (fun k _ => by rw [h1 _ (by omega) (by omega)]) (fun k _ => by rw [h1 _ (by omega) (by omega)]) (fun k _ _ _ => by rw [h1 _ (by omega) (by omega)]) (by rw [h2 _ (by omega) (by omega)]) (fun k _ => by rw [h1 _ (by omega) (by omega)]) (by rw [h2 _ (by omega) (by omega)]) (fun k _ => by rw [h1 _ (by omega) (by omega)]) (by rw [h1 _ (by omega) (by omega)]) (fun k _ => by rw [h2 _ (by omega) (by omega)]) (by rw [h1 _ (by omega) (by omega)]) (fun j _ _ k _ => by rw [h1 _ (by omega) (by omega)]) (fun k _ => by rw [h2 _ (by omega) (by omega)]) (by rw [h1 _ (by omega) (by omega)]) (fun j _ _ k _ => by rw [h1 _ (by omega) (by omega)])
theorem ep_Wd_to {φ : Nat → Nat × Nat} {u nl w g w' g' : Nat} {C C' G G' : em_M} (h : ep_Wd φ u nl w g C G) (k2 : C'.1 2 = C.1 2) (p4 : C'.1 4 = C.1 4) (c : ep_Cp w C w' C') (b : ∀ k, k < 25 ∨ 73 < k → k < 5880 → G'.1 g' k = G.1 g k) : ep_Wd φ u nl w' g' C' G' := by
  obtain ⟨z, z1, z2, z3, z4⟩ := h.sz
  refine ep_Wd.mk ?_ ?_ ?_ ?_ ?_ ?_ ?_ ?_ ?_
  · intro k hk; rw [c.c1 k hk, b _ (by omega) (by omega)]; exact h.va k hk
  · intro k hk; rw [c.c2 k hk, b _ (by omega) (by omega)]; exact h.fu k hk
  · rw [c.c4 _ (by omega), b _ (by omega) (by omega)]; exact h.st
  · rw [c.c4 _ (by omega), b _ (by omega) (by omega)]; exact h.sp
  · rw [c.c4 _ (by omega), b _ (by omega) (by omega)]; exact h.dp
  · rw [c.c4 _ (by omega), b _ (by omega) (by omega)]
    refine ⟨z, z1, z2, z3, fun k hk => ?_⟩
    rw [c.c5 _ (by omega), b _ (by omega) (by omega)]; exact z4 k hk
  · rw [c.c4l, b _ (by omega) (by omega), b _ (by omega) (by omega), b _ (by omega) (by omega)]; exact h.re
  · rw [c.c3 _ (by omega) (by omega) (by omega), c.c9 10 (by omega) (by omega) _ (by omega), c.c18 19 (by omega) (by omega) _ (by omega)]; exact h.gb
  · rw [b _ (by omega) (by omega), c.c4 _ (by omega)]
    intro q
    obtain ⟨H, s, ch, wi, e, r⟩ := h.ru q
    refine ⟨H, s, ch, wi, e, ?_⟩
    have s3 := r.s3
    have nf := r.nf
    have ns := r.ns
    have nw := r.nw
    have ne := r.ne
    have t : ep_Tb φ u H w' g' C' G' := ep_Tb_ag r.tb (ep_Ag.mk k2 p4 (c.c9 10 (by omega) (by omega) _ (by omega)) (fun j j1 j2 k _ _ => c.c9 j j1 j2 k (by omega)) (fun k _ _ => c.c16 k (by omega)) (fun k _ => c.c7 k (by omega)) (c.c18 19 (by omega) (by omega) _ (by omega)) (fun j j1 j2 k _ _ => c.c18 j j1 (by omega) k (by omega)) (fun j j1 j2 k _ => c.c18 j (by omega) j2 k (by omega)) (fun k _ _ => b k (by omega) (by omega)) (fun k _ _ => b k (by omega) (by omega)) (fun k _ _ => b k (by omega) (by omega)) (fun k _ _ => b k (by omega) (by omega)))
    refine ep_Rn.mk r.s3 r.nf r.ns r.nw r.ne ?_ ?_ ?_ ?_ ?_ ?_ ?_ ?_ r.ch0 ?_ ?_ r.wi0 ?_ ?_ r.cw ?_ t.fh0 t.fb t.fh t.fw t.fk t.sc0 t.sc t.wh0 t.wb t.we t.es
    · rw [c.c8]; exact r.nf1
    · rw [b _ (by omega) (by omega)]; exact r.nf2
    · rw [c.c6]; exact r.ns1
    · rw [b _ (by omega) (by omega)]; exact r.ns2
    · rw [c.c17]; exact r.nw1
    · rw [b _ (by omega) (by omega)]; exact r.nw2
    · rw [c.c3 _ (by omega) (by omega) (by omega)]; exact r.ne1
    · rw [b _ (by omega) (by omega)]; exact r.ne2
    · rw [c.c3 _ (by omega) (by omega) (by omega)]; exact r.ch1
    · rw [b _ (by omega) (by omega)]; exact r.ch2
    · rw [c.c3 _ (by omega) (by omega) (by omega)]; exact r.wi1
    · rw [b _ (by omega) (by omega)]; exact r.wi2
    · rw [c.c3 9 (by omega) (by omega) (by omega), c.c3 10 (by omega) (by omega) (by omega), c.c3 11 (by omega) (by omega) (by omega), c.c3l, b 13 (by omega) (by omega), b 14 (by omega) (by omega), b 15 (by omega) (by omega), b 16 (by omega) (by omega), b 19 (by omega) (by omega), b 20 (by omega) (by omega)]; exact r.gi
theorem ep_Rw_to {V : Int32 → Int32 → Prop} {r r' m g g' many base : Nat} {C C' G G' : em_M} (h : ep_Rw V r m g many base C G) (hm : m ≤ 10) (a0 : C'.1 r' 0 = C.1 r 0) (a1 : ∀ k, k < 10 → C'.1 (r' + 1) k = C.1 (r + 1) k) (a2 : ∀ k, k < 10 → C'.1 (r' + 2) k = C.1 (r + 2) k) (b1 : G'.1 g' many = G.1 g many) (b2 : ∀ k, base ≤ k → k < base + 2 * m → G'.1 g' k = G.1 g k) : ep_Rw V r' m g' many base C' G' := by
  obtain ⟨n, h1, h2, h3, h4⟩ := h
  refine ⟨n, h1, by rw [a0]; exact h2, by rw [b1]; exact h3, fun k hk => ?_⟩
  rw [a1 _ (by omega), a2 _ (by omega), b2 _ (by omega) (by omega), b2 _ (by omega) (by omega)]; exact h4 k hk
