def ep_cx (k j : Nat) (C C' : em_M) : Prop :=
  (ep_Cp (j + 10) C (k + 10) C') ∧
  (C'.1 (k + 1) 0 = C.1 (j + 1) 0) ∧
  (C'.1 (k + 4) 0 = C.1 (j + 4) 0) ∧
  (C'.1 (k + 7) 0 = C.1 (j + 7) 0) ∧
  (∀ i, i < 10 → C'.1 (k + 2) i = C.1 (j + 2) i) ∧
  (∀ i, i < 10 → C'.1 (k + 5) i = C.1 (j + 5) i) ∧
  (∀ i, i < 10 → C'.1 (k + 8) i = C.1 (j + 8) i) ∧
  (∀ i, i < 10 → C'.1 (k + 3) i = C.1 (j + 3) i) ∧
  (∀ i, i < 10 → C'.1 (k + 6) i = C.1 (j + 6) i) ∧
  (∀ i, i < 10 → C'.1 (k + 9) i = C.1 (j + 9) i) ∧
  (C'.1 (k + 1) 3 = C.1 (k + 1) 3) ∧
  (C'.1 (k + 4) 3 = C.1 (k + 4) 3) ∧
  (C'.1 (k + 7) 3 = C.1 (k + 7) 3) ∧
  (∀ o, o < k + 1 ∨ k + 33 < o → C'.1 o = C.1 o) ∧
  (∀ o, o < k + 1 ∨ k + 33 < o → C'.2 o = C.2 o)
theorem ep_cx.cp {k j : Nat} {C C' : em_M} (h : ep_cx k j C C') : ep_Cp (j + 10) C (k + 10) C' := h.1
theorem ep_cx.r1 {k j : Nat} {C C' : em_M} (h : ep_cx k j C C') : C'.1 (k + 1) 0 = C.1 (j + 1) 0 := h.2.1
theorem ep_cx.r2 {k j : Nat} {C C' : em_M} (h : ep_cx k j C C') : C'.1 (k + 4) 0 = C.1 (j + 4) 0 := h.2.2.1
theorem ep_cx.r3 {k j : Nat} {C C' : em_M} (h : ep_cx k j C C') : C'.1 (k + 7) 0 = C.1 (j + 7) 0 := h.2.2.2.1
theorem ep_cx.s1 {k j : Nat} {C C' : em_M} (h : ep_cx k j C C') : ∀ i, i < 10 → C'.1 (k + 2) i = C.1 (j + 2) i := h.2.2.2.2.1
theorem ep_cx.s2 {k j : Nat} {C C' : em_M} (h : ep_cx k j C C') : ∀ i, i < 10 → C'.1 (k + 5) i = C.1 (j + 5) i := h.2.2.2.2.2.1
theorem ep_cx.s3 {k j : Nat} {C C' : em_M} (h : ep_cx k j C C') : ∀ i, i < 10 → C'.1 (k + 8) i = C.1 (j + 8) i := h.2.2.2.2.2.2.1
theorem ep_cx.t1 {k j : Nat} {C C' : em_M} (h : ep_cx k j C C') : ∀ i, i < 10 → C'.1 (k + 3) i = C.1 (j + 3) i := h.2.2.2.2.2.2.2.1
theorem ep_cx.t2 {k j : Nat} {C C' : em_M} (h : ep_cx k j C C') : ∀ i, i < 10 → C'.1 (k + 6) i = C.1 (j + 6) i := h.2.2.2.2.2.2.2.2.1
theorem ep_cx.t3 {k j : Nat} {C C' : em_M} (h : ep_cx k j C C') : ∀ i, i < 10 → C'.1 (k + 9) i = C.1 (j + 9) i := h.2.2.2.2.2.2.2.2.2.1
theorem ep_cx.m1 {k j : Nat} {C C' : em_M} (h : ep_cx k j C C') : C'.1 (k + 1) 3 = C.1 (k + 1) 3 := h.2.2.2.2.2.2.2.2.2.2.1
theorem ep_cx.m2 {k j : Nat} {C C' : em_M} (h : ep_cx k j C C') : C'.1 (k + 4) 3 = C.1 (k + 4) 3 := h.2.2.2.2.2.2.2.2.2.2.2.1
theorem ep_cx.m3 {k j : Nat} {C C' : em_M} (h : ep_cx k j C C') : C'.1 (k + 7) 3 = C.1 (k + 7) 3 := h.2.2.2.2.2.2.2.2.2.2.2.2.1
theorem ep_cx.o1 {k j : Nat} {C C' : em_M} (h : ep_cx k j C C') : ∀ o, o < k + 1 ∨ k + 33 < o → C'.1 o = C.1 o := h.2.2.2.2.2.2.2.2.2.2.2.2.2.1
theorem ep_cx.o2 {k j : Nat} {C C' : em_M} (h : ep_cx k j C C') : ∀ o, o < k + 1 ∨ k + 33 < o → C'.2 o = C.2 o := h.2.2.2.2.2.2.2.2.2.2.2.2.2.2
theorem ep_cx.mk {k j : Nat} {C C' : em_M} (cp : ep_Cp (j + 10) C (k + 10) C') (r1 : C'.1 (k + 1) 0 = C.1 (j + 1) 0) (r2 : C'.1 (k + 4) 0 = C.1 (j + 4) 0) (r3 : C'.1 (k + 7) 0 = C.1 (j + 7) 0) (s1 : ∀ i, i < 10 → C'.1 (k + 2) i = C.1 (j + 2) i) (s2 : ∀ i, i < 10 → C'.1 (k + 5) i = C.1 (j + 5) i) (s3 : ∀ i, i < 10 → C'.1 (k + 8) i = C.1 (j + 8) i) (t1 : ∀ i, i < 10 → C'.1 (k + 3) i = C.1 (j + 3) i) (t2 : ∀ i, i < 10 → C'.1 (k + 6) i = C.1 (j + 6) i) (t3 : ∀ i, i < 10 → C'.1 (k + 9) i = C.1 (j + 9) i) (m1 : C'.1 (k + 1) 3 = C.1 (k + 1) 3) (m2 : C'.1 (k + 4) 3 = C.1 (k + 4) 3) (m3 : C'.1 (k + 7) 3 = C.1 (k + 7) 3) (o1 : ∀ o, o < k + 1 ∨ k + 33 < o → C'.1 o = C.1 o) (o2 : ∀ o, o < k + 1 ∨ k + 33 < o → C'.2 o = C.2 o) : ep_cx k j C C' :=
  ⟨cp, r1, r2, r3, s1, s2, s3, t1, t2, t3, m1, m2, m3, o1, o2⟩
theorem ep_Cp_tr {w w' : Nat} {C C' C2 : em_M} (h : ep_Cp w C w' C') (h1 : ∀ o, w' ≤ o → o ≤ w' + 23 → C2.1 o = C'.1 o) (h2 : C2.2 = C'.2) : ep_Cp w C w' C2 :=
  ep_Cp.mk (fun k hk => by rw [h1 _ (by omega) (by omega)]; exact h.c1 k hk) (fun k hk => by rw [h1 _ (by omega) (by omega)]; exact h.c2 k hk) (fun k a b c => by rw [h1 _ (by omega) (by omega)]; exact h.c3 k a b c) (by rw [h2]; exact h.c3l) (fun k hk => by rw [h1 _ (by omega) (by omega)]; exact h.c4 k hk) (by rw [h2]; exact h.c4l) (fun k hk => by rw [h1 _ (by omega) (by omega)]; exact h.c5 k hk) (by rw [h1 _ (by omega) (by omega)]; exact h.c6) (fun k hk => by rw [h2]; exact h.c7 k hk) (by rw [h1 _ (by omega) (by omega)]; exact h.c8) (fun j a b k hk => by rw [h1 _ (by omega) (by omega)]; exact h.c9 j a b k hk) (fun k hk => by rw [h2]; exact h.c16 k hk) (by rw [h1 _ (by omega) (by omega)]; exact h.c17) (fun j a b k hk => by rw [h1 _ (by omega) (by omega)]; exact h.c18 j a b k hk)
theorem ec_X1 {k j : Nat} (hd : k + 33 < j ∨ j + 33 < k) (C : em_M) (c : ep_Cp (j + 10) C (k + 10) (et_X3_copyFrom (k + 10) (j + 10) (et_X10_copyFrom (k + 10) (j + 10) C))) : ep_cx k j C (et_X1_copyFrom k j C) := by
  have e0 : et_X1_copyFrom k j C = et_X6_copyFrom (k + 7) (j + 7) (et_X6_copyFrom (k + 4) (j + 4) (et_X6_copyFrom (k + 1) (j + 1) (et_X3_copyFrom (k + 10) (j + 10) (et_X10_copyFrom (k + 10) (j + 10) C)))) := rfl
  have f1 : ∀ o, o < k + 10 ∨ k + 33 < o → (et_X3_copyFrom (k + 10) (j + 10) (et_X10_copyFrom (k + 10) (j + 10) C)).1 o = C.1 o := fun o ho => (ef1_X3_copyFrom _ _ _ (by omega)).trans (ef1_X10_copyFrom _ _ _ (by omega))
  have f2 : ∀ o, o < k + 10 ∨ k + 33 < o → (et_X3_copyFrom (k + 10) (j + 10) (et_X10_copyFrom (k + 10) (j + 10) C)).2 o = C.2 o := fun o ho => (ef2_X3_copyFrom _ _ _ (by omega)).trans (ef2_X10_copyFrom _ _ _ (by omega))
  rw [e0]
  generalize et_X3_copyFrom (k + 10) (j + 10) (et_X10_copyFrom (k + 10) (j + 10) C) = C1 at c f1 f2 ⊢
  obtain ⟨a1, a2, a3, a4, a5, a6⟩ := ec_row (r := k + 1) (q := j + 1) (by omega) C1
  generalize et_X6_copyFrom (k + 1) (j + 1) C1 = C2 at a1 a2 a3 a4 a5 a6 ⊢
  obtain ⟨b1, b2, b3, b4, b5, b6⟩ := ec_row (r := k + 4) (q := j + 4) (by omega) C2
  generalize et_X6_copyFrom (k + 4) (j + 4) C2 = C3 at b1 b2 b3 b4 b5 b6 ⊢
  obtain ⟨d1, d2, d3, d4, d5, d6⟩ := ec_row (r := k + 7) (q := j + 7) (by omega) C3
  generalize et_X6_copyFrom (k + 7) (j + 7) C3 = C4 at d1 d2 d3 d4 d5 d6 ⊢
  refine ep_cx.mk (ep_Cp_tr c (fun o o1 o2 => by rw [d4 _ (by omega), b4 _ (by omega), a4 _ (by omega)]) (by rw [d5, b5, a5])) ?_ ?_ ?_ ?_ ?_ ?_ ?_ ?_ ?_ ?_ ?_ ?_ ?_ ?_
  · rw [d4 _ (by omega), b4 _ (by omega), a1, f1 _ (by omega)]
  · rw [d4 _ (by omega), b1, a4 _ (by omega), f1 _ (by omega)]
  · rw [d1, b4 _ (by omega), a4 _ (by omega), f1 _ (by omega)]
  · intro i hi; rw [d4 _ (by omega), b4 _ (by omega)]; exact (a2 i hi).trans (by rw [f1 _ (by omega)])
  · intro i hi; rw [d4 _ (by omega)]; exact (b2 i hi).trans (by rw [a4 _ (by omega), f1 _ (by omega)])
  · intro i hi; exact (d2 i hi).trans (by rw [b4 _ (by omega), a4 _ (by omega), f1 _ (by omega)])
  · intro i hi; rw [d4 _ (by omega), b4 _ (by omega)]; exact (a3 i hi).trans (by rw [f1 _ (by omega)])
  · intro i hi; rw [d4 _ (by omega)]; exact (b3 i hi).trans (by rw [a4 _ (by omega), f1 _ (by omega)])
  · intro i hi; exact (d3 i hi).trans (by rw [b4 _ (by omega), a4 _ (by omega), f1 _ (by omega)])
  · rw [d4 _ (by omega), b4 _ (by omega), a6, f1 _ (by omega)]
  · rw [d4 _ (by omega), b6, a4 _ (by omega), f1 _ (by omega)]
  · rw [d6, b4 _ (by omega), a4 _ (by omega), f1 _ (by omega)]
  · intro o ho; rw [d4 _ (by omega), b4 _ (by omega), a4 _ (by omega), f1 _ (by omega)]
  · intro o ho; rw [d5, b5, a5, f2 _ (by omega)]
