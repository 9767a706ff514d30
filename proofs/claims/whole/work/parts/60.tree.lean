/-! the E that was read, on both sides -/
def ep_mx (xs : Nat → Nat) (n : Nat) : Nat → Nat
  | 0 => 1 + xs (n - 1)
  | k + 1 => max (1 + xs (n - 1 - (k + 1))) (ep_mx xs n k)
/-- depth and last calls of an E of kind kd, out of its parts' -/
def ep_xy (kd : Nat) (xs ys : Nat → Nat) (x y : Nat) : Prop :=
  (kd = 0 ∧ x = 1 + max (xs 0) (xs 1) ∧ y = 0) ∨ (kd = 1 ∧ x = 1 + max (xs 0) (max (xs 1) (xs 2)) ∧ y = ys 1 + ys 2) ∨ (kd = 2 ∧ x = 1 + max (xs 0) (xs 1) ∧ y = ys 1) ∨
  (kd = 4 ∧ x = 1 + xs 0 ∧ y = 1) ∨ ((kd = 5 ∨ kd = 6 ∨ kd = 7) ∧ x = 1 + xs 0 ∧ y = 0) ∨ (kd = 8 ∧ x = 1 + max (xs 0) (max (xs 1) (xs 2)) ∧ y = 0) ∨ (kd = 13 ∧ x = 1 + xs 0 ∧ y = ys 0)
def ep_T1 (C G : em_M) (e hi m mh x y : Nat) : Prop :=
  (C.1 2 e = nI 11) ∧
  (G.1 122 m = nI 48) ∧
  (G.1 124 m = nI 0) ∧
  (C.1 3 e = G.1 123 m) ∧
  (∀ k, k < 3 → C.1 4 (3 * e + k) = -1) ∧
  (hi = e + 1 ∧ mh = m + 1 ∧ x = 1 ∧ y = 0)
theorem ep_T1.hk {C G : em_M} {e hi m mh x y : Nat} (h : ep_T1 C G e hi m mh x y) : C.1 2 e = nI 11 := h.1
theorem ep_T1.hs {C G : em_M} {e hi m mh x y : Nat} (h : ep_T1 C G e hi m mh x y) : G.1 122 m = nI 48 := h.2.1
theorem ep_T1.hn {C G : em_M} {e hi m mh x y : Nat} (h : ep_T1 C G e hi m mh x y) : G.1 124 m = nI 0 := h.2.2.1
theorem ep_T1.hm {C G : em_M} {e hi m mh x y : Nat} (h : ep_T1 C G e hi m mh x y) : C.1 3 e = G.1 123 m := h.2.2.2.1
theorem ep_T1.h0 {C G : em_M} {e hi m mh x y : Nat} (h : ep_T1 C G e hi m mh x y) : ∀ k, k < 3 → C.1 4 (3 * e + k) = -1 := h.2.2.2.2.1
theorem ep_T1.hh {C G : em_M} {e hi m mh x y : Nat} (h : ep_T1 C G e hi m mh x y) : hi = e + 1 ∧ mh = m + 1 ∧ x = 1 ∧ y = 0 := h.2.2.2.2.2
theorem ep_T1.mk {C G : em_M} {e hi m mh x y : Nat} (hk : C.1 2 e = nI 11) (hs : G.1 122 m = nI 48) (hn : G.1 124 m = nI 0) (hm : C.1 3 e = G.1 123 m) (h0 : ∀ k, k < 3 → C.1 4 (3 * e + k) = -1) (hh : hi = e + 1 ∧ mh = m + 1 ∧ x = 1 ∧ y = 0) : ep_T1 C G e hi m mh x y :=
  ⟨hk, hs, hn, hm, h0, hh⟩
def ep_T2 (C G : em_M) (e hi m mh x y a : Nat) : Prop :=
  (C.1 2 e = nI 12) ∧
  (G.1 122 m = nI 97) ∧
  (G.1 124 m = nI 0) ∧
  (a < 4) ∧
  (C.1 3 e = nI a) ∧
  (G.1 123 m = nI a) ∧
  (∀ k, k < 3 → C.1 4 (3 * e + k) = -1) ∧
  (hi = e + 1 ∧ mh = m + 1 ∧ x = 1 ∧ y = 0)
theorem ep_T2.hk {C G : em_M} {e hi m mh x y a : Nat} (h : ep_T2 C G e hi m mh x y a) : C.1 2 e = nI 12 := h.1
theorem ep_T2.hs {C G : em_M} {e hi m mh x y a : Nat} (h : ep_T2 C G e hi m mh x y a) : G.1 122 m = nI 97 := h.2.1
theorem ep_T2.hn {C G : em_M} {e hi m mh x y a : Nat} (h : ep_T2 C G e hi m mh x y a) : G.1 124 m = nI 0 := h.2.2.1
theorem ep_T2.ha {C G : em_M} {e hi m mh x y a : Nat} (h : ep_T2 C G e hi m mh x y a) : a < 4 := h.2.2.2.1
theorem ep_T2.hm {C G : em_M} {e hi m mh x y a : Nat} (h : ep_T2 C G e hi m mh x y a) : C.1 3 e = nI a := h.2.2.2.2.1
theorem ep_T2.hm' {C G : em_M} {e hi m mh x y a : Nat} (h : ep_T2 C G e hi m mh x y a) : G.1 123 m = nI a := h.2.2.2.2.2.1
theorem ep_T2.h0 {C G : em_M} {e hi m mh x y a : Nat} (h : ep_T2 C G e hi m mh x y a) : ∀ k, k < 3 → C.1 4 (3 * e + k) = -1 := h.2.2.2.2.2.2.1
theorem ep_T2.hh {C G : em_M} {e hi m mh x y a : Nat} (h : ep_T2 C G e hi m mh x y a) : hi = e + 1 ∧ mh = m + 1 ∧ x = 1 ∧ y = 0 := h.2.2.2.2.2.2.2
theorem ep_T2.mk {C G : em_M} {e hi m mh x y a : Nat} (hk : C.1 2 e = nI 12) (hs : G.1 122 m = nI 97) (hn : G.1 124 m = nI 0) (ha : a < 4) (hm : C.1 3 e = nI a) (hm' : G.1 123 m = nI a) (h0 : ∀ k, k < 3 → C.1 4 (3 * e + k) = -1) (hh : hi = e + 1 ∧ mh = m + 1 ∧ x = 1 ∧ y = 0) : ep_T2 C G e hi m mh x y a :=
  ⟨hk, hs, hn, ha, hm, hm', h0, hh⟩
def ep_T3 (T : Nat → Nat → Nat → Nat → Nat → Nat → Prop) (C G : em_M) (e hi m mh x y n : Nat) (r mm xs ys : Nat → Nat) : Prop :=
  (1 ≤ n) ∧
  (n ≤ 5) ∧
  (r 0 = e) ∧
  (mm 0 = m + 1) ∧
  (G.1 122 m = nI 91) ∧
  (G.1 124 m = nI n) ∧
  (∀ k, k < n → C.1 2 (r k) = if k = 0 then nI 3 else nI 14) ∧
  (∀ k, k < n → C.1 4 (3 * r k) = nI (r k + 1) ∧ C.1 4 (3 * r k + 1) = (if k + 1 < n then nI (r (k + 1)) else -1) ∧ C.1 4 (3 * r k + 2) = -1 ∧ G.1 125 (5 * m + k) = nI (mm k) ∧ T (r k + 1) (r (k + 1)) (mm k) (mm (k + 1)) (xs k) (ys k)) ∧
  (hi = r n ∧ mh = mm n ∧ x = ep_mx xs n (n - 1) ∧ y = ys (n - 1))
theorem ep_T3.n1 {T : Nat → Nat → Nat → Nat → Nat → Nat → Prop} {C G : em_M} {e hi m mh x y n : Nat} {r mm xs ys : Nat → Nat} (h : ep_T3 T C G e hi m mh x y n r mm xs ys) : 1 ≤ n := h.1
theorem ep_T3.n5 {T : Nat → Nat → Nat → Nat → Nat → Nat → Prop} {C G : em_M} {e hi m mh x y n : Nat} {r mm xs ys : Nat → Nat} (h : ep_T3 T C G e hi m mh x y n r mm xs ys) : n ≤ 5 := h.2.1
theorem ep_T3.r0 {T : Nat → Nat → Nat → Nat → Nat → Nat → Prop} {C G : em_M} {e hi m mh x y n : Nat} {r mm xs ys : Nat → Nat} (h : ep_T3 T C G e hi m mh x y n r mm xs ys) : r 0 = e := h.2.2.1
theorem ep_T3.m0 {T : Nat → Nat → Nat → Nat → Nat → Nat → Prop} {C G : em_M} {e hi m mh x y n : Nat} {r mm xs ys : Nat → Nat} (h : ep_T3 T C G e hi m mh x y n r mm xs ys) : mm 0 = m + 1 := h.2.2.2.1
theorem ep_T3.hs {T : Nat → Nat → Nat → Nat → Nat → Nat → Prop} {C G : em_M} {e hi m mh x y n : Nat} {r mm xs ys : Nat → Nat} (h : ep_T3 T C G e hi m mh x y n r mm xs ys) : G.1 122 m = nI 91 := h.2.2.2.2.1
theorem ep_T3.hn {T : Nat → Nat → Nat → Nat → Nat → Nat → Prop} {C G : em_M} {e hi m mh x y n : Nat} {r mm xs ys : Nat → Nat} (h : ep_T3 T C G e hi m mh x y n r mm xs ys) : G.1 124 m = nI n := h.2.2.2.2.2.1
theorem ep_T3.hk {T : Nat → Nat → Nat → Nat → Nat → Nat → Prop} {C G : em_M} {e hi m mh x y n : Nat} {r mm xs ys : Nat → Nat} (h : ep_T3 T C G e hi m mh x y n r mm xs ys) : ∀ k, k < n → C.1 2 (r k) = if k = 0 then nI 3 else nI 14 := h.2.2.2.2.2.2.1
theorem ep_T3.h0 {T : Nat → Nat → Nat → Nat → Nat → Nat → Prop} {C G : em_M} {e hi m mh x y n : Nat} {r mm xs ys : Nat → Nat} (h : ep_T3 T C G e hi m mh x y n r mm xs ys) : ∀ k, k < n → C.1 4 (3 * r k) = nI (r k + 1) ∧ C.1 4 (3 * r k + 1) = (if k + 1 < n then nI (r (k + 1)) else -1) ∧ C.1 4 (3 * r k + 2) = -1 ∧ G.1 125 (5 * m + k) = nI (mm k) ∧ T (r k + 1) (r (k + 1)) (mm k) (mm (k + 1)) (xs k) (ys k) := h.2.2.2.2.2.2.2.1
theorem ep_T3.hh {T : Nat → Nat → Nat → Nat → Nat → Nat → Prop} {C G : em_M} {e hi m mh x y n : Nat} {r mm xs ys : Nat → Nat} (h : ep_T3 T C G e hi m mh x y n r mm xs ys) : hi = r n ∧ mh = mm n ∧ x = ep_mx xs n (n - 1) ∧ y = ys (n - 1) := h.2.2.2.2.2.2.2.2
theorem ep_T3.mk {T : Nat → Nat → Nat → Nat → Nat → Nat → Prop} {C G : em_M} {e hi m mh x y n : Nat} {r mm xs ys : Nat → Nat} (n1 : 1 ≤ n) (n5 : n ≤ 5) (r0 : r 0 = e) (m0 : mm 0 = m + 1) (hs : G.1 122 m = nI 91) (hn : G.1 124 m = nI n) (hk : ∀ k, k < n → C.1 2 (r k) = if k = 0 then nI 3 else nI 14) (h0 : ∀ k, k < n → C.1 4 (3 * r k) = nI (r k + 1) ∧ C.1 4 (3 * r k + 1) = (if k + 1 < n then nI (r (k + 1)) else -1) ∧ C.1 4 (3 * r k + 2) = -1 ∧ G.1 125 (5 * m + k) = nI (mm k) ∧ T (r k + 1) (r (k + 1)) (mm k) (mm (k + 1)) (xs k) (ys k)) (hh : hi = r n ∧ mh = mm n ∧ x = ep_mx xs n (n - 1) ∧ y = ys (n - 1)) : ep_T3 T C G e hi m mh x y n r mm xs ys :=
  ⟨n1, n5, r0, m0, hs, hn, hk, h0, hh⟩
def ep_T4 (T : Nat → Nat → Nat → Nat → Nat → Nat → Prop) (C G : em_M) (e hi m mh x y kd sg np : Nat) (c mm xs ys : Nat → Nat) : Prop :=
  (ep_K kd sg np) ∧
  (c 0 = e + 1) ∧
  (mm 0 = m + 1) ∧
  (C.1 2 e = nI kd) ∧
  (G.1 122 m = nI sg) ∧
  (G.1 124 m = nI np) ∧
  (kd = 0 → C.1 3 e = nI sg) ∧
  (kd = 4 → C.1 3 e = nI (sg - 70)) ∧
  (ep_Kn kd → ∃ a, a < 4 ∧ C.1 3 e = nI a ∧ G.1 123 m = nI a) ∧
  (∀ k, k < np → C.1 4 (3 * e + k) = nI (c k) ∧ G.1 125 (5 * m + k) = nI (mm k) ∧ T (c k) (c (k + 1)) (mm k) (mm (k + 1)) (xs k) (ys k)) ∧
  (∀ k, np ≤ k → k < 3 → C.1 4 (3 * e + k) = -1) ∧
  (hi = c np ∧ mh = mm np ∧ ep_xy kd xs ys x y)
theorem ep_T4.hK {T : Nat → Nat → Nat → Nat → Nat → Nat → Prop} {C G : em_M} {e hi m mh x y kd sg np : Nat} {c mm xs ys : Nat → Nat} (h : ep_T4 T C G e hi m mh x y kd sg np c mm xs ys) : ep_K kd sg np := h.1
theorem ep_T4.c0 {T : Nat → Nat → Nat → Nat → Nat → Nat → Prop} {C G : em_M} {e hi m mh x y kd sg np : Nat} {c mm xs ys : Nat → Nat} (h : ep_T4 T C G e hi m mh x y kd sg np c mm xs ys) : c 0 = e + 1 := h.2.1
theorem ep_T4.m0 {T : Nat → Nat → Nat → Nat → Nat → Nat → Prop} {C G : em_M} {e hi m mh x y kd sg np : Nat} {c mm xs ys : Nat → Nat} (h : ep_T4 T C G e hi m mh x y kd sg np c mm xs ys) : mm 0 = m + 1 := h.2.2.1
theorem ep_T4.hk {T : Nat → Nat → Nat → Nat → Nat → Nat → Prop} {C G : em_M} {e hi m mh x y kd sg np : Nat} {c mm xs ys : Nat → Nat} (h : ep_T4 T C G e hi m mh x y kd sg np c mm xs ys) : C.1 2 e = nI kd := h.2.2.2.1
theorem ep_T4.hs {T : Nat → Nat → Nat → Nat → Nat → Nat → Prop} {C G : em_M} {e hi m mh x y kd sg np : Nat} {c mm xs ys : Nat → Nat} (h : ep_T4 T C G e hi m mh x y kd sg np c mm xs ys) : G.1 122 m = nI sg := h.2.2.2.2.1
theorem ep_T4.hn {T : Nat → Nat → Nat → Nat → Nat → Nat → Prop} {C G : em_M} {e hi m mh x y kd sg np : Nat} {c mm xs ys : Nat → Nat} (h : ep_T4 T C G e hi m mh x y kd sg np c mm xs ys) : G.1 124 m = nI np := h.2.2.2.2.2.1
theorem ep_T4.hm {T : Nat → Nat → Nat → Nat → Nat → Nat → Prop} {C G : em_M} {e hi m mh x y kd sg np : Nat} {c mm xs ys : Nat → Nat} (h : ep_T4 T C G e hi m mh x y kd sg np c mm xs ys) : kd = 0 → C.1 3 e = nI sg := h.2.2.2.2.2.2.1
theorem ep_T4.hf {T : Nat → Nat → Nat → Nat → Nat → Nat → Prop} {C G : em_M} {e hi m mh x y kd sg np : Nat} {c mm xs ys : Nat → Nat} (h : ep_T4 T C G e hi m mh x y kd sg np c mm xs ys) : kd = 4 → C.1 3 e = nI (sg - 70) := h.2.2.2.2.2.2.2.1
theorem ep_T4.ha {T : Nat → Nat → Nat → Nat → Nat → Nat → Prop} {C G : em_M} {e hi m mh x y kd sg np : Nat} {c mm xs ys : Nat → Nat} (h : ep_T4 T C G e hi m mh x y kd sg np c mm xs ys) : ep_Kn kd → ∃ a, a < 4 ∧ C.1 3 e = nI a ∧ G.1 123 m = nI a := h.2.2.2.2.2.2.2.2.1
theorem ep_T4.h0 {T : Nat → Nat → Nat → Nat → Nat → Nat → Prop} {C G : em_M} {e hi m mh x y kd sg np : Nat} {c mm xs ys : Nat → Nat} (h : ep_T4 T C G e hi m mh x y kd sg np c mm xs ys) : ∀ k, k < np → C.1 4 (3 * e + k) = nI (c k) ∧ G.1 125 (5 * m + k) = nI (mm k) ∧ T (c k) (c (k + 1)) (mm k) (mm (k + 1)) (xs k) (ys k) := h.2.2.2.2.2.2.2.2.2.1
theorem ep_T4.h1 {T : Nat → Nat → Nat → Nat → Nat → Nat → Prop} {C G : em_M} {e hi m mh x y kd sg np : Nat} {c mm xs ys : Nat → Nat} (h : ep_T4 T C G e hi m mh x y kd sg np c mm xs ys) : ∀ k, np ≤ k → k < 3 → C.1 4 (3 * e + k) = -1 := h.2.2.2.2.2.2.2.2.2.2.1
theorem ep_T4.hh {T : Nat → Nat → Nat → Nat → Nat → Nat → Prop} {C G : em_M} {e hi m mh x y kd sg np : Nat} {c mm xs ys : Nat → Nat} (h : ep_T4 T C G e hi m mh x y kd sg np c mm xs ys) : hi = c np ∧ mh = mm np ∧ ep_xy kd xs ys x y := h.2.2.2.2.2.2.2.2.2.2.2
theorem ep_T4.mk {T : Nat → Nat → Nat → Nat → Nat → Nat → Prop} {C G : em_M} {e hi m mh x y kd sg np : Nat} {c mm xs ys : Nat → Nat} (hK : ep_K kd sg np) (c0 : c 0 = e + 1) (m0 : mm 0 = m + 1) (hk : C.1 2 e = nI kd) (hs : G.1 122 m = nI sg) (hn : G.1 124 m = nI np) (hm : kd = 0 → C.1 3 e = nI sg) (hf : kd = 4 → C.1 3 e = nI (sg - 70)) (ha : ep_Kn kd → ∃ a, a < 4 ∧ C.1 3 e = nI a ∧ G.1 123 m = nI a) (h0 : ∀ k, k < np → C.1 4 (3 * e + k) = nI (c k) ∧ G.1 125 (5 * m + k) = nI (mm k) ∧ T (c k) (c (k + 1)) (mm k) (mm (k + 1)) (xs k) (ys k)) (h1 : ∀ k, np ≤ k → k < 3 → C.1 4 (3 * e + k) = -1) (hh : hi = c np ∧ mh = mm np ∧ ep_xy kd xs ys x y) : ep_T4 T C G e hi m mh x y kd sg np c mm xs ys :=
  ⟨hK, c0, m0, hk, hs, hn, hm, hf, ha, h0, h1, hh⟩
def ep_Tr (C G : em_M) : Nat → Nat → Nat → Nat → Nat → Nat → Nat → Prop
  | 0, _, _, _, _, _, _ => False
  | d + 1, e, hi, m, mh, x, y => ep_T1 C G e hi m mh x y ∨ (∃ a, ep_T2 C G e hi m mh x y a) ∨ (∃ n r mm xs ys, ep_T3 (ep_Tr C G d) C G e hi m mh x y n r mm xs ys) ∨ (∃ kd sg np c mm xs ys, ep_T4 (ep_Tr C G d) C G e hi m mh x y kd sg np c mm xs ys)
/-- its ranges are not empty -/
theorem ep_Tr_lt {C G : em_M} : ∀ d e hi m mh x y, ep_Tr C G d e hi m mh x y → e < hi ∧ m < mh ∧ 1 ≤ x ∧ x ≤ d := by
  intro d
  induction d with
  | zero => intro e hi m mh x y h; exact absurd h id
  | succ d ih =>
    intro e hi m mh x y h
    rcases h with q | ⟨a, q⟩ | ⟨n, r, mm, xs, ys, q⟩ | ⟨kd, sg, np, c, mm, xs, ys, q⟩
    · have := q.hh; omega
    · have := q.hh; omega
    · have n1 := q.n1
      have st : ∀ k, k ≤ n → e + k ≤ r k ∧ m + 1 + k ≤ mm k := by
        intro k
        induction k with
        | zero => intro _; rw [q.r0, q.m0]; omega
        | succ k ik =>
          intro hk
          have i := ik (by omega)
          have t := ih _ _ _ _ _ _ (q.h0 k (by omega)).2.2.2.2
          omega
      have mx : ∀ k, k < n → 1 ≤ ep_mx xs n k ∧ ep_mx xs n k ≤ d + 1 := by
        intro k
        induction k with
        | zero =>
          intro _
          have t := ih _ _ _ _ _ _ (q.h0 (n - 1) (by omega)).2.2.2.2
          rw [ep_mx]; omega
        | succ k ik =>
          intro hk
          have i := ik (by omega)
          have t := ih _ _ _ _ _ _ (q.h0 (n - 1 - (k + 1)) (by omega)).2.2.2.2
          rw [ep_mx]; omega
      have a := st n (Nat.le_refl _)
      have b := mx (n - 1) (by omega)
      have c := q.hh
      omega
    · have hK := q.hK
      have st : ∀ k, k ≤ np → e + 1 + k ≤ c k ∧ m + 1 + k ≤ mm k := by
        intro k
        induction k with
        | zero => intro _; rw [q.c0, q.m0]; omega
        | succ k ik =>
          intro hk
          have i := ik (by omega)
          have t := ih _ _ _ _ _ _ (q.h0 k (by omega)).2.2
          omega
      have tx : ∀ k, k < np → 1 ≤ xs k ∧ xs k ≤ d := fun k hk => (ih _ _ _ _ _ _ (q.h0 k hk).2.2).2.2
      have a := st np (Nat.le_refl _)
      obtain ⟨b1, b2, b3⟩ := q.hh
      have b : 1 ≤ x ∧ x ≤ d + 1 := by
        unfold ep_xy at b3
        unfold ep_K at hK
        have t0 := tx 0 (by omega)
        rcases b3 with ⟨k, x1, -⟩ | ⟨k, x1, -⟩ | ⟨k, x1, -⟩ | ⟨k, x1, -⟩ | ⟨k, x1, -⟩ | ⟨k, x1, -⟩ | ⟨k, x1, -⟩
        · have t1 := tx 1 (by omega); omega
        · have t1 := tx 1 (by omega); have t2 := tx 2 (by omega); omega
        · have t1 := tx 1 (by omega); omega
        · omega
        · omega
        · have t1 := tx 1 (by omega); have t2 := tx 2 (by omega); omega
        · omega
      omega
/-- it stays where its rows stay -/
theorem ep_Tr_cg {C C' G G' : em_M} : ∀ d e hi m mh x y, (∀ k, e ≤ k → k < hi → C'.1 2 k = C.1 2 k ∧ C'.1 3 k = C.1 3 k) → (∀ k, 3 * e ≤ k → k < 3 * hi → C'.1 4 k = C.1 4 k) → (∀ k, m ≤ k → k < mh → G'.1 122 k = G.1 122 k ∧ G'.1 123 k = G.1 123 k ∧ G'.1 124 k = G.1 124 k) → (∀ k, 5 * m ≤ k → k < 5 * mh → G'.1 125 k = G.1 125 k) → ep_Tr C G d e hi m mh x y → ep_Tr C' G' d e hi m mh x y := by
  intro d
  induction d with
  | zero => intro e hi m mh x y _ _ _ _ h; exact absurd h id
  | succ d ih =>
    intro e hi m mh x y a1 a2 b1 b2 h
    have L := ep_Tr_lt _ _ _ _ _ _ _ h
    rcases h with q | ⟨a, q⟩ | ⟨n, r, mm, xs, ys, q⟩ | ⟨kd, sg, np, c, mm, xs, ys, q⟩
    · refine Or.inl (ep_T1.mk ?_ ?_ ?_ ?_ ?_ q.hh)
      · rw [(a1 e (by omega) (by omega)).1]; exact q.hk
      · rw [(b1 m (by omega) (by omega)).1]; exact q.hs
      · rw [(b1 m (by omega) (by omega)).2.2]; exact q.hn
      · rw [(a1 e (by omega) (by omega)).2, (b1 m (by omega) (by omega)).2.1]; exact q.hm
      · intro k hk; rw [a2 _ (by omega) (by omega)]; exact q.h0 k hk
    · refine Or.inr (Or.inl ⟨a, ep_T2.mk ?_ ?_ ?_ q.ha ?_ ?_ ?_ q.hh⟩)
      · rw [(a1 e (by omega) (by omega)).1]; exact q.hk
      · rw [(b1 m (by omega) (by omega)).1]; exact q.hs
      · rw [(b1 m (by omega) (by omega)).2.2]; exact q.hn
      · rw [(a1 e (by omega) (by omega)).2]; exact q.hm
      · rw [(b1 m (by omega) (by omega)).2.1]; exact q.hm'
      · intro k hk; rw [a2 _ (by omega) (by omega)]; exact q.h0 k hk
    · obtain ⟨h1, h2, h3⟩ := q.hh
      have n5 := q.n5
      have st : ∀ k, k ≤ n → e ≤ r k ∧ m + 1 ≤ mm k := by
        intro k
        induction k with
        | zero => intro _; rw [q.r0, q.m0]; omega
        | succ k ik =>
          intro hk
          have i := ik (by omega)
          have t := ep_Tr_lt _ _ _ _ _ _ _ (q.h0 k (by omega)).2.2.2.2
          omega
      have up : ∀ j, j ≤ n → r (n - j) + j ≤ r n ∧ mm (n - j) + j ≤ mm n := by
        intro j
        induction j with
        | zero => intro _; exact ⟨Nat.le_refl _, Nat.le_refl _⟩
        | succ j ij =>
          intro hj
          have i := ij (by omega)
          have t := ep_Tr_lt _ _ _ _ _ _ _ (q.h0 (n - (j + 1)) (by omega)).2.2.2.2
          rw [show n - (j + 1) + 1 = n - j by omega] at t
          omega
      refine Or.inr (Or.inr (Or.inl ⟨n, r, mm, xs, ys, ep_T3.mk q.n1 q.n5 q.r0 q.m0 ?_ ?_ ?_ ?_ q.hh⟩))
      · rw [(b1 m (by omega) (by omega)).1]; exact q.hs
      · rw [(b1 m (by omega) (by omega)).2.2]; exact q.hn
      · intro k hk
        have s := st k (by omega)
        have w := up (n - k) (by omega)
        rw [show n - (n - k) = k by omega] at w
        rw [(a1 _ (by omega) (by omega)).1]; exact q.hk k hk
      · intro k hk
        obtain ⟨g1, g2, g3, g4, g5⟩ := q.h0 k hk
        have s := st k (by omega)
        have s1 := st (k + 1) (by omega)
        have w := up (n - k) (by omega)
        have w1 := up (n - (k + 1)) (by omega)
        rw [show n - (n - k) = k by omega] at w
        rw [show n - (n - (k + 1)) = k + 1 by omega] at w1
        have t := ep_Tr_lt _ _ _ _ _ _ _ g5
        have kk : 5 * m + k < 5 * mh := by
          have : m + 1 ≤ mh := by omega
          omega
        refine ⟨?_, ?_, ?_, ?_, ih _ _ _ _ _ _ (fun i i1 i2 => a1 i (by omega) (by omega)) (fun i i1 i2 => a2 i (by omega) (by omega)) (fun i i1 i2 => b1 i (by omega) (by omega)) (fun i i1 i2 => b2 i (by omega) (by omega)) g5⟩
        · rw [a2 _ (by omega) (by omega)]; exact g1
        · rw [a2 _ (by omega) (by omega)]; exact g2
        · rw [a2 _ (by omega) (by omega)]; exact g3
        · rw [b2 _ (by omega) kk]; exact g4
    · obtain ⟨h1, h2, h3⟩ := q.hh
      have hK := q.hK
      have np3 : np ≤ 3 := by unfold ep_K at hK; omega
      have st : ∀ k, k ≤ np → e + 1 ≤ c k ∧ m + 1 ≤ mm k := by
        intro k
        induction k with
        | zero => intro _; rw [q.c0, q.m0]; omega
        | succ k ik =>
          intro hk
          have i := ik (by omega)
          have t := ep_Tr_lt _ _ _ _ _ _ _ (q.h0 k (by omega)).2.2
          omega
      have up : ∀ j, j ≤ np → c (np - j) + j ≤ c np ∧ mm (np - j) + j ≤ mm np := by
        intro j
        induction j with
        | zero => intro _; exact ⟨Nat.le_refl _, Nat.le_refl _⟩
        | succ j ij =>
          intro hj
          have i := ij (by omega)
          have t := ep_Tr_lt _ _ _ _ _ _ _ (q.h0 (np - (j + 1)) (by omega)).2.2
          rw [show np - (j + 1) + 1 = np - j by omega] at t
          omega
      refine Or.inr (Or.inr (Or.inr ⟨kd, sg, np, c, mm, xs, ys, ep_T4.mk q.hK q.c0 q.m0 ?_ ?_ ?_ ?_ ?_ ?_ ?_ ?_ q.hh⟩))
      · rw [(a1 e (by omega) (by omega)).1]; exact q.hk
      · rw [(b1 m (by omega) (by omega)).1]; exact q.hs
      · rw [(b1 m (by omega) (by omega)).2.2]; exact q.hn
      · rw [(a1 e (by omega) (by omega)).2]; exact q.hm
      · rw [(a1 e (by omega) (by omega)).2]; exact q.hf
      · rw [(a1 e (by omega) (by omega)).2, (b1 m (by omega) (by omega)).2.1]; exact q.ha
      · intro k hk
        obtain ⟨g1, g2, g3⟩ := q.h0 k hk
        have s := st k (by omega)
        have s1 := st (k + 1) (by omega)
        have w1 := up (np - (k + 1)) (by omega)
        rw [show np - (np - (k + 1)) = k + 1 by omega] at w1
        have t := ep_Tr_lt _ _ _ _ _ _ _ g3
        refine ⟨?_, ?_, ih _ _ _ _ _ _ (fun i i1 i2 => a1 i (by omega) (by omega)) (fun i i1 i2 => a2 i (by omega) (by omega)) (fun i i1 i2 => b1 i (by omega) (by omega)) (fun i i1 i2 => b2 i (by omega) (by omega)) g3⟩
        · rw [a2 _ (by omega) (by omega)]; exact g1
        · rw [b2 _ (by omega) (by omega)]; exact g2
      · intro k k1 k2
        rw [a2 _ (by omega) (by omega)]; exact q.h1 k k1 k2
