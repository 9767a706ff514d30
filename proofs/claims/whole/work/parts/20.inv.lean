/-! the invariant: memory C (objects < 118) against model memory G (objects ≥ 118) -/
theorem eq_pI (M : em_M) (o k : Nat) (v : Int32) (o' k' : Nat) : (em_pI M o k v).1 o' k' = if o' = o then (if k' = k then v else M.1 o' k') else M.1 o' k' := by
  unfold em_pI upd
  by_cases h : o' = o
  · subst h; simp
  · simp [h]
theorem eq_pI2 (M : em_M) (o k : Nat) (v : Int32) : (em_pI M o k v).2 = M.2 := rfl
theorem eq_pL1 (M : em_M) (o k : Nat) (v : Int64) : (em_pL M o k v).1 = M.1 := rfl
theorem eq_pL (M : em_M) (o k : Nat) (v : Int64) (o' k' : Nat) : (em_pL M o k v).2 o' k' = if o' = o then (if k' = k then v else M.2 o' k') else M.2 o' k' := by
  unfold em_pL vp_updL
  by_cases h : o' = o
  · subst h; simp
  · simp [h]
theorem eq_at {a n : Nat} {M : em_M} {i : Int32} {j : Nat} (h : i = nI j) (hj : j < n) (hn : n < 2 ^ 31) : et_X11_at a n M i = M.1 a j := by
  rw [h, et_X11_at, if_neg (nI_pos (by omega)), if_neg (show ¬ (Int32.ofNat n ≤ nI j) from nI_ge hj hn), nI_clamp (by omega)]
theorem eq_at_ {a n : Nat} {M : em_M} {i : Int32} {j : Nat} (h : i = nI j) (hj : j < n) (hn : n < 2 ^ 31) : et_X11_at_ a n M i = M.2 a j := by
  rw [h, et_X11_at_, if_neg (nI_pos (by omega)), if_neg (show ¬ (Int32.ofNat n ≤ nI j) from nI_ge hj hn), nI_clamp (by omega)]
theorem eq_put {a n : Nat} {M : em_M} {i v : Int32} {j : Nat} (h : i = nI j) (hj : j < n) (hn : n < 2 ^ 31) : et_X11_put a n M i v = em_pI M a j v := by
  rw [h, et_X11_put, if_neg (nI_pos (by omega)), if_neg (show ¬ (Int32.ofNat n ≤ nI j) from nI_ge hj hn), nI_clamp (by omega)]
theorem eq_put_ {a n : Nat} {M : em_M} {i : Int32} {v : Int64} {j : Nat} (h : i = nI j) (hj : j < n) (hn : n < 2 ^ 31) : et_X11_put_ a n M i v = em_pL M a j v := by
  rw [h, et_X11_put_, if_neg (nI_pos (by omega)), if_neg (show ¬ (Int32.ofNat n ≤ nI j) from nI_ge hj hn), nI_clamp (by omega)]
theorem eq_mul (a b : Nat) : nI a * nI b = nI (a * b) := (Int32.ofNat_mul a b).symm
theorem eq_lit (n : Nat) : (OfNat.ofNat n : Int32) = nI n := rfl
/-- a value given to a name, and how it is laid down: a number, or an escape -/
def ep_Th (ne : Nat) (t : Int64) (ie v : Int32) : Prop :=
  (ie = 0 ∧ t = v.toInt64) ∨ (ie = 1 ∧ ∃ x, x < ne ∧ v = nI x ∧ t = 4294967296 + (nI x).toInt64)
/-- the text -/
def ep_Tx (C G : em_M) : Prop := ∃ n, n ≤ 100 ∧ C.1 9 0 = nI n ∧ G.1 118 11 = nI n ∧ ∀ k, k < n → ∃ c, c < 128 ∧ C.1 10 k = nI c ∧ G.1 127 k = nI c
/-- rows of two: those at r, those of the row g from `base` on, counted at `many` -/
def ep_Rw (V : Int32 → Int32 → Prop) (r m : Nat) (g many base : Nat) (C G : em_M) : Prop :=
  ∃ n, n ≤ m ∧ C.1 r 0 = nI n ∧ G.1 g many = nI n ∧ ∀ k, k < n → C.1 (r + 1) k = G.1 g (base + 2 * k) ∧ C.1 (r + 2) k = G.1 g (base + 2 * k + 1) ∧ V (G.1 g (base + 2 * k)) (G.1 g (base + 2 * k + 1))
def ep_Vs (a _ : Int32) : Prop := ∃ n, n < 40 ∧ a = nI n
def ep_Vp (nl : Nat) (a b : Int32) : Prop := (a = nI 0 ∧ ∃ n, n < nl ∧ b = nI n) ∨ (a = nI 1 ∧ ∃ n, n < 4 ∧ b = nI n) ∨ (a = nI 2 ∧ ∃ n, n < 3 ∧ b = nI n)
def ep_Vb (a _ : Int32) : Prop := ∃ n, n < 4 ∧ a = nI n
/-- a tape -/
def ep_Tp (i : Nat) (C G : em_M) : Prop :=
  ∃ s, s ≤ 60 ∧ C.1 (106 + 2 * i) 0 = G.1 129 i ∧ C.1 (106 + 2 * i) 1 = nI s ∧ G.1 130 i = nI s ∧ ((G.1 129 i = -1 ∧ s = 0) ∨ ∃ q, q ≤ 4 ∧ G.1 129 i = nI q) ∧ ∀ k, k < 60 → C.2 (107 + 2 * i) k = G.2 131 (60 * i + k)
/-- part k of node e, and part k of the E -/
def ep_Pt (φ : Nat → Nat × Nat) (u : Nat) (C G : em_M) (e k : Nat) : Prop :=
  ∃ p, p < u ∧ C.1 4 (3 * e + k) = nI p ∧ (φ p).2 = 0 ∧ G.1 125 (5 * (φ e).1 + k) = nI (φ p).1
/-- kind, sign and number of parts of a node that is whole and no list -/
def ep_K (k s n : Nat) : Prop :=
  (k = 0 ∧ s = 42 ∧ n = 2) ∨ (k = 0 ∧ s = 43 ∧ n = 2) ∨ (k = 0 ∧ s = 45 ∧ n = 2) ∨ (k = 0 ∧ s = 60 ∧ n = 2) ∨ (k = 1 ∧ s = 63 ∧ n = 3) ∨ (k = 2 ∧ s = 61 ∧ n = 2) ∨
  (k = 4 ∧ s = 70 ∧ n = 1) ∨ (k = 4 ∧ s = 71 ∧ n = 1) ∨ (k = 4 ∧ s = 72 ∧ n = 1) ∨ (k = 5 ∧ s = 94 ∧ n = 1) ∨ (k = 6 ∧ s = 33 ∧ n = 1) ∨ (k = 7 ∧ s = 58 ∧ n = 1) ∨ (k = 8 ∧ s = 37 ∧ n = 3) ∨ (k = 13 ∧ s = 64 ∧ n = 1)
def ep_Kn (k : Nat) : Prop := k = 2 ∨ k = 5 ∨ k = 7 ∨ k = 13
/-- node e is E number (φ e).1 of the model, from its part (φ e).2 on -/
def ep_Nd1 (φ : Nat → Nat × Nat) (C G : em_M) (e : Nat) : Prop :=
  (C.1 2 e = nI 11) ∧
  ((φ e).2 = 0) ∧
  (G.1 122 (φ e).1 = nI 48) ∧
  (G.1 124 (φ e).1 = nI 0) ∧
  (C.1 3 e = G.1 123 (φ e).1)
theorem ep_Nd1.hk {φ : Nat → Nat × Nat} {C G : em_M} {e : Nat} (h : ep_Nd1 φ C G e) : C.1 2 e = nI 11 := h.1
theorem ep_Nd1.ho {φ : Nat → Nat × Nat} {C G : em_M} {e : Nat} (h : ep_Nd1 φ C G e) : (φ e).2 = 0 := h.2.1
theorem ep_Nd1.hs {φ : Nat → Nat × Nat} {C G : em_M} {e : Nat} (h : ep_Nd1 φ C G e) : G.1 122 (φ e).1 = nI 48 := h.2.2.1
theorem ep_Nd1.hn {φ : Nat → Nat × Nat} {C G : em_M} {e : Nat} (h : ep_Nd1 φ C G e) : G.1 124 (φ e).1 = nI 0 := h.2.2.2.1
theorem ep_Nd1.hm {φ : Nat → Nat × Nat} {C G : em_M} {e : Nat} (h : ep_Nd1 φ C G e) : C.1 3 e = G.1 123 (φ e).1 := h.2.2.2.2
theorem ep_Nd1.mk {φ : Nat → Nat × Nat} {C G : em_M} {e : Nat} (hk : C.1 2 e = nI 11) (ho : (φ e).2 = 0) (hs : G.1 122 (φ e).1 = nI 48) (hn : G.1 124 (φ e).1 = nI 0) (hm : C.1 3 e = G.1 123 (φ e).1) : ep_Nd1 φ C G e :=
  ⟨hk, ho, hs, hn, hm⟩
def ep_Nd2 (φ : Nat → Nat × Nat) (C G : em_M) (e a : Nat) : Prop :=
  (C.1 2 e = nI 12) ∧
  ((φ e).2 = 0) ∧
  (G.1 122 (φ e).1 = nI 97) ∧
  (G.1 124 (φ e).1 = nI 0) ∧
  (a < 4) ∧
  (C.1 3 e = nI a) ∧
  (G.1 123 (φ e).1 = nI a)
theorem ep_Nd2.hk {φ : Nat → Nat × Nat} {C G : em_M} {e a : Nat} (h : ep_Nd2 φ C G e a) : C.1 2 e = nI 12 := h.1
theorem ep_Nd2.ho {φ : Nat → Nat × Nat} {C G : em_M} {e a : Nat} (h : ep_Nd2 φ C G e a) : (φ e).2 = 0 := h.2.1
theorem ep_Nd2.hs {φ : Nat → Nat × Nat} {C G : em_M} {e a : Nat} (h : ep_Nd2 φ C G e a) : G.1 122 (φ e).1 = nI 97 := h.2.2.1
theorem ep_Nd2.hn {φ : Nat → Nat × Nat} {C G : em_M} {e a : Nat} (h : ep_Nd2 φ C G e a) : G.1 124 (φ e).1 = nI 0 := h.2.2.2.1
theorem ep_Nd2.ha {φ : Nat → Nat × Nat} {C G : em_M} {e a : Nat} (h : ep_Nd2 φ C G e a) : a < 4 := h.2.2.2.2.1
theorem ep_Nd2.hm {φ : Nat → Nat × Nat} {C G : em_M} {e a : Nat} (h : ep_Nd2 φ C G e a) : C.1 3 e = nI a := h.2.2.2.2.2.1
theorem ep_Nd2.hm' {φ : Nat → Nat × Nat} {C G : em_M} {e a : Nat} (h : ep_Nd2 φ C G e a) : G.1 123 (φ e).1 = nI a := h.2.2.2.2.2.2
theorem ep_Nd2.mk {φ : Nat → Nat × Nat} {C G : em_M} {e a : Nat} (hk : C.1 2 e = nI 12) (ho : (φ e).2 = 0) (hs : G.1 122 (φ e).1 = nI 97) (hn : G.1 124 (φ e).1 = nI 0) (ha : a < 4) (hm : C.1 3 e = nI a) (hm' : G.1 123 (φ e).1 = nI a) : ep_Nd2 φ C G e a :=
  ⟨hk, ho, hs, hn, ha, hm, hm'⟩
def ep_Nd3 (φ : Nat → Nat × Nat) (u : Nat) (C G : em_M) (e n p : Nat) : Prop :=
  ((C.1 2 e = nI 3 ∧ (φ e).2 = 0) ∨ (C.1 2 e = nI 14 ∧ 0 < (φ e).2)) ∧
  (G.1 122 (φ e).1 = nI 91) ∧
  (G.1 124 (φ e).1 = nI n) ∧
  (n ≤ 5) ∧
  ((φ e).2 < n) ∧
  (p < u) ∧
  (C.1 4 (3 * e) = nI p) ∧
  ((φ p).2 = 0) ∧
  (G.1 125 (5 * (φ e).1 + (φ e).2) = nI (φ p).1) ∧
  ((φ e).2 + 1 = n → C.1 4 (3 * e + 1) = -1) ∧
  ((φ e).2 + 1 < n → ∃ q, q < u ∧ C.1 4 (3 * e + 1) = nI q ∧ φ q = ((φ e).1, (φ e).2 + 1))
theorem ep_Nd3.hk {φ : Nat → Nat × Nat} {u : Nat} {C G : em_M} {e n p : Nat} (h : ep_Nd3 φ u C G e n p) : (C.1 2 e = nI 3 ∧ (φ e).2 = 0) ∨ (C.1 2 e = nI 14 ∧ 0 < (φ e).2) := h.1
theorem ep_Nd3.hs {φ : Nat → Nat × Nat} {u : Nat} {C G : em_M} {e n p : Nat} (h : ep_Nd3 φ u C G e n p) : G.1 122 (φ e).1 = nI 91 := h.2.1
theorem ep_Nd3.hn {φ : Nat → Nat × Nat} {u : Nat} {C G : em_M} {e n p : Nat} (h : ep_Nd3 φ u C G e n p) : G.1 124 (φ e).1 = nI n := h.2.2.1
theorem ep_Nd3.hn5 {φ : Nat → Nat × Nat} {u : Nat} {C G : em_M} {e n p : Nat} (h : ep_Nd3 φ u C G e n p) : n ≤ 5 := h.2.2.2.1
theorem ep_Nd3.ho {φ : Nat → Nat × Nat} {u : Nat} {C G : em_M} {e n p : Nat} (h : ep_Nd3 φ u C G e n p) : (φ e).2 < n := h.2.2.2.2.1
theorem ep_Nd3.hp {φ : Nat → Nat × Nat} {u : Nat} {C G : em_M} {e n p : Nat} (h : ep_Nd3 φ u C G e n p) : p < u := h.2.2.2.2.2.1
theorem ep_Nd3.h0 {φ : Nat → Nat × Nat} {u : Nat} {C G : em_M} {e n p : Nat} (h : ep_Nd3 φ u C G e n p) : C.1 4 (3 * e) = nI p := h.2.2.2.2.2.2.1
theorem ep_Nd3.hp0 {φ : Nat → Nat × Nat} {u : Nat} {C G : em_M} {e n p : Nat} (h : ep_Nd3 φ u C G e n p) : (φ p).2 = 0 := h.2.2.2.2.2.2.2.1
theorem ep_Nd3.hp1 {φ : Nat → Nat × Nat} {u : Nat} {C G : em_M} {e n p : Nat} (h : ep_Nd3 φ u C G e n p) : G.1 125 (5 * (φ e).1 + (φ e).2) = nI (φ p).1 := h.2.2.2.2.2.2.2.2.1
theorem ep_Nd3.hl {φ : Nat → Nat × Nat} {u : Nat} {C G : em_M} {e n p : Nat} (h : ep_Nd3 φ u C G e n p) : (φ e).2 + 1 = n → C.1 4 (3 * e + 1) = -1 := h.2.2.2.2.2.2.2.2.2.1
theorem ep_Nd3.hr {φ : Nat → Nat × Nat} {u : Nat} {C G : em_M} {e n p : Nat} (h : ep_Nd3 φ u C G e n p) : (φ e).2 + 1 < n → ∃ q, q < u ∧ C.1 4 (3 * e + 1) = nI q ∧ φ q = ((φ e).1, (φ e).2 + 1) := h.2.2.2.2.2.2.2.2.2.2
theorem ep_Nd3.mk {φ : Nat → Nat × Nat} {u : Nat} {C G : em_M} {e n p : Nat} (hk : (C.1 2 e = nI 3 ∧ (φ e).2 = 0) ∨ (C.1 2 e = nI 14 ∧ 0 < (φ e).2)) (hs : G.1 122 (φ e).1 = nI 91) (hn : G.1 124 (φ e).1 = nI n) (hn5 : n ≤ 5) (ho : (φ e).2 < n) (hp : p < u) (h0 : C.1 4 (3 * e) = nI p) (hp0 : (φ p).2 = 0) (hp1 : G.1 125 (5 * (φ e).1 + (φ e).2) = nI (φ p).1) (hl : (φ e).2 + 1 = n → C.1 4 (3 * e + 1) = -1) (hr : (φ e).2 + 1 < n → ∃ q, q < u ∧ C.1 4 (3 * e + 1) = nI q ∧ φ q = ((φ e).1, (φ e).2 + 1)) : ep_Nd3 φ u C G e n p :=
  ⟨hk, hs, hn, hn5, ho, hp, h0, hp0, hp1, hl, hr⟩
def ep_Nd4 (φ : Nat → Nat × Nat) (u : Nat) (C G : em_M) (e kd sg np : Nat) : Prop :=
  (ep_K kd sg np) ∧
  (C.1 2 e = nI kd) ∧
  ((φ e).2 = 0) ∧
  (G.1 122 (φ e).1 = nI sg) ∧
  (G.1 124 (φ e).1 = nI np) ∧
  (∀ k, k < np → ep_Pt φ u C G e k) ∧
  (kd = 0 → C.1 3 e = nI sg) ∧
  (kd = 4 → C.1 3 e = nI (sg - 70)) ∧
  (ep_Kn kd → ∃ a, a < 4 ∧ C.1 3 e = nI a ∧ G.1 123 (φ e).1 = nI a)
theorem ep_Nd4.hK {φ : Nat → Nat × Nat} {u : Nat} {C G : em_M} {e kd sg np : Nat} (h : ep_Nd4 φ u C G e kd sg np) : ep_K kd sg np := h.1
theorem ep_Nd4.hk {φ : Nat → Nat × Nat} {u : Nat} {C G : em_M} {e kd sg np : Nat} (h : ep_Nd4 φ u C G e kd sg np) : C.1 2 e = nI kd := h.2.1
theorem ep_Nd4.ho {φ : Nat → Nat × Nat} {u : Nat} {C G : em_M} {e kd sg np : Nat} (h : ep_Nd4 φ u C G e kd sg np) : (φ e).2 = 0 := h.2.2.1
theorem ep_Nd4.hs {φ : Nat → Nat × Nat} {u : Nat} {C G : em_M} {e kd sg np : Nat} (h : ep_Nd4 φ u C G e kd sg np) : G.1 122 (φ e).1 = nI sg := h.2.2.2.1
theorem ep_Nd4.hn {φ : Nat → Nat × Nat} {u : Nat} {C G : em_M} {e kd sg np : Nat} (h : ep_Nd4 φ u C G e kd sg np) : G.1 124 (φ e).1 = nI np := h.2.2.2.2.1
theorem ep_Nd4.hp {φ : Nat → Nat × Nat} {u : Nat} {C G : em_M} {e kd sg np : Nat} (h : ep_Nd4 φ u C G e kd sg np) : ∀ k, k < np → ep_Pt φ u C G e k := h.2.2.2.2.2.1
theorem ep_Nd4.hm {φ : Nat → Nat × Nat} {u : Nat} {C G : em_M} {e kd sg np : Nat} (h : ep_Nd4 φ u C G e kd sg np) : kd = 0 → C.1 3 e = nI sg := h.2.2.2.2.2.2.1
theorem ep_Nd4.hf {φ : Nat → Nat × Nat} {u : Nat} {C G : em_M} {e kd sg np : Nat} (h : ep_Nd4 φ u C G e kd sg np) : kd = 4 → C.1 3 e = nI (sg - 70) := h.2.2.2.2.2.2.2.1
theorem ep_Nd4.ha {φ : Nat → Nat × Nat} {u : Nat} {C G : em_M} {e kd sg np : Nat} (h : ep_Nd4 φ u C G e kd sg np) : ep_Kn kd → ∃ a, a < 4 ∧ C.1 3 e = nI a ∧ G.1 123 (φ e).1 = nI a := h.2.2.2.2.2.2.2.2
theorem ep_Nd4.mk {φ : Nat → Nat × Nat} {u : Nat} {C G : em_M} {e kd sg np : Nat} (hK : ep_K kd sg np) (hk : C.1 2 e = nI kd) (ho : (φ e).2 = 0) (hs : G.1 122 (φ e).1 = nI sg) (hn : G.1 124 (φ e).1 = nI np) (hp : ∀ k, k < np → ep_Pt φ u C G e k) (hm : kd = 0 → C.1 3 e = nI sg) (hf : kd = 4 → C.1 3 e = nI (sg - 70)) (ha : ep_Kn kd → ∃ a, a < 4 ∧ C.1 3 e = nI a ∧ G.1 123 (φ e).1 = nI a) : ep_Nd4 φ u C G e kd sg np :=
  ⟨hK, hk, ho, hs, hn, hp, hm, hf, ha⟩
def ep_Nk (φ : Nat → Nat × Nat) (u : Nat) (C G : em_M) (e : Nat) : Prop :=
  ep_Nd1 φ C G e ∨ (∃ a, ep_Nd2 φ C G e a) ∨ (∃ n p, ep_Nd3 φ u C G e n p) ∨ (∃ kd sg np, ep_Nd4 φ u C G e kd sg np)
/-- where part k of node e lies -/
def ep_pt (C : em_M) (e k : Nat) : Nat := (C.1 4 (3 * e + k)).toNatClampNeg
/-- how deep the E of a node is, and how many last CALLS it has (of a list's rest: those of the list as if it began there) -/
def ep_Dl (D : Nat → Nat × Nat) (C : em_M) (e : Nat) : Prop :=
  (C.1 2 e = nI 11 ∨ C.1 2 e = nI 12 → D e = (1, 0)) ∧
  (C.1 2 e = nI 3 ∨ C.1 2 e = nI 14 → D e = if C.1 4 (3 * e + 1) = -1 then (1 + (D (ep_pt C e 0)).1, (D (ep_pt C e 0)).2) else (max (1 + (D (ep_pt C e 0)).1) (D (ep_pt C e 1)).1, (D (ep_pt C e 1)).2)) ∧
  (C.1 2 e = nI 4 → D e = (1 + (D (ep_pt C e 0)).1, 1)) ∧
  (C.1 2 e = nI 5 ∨ C.1 2 e = nI 6 ∨ C.1 2 e = nI 7 → D e = (1 + (D (ep_pt C e 0)).1, 0)) ∧
  (C.1 2 e = nI 13 → D e = (1 + (D (ep_pt C e 0)).1, (D (ep_pt C e 0)).2)) ∧
  (C.1 2 e = nI 0 → D e = (1 + max (D (ep_pt C e 0)).1 (D (ep_pt C e 1)).1, 0)) ∧
  (C.1 2 e = nI 2 → D e = (1 + max (D (ep_pt C e 0)).1 (D (ep_pt C e 1)).1, (D (ep_pt C e 1)).2)) ∧
  (C.1 2 e = nI 1 → D e = (1 + max (D (ep_pt C e 0)).1 (max (D (ep_pt C e 1)).1 (D (ep_pt C e 2)).1), (D (ep_pt C e 1)).2 + (D (ep_pt C e 2)).2)) ∧
  (C.1 2 e = nI 8 → D e = (1 + max (D (ep_pt C e 0)).1 (max (D (ep_pt C e 1)).1 (D (ep_pt C e 2)).1), 0))
/-- how many of n numbers of a row, from `b` on, are 64 -/
def ep_ct (r : Nat → Int32) (b : Nat) : Nat → Nat
  | 0 => 0
  | n + 1 => ep_ct r b n + if r (b + n) = nI 64 then 1 else 0
def ep_Ln (φ D : Nat → Nat × Nat) (u nl : Nat) (C G : em_M) : Prop :=
  (nl ≤ 8) ∧
  (u ≤ 100 * nl) ∧
  (C.1 1 0 = nI nl) ∧
  (G.1 118 9 = nI nl) ∧
  (C.1 1 1 = nI u) ∧
  (∀ e, e < u → (φ e).1 < 101 * nl) ∧
  (∀ e, e < u → ep_Nk φ u C G e) ∧
  (∀ e, e < u → ep_Dl D C e ∧ (D e).1 ≤ 8) ∧
  (∀ l, l < nl → ∃ e, e < u ∧ C.1 7 l = nI e ∧ φ e = (101 * l, 0) ∧ C.1 8 (4 * l + 1) = nI (D e).1 ∧ C.1 8 (4 * l + 3) = nI (D e).2) ∧
  (∀ l, l < nl → ∃ n, n ≤ 101 ∧ G.1 126 l = nI n ∧ C.1 8 (4 * l) = nI n ∧ C.1 8 (4 * l + 2) = nI (ep_ct (G.1 122) (101 * l) n)) ∧
  (∀ k, 4 * nl ≤ k → k < 32 → C.1 8 k = 0)
theorem ep_Ln.n8 {φ D : Nat → Nat × Nat} {u nl : Nat} {C G : em_M} (h : ep_Ln φ D u nl C G) : nl ≤ 8 := h.1
theorem ep_Ln.hu {φ D : Nat → Nat × Nat} {u nl : Nat} {C G : em_M} (h : ep_Ln φ D u nl C G) : u ≤ 100 * nl := h.2.1
theorem ep_Ln.sz {φ D : Nat → Nat × Nat} {u nl : Nat} {C G : em_M} (h : ep_Ln φ D u nl C G) : C.1 1 0 = nI nl := h.2.2.1
theorem ep_Ln.sm {φ D : Nat → Nat × Nat} {u nl : Nat} {C G : em_M} (h : ep_Ln φ D u nl C G) : G.1 118 9 = nI nl := h.2.2.2.1
theorem ep_Ln.us {φ D : Nat → Nat × Nat} {u nl : Nat} {C G : em_M} (h : ep_Ln φ D u nl C G) : C.1 1 1 = nI u := h.2.2.2.2.1
theorem ep_Ln.hm {φ D : Nat → Nat × Nat} {u nl : Nat} {C G : em_M} (h : ep_Ln φ D u nl C G) : ∀ e, e < u → (φ e).1 < 101 * nl := h.2.2.2.2.2.1
theorem ep_Ln.nd {φ D : Nat → Nat × Nat} {u nl : Nat} {C G : em_M} (h : ep_Ln φ D u nl C G) : ∀ e, e < u → ep_Nk φ u C G e := h.2.2.2.2.2.2.1
theorem ep_Ln.dl {φ D : Nat → Nat × Nat} {u nl : Nat} {C G : em_M} (h : ep_Ln φ D u nl C G) : ∀ e, e < u → ep_Dl D C e ∧ (D e).1 ≤ 8 := h.2.2.2.2.2.2.2.1
theorem ep_Ln.ro {φ D : Nat → Nat × Nat} {u nl : Nat} {C G : em_M} (h : ep_Ln φ D u nl C G) : ∀ l, l < nl → ∃ e, e < u ∧ C.1 7 l = nI e ∧ φ e = (101 * l, 0) ∧ C.1 8 (4 * l + 1) = nI (D e).1 ∧ C.1 8 (4 * l + 3) = nI (D e).2 := h.2.2.2.2.2.2.2.2.1
theorem ep_Ln.fa {φ D : Nat → Nat × Nat} {u nl : Nat} {C G : em_M} (h : ep_Ln φ D u nl C G) : ∀ l, l < nl → ∃ n, n ≤ 101 ∧ G.1 126 l = nI n ∧ C.1 8 (4 * l) = nI n ∧ C.1 8 (4 * l + 2) = nI (ep_ct (G.1 122) (101 * l) n) := h.2.2.2.2.2.2.2.2.2.1
theorem ep_Ln.fz {φ D : Nat → Nat × Nat} {u nl : Nat} {C G : em_M} (h : ep_Ln φ D u nl C G) : ∀ k, 4 * nl ≤ k → k < 32 → C.1 8 k = 0 := h.2.2.2.2.2.2.2.2.2.2
theorem ep_Ln.mk {φ D : Nat → Nat × Nat} {u nl : Nat} {C G : em_M} (n8 : nl ≤ 8) (hu : u ≤ 100 * nl) (sz : C.1 1 0 = nI nl) (sm : G.1 118 9 = nI nl) (us : C.1 1 1 = nI u) (hm : ∀ e, e < u → (φ e).1 < 101 * nl) (nd : ∀ e, e < u → ep_Nk φ u C G e) (dl : ∀ e, e < u → ep_Dl D C e ∧ (D e).1 ≤ 8) (ro : ∀ l, l < nl → ∃ e, e < u ∧ C.1 7 l = nI e ∧ φ e = (101 * l, 0) ∧ C.1 8 (4 * l + 1) = nI (D e).1 ∧ C.1 8 (4 * l + 3) = nI (D e).2) (fa : ∀ l, l < nl → ∃ n, n ≤ 101 ∧ G.1 126 l = nI n ∧ C.1 8 (4 * l) = nI n ∧ C.1 8 (4 * l + 2) = nI (ep_ct (G.1 122) (101 * l) n)) (fz : ∀ k, 4 * nl ≤ k → k < 32 → C.1 8 k = 0) : ep_Ln φ D u nl C G :=
  ⟨n8, hu, sz, sm, us, hm, nd, dl, ro, fa, fz⟩
/-- the first WINDER beyond `row` on the row that ends with `kept`, 0: there is none -/
def ep_nx (bw : Nat → Nat) (row : Nat) : Nat → Nat → Nat
  | 0, _ => 0
  | fu + 1, kept => if kept = 0 then 0 else if bw kept = row then kept else ep_nx bw row fu (bw kept)
/-- what a RUN has made so far: how many frames, scopes, winders, escapes; what each frame, winder and escape hangs on -/
def ep_H : Type := (Nat × Nat × Nat × Nat) × ((Nat → Nat) × (Nat → Nat)) × ((Nat → Nat) × (Nat → Nat)) × ((Nat → Nat) × (Nat → Nat))
def ep_H.nf (H : ep_H) : Nat := H.1.1
def ep_H.ns (H : ep_H) : Nat := H.1.2.1
def ep_H.nw (H : ep_H) : Nat := H.1.2.2.1
def ep_H.ne (H : ep_H) : Nat := H.1.2.2.2
def ep_H.fb (H : ep_H) : Nat → Nat := H.2.1.1
def ep_H.W (H : ep_H) : Nat → Nat := H.2.1.2
def ep_H.bw (H : ep_H) : Nat → Nat := H.2.2.1.1
def ep_H.hw (H : ep_H) : Nat → Nat := H.2.2.1.2
def ep_H.kc (H : ep_H) : Nat → Nat := H.2.2.2.1
def ep_H.kw (H : ep_H) : Nat → Nat := H.2.2.2.2
/-- a frame at work on an E: sort, what is behind, the model's number -/
def ep_S (k b m : Nat) : Prop :=
  (k = 0 ∧ b = 0 ∧ m = 0) ∨ (k = 0 ∧ b = 1 ∧ m = 1) ∨ (k = 1 ∧ b = 0 ∧ m = 2) ∨ (k = 2 ∧ b = 0 ∧ m = 3) ∨ (k = 4 ∧ b = 0 ∧ m = 5) ∨ (k = 5 ∧ b = 0 ∧ m = 6) ∨
  (k = 6 ∧ b = 0 ∧ m = 7) ∨ (k = 7 ∧ b = 0 ∧ m = 8) ∨ (k = 8 ∧ b = 0 ∧ m = 9) ∨ (k = 8 ∧ b = 1 ∧ m = 10) ∨ (k = 8 ∧ b = 2 ∧ m = 11)
def ep_F1 (φ : Nat → Nat × Nat) (u : Nat) (H : ep_H) (w g : Nat) (C G : em_M) (f so be wh e sc : Nat) : Prop :=
  (ep_S so be wh) ∧
  (C.1 (w + 11) (f + 1) = nI so) ∧
  (C.1 (w + 12) (f + 1) = nI be) ∧
  (G.1 g (120 + 8 * f) = nI wh) ∧
  (e < u) ∧
  (C.1 2 e = nI so) ∧
  (C.1 (w + 13) (f + 1) = nI e) ∧
  (G.1 g (120 + 8 * f + 1) = nI (φ e).1) ∧
  (sc ≤ H.ns) ∧
  (C.1 (w + 14) (f + 1) = nI sc) ∧
  (G.1 g (120 + 8 * f + 2) = nI sc - 1) ∧
  (H.fb (f + 1) ≠ 0 → be ≠ 1 ∨ so ≠ 8 → H.W (f + 1) = H.W (H.fb (f + 1))) ∧
  (so = 8 → be = 1 → 0 < H.W (f + 1) ∧ (H.fb (f + 1) ≠ 0 → H.bw (H.W (f + 1)) = H.W (H.fb (f + 1)))) ∧
  (so = 5 → ∃ x, x < H.ne ∧ C.1 (w + 15) (f + 1) = nI x ∧ G.1 g (120 + 8 * f + 7) = nI x) ∧
  (wh = 1 ∨ wh = 11 → ep_Th H.ne (C.2 (w + 16) (f + 1)) (G.1 g (120 + 8 * f + 3)) (G.1 g (120 + 8 * f + 4)))
theorem ep_F1.hS {φ : Nat → Nat × Nat} {u : Nat} {H : ep_H} {w g : Nat} {C G : em_M} {f so be wh e sc : Nat} (h : ep_F1 φ u H w g C G f so be wh e sc) : ep_S so be wh := h.1
theorem ep_F1.hs {φ : Nat → Nat × Nat} {u : Nat} {H : ep_H} {w g : Nat} {C G : em_M} {f so be wh e sc : Nat} (h : ep_F1 φ u H w g C G f so be wh e sc) : C.1 (w + 11) (f + 1) = nI so := h.2.1
theorem ep_F1.hb {φ : Nat → Nat × Nat} {u : Nat} {H : ep_H} {w g : Nat} {C G : em_M} {f so be wh e sc : Nat} (h : ep_F1 φ u H w g C G f so be wh e sc) : C.1 (w + 12) (f + 1) = nI be := h.2.2.1
theorem ep_F1.hw {φ : Nat → Nat × Nat} {u : Nat} {H : ep_H} {w g : Nat} {C G : em_M} {f so be wh e sc : Nat} (h : ep_F1 φ u H w g C G f so be wh e sc) : G.1 g (120 + 8 * f) = nI wh := h.2.2.2.1
theorem ep_F1.he {φ : Nat → Nat × Nat} {u : Nat} {H : ep_H} {w g : Nat} {C G : em_M} {f so be wh e sc : Nat} (h : ep_F1 φ u H w g C G f so be wh e sc) : e < u := h.2.2.2.2.1
theorem ep_F1.hk {φ : Nat → Nat × Nat} {u : Nat} {H : ep_H} {w g : Nat} {C G : em_M} {f so be wh e sc : Nat} (h : ep_F1 φ u H w g C G f so be wh e sc) : C.1 2 e = nI so := h.2.2.2.2.2.1
theorem ep_F1.he1 {φ : Nat → Nat × Nat} {u : Nat} {H : ep_H} {w g : Nat} {C G : em_M} {f so be wh e sc : Nat} (h : ep_F1 φ u H w g C G f so be wh e sc) : C.1 (w + 13) (f + 1) = nI e := h.2.2.2.2.2.2.1
theorem ep_F1.he2 {φ : Nat → Nat × Nat} {u : Nat} {H : ep_H} {w g : Nat} {C G : em_M} {f so be wh e sc : Nat} (h : ep_F1 φ u H w g C G f so be wh e sc) : G.1 g (120 + 8 * f + 1) = nI (φ e).1 := h.2.2.2.2.2.2.2.1
theorem ep_F1.hc {φ : Nat → Nat × Nat} {u : Nat} {H : ep_H} {w g : Nat} {C G : em_M} {f so be wh e sc : Nat} (h : ep_F1 φ u H w g C G f so be wh e sc) : sc ≤ H.ns := h.2.2.2.2.2.2.2.2.1
theorem ep_F1.hc1 {φ : Nat → Nat × Nat} {u : Nat} {H : ep_H} {w g : Nat} {C G : em_M} {f so be wh e sc : Nat} (h : ep_F1 φ u H w g C G f so be wh e sc) : C.1 (w + 14) (f + 1) = nI sc := h.2.2.2.2.2.2.2.2.2.1
theorem ep_F1.hc2 {φ : Nat → Nat × Nat} {u : Nat} {H : ep_H} {w g : Nat} {C G : em_M} {f so be wh e sc : Nat} (h : ep_F1 φ u H w g C G f so be wh e sc) : G.1 g (120 + 8 * f + 2) = nI sc - 1 := h.2.2.2.2.2.2.2.2.2.2.1
theorem ep_F1.hW {φ : Nat → Nat × Nat} {u : Nat} {H : ep_H} {w g : Nat} {C G : em_M} {f so be wh e sc : Nat} (h : ep_F1 φ u H w g C G f so be wh e sc) : H.fb (f + 1) ≠ 0 → be ≠ 1 ∨ so ≠ 8 → H.W (f + 1) = H.W (H.fb (f + 1)) := h.2.2.2.2.2.2.2.2.2.2.2.1
theorem ep_F1.hW1 {φ : Nat → Nat × Nat} {u : Nat} {H : ep_H} {w g : Nat} {C G : em_M} {f so be wh e sc : Nat} (h : ep_F1 φ u H w g C G f so be wh e sc) : so = 8 → be = 1 → 0 < H.W (f + 1) ∧ (H.fb (f + 1) ≠ 0 → H.bw (H.W (f + 1)) = H.W (H.fb (f + 1))) := h.2.2.2.2.2.2.2.2.2.2.2.2.1
theorem ep_F1.hx {φ : Nat → Nat × Nat} {u : Nat} {H : ep_H} {w g : Nat} {C G : em_M} {f so be wh e sc : Nat} (h : ep_F1 φ u H w g C G f so be wh e sc) : so = 5 → ∃ x, x < H.ne ∧ C.1 (w + 15) (f + 1) = nI x ∧ G.1 g (120 + 8 * f + 7) = nI x := h.2.2.2.2.2.2.2.2.2.2.2.2.2.1
theorem ep_F1.ht {φ : Nat → Nat × Nat} {u : Nat} {H : ep_H} {w g : Nat} {C G : em_M} {f so be wh e sc : Nat} (h : ep_F1 φ u H w g C G f so be wh e sc) : wh = 1 ∨ wh = 11 → ep_Th H.ne (C.2 (w + 16) (f + 1)) (G.1 g (120 + 8 * f + 3)) (G.1 g (120 + 8 * f + 4)) := h.2.2.2.2.2.2.2.2.2.2.2.2.2.2
theorem ep_F1.mk {φ : Nat → Nat × Nat} {u : Nat} {H : ep_H} {w g : Nat} {C G : em_M} {f so be wh e sc : Nat} (hS : ep_S so be wh) (hs : C.1 (w + 11) (f + 1) = nI so) (hb : C.1 (w + 12) (f + 1) = nI be) (hw : G.1 g (120 + 8 * f) = nI wh) (he : e < u) (hk : C.1 2 e = nI so) (he1 : C.1 (w + 13) (f + 1) = nI e) (he2 : G.1 g (120 + 8 * f + 1) = nI (φ e).1) (hc : sc ≤ H.ns) (hc1 : C.1 (w + 14) (f + 1) = nI sc) (hc2 : G.1 g (120 + 8 * f + 2) = nI sc - 1) (hW : H.fb (f + 1) ≠ 0 → be ≠ 1 ∨ so ≠ 8 → H.W (f + 1) = H.W (H.fb (f + 1))) (hW1 : so = 8 → be = 1 → 0 < H.W (f + 1) ∧ (H.fb (f + 1) ≠ 0 → H.bw (H.W (f + 1)) = H.W (H.fb (f + 1)))) (hx : so = 5 → ∃ x, x < H.ne ∧ C.1 (w + 15) (f + 1) = nI x ∧ G.1 g (120 + 8 * f + 7) = nI x) (ht : wh = 1 ∨ wh = 11 → ep_Th H.ne (C.2 (w + 16) (f + 1)) (G.1 g (120 + 8 * f + 3)) (G.1 g (120 + 8 * f + 4))) : ep_F1 φ u H w g C G f so be wh e sc :=
  ⟨hS, hs, hb, hw, he, hk, he1, he2, hc, hc1, hc2, hW, hW1, hx, ht⟩
def ep_F2 (φ : Nat → Nat × Nat) (u : Nat) (H : ep_H) (w g : Nat) (C G : em_M) (f e sc q : Nat) : Prop :=
  (C.1 (w + 11) (f + 1) = nI 3) ∧
  (G.1 g (120 + 8 * f) = nI 4) ∧
  (e < u) ∧
  (q < u) ∧
  (C.1 4 (3 * e + 1) = nI q) ∧
  (φ q = ((φ e).1, (φ e).2 + 1)) ∧
  (C.1 (w + 13) (f + 1) = nI e) ∧
  (G.1 g (120 + 8 * f + 1) = nI (φ e).1) ∧
  (sc ≤ H.ns) ∧
  (C.1 (w + 14) (f + 1) = nI sc) ∧
  (G.1 g (120 + 8 * f + 2) = nI sc - 1) ∧
  (H.fb (f + 1) ≠ 0 → H.W (f + 1) = H.W (H.fb (f + 1))) ∧
  (G.1 g (120 + 8 * f + 7) = nI ((φ e).2 + 1))
theorem ep_F2.hs {φ : Nat → Nat × Nat} {u : Nat} {H : ep_H} {w g : Nat} {C G : em_M} {f e sc q : Nat} (h : ep_F2 φ u H w g C G f e sc q) : C.1 (w + 11) (f + 1) = nI 3 := h.1
theorem ep_F2.hw {φ : Nat → Nat × Nat} {u : Nat} {H : ep_H} {w g : Nat} {C G : em_M} {f e sc q : Nat} (h : ep_F2 φ u H w g C G f e sc q) : G.1 g (120 + 8 * f) = nI 4 := h.2.1
theorem ep_F2.he {φ : Nat → Nat × Nat} {u : Nat} {H : ep_H} {w g : Nat} {C G : em_M} {f e sc q : Nat} (h : ep_F2 φ u H w g C G f e sc q) : e < u := h.2.2.1
theorem ep_F2.hq {φ : Nat → Nat × Nat} {u : Nat} {H : ep_H} {w g : Nat} {C G : em_M} {f e sc q : Nat} (h : ep_F2 φ u H w g C G f e sc q) : q < u := h.2.2.2.1
theorem ep_F2.hk {φ : Nat → Nat × Nat} {u : Nat} {H : ep_H} {w g : Nat} {C G : em_M} {f e sc q : Nat} (h : ep_F2 φ u H w g C G f e sc q) : C.1 4 (3 * e + 1) = nI q := h.2.2.2.2.1
theorem ep_F2.hq1 {φ : Nat → Nat × Nat} {u : Nat} {H : ep_H} {w g : Nat} {C G : em_M} {f e sc q : Nat} (h : ep_F2 φ u H w g C G f e sc q) : φ q = ((φ e).1, (φ e).2 + 1) := h.2.2.2.2.2.1
theorem ep_F2.he1 {φ : Nat → Nat × Nat} {u : Nat} {H : ep_H} {w g : Nat} {C G : em_M} {f e sc q : Nat} (h : ep_F2 φ u H w g C G f e sc q) : C.1 (w + 13) (f + 1) = nI e := h.2.2.2.2.2.2.1
theorem ep_F2.he2 {φ : Nat → Nat × Nat} {u : Nat} {H : ep_H} {w g : Nat} {C G : em_M} {f e sc q : Nat} (h : ep_F2 φ u H w g C G f e sc q) : G.1 g (120 + 8 * f + 1) = nI (φ e).1 := h.2.2.2.2.2.2.2.1
theorem ep_F2.hc {φ : Nat → Nat × Nat} {u : Nat} {H : ep_H} {w g : Nat} {C G : em_M} {f e sc q : Nat} (h : ep_F2 φ u H w g C G f e sc q) : sc ≤ H.ns := h.2.2.2.2.2.2.2.2.1
theorem ep_F2.hc1 {φ : Nat → Nat × Nat} {u : Nat} {H : ep_H} {w g : Nat} {C G : em_M} {f e sc q : Nat} (h : ep_F2 φ u H w g C G f e sc q) : C.1 (w + 14) (f + 1) = nI sc := h.2.2.2.2.2.2.2.2.2.1
theorem ep_F2.hc2 {φ : Nat → Nat × Nat} {u : Nat} {H : ep_H} {w g : Nat} {C G : em_M} {f e sc q : Nat} (h : ep_F2 φ u H w g C G f e sc q) : G.1 g (120 + 8 * f + 2) = nI sc - 1 := h.2.2.2.2.2.2.2.2.2.2.1
theorem ep_F2.hW {φ : Nat → Nat × Nat} {u : Nat} {H : ep_H} {w g : Nat} {C G : em_M} {f e sc q : Nat} (h : ep_F2 φ u H w g C G f e sc q) : H.fb (f + 1) ≠ 0 → H.W (f + 1) = H.W (H.fb (f + 1)) := h.2.2.2.2.2.2.2.2.2.2.2.1
theorem ep_F2.hx {φ : Nat → Nat × Nat} {u : Nat} {H : ep_H} {w g : Nat} {C G : em_M} {f e sc q : Nat} (h : ep_F2 φ u H w g C G f e sc q) : G.1 g (120 + 8 * f + 7) = nI ((φ e).2 + 1) := h.2.2.2.2.2.2.2.2.2.2.2.2
theorem ep_F2.mk {φ : Nat → Nat × Nat} {u : Nat} {H : ep_H} {w g : Nat} {C G : em_M} {f e sc q : Nat} (hs : C.1 (w + 11) (f + 1) = nI 3) (hw : G.1 g (120 + 8 * f) = nI 4) (he : e < u) (hq : q < u) (hk : C.1 4 (3 * e + 1) = nI q) (hq1 : φ q = ((φ e).1, (φ e).2 + 1)) (he1 : C.1 (w + 13) (f + 1) = nI e) (he2 : G.1 g (120 + 8 * f + 1) = nI (φ e).1) (hc : sc ≤ H.ns) (hc1 : C.1 (w + 14) (f + 1) = nI sc) (hc2 : G.1 g (120 + 8 * f + 2) = nI sc - 1) (hW : H.fb (f + 1) ≠ 0 → H.W (f + 1) = H.W (H.fb (f + 1))) (hx : G.1 g (120 + 8 * f + 7) = nI ((φ e).2 + 1)) : ep_F2 φ u H w g C G f e sc q :=
  ⟨hs, hw, he, hq, hk, hq1, he1, he2, hc, hc1, hc2, hW, hx⟩
def ep_F3 (H : ep_H) (w g : Nat) (C G : em_M) (f so wh x : Nat) : Prop :=
  (C.1 (w + 11) (f + 1) = nI so) ∧
  (G.1 g (120 + 8 * f) = nI wh) ∧
  ((so = 9 ∧ wh = 12) ∨ (so = 10 ∧ wh = 13)) ∧
  (H.fb (f + 1) = 0) ∧
  (x < H.ne) ∧
  (C.1 (w + 15) (f + 1) = nI x) ∧
  (G.1 g (120 + 8 * f + 7) = nI x) ∧
  (ep_Th H.ne (C.2 (w + 16) (f + 1)) (G.1 g (120 + 8 * f + 3)) (G.1 g (120 + 8 * f + 4))) ∧
  (so = 10 → ∃ v, v < H.nw ∧ G.1 g (120 + 8 * f + 1) = nI v ∧ ep_nx H.bw (H.W (f + 1)) (H.kw x) (H.kw x) = v + 1)
theorem ep_F3.hs {H : ep_H} {w g : Nat} {C G : em_M} {f so wh x : Nat} (h : ep_F3 H w g C G f so wh x) : C.1 (w + 11) (f + 1) = nI so := h.1
theorem ep_F3.hw {H : ep_H} {w g : Nat} {C G : em_M} {f so wh x : Nat} (h : ep_F3 H w g C G f so wh x) : G.1 g (120 + 8 * f) = nI wh := h.2.1
theorem ep_F3.hsw {H : ep_H} {w g : Nat} {C G : em_M} {f so wh x : Nat} (h : ep_F3 H w g C G f so wh x) : (so = 9 ∧ wh = 12) ∨ (so = 10 ∧ wh = 13) := h.2.2.1
theorem ep_F3.hb {H : ep_H} {w g : Nat} {C G : em_M} {f so wh x : Nat} (h : ep_F3 H w g C G f so wh x) : H.fb (f + 1) = 0 := h.2.2.2.1
theorem ep_F3.hx {H : ep_H} {w g : Nat} {C G : em_M} {f so wh x : Nat} (h : ep_F3 H w g C G f so wh x) : x < H.ne := h.2.2.2.2.1
theorem ep_F3.hx1 {H : ep_H} {w g : Nat} {C G : em_M} {f so wh x : Nat} (h : ep_F3 H w g C G f so wh x) : C.1 (w + 15) (f + 1) = nI x := h.2.2.2.2.2.1
theorem ep_F3.hx2 {H : ep_H} {w g : Nat} {C G : em_M} {f so wh x : Nat} (h : ep_F3 H w g C G f so wh x) : G.1 g (120 + 8 * f + 7) = nI x := h.2.2.2.2.2.2.1
theorem ep_F3.ht {H : ep_H} {w g : Nat} {C G : em_M} {f so wh x : Nat} (h : ep_F3 H w g C G f so wh x) : ep_Th H.ne (C.2 (w + 16) (f + 1)) (G.1 g (120 + 8 * f + 3)) (G.1 g (120 + 8 * f + 4)) := h.2.2.2.2.2.2.2.1
theorem ep_F3.hv {H : ep_H} {w g : Nat} {C G : em_M} {f so wh x : Nat} (h : ep_F3 H w g C G f so wh x) : so = 10 → ∃ v, v < H.nw ∧ G.1 g (120 + 8 * f + 1) = nI v ∧ ep_nx H.bw (H.W (f + 1)) (H.kw x) (H.kw x) = v + 1 := h.2.2.2.2.2.2.2.2
theorem ep_F3.mk {H : ep_H} {w g : Nat} {C G : em_M} {f so wh x : Nat} (hs : C.1 (w + 11) (f + 1) = nI so) (hw : G.1 g (120 + 8 * f) = nI wh) (hsw : (so = 9 ∧ wh = 12) ∨ (so = 10 ∧ wh = 13)) (hb : H.fb (f + 1) = 0) (hx : x < H.ne) (hx1 : C.1 (w + 15) (f + 1) = nI x) (hx2 : G.1 g (120 + 8 * f + 7) = nI x) (ht : ep_Th H.ne (C.2 (w + 16) (f + 1)) (G.1 g (120 + 8 * f + 3)) (G.1 g (120 + 8 * f + 4))) (hv : so = 10 → ∃ v, v < H.nw ∧ G.1 g (120 + 8 * f + 1) = nI v ∧ ep_nx H.bw (H.W (f + 1)) (H.kw x) (H.kw x) = v + 1) : ep_F3 H w g C G f so wh x :=
  ⟨hs, hw, hsw, hb, hx, hx1, hx2, ht, hv⟩
def ep_Fk (φ : Nat → Nat × Nat) (u : Nat) (H : ep_H) (w g : Nat) (C G : em_M) (f : Nat) : Prop :=
  (∃ so be wh e sc, ep_F1 φ u H w g C G f so be wh e sc) ∨ (∃ e sc q, ep_F2 φ u H w g C G f e sc q) ∨ (∃ so wh x, ep_F3 H w g C G f so wh x)
/-- a RUN that stands still between two STEPS -/
def ep_Rn (φ : Nat → Nat × Nat) (u : Nat) (H : ep_H) (s ch wi : Nat) (w g : Nat) (C G : em_M) : Prop :=
  (s < 300) ∧
  (H.nf ≤ s) ∧
  (H.ns ≤ s) ∧
  (H.nw ≤ s) ∧
  (H.ne ≤ s) ∧
  (C.1 (w + 8) 0 = nI (H.nf + 1)) ∧
  (G.1 g 21 = nI H.nf) ∧
  (C.1 (w + 6) 0 = nI (H.ns + 1)) ∧
  (G.1 g 22 = nI H.ns) ∧
  (C.1 (w + 17) 0 = nI (H.nw + 1)) ∧
  (G.1 g 23 = nI H.nw) ∧
  (C.1 (w + 3) 8 = nI H.ne) ∧
  (G.1 g 24 = nI H.ne) ∧
  (ch ≤ H.nf) ∧
  (C.1 (w + 3) 13 = nI ch) ∧
  (G.1 g 17 = nI ch - 1) ∧
  (wi ≤ H.nw) ∧
  (C.1 (w + 3) 14 = nI wi) ∧
  (G.1 g 18 = nI wi - 1) ∧
  (ch ≠ 0 → H.W ch = wi) ∧
  ((C.1 (w + 3) 9 = 0 ∧ G.1 g 13 = 0 ∧ ∃ e sc, e < u ∧ C.1 (w + 3) 10 = nI e ∧ G.1 g 14 = nI (φ e).1 ∧ G.1 g 15 = nI (φ e).2 ∧ sc ≤ H.ns ∧ C.1 (w + 3) 11 = nI sc ∧ G.1 g 16 = nI sc - 1) ∨ (C.1 (w + 3) 9 = 1 ∧ G.1 g 13 = 1 ∧ ep_Th H.ne (C.2 (w + 3) 12) (G.1 g 19) (G.1 g 20))) ∧
  (C.1 (w + 10) 0 = 0) ∧
  (∀ f, f < H.nf → H.fb (f + 1) ≤ f ∧ C.1 (w + 9) (f + 1) = nI (H.fb (f + 1)) ∧ G.1 g (120 + 8 * f + 5) = nI (H.fb (f + 1)) - 1) ∧
  (∀ f, f < H.nf → ∃ h, h ≤ 40 ∧ C.1 (w + 10) (f + 1) = nI h ∧ G.1 g (120 + 8 * f + 6) = nI h) ∧
  (∀ f, f < H.nf → H.W (f + 1) ≤ H.nw) ∧
  (∀ f, f < H.nf → ep_Fk φ u H w g C G f) ∧
  (∀ n, n < 4 → C.2 (w + 7) n = -9223372036854775808) ∧
  (∀ t, t < H.ns → ∃ nm sb, nm < 4 ∧ sb ≤ t ∧ G.1 g (2680 + 4 * t) = nI nm ∧ G.1 g (2680 + 4 * t + 3) = nI sb - 1 ∧ ep_Th H.ne (C.2 (w + 7) (4 * (t + 1) + nm)) (G.1 g (2680 + 4 * t + 1)) (G.1 g (2680 + 4 * t + 2)) ∧ ∀ n, n < 4 → n ≠ nm → C.2 (w + 7) (4 * (t + 1) + n) = C.2 (w + 7) (4 * sb + n)) ∧
  (H.hw 0 = 0 ∧ C.1 (w + 19) 0 = 0) ∧
  (∀ v, v < H.nw → H.bw (v + 1) ≤ v ∧ H.hw (v + 1) = H.hw (H.bw (v + 1)) + 1 ∧ H.hw (v + 1) ≤ v + 1 ∧ C.1 (w + 18) (v + 1) = nI (H.bw (v + 1)) ∧ C.1 (w + 19) (v + 1) = nI (H.hw (v + 1)) ∧ G.1 g (3960 + 4 * v + 2) = nI (H.bw (v + 1)) - 1) ∧
  (∀ v, v < H.nw → ∃ e sc, e < u ∧ C.1 2 e = nI 8 ∧ C.1 (w + 20) (v + 1) = nI e ∧ G.1 g (3960 + 4 * v) = nI (φ e).1 ∧ sc ≤ H.ns ∧ C.1 (w + 21) (v + 1) = nI sc ∧ G.1 g (3960 + 4 * v + 1) = nI sc - 1) ∧
  (∀ x, x < H.ne → H.kc x ≤ H.nf ∧ H.kw x ≤ H.nw ∧ (H.kc x ≠ 0 → H.W (H.kc x) = H.kw x) ∧ C.1 (w + 22) x = nI (H.kc x) ∧ C.1 (w + 23) x = nI (H.kw x) ∧ G.1 g (5240 + 2 * x) = nI (H.kc x) - 1 ∧ G.1 g (5240 + 2 * x + 1) = nI (H.kw x) - 1)
theorem ep_Rn.s3 {φ : Nat → Nat × Nat} {u : Nat} {H : ep_H} {s ch wi : Nat} {w g : Nat} {C G : em_M} (h : ep_Rn φ u H s ch wi w g C G) : s < 300 := h.1
theorem ep_Rn.nf {φ : Nat → Nat × Nat} {u : Nat} {H : ep_H} {s ch wi : Nat} {w g : Nat} {C G : em_M} (h : ep_Rn φ u H s ch wi w g C G) : H.nf ≤ s := h.2.1
theorem ep_Rn.ns {φ : Nat → Nat × Nat} {u : Nat} {H : ep_H} {s ch wi : Nat} {w g : Nat} {C G : em_M} (h : ep_Rn φ u H s ch wi w g C G) : H.ns ≤ s := h.2.2.1
theorem ep_Rn.nw {φ : Nat → Nat × Nat} {u : Nat} {H : ep_H} {s ch wi : Nat} {w g : Nat} {C G : em_M} (h : ep_Rn φ u H s ch wi w g C G) : H.nw ≤ s := h.2.2.2.1
theorem ep_Rn.ne {φ : Nat → Nat × Nat} {u : Nat} {H : ep_H} {s ch wi : Nat} {w g : Nat} {C G : em_M} (h : ep_Rn φ u H s ch wi w g C G) : H.ne ≤ s := h.2.2.2.2.1
theorem ep_Rn.nf1 {φ : Nat → Nat × Nat} {u : Nat} {H : ep_H} {s ch wi : Nat} {w g : Nat} {C G : em_M} (h : ep_Rn φ u H s ch wi w g C G) : C.1 (w + 8) 0 = nI (H.nf + 1) := h.2.2.2.2.2.1
theorem ep_Rn.nf2 {φ : Nat → Nat × Nat} {u : Nat} {H : ep_H} {s ch wi : Nat} {w g : Nat} {C G : em_M} (h : ep_Rn φ u H s ch wi w g C G) : G.1 g 21 = nI H.nf := h.2.2.2.2.2.2.1
theorem ep_Rn.ns1 {φ : Nat → Nat × Nat} {u : Nat} {H : ep_H} {s ch wi : Nat} {w g : Nat} {C G : em_M} (h : ep_Rn φ u H s ch wi w g C G) : C.1 (w + 6) 0 = nI (H.ns + 1) := h.2.2.2.2.2.2.2.1
theorem ep_Rn.ns2 {φ : Nat → Nat × Nat} {u : Nat} {H : ep_H} {s ch wi : Nat} {w g : Nat} {C G : em_M} (h : ep_Rn φ u H s ch wi w g C G) : G.1 g 22 = nI H.ns := h.2.2.2.2.2.2.2.2.1
theorem ep_Rn.nw1 {φ : Nat → Nat × Nat} {u : Nat} {H : ep_H} {s ch wi : Nat} {w g : Nat} {C G : em_M} (h : ep_Rn φ u H s ch wi w g C G) : C.1 (w + 17) 0 = nI (H.nw + 1) := h.2.2.2.2.2.2.2.2.2.1
theorem ep_Rn.nw2 {φ : Nat → Nat × Nat} {u : Nat} {H : ep_H} {s ch wi : Nat} {w g : Nat} {C G : em_M} (h : ep_Rn φ u H s ch wi w g C G) : G.1 g 23 = nI H.nw := h.2.2.2.2.2.2.2.2.2.2.1
theorem ep_Rn.ne1 {φ : Nat → Nat × Nat} {u : Nat} {H : ep_H} {s ch wi : Nat} {w g : Nat} {C G : em_M} (h : ep_Rn φ u H s ch wi w g C G) : C.1 (w + 3) 8 = nI H.ne := h.2.2.2.2.2.2.2.2.2.2.2.1
theorem ep_Rn.ne2 {φ : Nat → Nat × Nat} {u : Nat} {H : ep_H} {s ch wi : Nat} {w g : Nat} {C G : em_M} (h : ep_Rn φ u H s ch wi w g C G) : G.1 g 24 = nI H.ne := h.2.2.2.2.2.2.2.2.2.2.2.2.1
theorem ep_Rn.ch0 {φ : Nat → Nat × Nat} {u : Nat} {H : ep_H} {s ch wi : Nat} {w g : Nat} {C G : em_M} (h : ep_Rn φ u H s ch wi w g C G) : ch ≤ H.nf := h.2.2.2.2.2.2.2.2.2.2.2.2.2.1
theorem ep_Rn.ch1 {φ : Nat → Nat × Nat} {u : Nat} {H : ep_H} {s ch wi : Nat} {w g : Nat} {C G : em_M} (h : ep_Rn φ u H s ch wi w g C G) : C.1 (w + 3) 13 = nI ch := h.2.2.2.2.2.2.2.2.2.2.2.2.2.2.1
theorem ep_Rn.ch2 {φ : Nat → Nat × Nat} {u : Nat} {H : ep_H} {s ch wi : Nat} {w g : Nat} {C G : em_M} (h : ep_Rn φ u H s ch wi w g C G) : G.1 g 17 = nI ch - 1 := h.2.2.2.2.2.2.2.2.2.2.2.2.2.2.2.1
theorem ep_Rn.wi0 {φ : Nat → Nat × Nat} {u : Nat} {H : ep_H} {s ch wi : Nat} {w g : Nat} {C G : em_M} (h : ep_Rn φ u H s ch wi w g C G) : wi ≤ H.nw := h.2.2.2.2.2.2.2.2.2.2.2.2.2.2.2.2.1
theorem ep_Rn.wi1 {φ : Nat → Nat × Nat} {u : Nat} {H : ep_H} {s ch wi : Nat} {w g : Nat} {C G : em_M} (h : ep_Rn φ u H s ch wi w g C G) : C.1 (w + 3) 14 = nI wi := h.2.2.2.2.2.2.2.2.2.2.2.2.2.2.2.2.2.1
theorem ep_Rn.wi2 {φ : Nat → Nat × Nat} {u : Nat} {H : ep_H} {s ch wi : Nat} {w g : Nat} {C G : em_M} (h : ep_Rn φ u H s ch wi w g C G) : G.1 g 18 = nI wi - 1 := h.2.2.2.2.2.2.2.2.2.2.2.2.2.2.2.2.2.2.1
theorem ep_Rn.cw {φ : Nat → Nat × Nat} {u : Nat} {H : ep_H} {s ch wi : Nat} {w g : Nat} {C G : em_M} (h : ep_Rn φ u H s ch wi w g C G) : ch ≠ 0 → H.W ch = wi := h.2.2.2.2.2.2.2.2.2.2.2.2.2.2.2.2.2.2.2.1
theorem ep_Rn.gi {φ : Nat → Nat × Nat} {u : Nat} {H : ep_H} {s ch wi : Nat} {w g : Nat} {C G : em_M} (h : ep_Rn φ u H s ch wi w g C G) : (C.1 (w + 3) 9 = 0 ∧ G.1 g 13 = 0 ∧ ∃ e sc, e < u ∧ C.1 (w + 3) 10 = nI e ∧ G.1 g 14 = nI (φ e).1 ∧ G.1 g 15 = nI (φ e).2 ∧ sc ≤ H.ns ∧ C.1 (w + 3) 11 = nI sc ∧ G.1 g 16 = nI sc - 1) ∨ (C.1 (w + 3) 9 = 1 ∧ G.1 g 13 = 1 ∧ ep_Th H.ne (C.2 (w + 3) 12) (G.1 g 19) (G.1 g 20)) := h.2.2.2.2.2.2.2.2.2.2.2.2.2.2.2.2.2.2.2.2.1
theorem ep_Rn.fh0 {φ : Nat → Nat × Nat} {u : Nat} {H : ep_H} {s ch wi : Nat} {w g : Nat} {C G : em_M} (h : ep_Rn φ u H s ch wi w g C G) : C.1 (w + 10) 0 = 0 := h.2.2.2.2.2.2.2.2.2.2.2.2.2.2.2.2.2.2.2.2.2.1
theorem ep_Rn.fb {φ : Nat → Nat × Nat} {u : Nat} {H : ep_H} {s ch wi : Nat} {w g : Nat} {C G : em_M} (h : ep_Rn φ u H s ch wi w g C G) : ∀ f, f < H.nf → H.fb (f + 1) ≤ f ∧ C.1 (w + 9) (f + 1) = nI (H.fb (f + 1)) ∧ G.1 g (120 + 8 * f + 5) = nI (H.fb (f + 1)) - 1 := h.2.2.2.2.2.2.2.2.2.2.2.2.2.2.2.2.2.2.2.2.2.2.1
theorem ep_Rn.fh {φ : Nat → Nat × Nat} {u : Nat} {H : ep_H} {s ch wi : Nat} {w g : Nat} {C G : em_M} (h : ep_Rn φ u H s ch wi w g C G) : ∀ f, f < H.nf → ∃ h, h ≤ 40 ∧ C.1 (w + 10) (f + 1) = nI h ∧ G.1 g (120 + 8 * f + 6) = nI h := h.2.2.2.2.2.2.2.2.2.2.2.2.2.2.2.2.2.2.2.2.2.2.2.1
theorem ep_Rn.fw {φ : Nat → Nat × Nat} {u : Nat} {H : ep_H} {s ch wi : Nat} {w g : Nat} {C G : em_M} (h : ep_Rn φ u H s ch wi w g C G) : ∀ f, f < H.nf → H.W (f + 1) ≤ H.nw := h.2.2.2.2.2.2.2.2.2.2.2.2.2.2.2.2.2.2.2.2.2.2.2.2.1
theorem ep_Rn.fk {φ : Nat → Nat × Nat} {u : Nat} {H : ep_H} {s ch wi : Nat} {w g : Nat} {C G : em_M} (h : ep_Rn φ u H s ch wi w g C G) : ∀ f, f < H.nf → ep_Fk φ u H w g C G f := h.2.2.2.2.2.2.2.2.2.2.2.2.2.2.2.2.2.2.2.2.2.2.2.2.2.1
theorem ep_Rn.sc0 {φ : Nat → Nat × Nat} {u : Nat} {H : ep_H} {s ch wi : Nat} {w g : Nat} {C G : em_M} (h : ep_Rn φ u H s ch wi w g C G) : ∀ n, n < 4 → C.2 (w + 7) n = -9223372036854775808 := h.2.2.2.2.2.2.2.2.2.2.2.2.2.2.2.2.2.2.2.2.2.2.2.2.2.2.1
theorem ep_Rn.sc {φ : Nat → Nat × Nat} {u : Nat} {H : ep_H} {s ch wi : Nat} {w g : Nat} {C G : em_M} (h : ep_Rn φ u H s ch wi w g C G) : ∀ t, t < H.ns → ∃ nm sb, nm < 4 ∧ sb ≤ t ∧ G.1 g (2680 + 4 * t) = nI nm ∧ G.1 g (2680 + 4 * t + 3) = nI sb - 1 ∧ ep_Th H.ne (C.2 (w + 7) (4 * (t + 1) + nm)) (G.1 g (2680 + 4 * t + 1)) (G.1 g (2680 + 4 * t + 2)) ∧ ∀ n, n < 4 → n ≠ nm → C.2 (w + 7) (4 * (t + 1) + n) = C.2 (w + 7) (4 * sb + n) := h.2.2.2.2.2.2.2.2.2.2.2.2.2.2.2.2.2.2.2.2.2.2.2.2.2.2.2.1
theorem ep_Rn.wh0 {φ : Nat → Nat × Nat} {u : Nat} {H : ep_H} {s ch wi : Nat} {w g : Nat} {C G : em_M} (h : ep_Rn φ u H s ch wi w g C G) : H.hw 0 = 0 ∧ C.1 (w + 19) 0 = 0 := h.2.2.2.2.2.2.2.2.2.2.2.2.2.2.2.2.2.2.2.2.2.2.2.2.2.2.2.2.1
theorem ep_Rn.wb {φ : Nat → Nat × Nat} {u : Nat} {H : ep_H} {s ch wi : Nat} {w g : Nat} {C G : em_M} (h : ep_Rn φ u H s ch wi w g C G) : ∀ v, v < H.nw → H.bw (v + 1) ≤ v ∧ H.hw (v + 1) = H.hw (H.bw (v + 1)) + 1 ∧ H.hw (v + 1) ≤ v + 1 ∧ C.1 (w + 18) (v + 1) = nI (H.bw (v + 1)) ∧ C.1 (w + 19) (v + 1) = nI (H.hw (v + 1)) ∧ G.1 g (3960 + 4 * v + 2) = nI (H.bw (v + 1)) - 1 := h.2.2.2.2.2.2.2.2.2.2.2.2.2.2.2.2.2.2.2.2.2.2.2.2.2.2.2.2.2.1
theorem ep_Rn.we {φ : Nat → Nat × Nat} {u : Nat} {H : ep_H} {s ch wi : Nat} {w g : Nat} {C G : em_M} (h : ep_Rn φ u H s ch wi w g C G) : ∀ v, v < H.nw → ∃ e sc, e < u ∧ C.1 2 e = nI 8 ∧ C.1 (w + 20) (v + 1) = nI e ∧ G.1 g (3960 + 4 * v) = nI (φ e).1 ∧ sc ≤ H.ns ∧ C.1 (w + 21) (v + 1) = nI sc ∧ G.1 g (3960 + 4 * v + 1) = nI sc - 1 := h.2.2.2.2.2.2.2.2.2.2.2.2.2.2.2.2.2.2.2.2.2.2.2.2.2.2.2.2.2.2.1
theorem ep_Rn.es {φ : Nat → Nat × Nat} {u : Nat} {H : ep_H} {s ch wi : Nat} {w g : Nat} {C G : em_M} (h : ep_Rn φ u H s ch wi w g C G) : ∀ x, x < H.ne → H.kc x ≤ H.nf ∧ H.kw x ≤ H.nw ∧ (H.kc x ≠ 0 → H.W (H.kc x) = H.kw x) ∧ C.1 (w + 22) x = nI (H.kc x) ∧ C.1 (w + 23) x = nI (H.kw x) ∧ G.1 g (5240 + 2 * x) = nI (H.kc x) - 1 ∧ G.1 g (5240 + 2 * x + 1) = nI (H.kw x) - 1 := h.2.2.2.2.2.2.2.2.2.2.2.2.2.2.2.2.2.2.2.2.2.2.2.2.2.2.2.2.2.2.2
theorem ep_Rn.mk {φ : Nat → Nat × Nat} {u : Nat} {H : ep_H} {s ch wi : Nat} {w g : Nat} {C G : em_M} (s3 : s < 300) (nf : H.nf ≤ s) (ns : H.ns ≤ s) (nw : H.nw ≤ s) (ne : H.ne ≤ s) (nf1 : C.1 (w + 8) 0 = nI (H.nf + 1)) (nf2 : G.1 g 21 = nI H.nf) (ns1 : C.1 (w + 6) 0 = nI (H.ns + 1)) (ns2 : G.1 g 22 = nI H.ns) (nw1 : C.1 (w + 17) 0 = nI (H.nw + 1)) (nw2 : G.1 g 23 = nI H.nw) (ne1 : C.1 (w + 3) 8 = nI H.ne) (ne2 : G.1 g 24 = nI H.ne) (ch0 : ch ≤ H.nf) (ch1 : C.1 (w + 3) 13 = nI ch) (ch2 : G.1 g 17 = nI ch - 1) (wi0 : wi ≤ H.nw) (wi1 : C.1 (w + 3) 14 = nI wi) (wi2 : G.1 g 18 = nI wi - 1) (cw : ch ≠ 0 → H.W ch = wi) (gi : (C.1 (w + 3) 9 = 0 ∧ G.1 g 13 = 0 ∧ ∃ e sc, e < u ∧ C.1 (w + 3) 10 = nI e ∧ G.1 g 14 = nI (φ e).1 ∧ G.1 g 15 = nI (φ e).2 ∧ sc ≤ H.ns ∧ C.1 (w + 3) 11 = nI sc ∧ G.1 g 16 = nI sc - 1) ∨ (C.1 (w + 3) 9 = 1 ∧ G.1 g 13 = 1 ∧ ep_Th H.ne (C.2 (w + 3) 12) (G.1 g 19) (G.1 g 20))) (fh0 : C.1 (w + 10) 0 = 0) (fb : ∀ f, f < H.nf → H.fb (f + 1) ≤ f ∧ C.1 (w + 9) (f + 1) = nI (H.fb (f + 1)) ∧ G.1 g (120 + 8 * f + 5) = nI (H.fb (f + 1)) - 1) (fh : ∀ f, f < H.nf → ∃ h, h ≤ 40 ∧ C.1 (w + 10) (f + 1) = nI h ∧ G.1 g (120 + 8 * f + 6) = nI h) (fw : ∀ f, f < H.nf → H.W (f + 1) ≤ H.nw) (fk : ∀ f, f < H.nf → ep_Fk φ u H w g C G f) (sc0 : ∀ n, n < 4 → C.2 (w + 7) n = -9223372036854775808) (sc : ∀ t, t < H.ns → ∃ nm sb, nm < 4 ∧ sb ≤ t ∧ G.1 g (2680 + 4 * t) = nI nm ∧ G.1 g (2680 + 4 * t + 3) = nI sb - 1 ∧ ep_Th H.ne (C.2 (w + 7) (4 * (t + 1) + nm)) (G.1 g (2680 + 4 * t + 1)) (G.1 g (2680 + 4 * t + 2)) ∧ ∀ n, n < 4 → n ≠ nm → C.2 (w + 7) (4 * (t + 1) + n) = C.2 (w + 7) (4 * sb + n)) (wh0 : H.hw 0 = 0 ∧ C.1 (w + 19) 0 = 0) (wb : ∀ v, v < H.nw → H.bw (v + 1) ≤ v ∧ H.hw (v + 1) = H.hw (H.bw (v + 1)) + 1 ∧ H.hw (v + 1) ≤ v + 1 ∧ C.1 (w + 18) (v + 1) = nI (H.bw (v + 1)) ∧ C.1 (w + 19) (v + 1) = nI (H.hw (v + 1)) ∧ G.1 g (3960 + 4 * v + 2) = nI (H.bw (v + 1)) - 1) (we : ∀ v, v < H.nw → ∃ e sc, e < u ∧ C.1 2 e = nI 8 ∧ C.1 (w + 20) (v + 1) = nI e ∧ G.1 g (3960 + 4 * v) = nI (φ e).1 ∧ sc ≤ H.ns ∧ C.1 (w + 21) (v + 1) = nI sc ∧ G.1 g (3960 + 4 * v + 1) = nI sc - 1) (es : ∀ x, x < H.ne → H.kc x ≤ H.nf ∧ H.kw x ≤ H.nw ∧ (H.kc x ≠ 0 → H.W (H.kc x) = H.kw x) ∧ C.1 (w + 22) x = nI (H.kc x) ∧ C.1 (w + 23) x = nI (H.kw x) ∧ G.1 g (5240 + 2 * x) = nI (H.kc x) - 1 ∧ G.1 g (5240 + 2 * x + 1) = nI (H.kw x) - 1) : ep_Rn φ u H s ch wi w g C G :=
  ⟨s3, nf, ns, nw, ne, nf1, nf2, ns1, ns2, nw1, nw2, ne1, ne2, ch0, ch1, ch2, wi0, wi1, wi2, cw, gi, fh0, fb, fh, fw, fk, sc0, sc, wh0, wb, we, es⟩
/-- VALUES, FUNCTIONS and THE MACHINE -/
def ep_Wd (φ : Nat → Nat × Nat) (u nl : Nat) (w g : Nat) (C G : em_M) : Prop :=
  (∀ k, k < 4 → C.1 (w + 1) k = G.1 g k) ∧
  (∀ k, k < 3 → C.1 (w + 2) k = G.1 g (4 + k) ∧ (G.1 g (4 + k) = -5 ∨ ∃ l, l < nl ∧ G.1 g (4 + k) = nI l)) ∧
  (C.1 (w + 4) 0 = G.1 g 7) ∧
  (∃ s, s ≤ 300 ∧ C.1 (w + 4) 1 = nI s ∧ G.1 g 10 = nI s) ∧
  (∃ d, d ≤ 40 ∧ C.1 (w + 4) 2 = nI d ∧ G.1 g 11 = nI d) ∧
  (∃ z, z ≤ 40 ∧ C.1 (w + 4) 3 = nI z ∧ G.1 g 12 = nI z ∧ ∀ k, k < z → C.1 (w + 5) k = G.1 g (74 + k)) ∧
  (G.1 g 7 = 0 → ep_Th 300 (C.2 (w + 4) 5) (G.1 g 8) (G.1 g 9)) ∧
  ((C.1 (w + 3) 9 = 0 ∨ C.1 (w + 3) 9 = 1) ∧ C.1 (w + 10) 0 = 0 ∧ C.1 (w + 19) 0 = 0) ∧
  (G.1 g 7 = -5 → ∃ H s ch wi, C.1 (w + 4) 1 = nI s ∧ ep_Rn φ u H s ch wi w g C G)
theorem ep_Wd.va {φ : Nat → Nat × Nat} {u nl : Nat} {w g : Nat} {C G : em_M} (h : ep_Wd φ u nl w g C G) : ∀ k, k < 4 → C.1 (w + 1) k = G.1 g k := h.1
theorem ep_Wd.fu {φ : Nat → Nat × Nat} {u nl : Nat} {w g : Nat} {C G : em_M} (h : ep_Wd φ u nl w g C G) : ∀ k, k < 3 → C.1 (w + 2) k = G.1 g (4 + k) ∧ (G.1 g (4 + k) = -5 ∨ ∃ l, l < nl ∧ G.1 g (4 + k) = nI l) := h.2.1
theorem ep_Wd.st {φ : Nat → Nat × Nat} {u nl : Nat} {w g : Nat} {C G : em_M} (h : ep_Wd φ u nl w g C G) : C.1 (w + 4) 0 = G.1 g 7 := h.2.2.1
theorem ep_Wd.sp {φ : Nat → Nat × Nat} {u nl : Nat} {w g : Nat} {C G : em_M} (h : ep_Wd φ u nl w g C G) : ∃ s, s ≤ 300 ∧ C.1 (w + 4) 1 = nI s ∧ G.1 g 10 = nI s := h.2.2.2.1
theorem ep_Wd.dp {φ : Nat → Nat × Nat} {u nl : Nat} {w g : Nat} {C G : em_M} (h : ep_Wd φ u nl w g C G) : ∃ d, d ≤ 40 ∧ C.1 (w + 4) 2 = nI d ∧ G.1 g 11 = nI d := h.2.2.2.2.1
theorem ep_Wd.sz {φ : Nat → Nat × Nat} {u nl : Nat} {w g : Nat} {C G : em_M} (h : ep_Wd φ u nl w g C G) : ∃ z, z ≤ 40 ∧ C.1 (w + 4) 3 = nI z ∧ G.1 g 12 = nI z ∧ ∀ k, k < z → C.1 (w + 5) k = G.1 g (74 + k) := h.2.2.2.2.2.1
theorem ep_Wd.re {φ : Nat → Nat × Nat} {u nl : Nat} {w g : Nat} {C G : em_M} (h : ep_Wd φ u nl w g C G) : G.1 g 7 = 0 → ep_Th 300 (C.2 (w + 4) 5) (G.1 g 8) (G.1 g 9) := h.2.2.2.2.2.2.1
theorem ep_Wd.gb {φ : Nat → Nat × Nat} {u nl : Nat} {w g : Nat} {C G : em_M} (h : ep_Wd φ u nl w g C G) : (C.1 (w + 3) 9 = 0 ∨ C.1 (w + 3) 9 = 1) ∧ C.1 (w + 10) 0 = 0 ∧ C.1 (w + 19) 0 = 0 := h.2.2.2.2.2.2.2.1
theorem ep_Wd.ru {φ : Nat → Nat × Nat} {u nl : Nat} {w g : Nat} {C G : em_M} (h : ep_Wd φ u nl w g C G) : G.1 g 7 = -5 → ∃ H s ch wi, C.1 (w + 4) 1 = nI s ∧ ep_Rn φ u H s ch wi w g C G := h.2.2.2.2.2.2.2.2
theorem ep_Wd.mk {φ : Nat → Nat × Nat} {u nl : Nat} {w g : Nat} {C G : em_M} (va : ∀ k, k < 4 → C.1 (w + 1) k = G.1 g k) (fu : ∀ k, k < 3 → C.1 (w + 2) k = G.1 g (4 + k) ∧ (G.1 g (4 + k) = -5 ∨ ∃ l, l < nl ∧ G.1 g (4 + k) = nI l)) (st : C.1 (w + 4) 0 = G.1 g 7) (sp : ∃ s, s ≤ 300 ∧ C.1 (w + 4) 1 = nI s ∧ G.1 g 10 = nI s) (dp : ∃ d, d ≤ 40 ∧ C.1 (w + 4) 2 = nI d ∧ G.1 g 11 = nI d) (sz : ∃ z, z ≤ 40 ∧ C.1 (w + 4) 3 = nI z ∧ G.1 g 12 = nI z ∧ ∀ k, k < z → C.1 (w + 5) k = G.1 g (74 + k)) (re : G.1 g 7 = 0 → ep_Th 300 (C.2 (w + 4) 5) (G.1 g 8) (G.1 g 9)) (gb : (C.1 (w + 3) 9 = 0 ∨ C.1 (w + 3) 9 = 1) ∧ C.1 (w + 10) 0 = 0 ∧ C.1 (w + 19) 0 = 0) (ru : G.1 g 7 = -5 → ∃ H s ch wi, C.1 (w + 4) 1 = nI s ∧ ep_Rn φ u H s ch wi w g C G) : ep_Wd φ u nl w g C G :=
  ⟨va, fu, st, sp, dp, sz, re, gb, ru⟩
/-- THE IMAGE -/
def ep_Io (φ : Nat → Nat × Nat) (u nl : Nat) (C G : em_M) : Prop :=
  (C.1 0 4 = G.1 118 3 ∧ (G.1 118 3 = 0 ∨ G.1 118 3 = 1)) ∧
  (C.1 46 3 = nI 5 ∧ C.1 49 3 = nI 10 ∧ C.1 52 3 = nI 8) ∧
  (C.1 58 9 = 0 ∨ C.1 58 9 = 1) ∧
  (G.1 118 3 = 1 → ep_Rw ep_Vs 46 5 121 25 28 C G ∧ ep_Rw (ep_Vp nl) 49 10 121 26 38 C G ∧ ep_Rw ep_Vb 52 8 121 27 58 C G ∧ ep_Wd φ u nl 55 121 C G)
theorem ep_Io.im {φ : Nat → Nat × Nat} {u nl : Nat} {C G : em_M} (h : ep_Io φ u nl C G) : C.1 0 4 = G.1 118 3 ∧ (G.1 118 3 = 0 ∨ G.1 118 3 = 1) := h.1
theorem ep_Io.is {φ : Nat → Nat × Nat} {u nl : Nat} {C G : em_M} (h : ep_Io φ u nl C G) : C.1 46 3 = nI 5 ∧ C.1 49 3 = nI 10 ∧ C.1 52 3 = nI 8 := h.2.1
theorem ep_Io.ig {φ : Nat → Nat × Nat} {u nl : Nat} {C G : em_M} (h : ep_Io φ u nl C G) : C.1 58 9 = 0 ∨ C.1 58 9 = 1 := h.2.2.1
theorem ep_Io.ii {φ : Nat → Nat × Nat} {u nl : Nat} {C G : em_M} (h : ep_Io φ u nl C G) : G.1 118 3 = 1 → ep_Rw ep_Vs 46 5 121 25 28 C G ∧ ep_Rw (ep_Vp nl) 49 10 121 26 38 C G ∧ ep_Rw ep_Vb 52 8 121 27 58 C G ∧ ep_Wd φ u nl 55 121 C G := h.2.2.2
theorem ep_Io.mk {φ : Nat → Nat × Nat} {u nl : Nat} {C G : em_M} (im : C.1 0 4 = G.1 118 3 ∧ (G.1 118 3 = 0 ∨ G.1 118 3 = 1)) (is : C.1 46 3 = nI 5 ∧ C.1 49 3 = nI 10 ∧ C.1 52 3 = nI 8) (ig : C.1 58 9 = 0 ∨ C.1 58 9 = 1) (ii : G.1 118 3 = 1 → ep_Rw ep_Vs 46 5 121 25 28 C G ∧ ep_Rw (ep_Vp nl) 49 10 121 26 38 C G ∧ ep_Rw ep_Vb 52 8 121 27 58 C G ∧ ep_Wd φ u nl 55 121 C G) : ep_Io φ u nl C G :=
  ⟨im, is, ig, ii⟩
def ep_I (φ D : Nat → Nat × Nat) (u nl : Nat) (C G : em_M) : Prop :=
  (ep_Ln φ D u nl C G) ∧
  (ep_Tx C G) ∧
  (∀ i, i < 6 → ep_Tp i C G) ∧
  (ep_Rw ep_Vs 12 5 119 25 28 C G) ∧
  (ep_Rw (ep_Vp nl) 15 10 119 26 38 C G) ∧
  (ep_Rw ep_Vb 18 8 119 27 58 C G) ∧
  (C.1 12 3 = nI 5 ∧ C.1 15 3 = nI 10 ∧ C.1 18 3 = nI 8 ∧ C.1 89 0 = 0 ∧ C.1 98 0 = 0) ∧
  (ep_Wd φ u nl 21 119 C G) ∧
  (ep_Io φ u nl C G)
theorem ep_I.ln {φ D : Nat → Nat × Nat} {u nl : Nat} {C G : em_M} (h : ep_I φ D u nl C G) : ep_Ln φ D u nl C G := h.1
theorem ep_I.tx {φ D : Nat → Nat × Nat} {u nl : Nat} {C G : em_M} (h : ep_I φ D u nl C G) : ep_Tx C G := h.2.1
theorem ep_I.tp {φ D : Nat → Nat × Nat} {u nl : Nat} {C G : em_M} (h : ep_I φ D u nl C G) : ∀ i, i < 6 → ep_Tp i C G := h.2.2.1
theorem ep_I.rs {φ D : Nat → Nat × Nat} {u nl : Nat} {C G : em_M} (h : ep_I φ D u nl C G) : ep_Rw ep_Vs 12 5 119 25 28 C G := h.2.2.2.1
theorem ep_I.rp {φ D : Nat → Nat × Nat} {u nl : Nat} {C G : em_M} (h : ep_I φ D u nl C G) : ep_Rw (ep_Vp nl) 15 10 119 26 38 C G := h.2.2.2.2.1
theorem ep_I.rb {φ D : Nat → Nat × Nat} {u nl : Nat} {C G : em_M} (h : ep_I φ D u nl C G) : ep_Rw ep_Vb 18 8 119 27 58 C G := h.2.2.2.2.2.1
theorem ep_I.iz {φ D : Nat → Nat × Nat} {u nl : Nat} {C G : em_M} (h : ep_I φ D u nl C G) : C.1 12 3 = nI 5 ∧ C.1 15 3 = nI 10 ∧ C.1 18 3 = nI 8 ∧ C.1 89 0 = 0 ∧ C.1 98 0 = 0 := h.2.2.2.2.2.2.1
theorem ep_I.wd {φ D : Nat → Nat × Nat} {u nl : Nat} {C G : em_M} (h : ep_I φ D u nl C G) : ep_Wd φ u nl 21 119 C G := h.2.2.2.2.2.2.2.1
theorem ep_I.io {φ D : Nat → Nat × Nat} {u nl : Nat} {C G : em_M} (h : ep_I φ D u nl C G) : ep_Io φ u nl C G := h.2.2.2.2.2.2.2.2
theorem ep_I.mk {φ D : Nat → Nat × Nat} {u nl : Nat} {C G : em_M} (ln : ep_Ln φ D u nl C G) (tx : ep_Tx C G) (tp : ∀ i, i < 6 → ep_Tp i C G) (rs : ep_Rw ep_Vs 12 5 119 25 28 C G) (rp : ep_Rw (ep_Vp nl) 15 10 119 26 38 C G) (rb : ep_Rw ep_Vb 18 8 119 27 58 C G) (iz : C.1 12 3 = nI 5 ∧ C.1 15 3 = nI 10 ∧ C.1 18 3 = nI 8 ∧ C.1 89 0 = 0 ∧ C.1 98 0 = 0) (wd : ep_Wd φ u nl 21 119 C G) (io : ep_Io φ u nl C G) : ep_I φ D u nl C G :=
  ⟨ln, tx, tp, rs, rp, rb, iz, wd, io⟩
def ep_Inv (M : em_M) : Prop := ∃ φ D u nl, ep_I φ D u nl M M
