/-! reading: the byte at the place, a byte that is due, a node that is laid -/
def ep_Pz (nl u0 n p u r : Nat) (C G : em_M) : Prop :=
  (n ≤ 100) ∧
  (C.1 9 0 = nI n) ∧
  (G.1 118 11 = nI n) ∧
  (∀ k, k < n → ∃ c, c < 128 ∧ C.1 10 k = nI c ∧ G.1 127 k = nI c) ∧
  (p ≤ n) ∧
  (C.1 9 1 = nI p) ∧
  (G.1 118 12 = nI p) ∧
  (C.1 1 1 = nI u) ∧
  (u0 ≤ 100 * nl) ∧
  (u ≤ u0 + p) ∧
  (G.1 118 14 = nI r) ∧
  (r ≤ p) ∧
  (G.1 118 13 = -1) ∧
  (G.1 118 9 = nI nl) ∧
  (nl ≤ 7)
theorem ep_Pz.n1 {nl u0 n p u r : Nat} {C G : em_M} (h : ep_Pz nl u0 n p u r C G) : n ≤ 100 := h.1
theorem ep_Pz.t1 {nl u0 n p u r : Nat} {C G : em_M} (h : ep_Pz nl u0 n p u r C G) : C.1 9 0 = nI n := h.2.1
theorem ep_Pz.t2 {nl u0 n p u r : Nat} {C G : em_M} (h : ep_Pz nl u0 n p u r C G) : G.1 118 11 = nI n := h.2.2.1
theorem ep_Pz.tc {nl u0 n p u r : Nat} {C G : em_M} (h : ep_Pz nl u0 n p u r C G) : ∀ k, k < n → ∃ c, c < 128 ∧ C.1 10 k = nI c ∧ G.1 127 k = nI c := h.2.2.2.1
theorem ep_Pz.pn {nl u0 n p u r : Nat} {C G : em_M} (h : ep_Pz nl u0 n p u r C G) : p ≤ n := h.2.2.2.2.1
theorem ep_Pz.p1 {nl u0 n p u r : Nat} {C G : em_M} (h : ep_Pz nl u0 n p u r C G) : C.1 9 1 = nI p := h.2.2.2.2.2.1
theorem ep_Pz.p2 {nl u0 n p u r : Nat} {C G : em_M} (h : ep_Pz nl u0 n p u r C G) : G.1 118 12 = nI p := h.2.2.2.2.2.2.1
theorem ep_Pz.us {nl u0 n p u r : Nat} {C G : em_M} (h : ep_Pz nl u0 n p u r C G) : C.1 1 1 = nI u := h.2.2.2.2.2.2.2.1
theorem ep_Pz.ul {nl u0 n p u r : Nat} {C G : em_M} (h : ep_Pz nl u0 n p u r C G) : u0 ≤ 100 * nl := h.2.2.2.2.2.2.2.2.1
theorem ep_Pz.ub {nl u0 n p u r : Nat} {C G : em_M} (h : ep_Pz nl u0 n p u r C G) : u ≤ u0 + p := h.2.2.2.2.2.2.2.2.2.1
theorem ep_Pz.rd {nl u0 n p u r : Nat} {C G : em_M} (h : ep_Pz nl u0 n p u r C G) : G.1 118 14 = nI r := h.2.2.2.2.2.2.2.2.2.2.1
theorem ep_Pz.rb {nl u0 n p u r : Nat} {C G : em_M} (h : ep_Pz nl u0 n p u r C G) : r ≤ p := h.2.2.2.2.2.2.2.2.2.2.2.1
theorem ep_Pz.fa {nl u0 n p u r : Nat} {C G : em_M} (h : ep_Pz nl u0 n p u r C G) : G.1 118 13 = -1 := h.2.2.2.2.2.2.2.2.2.2.2.2.1
theorem ep_Pz.ls {nl u0 n p u r : Nat} {C G : em_M} (h : ep_Pz nl u0 n p u r C G) : G.1 118 9 = nI nl := h.2.2.2.2.2.2.2.2.2.2.2.2.2.1
theorem ep_Pz.l7 {nl u0 n p u r : Nat} {C G : em_M} (h : ep_Pz nl u0 n p u r C G) : nl ≤ 7 := h.2.2.2.2.2.2.2.2.2.2.2.2.2.2
theorem ep_Pz.mk {nl u0 n p u r : Nat} {C G : em_M} (n1 : n ≤ 100) (t1 : C.1 9 0 = nI n) (t2 : G.1 118 11 = nI n) (tc : ∀ k, k < n → ∃ c, c < 128 ∧ C.1 10 k = nI c ∧ G.1 127 k = nI c) (pn : p ≤ n) (p1 : C.1 9 1 = nI p) (p2 : G.1 118 12 = nI p) (us : C.1 1 1 = nI u) (ul : u0 ≤ 100 * nl) (ub : u ≤ u0 + p) (rd : G.1 118 14 = nI r) (rb : r ≤ p) (fa : G.1 118 13 = -1) (ls : G.1 118 9 = nI nl) (l7 : nl ≤ 7) : ep_Pz nl u0 n p u r C G :=
  ⟨n1, t1, t2, tc, pn, p1, p2, us, ul, ub, rd, rb, fa, ls, l7⟩
theorem ep_sgn {nl u0 n p u r : Nat} {C G : em_M} (z : ep_Pz nl u0 n p u r C G) : es_X12_byteAt G (nI p) ∧ ((p = n ∧ et_X5_sign C = -1 ∧ et_X12_byteAt G (nI p) = -1) ∨ (p < n ∧ ∃ c, c < 128 ∧ et_X5_sign C = nI c ∧ et_X12_byteAt G (nI p) = nI c)) := by
  have n1 := z.n1
  have pn := z.pn
  rw [es_X12_byteAt, et_X5_sign, et_X12_byteAt, z.t1, z.t2, z.p1, nI_clamp (by omega)]
  by_cases q : p = n
  · have l : nI n ≤ nI p := nI_le (by omega) (by omega)
    rw [if_pos l, if_pos l]
    exact ⟨⟨fun _ => trivial, fun k => absurd l k⟩, Or.inl ⟨q, rfl, rfl⟩⟩
  · have l : ¬ nI n ≤ nI p := nI_ge (by omega) (by omega)
    obtain ⟨c, c1, c2, c3⟩ := z.tc p (by omega)
    rw [if_neg l, if_neg l, eq_atS _ (by omega) (by omega), c3]
    exact ⟨⟨fun k => absurd k l, fun _ => ⟨vp_in_nI (by omega) (by omega), trivial⟩⟩, Or.inr ⟨by omega, c, c1, c2, rfl⟩⟩
theorem ep_sgE {nl u0 n p u r : Nat} {C G : em_M} (z : ep_Pz nl u0 n p u r C G) : et_X5_sign C = et_X12_byteAt G (nI p) := by
  rcases (ep_sgn z).2 with ⟨-, a, b⟩ | ⟨-, c, -, a, b⟩
  · rw [a, b]
  · rw [a, b]
/-- the place goes on by one -/
theorem ep_adv {nl u0 n p u r : Nat} {C G : em_M} (z : ep_Pz nl u0 n p u r C G) (h : p < n) : ep_Pz nl u0 n (p + 1) u r (em_pI C 9 1 (nI (p + 1))) (em_pI G 118 12 (nI (p + 1))) := by
  have ub := z.ub
  have rb := z.rb
  refine ep_Pz.mk z.n1 ?_ ?_ ?_ (by omega) ?_ ?_ ?_ z.ul (by omega) ?_ (by omega) ?_ ?_ z.l7
  case refine_3 =>
    intro k hk
    rw [ef_pI' _ _ _ _ (by omega), ef_pI' _ _ _ _ (by omega)]
    exact z.tc k hk
  all_goals simp (disch := omega) only [ef_pI', ef_pIk, ef_pIs]
  · exact z.t1
  · exact z.t2
  · exact z.us
  · exact z.rd
  · exact z.fa
  · exact z.ls
theorem ep_due {nl u0 n p u r : Nat} {C G : em_M} (z : ep_Pz nl u0 n p u r C G) (due : Int32) (hd : ¬ (-1 : Int32) = due) : es_X12_is G due ∧ ((et_X5_passed C due = (0, C) ∧ et_X12_is G due = (0, G)) ∨ (p < n ∧ et_X5_passed C due = (1, em_pI C 9 1 (nI (p + 1))) ∧ et_X12_is G due = (1, em_pI G 118 12 (nI (p + 1))))) := by
  obtain ⟨s1, s2⟩ := ep_sgn z
  rw [es_X12_is, et_X5_passed, et_X12_is, z.p1, z.p2, nI_1]
  refine ⟨⟨s1, fun r e => ⟨fun _ _ _ => trivial, fun _ => trivial⟩⟩, ?_⟩
  rcases s2 with ⟨a, b, c⟩ | ⟨a, c, -, b, d⟩
  · rw [b, c]
    dsimp only
    rw [if_neg hd, if_neg hd]
    exact Or.inl ⟨rfl, rfl⟩
  · rw [b, d]
    dsimp only
    by_cases q : nI c = due
    · rw [if_pos q, if_pos q]; exact Or.inr ⟨a, rfl, rfl⟩
    · rw [if_neg q, if_neg q]; exact Or.inl ⟨rfl, rfl⟩
/-- a node is laid -/
def ep_ad (C : em_M) (u : Nat) (kind mark : Int32) : em_M :=
  em_pI (em_pI (em_pI (em_pI (em_pI (em_pI C 1 1 (nI (u + 1))) 2 u kind) 3 u mark) 4 (3 * u) (-1)) 4 (3 * u + 1) (-1)) 4 (3 * u + 2) (-1)
theorem eq_link {C : em_M} {e k : Nat} (he : e < 800) (hk : k < 3) (v : Int32) : et_X2_link C (nI e) (nI k) v = em_pI C 4 (3 * e + k) v := by
  rw [et_X2_link, eq_y3, nI_add, show e * 3 + k = 3 * e + k by omega, eq_putS _ (by omega) (by omega)]
theorem ec_add {C : em_M} {u : Nat} (kind mark : Int32) (h : C.1 1 1 = nI u) (hu : u < 800) : et_X2_add C kind mark = (nI u, ep_ad C u kind mark) := by
  have l : nI u < (800 : Int32) := nI_lt (b := 800) hu (by omega)
  have k0 : ∀ M : em_M, et_X2_link M (nI u) (0 : Int32) (-1) = em_pI M 4 (3 * u) (-1) := fun M => eq_link (k := 0) hu (by omega) (-1)
  have k1 : ∀ M : em_M, et_X2_link M (nI u) (1 : Int32) (-1) = em_pI M 4 (3 * u + 1) (-1) := fun M => eq_link (k := 1) hu (by omega) (-1)
  have k2 : ∀ M : em_M, et_X2_link M (nI u) (2 : Int32) (-1) = em_pI M 4 (3 * u + 2) (-1) := fun M => eq_link (k := 2) hu (by omega) (-1)
  rw [et_X2_add, h, if_pos l, ep_ad]
  simp (disch := omega) only [nI_1, eq_putS, k0, k1, k2]
