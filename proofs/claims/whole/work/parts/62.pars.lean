/-! the parse: what is left alone, on either side -/
def ep_Pc (U : Nat) (C C' : em_M) : Prop :=
  (∀ o, ¬ (o = 1 ∨ o = 2 ∨ o = 3 ∨ o = 4 ∨ o = 9) → C'.1 o = C.1 o) ∧
  (C'.2 = C.2) ∧
  (C'.1 1 0 = C.1 1 0) ∧
  (∀ k, k < U → C'.1 2 k = C.1 2 k ∧ C'.1 3 k = C.1 3 k) ∧
  (∀ k, k < 3 * U → C'.1 4 k = C.1 4 k) ∧
  (C'.1 9 0 = C.1 9 0)
theorem ep_Pc.c1 {U : Nat} {C C' : em_M} (h : ep_Pc U C C') : ∀ o, ¬ (o = 1 ∨ o = 2 ∨ o = 3 ∨ o = 4 ∨ o = 9) → C'.1 o = C.1 o := h.1
theorem ep_Pc.c2 {U : Nat} {C C' : em_M} (h : ep_Pc U C C') : C'.2 = C.2 := h.2.1
theorem ep_Pc.c3 {U : Nat} {C C' : em_M} (h : ep_Pc U C C') : C'.1 1 0 = C.1 1 0 := h.2.2.1
theorem ep_Pc.c4 {U : Nat} {C C' : em_M} (h : ep_Pc U C C') : ∀ k, k < U → C'.1 2 k = C.1 2 k ∧ C'.1 3 k = C.1 3 k := h.2.2.2.1
theorem ep_Pc.c5 {U : Nat} {C C' : em_M} (h : ep_Pc U C C') : ∀ k, k < 3 * U → C'.1 4 k = C.1 4 k := h.2.2.2.2.1
theorem ep_Pc.c9 {U : Nat} {C C' : em_M} (h : ep_Pc U C C') : C'.1 9 0 = C.1 9 0 := h.2.2.2.2.2
theorem ep_Pc.mk {U : Nat} {C C' : em_M} (c1 : ∀ o, ¬ (o = 1 ∨ o = 2 ∨ o = 3 ∨ o = 4 ∨ o = 9) → C'.1 o = C.1 o) (c2 : C'.2 = C.2) (c3 : C'.1 1 0 = C.1 1 0) (c4 : ∀ k, k < U → C'.1 2 k = C.1 2 k ∧ C'.1 3 k = C.1 3 k) (c5 : ∀ k, k < 3 * U → C'.1 4 k = C.1 4 k) (c9 : C'.1 9 0 = C.1 9 0) : ep_Pc U C C' :=
  ⟨c1, c2, c3, c4, c5, c9⟩
def ep_Pg (K : Nat) (G G' : em_M) : Prop :=
  (∀ o, ¬ (o = 118 ∨ o = 122 ∨ o = 123 ∨ o = 124 ∨ o = 125) → G'.1 o = G.1 o) ∧
  (G'.2 = G.2) ∧
  (∀ k, ¬ (k = 12 ∨ k = 13 ∨ k = 14) → G'.1 118 k = G.1 118 k) ∧
  (∀ k, k < K → G'.1 122 k = G.1 122 k ∧ G'.1 123 k = G.1 123 k ∧ G'.1 124 k = G.1 124 k) ∧
  (∀ k, k < 5 * K → G'.1 125 k = G.1 125 k)
theorem ep_Pg.g1 {K : Nat} {G G' : em_M} (h : ep_Pg K G G') : ∀ o, ¬ (o = 118 ∨ o = 122 ∨ o = 123 ∨ o = 124 ∨ o = 125) → G'.1 o = G.1 o := h.1
theorem ep_Pg.g2 {K : Nat} {G G' : em_M} (h : ep_Pg K G G') : G'.2 = G.2 := h.2.1
theorem ep_Pg.g3 {K : Nat} {G G' : em_M} (h : ep_Pg K G G') : ∀ k, ¬ (k = 12 ∨ k = 13 ∨ k = 14) → G'.1 118 k = G.1 118 k := h.2.2.1
theorem ep_Pg.g4 {K : Nat} {G G' : em_M} (h : ep_Pg K G G') : ∀ k, k < K → G'.1 122 k = G.1 122 k ∧ G'.1 123 k = G.1 123 k ∧ G'.1 124 k = G.1 124 k := h.2.2.2.1
theorem ep_Pg.g5 {K : Nat} {G G' : em_M} (h : ep_Pg K G G') : ∀ k, k < 5 * K → G'.1 125 k = G.1 125 k := h.2.2.2.2
theorem ep_Pg.mk {K : Nat} {G G' : em_M} (g1 : ∀ o, ¬ (o = 118 ∨ o = 122 ∨ o = 123 ∨ o = 124 ∨ o = 125) → G'.1 o = G.1 o) (g2 : G'.2 = G.2) (g3 : ∀ k, ¬ (k = 12 ∨ k = 13 ∨ k = 14) → G'.1 118 k = G.1 118 k) (g4 : ∀ k, k < K → G'.1 122 k = G.1 122 k ∧ G'.1 123 k = G.1 123 k ∧ G'.1 124 k = G.1 124 k) (g5 : ∀ k, k < 5 * K → G'.1 125 k = G.1 125 k) : ep_Pg K G G' :=
  ⟨g1, g2, g3, g4, g5⟩
theorem ep_Pc_rf (U : Nat) (C : em_M) : ep_Pc U C C := ep_Pc.mk (fun _ _ => rfl) rfl rfl (fun _ _ => ⟨rfl, rfl⟩) (fun _ _ => rfl) rfl
theorem ep_Pg_rf (K : Nat) (G : em_M) : ep_Pg K G G := ep_Pg.mk (fun _ _ => rfl) rfl (fun _ _ => rfl) (fun _ _ => ⟨rfl, rfl, rfl⟩) (fun _ _ => rfl)
theorem ep_Pc_tr {U V : Nat} {C C1 C2 : em_M} (f : ep_Pc U C C1) (g : ep_Pc V C1 C2) (h : U ≤ V) : ep_Pc U C C2 :=
  ep_Pc.mk (fun o ho => (g.c1 o ho).trans (f.c1 o ho)) (g.c2.trans f.c2) (g.c3.trans f.c3) (fun k hk => ⟨(g.c4 k (by omega)).1.trans (f.c4 k hk).1, (g.c4 k (by omega)).2.trans (f.c4 k hk).2⟩) (fun k hk => (g.c5 k (by omega)).trans (f.c5 k hk)) (g.c9.trans f.c9)
theorem ep_Pg_tr {K L : Nat} {G G1 G2 : em_M} (f : ep_Pg K G G1) (g : ep_Pg L G1 G2) (h : K ≤ L) : ep_Pg K G G2 :=
  ep_Pg.mk (fun o ho => (g.g1 o ho).trans (f.g1 o ho)) (g.g2.trans f.g2) (fun k hk => (g.g3 k hk).trans (f.g3 k hk)) (fun k hk => ⟨(g.g4 k (by omega)).1.trans (f.g4 k hk).1, (g.g4 k (by omega)).2.1.trans (f.g4 k hk).2.1, (g.g4 k (by omega)).2.2.trans (f.g4 k hk).2.2⟩) (fun k hk => (g.g5 k (by omega)).trans (f.g5 k hk))
/-- one place is written -/
theorem ep_Pc_w {U : Nat} {C C' : em_M} (f : ep_Pc U C C') (o k : Nat) (v : Int32) (h : (o = 1 ∧ k = 1) ∨ (o = 9 ∧ k = 1) ∨ (o = 2 ∧ U ≤ k) ∨ (o = 3 ∧ U ≤ k) ∨ (o = 4 ∧ 3 * U ≤ k)) : ep_Pc U C (em_pI C' o k v) := by
  have same : ∀ o' k', o' ≠ o ∨ k' ≠ k → (em_pI C' o k v).1 o' k' = C'.1 o' k' := fun o' k' q => by
    rw [eq_pI]
    by_cases a : o' = o
    · rw [if_pos a, if_neg (by omega)]
    · rw [if_neg a]
  refine ep_Pc.mk (fun o' ho => ?_) f.c2 ?_ (fun k' hk => ⟨?_, ?_⟩) (fun k' hk => ?_) ?_
  · rw [ef_pI' _ _ _ _ (by omega)]; exact f.c1 o' ho
  · rw [same _ _ (by omega)]; exact f.c3
  · rw [same _ _ (by omega)]; exact (f.c4 k' hk).1
  · rw [same _ _ (by omega)]; exact (f.c4 k' hk).2
  · rw [same _ _ (by omega)]; exact f.c5 k' hk
  · rw [same _ _ (by omega)]; exact f.c9
theorem ep_Pg_w {K : Nat} {G G' : em_M} (f : ep_Pg K G G') (o k : Nat) (v : Int32) (h : (o = 118 ∧ (k = 12 ∨ k = 13 ∨ k = 14)) ∨ (o = 122 ∧ K ≤ k) ∨ (o = 123 ∧ K ≤ k) ∨ (o = 124 ∧ K ≤ k) ∨ (o = 125 ∧ 5 * K ≤ k)) : ep_Pg K G (em_pI G' o k v) := by
  have same : ∀ o' k', o' ≠ o ∨ k' ≠ k → (em_pI G' o k v).1 o' k' = G'.1 o' k' := fun o' k' q => by
    rw [eq_pI]
    by_cases a : o' = o
    · rw [if_pos a, if_neg (by omega)]
    · rw [if_neg a]
  refine ep_Pg.mk (fun o' ho => ?_) f.g2 (fun k' hk => ?_) (fun k' hk => ⟨?_, ?_, ?_⟩) (fun k' hk => ?_)
  · rw [ef_pI' _ _ _ _ (by omega)]; exact f.g1 o' ho
  · rw [same _ _ (by omega)]; exact f.g3 k' hk
  · rw [same _ _ (by omega)]; exact (f.g4 k' hk).1
  · rw [same _ _ (by omega)]; exact (f.g4 k' hk).2.1
  · rw [same _ _ (by omega)]; exact (f.g4 k' hk).2.2
  · rw [same _ _ (by omega)]; exact f.g5 k' hk
theorem ep_Pc_ad {U u : Nat} {C C' : em_M} (f : ep_Pc U C C') (h : U ≤ u) (kind mark : Int32) : ep_Pc U C (ep_ad C' u kind mark) := by
  rw [ep_ad]
  exact ep_Pc_w (ep_Pc_w (ep_Pc_w (ep_Pc_w (ep_Pc_w (ep_Pc_w f 1 1 _ (by omega)) 2 u _ (by omega)) 3 u _ (by omega)) 4 (3 * u) _ (by omega)) 4 (3 * u + 1) _ (by omega)) 4 (3 * u + 2) _ (by omega)
theorem ep_Pz_to {nl u0 n p u r p' u' r' : Nat} {C G C' G' : em_M} (z : ep_Pz nl u0 n p u r C G) (pn : p' ≤ n) (ub : u' ≤ u0 + p') (rb : r' ≤ p') (a1 : C'.1 9 0 = C.1 9 0) (a2 : C'.1 9 1 = nI p') (a3 : C'.1 10 = C.1 10) (a4 : C'.1 1 1 = nI u') (b1 : G'.1 118 11 = G.1 118 11) (b2 : G'.1 118 12 = nI p') (b3 : G'.1 118 14 = nI r') (b4 : G'.1 118 13 = G.1 118 13) (b5 : G'.1 118 9 = G.1 118 9) (b6 : G'.1 127 = G.1 127) : ep_Pz nl u0 n p' u' r' C' G' :=
  ep_Pz.mk z.n1 (a1.trans z.t1) (b1.trans z.t2) (fun k hk => by rw [a3, b6]; exact z.tc k hk) pn a2 b2 a4 z.ul ub b3 rb (b4.trans z.fa) (b5.trans z.ls) z.l7
theorem ep_ext (f : Nat → Nat) (k v : Nat) : ∃ g : Nat → Nat, (∀ i, i < k → g i = f i) ∧ g k = v :=
  ⟨fun i => if i = k then v else f i, fun _ hi => if_neg (by omega), if_pos rfl⟩
/-- two answers of the two parsers: both stop at the same place, or both have read the same E -/
def ep_Po (nl u0 n U m d : Nat) (C G : em_M) (A B : Int32 × em_M) : Prop :=
  (A.1 = -1 ∧ B.1 = -1 ∧ (∃ q, q ≤ 100 ∧ A.2.1 9 1 = nI q ∧ B.2.1 118 13 = nI q) ∧ ep_Pc U C A.2 ∧ ep_Pg m G B.2) ∨
  (∃ p u r x y, A.1 = nI U ∧ B.1 = nI m ∧ ep_Pz nl u0 n p u r A.2 B.2 ∧ ep_Tr A.2 B.2 d U u m (101 * nl + r) x y ∧ ep_Pc U C A.2 ∧ ep_Pg m G B.2)
/-- the two parsers of an E agree, at depth `w` -/
def ep_EE (d w : Nat) (EX EY : em_M → Int32 → Int32 × em_M) (SY : em_M → Int32 → Prop) : Prop :=
  ∀ (nl u0 n p u r : Nat) (C G : em_M), ep_Pz nl u0 n p u r C G → SY G (nI w) ∧ ep_Po nl u0 n u (101 * nl + r) d C G (EX C (nI w)) (EY G (nI w))
/-- the head of an E's row -/
def ep_Ph (kd sg U m : Nat) (C G : em_M) : Prop :=
  (C.1 2 U = nI kd) ∧
  (G.1 122 m = nI sg) ∧
  (kd = 0 → C.1 3 U = nI sg) ∧
  (kd = 4 → C.1 3 U = nI (sg - 70)) ∧
  (ep_Kn kd → ∃ a, a < 4 ∧ C.1 3 U = nI a ∧ G.1 123 m = nI a)
theorem ep_Ph.hk {kd sg U m : Nat} {C G : em_M} (h : ep_Ph kd sg U m C G) : C.1 2 U = nI kd := h.1
theorem ep_Ph.hs {kd sg U m : Nat} {C G : em_M} (h : ep_Ph kd sg U m C G) : G.1 122 m = nI sg := h.2.1
theorem ep_Ph.hm {kd sg U m : Nat} {C G : em_M} (h : ep_Ph kd sg U m C G) : kd = 0 → C.1 3 U = nI sg := h.2.2.1
theorem ep_Ph.hf {kd sg U m : Nat} {C G : em_M} (h : ep_Ph kd sg U m C G) : kd = 4 → C.1 3 U = nI (sg - 70) := h.2.2.2.1
theorem ep_Ph.ha {kd sg U m : Nat} {C G : em_M} (h : ep_Ph kd sg U m C G) : ep_Kn kd → ∃ a, a < 4 ∧ C.1 3 U = nI a ∧ G.1 123 m = nI a := h.2.2.2.2
theorem ep_Ph.mk {kd sg U m : Nat} {C G : em_M} (hk : C.1 2 U = nI kd) (hs : G.1 122 m = nI sg) (hm : kd = 0 → C.1 3 U = nI sg) (hf : kd = 4 → C.1 3 U = nI (sg - 70)) (ha : ep_Kn kd → ∃ a, a < 4 ∧ C.1 3 U = nI a ∧ G.1 123 m = nI a) : ep_Ph kd sg U m C G :=
  ⟨hk, hs, hm, hf, ha⟩
theorem ep_Ph_cg {kd sg U m : Nat} {C G C' G' : em_M} (h : ep_Ph kd sg U m C G) (a1 : C'.1 2 U = C.1 2 U) (a2 : C'.1 3 U = C.1 3 U) (b1 : G'.1 122 m = G.1 122 m) (b2 : G'.1 123 m = G.1 123 m) : ep_Ph kd sg U m C' G' :=
  ep_Ph.mk (a1.trans h.hk) (b1.trans h.hs) (fun q => a2.trans (h.hm q)) (fun q => a2.trans (h.hf q)) (fun q => by rw [a2, b2]; exact h.ha q)
/-- k parts of an E are read -/
def ep_Pl (d kd sg U m k : Nat) (c mm xs ys : Nat → Nat) (C G : em_M) : Prop :=
  (ep_Ph kd sg U m C G) ∧
  (c 0 = U + 1) ∧
  (mm 0 = m + 1) ∧
  (∀ i, i < k → C.1 4 (3 * U + i) = nI (c i) ∧ G.1 125 (5 * m + i) = nI (mm i) ∧ ep_Tr C G d (c i) (c (i + 1)) (mm i) (mm (i + 1)) (xs i) (ys i)) ∧
  (∀ i, k ≤ i → i < 3 → C.1 4 (3 * U + i) = -1) ∧
  (G.1 124 m = nI k)
theorem ep_Pl.hd {d kd sg U m k : Nat} {c mm xs ys : Nat → Nat} {C G : em_M} (h : ep_Pl d kd sg U m k c mm xs ys C G) : ep_Ph kd sg U m C G := h.1
theorem ep_Pl.c0 {d kd sg U m k : Nat} {c mm xs ys : Nat → Nat} {C G : em_M} (h : ep_Pl d kd sg U m k c mm xs ys C G) : c 0 = U + 1 := h.2.1
theorem ep_Pl.m0 {d kd sg U m k : Nat} {c mm xs ys : Nat → Nat} {C G : em_M} (h : ep_Pl d kd sg U m k c mm xs ys C G) : mm 0 = m + 1 := h.2.2.1
theorem ep_Pl.h0 {d kd sg U m k : Nat} {c mm xs ys : Nat → Nat} {C G : em_M} (h : ep_Pl d kd sg U m k c mm xs ys C G) : ∀ i, i < k → C.1 4 (3 * U + i) = nI (c i) ∧ G.1 125 (5 * m + i) = nI (mm i) ∧ ep_Tr C G d (c i) (c (i + 1)) (mm i) (mm (i + 1)) (xs i) (ys i) := h.2.2.2.1
theorem ep_Pl.h1 {d kd sg U m k : Nat} {c mm xs ys : Nat → Nat} {C G : em_M} (h : ep_Pl d kd sg U m k c mm xs ys C G) : ∀ i, k ≤ i → i < 3 → C.1 4 (3 * U + i) = -1 := h.2.2.2.2.1
theorem ep_Pl.gn {d kd sg U m k : Nat} {c mm xs ys : Nat → Nat} {C G : em_M} (h : ep_Pl d kd sg U m k c mm xs ys C G) : G.1 124 m = nI k := h.2.2.2.2.2
theorem ep_Pl.mk {d kd sg U m k : Nat} {c mm xs ys : Nat → Nat} {C G : em_M} (hd : ep_Ph kd sg U m C G) (c0 : c 0 = U + 1) (m0 : mm 0 = m + 1) (h0 : ∀ i, i < k → C.1 4 (3 * U + i) = nI (c i) ∧ G.1 125 (5 * m + i) = nI (mm i) ∧ ep_Tr C G d (c i) (c (i + 1)) (mm i) (mm (i + 1)) (xs i) (ys i)) (h1 : ∀ i, k ≤ i → i < 3 → C.1 4 (3 * U + i) = -1) (gn : G.1 124 m = nI k) : ep_Pl d kd sg U m k c mm xs ys C G :=
  ⟨hd, c0, m0, h0, h1, gn⟩
theorem ep_Pl_st {d kd sg U m k : Nat} {c mm xs ys : Nat → Nat} {C G : em_M} (q : ep_Pl d kd sg U m k c mm xs ys C G) : ∀ i, i ≤ k → U + 1 ≤ c i ∧ m + 1 ≤ mm i := by
  intro i
  induction i with
  | zero => intro _; rw [q.c0, q.m0]; omega
  | succ i ih =>
    intro hi
    have a := ih (by omega)
    have t := ep_Tr_lt _ _ _ _ _ _ _ (q.h0 i (by omega)).2.2
    omega
theorem ep_Pl_up {d kd sg U m k : Nat} {c mm xs ys : Nat → Nat} {C G : em_M} (q : ep_Pl d kd sg U m k c mm xs ys C G) : ∀ i, i ≤ k → c i ≤ c k ∧ mm i ≤ mm k := by
  have up : ∀ j, j ≤ k → c (k - j) ≤ c k ∧ mm (k - j) ≤ mm k := by
    intro j
    induction j with
    | zero => intro _; exact ⟨Nat.le_refl _, Nat.le_refl _⟩
    | succ j ij =>
      intro hj
      have i := ij (by omega)
      have t := ep_Tr_lt _ _ _ _ _ _ _ (q.h0 (k - (j + 1)) (by omega)).2.2
      rw [show k - (j + 1) + 1 = k - j by omega] at t
      omega
  intro i hi
  have := up (k - i) (by omega)
  rw [show k - (k - i) = i by omega] at this
  exact this
/-- one part more -/
theorem ep_Pl_on {d kd sg U m k u' m' x y : Nat} {c mm xs ys : Nat → Nat} {C G C1 G1 : em_M} (q : ep_Pl d kd sg U m k c mm xs ys C G) (hk : k < 3) (t : ep_Tr C1 G1 d (c k) u' (mm k) m' x y) (f : ep_Pc (c k) C C1) (g : ep_Pg (mm k) G G1) : ∃ c' mm' xs' ys', c' (k + 1) = u' ∧ mm' (k + 1) = m' ∧ ep_Pl d kd sg U m (k + 1) c' mm' xs' ys' (em_pI C1 4 (3 * U + k) (nI (c k))) (em_pI (em_pI G1 125 (5 * m + k) (nI (mm k))) 124 m (nI (k + 1))) := by
  obtain ⟨c', d1, d2⟩ := ep_ext c (k + 1) u'
  obtain ⟨mm', d3, d4⟩ := ep_ext mm (k + 1) m'
  obtain ⟨xs', d5, d6⟩ := ep_ext xs k x
  obtain ⟨ys', d7, d8⟩ := ep_ext ys k y
  have st := ep_Pl_st q
  have up := ep_Pl_up q
  have sk := st k (Nat.le_refl _)
  refine ⟨c', mm', xs', ys', d2, d4, ep_Pl.mk ?_ ?_ ?_ ?_ ?_ ?_⟩
  · refine ep_Ph_cg q.hd ?_ ?_ ?_ ?_
    · rw [ef_pI' _ _ _ _ (by omega)]; exact (f.c4 U (by omega)).1
    · rw [ef_pI' _ _ _ _ (by omega)]; exact (f.c4 U (by omega)).2
    · rw [ef_pI' _ _ _ _ (by omega), ef_pI' _ _ _ _ (by omega)]; exact (g.g4 m (by omega)).1
    · rw [ef_pI' _ _ _ _ (by omega), ef_pI' _ _ _ _ (by omega)]; exact (g.g4 m (by omega)).2.1
  · rw [d1 0 (by omega)]; exact q.c0
  · rw [d3 0 (by omega)]; exact q.m0
  · intro i hi
    by_cases e : i = k
    · subst e
      rw [d1 i (by omega), d2, d3 i (by omega), d4, d6, d8]
      refine ⟨ef_pIs _ _ rfl, ?_, ?_⟩
      · rw [ef_pI' _ _ _ _ (by omega), ef_pIs _ _ rfl]
      · have tl := ep_Tr_lt _ _ _ _ _ _ _ t
        refine ep_Tr_cg _ _ _ _ _ _ _ (fun j j1 j2 => ⟨?_, ?_⟩) (fun j j1 j2 => ?_) (fun j j1 j2 => ⟨?_, ?_, ?_⟩) (fun j j1 j2 => ?_) t
        · rw [ef_pI' _ _ _ _ (by omega)]
        · rw [ef_pI' _ _ _ _ (by omega)]
        · rw [ef_pIk _ _ (by omega)]
        · rw [ef_pI' _ _ _ _ (by omega), ef_pI' _ _ _ _ (by omega)]
        · rw [ef_pI' _ _ _ _ (by omega), ef_pI' _ _ _ _ (by omega)]
        · rw [ef_pIk _ _ (by omega), ef_pI' _ _ _ _ (by omega)]
        · rw [ef_pI' _ _ _ _ (by omega), ef_pIk _ _ (by omega)]
    · obtain ⟨h1, h2, h3⟩ := q.h0 i (by omega)
      have tl := ep_Tr_lt _ _ _ _ _ _ _ h3
      have a1 := st i (by omega)
      have a2 := up (i + 1) (by omega)
      rw [d1 i (by omega), d1 (i + 1) (by omega), d3 i (by omega), d3 (i + 1) (by omega), d5 i (by omega), d7 i (by omega)]
      refine ⟨?_, ?_, ?_⟩
      · rw [ef_pIk _ _ (by omega), f.c5 _ (by omega)]; exact h1
      · rw [ef_pI' _ _ _ _ (by omega), ef_pIk _ _ (by omega), g.g5 _ (by omega)]; exact h2
      · refine ep_Tr_cg _ _ _ _ _ _ _ (fun j j1 j2 => ⟨?_, ?_⟩) (fun j j1 j2 => ?_) (fun j j1 j2 => ⟨?_, ?_, ?_⟩) (fun j j1 j2 => ?_) h3
        · rw [ef_pI' _ _ _ _ (by omega)]; exact (f.c4 j (by omega)).1
        · rw [ef_pI' _ _ _ _ (by omega)]; exact (f.c4 j (by omega)).2
        · rw [ef_pIk _ _ (by omega)]; exact f.c5 j (by omega)
        · rw [ef_pI' _ _ _ _ (by omega), ef_pI' _ _ _ _ (by omega)]; exact (g.g4 j (by omega)).1
        · rw [ef_pI' _ _ _ _ (by omega), ef_pI' _ _ _ _ (by omega)]; exact (g.g4 j (by omega)).2.1
        · rw [ef_pIk _ _ (by omega), ef_pI' _ _ _ _ (by omega)]; exact (g.g4 j (by omega)).2.2
        · rw [ef_pI' _ _ _ _ (by omega), ef_pIk _ _ (by omega)]; exact g.g5 j (by omega)
  · intro i i1 i2
    rw [ef_pIk _ _ (by omega), f.c5 _ (by omega)]; exact q.h1 i (by omega) i2
  · exact ef_pIs _ _ rfl
/-- all parts are read -/
theorem ep_xyK {kd sg np : Nat} (K : ep_K kd sg np) (xs ys : Nat → Nat) : ∃ x y, ep_xy kd xs ys x y := by
  unfold ep_K at K
  unfold ep_xy
  have hh : kd = 0 ∨ kd = 1 ∨ kd = 2 ∨ kd = 4 ∨ kd = 5 ∨ kd = 6 ∨ kd = 7 ∨ kd = 8 ∨ kd = 13 := by omega
  rcases hh with e | e | e | e | e | e | e | e | e
  · exact ⟨_, _, Or.inl ⟨e, rfl, rfl⟩⟩
  · exact ⟨_, _, Or.inr (Or.inl ⟨e, rfl, rfl⟩)⟩
  · exact ⟨_, _, Or.inr (Or.inr (Or.inl ⟨e, rfl, rfl⟩))⟩
  · exact ⟨_, _, Or.inr (Or.inr (Or.inr (Or.inl ⟨e, rfl, rfl⟩)))⟩
  · exact ⟨_, _, Or.inr (Or.inr (Or.inr (Or.inr (Or.inl ⟨Or.inl e, rfl, rfl⟩))))⟩
  · exact ⟨_, _, Or.inr (Or.inr (Or.inr (Or.inr (Or.inl ⟨Or.inr (Or.inl e), rfl, rfl⟩))))⟩
  · exact ⟨_, _, Or.inr (Or.inr (Or.inr (Or.inr (Or.inl ⟨Or.inr (Or.inr e), rfl, rfl⟩))))⟩
  · exact ⟨_, _, Or.inr (Or.inr (Or.inr (Or.inr (Or.inr (Or.inl ⟨e, rfl, rfl⟩)))))⟩
  · exact ⟨_, _, Or.inr (Or.inr (Or.inr (Or.inr (Or.inr (Or.inr ⟨e, rfl, rfl⟩)))))⟩
theorem ep_Pl_end {d kd sg np U m : Nat} {c mm xs ys : Nat → Nat} {C G : em_M} (K : ep_K kd sg np) (q : ep_Pl d kd sg U m np c mm xs ys C G) : ∃ x y, ep_Tr C G (d + 1) U (c np) m (mm np) x y := by
  obtain ⟨x, y, e⟩ := ep_xyK K xs ys
  exact ⟨x, y, Or.inr (Or.inr (Or.inr ⟨kd, sg, np, c, mm, xs, ys, ep_T4.mk K q.c0 q.m0 q.hd.hk q.hd.hs q.gn q.hd.hm q.hd.hf q.hd.ha q.h0 q.h1 ⟨rfl, rfl, e⟩⟩))⟩
/-- the model reads a part, the program the E of it -/
theorem ep_ptG {d w : Nat} {EX EY : em_M → Int32 → Int32 × em_M} {SY : em_M → Int32 → Prop} (EE : ep_EE d (w + 1) EX EY SY) {nl u0 n p u r m k : Nat} {C G : em_M} (z : ep_Pz nl u0 n p u r C G) (hm : m < 101 * nl + r) (hk : k < 5) (gn : G.1 124 m = nI k) : es_X12_part EY SY G (nI m) (nI w) ∧ (((EX C (nI (w + 1))).1 = -1 ∧ (et_X12_part EY G (nI m) (nI w)).1 = -1 ∧ (∃ q, q ≤ 100 ∧ (EX C (nI (w + 1))).2.1 9 1 = nI q ∧ (et_X12_part EY G (nI m) (nI w)).2.1 118 13 = nI q) ∧ ep_Pc u C (EX C (nI (w + 1))).2 ∧ ep_Pg (101 * nl + r) G (et_X12_part EY G (nI m) (nI w)).2) ∨
    (∃ C1 G1 p' u' r' x y, EX C (nI (w + 1)) = (nI u, C1) ∧ et_X12_part EY G (nI m) (nI w) = (nI (101 * nl + r), em_pI (em_pI G1 125 (5 * m + k) (nI (101 * nl + r))) 124 m (nI (k + 1))) ∧ ep_Pz nl u0 n p' u' r' C1 G1 ∧ ep_Tr C1 G1 d u u' (101 * nl + r) (101 * nl + r') x y ∧ ep_Pc u C C1 ∧ ep_Pg (101 * nl + r) G G1)) := by
  obtain ⟨s, e⟩ := EE nl u0 n p u r C G z
  have l7 := z.l7
  have rb := z.rb
  have pn := z.pn
  have n1 := z.n1
  rw [es_X12_part, et_X12_part, nI_1, nI_clamp (show m < 2 ^ 31 by omega)]
  generalize EY G (nI (w + 1)) = B at e ⊢
  generalize EX C (nI (w + 1)) = A at e ⊢
  obtain ⟨a, C1⟩ := A
  obtain ⟨b, G1⟩ := B
  rcases e with ⟨e1, e2, e3, e4, e5⟩ | ⟨p', u', r', x, y, e1, e2, e3, e4, e5, e6⟩
  · dsimp only at e1 e2 e3 e4 e5
    subst e1
    subst e2
    have ng : ¬ (0 : Int32) ≤ -1 := by decide
    dsimp only
    rw [if_neg ng]
    refine ⟨⟨s, fun r1 M2 q => ?_⟩, Or.inl ⟨rfl, rfl, e3, e4, e5⟩⟩
    obtain ⟨q1, q2⟩ := Prod.mk.inj q
    subst q1
    exact ⟨fun i => absurd i ng, fun _ => trivial⟩
  · dsimp only at e1 e2 e3 e4 e5 e6
    subst e1
    subst e2
    have ps : (0 : Int32) ≤ nI (101 * nl + r) := nI_pos' (by omega)
    have gn1 : G1.1 124 m = nI k := (e6.g4 m hm).2.2.trans gn
    have gn2 : (em_pI G1 125 (5 * m + k) (nI (101 * nl + r))).1 124 m = nI k := by rw [ef_pI' _ _ _ _ (by omega)]; exact gn1
    dsimp only
    rw [if_pos ps, gn1, eq_x5, nI_add, nI_clamp (show 5 * m + k < 2 ^ 31 by omega), gn2, nI_1]
    refine ⟨⟨s, fun r1 M2 q => ?_⟩, Or.inr ⟨C1, G1, p', u', r', x, y, rfl, rfl, e3, e4, e5, e6⟩⟩
    obtain ⟨q1, q2⟩ := Prod.mk.inj q
    subst q1
    subst q2
    refine ⟨fun _ => ⟨vp_in_nI (by omega) (by omega), ?_, fun _ _ => ⟨vp_in_nI (by omega) (by omega), vp_in_nI (by omega) (by omega), fun _ _ => trivial⟩⟩, fun i => absurd ps i⟩
    rw [gn1, nI_add]
    exact vp_in_nI (by omega) (by omega)
