/-! a LIST is read -/
def ep_Pm (d U m k : Nat) (rr mm xs ys : Nat → Nat) (C G : em_M) : Prop :=
  (rr 0 = U) ∧
  (mm 0 = m + 1) ∧
  (G.1 122 m = nI 91) ∧
  (G.1 124 m = nI k) ∧
  (∀ i, i ≤ k → C.1 2 (rr i) = if i = 0 then nI 3 else nI 14) ∧
  (∀ i, i < k → C.1 4 (3 * rr i) = nI (rr i + 1) ∧ C.1 4 (3 * rr i + 1) = nI (rr (i + 1)) ∧ C.1 4 (3 * rr i + 2) = -1 ∧ G.1 125 (5 * m + i) = nI (mm i) ∧ ep_Tr C G d (rr i + 1) (rr (i + 1)) (mm i) (mm (i + 1)) (xs i) (ys i)) ∧
  (C.1 4 (3 * rr k) = -1 ∧ C.1 4 (3 * rr k + 1) = -1 ∧ C.1 4 (3 * rr k + 2) = -1)
theorem ep_Pm.r0 {d U m k : Nat} {rr mm xs ys : Nat → Nat} {C G : em_M} (h : ep_Pm d U m k rr mm xs ys C G) : rr 0 = U := h.1
theorem ep_Pm.m0 {d U m k : Nat} {rr mm xs ys : Nat → Nat} {C G : em_M} (h : ep_Pm d U m k rr mm xs ys C G) : mm 0 = m + 1 := h.2.1
theorem ep_Pm.hs {d U m k : Nat} {rr mm xs ys : Nat → Nat} {C G : em_M} (h : ep_Pm d U m k rr mm xs ys C G) : G.1 122 m = nI 91 := h.2.2.1
theorem ep_Pm.gn {d U m k : Nat} {rr mm xs ys : Nat → Nat} {C G : em_M} (h : ep_Pm d U m k rr mm xs ys C G) : G.1 124 m = nI k := h.2.2.2.1
theorem ep_Pm.hk {d U m k : Nat} {rr mm xs ys : Nat → Nat} {C G : em_M} (h : ep_Pm d U m k rr mm xs ys C G) : ∀ i, i ≤ k → C.1 2 (rr i) = if i = 0 then nI 3 else nI 14 := h.2.2.2.2.1
theorem ep_Pm.h0 {d U m k : Nat} {rr mm xs ys : Nat → Nat} {C G : em_M} (h : ep_Pm d U m k rr mm xs ys C G) : ∀ i, i < k → C.1 4 (3 * rr i) = nI (rr i + 1) ∧ C.1 4 (3 * rr i + 1) = nI (rr (i + 1)) ∧ C.1 4 (3 * rr i + 2) = -1 ∧ G.1 125 (5 * m + i) = nI (mm i) ∧ ep_Tr C G d (rr i + 1) (rr (i + 1)) (mm i) (mm (i + 1)) (xs i) (ys i) := h.2.2.2.2.2.1
theorem ep_Pm.h1 {d U m k : Nat} {rr mm xs ys : Nat → Nat} {C G : em_M} (h : ep_Pm d U m k rr mm xs ys C G) : C.1 4 (3 * rr k) = -1 ∧ C.1 4 (3 * rr k + 1) = -1 ∧ C.1 4 (3 * rr k + 2) = -1 := h.2.2.2.2.2.2
theorem ep_Pm.mk {d U m k : Nat} {rr mm xs ys : Nat → Nat} {C G : em_M} (r0 : rr 0 = U) (m0 : mm 0 = m + 1) (hs : G.1 122 m = nI 91) (gn : G.1 124 m = nI k) (hk : ∀ i, i ≤ k → C.1 2 (rr i) = if i = 0 then nI 3 else nI 14) (h0 : ∀ i, i < k → C.1 4 (3 * rr i) = nI (rr i + 1) ∧ C.1 4 (3 * rr i + 1) = nI (rr (i + 1)) ∧ C.1 4 (3 * rr i + 2) = -1 ∧ G.1 125 (5 * m + i) = nI (mm i) ∧ ep_Tr C G d (rr i + 1) (rr (i + 1)) (mm i) (mm (i + 1)) (xs i) (ys i)) (h1 : C.1 4 (3 * rr k) = -1 ∧ C.1 4 (3 * rr k + 1) = -1 ∧ C.1 4 (3 * rr k + 2) = -1) : ep_Pm d U m k rr mm xs ys C G :=
  ⟨r0, m0, hs, gn, hk, h0, h1⟩
theorem ep_rr {d n : Nat} {rr mm xs ys : Nat → Nat} {C G : em_M} (h : ∀ i, i < n → ep_Tr C G d (rr i + 1) (rr (i + 1)) (mm i) (mm (i + 1)) (xs i) (ys i)) : ∀ i, i ≤ n → rr 0 ≤ rr i ∧ mm 0 ≤ mm i ∧ rr i ≤ rr n ∧ mm i ≤ mm n ∧ (i < n → rr i + 1 < rr (i + 1) ∧ mm i < mm (i + 1)) := by
  have lo : ∀ i, i ≤ n → rr 0 ≤ rr i ∧ mm 0 ≤ mm i := by
    intro i
    induction i with
    | zero => intro _; exact ⟨Nat.le_refl _, Nat.le_refl _⟩
    | succ i ih =>
      intro hi
      have a := ih (by omega)
      have t := ep_Tr_lt _ _ _ _ _ _ _ (h i (by omega))
      omega
  have up : ∀ j, j ≤ n → rr (n - j) ≤ rr n ∧ mm (n - j) ≤ mm n := by
    intro j
    induction j with
    | zero => intro _; exact ⟨Nat.le_refl _, Nat.le_refl _⟩
    | succ j ij =>
      intro hj
      have i := ij (by omega)
      have t := ep_Tr_lt _ _ _ _ _ _ _ (h (n - (j + 1)) (by omega))
      rw [show n - (j + 1) + 1 = n - j by omega] at t
      omega
  intro i hi
  have a := lo i hi
  have b := up (n - i) (by omega)
  rw [show n - (n - i) = i by omega] at b
  refine ⟨a.1, a.2, b.1, b.2, fun q => ?_⟩
  have t := ep_Tr_lt _ _ _ _ _ _ _ (h i q)
  omega
theorem ep_Pm_on {d U m k u' m' x y : Nat} {rr mm xs ys : Nat → Nat} {C G C1 G1 : em_M} (q : ep_Pm d U m k rr mm xs ys C G) (hk : k < 5) (t : ep_Tr C1 G1 d (rr k + 1) u' (mm k) m' x y) (f : ep_Pc (rr k + 1) C C1) (g : ep_Pg (mm k) G G1) : ∃ rr' mm' xs' ys' x' y', rr' k = rr k ∧ rr' (k + 1) = u' ∧ mm' (k + 1) = m' ∧ ep_T3 (ep_Tr (em_pI C1 4 (3 * rr k) (nI (rr k + 1))) (em_pI (em_pI G1 125 (5 * m + k) (nI (mm k))) 124 m (nI (k + 1))) d) (em_pI C1 4 (3 * rr k) (nI (rr k + 1))) (em_pI (em_pI G1 125 (5 * m + k) (nI (mm k))) 124 m (nI (k + 1))) U u' m m' x' y' (k + 1) rr' mm' xs' ys' := by
  obtain ⟨c', d1, d2⟩ := ep_ext rr (k + 1) u'
  obtain ⟨mm', d3, d4⟩ := ep_ext mm (k + 1) m'
  obtain ⟨xs', d5, d6⟩ := ep_ext xs k x
  obtain ⟨ys', d7, d8⟩ := ep_ext ys k y
  have st := ep_rr (fun i hi => (q.h0 i hi).2.2.2.2)
  have sk := st k (Nat.le_refl _)
  have r0 := q.r0
  have m0 := q.m0
  refine ⟨c', mm', xs', ys', _, _, d1 k (by omega), d2, d4, ep_T3.mk (by omega) (by omega) ?_ ?_ ?_ ?_ ?_ ?_ ⟨d2.symm, d4.symm, rfl, rfl⟩⟩
  · rw [d1 0 (by omega)]; exact r0
  · rw [d3 0 (by omega)]; exact m0
  · rw [ef_pI' _ _ _ _ (by omega), ef_pI' _ _ _ _ (by omega), (g.g4 m (by omega)).1]; exact q.hs
  · exact ef_pIs _ _ rfl
  · intro i hi
    have si := st i (by omega)
    rw [d1 i (by omega), ef_pI' _ _ _ _ (by omega), (f.c4 (rr i) (by omega)).1]; exact q.hk i (by omega)
  · intro i hi
    by_cases e : i = k
    · subst e
      have nn : ¬ i + 1 < i + 1 := by omega
      have tl := ep_Tr_lt _ _ _ _ _ _ _ t
      obtain ⟨h1, h2, h3⟩ := q.h1
      rw [d1 i (by omega), d2, d3 i (by omega), d4, d6, d8, if_neg nn]
      refine ⟨ef_pIs _ _ rfl, ?_, ?_, ?_, ?_⟩
      · rw [ef_pIk _ _ (by omega), f.c5 _ (by omega)]; exact h2
      · rw [ef_pIk _ _ (by omega), f.c5 _ (by omega)]; exact h3
      · rw [ef_pI' _ _ _ _ (by omega), ef_pIs _ _ rfl]
      · refine ep_Tr_cg _ _ _ _ _ _ _ (fun j j1 j2 => ⟨?_, ?_⟩) (fun j j1 j2 => ?_) (fun j j1 j2 => ⟨?_, ?_, ?_⟩) (fun j j1 j2 => ?_) t
        · rw [ef_pI' _ _ _ _ (by omega)]
        · rw [ef_pI' _ _ _ _ (by omega)]
        · rw [ef_pIk _ _ (by omega)]
        · rw [ef_pI' _ _ _ _ (by omega), ef_pI' _ _ _ _ (by omega)]
        · rw [ef_pI' _ _ _ _ (by omega), ef_pI' _ _ _ _ (by omega)]
        · rw [ef_pIk _ _ (by omega), ef_pI' _ _ _ _ (by omega)]
        · rw [ef_pI' _ _ _ _ (by omega), ef_pIk _ _ (by omega)]
    · obtain ⟨h1, h2, h3, h4, h5⟩ := q.h0 i (by omega)
      have tl := ep_Tr_lt _ _ _ _ _ _ _ h5
      have a1 := st i (by omega)
      have a2 := st (i + 1) (by omega)
      rw [d1 i (by omega), d1 (i + 1) (by omega), d3 i (by omega), d3 (i + 1) (by omega), d5 i (by omega), d7 i (by omega), if_pos (show i + 1 < k + 1 by omega)]
      refine ⟨?_, ?_, ?_, ?_, ?_⟩
      · rw [ef_pIk _ _ (by omega), f.c5 _ (by omega)]; exact h1
      · rw [ef_pIk _ _ (by omega), f.c5 _ (by omega)]; exact h2
      · rw [ef_pIk _ _ (by omega), f.c5 _ (by omega)]; exact h3
      · rw [ef_pI' _ _ _ _ (by omega), ef_pIk _ _ (by omega), g.g5 _ (by omega)]; exact h4
      · refine ep_Tr_cg _ _ _ _ _ _ _ (fun j j1 j2 => ⟨?_, ?_⟩) (fun j j1 j2 => ?_) (fun j j1 j2 => ⟨?_, ?_, ?_⟩) (fun j j1 j2 => ?_) h5
        · rw [ef_pI' _ _ _ _ (by omega)]; exact (f.c4 j (by omega)).1
        · rw [ef_pI' _ _ _ _ (by omega)]; exact (f.c4 j (by omega)).2
        · rw [ef_pIk _ _ (by omega)]; exact f.c5 j (by omega)
        · rw [ef_pI' _ _ _ _ (by omega), ef_pI' _ _ _ _ (by omega)]; exact (g.g4 j (by omega)).1
        · rw [ef_pI' _ _ _ _ (by omega), ef_pI' _ _ _ _ (by omega)]; exact (g.g4 j (by omega)).2.1
        · rw [ef_pIk _ _ (by omega), ef_pI' _ _ _ _ (by omega)]; exact (g.g4 j (by omega)).2.2
        · rw [ef_pI' _ _ _ _ (by omega), ef_pIk _ _ (by omega)]; exact g.g5 j (by omega)
/-- a REST is laid -/
theorem ep_Pm_rest {d U hx m mh x y k : Nat} {rr mm xs ys : Nat → Nat} {C G : em_M} (t : ep_T3 (ep_Tr C G d) C G U hx m mh x y (k + 1) rr mm xs ys) (a b : Int32) : ep_Pm d U m (k + 1) rr mm xs ys (em_pI (ep_ad (em_pI C 9 1 a) hx 14 0) 4 (3 * rr k + 1) (nI hx)) (em_pI G 118 12 b) := by
  have st := ep_rr (fun i hi => (t.h0 i hi).2.2.2.2)
  obtain ⟨e1, e2, -, -⟩ := t.hh
  have sk := st k (by omega)
  have kk := sk.2.2.2.2 (by omega)
  refine ep_Pm.mk t.r0 t.m0 ?_ ?_ ?_ ?_ ?_
  · rw [ef_pI' _ _ _ _ (by omega)]; exact t.hs
  · rw [ef_pI' _ _ _ _ (by omega)]; exact t.hn
  · intro i hi
    by_cases e : i = k + 1
    · subst e
      rw [if_neg (by omega)]
      simp (disch := omega) only [ep_ad, ef_pI', ef_pIk, ef_pIs]
      rfl
    · have si := st i (by omega)
      have s1 := si.2.2.2.2 (by omega)
      have s2 := st (i + 1) (by omega)
      simp (disch := omega) only [ep_ad, ef_pI', ef_pIk, ef_pIs]
      exact t.hk i (by omega)
  · intro i hi
    obtain ⟨h1, h2, h3, h4, h5⟩ := t.h0 i hi
    have tl := ep_Tr_lt _ _ _ _ _ _ _ h5
    have s2 := st (i + 1) (by omega)
    have s3 := st i (by omega)
    have T : ep_Tr (em_pI (ep_ad (em_pI C 9 1 a) hx 14 0) 4 (3 * rr k + 1) (nI hx)) (em_pI G 118 12 b) d (rr i + 1) (rr (i + 1)) (mm i) (mm (i + 1)) (xs i) (ys i) := by
      have ne : ∀ j, 3 * (rr i + 1) ≤ j → j < 3 * rr (i + 1) → j ≠ 3 * rr k + 1 := by
        intro j j1 j2
        by_cases e : i = k
        · subst e; omega
        · have s4 := st k (by omega)
          have s5 : rr (i + 1) ≤ rr k := by
            have st' := ep_rr (n := k) (fun i hi => (t.h0 i (by omega)).2.2.2.2)
            exact (st' (i + 1) (by omega)).2.2.1
          omega
      refine ep_Tr_cg _ _ _ _ _ _ _ (fun j j1 j2 => ⟨?_, ?_⟩) (fun j j1 j2 => ?_) (fun j j1 j2 => ⟨?_, ?_, ?_⟩) (fun j j1 j2 => ?_) h5
      · simp (disch := omega) only [ep_ad, ef_pI', ef_pIk]
      · simp (disch := omega) only [ep_ad, ef_pI', ef_pIk]
      · have nj := ne j j1 j2
        simp (disch := omega) only [ep_ad, ef_pI', ef_pIk]
      · rw [ef_pI' _ _ _ _ (by omega)]
      · rw [ef_pI' _ _ _ _ (by omega)]
      · rw [ef_pI' _ _ _ _ (by omega)]
      · rw [ef_pI' _ _ _ _ (by omega)]
    by_cases e : i = k
    · subst e
      refine ⟨?_, ?_, ?_, ?_, T⟩
      · simp (disch := omega) only [ep_ad, ef_pI', ef_pIk]; exact h1
      · rw [ef_pIs _ _ rfl, e1]
      · simp (disch := omega) only [ep_ad, ef_pI', ef_pIk]; exact h3
      · rw [ef_pI' _ _ _ _ (by omega)]; exact h4
    · have s4 := st k (by omega)
      have s5 : rr (i + 1) ≤ rr k := by
        have st' := ep_rr (n := k) (fun i hi => (t.h0 i (by omega)).2.2.2.2)
        exact (st' (i + 1) (by omega)).2.2.1
      rw [if_pos (by omega)] at h2
      refine ⟨?_, ?_, ?_, ?_, T⟩
      · simp (disch := omega) only [ep_ad, ef_pI', ef_pIk]; exact h1
      · simp (disch := omega) only [ep_ad, ef_pI', ef_pIk]; exact h2
      · simp (disch := omega) only [ep_ad, ef_pI', ef_pIk]; exact h3
      · rw [ef_pI' _ _ _ _ (by omega)]; exact h4
  · rw [← e1]
    refine ⟨?_, ?_, ?_⟩
    · simp (disch := omega) only [ep_ad, ef_pI', ef_pIk, ef_pIs]
    · simp (disch := omega) only [ep_ad, ef_pI', ef_pIk, ef_pIs]
    · simp (disch := omega) only [ep_ad, ef_pI', ef_pIk, ef_pIs]
/-- a byte that is due, by the byte at the place -/
theorem ep_pas {nl u0 n p u r : Nat} {C G : em_M} (z : ep_Pz nl u0 n p u r C G) (due : Int32) : et_X5_passed C due = (if et_X12_byteAt G (nI p) = due then (1, em_pI C 9 1 (nI (p + 1))) else (0, C)) ∧ et_X12_is G due = (if et_X12_byteAt G (nI p) = due then (1, em_pI G 118 12 (nI (p + 1))) else (0, G)) := by
  have e := ep_sgE z
  rw [et_X5_passed, et_X12_is, e, z.p1, z.p2, nI_1]
  exact ⟨rfl, rfl⟩
/-- one part of a list, and what comes after it -/
def ep_lb (E : em_M → Int32 → Int32 × em_M) (K : em_M → Int32 → Int32 → Int32 × em_M) (within : Int32) (M : em_M) (x2 : Int32) (x3 : Int32) : Int32 × em_M :=
  let q6 := E M within
  let r4 := q6.1
  let M5 := q6.2
  (if 0 ≤ r4 then let M8 := et_X2_link M5 x3 (0 : Int32) r4
  let q11 := et_X5_passed M8 (93 : Int32)
  let r9 := q11.1
  let M10 := q11.2
  (if r9 = 0 then let q15 := et_X5_passed M10 (44 : Int32)
  let r13 := q15.1
  let M14 := q15.2
  (if r13 = 0 then ((-1 : Int32), M14) else let q19 := et_X2_add M14 (14 : Int32) (0 : Int32)
  let r17 := q19.1
  let M18 := q19.2
  let M20 := et_X2_link M18 x3 (1 : Int32) r17
  K M20 x2 r17) else (x2, M10)) else ((-1 : Int32), M5))
def ep_LL (d w : Nat) (EY : em_M → Int32 → Int32 × em_M) (SY : em_M → Int32 → Prop) (nl u0 n U m : Nat) (C0 G0 : em_M) (k f : Nat) (KK : em_M → Int32 → Int32 → Int32 × em_M) : Prop :=
  ∀ (rr mm xs ys : Nat → Nat) (C G : em_M) (p r : Nat), ep_Pm d U m k rr mm xs ys C G → ep_Pz nl u0 n p (rr k + 1) r C G → mm k = 101 * nl + r → ep_Pc U C0 C → ep_Pg m G0 G → es_X12_list_10 EY SY (nI w) f G (nI m) ∧ ep_Po nl u0 n U m (d + 1) C0 G0 (KK C (nI U) (nI (rr k))) (et_X12_list_10 EY (nI w) f G (nI m))
/-- the E of a part is read and laid: what holds then -/
theorem ep_Pm_rd {d U m k nl u0 n p' u' r r' x y : Nat} {rr mm xs ys : Nat → Nat} {C0 G0 C G C1 G1 : em_M} (q : ep_Pm d U m k rr mm xs ys C G) (hk : k < 5) (hm : mm k = 101 * nl + r) (f : ep_Pc U C0 C) (g : ep_Pg m G0 G) (a3 : ep_Pz nl u0 n p' u' r' C1 G1) (a4 : ep_Tr C1 G1 d (rr k + 1) u' (101 * nl + r) (101 * nl + r') x y) (a5 : ep_Pc (rr k + 1) C C1) (a6 : ep_Pg (101 * nl + r) G G1) : ∃ C2 G2 rr' mm' xs' ys' x' y', C2 = em_pI C1 4 (3 * rr k) (nI (rr k + 1)) ∧ G2 = em_pI (em_pI G1 125 (5 * m + k) (nI (101 * nl + r))) 124 m (nI (k + 1)) ∧ rr' k = rr k ∧ rr' (k + 1) = u' ∧ mm' (k + 1) = 101 * nl + r' ∧ ep_T3 (ep_Tr C2 G2 d) C2 G2 U u' m (101 * nl + r') x' y' (k + 1) rr' mm' xs' ys' ∧ ep_Pz nl u0 n p' u' r' C2 G2 ∧ ep_Pc U C0 C2 ∧ ep_Pg m G0 G2 := by
  have st := ep_rr (fun i hi => (q.h0 i hi).2.2.2.2)
  have sk := st k (Nat.le_refl _)
  have r0 := q.r0
  have m0 := q.m0
  rw [← hm] at a4 a6
  obtain ⟨rr', mm', xs', ys', x', y', d0, d1, d2, d3⟩ := ep_Pm_on q hk a4 a5 a6
  rw [hm] at d3
  refine ⟨_, _, rr', mm', xs', ys', x', y', rfl, rfl, d0, d1, d2, d3, ?_, ?_, ?_⟩
  · refine ep_Pz_to a3 a3.pn a3.ub a3.rb ?_ ?_ ?_ ?_ ?_ ?_ ?_ ?_ ?_ ?_
    all_goals simp (disch := omega) only [ef_pI']
    · exact a3.p1
    · exact a3.us
    · exact a3.p2
    · exact a3.rd
  · exact ep_Pc_w (ep_Pc_tr f a5 (by omega)) 4 _ _ (by omega)
  · exact ep_Pg_w (ep_Pg_w (ep_Pg_tr g a6 (by omega)) 125 _ _ (by omega)) 124 _ _ (by omega)
/-- the list ends -/
theorem ep_Po_li {nl u0 n p u r U m d x y k : Nat} {rr mm xs ys : Nat → Nat} {C0 G0 C G : em_M} (T : ep_T3 (ep_Tr C G d) C G U u m (101 * nl + r) x y k rr mm xs ys) (z : ep_Pz nl u0 n p u r C G) (hp : p < n) (f : ep_Pc U C0 C) (g : ep_Pg m G0 G) : ep_Po nl u0 n U m (d + 1) C0 G0 (nI U, em_pI C 9 1 (nI (p + 1))) (nI m, em_pI G 118 12 (nI (p + 1))) := by
  have t : ep_Tr C G (d + 1) U u m (101 * nl + r) x y := Or.inr (Or.inr (Or.inl ⟨k, rr, mm, xs, ys, T⟩))
  exact Or.inr ⟨p + 1, u, r, x, y, rfl, rfl, ep_adv z hp, ep_Tr_pl t _ _, ep_Pc_w f 9 1 _ (by omega), ep_Pg_w g 118 12 _ (by omega)⟩
theorem ep_lev {d w : Nat} {EX EY : em_M → Int32 → Int32 × em_M} {SY : em_M → Int32 → Prop} (EE : ep_EE d (w + 1) EX EY SY) {nl u0 n U m k fu : Nat} {C0 G0 : em_M} {KK : em_M → Int32 → Int32 → Int32 × em_M} (hk : k < 4) (H : ep_LL d w EY SY nl u0 n U m C0 G0 (k + 1) fu KK) : ep_LL d w EY SY nl u0 n U m C0 G0 k (fu + 1) (ep_lb EX KK (nI (w + 1))) := by
  intro rr mm xs ys C G p r q z hm f g
  have n1 : ¬ (1 : Int32) = 0 := by decide
  have m1 : (-1 : Int32) < 0 := by decide
  have ng1 : ¬ (0 : Int32) ≤ -1 := by decide
  have st := ep_rr (fun i hi => (q.h0 i hi).2.2.2.2)
  have sk := st k (Nat.le_refl _)
  have r0 := q.r0
  have m0 := q.m0
  have u8 : rr k < 800 := by have := z.ub; have := z.pn; have := z.n1; have := z.ul; have := z.l7; omega
  have m8 : 101 * nl + r < 808 := by have := z.rb; have := z.pn; have := z.n1; have := z.l7; omega
  obtain ⟨t1, t2⟩ := ep_ptG EE z (show m < 101 * nl + r by omega) (show k < 5 by omega) q.gn
  rw [es_X12_list_10, et_X12_list_10, ep_lb]
  rcases t2 with ⟨a1, a2, ⟨q1, q2, q3, q4⟩, a4, a5⟩ | ⟨C1, G1, p', u', r', x, y, a1, a2, a3, a4, a5, a6⟩
  · refine ⟨⟨t1, fun r2 M3 h => ⟨fun _ => trivial, fun i => ?_⟩⟩, ?_⟩
    · rw [h] at a2
      dsimp only at a2
      rw [a2] at i
      exact absurd m1 i
    · dsimp only
      rw [a1, a2, if_neg ng1, if_pos m1]
      exact Or.inl ⟨rfl, rfl, ⟨q1, q2, q3, q4⟩, ep_Pc_tr f a4 (by omega), ep_Pg_tr g a5 (by omega)⟩
  · have lk : et_X2_link C1 (nI (rr k)) (0 : Int32) (nI (rr k + 1)) = em_pI C1 4 (3 * rr k) (nI (rr k + 1)) := eq_link (k := 0) u8 (by omega) _
    obtain ⟨C2, G2, rr', mm', xs', ys', x', y', hC, hG, d0, d1, d2, T, z2, f2, g2⟩ := ep_Pm_rd q (by omega) hm f g a3 a4 a5 a6
    rw [← hC] at lk
    rw [← hG] at a2
    have cp : (0 : Int32) ≤ nI (rr k + 1) := nI_pos' (by omega)
    have mp : ¬ nI (101 * nl + r) < 0 := nI_pos (by omega)
    have n5 : ¬ G2.1 124 m = (5 : Int32) := by
      rw [T.hn, show (5 : Int32) = nI 5 from rfl, nI_eq (by omega) (by omega)]
      omega
    obtain ⟨s2, s3⟩ := ep_sgn z2
    have d93 := (ep_due z2 93 (by decide)).1
    obtain ⟨pc3, pg3⟩ := ep_pas z2 93
    obtain ⟨pc4, -⟩ := ep_pas z2 44
    have lt : ∀ c : Int32, ¬ c = -1 → et_X12_byteAt G2 (nI p') = c → p' < n := by
      intro c hc e
      rcases s3 with ⟨-, -, e2⟩ | ⟨e1, -⟩
      · exact absurd (e.symm.trans e2) hc
      · exact e1
    rw [a1, a2]
    dsimp only
    rw [if_pos cp, if_neg mp, lk, nI_clamp (show m < 2 ^ 31 by omega), if_neg n5, z2.p2, pc3]
    have fin : ∀ Q : Prop, (et_X12_byteAt G2 (nI p') = 44 → es_X12_list_10 EY SY (nI w) fu (em_pI G2 118 12 (nI (p' + 1))) (nI m)) → Q → ((es_X12_part EY SY G (nI m) (nI w) ∧ (∀ (r2 : Int32) (M3 : em_M), (nI (101 * nl + r), G2) = (r2, M3) → ((r2 < 0 → True) ∧ (¬ r2 < 0 → (vp_in (nI m) 808 ∧ ((M3.1 124 m = (5 : Int32) → (es_X12_is M3 (93 : Int32) ∧ (∀ (r7 : Int32) (M8 : em_M), et_X12_is M3 (93 : Int32) = (r7, M8) → ((r7 = 0 → (∀ (r11 : Int32) (M12 : em_M), et_X12_stops M8 = (r11, M12) → True)) ∧ (¬ r7 = 0 → True))))) ∧ (¬ M3.1 124 m = (5 : Int32) → (es_X12_byteAt M3 (M3.1 118 12) ∧ (∀ r14 : Int32, et_X12_byteAt M3 (M3.1 118 12) = r14 → ((r14 = (44 : Int32) → (∀ M16 : em_M, em_pI M3 118 12 ((M3.1 118 12) + (1 : Int32)) = M16 → es_X12_list_10 EY SY (nI w) fu M16 (nI m))) ∧ (¬ r14 = (44 : Int32) → (es_X12_is M3 (93 : Int32) ∧ (∀ (r17 : Int32) (M18 : em_M), et_X12_is M3 (93 : Int32) = (r17, M18) → ((r17 = 0 → (∀ (r21 : Int32) (M22 : em_M), et_X12_stops M18 = (r21, M22) → True)) ∧ (¬ r17 = 0 → True)))))))))))))))) ∧ Q := by
      intro Q h hQ
      refine ⟨⟨t1, fun r2 M3 e => ?_⟩, hQ⟩
      obtain ⟨e1, e2⟩ := Prod.mk.inj e
      subst e1
      subst e2
      refine ⟨fun _ => trivial, fun _ => ⟨vp_in_nI (by omega) (by omega), fun _ => ⟨d93, fun _ _ _ => ⟨fun _ _ _ _ => trivial, fun _ => trivial⟩⟩, fun _ => ?_⟩⟩
      rw [z2.p2, nI_1]
      refine ⟨s2, ?_⟩
      rintro _ rfl
      refine ⟨?_, fun _ => ⟨d93, fun _ _ _ => ⟨fun _ _ _ _ => trivial, fun _ => trivial⟩⟩⟩
      rintro k _ rfl
      exact h k
    by_cases b3 : et_X12_byteAt G2 (nI p') = 93
    · have b4 : ¬ et_X12_byteAt G2 (nI p') = 44 := by rw [b3]; decide
      refine fin _ (fun e => absurd e b4) ?_
      rw [if_pos b3, if_neg b4, pg3, if_pos b3]
      dsimp only
      rw [if_neg n1, if_neg n1]
      exact ep_Po_li T z2 (lt 93 (by decide) b3) f2 g2
    · by_cases b4 : et_X12_byteAt G2 (nI p') = 44
      · have hp := lt 44 (by decide) b4
        have z3 := ep_adv z2 hp
        have u9 : u' < 800 := by have := z2.ub; have := z2.pn; have := z2.n1; have := z2.ul; have := z2.l7; omega
        have ad := ec_add (C := em_pI C2 9 1 (nI (p' + 1))) (u := u') (14 : Int32) (0 : Int32) z3.us u9
        have R := ep_Pm_rest T (nI (p' + 1)) (nI (p' + 1))
        rw [d0] at R
        have st2 := ep_rr (fun i hi => (T.h0 i hi).2.2.2.2)
        have sk2 := st2 k (by omega)
        have sk3 := sk2.2.2.2.2 (by omega)
        rw [T.r0, T.m0, d0, d1] at sk2
        rw [d0, d1] at sk3
        have lk2 : et_X2_link (ep_ad (em_pI C2 9 1 (nI (p' + 1))) u' 14 0) (nI (rr k)) (1 : Int32) (nI u') = em_pI (ep_ad (em_pI C2 9 1 (nI (p' + 1))) u' 14 0) 4 (3 * rr k + 1) (nI u') := eq_link (k := 1) u8 (by omega) _
        have z4 : ep_Pz nl u0 n (p' + 1) (rr' (k + 1) + 1) r' (em_pI (ep_ad (em_pI C2 9 1 (nI (p' + 1))) u' 14 0) 4 (3 * rr k + 1) (nI u')) (em_pI G2 118 12 (nI (p' + 1))) := by
          rw [d1]
          refine ep_Pz_to z3 z3.pn ?_ z3.rb ?_ ?_ ?_ ?_ rfl ?_ ?_ rfl rfl rfl
          · have := z2.ub; omega
          · simp (disch := omega) only [ep_ad, ef_pI', ef_pIk]
          · simp (disch := omega) only [ep_ad, ef_pI', ef_pIs]
          · simp (disch := omega) only [ep_ad, ef_pI']
          · simp (disch := omega) only [ep_ad, ef_pI', ef_pIs]
          · exact z3.p2
          · exact z3.rd
        have f4 : ep_Pc U C0 (em_pI (ep_ad (em_pI C2 9 1 (nI (p' + 1))) u' 14 0) 4 (3 * rr k + 1) (nI u')) := ep_Pc_w (ep_Pc_ad (ep_Pc_w f2 9 1 _ (by omega)) (by omega) 14 0) 4 _ _ (by omega)
        have I := H rr' mm' xs' ys' _ _ (p' + 1) r' R z4 d2 f4 (ep_Pg_w g2 118 12 _ (by omega))
        refine fin _ (fun _ => I.1) ?_
        rw [if_neg b3, if_pos b4]
        dsimp only
        rw [if_pos rfl, pc4, if_pos b4]
        dsimp only
        rw [if_neg n1, ad]
        dsimp only
        rw [lk2, nI_1]
        have I2 := I.2
        rw [d1] at I2
        exact I2
      · refine fin _ (fun e => absurd e b4) ?_
        rw [if_neg b3, if_neg b4]
        dsimp only
        rw [if_pos rfl, pc4, if_neg b4, pg3, if_neg b3]
        dsimp only
        rw [if_pos rfl, if_pos rfl, et_X12_stops]
        exact ep_Po_no z2 f2 g2
/-- the fifth part -/
theorem ep_lev5 {d w : Nat} {EX EY : em_M → Int32 → Int32 × em_M} {SY : em_M → Int32 → Prop} (EE : ep_EE d (w + 1) EX EY SY) {nl u0 n U m fu : Nat} {C0 G0 : em_M} : ep_LL d w EY SY nl u0 n U m C0 G0 4 (fu + 1) (et_X5_list_15_5 EX (nI (w + 1))) := by
  intro rr mm xs ys C G p r q z hm f g
  have n1 : ¬ (1 : Int32) = 0 := by decide
  have m1 : (-1 : Int32) < 0 := by decide
  have ng1 : ¬ (0 : Int32) ≤ -1 := by decide
  have st := ep_rr (fun i hi => (q.h0 i hi).2.2.2.2)
  have sk := st 4 (Nat.le_refl _)
  have r0 := q.r0
  have m0 := q.m0
  have u8 : rr 4 < 800 := by have := z.ub; have := z.pn; have := z.n1; have := z.ul; have := z.l7; omega
  have m8 : 101 * nl + r < 808 := by have := z.rb; have := z.pn; have := z.n1; have := z.l7; omega
  obtain ⟨t1, t2⟩ := ep_ptG EE z (show m < 101 * nl + r by omega) (show 4 < 5 by omega) q.gn
  rw [es_X12_list_10, et_X12_list_10, et_X5_list_15_5]
  rcases t2 with ⟨a1, a2, ⟨q1, q2, q3, q4⟩, a4, a5⟩ | ⟨C1, G1, p', u', r', x, y, a1, a2, a3, a4, a5, a6⟩
  · refine ⟨⟨t1, fun r2 M3 h => ⟨fun _ => trivial, fun i => ?_⟩⟩, ?_⟩
    · rw [h] at a2
      dsimp only at a2
      rw [a2] at i
      exact absurd m1 i
    · dsimp only
      rw [a1, a2, if_neg ng1, if_pos m1]
      exact Or.inl ⟨rfl, rfl, ⟨q1, q2, q3, q4⟩, ep_Pc_tr f a4 (by omega), ep_Pg_tr g a5 (by omega)⟩
  · have lk : et_X2_link C1 (nI (rr 4)) (0 : Int32) (nI (rr 4 + 1)) = em_pI C1 4 (3 * rr 4) (nI (rr 4 + 1)) := eq_link (k := 0) u8 (by omega) _
    obtain ⟨C2, G2, rr', mm', xs', ys', x', y', hC, hG, d0, d1, d2, T, z2, f2, g2⟩ := ep_Pm_rd q (by omega) hm f g a3 a4 a5 a6
    rw [← hC] at lk
    rw [← hG] at a2
    have cp : (0 : Int32) ≤ nI (rr 4 + 1) := nI_pos' (by omega)
    have mp : ¬ nI (101 * nl + r) < 0 := nI_pos (by omega)
    have n5 : G2.1 124 m = (5 : Int32) := T.hn
    obtain ⟨s2, s3⟩ := ep_sgn z2
    have d93 := (ep_due z2 93 (by decide)).1
    obtain ⟨pc3, pg3⟩ := ep_pas z2 93
    rw [a1, a2]
    dsimp only
    rw [if_pos cp, if_neg mp, lk, nI_clamp (show m < 2 ^ 31 by omega), if_pos n5, pc3, pg3]
    refine ⟨⟨t1, fun r2 M3 e => ?_⟩, ?_⟩
    · obtain ⟨e1, e2⟩ := Prod.mk.inj e
      subst e1
      subst e2
      exact ⟨fun _ => trivial, fun _ => ⟨vp_in_nI (by omega) (by omega), fun _ => ⟨d93, fun _ _ _ => ⟨fun _ _ _ _ => trivial, fun _ => trivial⟩⟩, fun i => absurd n5 i⟩⟩
    · by_cases b3 : et_X12_byteAt G2 (nI p') = 93
      · have hp : p' < n := by
          rcases s3 with ⟨-, -, e2⟩ | ⟨e1, -⟩
          · rw [b3] at e2; exact absurd e2 (by decide)
          · exact e1
        rw [if_pos b3, if_pos b3]
        dsimp only
        rw [if_neg n1, if_neg n1]
        exact ep_Po_li T z2 hp f2 g2
      · rw [if_neg b3, if_neg b3]
        dsimp only
        rw [if_pos rfl, if_pos rfl, et_X12_stops]
        exact ep_Po_no z2 f2 g2
theorem ep_LL_to {d w : Nat} {EY : em_M → Int32 → Int32 × em_M} {SY : em_M → Int32 → Prop} {nl u0 n U m k fu : Nat} {C0 G0 : em_M} {K1 K2 : em_M → Int32 → Int32 → Int32 × em_M} (h : ep_LL d w EY SY nl u0 n U m C0 G0 k fu K1) (e : ∀ M a b, K2 M a b = K1 M a b) : ep_LL d w EY SY nl u0 n U m C0 G0 k fu K2 := by
  intro rr mm xs ys C G p r q z hm f g
  rw [e]
  exact h rr mm xs ys C G p r q z hm f g
theorem ep_lev1 {d w : Nat} {EX EY : em_M → Int32 → Int32 × em_M} {SY : em_M → Int32 → Prop} (EE : ep_EE d (w + 1) EX EY SY) {nl u0 n U m : Nat} {C0 G0 : em_M} : ep_LL d w EY SY nl u0 n U m C0 G0 0 6 (et_X5_list_15_1 EX (nI (w + 1))) := by
  have h5 := ep_lev5 EE (nl := nl) (u0 := u0) (n := n) (U := U) (m := m) (C0 := C0) (G0 := G0) (fu := 1)
  have h4 := ep_LL_to (K2 := et_X5_list_15_4 EX (nI (w + 1))) (ep_lev EE (by omega) h5) (fun _ _ _ => rfl)
  have h3 := ep_LL_to (K2 := et_X5_list_15_3 EX (nI (w + 1))) (ep_lev EE (by omega) h4) (fun _ _ _ => rfl)
  have h2 := ep_LL_to (K2 := et_X5_list_15_2 EX (nI (w + 1))) (ep_lev EE (by omega) h3) (fun _ _ _ => rfl)
  exact ep_LL_to (K2 := et_X5_list_15_1 EX (nI (w + 1))) (ep_lev EE (by omega) h2) (fun _ _ _ => rfl)
