/-! the parts of an E in brackets -/
theorem ep_Pl_cg {d kd sg U m k : Nat} {c mm xs ys : Nat → Nat} {C G C' G' : em_M} (q : ep_Pl d kd sg U m k c mm xs ys C G) (a2 : C'.1 2 = C.1 2) (a3 : C'.1 3 = C.1 3) (a4 : C'.1 4 = C.1 4) (b2 : G'.1 122 = G.1 122) (b3 : G'.1 123 = G.1 123) (b4 : G'.1 124 = G.1 124) (b5 : G'.1 125 = G.1 125) : ep_Pl d kd sg U m k c mm xs ys C' G' := by
  refine ep_Pl.mk (ep_Ph_cg q.hd (by rw [a2]) (by rw [a3]) (by rw [b2]) (by rw [b3])) q.c0 q.m0 (fun i hi => ?_) (fun i i1 i2 => by rw [a4]; exact q.h1 i i1 i2) (by rw [b4]; exact q.gn)
  obtain ⟨h1, h2, h3⟩ := q.h0 i hi
  exact ⟨by rw [a4]; exact h1, by rw [b5]; exact h2, ep_Tr_cg _ _ _ _ _ _ _ (fun j _ _ => ⟨by rw [a2], by rw [a3]⟩) (fun j _ _ => by rw [a4]) (fun j _ _ => ⟨by rw [b2], by rw [b3], by rw [b4]⟩) (fun j _ _ => by rw [b5]) h3⟩
theorem ep_Tr_pl {C G : em_M} {d e hi m mh x y : Nat} (t : ep_Tr C G d e hi m mh x y) (a b : Int32) : ep_Tr (em_pI C 9 1 a) (em_pI G 118 12 b) d e hi m mh x y :=
  ep_Tr_cg _ _ _ _ _ _ _ (fun j _ _ => ⟨by rw [ef_pI' _ _ _ _ (by omega)], by rw [ef_pI' _ _ _ _ (by omega)]⟩) (fun j _ _ => by rw [ef_pI' _ _ _ _ (by omega)]) (fun j _ _ => ⟨by rw [ef_pI' _ _ _ _ (by omega)], by rw [ef_pI' _ _ _ _ (by omega)], by rw [ef_pI' _ _ _ _ (by omega)]⟩) (fun j _ _ => by rw [ef_pI' _ _ _ _ (by omega)]) t
theorem ep_Pl_pl {d kd sg U m k : Nat} {c mm xs ys : Nat → Nat} {C G : em_M} (q : ep_Pl d kd sg U m k c mm xs ys C G) (a b : Int32) : ep_Pl d kd sg U m k c mm xs ys (em_pI C 9 1 a) (em_pI G 118 12 b) :=
  ep_Pl_cg q (ef_pI' _ _ _ _ (by omega)) (ef_pI' _ _ _ _ (by omega)) (ef_pI' _ _ _ _ (by omega)) (ef_pI' _ _ _ _ (by omega)) (ef_pI' _ _ _ _ (by omega)) (ef_pI' _ _ _ _ (by omega)) (ef_pI' _ _ _ _ (by omega))
/-- both stop at the place -/
theorem ep_Po_no {nl u0 n p u r U m d : Nat} {C0 G0 C G : em_M} (z : ep_Pz nl u0 n p u r C G) (f : ep_Pc U C0 C) (g : ep_Pg m G0 G) : ep_Po nl u0 n U m d C0 G0 (-1, C) (-1, em_pI G 118 13 (G.1 118 12)) :=
  Or.inl ⟨rfl, rfl, ⟨p, by have := z.pn; have := z.n1; omega, z.p1, (ef_pIs _ _ rfl).trans z.p2⟩, f, ep_Pg_w g 118 13 _ (by omega)⟩
theorem ep_pts {d w : Nat} {EX EY : em_M → Int32 → Int32 × em_M} {SY : em_M → Int32 → Prop} (EE : ep_EE d (w + 1) EX EY SY) {nl u0 n U m kd sg np : Nat} {C0 G0 : em_M} (K : ep_K kd sg np) : ∀ j k, k + j = np → 1 ≤ k → ∀ (c mm xs ys : Nat → Nat) (C G : em_M) (p r : Nat), ep_Pl d kd sg U m k c mm xs ys C G → ep_Pz nl u0 n p (c k) r C G → mm k = 101 * nl + r → ep_Pc U C0 C → ep_Pg m G0 G → ∀ f1 f2, j < f1 → j < f2 → es_X12_exprB_325 EY SY (nI w) f2 G (nI m) (nI np) (nI k) ∧ ep_Po nl u0 n U m (d + 1) C0 G0 (et_X5_parts_3 EX (nI (w + 1)) f1 C (nI U) (nI np) (nI k)) (et_X12_exprB_325 EY (nI w) f2 G (nI m) (nI np) (nI k)) := by
  have np3 : np ≤ 3 := by unfold ep_K at K; omega
  have n1 : ¬ (1 : Int32) = 0 := by decide
  have m1 : (-1 : Int32) < 0 := by decide
  intro j
  induction j with
  | zero =>
    intro k hk k1 c mm xs ys C G p r q z hm f g f1 f2 h1 h2
    obtain ⟨f1, rfl⟩ : ∃ x, f1 = x + 1 := ⟨f1 - 1, by omega⟩
    obtain ⟨f2, rfl⟩ : ∃ x, f2 = x + 1 := ⟨f2 - 1, by omega⟩
    obtain rfl : k = np := by omega
    have le : nI k ≤ nI k := nI_le (Nat.le_refl _) (by omega)
    obtain ⟨s, e⟩ := ep_due z 41 (by decide)
    rw [es_X12_exprB_325, et_X5_parts_3, et_X12_exprB_325, if_pos le, if_pos le]
    refine ⟨⟨fun _ => ⟨s, fun r24 M25 _ => ⟨fun _ _ _ _ => trivial, fun _ => trivial⟩⟩, fun i => absurd le i⟩, ?_⟩
    rcases e with ⟨e1, e2⟩ | ⟨hp, e1, e2⟩
    · rw [e1, e2]
      dsimp only
      rw [if_pos rfl, if_pos rfl, et_X12_stops]
      exact ep_Po_no z f g
    · rw [e1, e2]
      dsimp only
      rw [if_neg n1, if_neg n1]
      obtain ⟨x, y, t⟩ := ep_Pl_end K q
      rw [hm] at t
      exact Or.inr ⟨p + 1, c k, r, x, y, rfl, rfl, ep_adv z hp, ep_Tr_pl t _ _, ep_Pc_w f 9 1 _ (by omega), ep_Pg_w g 118 12 _ (by omega)⟩
  | succ j ih =>
    intro k hk k1 c mm xs ys C G p r q z hm f g f1 f2 h1 h2
    obtain ⟨f1, rfl⟩ : ∃ x, f1 = x + 1 := ⟨f1 - 1, by omega⟩
    obtain ⟨f2, rfl⟩ : ∃ x, f2 = x + 1 := ⟨f2 - 1, by omega⟩
    have ng : ¬ nI np ≤ nI k := nI_ge (by omega) (by omega)
    have k0 : ¬ nI k = 0 := nI_ne0 (by omega) (by omega)
    have k0' : ¬ nI k ≤ 0 := by rw [← nI_0]; exact nI_ge (by omega) (by omega)
    have st := ep_Pl_st q k (Nat.le_refl _)
    have U8 : U < 800 := by have := z.ub; have := z.pn; have := z.n1; have := z.ul; have := z.l7; omega
    obtain ⟨s, e⟩ := ep_due z 44 (by decide)
    rw [es_X12_exprB_325, et_X5_parts_3, et_X12_exprB_325, if_neg ng, if_neg ng, if_neg k0, if_neg k0', nI_1]
    rcases e with ⟨e1, e2⟩ | ⟨hp, e1, e2⟩
    · rw [e1, e2]
      dsimp only
      rw [if_pos rfl, if_pos rfl, z.fa, if_pos m1, et_X12_stops]
      refine ⟨⟨fun i => absurd i ng, fun _ => ⟨fun i => absurd i k0', fun _ => ⟨s, fun r40 M41 h => ?_⟩⟩⟩, ep_Po_no z f g⟩
      obtain ⟨q1, q2⟩ := Prod.mk.inj h
      subst q1
      exact ⟨fun _ => ⟨fun _ _ _ _ => trivial, fun _ => trivial⟩, fun i => absurd rfl i⟩
    · have z' := ep_adv z hp
      have q' := ep_Pl_pl q (nI (p + 1)) (nI (p + 1))
      have f' := ep_Pc_w f 9 1 (nI (p + 1)) (by omega)
      have g' := ep_Pg_w g 118 12 (nI (p + 1)) (by omega)
      rw [e1, e2]
      dsimp only
      rw [if_neg n1, if_neg n1]
      generalize em_pI C 9 1 (nI (p + 1)) = C' at z' q' f' ⊢
      generalize em_pI G 118 12 (nI (p + 1)) = G' at z' q' g' ⊢
      obtain ⟨t1, t2⟩ := ep_ptG EE z' (show m < 101 * nl + r by omega) (show k < 5 by omega) q'.gn
      have fin : ∀ P1 P2 Q : Prop, (∀ r48 M49, et_X12_part EY G' (nI m) (nI w) = (r48, M49) → (0 ≤ r48 → es_X12_exprB_325 EY SY (nI w) f2 M49 (nI m) (nI np) (nI (k + 1)))) → Q → ((nI np ≤ nI k → P1) ∧ (¬ nI np ≤ nI k → ((nI k ≤ 0 → P2) ∧ (¬ nI k ≤ 0 → (es_X12_is G 44 ∧ (∀ (r40 : Int32) (M41 : em_M), ((1 : Int32), G') = (r40, M41) → ((r40 = 0 → ((M41.1 118 13 < 0 → (∀ (r45 : Int32) (M46 : em_M), et_X12_stops M41 = (r45, M46) → True)) ∧ (¬ M41.1 118 13 < 0 → True))) ∧ (¬ r40 = 0 → (es_X12_part EY SY M41 (nI m) (nI w) ∧ (∀ (r48 : Int32) (M49 : em_M), et_X12_part EY M41 (nI m) (nI w) = (r48, M49) → ((0 ≤ r48 → es_X12_exprB_325 EY SY (nI w) f2 M49 (nI m) (nI np) (nI (k + 1))) ∧ (¬ 0 ≤ r48 → ((M49.1 118 13 < 0 → (∀ (r53 : Int32) (M54 : em_M), et_X12_stops M49 = (r53, M54) → True)) ∧ (¬ M49.1 118 13 < 0 → True)))))))))))))) ∧ Q := by
        intro P1 P2 Q hr hQ
        refine ⟨⟨fun i => absurd i ng, fun _ => ⟨fun i => absurd i k0', fun _ => ⟨s, fun r40 M41 h => ?_⟩⟩⟩, hQ⟩
        obtain ⟨q1, q2⟩ := Prod.mk.inj h
        subst q1
        subst q2
        exact ⟨fun i => absurd i n1, fun _ => ⟨t1, fun r48 M49 h4 => ⟨hr r48 M49 h4, fun _ => ⟨fun _ _ _ _ => trivial, fun _ => trivial⟩⟩⟩⟩
      rcases t2 with ⟨a1, a2, ⟨q1, q2, q3, q4⟩, a4, a5⟩ | ⟨C1, G1, p', u', r', x, y, a1, a2, a3, a4, a5, a6⟩
      · have ng1 : ¬ (0 : Int32) ≤ -1 := by decide
        have fa : ¬ (et_X12_part EY G' (nI m) (nI w)).2.1 118 13 < 0 := by rw [q4]; exact nI_pos (by omega)
        refine fin _ _ _ (fun r48 M49 h4 h0 => ?_) ?_
        · rw [h4] at a2
          dsimp only at a2
          rw [a2] at h0
          exact absurd h0 ng1
        · rw [a1, a2, if_neg ng1, if_neg ng1, if_neg fa]
          exact Or.inl ⟨rfl, rfl, ⟨q1, q2, q3, q4⟩, ep_Pc_tr f' a4 (by omega), ep_Pg_tr g' a5 (by omega)⟩
      · have cp : (0 : Int32) ≤ nI (c k) := nI_pos' (by have := z.ub; have := z.pn; have := z.n1; have := z.ul; have := z.l7; omega)
        have mp : (0 : Int32) ≤ nI (101 * nl + r) := nI_pos' (by have := z.rb; have := z.pn; have := z.n1; have := z.l7; omega)
        rw [← hm] at a4 a6
        obtain ⟨c', mm', xs', ys', d1, d2, d3⟩ := ep_Pl_on q' (by omega) a4 a5 a6
        rw [hm] at d3
        have z2 : ep_Pz nl u0 n p' (c' (k + 1)) r' (em_pI C1 4 (3 * U + k) (nI (c k))) (em_pI (em_pI G1 125 (5 * m + k) (nI (101 * nl + r))) 124 m (nI (k + 1))) := by
          rw [d1]
          refine ep_Pz_to a3 a3.pn a3.ub a3.rb ?_ ?_ ?_ ?_ ?_ ?_ ?_ ?_ ?_ ?_
          all_goals simp (disch := omega) only [ef_pI']
          · exact a3.p1
          · exact a3.us
          · exact a3.p2
          · exact a3.rd
        have f2' : ep_Pc U C0 (em_pI C1 4 (3 * U + k) (nI (c k))) := ep_Pc_w (ep_Pc_tr f' a5 (by omega)) 4 _ _ (by omega)
        have g2' : ep_Pg m G0 (em_pI (em_pI G1 125 (5 * m + k) (nI (101 * nl + r))) 124 m (nI (k + 1))) := ep_Pg_w (ep_Pg_w (ep_Pg_tr g' a6 (by omega)) 125 _ _ (by omega)) 124 _ _ (by omega)
        have I := ih (k + 1) (by omega) (by omega) c' mm' xs' ys' _ _ p' r' d3 z2 d2 f2' g2' f1 f2 (by omega) (by omega)
        refine fin _ _ _ (fun r48 M49 h4 h0 => ?_) ?_
        · rw [a2] at h4
          obtain ⟨q1, q2⟩ := Prod.mk.inj h4
          subst q2
          exact I.1
        · rw [a1, a2]
          dsimp only
          rw [if_pos cp, if_pos mp, eq_link U8 (by omega)]
          exact I.2
/-- the parts from their bracket on -/
theorem ep_pts0 {d w : Nat} {EX EY : em_M → Int32 → Int32 × em_M} {SY : em_M → Int32 → Prop} (EE : ep_EE d (w + 1) EX EY SY) {nl u0 n U m kd sg np p r : Nat} {C0 G0 C G : em_M} {c mm xs ys : Nat → Nat} (K : ep_K kd sg np) (q : ep_Pl d kd sg U m 0 c mm xs ys C G) (z : ep_Pz nl u0 n p (c 0) r C G) (hm : mm 0 = 101 * nl + r) (f : ep_Pc U C0 C) (g : ep_Pg m G0 G) : (es_X12_is G 40 ∧ ∀ (r19 : Int32) (M20 : em_M), et_X12_is G 40 = (r19, M20) → ((r19 = 0 → (∀ (r56 : Int32) (M57 : em_M), et_X12_stops M20 = (r56, M57) → True)) ∧ (¬ r19 = 0 → es_X12_exprB_325 EY SY (nI w) (np + 1) M20 (nI m) (nI np) 0))) ∧ ep_Po nl u0 n U m (d + 1) C0 G0 (et_X5_parts EX C (nI U) (nI np) (nI (w + 1))) (if (et_X12_is G 40).1 = 0 then ((et_X12_stops (et_X12_is G 40).2).1, (et_X12_stops (et_X12_is G 40).2).2) else et_X12_exprB_325 EY (nI w) (np + 1) (et_X12_is G 40).2 (nI m) (nI np) 0) := by
  have np3 : np ≤ 3 ∧ 1 ≤ np := by unfold ep_K at K; omega
  have n1 : ¬ (1 : Int32) = 0 := by decide
  have m1 : (-1 : Int32) < 0 := by decide
  have ng : ¬ nI np ≤ (0 : Int32) := by rw [← nI_0]; exact nI_ge (by omega) (by omega)
  have l0 : (0 : Int32) ≤ 0 := by decide
  have st := ep_Pl_st q 0 (Nat.le_refl _)
  have U8 : U < 800 := by have := z.ub; have := z.pn; have := z.n1; have := z.ul; have := z.l7; omega
  obtain ⟨s, e⟩ := ep_due z 40 (by decide)
  rw [et_X5_parts, nI_clamp (show np < 2 ^ 31 by omega), et_X5_parts_3, if_neg ng, if_pos rfl]
  rcases e with ⟨e1, e2⟩ | ⟨hp, e1, e2⟩
  · rw [e1, e2]
    dsimp only
    rw [if_pos rfl, if_pos rfl, et_X12_stops]
    refine ⟨⟨s, fun r19 M20 h => ?_⟩, ep_Po_no z f g⟩
    obtain ⟨q1, q2⟩ := Prod.mk.inj h
    subst q1
    exact ⟨fun _ _ _ _ => trivial, fun i => absurd rfl i⟩
  · have z' := ep_adv z hp
    have q' := ep_Pl_pl q (nI (p + 1)) (nI (p + 1))
    have f' := ep_Pc_w f 9 1 (nI (p + 1)) (by omega)
    have g' := ep_Pg_w g 118 12 (nI (p + 1)) (by omega)
    rw [e1, e2]
    dsimp only
    rw [if_neg n1, if_neg n1]
    generalize em_pI C 9 1 (nI (p + 1)) = C' at z' q' f' ⊢
    generalize em_pI G 118 12 (nI (p + 1)) = G' at z' q' g' ⊢
    obtain ⟨t1, t2⟩ := ep_ptG EE z' (show m < 101 * nl + r by omega) (show 0 < 5 by omega) q'.gn
    have fin : ∀ Q : Prop, (∀ r32 M33, et_X12_part EY G' (nI m) (nI w) = (r32, M33) → (0 ≤ r32 → es_X12_exprB_325 EY SY (nI w) np M33 (nI m) (nI np) (nI 1))) → Q → (es_X12_is G 40 ∧ ∀ (r19 : Int32) (M20 : em_M), ((1 : Int32), G') = (r19, M20) → ((r19 = 0 → (∀ (r56 : Int32) (M57 : em_M), et_X12_stops M20 = (r56, M57) → True)) ∧ (¬ r19 = 0 → es_X12_exprB_325 EY SY (nI w) (np + 1) M20 (nI m) (nI np) 0))) ∧ Q := by
      intro Q hr hQ
      refine ⟨⟨s, fun r40 M41 h => ?_⟩, hQ⟩
      obtain ⟨q1, q2⟩ := Prod.mk.inj h
      subst q1
      subst q2
      refine ⟨fun i => absurd i n1, fun _ => ?_⟩
      rw [es_X12_exprB_325]
      exact ⟨fun i => absurd i ng, fun _ => ⟨fun _ => ⟨t1, fun r32 M33 h4 => ⟨hr r32 M33 h4, fun _ => ⟨fun _ _ _ _ => trivial, fun _ => trivial⟩⟩⟩, fun i => absurd l0 i⟩⟩
    rw [et_X12_exprB_325, if_neg ng, if_pos l0]
    rcases t2 with ⟨a1, a2, ⟨q1, q2, q3, q4⟩, a4, a5⟩ | ⟨C1, G1, p', u', r', x, y, a1, a2, a3, a4, a5, a6⟩
    · have ng1 : ¬ (0 : Int32) ≤ -1 := by decide
      have fa : ¬ (et_X12_part EY G' (nI m) (nI w)).2.1 118 13 < 0 := by rw [q4]; exact nI_pos (by omega)
      refine fin _ (fun r48 M49 h4 h0 => ?_) ?_
      · rw [h4] at a2
        dsimp only at a2
        rw [a2] at h0
        exact absurd h0 ng1
      · dsimp only
        rw [a1, a2, if_neg ng1, if_neg ng1, if_neg fa]
        exact Or.inl ⟨rfl, rfl, ⟨q1, q2, q3, q4⟩, ep_Pc_tr f' a4 (by omega), ep_Pg_tr g' a5 (by omega)⟩
    · have cp : (0 : Int32) ≤ nI (c 0) := nI_pos' (by have := z.ub; have := z.pn; have := z.n1; have := z.ul; have := z.l7; omega)
      have mp : (0 : Int32) ≤ nI (101 * nl + r) := nI_pos' (by have := z.rb; have := z.pn; have := z.n1; have := z.l7; omega)
      rw [← hm] at a4 a6
      obtain ⟨c', mm', xs', ys', d1, d2, d3⟩ := ep_Pl_on q' (by omega) a4 a5 a6
      rw [hm] at d3
      have z2 : ep_Pz nl u0 n p' (c' (0 + 1)) r' (em_pI C1 4 (3 * U + 0) (nI (c 0))) (em_pI (em_pI G1 125 (5 * m + 0) (nI (101 * nl + r))) 124 m (nI (0 + 1))) := by
        rw [d1]
        refine ep_Pz_to a3 a3.pn a3.ub a3.rb ?_ ?_ ?_ ?_ ?_ ?_ ?_ ?_ ?_ ?_
        all_goals simp (disch := omega) only [ef_pI']
        · exact a3.p1
        · exact a3.us
        · exact a3.p2
        · exact a3.rd
      have f2' : ep_Pc U C0 (em_pI C1 4 (3 * U + 0) (nI (c 0))) := ep_Pc_w (ep_Pc_tr f' a5 (by omega)) 4 _ _ (by omega)
      have g2' : ep_Pg m G0 (em_pI (em_pI G1 125 (5 * m + 0) (nI (101 * nl + r))) 124 m (nI (0 + 1))) := ep_Pg_w (ep_Pg_w (ep_Pg_tr g' a6 (by omega)) 125 _ _ (by omega)) 124 _ _ (by omega)
      have I := ep_pts EE K (np - 1) (0 + 1) (by omega) (by omega) c' mm' xs' ys' _ _ p' r' d3 z2 d2 f2' g2' np np (by omega) (by omega)
      have lk := eq_link (C := C1) U8 (show 0 < 3 by omega) (nI (c 0))
      rw [nI_0] at lk
      refine fin _ (fun r48 M49 h4 h0 => ?_) ?_
      · rw [a2] at h4
        obtain ⟨q1, q2⟩ := Prod.mk.inj h4
        subst q2
        exact I.1
      · rw [a1, a2]
        dsimp only
        rw [if_pos cp, if_pos mp, lk, show (0 : Int32) + 1 = nI (0 + 1) from rfl]
        exact I.2
