/-! LINE -/
theorem ep_Ln_same {φ D : Nat → Nat × Nat} {u nl : Nat} {C G C' G' : em_M} (ln : ep_Ln φ D u nl C G) (w : ep_Gw φ D φ D u u nl nl C G C' G') (sz : C'.1 1 0 = C.1 1 0) (us : C'.1 1 1 = nI u) (r7 : C'.1 7 = C.1 7) (r8 : C'.1 8 = C.1 8) (m9 : G'.1 118 9 = G.1 118 9) (m6 : G'.1 126 = G.1 126) : ep_Ln φ D u nl C' G' := by
  have u8 : u ≤ 800 := by have := ln.hu; have := ln.n8; omega
  refine ep_Ln.mk ln.n8 ln.hu (sz.trans ln.sz) (m9.trans ln.sm) us ln.hm (fun e he => ep_Nk_gw w he (ln.hm e he) (ln.nd e he)) (fun e he => ⟨ep_Dl_gw w u8 he (ln.nd e he) (ln.dl e he).1, (ln.dl e he).2⟩) (fun l hl => ?_) (fun l hl => ?_) (fun k h1 h2 => ?_)
  · rw [r7, r8]; exact ln.ro l hl
  · obtain ⟨n, n1, n2, n3, n4⟩ := ln.fa l hl
    refine ⟨n, n1, by rw [m6]; exact n2, by rw [r8]; exact n3, ?_⟩
    rw [r8, n4, ep_ct_cg (r := G.1 122) (r' := G'.1 122) n (fun k k1 k2 => (w.m2 k (by omega)).1)]
  · rw [r8]; exact ln.fz k h1 h2
theorem ep_Ln_new {φ D φ' D' : Nat → Nat × Nat} {u u' nl x y rr : Nat} {C G C' G' : em_M} (ln : ep_Ln φ D u nl C G) (w : ep_Gw φ D φ' D' u u' nl (nl + 1) C G C' G') (n7 : nl < 8) (u8 : u' ≤ 100 * (nl + 1)) (sz : C'.1 1 0 = nI (nl + 1)) (us : C'.1 1 1 = nI u') (r7 : ∀ l, l < nl → C'.1 7 l = C.1 7 l) (r7' : C'.1 7 nl = nI u) (r8 : ∀ k, k < 4 * nl → C'.1 8 k = C.1 8 k) (fz : ∀ k, 4 * (nl + 1) ≤ k → k < 32 → C'.1 8 k = 0) (m9 : G'.1 118 9 = nI (nl + 1)) (m6 : ∀ l, l < nl → G'.1 126 l = G.1 126 l) (new : ∀ k, u ≤ k → k < u' → ep_Nk φ' u' C' G' k ∧ ep_Dl D' C' k ∧ (D' k).1 ≤ 8 ∧ (φ' k).1 < 101 * (nl + 1)) (ul : u < u') (p0 : φ' u = (101 * nl, 0)) (d0 : D' u = (x, y)) (f1 : C'.1 8 (4 * nl + 1) = nI x) (f3 : C'.1 8 (4 * nl + 3) = nI y) (n101 : rr ≤ 101) (m6' : G'.1 126 nl = nI rr) (f0 : C'.1 8 (4 * nl) = nI rr) (f2 : C'.1 8 (4 * nl + 2) = nI (ep_ct (G'.1 122) (101 * nl) rr)) : ep_Ln φ' D' u' (nl + 1) C' G' := by
  have u8' : u ≤ 800 := by have := ln.hu; have := ln.n8; omega
  refine ep_Ln.mk (by omega) u8 sz m9 us (fun e he => ?_) (fun e he => ?_) (fun e he => ?_) (fun l hl => ?_) (fun l hl => ?_) fz
  · by_cases q : e < u
    · rw [(w.ph e q).1]; have := ln.hm e q; omega
    · exact (new e (by omega) he).2.2.2
  · by_cases q : e < u
    · exact ep_Nk_gw w q (ln.hm e q) (ln.nd e q)
    · exact (new e (by omega) he).1
  · by_cases q : e < u
    · exact ⟨ep_Dl_gw w u8' q (ln.nd e q) (ln.dl e q).1, by rw [(w.ph e q).2]; exact (ln.dl e q).2⟩
    · exact ⟨(new e (by omega) he).2.1, (new e (by omega) he).2.2.1⟩
  · by_cases q : l < nl
    · obtain ⟨e, e1, e2, e3, e4, e5⟩ := ln.ro l q
      refine ⟨e, by omega, (r7 l q).trans e2, ?_, ?_, ?_⟩
      · rw [(w.ph e e1).1]; exact e3
      · rw [(w.ph e e1).2, r8 _ (by omega)]; exact e4
      · rw [(w.ph e e1).2, r8 _ (by omega)]; exact e5
    · obtain rfl : l = nl := by omega
      refine ⟨u, ul, r7', p0, ?_, ?_⟩
      · rw [d0]; exact f1
      · rw [d0]; exact f3
  · by_cases q : l < nl
    · obtain ⟨n, n1, n2, n3, n4⟩ := ln.fa l q
      refine ⟨n, n1, (m6 l q).trans n2, (r8 _ (by omega)).trans n3, ?_⟩
      rw [r8 _ (by omega), n4, ep_ct_cg (r := G.1 122) (r' := G'.1 122) n (fun k k1 k2 => (w.m2 k (by omega)).1)]
    · obtain rfl : l = nl := by omega
      exact ⟨rr, n101, m6', f0, f2⟩
/-- a text that is no LINE -/
theorem ep_I_no {φ D : Nat → Nat × Nat} {u nl : Nat} {C G C3 G3 : em_M} (h : ep_I φ D u nl C G) (f : ep_Pc u C C3) (g : ep_Pg (101 * nl) G G3) : ep_I φ D u nl (em_pI (em_pI C3 9 0 0) 1 1 (nI u)) (em_pI G3 118 11 0) := by
  have A : ∀ o, o ≠ 1 → o ≠ 9 → (em_pI (em_pI C3 9 0 0) 1 1 (nI u)).1 o = C3.1 o := fun o h1 h2 => by rw [ef_pI' _ _ _ _ h1, ef_pI' _ _ _ _ h2]
  have B : ∀ o, o ≠ 118 → (em_pI G3 118 11 0).1 o = G3.1 o := fun o h1 => ef_pI' _ _ _ _ h1
  have w : ep_Gw φ D φ D u u nl nl C G (em_pI (em_pI C3 9 0 0) 1 1 (nI u)) (em_pI G3 118 11 0) := by
    refine ep_Gw.mk (Nat.le_refl _) (Nat.le_refl _) (fun _ _ => ⟨rfl, rfl⟩) (fun k hk => ?_) (fun k hk => ?_) (fun k hk => ?_) (fun k hk => ?_)
    · rw [A _ (by omega) (by omega), A _ (by omega) (by omega)]; exact f.c4 k hk
    · rw [A _ (by omega) (by omega)]; exact f.c5 k hk
    · rw [B _ (by omega), B _ (by omega), B _ (by omega)]; exact g.g4 k hk
    · rw [B _ (by omega)]; exact g.g5 k hk
  refine ep_I_gw h w (ep_Ln_same h.ln w ?_ ?_ ?_ ?_ ?_ ?_) ⟨0, by omega, ?_, ?_, fun k hk => absurd hk (by omega)⟩ (fun o ho => ?_) ?_ ?_ (fun o ho => ?_) ?_
  · rw [ef_pIk _ _ (by omega), ef_pI' _ _ _ _ (by omega)]; exact f.c3
  · exact ef_pIs _ _ rfl
  · rw [A _ (by omega) (by omega)]; exact f.c1 7 (by omega)
  · rw [A _ (by omega) (by omega)]; exact f.c1 8 (by omega)
  · rw [ef_pIk _ _ (by omega)]; exact g.g3 9 (by omega)
  · rw [B _ (by omega)]; exact g.g1 126 (by omega)
  · rw [ef_pI' _ _ _ _ (by omega)]; exact ef_pIs _ _ rfl
  · exact ef_pIs _ _ rfl
  · rw [A _ (by omega) (by omega)]; exact f.c1 o (by omega)
  · exact f.c2
  · rw [ef_pIk _ _ (by omega)]; exact g.g3 3 (by omega)
  · rw [B _ (by omega)]; exact g.g1 o (by omega)
  · exact g.g2
/-- a text that is a LINE -/
theorem ep_I_yes {φ D : Nat → Nat × Nat} {u nl n u' r' x y : Nat} {C G C3 G3 : em_M} (h : ep_I φ D u nl C G) (n7 : nl < 8) (f : ep_Pc u C C3) (g : ep_Pg (101 * nl) G G3) (z : ep_Pz nl u n n u' r' C3 G3) (t : ep_Tr C3 G3 8 u u' (101 * nl) (101 * nl + r') x y) : (et_X2_end (em_pI C3 9 0 0) (nI u)).1 = nI nl ∧ ∃ φ' D', ep_I φ' D' u' (nl + 1) (et_X2_end (em_pI C3 9 0 0) (nI u)).2 (em_pI (em_pI (em_pI G3 118 11 0) 126 nl (nI r')) 118 9 (nI (nl + 1))) := by
  have n1 := z.n1
  have ul := z.ul
  have ub := z.ub
  have rb := z.rb
  have tl := ep_Tr_lt _ _ _ _ _ _ _ t
  have lnu := h.ln.hu
  have u8 : u' ≤ 800 := by omega
  have c10 : (em_pI C3 9 0 0).1 1 0 = nI nl := by rw [ef_pI' _ _ _ _ (by omega), f.c3]; exact h.ln.sz
  have M4d : ∃ M4, M4 = em_pI (em_pI (em_pI (em_pI (em_pI C3 9 0 0) 1 0 (nI (nl + 1))) 7 nl (nI u)) 5 u 1) 6 u 1 := ⟨_, rfl⟩
  obtain ⟨M4, hM4⟩ := M4d
  have k11 : M4.1 1 1 = nI u' := by
    rw [hM4]
    simp (disch := omega) only [ef_pI', ef_pIk]
    exact z.us
  have E : et_X2_end (em_pI C3 9 0 0) (nI u) = (nI nl, ep_it nl (u' - u) u M4) := by
    rw [et_X2_end, c10, nI_1, eq_putS _ n7 (by omega)]
    try dsimp only
    rw [eq_putS _ (show u < 800 by omega) (by omega), eq_putS _ (show u < 800 by omega) (by omega), ← hM4, k11, nI_toInt (by omega), nI_toInt (by omega), show ((u' : Int) - (u : Int)).toNat = u' - u by omega]
    exact ec_end44 nl (u' - u) u M4 _ (by rw [k11, show u + (u' - u) = u' by omega]) (by omega) (by omega)
  rw [E]
  refine ⟨rfl, ?_⟩
  have o2 : M4.1 2 = C3.1 2 := by rw [hM4]; simp (disch := omega) only [ef_pI']
  have o3 : M4.1 3 = C3.1 3 := by rw [hM4]; simp (disch := omega) only [ef_pI']
  have o4 : M4.1 4 = C3.1 4 := by rw [hM4]; simp (disch := omega) only [ef_pI']
  have o5 : M4.1 5 u = nI 1 := by rw [hM4]; simp (disch := omega) only [ef_pI', ef_pIs]; rfl
  have o6 : M4.1 6 u = nI 1 := by rw [hM4]; simp (disch := omega) only [ef_pIs]; rfl
  have o8 : M4.1 8 = C.1 8 := by rw [hM4]; simp (disch := omega) only [ef_pI']; exact f.c1 8 (by omega)
  have o7 : ∀ l, l ≠ nl → M4.1 7 l = C.1 7 l := fun l hl => by rw [hM4]; simp (disch := omega) only [ef_pI', ef_pIk]; rw [f.c1 7 (by omega)]
  have o7' : M4.1 7 nl = nI u := by rw [hM4]; simp (disch := omega) only [ef_pI', ef_pIs]
  have o10 : M4.1 1 0 = nI (nl + 1) := by rw [hM4]; simp (disch := omega) only [ef_pI', ef_pIs]
  have o9 : M4.1 9 0 = 0 := by rw [hM4]; simp (disch := omega) only [ef_pI', ef_pIs]
  have oo : ∀ o, ¬ (1 ≤ o ∧ o ≤ 9) → M4.1 o = C.1 o := fun o ho => by
    rw [hM4]; simp (disch := omega) only [ef_pI']; exact f.c1 o (by omega)
  have oL : M4.2 = C.2 := by rw [hM4]; exact f.c2
  clear hM4
  have ft : ep_Ft nl 0 0 0 0 M4 := by
    refine ep_Ft.mk ?_ ?_ ?_ ?_
    all_goals rw [o8, h.ln.fz _ (by omega) (by omega)]; rfl
  obtain ⟨w1, w2⟩ := ep_CdA nl n7 C3 G3 8 _ _ _ _ _ _ t u8 M4 1 1 0 0 0 0 o2 o4 o5 o6 (by omega) (by omega) (by omega) ft
  generalize ep_it nl (u' - u) u M4 = M5 at w1 w2 ⊢
  have p2 : M5.1 2 = C3.1 2 := (w2.f1 2 (by omega)).trans o2
  have p3 : M5.1 3 = C3.1 3 := (w2.f1 3 (by omega)).trans o3
  have p4 : M5.1 4 = C3.1 4 := (w2.f1 4 (by omega)).trans o4
  have B : ∀ o, o ≠ 118 → o ≠ 126 → (em_pI (em_pI (em_pI G3 118 11 0) 126 nl (nI r')) 118 9 (nI (nl + 1))).1 o = G3.1 o := fun o h1 h2 => by
    rw [ef_pI' _ _ _ _ h1, ef_pI' _ _ _ _ h2, ef_pI' _ _ _ _ h1]
  have b6 : ∀ l, l ≠ nl → (em_pI (em_pI (em_pI G3 118 11 0) 126 nl (nI r')) 118 9 (nI (nl + 1))).1 126 l = G.1 126 l := fun l hl => by
    simp (disch := omega) only [ef_pI', ef_pIk]; rw [g.g1 126 (by omega)]
  have b6' : (em_pI (em_pI (em_pI G3 118 11 0) 126 nl (nI r')) 118 9 (nI (nl + 1))).1 126 nl = nI r' := by
    simp (disch := omega) only [ef_pI', ef_pIs]
  have b9 : (em_pI (em_pI (em_pI G3 118 11 0) 126 nl (nI r')) 118 9 (nI (nl + 1))).1 118 9 = nI (nl + 1) := ef_pIs _ _ rfl
  have b11 : (em_pI (em_pI (em_pI G3 118 11 0) 126 nl (nI r')) 118 9 (nI (nl + 1))).1 118 11 = 0 := by
    simp (disch := omega) only [ef_pI', ef_pIk, ef_pIs]
  have b3 : (em_pI (em_pI (em_pI G3 118 11 0) 126 nl (nI r')) 118 9 (nI (nl + 1))).1 118 3 = G.1 118 3 := by
    simp (disch := omega) only [ef_pI', ef_pIk]; exact g.g3 3 (by omega)
  have bL : (em_pI (em_pI (em_pI G3 118 11 0) 126 nl (nI r')) 118 9 (nI (nl + 1))).2 = G.2 := g.g2
  generalize em_pI (em_pI (em_pI G3 118 11 0) 126 nl (nI r')) 118 9 (nI (nl + 1)) = G' at B b6 b6' b9 b11 b3 bL ⊢
  have t' : ep_Tr M5 G' 8 u u' (101 * nl) (101 * nl + r') x y := ep_Tr_cg _ _ _ _ _ _ _ (fun k _ _ => ⟨by rw [p2], by rw [p3]⟩) (fun k _ _ => by rw [p4]) (fun k _ _ => ⟨by rw [B _ (by omega) (by omega)], by rw [B _ (by omega) (by omega)], by rw [B _ (by omega) (by omega)]⟩) (fun k _ _ => by rw [B _ (by omega) (by omega)]) t
  obtain ⟨F, F0, FQ⟩ := ep_gr 8 _ _ _ _ _ _ u8 t'
  have Q := FQ (fun k => if k < u then φ k else (F k).1) (fun k => if k < u then D k else (F k).2) (fun k k1 _ => ⟨if_neg (by omega), if_neg (by omega)⟩)
  have w : ep_Gw φ D (fun k => if k < u then φ k else (F k).1) (fun k => if k < u then D k else (F k).2) u u' nl (nl + 1) C G M5 G' := by
    refine ep_Gw.mk (by omega) (by omega) (fun k hk => ⟨if_pos hk, if_pos hk⟩) (fun k hk => ?_) (fun k hk => ?_) (fun k hk => ?_) (fun k hk => ?_)
    · rw [p2, p3]; exact f.c4 k hk
    · rw [p4]; exact f.c5 k hk
    · rw [B _ (by omega) (by omega), B _ (by omega) (by omega), B _ (by omega) (by omega)]; exact g.g4 k hk
    · rw [B _ (by omega) (by omega)]; exact g.g5 k hk
  have a0 := w1.a0
  have a1 := w1.a1
  have a2 := w1.a2
  have a3 := w1.a3
  rw [Nat.mul_comm nl 4] at a0 a1 a2 a3
  rw [show 0 + (101 * nl + r' - 101 * nl) = r' by omega] at a0
  rw [show max 0 (1 + x - 1) = x by omega] at a1
  rw [show 101 * nl + r' - 101 * nl = r' by omega, Nat.zero_add] at a2
  rw [show 0 + 1 * y = y by omega] at a3
  refine ⟨_, _, ep_I_gw h w (ep_Ln_new (x := x) (y := y) (rr := r') h.ln w n7 (by omega) ?_ ?_ (fun l hl => ?_) ?_ (fun k hk => ?_) (fun k k1 k2 => ?_) b9 (fun l hl => b6 l (by omega)) (fun k k1 k2 => ?_) tl.1 ?_ ?_ a1 a3 (by omega) b6' a0 ?_) ⟨0, by omega, ?_, b11, fun k hk => absurd hk (by omega)⟩ (fun o ho => ?_) (w2.f2.trans oL) b3 (fun o ho => ?_) bL⟩
  · rw [w2.f1 1 (by omega)]; exact o10
  · rw [w2.f1 1 (by omega)]; exact k11
  · rw [w2.f1 7 (by omega)]; exact o7 l (by omega)
  · rw [w2.f1 7 (by omega)]; exact o7'
  · rw [w2.f8 k (by omega), o8]
  · rw [w2.f8 k (by omega), o8]; exact h.ln.fz k (by omega) k2
  · obtain ⟨v1, v2, v3, v4⟩ := Q k k1 k2
    exact ⟨v1, v2, v3, by omega⟩
  · show (if u < u then φ u else (F u).1) = _
    rw [if_neg (by omega), F0]
  · show (if u < u then D u else (F u).2) = _
    rw [if_neg (by omega), F0]
  · rw [a2, B 122 (by omega) (by omega)]
  · rw [w2.f1 9 (by omega)]; exact o9
  · rw [w2.f1 o (by omega)]; exact oo o ho
  · by_cases q : o = 126
    · exact absurd q (by omega)
    · rw [B o (by omega) q]; exact g.g1 o (by omega)
theorem pm_line {φ D : Nat → Nat × Nat} {u nl : Nat} {C G : em_M} (h : ep_I φ D u nl C G) : es_X12_line G ∧ (et_X11_line C).1 = (et_X12_line G).1 ∧ ∃ φ' D' u' nl', ep_I φ' D' u' nl' (et_X11_line C).2 (et_X12_line G).2 := by
  have n8 := h.ln.n8
  rw [es_X12_line, et_X11_line, et_X12_line, h.ln.sz, h.ln.sm]
  by_cases q : nl = 8
  · have e : nI nl = (8 : Int32) := by rw [q]; rfl
    have l : ¬ nI nl < (8 : Int32) := nI_nlt (b := 8) (by omega) (by omega)
    rw [if_neg l, if_pos e]
    exact ⟨⟨fun _ => trivial, fun z => absurd e z⟩, rfl, φ, D, u, nl, h⟩
  have n7 : nl < 8 := by omega
  have e : ¬ nI nl = (8 : Int32) := by rw [show (8 : Int32) = nI 8 from rfl, nI_eq (by omega) (by omega)]; exact q
  have l : nI nl < (8 : Int32) := nI_lt (b := 8) n7 (by omega)
  have m1 : (-1 : Int32) < 0 := by decide
  have ng1 : ¬ (0 : Int32) ≤ -1 := by decide
  rw [if_pos l, if_neg e]
  dsimp only
  rw [et_X5_take, h.ln.us]
  dsimp only
  obtain ⟨n, n1, t1, t2, tc⟩ := h.tx
  have lnu := h.ln.hu
  have f0 : ep_Pc u C (em_pI C 9 1 0) := ep_Pc_w (ep_Pc_rf _ _) 9 1 _ (by omega)
  have g0 : ep_Pg (101 * nl) G (em_pI (em_pI (em_pI G 118 12 0) 118 14 0) 118 13 (-1)) := ep_Pg_w (ep_Pg_w (ep_Pg_w (ep_Pg_rf _ _) 118 12 _ (by omega)) 118 14 _ (by omega)) 118 13 _ (by omega)
  have z0 : ep_Pz nl u n 0 u 0 (em_pI C 9 1 0) (em_pI (em_pI (em_pI G 118 12 0) 118 14 0) 118 13 (-1)) := by
    refine ep_Pz.mk n1 ?_ ?_ (fun k hk => ?_) (by omega) ?_ ?_ ?_ lnu (by omega) ?_ (Nat.le_refl _) ?_ ?_ (by omega)
    · simp (disch := omega) only [ef_pIk]; exact t1
    · simp (disch := omega) only [ef_pIk]; exact t2
    · simp (disch := omega) only [ef_pI']; exact tc k hk
    · rw [ef_pIs _ _ rfl]; rfl
    · simp (disch := omega) only [ef_pIk, ef_pIs]; rfl
    · simp (disch := omega) only [ef_pI']; exact h.ln.us
    · simp (disch := omega) only [ef_pIk, ef_pIs]; rfl
    · exact ef_pIs _ _ rfl
    · simp (disch := omega) only [ef_pIk]; exact h.ln.sm
  have EE := ep_EEd 7 (Nat.le_refl _) nl u n 0 u 0 _ _ z0
  rw [show 7 - 7 = 0 from rfl, nI_0, Nat.add_zero] at EE
  obtain ⟨S, P⟩ := EE
  generalize em_pI C 9 1 0 = C0 at f0 P ⊢
  generalize hG0 : em_pI (em_pI (em_pI G 118 12 0) 118 14 0) 118 13 (-1) = G0 at g0 S P ⊢
  have wrap : ∀ (R : Int32 → em_M → Prop) (X : Prop), (∀ r5 M6, et_X12_expr 7 G0 0 = (r5, M6) → R r5 M6) → X → ((nI nl = (8 : Int32) → True) ∧ (¬ nI nl = (8 : Int32) → (∀ M2 : em_M, em_pI G 118 12 0 = M2 → (∀ M3 : em_M, em_pI M2 118 14 0 = M3 → (∀ M4 : em_M, em_pI M3 118 13 (-1) = M4 → (es_X12_expr 7 M4 0 ∧ (∀ (r5 : Int32) (M6 : em_M), et_X12_expr 7 M4 0 = (r5, M6) → R r5 M6))))))) ∧ X := by
    intro R X hR hX
    refine ⟨⟨fun _ => trivial, fun _ => ?_⟩, hX⟩
    rintro _ rfl
    rintro _ rfl
    rw [hG0]
    rintro _ rfl
    exact ⟨S, hR⟩
  clear hG0
  generalize et_X5_expr 7 C0 0 = A at P ⊢
  generalize hB : et_X12_expr 7 G0 0 = B at P wrap ⊢
  obtain ⟨a, C3⟩ := A
  obtain ⟨b, G3⟩ := B
  rcases P with ⟨e1, e2, ⟨k, k1, k2, k3⟩, e4, e5⟩ | ⟨p, u', r', x, y, e1, e2, z, t, e4, e5⟩
  · dsimp only at e1 e2 k2 k3 e4 e5
    subst e1
    subst e2
    have f := ep_Pc_tr f0 e4 (Nat.le_refl _)
    have g := ep_Pg_tr g0 e5 (Nat.le_refl _)
    have nu : ¬ (-1 : Int32) = nI u := fun y => by
      have := nI_pos (n := u) (by omega)
      rw [← y] at this
      exact this (by decide)
    have kc : (em_pI (em_pI C3 9 0 0) 1 1 (nI u)).1 9 1 = nI k := by
      rw [ef_pI' _ _ _ _ (by omega), ef_pIk _ _ (by omega)]; exact k2
    have kg : (em_pI G3 118 11 0).1 118 13 = nI k := by
      rw [ef_pIk _ _ (by omega)]; exact k3
    dsimp only
    rw [if_neg nu, if_pos m1, if_neg ng1, kc, kg]
    refine wrap _ _ (fun r5 M6 h5 => ?_) ⟨rfl, φ, D, u, nl, ep_I_no h f g⟩
    obtain ⟨q1, q2⟩ := Prod.mk.inj h5
    subst q1
    exact ⟨fun _ => fun _ _ => ⟨fun y => absurd y ng1, fun _ => trivial⟩, fun y => absurd m1 y⟩
  · dsimp only at e1 e2 z t e4 e5
    subst e1
    subst e2
    have f := ep_Pc_tr f0 e4 (Nat.le_refl _)
    have g := ep_Pg_tr g0 e5 (Nat.le_refl _)
    have pn := z.pn
    have mp : ¬ nI (101 * nl) < 0 := nI_pos (by omega)
    have mp' : (0 : Int32) ≤ nI (101 * nl) := nI_pos' (by omega)
    have r9 : (em_pI G3 118 11 0).1 118 9 = nI nl := by rw [ef_pIk _ _ (by omega)]; exact z.ls
    have v8 : vp_in (nI nl) 8 := vp_in_nI n7 (by omega)
    dsimp only
    rw [if_pos rfl, if_neg mp, z.p1, z.t1, z.p2, z.t2]
    by_cases pq : p = n
    · subst pq
      have le : nI p ≤ nI p := nI_le (Nat.le_refl _) (by omega)
      have r14 : (em_pI G3 118 11 0).1 118 14 = nI r' := by rw [ef_pIk _ _ (by omega)]; exact z.rd
      have r9' : (em_pI (em_pI G3 118 11 0) 126 nl (nI r')).1 118 9 = nI nl := by rw [ef_pI' _ _ _ _ (by omega)]; exact r9
      have r9'' : (em_pI (em_pI (em_pI G3 118 11 0) 126 nl (nI r')) 118 9 (nI (nl + 1))).1 118 9 = nI (nl + 1) := ef_pIs _ _ rfl
      obtain ⟨Y1, φ', D', Y2⟩ := ep_I_yes h n7 f g z t
      rw [if_pos rfl, if_pos le, if_pos mp', r9, r14, nI_clamp (show nl < 2 ^ 31 by omega), r9', nI_1, r9'', eq_q1, Y1]
      refine wrap _ _ (fun r5 M6 h5 => ?_) ⟨rfl, φ', D', u', nl + 1, Y2⟩
      obtain ⟨q1, q2⟩ := Prod.mk.inj h5
      subst q1
      subst q2
      refine ⟨fun y => absurd y mp, fun _ => ⟨fun _ M14 h14 => ⟨fun _ => ⟨?_, fun _ _ _ _ => trivial⟩, fun _ => trivial⟩, fun y => absurd ?_ y⟩⟩
      · rw [← h14, r9]; exact v8
      · rw [z.p2, z.t2]; exact le
    · have np : ¬ nI p = nI n := by rw [nI_eq (by omega) (by omega)]; exact pq
      have nle : ¬ nI n ≤ nI p := nI_ge (by omega) (by omega)
      have kc : (em_pI (em_pI C3 9 0 0) 1 1 (nI u)).1 9 1 = nI p := by
        rw [ef_pI' _ _ _ _ (by omega), ef_pIk _ _ (by omega)]; exact z.p1
      have kg : (em_pI (em_pI G3 118 13 (nI p)) 118 11 0).1 118 13 = nI p := by
        rw [ef_pIk _ _ (by omega)]; exact ef_pIs _ _ rfl
      have st : et_X12_stops G3 = (-1, em_pI G3 118 13 (nI p)) := by rw [et_X12_stops, z.p2]
      rw [if_neg np, if_neg nle, st, if_neg ng1, kc, kg]
      refine wrap _ _ (fun r5 M6 h5 => ?_) ⟨rfl, φ, D, u, nl, ep_I_no h f (ep_Pg_w g 118 13 _ (by omega))⟩
      obtain ⟨q1, q2⟩ := Prod.mk.inj h5
      subst q1
      subst q2
      refine ⟨fun y => absurd y mp, fun _ => ⟨fun y => absurd y ?_, fun _ r18 M19 h18 => ?_⟩⟩
      · rw [z.p2, z.t2]; exact nle
      · rw [st] at h18
        obtain ⟨q1, q2⟩ := Prod.mk.inj h18
        subst q1
        exact fun _ _ => ⟨fun y => absurd y ng1, fun _ => trivial⟩
theorem pl_line {M : em_M} (hI : ep_Inv M)  {r1 : Int32} {M1 : em_M} (e1 : et_X11_line M = (r1, M1)) : es_X12_line M1 ∧ ∀ (r2 : Int32) (M2 : em_M), et_X12_line M1 = (r2, M2) → r1 = r2 ∧ ep_Inv M2 :=
  ep_go hI (fun M => et_X11_line M) (fun M => et_X12_line M) (fun M => es_X12_line M) (fun _ _ _ _ _ _ h => pm_line h) (fun o h => ef1_X11_line _ (by omega)) (fun o h => ef2_X11_line _ (by omega)) (fun o h => ef1_X12_line _ (by omega)) (fun o h => ef2_X12_line _ (by omega)) e1
