/-! a scope comes -/
def ep_bx (w ns sc nm : Nat) (th : Int64) (C C' : em_M) : Prop :=
  (C'.1 (w + 6) 0 = nI (ns + 1 + 1)) ∧
  (∀ k, k < 4 * (ns + 1) → C'.2 (w + 7) k = C.2 (w + 7) k) ∧
  (C'.2 (w + 7) (4 * (ns + 1) + nm) = th) ∧
  (∀ n, n < 4 → n ≠ nm → C'.2 (w + 7) (4 * (ns + 1) + n) = C.2 (w + 7) (4 * sc + n)) ∧
  (∀ o, o ≠ w + 6 → C'.1 o = C.1 o) ∧
  (∀ o, o ≠ w + 7 → C'.2 o = C.2 o)
theorem ep_bx.r6 {w ns sc nm : Nat} {th : Int64} {C C' : em_M} (h : ep_bx w ns sc nm th C C') : C'.1 (w + 6) 0 = nI (ns + 1 + 1) := h.1
theorem ep_bx.ra {w ns sc nm : Nat} {th : Int64} {C C' : em_M} (h : ep_bx w ns sc nm th C C') : ∀ k, k < 4 * (ns + 1) → C'.2 (w + 7) k = C.2 (w + 7) k := h.2.1
theorem ep_bx.rb {w ns sc nm : Nat} {th : Int64} {C C' : em_M} (h : ep_bx w ns sc nm th C C') : C'.2 (w + 7) (4 * (ns + 1) + nm) = th := h.2.2.1
theorem ep_bx.rc {w ns sc nm : Nat} {th : Int64} {C C' : em_M} (h : ep_bx w ns sc nm th C C') : ∀ n, n < 4 → n ≠ nm → C'.2 (w + 7) (4 * (ns + 1) + n) = C.2 (w + 7) (4 * sc + n) := h.2.2.2.1
theorem ep_bx.ro {w ns sc nm : Nat} {th : Int64} {C C' : em_M} (h : ep_bx w ns sc nm th C C') : ∀ o, o ≠ w + 6 → C'.1 o = C.1 o := h.2.2.2.2.1
theorem ep_bx.rl {w ns sc nm : Nat} {th : Int64} {C C' : em_M} (h : ep_bx w ns sc nm th C C') : ∀ o, o ≠ w + 7 → C'.2 o = C.2 o := h.2.2.2.2.2
theorem ep_bx.mk {w ns sc nm : Nat} {th : Int64} {C C' : em_M} (r6 : C'.1 (w + 6) 0 = nI (ns + 1 + 1)) (ra : ∀ k, k < 4 * (ns + 1) → C'.2 (w + 7) k = C.2 (w + 7) k) (rb : C'.2 (w + 7) (4 * (ns + 1) + nm) = th) (rc : ∀ n, n < 4 → n ≠ nm → C'.2 (w + 7) (4 * (ns + 1) + n) = C.2 (w + 7) (4 * sc + n)) (ro : ∀ o, o ≠ w + 6 → C'.1 o = C.1 o) (rl : ∀ o, o ≠ w + 7 → C'.2 o = C.2 o) : ep_bx w ns sc nm th C C' :=
  ⟨r6, ra, rb, rc, ro, rl⟩
theorem ec_bind {w ns sc nm : Nat} {C : em_M} (th : Int64) (e1 : C.1 (w + 6) 0 = nI (ns + 1)) (hn : ns < 300) (hs : sc ≤ ns) (hm : nm < 4) : ∃ C', et_X7_bind w C (nI sc) (nI nm) th = (nI (ns + 1), C') ∧ ep_bx w ns sc nm th C C' := by
  have p2 : nI (ns + 1) < (301 : Int32) := nI_lt (b := 301) (by omega) (by omega)
  have a1 : ∀ n, nI n + (0 : Int32) = nI n := fun n => by rw [show (0 : Int32) = nI 0 from rfl, nI_add, Nat.add_zero]
  rw [et_X7_bind, e1, if_pos p2]
  have h4 : nm = 0 ∨ nm = 1 ∨ nm = 2 ∨ nm = 3 := by omega
  rcases h4 with rfl | rfl | rfl | rfl
  · simp (disch := omega) only [et_X7_bind_31_0, et_X7_bind_31_1, et_X7_bind_31_2, et_X7_bind_31_3, et_X7_bind_31_4, et_X7_bind_65_0, et_X7_bind_65_1, et_X7_bind_65_2, et_X7_bind_65_3, et_X7_thing, eq_true (show (0 : Int32) = nI 0 from rfl), eq_false (show ¬ (1 : Int32) = nI 0 by decide), eq_false (show ¬ (2 : Int32) = nI 0 by decide), eq_false (show ¬ (3 : Int32) = nI 0 by decide), if_true, if_false, eq_y4, a1, nI_1, eq_p2, eq_p3, eq_atS_, eq_putS_]
    refine ⟨_, rfl, ep_bx.mk ?_ ?_ ?_ ?_ ?_ ?_⟩
    · simp (disch := omega) only [ef_pI', ef_pIk, ef_pIs, eq_pL1]
    · intro k hk; simp (disch := omega) only [eq_pI2, ef_pL', ef_pLk, ef_pLs]
    · simp (disch := omega) only [eq_pI2, ef_pL', ef_pLk, ef_pLs]
    · intro n hn1 hn2
      have h5 : n = 0 ∨ n = 1 ∨ n = 2 ∨ n = 3 := by omega
      rcases h5 with rfl | rfl | rfl | rfl
      all_goals first | exact absurd rfl hn2 | (rw [show 4 * sc = sc * 4 by omega]; simp (disch := omega) only [eq_pI2, ef_pL', ef_pLk, ef_pLs, Nat.add_zero]; done)
    · intro o ho; simp (disch := omega) only [ef_pI', eq_pL1]
    · intro o ho; simp (disch := omega) only [eq_pI2, ef_pL']
  · simp (disch := omega) only [et_X7_bind_31_0, et_X7_bind_31_1, et_X7_bind_31_2, et_X7_bind_31_3, et_X7_bind_31_4, et_X7_bind_65_0, et_X7_bind_65_1, et_X7_bind_65_2, et_X7_bind_65_3, et_X7_thing, eq_false (show ¬ (0 : Int32) = nI 1 by decide), eq_true (show (1 : Int32) = nI 1 from rfl), eq_false (show ¬ (2 : Int32) = nI 1 by decide), eq_false (show ¬ (3 : Int32) = nI 1 by decide), if_true, if_false, eq_y4, a1, nI_1, eq_p2, eq_p3, eq_atS_, eq_putS_]
    refine ⟨_, rfl, ep_bx.mk ?_ ?_ ?_ ?_ ?_ ?_⟩
    · simp (disch := omega) only [ef_pI', ef_pIk, ef_pIs, eq_pL1]
    · intro k hk; simp (disch := omega) only [eq_pI2, ef_pL', ef_pLk, ef_pLs]
    · simp (disch := omega) only [eq_pI2, ef_pL', ef_pLk, ef_pLs]
    · intro n hn1 hn2
      have h5 : n = 0 ∨ n = 1 ∨ n = 2 ∨ n = 3 := by omega
      rcases h5 with rfl | rfl | rfl | rfl
      all_goals first | exact absurd rfl hn2 | (rw [show 4 * sc = sc * 4 by omega]; simp (disch := omega) only [eq_pI2, ef_pL', ef_pLk, ef_pLs, Nat.add_zero]; done)
    · intro o ho; simp (disch := omega) only [ef_pI', eq_pL1]
    · intro o ho; simp (disch := omega) only [eq_pI2, ef_pL']
  · simp (disch := omega) only [et_X7_bind_31_0, et_X7_bind_31_1, et_X7_bind_31_2, et_X7_bind_31_3, et_X7_bind_31_4, et_X7_bind_65_0, et_X7_bind_65_1, et_X7_bind_65_2, et_X7_bind_65_3, et_X7_thing, eq_false (show ¬ (0 : Int32) = nI 2 by decide), eq_false (show ¬ (1 : Int32) = nI 2 by decide), eq_true (show (2 : Int32) = nI 2 from rfl), eq_false (show ¬ (3 : Int32) = nI 2 by decide), if_true, if_false, eq_y4, a1, nI_1, eq_p2, eq_p3, eq_atS_, eq_putS_]
    refine ⟨_, rfl, ep_bx.mk ?_ ?_ ?_ ?_ ?_ ?_⟩
    · simp (disch := omega) only [ef_pI', ef_pIk, ef_pIs, eq_pL1]
    · intro k hk; simp (disch := omega) only [eq_pI2, ef_pL', ef_pLk, ef_pLs]
    · simp (disch := omega) only [eq_pI2, ef_pL', ef_pLk, ef_pLs]
    · intro n hn1 hn2
      have h5 : n = 0 ∨ n = 1 ∨ n = 2 ∨ n = 3 := by omega
      rcases h5 with rfl | rfl | rfl | rfl
      all_goals first | exact absurd rfl hn2 | (rw [show 4 * sc = sc * 4 by omega]; simp (disch := omega) only [eq_pI2, ef_pL', ef_pLk, ef_pLs, Nat.add_zero]; done)
    · intro o ho; simp (disch := omega) only [ef_pI', eq_pL1]
    · intro o ho; simp (disch := omega) only [eq_pI2, ef_pL']
  · simp (disch := omega) only [et_X7_bind_31_0, et_X7_bind_31_1, et_X7_bind_31_2, et_X7_bind_31_3, et_X7_bind_31_4, et_X7_bind_65_0, et_X7_bind_65_1, et_X7_bind_65_2, et_X7_bind_65_3, et_X7_thing, eq_false (show ¬ (0 : Int32) = nI 3 by decide), eq_false (show ¬ (1 : Int32) = nI 3 by decide), eq_false (show ¬ (2 : Int32) = nI 3 by decide), eq_true (show (3 : Int32) = nI 3 from rfl), if_true, if_false, eq_y4, a1, nI_1, eq_p2, eq_p3, eq_atS_, eq_putS_]
    refine ⟨_, rfl, ep_bx.mk ?_ ?_ ?_ ?_ ?_ ?_⟩
    · simp (disch := omega) only [ef_pI', ef_pIk, ef_pIs, eq_pL1]
    · intro k hk; simp (disch := omega) only [eq_pI2, ef_pL', ef_pLk, ef_pLs]
    · simp (disch := omega) only [eq_pI2, ef_pL', ef_pLk, ef_pLs]
    · intro n hn1 hn2
      have h5 : n = 0 ∨ n = 1 ∨ n = 2 ∨ n = 3 := by omega
      rcases h5 with rfl | rfl | rfl | rfl
      all_goals first | exact absurd rfl hn2 | (rw [show 4 * sc = sc * 4 by omega]; simp (disch := omega) only [eq_pI2, ef_pL', ef_pLk, ef_pLs, Nat.add_zero]; done)
    · intro o ho; simp (disch := omega) only [ef_pI', eq_pL1]
    · intro o ho; simp (disch := omega) only [eq_pI2, ef_pL']
theorem em_bound {G : em_M} {ns : Nat} (below name ie v : Int32) (e1 : G.1 119 22 = nI ns) (hn : ns < 300) : es_X12_bound G below name ie v ∧ et_X12_bound G below name ie v = (nI ns, em_pI (em_pI (em_pI (em_pI (em_pI G 119 (2680 + 4 * ns) name) 119 (2680 + 4 * ns + 1) ie) 119 (2680 + 4 * ns + 2) v) 119 (2680 + 4 * ns + 3) below) 119 22 (nI (ns + 1))) := by
  rw [es_X12_bound, et_X12_bound]
  simp (disch := omega) only [show ((22 : Int32)).toNatClampNeg = 22 from rfl, e1, eq_s4, nI_1, eq_p2, eq_p3, nI_clamp, forall_eq', vp_in_nI, true_and, implies_true, and_true]
theorem ep_bind {φ : Nat → Nat × Nat} {u nl : Nat} {H : ep_H} {t w : Nat} {C0 G0 C G : em_M} (h : ep_Md φ u nl H t w C0 G0 C G) (hn : H.ns < 300) (sc nm : Nat) (hs : sc ≤ H.ns) (hm : nm < 4) {th : Int64} {ie v : Int32} (ht : ep_Th H.ne th ie v) : ∃ C' G', et_X7_bind w C (nI sc) (nI nm) th = (nI (H.ns + 1), C') ∧ es_X12_bound G (nI sc - 1) (nI nm) ie v ∧ et_X12_bound G (nI sc - 1) (nI nm) ie v = (nI H.ns, G') ∧ ep_Md φ u nl (ep_aS H) t w C0 G0 C' G' ∧ (∀ o, o ≠ w + 6 → C'.1 o = C.1 o) ∧ (∀ o, o ≠ w + 7 → C'.2 o = C.2 o) ∧ (∀ k, k ≤ 20 → G'.1 119 k = G.1 119 k) ∧ (∀ o, o ≠ 119 → G'.1 o = G.1 o) := by
  obtain ⟨C', ec, b⟩ := ec_bind (C := C) th h.ns1 hn hs hm
  obtain ⟨em1, em2⟩ := em_bound (G := G) (nI sc - 1) (nI nm) ie v h.ns2 hn
  refine ⟨C', _, ec, em1, em2, ?_, b.ro, b.rl, fun k hk => by simp (disch := omega) only [ef_pI', ef_pIk, ef_pIs], fun o ho => by simp (disch := omega) only [ef_pI']⟩
  have w6 := h.w6
  have ro := b.ro
  have rl := b.rl
  obtain ⟨z, z1, z2, z3, z4⟩ := h.sz
  have a : ep_Ag H w 119 C G w 119 C' (em_pI (em_pI (em_pI (em_pI (em_pI G 119 (2680 + 4 * H.ns) (nI nm)) 119 (2680 + 4 * H.ns + 1) ie) 119 (2680 + 4 * H.ns + 2) v) 119 (2680 + 4 * H.ns + 3) (nI sc - 1)) 119 22 (nI (H.ns + 1))) := by
    have n1 := h.nf
    refine ep_Ag.mk (ro _ (by omega)) (ro _ (by omega)) (by rw [ro _ (by omega)]) (fun j _ _ k _ _ => by rw [ro _ (by omega)]) (fun k _ _ => by rw [rl _ (by omega)]) b.ra (by rw [ro _ (by omega)]) (fun j _ _ k _ _ => by rw [ro _ (by omega)]) (fun j _ _ k _ => by rw [ro _ (by omega)]) ?_ ?_ ?_ ?_
    all_goals (intro k k1 k2; simp (disch := omega) only [ef_pI', ef_pIk, ef_pIs])
  refine ep_Md.mk h.w6 h.t3 h.nf hn h.nw h.ne ?_ ?_ ?_ ?_ ?_ ?_ ?_ ?_ ?_ ?_ b.r6 ?_ ?_ ?_ ?_ ?_ ?_ ?_ ?_ ?_ ?_ ?_
  · intro k hk; rw [ro _ (by omega)]; simp (disch := omega) only [ef_pI', ef_pIk, ef_pIs]; exact h.va k hk
  · intro k hk; rw [ro _ (by omega)]; simp (disch := omega) only [ef_pI', ef_pIk, ef_pIs]; exact h.fu k hk
  · rw [ro _ (by omega)]; exact h.s0
  · simp (disch := omega) only [ef_pI', ef_pIk, ef_pIs]; exact h.s1
  · rw [ro _ (by omega)]; exact h.t0
  · simp (disch := omega) only [ef_pI', ef_pIk, ef_pIs]; exact h.t1
  · rw [ro _ (by omega)]; simp (disch := omega) only [ef_pI', ef_pIk, ef_pIs]; exact h.dp
  · refine ⟨z, z1, by rw [ro _ (by omega)]; exact z2, by simp (disch := omega) only [ef_pI', ef_pIk, ef_pIs]; exact z3, fun k hk => ?_⟩
    rw [ro _ (by omega)]; simp (disch := omega) only [ef_pI', ef_pIk, ef_pIs]; exact z4 k hk
  · rw [ro _ (by omega)]; exact h.nf1
  · simp (disch := omega) only [ef_pI', ef_pIk, ef_pIs]; exact h.nf2
  · simp (disch := omega) only [ef_pI', ef_pIk, ef_pIs]; rfl
  · rw [ro _ (by omega)]; exact h.nw1
  · simp (disch := omega) only [ef_pI', ef_pIk, ef_pIs]; exact h.nw2
  · rw [ro _ (by omega)]; exact h.ne1
  · simp (disch := omega) only [ef_pI', ef_pIk, ef_pIs]; exact h.ne2
  · refine ep_Tb_ex (ep_Tb_ag h.tb a) (ep_aS_ex H) (fun f f1 f2 => ?_) (fun q q1 q2 => ?_) (fun v v1 v2 => ?_) (fun x x1 x2 => ?_)
    · exact absurd f2 (show ¬ f < H.nf by omega)
    · have e : q = H.ns := by have : q < H.ns + 1 := q2; omega
      subst e
      refine ⟨nm, sc, hm, hs, ?_, ?_, ?_, fun n n1 n2 => ?_⟩
      · simp (disch := omega) only [ef_pI', ef_pIk, ef_pIs]
      · simp (disch := omega) only [ef_pI', ef_pIk, ef_pIs]
      · rw [b.rb]; simp (disch := omega) only [ef_pI', ef_pIk, ef_pIs]; exact ht
      · rw [b.rc n n1 n2, b.ra _ (by omega)]
    · exact absurd v2 (show ¬ v < H.nw by omega)
    · exact absurd x2 (show ¬ x < H.ne by omega)
  · intro o ho; rw [ro _ (by omega)]; exact h.kc o ho
  · intro o ho; rw [rl _ (by omega)]; exact h.k2 o ho
  · intro o ho; simp (disch := omega) only [ef_pI']; exact h.kg o ho
  · exact h.kl
  · intro k k1 k2; simp (disch := omega) only [ef_pI', ef_pIk, ef_pIs]; exact h.kr k k1 k2
/-! an ESCAPE is made -/
theorem ep_caught {φ : Nat → Nat × Nat} {u nl : Nat} {H : ep_H} {t w : Nat} {C0 G0 C G : em_M} (h : ep_Md φ u nl H t w C0 G0 C G) (hn : H.ne < 300) (ch wi : Nat) (ch0 : ch ≤ H.nf) (ch1 : C.1 (w + 3) 13 = nI ch) (wi0 : wi ≤ H.nw) (wi1 : C.1 (w + 3) 14 = nI wi) (cw : ch ≠ 0 → H.W ch = wi) : ∃ C', et_X3_caught w C = (4294967296 + (nI H.ne).toInt64, C') ∧ ep_Md φ u nl (ep_aE H ch wi) t w C0 G0 C' (em_pI (em_pI (em_pI G 119 (5240 + 2 * H.ne) (nI ch - 1)) 119 (5240 + 2 * H.ne + 1) (nI wi - 1)) 119 24 (nI (H.ne + 1))) ∧ (∀ k, k ≠ 8 → C'.1 (w + 3) k = C.1 (w + 3) k) ∧ C'.2 = C.2 ∧ (∀ o, o ≠ w + 3 → o < w + 22 → C'.1 o = C.1 o) := by
  have w6 := h.w6
  have ec : et_X3_caught w C = (4294967296 + (nI H.ne).toInt64, em_pI (em_pI (em_pI C (w + 3) 8 (nI (H.ne + 1))) (w + 22) H.ne (nI ch)) (w + 23) H.ne (nI wi)) := by
    rw [et_X3_caught, h.ne1]
    simp (disch := omega) only [nI_1, eq_putS, ef_pI', ef_pIk, ef_pIs, ch1, wi1]
  refine ⟨_, ec, ?_, fun k hk => by simp (disch := omega) only [ef_pI', ef_pIk, ef_pIs], rfl, fun o o1 o2 => by simp (disch := omega) only [ef_pI']⟩
  obtain ⟨z, z1, z2, z3, z4⟩ := h.sz
  refine ep_Md.mk h.w6 h.t3 h.nf h.ns h.nw hn ?_ ?_ ?_ ?_ ?_ ?_ ?_ ?_ ?_ ?_ ?_ ?_ ?_ ?_ ?_ ?_ ?_ ?_ ?_ ?_ ?_ ?_
  · intro k hk; simp (disch := omega) only [ef_pI', ef_pIk, ef_pIs]; exact h.va k hk
  · intro k hk; simp (disch := omega) only [ef_pI', ef_pIk, ef_pIs]; exact h.fu k hk
  · simp (disch := omega) only [ef_pI', ef_pIk, ef_pIs]; exact h.s0
  · simp (disch := omega) only [ef_pI', ef_pIk, ef_pIs]; exact h.s1
  · simp (disch := omega) only [ef_pI', ef_pIk, ef_pIs]; exact h.t0
  · simp (disch := omega) only [ef_pI', ef_pIk, ef_pIs]; exact h.t1
  · simp (disch := omega) only [ef_pI', ef_pIk, ef_pIs]; exact h.dp
  · refine ⟨z, z1, by simp (disch := omega) only [ef_pI', ef_pIk, ef_pIs]; exact z2, by simp (disch := omega) only [ef_pI', ef_pIk, ef_pIs]; exact z3, fun k hk => ?_⟩
    simp (disch := omega) only [ef_pI', ef_pIk, ef_pIs]; exact z4 k hk
  · simp (disch := omega) only [ef_pI', ef_pIk, ef_pIs]; exact h.nf1
  · simp (disch := omega) only [ef_pI', ef_pIk, ef_pIs]; exact h.nf2
  · simp (disch := omega) only [ef_pI', ef_pIk, ef_pIs]; exact h.ns1
  · simp (disch := omega) only [ef_pI', ef_pIk, ef_pIs]; exact h.ns2
  · simp (disch := omega) only [ef_pI', ef_pIk, ef_pIs]; exact h.nw1
  · simp (disch := omega) only [ef_pI', ef_pIk, ef_pIs]; exact h.nw2
  · simp (disch := omega) only [ef_pI', ef_pIk, ef_pIs]; rfl
  · simp (disch := omega) only [ef_pI', ef_pIk, ef_pIs]; rfl
  · have a : ep_Ag H w 119 C G w 119 (em_pI (em_pI (em_pI C (w + 3) 8 (nI (H.ne + 1))) (w + 22) H.ne (nI ch)) (w + 23) H.ne (nI wi)) (em_pI (em_pI (em_pI G 119 (5240 + 2 * H.ne) (nI ch - 1)) 119 (5240 + 2 * H.ne + 1) (nI wi - 1)) 119 24 (nI (H.ne + 1))) := by
      have n1 := h.nf
      have n2 := h.ns
      have n3 := h.nw
      refine ep_Ag.mk ?_ ?_ ?_ ?_ ?_ ?_ ?_ ?_ ?_ ?_ ?_ ?_ ?_
      case refine_9 =>
        intro j j1 j2 k k1
        have : j = 22 ∨ j = 23 := by omega
        rcases this with rfl | rfl
        all_goals simp (disch := omega) only [ef_pI', ef_pIk, ef_pIs]
      all_goals (intros; simp (disch := omega) only [ef_pI', ef_pIk, ef_pIs, eq_pI2])
    refine ep_Tb_ex (ep_Tb_ag h.tb a) (ep_aE_ex H ch wi) (fun f f1 f2 => ?_) (fun q q1 q2 => ?_) (fun v v1 v2 => ?_) (fun x x1 x2 => ?_)
    · exact absurd f2 (show ¬ f < H.nf by omega)
    · exact absurd q2 (show ¬ q < H.ns by omega)
    · exact absurd v2 (show ¬ v < H.nw by omega)
    · have e : x = H.ne := by have : x < H.ne + 1 := x2; omega
      subst e
      have k1 : (ep_aE H ch wi).kc H.ne = ch := if_pos rfl
      have k2 : (ep_aE H ch wi).kw H.ne = wi := if_pos rfl
      rw [k1, k2]
      refine ⟨ch0, wi0, cw, ?_, ?_, ?_, ?_⟩
      all_goals simp (disch := omega) only [ef_pI', ef_pIk, ef_pIs]
  · intro o ho; simp (disch := omega) only [ef_pI']; exact h.kc o ho
  · intro o ho; exact h.k2 o ho
  · intro o ho; simp (disch := omega) only [ef_pI']; exact h.kg o ho
  · exact h.kl
  · intro k k1 k2; simp (disch := omega) only [ef_pI', ef_pIk, ef_pIs]; exact h.kr k k1 k2
/-! what a NAME is bound to -/
theorem em_found {φ : Nat → Nat × Nat} {u : Nat} {H : ep_H} {w : Nat} {C G : em_M} (h : ep_Tb φ u H w 119 C G) (h3 : H.ns ≤ 300) (nm : Nat) (hm : nm < 4) : ∀ sc, sc ≤ H.ns → ∀ fu, sc < fu → es_X12_found_2 fu G (nI nm) (nI sc - 1) ∧ ((et_X12_found_2 fu G (nI nm) (nI sc - 1) = -1 ∧ C.2 (w + 7) (4 * sc + nm) = -9223372036854775808) ∨ ∃ t, t < H.ns ∧ et_X12_found_2 fu G (nI nm) (nI sc - 1) = nI t ∧ ep_Th H.ne (C.2 (w + 7) (4 * sc + nm)) (G.1 119 (2680 + 4 * t + 1)) (G.1 119 (2680 + 4 * t + 2))) := by
  intro sc
  induction sc using Nat.strongRecOn with
  | ind sc ih =>
    intro hs fu hf
    obtain ⟨fu, rfl⟩ : ∃ f, fu = f + 1 := ⟨fu - 1, by omega⟩
    rw [et_X12_found_2, es_X12_found_2]
    cases sc with
    | zero =>
      rw [eq_q0]
      refine ⟨⟨fun _ => trivial, fun q => absurd eq_neg q⟩, Or.inl ⟨if_pos eq_neg, ?_⟩⟩
      rw [Nat.mul_zero, Nat.zero_add]
      exact h.sc0 nm hm
    | succ t =>
      obtain ⟨n, sb, q1, q2, q3, q4, q5, q6⟩ := h.sc t (by omega)
      have p : ¬ nI t < 0 := nI_pos (by omega)
      rw [eq_q1, eq_s4, eq_p3, nI_clamp (by omega), nI_clamp (by omega), q3, q4, if_neg p]
      by_cases e : n = nm
      · subst e
        refine ⟨⟨fun _ => trivial, fun _ => ⟨vp_in_nI (by omega) (by omega), fun _ => trivial, fun q => absurd rfl q⟩⟩, Or.inr ⟨t, by omega, if_pos rfl, q5⟩⟩
      · have e' : ¬ nI n = nI nm := fun q => e ((nI_eq (by omega) (by omega)).mp q)
        have i := ih sb (by omega) (by omega) fu (by omega)
        rw [if_neg e', q6 nm hm (fun q => e q.symm)]
        exact ⟨⟨fun _ => trivial, fun _ => ⟨vp_in_nI (by omega) (by omega), fun q => absurd q e', fun _ => ⟨vp_in_nI (by omega) (by omega), i.1⟩⟩⟩, i.2⟩
theorem eq_min (v : Int32) : ¬ v.toInt64 = (-9223372036854775808 : Int64) := by
  intro q
  have := congrArg Int64.toInt q
  rw [Int32.toInt_toInt64] at this
  have h1 := Int32.le_toInt v
  rw [show (-9223372036854775808 : Int64).toInt = -9223372036854775808 by decide] at this
  omega
theorem eq_esc {x : Nat} (h : x < 2 ^ 31) : ((4294967296 : Int64) + (nI x).toInt64).toInt = 4294967296 + (x : Int) := by
  rw [Int64.toInt_add, Int32.toInt_toInt64, nI_toInt h, show (4294967296 : Int64).toInt = 4294967296 by decide, Int.bmod_eq_of_le (by omega) (by omega)]
theorem eq_Thm {ne : Nat} {t : Int64} {ie v : Int32} (h : ep_Th ne t ie v) (hn : ne ≤ 300) : ¬ t = (-9223372036854775808 : Int64) := by
  rcases h with ⟨-, rfl⟩ | ⟨-, x, h1, -, rfl⟩
  · exact eq_min v
  · intro q
    have := congrArg Int64.toInt q
    rw [eq_esc (by omega), show (-9223372036854775808 : Int64).toInt = -9223372036854775808 by decide] at this
    omega
theorem eq_num (M : em_M) (t : Int64) : (et_X11_isNumber M t = 0) ↔ ¬ t = t.toInt32.toInt64 := by
  rw [et_X11_isNumber]
  by_cases p : lg_cmp t t.toInt32.toInt64 = 0
  · rw [if_pos p]
    rw [lg_cmp_eq] at p
    exact ⟨fun q => absurd q (by decide), fun q => absurd p q⟩
  · rw [if_neg p]
    rw [lg_cmp_eq] at p
    exact ⟨fun _ => p, fun _ => rfl⟩
theorem eq_Thn {ne : Nat} {t : Int64} {ie v : Int32} (h : ep_Th ne t ie v) (hn : ne ≤ 300) (M : em_M) : (et_X11_isNumber M t = 0 ∧ ie = 1 ∧ ∃ x, x < ne ∧ v = nI x ∧ t = 4294967296 + (nI x).toInt64) ∨ (¬ et_X11_isNumber M t = 0 ∧ ie = 0 ∧ t = v.toInt64 ∧ t.toInt32 = v) := by
  rcases h with ⟨h1, rfl⟩ | ⟨h1, x, h2, h3, rfl⟩
  · refine Or.inr ⟨?_, h1, rfl, by simp⟩
    rw [eq_num]
    simp
  · refine Or.inl ⟨?_, h1, x, h2, h3, rfl⟩
    rw [eq_num]
    intro q
    have := congrArg Int64.toInt q
    rw [eq_esc (by omega), Int32.toInt_toInt64] at this
    have h1 := Int32.toInt_lt (((4294967296 : Int64) + (nI x).toInt64).toInt32)
    omega
