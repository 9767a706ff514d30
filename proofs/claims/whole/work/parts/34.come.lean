/-! a frame comes, on both sides -/
def ep_nw (w nf : Nat) (so be what e scope ke kt ex : Int32) (th : Int64) (es : Int32) (C C' G' : em_M) : Prop :=
  (C'.1 (w + 11) (nf + 1) = so) ∧
  (C'.1 (w + 12) (nf + 1) = be) ∧
  (C'.1 (w + 13) (nf + 1) = C.1 (w + 3) 10) ∧
  (C'.1 (w + 14) (nf + 1) = C.1 (w + 3) 11) ∧
  (C'.1 (w + 15) (nf + 1) = es) ∧
  (C'.2 (w + 16) (nf + 1) = th) ∧
  (G'.1 119 (120 + 8 * nf) = what) ∧
  (G'.1 119 (120 + 8 * nf + 1) = e) ∧
  (G'.1 119 (120 + 8 * nf + 2) = scope) ∧
  (G'.1 119 (120 + 8 * nf + 3) = ke) ∧
  (G'.1 119 (120 + 8 * nf + 4) = kt) ∧
  (G'.1 119 (120 + 8 * nf + 7) = ex) ∧
  (C'.1 2 = C.1 2) ∧
  (C'.1 4 = C.1 4)
theorem ep_nw.a11 {w nf : Nat} {so be what e scope ke kt ex : Int32} {th : Int64} {es : Int32} {C C' G' : em_M} (h : ep_nw w nf so be what e scope ke kt ex th es C C' G') : C'.1 (w + 11) (nf + 1) = so := h.1
theorem ep_nw.a12 {w nf : Nat} {so be what e scope ke kt ex : Int32} {th : Int64} {es : Int32} {C C' G' : em_M} (h : ep_nw w nf so be what e scope ke kt ex th es C C' G') : C'.1 (w + 12) (nf + 1) = be := h.2.1
theorem ep_nw.a13 {w nf : Nat} {so be what e scope ke kt ex : Int32} {th : Int64} {es : Int32} {C C' G' : em_M} (h : ep_nw w nf so be what e scope ke kt ex th es C C' G') : C'.1 (w + 13) (nf + 1) = C.1 (w + 3) 10 := h.2.2.1
theorem ep_nw.a14 {w nf : Nat} {so be what e scope ke kt ex : Int32} {th : Int64} {es : Int32} {C C' G' : em_M} (h : ep_nw w nf so be what e scope ke kt ex th es C C' G') : C'.1 (w + 14) (nf + 1) = C.1 (w + 3) 11 := h.2.2.2.1
theorem ep_nw.a15 {w nf : Nat} {so be what e scope ke kt ex : Int32} {th : Int64} {es : Int32} {C C' G' : em_M} (h : ep_nw w nf so be what e scope ke kt ex th es C C' G') : C'.1 (w + 15) (nf + 1) = es := h.2.2.2.2.1
theorem ep_nw.a16 {w nf : Nat} {so be what e scope ke kt ex : Int32} {th : Int64} {es : Int32} {C C' G' : em_M} (h : ep_nw w nf so be what e scope ke kt ex th es C C' G') : C'.2 (w + 16) (nf + 1) = th := h.2.2.2.2.2.1
theorem ep_nw.g0 {w nf : Nat} {so be what e scope ke kt ex : Int32} {th : Int64} {es : Int32} {C C' G' : em_M} (h : ep_nw w nf so be what e scope ke kt ex th es C C' G') : G'.1 119 (120 + 8 * nf) = what := h.2.2.2.2.2.2.1
theorem ep_nw.g1 {w nf : Nat} {so be what e scope ke kt ex : Int32} {th : Int64} {es : Int32} {C C' G' : em_M} (h : ep_nw w nf so be what e scope ke kt ex th es C C' G') : G'.1 119 (120 + 8 * nf + 1) = e := h.2.2.2.2.2.2.2.1
theorem ep_nw.g2 {w nf : Nat} {so be what e scope ke kt ex : Int32} {th : Int64} {es : Int32} {C C' G' : em_M} (h : ep_nw w nf so be what e scope ke kt ex th es C C' G') : G'.1 119 (120 + 8 * nf + 2) = scope := h.2.2.2.2.2.2.2.2.1
theorem ep_nw.g3 {w nf : Nat} {so be what e scope ke kt ex : Int32} {th : Int64} {es : Int32} {C C' G' : em_M} (h : ep_nw w nf so be what e scope ke kt ex th es C C' G') : G'.1 119 (120 + 8 * nf + 3) = ke := h.2.2.2.2.2.2.2.2.2.1
theorem ep_nw.g4 {w nf : Nat} {so be what e scope ke kt ex : Int32} {th : Int64} {es : Int32} {C C' G' : em_M} (h : ep_nw w nf so be what e scope ke kt ex th es C C' G') : G'.1 119 (120 + 8 * nf + 4) = kt := h.2.2.2.2.2.2.2.2.2.2.1
theorem ep_nw.g7 {w nf : Nat} {so be what e scope ke kt ex : Int32} {th : Int64} {es : Int32} {C C' G' : em_M} (h : ep_nw w nf so be what e scope ke kt ex th es C C' G') : G'.1 119 (120 + 8 * nf + 7) = ex := h.2.2.2.2.2.2.2.2.2.2.2.1
theorem ep_nw.k2 {w nf : Nat} {so be what e scope ke kt ex : Int32} {th : Int64} {es : Int32} {C C' G' : em_M} (h : ep_nw w nf so be what e scope ke kt ex th es C C' G') : C'.1 2 = C.1 2 := h.2.2.2.2.2.2.2.2.2.2.2.2.1
theorem ep_nw.p4 {w nf : Nat} {so be what e scope ke kt ex : Int32} {th : Int64} {es : Int32} {C C' G' : em_M} (h : ep_nw w nf so be what e scope ke kt ex th es C C' G') : C'.1 4 = C.1 4 := h.2.2.2.2.2.2.2.2.2.2.2.2.2
theorem ep_nw.mk {w nf : Nat} {so be what e scope ke kt ex : Int32} {th : Int64} {es : Int32} {C C' G' : em_M} (a11 : C'.1 (w + 11) (nf + 1) = so) (a12 : C'.1 (w + 12) (nf + 1) = be) (a13 : C'.1 (w + 13) (nf + 1) = C.1 (w + 3) 10) (a14 : C'.1 (w + 14) (nf + 1) = C.1 (w + 3) 11) (a15 : C'.1 (w + 15) (nf + 1) = es) (a16 : C'.2 (w + 16) (nf + 1) = th) (g0 : G'.1 119 (120 + 8 * nf) = what) (g1 : G'.1 119 (120 + 8 * nf + 1) = e) (g2 : G'.1 119 (120 + 8 * nf + 2) = scope) (g3 : G'.1 119 (120 + 8 * nf + 3) = ke) (g4 : G'.1 119 (120 + 8 * nf + 4) = kt) (g7 : G'.1 119 (120 + 8 * nf + 7) = ex) (k2 : C'.1 2 = C.1 2) (p4 : C'.1 4 = C.1 4) : ep_nw w nf so be what e scope ke kt ex th es C C' G' :=
  ⟨a11, a12, a13, a14, a15, a16, g0, g1, g2, g3, g4, g7, k2, p4⟩
theorem ep_hts {φ : Nat → Nat × Nat} {u : Nat} {H : ep_H} {w : Nat} {C G : em_M} (h : ep_Tb φ u H w 119 C G) (h3 : H.nf ≤ 300) {ch : Nat} (hc : ch ≤ H.nf) : ∃ x, x ≤ 40 ∧ C.1 (w + 10) ch = nI x ∧ et_X12_frames G (nI ch - 1) = nI x ∧ es_X12_frames G (nI ch - 1) := by
  cases ch with
  | zero => exact ⟨0, by omega, h.fh0, (em_fr0 G).2, (em_fr0 G).1⟩
  | succ c =>
    obtain ⟨x, x1, x2, x3⟩ := h.fh c (by omega)
    exact ⟨x, x1, x2, by rw [(em_fr1 G (by omega)).2]; exact x3, (em_fr1 G (by omega)).1⟩
theorem ep_come {φ : Nat → Nat × Nat} {u nl : Nat} {H : ep_H} {t w : Nat} {C0 G0 C G : em_M} (h : ep_Md φ u nl H t w C0 G0 C G) (hn : H.nf < 300) (so be what e scope ke kt ex : Int32) (th : Int64) (es : Int32) (ch W : Nat) (hch : ch ≤ H.nf) (c13 : C.1 (w + 3) 13 = nI ch) (hW : W ≤ H.nw)
    (hF : ∀ C' G', ep_nw w H.nf so be what e scope ke kt ex th es C C' G' → ep_Fk φ u (ep_aF H ch W) w 119 C' G' H.nf) :
    es_X12_comes G (nI ch - 1) what e scope ke kt ex ∧
    ((et_X3_comes w C so be = (0, em_pI C (w + 4) 0 4) ∧ et_X12_comes G (nI ch - 1) what e scope ke kt ex = (0, em_pI G 119 7 4)) ∨
     (∃ x d C', et_X3_comes w C so be = (nI (H.nf + 1), C') ∧ et_X12_comes G (nI ch - 1) what e scope ke kt ex = (1, ep_gF H.nf x d what e scope ke kt (nI ch - 1) ex G) ∧
      (∀ C2, (C2 = et_X0_keep w C' (nI (H.nf + 1)) th es ∨ (C2 = C' ∧ th = 0 ∧ es = 0)) → ep_Md φ u nl (ep_aF H ch W) t w C0 G0 C2 (ep_gF H.nf x d what e scope ke kt (nI ch - 1) ex G) ∧ (∀ k, C2.1 (w + 3) k = if k = 13 then nI (H.nf + 1) else C.1 (w + 3) k) ∧ C2.2 (w + 3) = C.2 (w + 3) ∧ C2.1 2 = C.1 2 ∧ C2.1 4 = C.1 4) ∧
      (∀ k, 12 < k → k ≤ 20 → (ep_gF H.nf x d what e scope ke kt (nI ch - 1) ex G).1 119 k = if k = 17 then nI H.nf else G.1 119 k) ∧ (∀ k, 2680 ≤ k → (ep_gF H.nf x d what e scope ke kt (nI ch - 1) ex G).1 119 k = G.1 119 k) ∧ (∀ o, o ≠ 119 → (ep_gF H.nf x d what e scope ke kt (nI ch - 1) ex G).1 o = G.1 o))) := by
  obtain ⟨x, x1, x2, x3, x4⟩ := ep_hts h.tb h.nf hch
  obtain ⟨d, d1, d2, d3⟩ := h.dp
  by_cases p : x = 40
  · subst p
    have q := em_deep what e scope ke kt ex x4 x3
    exact ⟨q.1, Or.inl ⟨ec_deep so be hn c13 hch x2, q.2⟩⟩
  · have q := em_come what e scope ke kt ex h.nf2 hn hch x3 (by omega) d3 d1
    refine ⟨q.1, Or.inr ⟨x, d, _, ec_come so be h.nf1 hn c13 hch x2 (by omega) d2 d1, q.2, ?_, ?_, ?_, ?_⟩⟩
    · intro C2 hC
      have f : ep_fx w H.nf ch x d so be th es C C2 := by
        rcases hC with rfl | ⟨rfl, rfl, rfl⟩
        · exact ec_kx so be hn th es
        · exact ec_fx so be
      have w6 := h.w6
      have ro := f.ro
      have rl := f.rl
      obtain ⟨z, z1, z2, z3, z4⟩ := h.sz
      have rg : ∀ k, k ≠ 21 → k ≠ 17 → k ≠ 11 → (k < 120 + 8 * H.nf ∨ 120 + 8 * H.nf + 7 < k) → (ep_gF H.nf x d what e scope ke kt (nI ch - 1) ex G).1 119 k = G.1 119 k := by
        intro k k1 k2 k3 k4
        unfold ep_gF
        simp (disch := omega) only [ef_pI', ef_pIk, ef_pIs]
      have rn : ∀ o, o ≠ 119 → (ep_gF H.nf x d what e scope ke kt (nI ch - 1) ex G).1 o = G.1 o := by
        intro o ho
        unfold ep_gF
        simp (disch := omega) only [ef_pI']
      have gl : (ep_gF H.nf x d what e scope ke kt (nI ch - 1) ex G).2 = G.2 := rfl
      have g11 : (ep_gF H.nf x d what e scope ke kt (nI ch - 1) ex G).1 119 11 = nI (max d (x + 1)) := by
        unfold ep_gF; simp (disch := omega) only [ef_pI', ef_pIk, ef_pIs]
      have g21 : (ep_gF H.nf x d what e scope ke kt (nI ch - 1) ex G).1 119 21 = nI (H.nf + 1) := by
        unfold ep_gF; simp (disch := omega) only [ef_pI', ef_pIk, ef_pIs]
      have g5 : (ep_gF H.nf x d what e scope ke kt (nI ch - 1) ex G).1 119 (120 + 8 * H.nf + 5) = nI ch - 1 := by
        unfold ep_gF; simp (disch := omega) only [ef_pI', ef_pIk, ef_pIs]
      have g6 : (ep_gF H.nf x d what e scope ke kt (nI ch - 1) ex G).1 119 (120 + 8 * H.nf + 6) = nI (x + 1) := by
        unfold ep_gF; simp (disch := omega) only [ef_pI', ef_pIk, ef_pIs]
      have nw : ep_nw w H.nf so be what e scope ke kt ex th es C C2 (ep_gF H.nf x d what e scope ke kt (nI ch - 1) ex G) := by
        refine ep_nw.mk (by rw [f.r11, if_pos rfl]) (by rw [f.r12, if_pos rfl]) (by rw [f.r13, if_pos rfl]) (by rw [f.r14, if_pos rfl]) (by rw [f.r15, if_pos rfl]) (by rw [f.r16, if_pos rfl]) ?_ ?_ ?_ ?_ ?_ ?_ (ro _ (by omega) (by omega) (by omega)) (ro _ (by omega) (by omega) (by omega))
        all_goals (unfold ep_gF; simp (disch := omega) only [ef_pI', ef_pIk, ef_pIs])
      have hf := hF _ _ nw
      generalize ep_gF H.nf x d what e scope ke kt (nI ch - 1) ex G = G' at *
      refine ⟨ep_Md.mk h.w6 h.t3 hn h.ns h.nw h.ne ?_ ?_ ?_ ?_ ?_ ?_ ?_ ?_ f.r8 g21 ?_ ?_ ?_ ?_ ?_ ?_ ?_ ?_ ?_ ?_ ?_ ?_, f.r3, rl _ (by omega), ro _ (by omega) (by omega) (by omega), ro _ (by omega) (by omega) (by omega)⟩
      · intro k hk; rw [ro _ (by omega) (by omega) (by omega), rg _ (by omega) (by omega) (by omega) (by omega)]; exact h.va k hk
      · intro k hk; rw [ro _ (by omega) (by omega) (by omega), rg _ (by omega) (by omega) (by omega) (by omega)]; exact h.fu k hk
      · rw [f.r4, if_neg (by omega)]; exact h.s0
      · rw [rg _ (by omega) (by omega) (by omega) (by omega)]; exact h.s1
      · rw [f.r4, if_neg (by omega)]; exact h.t0
      · rw [rg _ (by omega) (by omega) (by omega) (by omega)]; exact h.t1
      · exact ⟨max d (x + 1), by omega, by rw [f.r4, if_pos rfl], g11⟩
      · refine ⟨z, z1, by rw [f.r4, if_neg (by omega)]; exact z2, by rw [rg _ (by omega) (by omega) (by omega) (by omega)]; exact z3, fun k hk => ?_⟩
        rw [ro _ (by omega) (by omega) (by omega), rg _ (by omega) (by omega) (by omega) (by omega)]; exact z4 k hk
      · rw [ro _ (by omega) (by omega) (by omega)]; exact h.ns1
      · rw [rg _ (by omega) (by omega) (by omega) (by omega)]; exact h.ns2
      · rw [ro _ (by omega) (by omega) (by omega)]; exact h.nw1
      · rw [rg _ (by omega) (by omega) (by omega) (by omega)]; exact h.nw2
      · rw [f.r3, if_neg (by omega)]; exact h.ne1
      · rw [rg _ (by omega) (by omega) (by omega) (by omega)]; exact h.ne2
      · have n1 := h.ns
        have n2 := h.nw
        have a : ep_Ag H w 119 C G w 119 C2 G' := by
          refine ep_Ag.mk (ro _ (by omega) (by omega) (by omega)) (ro _ (by omega) (by omega) (by omega)) (by rw [f.r10, if_neg (by omega)]) ?_ (fun k k1 k2 => by rw [f.r16, if_neg (by omega)]) (fun k _ => by rw [rl _ (by omega)]) (by rw [ro _ (by omega) (by omega) (by omega)]) (fun j _ _ k _ _ => by rw [ro _ (by omega) (by omega) (by omega)]) (fun j _ _ k _ => by rw [ro _ (by omega) (by omega) (by omega)]) (fun k _ _ => rg _ (by omega) (by omega) (by omega) (by omega)) (fun k _ _ => rg _ (by omega) (by omega) (by omega) (by omega)) (fun k _ _ => rg _ (by omega) (by omega) (by omega) (by omega)) (fun k _ _ => rg _ (by omega) (by omega) (by omega) (by omega))
          intro j j1 j2 k k1 k2
          have : j = 9 ∨ j = 10 ∨ j = 11 ∨ j = 12 ∨ j = 13 ∨ j = 14 ∨ j = 15 := by omega
          rcases this with rfl | rfl | rfl | rfl | rfl | rfl | rfl
          · rw [f.r9, if_neg (by omega)]
          · rw [f.r10, if_neg (by omega)]
          · rw [f.r11, if_neg (by omega)]
          · rw [f.r12, if_neg (by omega)]
          · rw [f.r13, if_neg (by omega)]
          · rw [f.r14, if_neg (by omega)]
          · rw [f.r15, if_neg (by omega)]
        refine ep_Tb_ex (ep_Tb_ag h.tb a) (ep_aF_ex H ch W) (fun f' f1 f2 => ?_) (fun q q1 q2 => ?_) (fun v v1 v2 => ?_) (fun x x1 x2 => ?_)
        · have e : f' = H.nf := by have : f' < H.nf + 1 := f2; omega
          subst e
          have k1 : (ep_aF H ch W).fb (H.nf + 1) = ch := if_pos rfl
          have k2 : (ep_aF H ch W).W (H.nf + 1) = W := if_pos rfl
          rw [k1, k2]
          exact ⟨⟨hch, by rw [f.r9, if_pos rfl], g5⟩, ⟨x + 1, by omega, by rw [f.r10, if_pos rfl], g6⟩, hW, hf⟩
        · exact absurd q2 (show ¬ q < H.ns by omega)
        · exact absurd v2 (show ¬ v < H.nw by omega)
        · exact absurd x2 (show ¬ x < H.ne by omega)
      · intro o ho; rw [ro _ (by omega) (by omega) (by omega)]; exact h.kc o ho
      · intro o ho; rw [rl _ (by omega)]; exact h.k2 o ho
      · intro o ho; rw [rn _ ho]; exact h.kg o ho
      · rw [gl]; exact h.kl
      · intro k k1 k2; rw [rg _ (by omega) (by omega) (by omega) (by omega)]; exact h.kr k k1 k2
    · intro k k1 k2
      unfold ep_gF
      by_cases e : k = 17
      · rw [if_pos e]; simp (disch := omega) only [ef_pI', ef_pIk, ef_pIs]
      · rw [if_neg e]; simp (disch := omega) only [ef_pI', ef_pIk, ef_pIs]
    · intro k k1
      unfold ep_gF
      simp (disch := omega) only [ef_pI', ef_pIk, ef_pIs]
    · intro o ho
      unfold ep_gF
      simp (disch := omega) only [ef_pI']
/-- a frame of an E comes -/
theorem ep_come1 {φ : Nat → Nat × Nat} {u nl : Nat} {H : ep_H} {t w : Nat} {C0 G0 C G : em_M} (h : ep_Md φ u nl H t w C0 G0 C G) {so be wh e sc ch W : Nat} {esc ke kt ex : Int32} {th : Int64} (hS : ep_S so be wh) (hch : ch ≤ H.nf) (he : e < u) (hk : C.1 2 e = nI so) (c10 : C.1 (w + 3) 10 = nI e) (hc : sc ≤ H.ns) (c11 : C.1 (w + 3) 11 = nI sc)
    (hWf : ch ≠ 0 → be ≠ 1 ∨ so ≠ 8 → W = H.W ch) (hW1 : so = 8 → be = 1 → 0 < W ∧ (ch ≠ 0 → H.bw W = H.W ch)) (hx : so = 5 → ∃ x, x < H.ne ∧ esc = nI x ∧ ex = nI x) (ht : wh = 1 ∨ wh = 11 → ep_Th H.ne th ke kt) (C' G' : em_M) (q : ep_nw w H.nf (nI so) (nI be) (nI wh) (nI (φ e).1) (nI sc - 1) ke kt ex th esc C C' G') : ep_Fk φ u (ep_aF H ch W) w 119 C' G' H.nf := by
  refine Or.inl ⟨so, be, wh, e, sc, ?_⟩
  have k1 : (ep_aF H ch W).fb (H.nf + 1) = ch := if_pos rfl
  have k2 : (ep_aF H ch W).W (H.nf + 1) = W := if_pos rfl
  have k3 : (ep_aF H ch W).W ch = H.W ch := if_neg (by omega)
  refine ep_F1.mk hS q.a11 q.a12 q.g0 he (by rw [q.k2]; exact hk) (by rw [q.a13]; exact c10) q.g1 hc (by rw [q.a14]; exact c11) q.g2 ?_ ?_ ?_ ?_
  · rw [k1, k2, k3]; exact hWf
  · rw [k1, k2, k3]; exact hW1
  · intro h5
    obtain ⟨x, x1, x2, x3⟩ := hx h5
    exact ⟨x, x1, by rw [q.a15]; exact x2, by rw [q.g7]; exact x3⟩
  · intro h5
    rw [q.a16, q.g3, q.g4]
    exact ht h5
theorem ep_come2 {φ : Nat → Nat × Nat} {u nl : Nat} {H : ep_H} {t w : Nat} {C0 G0 C G : em_M} (h : ep_Md φ u nl H t w C0 G0 C G) {e sc ch p W : Nat} (hch : ch ≤ H.nf) (he : e < u) (hp : p < u) (hk : C.1 4 (3 * e + 1) = nI p) (hp1 : φ p = ((φ e).1, (φ e).2 + 1)) (c10 : C.1 (w + 3) 10 = nI e) (hc : sc ≤ H.ns) (c11 : C.1 (w + 3) 11 = nI sc) (hW : ch ≠ 0 → W = H.W ch) (C' G' : em_M) (q : ep_nw w H.nf (nI 3) (nI 0) (nI 4) (nI (φ e).1) (nI sc - 1) 0 0 (nI ((φ e).2 + 1)) 0 0 C C' G') : ep_Fk φ u (ep_aF H ch W) w 119 C' G' H.nf := by
  refine Or.inr (Or.inl ⟨e, sc, p, ?_⟩)
  have k1 : (ep_aF H ch W).fb (H.nf + 1) = ch := if_pos rfl
  have k2 : (ep_aF H ch W).W (H.nf + 1) = W := if_pos rfl
  have k3 : (ep_aF H ch W).W ch = H.W ch := if_neg (by omega)
  refine ep_F2.mk q.a11 q.g0 he hp (by rw [q.p4]; exact hk) hp1 (by rw [q.a13]; exact c10) q.g1 hc (by rw [q.a14]; exact c11) q.g2 ?_ q.g7
  rw [k1, k2, k3]; exact hW
theorem ep_come3 {φ : Nat → Nat × Nat} {u : Nat} {H : ep_H} {w : Nat} {C G : em_M} {so wh x W : Nat} {e scope ke kt : Int32} {th : Int64} {be : Int32} (hsw : (so = 9 ∧ wh = 12) ∨ (so = 10 ∧ wh = 13)) (hx : x < H.ne) (ht : ep_Th H.ne th ke kt) (hv : so = 10 → ∃ v, v < H.nw ∧ e = nI v ∧ ep_nx H.bw W (H.kw x) (H.kw x) = v + 1) (C' G' : em_M) (q : ep_nw w H.nf (nI so) be (nI wh) e scope ke kt (nI x) th (nI x) C C' G') : ep_Fk φ u (ep_aF H 0 W) w 119 C' G' H.nf := by
  refine Or.inr (Or.inr ⟨so, wh, x, ?_⟩)
  have k1 : (ep_aF H 0 W).fb (H.nf + 1) = 0 := if_pos rfl
  have k2 : (ep_aF H 0 W).W (H.nf + 1) = W := if_pos rfl
  refine ep_F3.mk q.a11 q.g0 hsw k1 hx q.a15 q.g7 ?_ ?_
  · rw [q.a16, q.g3, q.g4]; exact ht
  · rw [k2]
    intro h5
    obtain ⟨v, v1, v2, v3⟩ := hv h5
    exact ⟨v, v1, by rw [q.g1]; exact v2, v3⟩
