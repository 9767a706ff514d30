/-! a whole RUN -/
def ep_Ws (φ : Nat → Nat × Nat) (u nl w : Nat) (C0 G0 C G : em_M) : Prop :=
  (ep_Wd φ u nl w 119 C G) ∧
  (∀ o, o < w + 1 ∨ w + 23 < o → C.1 o = C0.1 o) ∧
  (∀ o, o < w + 1 ∨ w + 23 < o → C.2 o = C0.2 o) ∧
  (∀ o, o ≠ 119 → G.1 o = G0.1 o) ∧
  (G.2 = G0.2) ∧
  (∀ k, 25 ≤ k → k ≤ 73 → G.1 119 k = G0.1 119 k)
theorem ep_Ws.wd {φ : Nat → Nat × Nat} {u nl w : Nat} {C0 G0 C G : em_M} (h : ep_Ws φ u nl w C0 G0 C G) : ep_Wd φ u nl w 119 C G := h.1
theorem ep_Ws.kc {φ : Nat → Nat × Nat} {u nl w : Nat} {C0 G0 C G : em_M} (h : ep_Ws φ u nl w C0 G0 C G) : ∀ o, o < w + 1 ∨ w + 23 < o → C.1 o = C0.1 o := h.2.1
theorem ep_Ws.k2 {φ : Nat → Nat × Nat} {u nl w : Nat} {C0 G0 C G : em_M} (h : ep_Ws φ u nl w C0 G0 C G) : ∀ o, o < w + 1 ∨ w + 23 < o → C.2 o = C0.2 o := h.2.2.1
theorem ep_Ws.kg {φ : Nat → Nat × Nat} {u nl w : Nat} {C0 G0 C G : em_M} (h : ep_Ws φ u nl w C0 G0 C G) : ∀ o, o ≠ 119 → G.1 o = G0.1 o := h.2.2.2.1
theorem ep_Ws.kl {φ : Nat → Nat × Nat} {u nl w : Nat} {C0 G0 C G : em_M} (h : ep_Ws φ u nl w C0 G0 C G) : G.2 = G0.2 := h.2.2.2.2.1
theorem ep_Ws.kr {φ : Nat → Nat × Nat} {u nl w : Nat} {C0 G0 C G : em_M} (h : ep_Ws φ u nl w C0 G0 C G) : ∀ k, 25 ≤ k → k ≤ 73 → G.1 119 k = G0.1 119 k := h.2.2.2.2.2
theorem ep_Ws.mk {φ : Nat → Nat × Nat} {u nl w : Nat} {C0 G0 C G : em_M} (wd : ep_Wd φ u nl w 119 C G) (kc : ∀ o, o < w + 1 ∨ w + 23 < o → C.1 o = C0.1 o) (k2 : ∀ o, o < w + 1 ∨ w + 23 < o → C.2 o = C0.2 o) (kg : ∀ o, o ≠ 119 → G.1 o = G0.1 o) (kl : G.2 = G0.2) (kr : ∀ k, 25 ≤ k → k ≤ 73 → G.1 119 k = G0.1 119 k) : ep_Ws φ u nl w C0 G0 C G :=
  ⟨wd, kc, k2, kg, kl, kr⟩
theorem ep_Ln_k {φ D : Nat → Nat × Nat} {u nl w : Nat} {C0 G0 C G : em_M} (w6 : 9 ≤ w) (kc : ∀ o, o < w + 1 ∨ w + 23 < o → C.1 o = C0.1 o) (kg : ∀ o, o ≠ 119 → G.1 o = G0.1 o) (ln : ep_Ln φ D u nl C0 G0) : ep_Ln φ D u nl C G :=
  ep_Ln_cg (fun o o1 o2 => kc o (by omega)) (by rw [kg _ (by omega)]) (fun o o1 o2 => kg o (by omega)) ln
theorem ep_Rn_t {φ : Nat → Nat × Nat} {u : Nat} {H : ep_H} {s ch wi w g : Nat} {C G G' : em_M} (b1 : ∀ k, 12 < k → G'.1 g k = G.1 g k) (h : ep_Rn φ u H s ch wi w g C G) : ep_Rn φ u H s ch wi w g C G' := by
  unfold ep_Rn ep_Fk ep_F1 ep_F2 ep_F3 at h ⊢
  simp (disch := omega) only [b1]
  exact h
theorem ep_Md_of {φ D : Nat → Nat × Nat} {u nl w : Nat} {C0 G0 C G : em_M} (w6 : 9 ≤ w) (ln : ep_Ln φ D u nl C0 G0) (s : ep_Ws φ u nl w C0 G0 C G) (run : G.1 119 7 = -5) : ∃ t, t < 300 ∧ C.1 (w + 4) 1 = nI t ∧ G.1 119 10 = nI t ∧
    ((C.1 (w + 3) 9 = 0 ∧ G.1 119 13 = 0 ∧ es_X12_worksOn G ∧ ep_Ps φ u nl t w C0 G0 (et_X3_work w (em_pI C (w + 4) 1 (nI (t + 1)))) (et_X12_worksOn G)) ∨
     (C.1 (w + 3) 9 = 1 ∧ G.1 119 13 = 1 ∧ es_X12_givesOn G ∧ ep_Ps φ u nl t w C0 G0 (et_X3_receive w (em_pI C (w + 4) 1 (nI (t + 1)))) (et_X12_givesOn G))) := by
  obtain ⟨H, t, ch, wi, e1, r⟩ := s.wd.ru run
  obtain ⟨t', t'3, e2, e3⟩ := s.wd.sp
  have t3 := r.s3
  have et : t' = t := (nI_eq (by omega) (by omega)).mp (e2.symm.trans e1)
  subst et
  have nf := r.nf
  have ns := r.ns
  have nw := r.nw
  have ne := r.ne
  have lnC := ep_Ln_k w6 s.kc s.kg ln
  have ln3 : ep_Ln φ D u nl (em_pI C (w + 4) 1 (nI (t' + 1))) G := ep_Ln_cg (fun o o1 o2 => ef_pI' _ _ _ _ (by omega)) rfl (fun _ _ _ => rfl) lnC
  obtain ⟨z, z1, z2, z3, z4⟩ := s.wd.sz
  have m : ep_Md φ u nl H t' w C0 G0 (em_pI C (w + 4) 1 (nI (t' + 1))) G := by
    refine ep_Md.mk w6 t3 (by omega) (by omega) (by omega) (by omega) ?_ ?_ ?_ run ?_ e3 ?_ ?_ ?_ r.nf2 ?_ r.ns2 ?_ r.nw2 ?_ r.ne2 ?_ ?_ ?_ s.kg s.kl s.kr
    · intro k hk; simp (disch := omega) only [ef_pI']; exact s.wd.va k hk
    · intro k hk; simp (disch := omega) only [ef_pI']; exact s.wd.fu k hk
    · rw [ef_pIk _ _ (by omega), s.wd.st, run]
    · rw [ef_pIs _ _ rfl]
    · simp (disch := omega) only [ef_pIk]; exact s.wd.dp
    · refine ⟨z, z1, by rw [ef_pIk _ _ (by omega)]; exact z2, z3, fun k hk => ?_⟩
      rw [ef_pI' _ _ _ _ (by omega)]; exact z4 k hk
    · simp (disch := omega) only [ef_pI']; exact r.nf1
    · simp (disch := omega) only [ef_pI']; exact r.ns1
    · simp (disch := omega) only [ef_pI']; exact r.nw1
    · simp (disch := omega) only [ef_pI']; exact r.ne1
    · refine ep_Tb_ag r.tb (ep_Ag.mk ?_ ?_ ?_ ?_ ?_ ?_ ?_ ?_ ?_ ?_ ?_ ?_ ?_)
      all_goals (intros; first | rfl | (simp (disch := omega) only [ef_pI']))
    · intro o ho; simp (disch := omega) only [ef_pI']; exact s.kc o ho
    · intro o ho; exact s.k2 o ho
  have k3 : ∀ k, (em_pI C (w + 4) 1 (nI (t' + 1))).1 (w + 3) k = C.1 (w + 3) k := fun k => by rw [ef_pI' _ _ _ _ (by omega)]
  refine ⟨t', t3, e1, e3, ?_⟩
  rcases r.gi with ⟨g1, g2, e, sc, g3, g4, g5, g6, g7, g8, g9⟩ | ⟨g1, g2, g3⟩
  · obtain ⟨w1, w2⟩ := ep_work m ln3 ⟨nf, ns, nw, ne⟩ r.ch0 (by rw [k3]; exact r.ch1) r.ch2 r.wi0 (by rw [k3]; exact r.wi1) r.wi2 r.cw (by rw [k3]; exact g1) g3 (by rw [k3]; exact g4) g5 g6 g7 (by rw [k3]; exact g8) g9
    exact Or.inl ⟨g1, g2, w1, w2⟩
  · obtain ⟨w1, w2⟩ := ep_receive m ln3 ⟨nf, ns, nw, ne⟩ r.ch0 (by rw [k3]; exact r.ch1) r.ch2 r.wi0 (by rw [k3]; exact r.wi1) r.wi2 r.cw (by rw [k3]; exact g1) g2 (by rw [eq_pI2]; exact g3)
    exact Or.inr ⟨g1, g2, w1, w2⟩
/-- the STEP is counted -/
theorem ep_cnt {φ : Nat → Nat × Nat} {u nl t w : Nat} {C0 G0 C G : em_M} (w6 : 9 ≤ w) (t3 : t < 300) (p : ep_Ps φ u nl t w C0 G0 C G) (q : G.1 119 7 = -5 → t + 1 < 300) : ep_Ws φ u nl w C0 G0 C (em_pI G 119 10 (nI (t + 1))) := by
  obtain ⟨z, z1, z2, z3, z4⟩ := p.sz
  refine ep_Ws.mk (ep_Wd.mk ?_ ?_ ?_ ?_ ?_ ?_ ?_ p.gb ?_) p.kc p.k2 ?_ p.kl ?_
  · intro k hk; rw [ef_pIk _ _ (by omega)]; exact p.va k hk
  · intro k hk; rw [ef_pIk _ _ (by omega)]; exact p.fu k hk
  · rw [ef_pIk _ _ (by omega)]; exact p.st
  · exact ⟨t + 1, by omega, p.t0, ef_pIs _ _ rfl⟩
  · simp (disch := omega) only [ef_pIk]; exact p.dp
  · refine ⟨z, z1, z2, by rw [ef_pIk _ _ (by omega)]; exact z3, fun k hk => ?_⟩
    rw [ef_pIk _ _ (by omega)]; exact z4 k hk
  · simp (disch := omega) only [ef_pIk]; exact p.re
  · rw [ef_pIk _ _ (by omega)]
    intro r
    obtain ⟨H, ch, wi, hr⟩ := p.ru r
    exact ⟨H, t + 1, ch, wi, p.t0, ep_Rn_t (fun k hk => ef_pIk _ _ (by omega)) (hr (q r))⟩
  · intro o ho; rw [ef_pI' _ _ _ _ ho]; exact p.kg o ho
  · intro k k1 k2; rw [ef_pIk _ _ (by omega)]; exact p.kr k k1 k2
theorem ep_fuel {φ : Nat → Nat × Nat} {u nl t w : Nat} {C0 G0 C G : em_M} (w6 : 9 ≤ w) (t3 : t < 300) (p : ep_Ps φ u nl t w C0 G0 C G) : ep_Ws φ u nl w C0 G0 (em_pI C (w + 4) 0 8) (em_pI (em_pI G 119 10 (nI (t + 1))) 119 7 8) := by
  obtain ⟨z, z1, z2, z3, z4⟩ := p.sz
  refine ep_Ws.mk (ep_Wd.mk ?_ ?_ ?_ ?_ ?_ ?_ ?_ ?_ ?_) ?_ ?_ ?_ p.kl ?_
  · intro k hk; simp (disch := omega) only [ef_pI', ef_pIk]; exact p.va k hk
  · intro k hk; simp (disch := omega) only [ef_pI', ef_pIk]; exact p.fu k hk
  · simp (disch := omega) only [ef_pIs]
  · refine ⟨t + 1, by omega, ?_, ?_⟩
    · rw [ef_pIk _ _ (by omega)]; exact p.t0
    · simp (disch := omega) only [ef_pIk, ef_pIs]
  · simp (disch := omega) only [ef_pIk]; exact p.dp
  · refine ⟨z, z1, by rw [ef_pIk _ _ (by omega)]; exact z2, by simp (disch := omega) only [ef_pIk]; exact z3, fun k hk => ?_⟩
    simp (disch := omega) only [ef_pI', ef_pIk]; exact z4 k hk
  · rw [ef_pIs _ _ rfl]; intro q; exact absurd q (by decide)
  · simp (disch := omega) only [ef_pI']; exact p.gb
  · rw [ef_pIs _ _ rfl]; intro q; exact absurd q (by decide)
  · intro o ho; rw [ef_pI' _ _ _ _ (by omega)]; exact p.kc o ho
  · intro o ho; exact p.k2 o ho
  · intro o ho; simp (disch := omega) only [ef_pI']; exact p.kg o ho
  · intro k k1 k2; simp (disch := omega) only [ef_pIk]; exact p.kr k k1 k2
theorem ep_moves {φ D : Nat → Nat × Nat} {u nl w : Nat} {C0 G0 : em_M} (w6 : 9 ≤ w) (ln : ep_Ln φ D u nl C0 G0) {N : Nat} (hN : N ≤ 300) : ∀ (d m : Nat) (C G : em_M), m + d = N → ep_Ws φ u nl w C0 G0 C G → ∀ f1 f2, d < f1 → d < f2 → es_X12_steps_2 f2 G (nI N) (nI m) ∧ (et_X3_move_2 w f1 C (nI N) (nI m)).1 = (et_X12_steps_2 f2 G (nI N) (nI m)).1 ∧ ep_Ws φ u nl w C0 G0 (et_X3_move_2 w f1 C (nI N) (nI m)).2 (et_X12_steps_2 f2 G (nI N) (nI m)).2 := by
  intro d
  induction d with
  | zero =>
    intro m C G hm s f1 f2 h1 h2
    obtain ⟨f1, rfl⟩ : ∃ f, f1 = f + 1 := ⟨f1 - 1, by omega⟩
    obtain ⟨f2, rfl⟩ : ∃ f, f2 = f + 1 := ⟨f2 - 1, by omega⟩
    have le : nI N ≤ nI m := nI_le (by omega) (by omega)
    rw [et_X3_move_2, et_X12_steps_2, es_X12_steps_2, if_pos le, if_pos le]
    exact ⟨⟨fun _ => trivial, fun q => absurd le q⟩, rfl, s⟩
  | succ d ih =>
    intro m C G hm s f1 f2 h1 h2
    obtain ⟨f1, rfl⟩ : ∃ f, f1 = f + 1 := ⟨f1 - 1, by omega⟩
    obtain ⟨f2, rfl⟩ : ∃ f, f2 = f + 1 := ⟨f2 - 1, by omega⟩
    have le : ¬ nI N ≤ nI m := nI_ge (by omega) (by omega)
    have ih' := fun C' G' s' => ih (m + 1) C' G' (by omega) s' f1 f2 (by omega) (by omega)
    rw [et_X3_move_2, et_X12_steps_2, es_X12_steps_2, if_neg le, if_neg le, nI_1]
    simp only [eq_c7, eq_c10, eq_c13]
    by_cases run : G.1 119 7 = -5
    · have runC : C.1 (w + 4) 0 = -5 := by rw [s.wd.st]; exact run
      rw [if_pos run, if_pos runC]
      obtain ⟨t, t3, e1, e2, k⟩ := ep_Md_of w6 ln s run
      have c9 : (em_pI C (w + 4) 1 (nI (t + 1))).1 (w + 3) 9 = C.1 (w + 3) 9 := by rw [ef_pI' _ _ _ _ (by omega)]
      have K : ∀ CC GG : em_M, ep_Ps φ u nl t w C0 G0 CC GG →
          ((((em_pI GG 119 10 (GG.1 119 10 + 1)).1 119 10 = 300) → (((em_pI GG 119 10 (GG.1 119 10 + 1)).1 119 7 = -5) → (∀ M13 : em_M, et_X12_stands (em_pI GG 119 10 (GG.1 119 10 + 1)) 8 = M13 → es_X12_steps_2 f2 M13 (nI N) (nI (m + 1)))) ∧ (¬ ((em_pI GG 119 10 (GG.1 119 10 + 1)).1 119 7 = -5) → es_X12_steps_2 f2 (em_pI GG 119 10 (GG.1 119 10 + 1)) (nI N) (nI (m + 1)))) ∧ (¬ ((em_pI GG 119 10 (GG.1 119 10 + 1)).1 119 10 = 300) → es_X12_steps_2 f2 (em_pI GG 119 10 (GG.1 119 10 + 1)) (nI N) (nI (m + 1)))) ∧
          (if CC.1 (w + 4) 0 = -5 then (if CC.1 (w + 4) 1 < 300 then et_X3_move_2 w f1 CC (nI N) (nI (m + 1)) else et_X3_move_2 w f1 (em_pI CC (w + 4) 0 8) (nI N) (nI (m + 1))) else et_X3_move_2 w f1 CC (nI N) (nI (m + 1))).1 = (if (em_pI GG 119 10 (GG.1 119 10 + 1)).1 119 10 = 300 then (if (em_pI GG 119 10 (GG.1 119 10 + 1)).1 119 7 = -5 then et_X12_steps_2 f2 (et_X12_stands (em_pI GG 119 10 (GG.1 119 10 + 1)) 8) (nI N) (nI (m + 1)) else et_X12_steps_2 f2 (em_pI GG 119 10 (GG.1 119 10 + 1)) (nI N) (nI (m + 1))) else et_X12_steps_2 f2 (em_pI GG 119 10 (GG.1 119 10 + 1)) (nI N) (nI (m + 1))).1 ∧
          ep_Ws φ u nl w C0 G0 (if CC.1 (w + 4) 0 = -5 then (if CC.1 (w + 4) 1 < 300 then et_X3_move_2 w f1 CC (nI N) (nI (m + 1)) else et_X3_move_2 w f1 (em_pI CC (w + 4) 0 8) (nI N) (nI (m + 1))) else et_X3_move_2 w f1 CC (nI N) (nI (m + 1))).2 (if (em_pI GG 119 10 (GG.1 119 10 + 1)).1 119 10 = 300 then (if (em_pI GG 119 10 (GG.1 119 10 + 1)).1 119 7 = -5 then et_X12_steps_2 f2 (et_X12_stands (em_pI GG 119 10 (GG.1 119 10 + 1)) 8) (nI N) (nI (m + 1)) else et_X12_steps_2 f2 (em_pI GG 119 10 (GG.1 119 10 + 1)) (nI N) (nI (m + 1))) else et_X12_steps_2 f2 (em_pI GG 119 10 (GG.1 119 10 + 1)) (nI N) (nI (m + 1))).2 := by
        intro CC GG p
        have x1 : (em_pI GG 119 10 (nI (t + 1))).1 119 10 = nI (t + 1) := ef_pIs _ _ rfl
        have x2 : (em_pI GG 119 10 (nI (t + 1))).1 119 7 = GG.1 119 7 := ef_pIk _ _ (by omega)
        have x3 : (nI (t + 1) = 300) = (t + 1 = 300) := by rw [show (300 : Int32) = nI 300 from rfl, nI_eq (by omega) (by omega)]
        have x4 : (nI (t + 1) < 300) = (t + 1 < 300) := by rw [show (300 : Int32) = nI 300 from rfl, nI_ltI (by omega) (by omega)]
        simp only [p.t1, nI_1, p.t0, p.st, x1, x2, x3, x4, eq_stands]
        by_cases r : GG.1 119 7 = -5
        · by_cases f : t + 1 = 300
          · have f' : ¬ t + 1 < 300 := by omega
            simp only [r, f, if_true, if_neg (show ¬ (300 < 300) by omega)]
            have i := ih' _ _ (ep_fuel w6 t3 p)
            rw [f] at i
            exact ⟨⟨fun _ => ⟨fun _ M e => e ▸ i.1, fun q => absurd trivial q⟩, fun q => absurd trivial q⟩, i.2⟩
          · have f' : t + 1 < 300 := by omega
            simp only [r, f, f', if_true, if_false]
            have i := ih' _ _ (ep_cnt w6 t3 p (fun _ => f'))
            exact ⟨⟨fun q => absurd q id, fun _ => i.1⟩, i.2⟩
        · have i := ih' _ _ (ep_cnt w6 t3 p (fun q => absurd q r))
          simp only [r, if_false, ite_self]
          exact ⟨⟨fun _ => ⟨fun q => absurd q id, fun _ => i.1⟩, fun _ => i.1⟩, i.2⟩
      rcases k with ⟨k1, k2, k3, k4⟩ | ⟨k1, k2, k3, k4⟩
      · obtain ⟨a1, a2, a3⟩ := K _ _ k4
        simp only [e1, nI_1, c9, k1, k2, if_true]
        refine ⟨⟨fun q => absurd q le, fun _ => ⟨fun _ => ⟨fun _ => ⟨k3, ?_⟩, fun q => absurd trivial q⟩, fun q => absurd run q⟩⟩, a2, a3⟩
        rintro _ rfl _ rfl
        exact a1
      · obtain ⟨a1, a2, a3⟩ := K _ _ k4
        have n1 : ¬ (1 : Int32) = 0 := by decide
        simp only [e1, nI_1, c9, k1, k2, if_neg n1]
        refine ⟨⟨fun q => absurd q le, fun _ => ⟨fun _ => ⟨fun q => absurd q n1, fun _ => ⟨k3, ?_⟩⟩, fun q => absurd run q⟩⟩, a2, a3⟩
        rintro _ rfl _ rfl
        exact a1
    · have runC : ¬ C.1 (w + 4) 0 = -5 := by rw [s.wd.st]; exact run
      rw [if_neg run, if_neg runC]
      exact ⟨⟨fun q => absurd q le, fun _ => ⟨fun q => absurd q run, fun _ => trivial⟩⟩, rfl, s⟩
theorem ep_move {φ D : Nat → Nat × Nat} {u nl w : Nat} {C0 G0 C G : em_M} (w6 : 9 ≤ w) (ln : ep_Ln φ D u nl C0 G0) {N : Nat} (hN : N ≤ 300) (s : ep_Ws φ u nl w C0 G0 C G) : es_X12_steps G (nI N) ∧ (et_X3_move w C (nI N)).1 = (et_X12_steps G (nI N)).1 ∧ ep_Ws φ u nl w C0 G0 (et_X3_move w C (nI N)).2 (et_X12_steps G (nI N)).2 := by
  rw [es_X12_steps, et_X3_move, et_X12_steps, nI_clamp (by omega)]
  exact ep_moves w6 ln hN N 0 C G (by omega) s _ _ (by omega) (by omega)
/-! a RUN begins -/
def ep_Wb (nl w : Nat) (C0 G0 C G : em_M) : Prop :=
  (∀ k, k < 4 → C.1 (w + 1) k = G.1 119 k) ∧
  (∀ k, k < 3 → C.1 (w + 2) k = G.1 119 (4 + k) ∧ (G.1 119 (4 + k) = -5 ∨ ∃ l, l < nl ∧ G.1 119 (4 + k) = nI l)) ∧
  (C.1 (w + 10) 0 = 0 ∧ C.1 (w + 19) 0 = 0) ∧
  (∀ o, o < w + 1 ∨ w + 23 < o → C.1 o = C0.1 o) ∧
  (∀ o, o < w + 1 ∨ w + 23 < o → C.2 o = C0.2 o) ∧
  (∀ o, o ≠ 119 → G.1 o = G0.1 o) ∧
  (G.2 = G0.2) ∧
  (∀ k, 25 ≤ k → k ≤ 73 → G.1 119 k = G0.1 119 k)
theorem ep_Wb.va {nl w : Nat} {C0 G0 C G : em_M} (h : ep_Wb nl w C0 G0 C G) : ∀ k, k < 4 → C.1 (w + 1) k = G.1 119 k := h.1
theorem ep_Wb.fu {nl w : Nat} {C0 G0 C G : em_M} (h : ep_Wb nl w C0 G0 C G) : ∀ k, k < 3 → C.1 (w + 2) k = G.1 119 (4 + k) ∧ (G.1 119 (4 + k) = -5 ∨ ∃ l, l < nl ∧ G.1 119 (4 + k) = nI l) := h.2.1
theorem ep_Wb.z0 {nl w : Nat} {C0 G0 C G : em_M} (h : ep_Wb nl w C0 G0 C G) : C.1 (w + 10) 0 = 0 ∧ C.1 (w + 19) 0 = 0 := h.2.2.1
theorem ep_Wb.kc {nl w : Nat} {C0 G0 C G : em_M} (h : ep_Wb nl w C0 G0 C G) : ∀ o, o < w + 1 ∨ w + 23 < o → C.1 o = C0.1 o := h.2.2.2.1
theorem ep_Wb.k2 {nl w : Nat} {C0 G0 C G : em_M} (h : ep_Wb nl w C0 G0 C G) : ∀ o, o < w + 1 ∨ w + 23 < o → C.2 o = C0.2 o := h.2.2.2.2.1
theorem ep_Wb.kg {nl w : Nat} {C0 G0 C G : em_M} (h : ep_Wb nl w C0 G0 C G) : ∀ o, o ≠ 119 → G.1 o = G0.1 o := h.2.2.2.2.2.1
theorem ep_Wb.kl {nl w : Nat} {C0 G0 C G : em_M} (h : ep_Wb nl w C0 G0 C G) : G.2 = G0.2 := h.2.2.2.2.2.2.1
theorem ep_Wb.kr {nl w : Nat} {C0 G0 C G : em_M} (h : ep_Wb nl w C0 G0 C G) : ∀ k, 25 ≤ k → k ≤ 73 → G.1 119 k = G0.1 119 k := h.2.2.2.2.2.2.2
theorem ep_Wb.mk {nl w : Nat} {C0 G0 C G : em_M} (va : ∀ k, k < 4 → C.1 (w + 1) k = G.1 119 k) (fu : ∀ k, k < 3 → C.1 (w + 2) k = G.1 119 (4 + k) ∧ (G.1 119 (4 + k) = -5 ∨ ∃ l, l < nl ∧ G.1 119 (4 + k) = nI l)) (z0 : C.1 (w + 10) 0 = 0 ∧ C.1 (w + 19) 0 = 0) (kc : ∀ o, o < w + 1 ∨ w + 23 < o → C.1 o = C0.1 o) (k2 : ∀ o, o < w + 1 ∨ w + 23 < o → C.2 o = C0.2 o) (kg : ∀ o, o ≠ 119 → G.1 o = G0.1 o) (kl : G.2 = G0.2) (kr : ∀ k, 25 ≤ k → k ≤ 73 → G.1 119 k = G0.1 119 k) : ep_Wb nl w C0 G0 C G :=
  ⟨va, fu, z0, kc, k2, kg, kl, kr⟩
theorem ep_Ws_b {φ : Nat → Nat × Nat} {u nl w : Nat} {C0 G0 C G : em_M} (s : ep_Ws φ u nl w C0 G0 C G) : ep_Wb nl w C0 G0 C G :=
  ep_Wb.mk s.wd.va s.wd.fu s.wd.gb.2 s.kc s.k2 s.kg s.kl s.kr
def ep_H0 : ep_H := ((0, 0, 0, 0), (fun _ => 0, fun _ => 0), (fun _ => 0, fun _ => 0), (fun _ => 0, fun _ => 0))
def ep_st (w : Nat) (C : em_M) (e : Int32) : em_M :=
  em_pI (em_pI (em_pI (em_pI (em_pI (em_pI (em_pI (em_pI (em_pL (em_pL (em_pL (em_pL (em_pI (em_pL (em_pI (em_pI (em_pI (em_pI C (w + 4) 0 (-5)) (w + 4) 1 0) (w + 4) 2 0) (w + 4) 3 0) (w + 4) 5 0) (w + 6) 0 1) (w + 7) 0 (-9223372036854775808)) (w + 7) 1 (-9223372036854775808)) (w + 7) 2 (-9223372036854775808)) (w + 7) 3 (-9223372036854775808)) (w + 8) 0 1) (w + 17) 0 1) (w + 3) 8 0) (w + 3) 9 0) (w + 3) 10 e) (w + 3) 11 0) (w + 3) 13 0) (w + 3) 14 0
theorem eq_start {w l : Nat} {C : em_M} (w6 : 9 ≤ w) (hl : l < 8) : et_X3_start w C (nI l) = ep_st w C (C.1 7 l) := by
  have e0 : ∀ M : em_M, ∀ v : Int64, et_X11_put_ (w + 7) 1204 M (0 : Int32) v = em_pL M (w + 7) 0 v := fun M v => eq_putS_ (j := 0) M (by omega) (by omega)
  have e1 : ∀ M : em_M, ∀ v : Int64, et_X11_put_ (w + 7) 1204 M (1 : Int32) v = em_pL M (w + 7) 1 v := fun M v => eq_putS_ (j := 1) M (by omega) (by omega)
  have e2 : ∀ M : em_M, ∀ v : Int64, et_X11_put_ (w + 7) 1204 M (2 : Int32) v = em_pL M (w + 7) 2 v := fun M v => eq_putS_ (j := 2) M (by omega) (by omega)
  have e3 : ∀ M : em_M, ∀ v : Int64, et_X11_put_ (w + 7) 1204 M (3 : Int32) v = em_pL M (w + 7) 3 v := fun M v => eq_putS_ (j := 3) M (by omega) (by omega)
  rw [et_X3_start]
  simp (disch := omega) only [et_X4_clear, et_X7_clear, et_X0_clear, et_X9_clear, et_X2_root, e0, e1, e2, e3, eq_atS, ef_pI', eq_pL1]
  rfl
def ep_sg (G : em_M) (e : Int32) : em_M :=
  em_pI (em_pI (em_pI (em_pI (em_pI (em_pI (em_pI (em_pI (em_pI (em_pI (em_pI (em_pI (em_pI (em_pI G 119 7 (-5)) 119 10 0) 119 11 0) 119 12 0) 119 17 (-1)) 119 18 (-1)) 119 21 0) 119 22 0) 119 23 0) 119 24 0) 119 13 0) 119 14 e) 119 15 0) 119 16 (-1)
theorem eq_begins {G : em_M} {l : Nat} : et_X12_begins G (nI l) = ep_sg G (nI (101 * l)) := by
  rw [et_X12_begins, eq_works, eq_x101]
  rfl
theorem ep_start {φ D : Nat → Nat × Nat} {u nl w : Nat} {C0 G0 C G : em_M} (w6 : 9 ≤ w) (ln : ep_Ln φ D u nl C0 G0) (h : ep_Wb nl w C0 G0 C G) {l : Nat} (hl : l < nl) : ep_Ws φ u nl w C0 G0 (et_X3_start w C (nI l)) (et_X12_begins G (nI l)) := by
  have n8 := ln.n8
  have lnC := ep_Ln_k w6 h.kc h.kg ln
  obtain ⟨e, r1, r2, r3, -, -⟩ := lnC.ro l hl
  rw [eq_start w6 (by omega), eq_begins, r2]
  have nz : (0 : Int32) = nI 0 := rfl
  have no : (1 : Int32) = nI (0 + 1) := rfl
  have nm : (-1 : Int32) = nI 0 - 1 := eq_q0.symm
  refine ep_Ws.mk (ep_Wd.mk ?_ ?_ ?_ ?_ ?_ ?_ ?_ ?_ ?_) ?_ ?_ ?_ h.kl ?_
  · intro k hk; unfold ep_st ep_sg; simp (disch := omega) only [ef_pI', ef_pIk, eq_pL1]; exact h.va k hk
  · intro k hk; unfold ep_st ep_sg; simp (disch := omega) only [ef_pI', ef_pIk, eq_pL1]; exact h.fu k hk
  · unfold ep_st ep_sg; simp (disch := omega) only [ef_pI', ef_pIk, ef_pIs, eq_pL1]
  · refine ⟨0, by omega, ?_, ?_⟩ <;> (first | unfold ep_st | unfold ep_sg) <;> simp (disch := omega) only [ef_pI', ef_pIk, ef_pIs, eq_pL1] <;> rfl
  · refine ⟨0, by omega, ?_, ?_⟩ <;> (first | unfold ep_st | unfold ep_sg) <;> simp (disch := omega) only [ef_pI', ef_pIk, ef_pIs, eq_pL1] <;> rfl
  · refine ⟨0, by omega, ?_, ?_, fun k hk => absurd hk (by omega)⟩ <;> (first | unfold ep_st | unfold ep_sg) <;> simp (disch := omega) only [ef_pI', ef_pIk, ef_pIs, eq_pL1] <;> rfl
  · unfold ep_sg; simp (disch := omega) only [ef_pIk, ef_pIs]; intro q; exact absurd q (by decide)
  · unfold ep_st; simp (disch := omega) only [ef_pI', ef_pIk, ef_pIs, eq_pL1]; exact ⟨Or.inl trivial, h.z0⟩
  · intro _
    refine ⟨ep_H0, 0, 0, 0, ?_, ep_Rn.mk (by omega) (Nat.le_refl _) (Nat.le_refl _) (Nat.le_refl _) (Nat.le_refl _) ?_ ?_ ?_ ?_ ?_ ?_ ?_ ?_ (Nat.le_refl _) ?_ ?_ (Nat.le_refl _) ?_ ?_ (fun q => absurd rfl q) (Or.inl ⟨?_, ?_, e, 0, r1, ?_, ?_, ?_, Nat.le_refl _, ?_, ?_⟩) ?_ (fun f hf => absurd hf (Nat.not_lt_zero _)) (fun f hf => absurd hf (Nat.not_lt_zero _)) (fun f hf => absurd hf (Nat.not_lt_zero _)) (fun f hf => absurd hf (Nat.not_lt_zero _)) ?_ (fun f hf => absurd hf (Nat.not_lt_zero _)) ⟨rfl, ?_⟩ (fun f hf => absurd hf (Nat.not_lt_zero _)) (fun f hf => absurd hf (Nat.not_lt_zero _)) (fun f hf => absurd hf (Nat.not_lt_zero _))⟩
    case refine_17 => unfold ep_sg; simp (disch := omega) only [ef_pIk, ef_pIs]; rw [r3]
    case refine_18 => unfold ep_sg; simp (disch := omega) only [ef_pIk, ef_pIs]; rw [r3]; rfl
    all_goals first
      | (unfold ep_st; simp (disch := omega) only [ef_pI', ef_pIk, ef_pIs, eq_pL1]; first | done | rfl | exact h.z0.1 | exact h.z0.2)
      | (unfold ep_sg; simp (disch := omega) only [ef_pIk, ef_pIs]; first | done | rfl | exact nm)
      | (intro n hn; have : n = 0 ∨ n = 1 ∨ n = 2 ∨ n = 3 := by omega
         unfold ep_st
         rcases this with rfl | rfl | rfl | rfl <;> simp (disch := omega) only [eq_pI2, ef_pL', ef_pLk, ef_pLs])
      | trace_state
  · intro o ho; unfold ep_st; simp (disch := omega) only [ef_pI', eq_pL1]; exact h.kc o ho
  · intro o ho; unfold ep_st; simp (disch := omega) only [eq_pI2, ef_pL']; exact h.k2 o ho
  · intro o ho; unfold ep_sg; simp (disch := omega) only [ef_pI']; exact h.kg o ho
  · intro k k1 k2; unfold ep_sg; simp (disch := omega) only [ef_pIk]; exact h.kr k k1 k2
theorem ep_runs {φ D : Nat → Nat × Nat} {u nl w : Nat} {C0 G0 C G : em_M} (w6 : 9 ≤ w) (ln : ep_Ln φ D u nl C0 G0) (h : ep_Wb nl w C0 G0 C G) {l : Nat} (hl : l < nl) : es_X12_runs G (nI l) ∧ ep_Ws φ u nl w C0 G0 (et_X3_move w (et_X3_start w C (nI l)) (300 : Int32)).2 (et_X12_runs G (nI l)) := by
  obtain ⟨m1, -, m3⟩ := ep_move w6 ln (N := 300) (Nat.le_refl _) (ep_start w6 ln h hl)
  rw [es_X12_runs, et_X12_runs]
  exact ⟨fun M e => e ▸ ⟨m1, fun _ _ _ => trivial⟩, m3⟩
