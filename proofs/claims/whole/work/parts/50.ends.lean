/-! ends, fits -/
theorem ep_ends {φ D : Nat → Nat × Nat} {u nl : Nat} {C0 G0 : em_M} (h : ep_I φ D u nl C0 G0) {j n : Nat} (hj : j < 4) (hn : n ≤ 10) (c : C0.1 15 0 = nI n) (g : G0.1 119 26 = nI n) (hr : ∀ k, k < n → C0.1 16 k = G0.1 119 (38 + 2 * k) ∧ C0.1 17 k = G0.1 119 (38 + 2 * k + 1) ∧ ep_Vp nl (G0.1 119 (38 + 2 * k)) (G0.1 119 (38 + 2 * k + 1))) : ∀ (d k f1 f2 : Nat) (C G : em_M), k + d = n → d < f1 → d < f2 → ep_Lq C0 G0 C G → (∀ k, k < 4 → C.1 80 k = G.1 119 k) → (∀ k, k < 3 → C.1 81 k = G.1 119 (4 + k) ∧ (G.1 119 (4 + k) = -5 ∨ ∃ l, l < nl ∧ G.1 119 (4 + k) = nI l)) → es_X12_ends_24 f2 G (nI j) (nI k) ∧ (et_X11_ends_27 f1 C (nI j) (nI k)).1 = (et_X12_ends_24 f2 G (nI j) (nI k)).1 ∧ ep_I φ D u nl (et_X11_ends_27 f1 C (nI j) (nI k)).2 (et_X12_ends_24 f2 G (nI j) (nI k)).2 := by
  intro d
  have n8 := h.ln.n8
  induction d with
  | zero =>
    intro k f1 f2 C G hk h1 h2 p va fu
    obtain ⟨f1, rfl⟩ : ∃ f, f1 = f + 1 := ⟨f1 - 1, by omega⟩
    obtain ⟨f2, rfl⟩ : ∃ f, f2 = f + 1 := ⟨f2 - 1, by omega⟩
    have e : nI n ≤ nI k := nI_le (by omega) (by omega)
    have c' : C.1 15 0 = nI n := by rw [p.c1 _ (by omega)]; exact c
    have g' : G.1 119 26 = nI n := by rw [p.kr _ (by omega) (by omega)]; exact g
    obtain ⟨e1, e2, e3, e4⟩ := em_copies (a := 120) (b := 119) (by omega) G
    rw [et_X11_ends_27, et_X12_ends_24, es_X12_ends_24]
    simp only [eq_c26, c', g', if_pos e, eq_m0]
    generalize et_X12_copies 120 5880 119 5880 G = G3 at e2 e3 e4 ⊢
    obtain ⟨k1, k2⟩ := ep_back p e2 e3 e4
    rw [nI_clamp (by omega), eq_atS _ (by omega) (by omega), va j hj]
    exact ⟨⟨fun _ => ⟨vp_in_nI (by omega) (by omega), e1, fun _ _ => trivial⟩, fun q => absurd e q⟩, rfl, ep_I_try h k1 k2⟩
  | succ d ih =>
    intro k f1 f2 C G hk h1 h2 p va fu
    obtain ⟨f1, rfl⟩ : ∃ f, f1 = f + 1 := ⟨f1 - 1, by omega⟩
    obtain ⟨f2, rfl⟩ : ∃ f, f2 = f + 1 := ⟨f2 - 1, by omega⟩
    have e : ¬ nI n ≤ nI k := nI_ge (by omega) (by omega)
    have c' : C.1 15 0 = nI n := by rw [p.c1 _ (by omega)]; exact c
    have g' : G.1 119 26 = nI n := by rw [p.kr _ (by omega) (by omega)]; exact g
    obtain ⟨q1, q2, q3⟩ := hr k (by omega)
    have r6 : et_X11_at 17 10 C (nI k) = G0.1 119 (38 + 2 * k + 1) := by rw [eq_atS _ (by omega) (by omega), p.c1 _ (by omega)]; exact q2
    have r7 : et_X11_at 16 10 C (nI k) = G0.1 119 (38 + 2 * k) := by rw [eq_atS _ (by omega) (by omega), p.c1 _ (by omega)]; exact q1
    have i1 : (38 : Int32) + 2 * nI k = nI (38 + 2 * k) := eq_mul2 38 k
    have m6 : G.1 119 (38 + 2 * k + 1) = G0.1 119 (38 + 2 * k + 1) := p.kr _ (by omega) (by omega)
    have m7 : G.1 119 (38 + 2 * k) = G0.1 119 (38 + 2 * k) := p.kr _ (by omega) (by omega)
    have c0 : (nI (38 + 2 * k)).toNatClampNeg = 38 + 2 * k := nI_clamp (by omega)
    have c1 : (nI (38 + 2 * k + 1)).toNatClampNeg = 38 + 2 * k + 1 := nI_clamp (by omega)
    have ih' := fun C' G' l va fu => ih (k + 1) f1 f2 C' G' (by omega) (by omega) (by omega) l va fu
    have v1 : vp_in (nI (38 + 2 * k)) 5880 := vp_in_nI (by omega) (by omega)
    have v2 : vp_in (nI (38 + 2 * k + 1)) 5880 := vp_in_nI (by omega) (by omega)
    rw [et_X11_ends_27, et_X12_ends_24, es_X12_ends_24]
    simp only [eq_c26, c', g', if_neg e, r6, r7, i1, nI_1, c0, c1, m6, m7]
    rcases q3 with ⟨w1, l, hl, w2⟩ | ⟨w1, l, hl, w2⟩ | ⟨w1, l, hl, w2⟩
    · rw [w1, w2]
      obtain ⟨t1, t2, t3⟩ := ep_try h.ln p (fun _ _ => rfl) rfl (fun _ _ => rfl) rfl (fun _ _ _ => rfl) va fu hl
      simp only [if_pos nI_0, if_pos (show nI 0 = (0 : Int32) from rfl)]
      generalize et_X11_tryOut C (nI l) = C2 at t2 t3 ⊢
      obtain ⟨j1, j2⟩ := ih' _ _ t3 t2.va t2.fu
      refine ⟨⟨fun q => absurd q e, fun _ => ⟨v2, v1, fun _ => ⟨t1, ?_⟩, fun q => absurd nI_0 q⟩⟩, j2⟩
      rintro _ rfl
      exact j1
    · rw [w1, w2]
      have lq : ep_Lq C0 G0 (em_pI C 80 l 0) (em_pI G 119 l 0) := ep_Lq.mk (fun o ho => by rw [ef_pI' _ _ _ _ (by omega)]; exact p.c1 o ho) (fun o ho => by rw [eq_pI2]; exact p.c2 o ho) (by rw [ef_pI' _ _ _ _ (by omega), ef_pI' _ _ _ _ (by omega)]; exact p.z) (fun o h1 h2 h3 => by rw [ef_pI' _ _ _ _ h1]; exact p.g1 o h1 h2 h3) (by rw [eq_pI2]; exact p.g2) (fun i a b => by rw [ef_pIk _ _ (by omega)]; exact p.kr i a b) (fun i hi => by rw [ef_pI' _ _ _ _ (by omega)]; exact p.g4 i hi)
      obtain ⟨j1, j2⟩ := ih' _ _ lq (fun i hi => by
        by_cases z : i = l
        · rw [ef_pIs _ _ z, ef_pIs _ _ z]
        · rw [ef_pIk _ _ z, ef_pIk _ _ z]; exact va i hi) (fun i hi => by rw [ef_pI' _ _ _ _ (by omega), ef_pIk _ _ (by omega)]; exact fu i hi)
      have n1 : ¬ nI 1 = (0 : Int32) := by decide
      simp only [if_neg n1, if_pos (show nI 1 = (1 : Int32) from rfl), eq_m0]
      rw [eq_putS _ (by omega) (by omega), nI_clamp (by omega)]
      refine ⟨⟨fun q => absurd q e, fun _ => ⟨v2, v1, fun q => absurd q n1, fun _ => ⟨v1, fun _ => ⟨vp_in_nI (by omega) (by omega), ?_⟩, fun q => absurd (show nI 1 = (1 : Int32) from rfl) q⟩⟩⟩, j2⟩
      rintro _ rfl
      exact j1
    · rw [w1, w2]
      have lq : ep_Lq C0 G0 (em_pI C 81 l (-5)) (em_pI G 119 (4 + l) (-5)) := ep_Lq.mk (fun o ho => by rw [ef_pI' _ _ _ _ (by omega)]; exact p.c1 o ho) (fun o ho => by rw [eq_pI2]; exact p.c2 o ho) (by rw [ef_pI' _ _ _ _ (by omega), ef_pI' _ _ _ _ (by omega)]; exact p.z) (fun o h1 h2 h3 => by rw [ef_pI' _ _ _ _ h1]; exact p.g1 o h1 h2 h3) (by rw [eq_pI2]; exact p.g2) (fun i a b => by rw [ef_pIk _ _ (by omega)]; exact p.kr i a b) (fun i hi => by rw [ef_pI' _ _ _ _ (by omega)]; exact p.g4 i hi)
      obtain ⟨j1, j2⟩ := ih' _ _ lq (fun i hi => by rw [ef_pI' _ _ _ _ (by omega), ef_pIk _ _ (by omega)]; exact va i hi) (fun i hi => by
        by_cases z : i = l
        · rw [ef_pIs _ _ z, ef_pIs _ _ (by omega)]; exact ⟨rfl, Or.inl rfl⟩
        · rw [ef_pIk _ _ z, ef_pIk _ _ (by omega)]; exact fu i hi)
      have n2 : ¬ nI 2 = (0 : Int32) := by decide
      have n1 : ¬ nI 2 = (1 : Int32) := by decide
      simp only [if_neg n2, if_neg n1, eq_m4]
      rw [eq_putS _ (by omega) (by omega), nI_clamp (by omega)]
      refine ⟨⟨fun q => absurd q e, fun _ => ⟨v2, v1, fun q => absurd q n2, fun _ => ⟨v1, fun q => absurd q n1, fun _ => ⟨vp_in_nI (by omega) (by omega), ?_⟩⟩⟩⟩, j2⟩
      rintro _ rfl
      exact j1
theorem pm_ends {φ D : Nat → Nat × Nat} {u nl : Nat} {C G : em_M} (h : ep_I φ D u nl C G) (name : Int32) : es_X12_ends G name ∧ (et_X11_ends C name).1 = (et_X12_ends G name).1 ∧ ∃ φ' D' u' nl', ep_I φ' D' u' nl' (et_X11_ends C name).2 (et_X12_ends G name).2 := by
  rw [es_X12_ends, et_X11_ends, et_X12_ends, eq_name, eq_nameC G C]
  by_cases p : et_X11_isName C name = 0
  · rw [if_pos p, if_pos p]
    exact ⟨fun r e => ⟨fun _ => trivial, fun q => absurd (e.symm.trans p) q⟩, rfl, φ, D, u, nl, h⟩
  · obtain ⟨j, hj, rfl⟩ := eq_nameN p
    rw [if_neg p, if_neg p]
    obtain ⟨n, n1, n2, n3, n4⟩ := h.rp
    obtain ⟨e1, e2, e3, e4⟩ := em_copies (a := 119) (b := 120) (by omega) G
    obtain ⟨x1, x2, x3, x4⟩ := ec_x10 C
    dsimp only
    generalize et_X12_copies 119 5880 120 5880 G = G1 at e2 e3 e4 ⊢
    generalize et_X10_copyFrom 79 21 C = C1 at x1 x2 x3 x4 ⊢
    have q := ep_Lq0 h (fun o ho => x3 o (by omega)) x4 e2 e3 e4
    rw [x3 15 (by omega), n2, nI_clamp (by omega)]
    obtain ⟨r1, r2, r3⟩ := ep_ends h hj n1 n2 n3 n4 n 0 (n + 1) 11 C1 G1 (by omega) (by omega) (by omega) q (fun k hk => by rw [e2 _ (by omega)]; exact (x1 k hk).trans (h.wd.va k hk)) (fun k hk => by rw [e2 _ (by omega)]; exact ⟨(x2 k hk).trans (h.wd.fu k hk).1, (h.wd.fu k hk).2⟩)
    refine ⟨fun r e => ⟨fun _ => trivial, fun _ => ⟨e1, ?_⟩⟩, r2, φ, D, u, nl, r3⟩
    rintro _ rfl
    exact r1
theorem pl_ends {M : em_M} (hI : ep_Inv M) (name : Int32) {r1 : Int64} {M1 : em_M} (e1 : et_X11_ends M name = (r1, M1)) : es_X12_ends M1 name ∧ ∀ (r2 : Int64) (M2 : em_M), et_X12_ends M1 name = (r2, M2) → r1 = r2 ∧ ep_Inv M2 :=
  ep_go hI (fun M => et_X11_ends M name) (fun M => et_X12_ends M name) (fun M => es_X12_ends M name) (fun _ _ _ _ _ _ h => pm_ends h name) (fun o h => ef1_X11_ends _ _ (by omega)) (fun o h => ef2_X11_ends _ _ (by omega)) (fun o h => ef1_X12_ends _ _ (by omega)) (fun o h => ef2_X12_ends _ _ (by omega)) e1
