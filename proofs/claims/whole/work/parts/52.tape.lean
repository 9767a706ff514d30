/-! tape, item -/
theorem ep_I_tpj {φ D : Nat → Nat × Nat} {u nl : Nat} {C C' G G' : em_M} (h : ep_I φ D u nl C G) {j s : Nat} (hj : j < 6) (hs : s ≤ 60) (c1 : ∀ o, o ≠ 106 + 2 * j → C'.1 o = C.1 o) (c10 : C'.1 (106 + 2 * j) 0 = G'.1 129 j) (c11 : C'.1 (106 + 2 * j) 1 = nI s) (c2 : ∀ o, o ≠ 107 + 2 * j → C'.2 o = C.2 o) (g1 : ∀ o, o < 129 → G'.1 o = G.1 o) (gs : ∀ i, i ≠ j → G'.1 129 i = G.1 129 i ∧ G'.1 130 i = G.1 130 i) (gz : G'.1 130 j = nI s) (gq : (G'.1 129 j = -1 ∧ s = 0) ∨ ∃ q, q ≤ 4 ∧ G'.1 129 j = nI q) (g2 : ∀ k, k < 60 * j ∨ 60 * j + 60 ≤ k → G'.2 131 k = G.2 131 k) (e : ∀ k, k < 60 → C'.2 (107 + 2 * j) k = G'.2 131 (60 * j + k)) : ep_I φ D u nl C' G' := by
  refine ep_I_tp h (fun o ho => c1 o (by omega)) (fun o ho => c2 o (by omega)) g1 (fun i hi => ?_)
  by_cases p : i = j
  · subst p
    exact ⟨s, hs, c10, c11, gz, gq, e⟩
  · exact ep_Tp_cg (c1 _ (by omega)) (c2 _ (by omega)) (gs i p).1 (gs i p).2 (fun k k1 k2 => g2 k (by omega)) (h.tp i hi)
theorem pm_item {φ D : Nat → Nat × Nat} {u nl : Nat} {C G : em_M} (h : ep_I φ D u nl C G) (tape i : Int32) (v : Int64) : es_X12_item G tape i v ∧ (et_X11_item C tape i v).1 = (et_X12_item G tape i v).1 ∧ ∃ φ' D' u' nl', ep_I φ' D' u' nl' (et_X11_item C tape i v).2 (et_X12_item G tape i v).2 := by
  rw [es_X12_item, et_X11_item, et_X12_item, eq_tin]
  have n1 : ¬ (1 : Int32) = 0 := by decide
  by_cases p1 : tape < 0
  · rw [if_pos p1, if_pos p1, if_pos rfl]
    exact ⟨fun r e => ⟨fun _ => trivial, fun q => absurd e.symm q⟩, rfl, φ, D, u, nl, h⟩
  by_cases p2 : 6 ≤ tape
  · rw [if_neg p1, if_neg p1, if_pos p2, if_pos p2, if_pos rfl]
    exact ⟨fun r e => ⟨fun _ => trivial, fun q => absurd e.symm q⟩, rfl, φ, D, u, nl, h⟩
  obtain ⟨j, hj, rfl, et⟩ := eq_tpN p1 p2
  obtain ⟨s, hs, t1, t2, t3, t4, t5⟩ := h.tp j hj
  rw [if_neg p1, if_neg p1, if_neg p2, if_neg p2, if_neg n1, et, t1, nI_clamp (by omega)]
  have vj : vp_in (nI j) 6 := vp_in_nI (by omega) (by omega)
  by_cases p3 : G.1 129 j = -1
  · rw [if_pos p3, if_pos p3]
    exact ⟨fun r e => ⟨fun _ => trivial, fun _ => ⟨vj, fun _ => trivial, fun q => absurd p3 q⟩⟩, rfl, φ, D, u, nl, h⟩
  rw [if_neg p3, if_neg p3, et_X8_has, t2, t3, eq_pin G i hs]
  by_cases p4 : i < 0
  · rw [if_pos p4, if_pos rfl]
    exact ⟨fun r e => ⟨fun _ => trivial, fun _ => ⟨vj, fun q => absurd q p3, fun _ => ⟨vj, fun r e => ⟨fun _ => trivial, fun q => absurd e.symm q⟩⟩⟩⟩, rfl, φ, D, u, nl, h⟩
  by_cases p5 : nI s ≤ i
  · rw [if_neg p4, if_pos p5, if_pos rfl]
    exact ⟨fun r e => ⟨fun _ => trivial, fun _ => ⟨vj, fun q => absurd q p3, fun _ => ⟨vj, fun r e => ⟨fun _ => trivial, fun q => absurd e.symm q⟩⟩⟩⟩, rfl, φ, D, u, nl, h⟩
  obtain ⟨k, hk, rfl⟩ := nI_of p4
  have ks : k < s := by rw [nI_leI (by omega) hk] at p5; omega
  have lb := eq_lowest (C := C) (G := G) v t1 (t4.resolve_left (fun z => p3 z.1))
  rw [if_neg p4, if_neg p5, if_neg n1, lb, eq_60, nI_clamp (by omega)]
  dsimp only
  rw [if_neg n1, eq_putS_ _ (by omega) (by omega)]
  refine ⟨fun r e => ⟨fun _ => trivial, fun _ => ⟨vj, fun q => absurd q p3, fun _ => ⟨vj, fun r e => ⟨fun _ => trivial, fun _ => ⟨vj, fun _ _ => ⟨vp_in_nI (by omega) (by omega), fun _ _ => trivial⟩⟩⟩⟩⟩⟩, rfl, φ, D, u, nl, ?_⟩
  refine ep_I_tpj h hj hs (fun o _ => by rw [eq_pL1]) (by rw [eq_pL1, eq_pL1]; exact t1) (by rw [eq_pL1]; exact t2) (fun o ho => by rw [ef_pL' _ _ _ _ (by omega)]) (fun o _ => by rw [eq_pL1]) (fun i _ => by rw [eq_pL1]; exact ⟨rfl, rfl⟩) (by rw [eq_pL1]; exact t3) (by rw [eq_pL1]; exact t4) (fun m hm => by rw [ef_pLk _ _ (by omega)]) (fun m hm => ?_)
  rw [show 107 + 2 * j = 106 + 2 * j + 1 by omega]
  by_cases q : m = k
  · rw [ef_pLs _ _ q, ef_pLs _ _ (by omega)]
  · rw [ef_pLk _ _ q, ef_pLk _ _ (by omega), show 106 + 2 * j + 1 = 107 + 2 * j by omega]; exact t5 m hm
theorem pl_item {M : em_M} (hI : ep_Inv M) (tape : Int32) (i : Int32) (v : Int64) {r1 : Int32} {M1 : em_M} (e1 : et_X11_item M tape i v = (r1, M1)) : es_X12_item M1 tape i v ∧ ∀ (r2 : Int32) (M2 : em_M), et_X12_item M1 tape i v = (r2, M2) → r1 = r2 ∧ ep_Inv M2 := by
  have fr : ∀ o, 117 < o → (et_X11_item M tape i v).2.1 o = M.1 o ∧ (et_X11_item M tape i v).2.2 o = M.2 o := by
    intro o ho
    rw [et_X11_item]
    by_cases p1 : tape < 0
    · rw [if_pos p1]; exact ⟨rfl, rfl⟩
    by_cases p2 : 6 ≤ tape
    · rw [if_neg p1, if_pos p2]; exact ⟨rfl, rfl⟩
    rw [if_neg p1, if_neg p2]
    obtain ⟨j, hj, rfl, et⟩ := eq_tpN p1 p2
    rw [et]
    by_cases p3 : M.1 (106 + 2 * j) 0 = -1
    · rw [if_pos p3]; exact ⟨rfl, rfl⟩
    rw [if_neg p3]
    dsimp only
    by_cases p4 : et_X8_has (106 + 2 * j) M i = 0
    · rw [if_pos p4]; exact ⟨rfl, rfl⟩
    rw [if_neg p4]
    exact ⟨by rw [ef_putL1], ef_putL (by omega)⟩
  exact ep_go hI (fun M => et_X11_item M tape i v) (fun M => et_X12_item M tape i v) (fun M => es_X12_item M tape i v) (fun _ _ _ _ _ _ h => pm_item h tape i v) (fun o h => (fr o h).1) (fun o h => (fr o h).2) (fun o h => ef1_X12_item _ _ _ _ (by omega)) (fun o h => ef2_X12_item _ _ _ _ (by omega)) e1
theorem ec_bec {t : Nat} : ∀ (d k fu : Nat) (M : em_M), k + d = 60 → d < fu → (et_X8_become_12 t fu M (nI k)).1 = M.1 ∧ (∀ o, o ≠ t + 1 → (et_X8_become_12 t fu M (nI k)).2 o = M.2 o) ∧ ∀ i, (et_X8_become_12 t fu M (nI k)).2 (t + 1) i = if k ≤ i ∧ i < 60 then 0 else M.2 (t + 1) i := by
  intro d
  induction d with
  | zero =>
    intro k fu M hk hf
    obtain ⟨fu, rfl⟩ : ∃ f, fu = f + 1 := ⟨fu - 1, by omega⟩
    have e : (60 : Int32) ≤ nI k := nI_le (a := 60) (by omega) (by omega)
    rw [et_X8_become_12, if_pos e]
    exact ⟨rfl, fun _ _ => rfl, fun i => (if_neg (by omega)).symm⟩
  | succ d ih =>
    intro k fu M hk hf
    obtain ⟨fu, rfl⟩ : ∃ f, fu = f + 1 := ⟨fu - 1, by omega⟩
    have e : ¬ (60 : Int32) ≤ nI k := nI_ge (b := 60) (by omega) (by omega)
    rw [et_X8_become_12, if_neg e, nI_clamp (by omega), nI_1]
    obtain ⟨i1, i2, i3⟩ := ih (k + 1) fu (em_pL M (t + 1) k 0) (by omega) (by omega)
    refine ⟨by rw [i1, eq_pL1], fun o ho => by rw [i2 o ho, ef_pL' _ _ _ _ ho], fun i => ?_⟩
    rw [i3 i]
    by_cases p : i = k
    · subst p
      rw [if_neg (by omega), if_pos (by omega), ef_pLs _ _ rfl]
    · by_cases q : k + 1 ≤ i ∧ i < 60
      · rw [if_pos q, if_pos (by omega)]
      · rw [if_neg q, if_neg (by omega), ef_pLk _ _ p]
theorem em_t80 {j : Nat} (hj : j < 6) : ∀ (d k fu : Nat) (M : em_M), k + d = 60 → d < fu → es_X12_tape_80 fu M (nI j) (nI k) ∧ (et_X12_tape_80 fu M (nI j) (nI k)).1 = 1 ∧ (et_X12_tape_80 fu M (nI j) (nI k)).2.1 = M.1 ∧ ∀ i, (et_X12_tape_80 fu M (nI j) (nI k)).2.2 131 i = if 60 * j + k ≤ i ∧ i < 60 * j + 60 then 0 else M.2 131 i := by
  intro d
  induction d with
  | zero =>
    intro k fu M hk hf
    obtain ⟨fu, rfl⟩ : ∃ f, fu = f + 1 := ⟨fu - 1, by omega⟩
    have e : (60 : Int32) ≤ nI k := nI_le (a := 60) (by omega) (by omega)
    rw [es_X12_tape_80, et_X12_tape_80, if_pos e]
    exact ⟨⟨fun _ => trivial, fun q => absurd e q⟩, rfl, rfl, fun i => (if_neg (by omega)).symm⟩
  | succ d ih =>
    intro k fu M hk hf
    obtain ⟨fu, rfl⟩ : ∃ f, fu = f + 1 := ⟨fu - 1, by omega⟩
    have e : ¬ (60 : Int32) ≤ nI k := nI_ge (b := 60) (by omega) (by omega)
    rw [es_X12_tape_80, et_X12_tape_80, if_neg e, eq_60, nI_clamp (by omega), nI_1]
    obtain ⟨i0, i1, i2, i3⟩ := ih (k + 1) fu (em_pL M 131 (60 * j + k) 0) (by omega) (by omega)
    refine ⟨⟨fun q => absurd q e, fun _ => ⟨vp_in_nI (by omega) (by omega), fun M' q => q ▸ i0⟩⟩, i1, by rw [i2, eq_pL1], fun i => ?_⟩
    rw [i3 i]
    by_cases p : i = 60 * j + k
    · subst p
      rw [if_neg (by omega), if_pos (by omega), ef_pLs _ _ rfl]
    · by_cases q : 60 * j + (k + 1) ≤ i ∧ i < 60 * j + 60
      · rw [if_pos q, if_pos (by omega)]
      · rw [if_neg q, if_neg (by omega), ef_pLk _ _ p]
theorem ep_tape {φ D : Nat → Nat × Nat} {u nl : Nat} {C G : em_M} (h : ep_I φ D u nl C G) {j s : Nat} (hj : j < 6) (hs : s ≤ 60) {sort : Int32} (hq : (sort = -1 ∧ s = 0) ∨ ∃ q, q ≤ 4 ∧ sort = nI q) : es_X12_tape_80 61 (em_pI (em_pI G 129 j sort) 130 j (nI s)) (nI j) 0 ∧ (et_X12_tape_80 61 (em_pI (em_pI G 129 j sort) 130 j (nI s)) (nI j) 0).1 = 1 ∧ ep_I φ D u nl (et_X8_become (106 + 2 * j) C sort (nI s)) (et_X12_tape_80 61 (em_pI (em_pI G 129 j sort) 130 j (nI s)) (nI j) 0).2 := by
  obtain ⟨b1, b2, b3⟩ := ec_bec (t := 106 + 2 * j) 60 0 61 (em_pI (em_pI C (106 + 2 * j) 0 sort) (106 + 2 * j) 1 (nI s)) (by omega) (by omega)
  obtain ⟨m0, m1, m2, m3⟩ := em_t80 hj 60 0 61 (em_pI (em_pI G 129 j sort) 130 j (nI s)) (by omega) (by omega)
  have z : (0 : Int32) = nI 0 := rfl
  have eb : et_X8_become (106 + 2 * j) C sort (nI s) = et_X8_become_12 (106 + 2 * j) 61 (em_pI (em_pI C (106 + 2 * j) 0 sort) (106 + 2 * j) 1 (nI s)) (nI 0) := by rw [et_X8_become, z]
  rw [eb, z]
  generalize et_X8_become_12 (106 + 2 * j) 61 (em_pI (em_pI C (106 + 2 * j) 0 sort) (106 + 2 * j) 1 (nI s)) (nI 0) = C' at b1 b2 b3 ⊢
  generalize et_X12_tape_80 61 (em_pI (em_pI G 129 j sort) 130 j (nI s)) (nI j) (nI 0) = R at m1 m2 m3 ⊢
  refine ⟨m0, m1, ep_I_tpj h hj hs (fun o ho => by rw [b1, ef_pI' _ _ _ _ ho, ef_pI' _ _ _ _ ho]) ?_ (by rw [b1, ef_pIs _ _ rfl]) (fun o ho => by rw [b2 o (by omega), eq_pI2, eq_pI2]) (fun o ho => by rw [m2, ef_pI' _ _ _ _ (by omega), ef_pI' _ _ _ _ (by omega)]) (fun i hi => ?_) (by rw [m2, ef_pIs _ _ rfl]) ?_ (fun k hk => by rw [m3, if_neg (by omega), eq_pI2, eq_pI2]) (fun k hk => ?_)⟩
  · rw [b1, m2, ef_pIk _ _ (by omega), ef_pIs _ _ rfl, ef_pI' _ _ _ _ (by omega), ef_pIs _ _ rfl]
  · rw [m2, ef_pI' _ _ _ _ (show 129 ≠ 130 by omega), ef_pIk _ _ hi, ef_pIk _ _ hi, ef_pI' _ _ _ _ (show 130 ≠ 129 by omega)]; exact ⟨rfl, rfl⟩
  · rw [m2, ef_pI' _ _ _ _ (show 129 ≠ 130 by omega), ef_pIs _ _ rfl]; exact hq
  · rw [show 107 + 2 * j = 106 + 2 * j + 1 by omega, b3, m3, if_pos (by omega), if_pos (by omega)]
theorem pm_tape {φ D : Nat → Nat × Nat} {u nl : Nat} {C G : em_M} (h : ep_I φ D u nl C G) (tape sort n : Int32) : es_X12_tape G tape sort n ∧ (et_X11_tape C tape sort n).1 = (et_X12_tape G tape sort n).1 ∧ ∃ φ' D' u' nl', ep_I φ' D' u' nl' (et_X11_tape C tape sort n).2 (et_X12_tape G tape sort n).2 := by
  rw [es_X12_tape, et_X11_tape, et_X12_tape, eq_tin, show et_X12_in G sort.toInt64 (-1 : Int64) (4 : Int64) = if sort < -1 then 0 else if 4 < sort then 0 else 1 from eq_in G sort (-1) 4]
  have n1 : ¬ (1 : Int32) = 0 := by decide
  by_cases p1 : tape < 0
  · rw [if_pos p1, if_pos p1, if_pos rfl]
    exact ⟨fun r e => ⟨fun _ => trivial, fun q => absurd e.symm q⟩, rfl, φ, D, u, nl, h⟩
  by_cases p2 : 6 ≤ tape
  · rw [if_neg p1, if_neg p1, if_pos p2, if_pos p2, if_pos rfl]
    exact ⟨fun r e => ⟨fun _ => trivial, fun q => absurd e.symm q⟩, rfl, φ, D, u, nl, h⟩
  obtain ⟨j, hj, rfl, et⟩ := eq_tpN p1 p2
  have vj : vp_in (nI j) 6 := vp_in_nI (by omega) (by omega)
  rw [if_neg p1, if_neg p1, if_neg p2, if_neg p2, if_neg n1, et, nI_clamp (by omega)]
  by_cases p3 : sort = -1
  · have tt := ep_tape h hj (s := 0) (by omega) (sort := sort) (Or.inl ⟨p3, rfl⟩)
    rw [nI_0] at tt
    obtain ⟨t1, t2, t3⟩ := tt
    have a1 : ¬ sort < -1 := by rw [p3]; decide
    have a2 : ¬ 4 < sort := by rw [p3]; decide
    dsimp only
    rw [if_pos p3, if_pos p3, if_neg a1, if_neg a2, if_neg n1]
    dsimp only
    refine ⟨fun r e => ⟨fun _ => trivial, fun _ r3 e3 => ⟨fun _ => trivial, fun _ => ⟨fun _ => ⟨vj, ?_⟩, fun q => absurd p3 q⟩⟩⟩, t2.symm, φ, D, u, nl, t3⟩
    rintro _ rfl
    refine ⟨vj, ?_⟩
    rintro _ rfl
    exact t1
  dsimp only
  rw [if_neg p3, if_neg p3]
  by_cases p4 : sort < 0
  · have a1 : sort < -1 := by
      rw [Int32.lt_iff_toInt_lt] at p4 ⊢
      rw [show (0 : Int32).toInt = 0 by decide] at p4
      rw [show (-1 : Int32).toInt = -1 by decide]
      have : sort.toInt ≠ -1 := fun q => p3 (Int32.toInt_inj.mp (by rw [q]; decide))
      omega
    rw [if_pos p4, if_pos a1, if_pos rfl]
    exact ⟨fun r e => ⟨fun _ => trivial, fun _ r3 e3 => ⟨fun _ => trivial, fun q => absurd e3.symm q⟩⟩, rfl, φ, D, u, nl, h⟩
  have a1 : ¬ sort < -1 := by
    rw [Int32.lt_iff_toInt_lt] at p4 ⊢
    rw [show (0 : Int32).toInt = 0 by decide] at p4
    rw [show (-1 : Int32).toInt = -1 by decide]
    omega
  rw [if_neg p4, if_neg a1]
  by_cases p5 : 4 < sort
  · rw [if_pos p5, if_pos p5, if_pos rfl]
    exact ⟨fun r e => ⟨fun _ => trivial, fun _ r3 e3 => ⟨fun _ => trivial, fun q => absurd e3.symm q⟩⟩, rfl, φ, D, u, nl, h⟩
  rw [if_neg p5, if_neg p5, if_neg n1]
  by_cases p6 : n ≤ 60
  · rw [if_pos p6, if_pos p6]
    by_cases p7 : 0 ≤ n
    · obtain ⟨s, hs, rfl⟩ := nI_of2 (M := 60) (n := 60) (by decide) (Int32.not_lt.mpr p7) p6
      obtain ⟨q, hq, rfl⟩ := nI_of2 (M := 4) (n := 4) (by decide) p4 (Int32.not_lt.mp p5)
      obtain ⟨t1, t2, t3⟩ := ep_tape h hj (s := s) hs (sort := nI q) (Or.inr ⟨q, hq, rfl⟩)
      rw [if_pos p7, if_pos p7]
      dsimp only
      refine ⟨fun r e => ⟨fun _ => trivial, fun _ r3 e3 => ⟨fun _ => trivial, fun _ => ⟨fun z => absurd z p3, fun _ => ⟨fun _ => ⟨fun _ => ⟨vj, ?_⟩, fun z => absurd p7 z⟩, fun z => absurd p6 z⟩⟩⟩⟩, t2.symm, φ, D, u, nl, t3⟩
      rintro _ rfl
      refine ⟨vj, ?_⟩
      rintro _ rfl
      exact t1
    · rw [if_neg p7, if_neg p7]
      exact ⟨fun r e => ⟨fun _ => trivial, fun _ r3 e3 => ⟨fun _ => trivial, fun _ => ⟨fun z => absurd z p3, fun _ => ⟨fun _ => ⟨fun z => absurd z p7, fun _ => trivial⟩, fun z => absurd p6 z⟩⟩⟩⟩, rfl, φ, D, u, nl, h⟩
  · rw [if_neg p6, if_neg p6]
    exact ⟨fun r e => ⟨fun _ => trivial, fun _ r3 e3 => ⟨fun _ => trivial, fun _ => ⟨fun z => absurd z p3, fun _ => ⟨fun z => absurd z p6, fun _ => trivial⟩⟩⟩⟩, rfl, φ, D, u, nl, h⟩
theorem pl_tape {M : em_M} (hI : ep_Inv M) (tape : Int32) (sort : Int32) (n : Int32) {r1 : Int32} {M1 : em_M} (e1 : et_X11_tape M tape sort n = (r1, M1)) : es_X12_tape M1 tape sort n ∧ ∀ (r2 : Int32) (M2 : em_M), et_X12_tape M1 tape sort n = (r2, M2) → r1 = r2 ∧ ep_Inv M2 := by
  have fr : ∀ o, 117 < o → (et_X11_tape M tape sort n).2.1 o = M.1 o ∧ (et_X11_tape M tape sort n).2.2 o = M.2 o := by
    intro o ho
    rw [et_X11_tape]
    by_cases p1 : tape < 0
    · rw [if_pos p1]; exact ⟨rfl, rfl⟩
    by_cases p2 : 6 ≤ tape
    · rw [if_neg p1, if_pos p2]; exact ⟨rfl, rfl⟩
    rw [if_neg p1, if_neg p2]
    obtain ⟨j, hj, rfl, et⟩ := eq_tpN p1 p2
    rw [et]
    by_cases p3 : sort = -1
    · rw [if_pos p3]; dsimp only; exact ⟨ef1_X8_become _ _ _ _ (by omega), ef2_X8_become _ _ _ _ (by omega)⟩
    rw [if_neg p3]
    by_cases p4 : sort < 0
    · rw [if_pos p4]; exact ⟨rfl, rfl⟩
    rw [if_neg p4]
    by_cases p5 : 4 < sort
    · rw [if_pos p5]; exact ⟨rfl, rfl⟩
    rw [if_neg p5]
    by_cases p6 : n ≤ 60
    · rw [if_pos p6]
      by_cases p7 : 0 ≤ n
      · rw [if_pos p7]; dsimp only; exact ⟨ef1_X8_become _ _ _ _ (by omega), ef2_X8_become _ _ _ _ (by omega)⟩
      · rw [if_neg p7]; exact ⟨rfl, rfl⟩
    · rw [if_neg p6]; exact ⟨rfl, rfl⟩
  exact ep_go hI (fun M => et_X11_tape M tape sort n) (fun M => et_X12_tape M tape sort n) (fun M => es_X12_tape M tape sort n) (fun _ _ _ _ _ _ h => pm_tape h tape sort n) (fun o h => (fr o h).1) (fun o h => (fr o h).2) (fun o h => ef1_X12_tape _ _ _ _ (by omega)) (fun o h => ef2_X12_tape _ _ _ _ (by omega)) e1
