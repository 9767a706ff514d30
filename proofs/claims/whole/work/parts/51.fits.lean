/-! FITS -/
theorem ep_shows2 {C G : em_M} {n z : Nat} (n5 : n ≤ 5) (c : C.1 12 0 = nI n) (g : G.1 119 25 = nI n) (hr : ∀ k, k < n → C.1 (12 + 1) k = G.1 119 (28 + 2 * k) ∧ C.1 (12 + 2) k = G.1 119 (28 + 2 * k + 1) ∧ ep_Vs (G.1 119 (28 + 2 * k)) (G.1 119 (28 + 2 * k + 1))) (z1 : z ≤ 40) (z2 : C.1 83 3 = nI z) (z3 : G.1 119 12 = nI z) (z4 : ∀ k, k < z → C.1 (83 + 1) k = G.1 119 (74 + k)) : ∀ (d k f1 f2 : Nat), k + d = n → d < f1 → d < f2 → es_X12_isSeen_2 f2 G (nI k) ∧ et_X4_shows_2 83 12 f1 C (nI k) = et_X12_isSeen_2 f2 G (nI k) := by
  intro d
  induction d with
  | zero =>
    intro k f1 f2 hk h1 h2
    obtain ⟨f1, rfl⟩ : ∃ f, f1 = f + 1 := ⟨f1 - 1, by omega⟩
    obtain ⟨f2, rfl⟩ : ∃ f, f2 = f + 1 := ⟨f2 - 1, by omega⟩
    have e : nI n ≤ nI k := nI_le (by omega) (by omega)
    rw [et_X4_shows_2, et_X12_isSeen_2, es_X12_isSeen_2, eq_c25, c, g, if_pos e, if_pos e]
    exact ⟨⟨fun _ => trivial, fun q => absurd e q⟩, rfl⟩
  | succ d ih =>
    intro k f1 f2 hk h1 h2
    obtain ⟨f1, rfl⟩ : ∃ f, f1 = f + 1 := ⟨f1 - 1, by omega⟩
    obtain ⟨f2, rfl⟩ : ∃ f, f2 = f + 1 := ⟨f2 - 1, by omega⟩
    obtain ⟨q1, q2, pl, hp, q3⟩ := hr k (by omega)
    have e : ¬ nI n ≤ nI k := nI_ge (by omega) (by omega)
    obtain ⟨i1, i2⟩ := ih (k + 1) f1 f2 (by omega) (by omega) (by omega)
    have e1 : (28 : Int32) + 2 * nI k = nI (28 + 2 * k) := eq_mul2 28 k
    have v1 : vp_in (nI (28 + 2 * k)) 5880 := vp_in_nI (by omega) (by omega)
    have v2 : vp_in (nI (28 + 2 * k + 1)) 5880 := vp_in_nI (by omega) (by omega)
    rw [et_X4_shows_2, et_X12_isSeen_2, es_X12_isSeen_2]
    simp only [eq_c25, eq_c12, c, g, z2, z3, if_neg e, e1, nI_1]
    rw [nI_clamp (show 28 + 2 * k < 2 ^ 31 by omega), nI_clamp (show 28 + 2 * k + 1 < 2 ^ 31 by omega), eq_atS (a := 12 + 1) _ (by omega) (by omega), eq_atS (a := 12 + 2) _ (by omega) (by omega), q1, q2, q3]
    by_cases s : z ≤ pl
    · have s' : nI z ≤ nI pl := nI_le s (by omega)
      rw [if_pos s', if_pos s']
      exact ⟨⟨fun q => absurd q e, fun _ => ⟨v1, fun _ => trivial, fun q => absurd s' q⟩⟩, rfl⟩
    · have s' : ¬ nI z ≤ nI pl := nI_ge (by omega) (by omega)
      rw [if_neg s', if_neg s', eq_m74, nI_clamp (show 74 + pl < 2 ^ 31 by omega), eq_atS (a := 83 + 1) _ (by omega) (by omega), z4 pl (by omega)]
      have v3 : vp_in (nI (74 + pl)) 5880 := vp_in_nI (by omega) (by omega)
      rw [i2]
      exact ⟨⟨fun q => absurd q e, fun _ => ⟨v1, fun q => absurd q s', fun _ => ⟨v3, v2, fun _ => i1, fun _ => trivial⟩⟩⟩, rfl⟩
theorem ep_seen {φ D : Nat → Nat × Nat} {u nl : Nat} {C0 G0 C G : em_M} (h : ep_I φ D u nl C0 G0) (p : ep_Lq C0 G0 C G) (w : ep_Wd φ u nl 79 119 C G) : es_X12_isSeen G ∧ et_X4_shows 83 12 C = et_X12_isSeen G := by
  obtain ⟨n, n1, n2, n3, n4⟩ := h.rs
  obtain ⟨z, z1, z2, z3, z4⟩ := w.sz
  have c : C.1 12 0 = nI n := by rw [p.c1 _ (by omega)]; exact n2
  have g : G.1 119 25 = nI n := by rw [p.kr _ (by omega) (by omega)]; exact n3
  rw [es_X12_isSeen, et_X4_shows, et_X12_isSeen, c, nI_clamp (by omega)]
  exact ep_shows2 n1 c g (fun k hk => by
    rw [p.c1 (12 + 1) (by omega), p.c1 (12 + 2) (by omega), p.kr _ (by omega) (by omega), p.kr _ (by omega) (by omega)]; exact n4 k hk) z1 z2 z3 z4 n 0 (n + 1) 7 (by omega) (by omega) (by omega)
/-- a thought with a NAME's VALUE told -/
theorem ep_fit1 {φ D : Nat → Nat × Nat} {u nl : Nat} {C0 G0 C G : em_M} (h : ep_I φ D u nl C0 G0) (p : ep_Lq C0 G0 C G) (g3 : ∀ k, k < 5880 → G.1 119 k = G0.1 119 k) {j l : Nat} (hj : j < 4) (hl : l < nl) (v : Int32) : es_X12_runs (em_pI G 119 j v) (nI l) ∧ ep_Wd φ u nl 79 119 (et_X11_tryWith C (nI l) (nI j) v) (et_X12_runs (em_pI G 119 j v) (nI l)) ∧ ep_Lq C0 G0 (et_X11_tryWith C (nI l) (nI j) v) (et_X12_runs (em_pI G 119 j v) (nI l)) := by
  obtain ⟨x1, x2, x3, x4⟩ := ec_x10 C
  have e : et_X11_tryWith C (nI l) (nI j) v = et_X11_tryOut (em_pI (et_X10_copyFrom 79 21 C) 80 j v) (nI l) := by
    rw [et_X11_tryWith, et_X11_tryOut, eq_putS _ (by omega) (by omega)]
  rw [e]
  generalize et_X10_copyFrom 79 21 C = C1 at x1 x2 x3 x4 ⊢
  refine ep_try h.ln p (fun o ho => by rw [ef_pI' _ _ _ _ (by omega)]; exact x3 o (by omega)) (by rw [eq_pI2]; exact x4) (fun o ho => ef_pI' _ _ _ _ ho) (eq_pI2 _ _ _ _) (fun k _ _ => ef_pIk _ _ (by omega)) (fun k hk => ?_) (fun k hk => ?_) hl
  · by_cases z : k = j
    · rw [ef_pIs _ _ z, ef_pIs _ _ z]
    · rw [ef_pIk _ _ z, ef_pIk _ _ z, g3 _ (by omega)]
      refine (x1 k hk).trans ?_
      rw [p.c1 _ (by omega)]; exact h.wd.va k hk
  · rw [ef_pI' _ _ _ _ (by omega), ef_pIk _ _ (by omega), g3 _ (by omega)]
    have q := h.wd.fu k hk
    refine ⟨(x2 k hk).trans ?_, q.2⟩
    rw [p.c1 _ (by omega)]; exact q.1
def ep_cU (F : Nat → Int32) : Nat → Nat
  | 0 => 0
  | n + 1 => ep_cU F n + if F n = 0 then 0 else 1
def ep_lU (F : Nat → Int32) : Nat → Int32
  | 0 => -5
  | n + 1 => if ep_lU F n = -5 then (if F n = 0 then -5 else nI n) else ep_lU F n
theorem ep_fitsC {φ D : Nat → Nat × Nat} {u nl : Nat} {C0 G0 Gs : em_M} (h : ep_I φ D u nl C0 G0) (g3 : ∀ k, k < 5880 → Gs.1 119 k = G0.1 119 k) {j l : Nat} (hj : j < 4) (hl : l < nl) (what : Int32) {F : Nat → Int32} (hF : F = fun v => et_X12_isSeen (et_X12_runs (em_pI Gs 119 j (nI v)) (nI l))) : ∀ (d v fu : Nat) (C : em_M), v + d = 20 → d < fu → ep_Lq C0 G0 C Gs → ∃ C', et_X11_fits_39 fu C (nI l) (nI j) what (nI (ep_cU F v)) (ep_lU F v) (nI v) = (if what = 0 then nI (ep_cU F 20) else ep_lU F 20, C') ∧ ep_Lq C0 G0 C' Gs := by
  intro d
  induction d with
  | zero =>
    intro v fu C hv hf p
    obtain ⟨fu, rfl⟩ : ∃ f, fu = f + 1 := ⟨fu - 1, by omega⟩
    have e : v = 20 := by omega
    subst e
    rw [et_X11_fits_39, if_pos (show (20 : Int32) ≤ nI 20 by decide)]
    refine ⟨C, ?_, p⟩
    by_cases w : what = 0
    · rw [if_pos w, if_pos w]
    · rw [if_neg w, if_neg w]
  | succ d ih =>
    intro v fu C hv hf p
    obtain ⟨fu, rfl⟩ : ∃ f, fu = f + 1 := ⟨fu - 1, by omega⟩
    have e : ¬ (20 : Int32) ≤ nI v := nI_ge (b := 20) (by omega) (by omega)
    obtain ⟨-, t2, t3⟩ := ep_fit1 h p g3 hj hl (nI v)
    obtain ⟨-, s⟩ := ep_seen h t3 t2
    have s' : et_X4_shows 83 12 (et_X11_tryWith C (nI l) (nI j) (nI v)) = F v := by rw [s, hF]
    have lq : ep_Lq C0 G0 (et_X11_tryWith C (nI l) (nI j) (nI v)) Gs := ep_Lq.mk t3.c1 t3.c2 t3.z p.g1 p.g2 p.kr p.g4
    rw [et_X11_fits_39, if_neg e]
    simp only [s', nI_1]
    generalize et_X11_tryWith C (nI l) (nI j) (nI v) = C2 at lq ⊢
    have i := ih (v + 1) fu C2 (by omega) (by omega) lq
    rw [ep_cU, ep_lU] at i
    by_cases f : F v = 0
    · rw [if_pos f, if_pos f, Nat.add_zero] at i
      rw [if_pos f]
      by_cases q : ep_lU F v = -5
      · rw [if_pos q] at i; rw [q]; exact i
      · rw [if_neg q] at i; exact i
    · rw [if_neg f, if_neg f] at i
      rw [if_neg f]
      by_cases q : ep_lU F v = -5
      · rw [if_pos q] at i; rw [if_pos q]; exact i
      · rw [if_neg q] at i; rw [if_neg q]; exact i
theorem ep_fitsG {φ D : Nat → Nat × Nat} {u nl : Nat} {C0 G0 Cs Gs : em_M} (h : ep_I φ D u nl C0 G0) (ps : ep_Lq C0 G0 Cs Gs) (gs : ∀ k, k < 5880 → Gs.1 119 k = G0.1 119 k) {j l : Nat} (hj : j < 4) (hl : l < nl) (what : Int32) {F : Nat → Int32} (hF : F = fun v => et_X12_isSeen (et_X12_runs (em_pI Gs 119 j (nI v)) (nI l))) : ∀ (m fu n : Nat) (least : Int32) (G : em_M), m ≤ 20 → m < fu → ep_Lq C0 G0 Cs G → (∀ k, k < 5880 → G.1 119 k = G0.1 119 k) → es_X12_fits_49 fu G (nI l) (nI j) what (nI n) least (nI m - 1) ∧ ∃ G', et_X12_fits_49 fu G (nI l) (nI j) what (nI n) least (nI m - 1) = (if what = 0 then nI (n + ep_cU F m) else (if ep_lU F m = -5 then least else ep_lU F m), G') ∧ ep_Lq C0 G0 Cs G' ∧ (∀ k, k < 5880 → G'.1 119 k = G0.1 119 k) := by
  intro m
  induction m with
  | zero =>
    intro fu n least G hm hf p g3
    obtain ⟨fu, rfl⟩ : ∃ f, fu = f + 1 := ⟨fu - 1, by omega⟩
    rw [es_X12_fits_49, et_X12_fits_49, eq_q0, if_pos eq_neg]
    refine ⟨⟨fun _ => ⟨fun _ => trivial, fun _ => trivial⟩, fun q => absurd eq_neg q⟩, G, ?_, p, g3⟩
    rw [ep_cU, ep_lU, if_pos rfl, Nat.add_zero]
    by_cases w : what = 0
    · rw [if_pos w, if_pos w]
    · rw [if_neg w, if_neg w]
  | succ m ih =>
    intro fu n least G hm hf p g3
    obtain ⟨fu, rfl⟩ : ∃ f, fu = f + 1 := ⟨fu - 1, by omega⟩
    have e : ¬ nI m < 0 := nI_pos (by omega)
    obtain ⟨t1, t2, t3⟩ := ep_fit1 h p g3 hj hl (nI m)
    obtain ⟨-, t2', t3'⟩ := ep_fit1 h ps gs hj hl (nI m)
    obtain ⟨s1, s2⟩ := ep_seen h t3 t2
    obtain ⟨-, s2'⟩ := ep_seen h t3' t2'
    have s' : et_X12_isSeen (et_X12_runs (em_pI G 119 j (nI m)) (nI l)) = F m := by rw [← s2, s2', hF]
    have lq : ep_Lq C0 G0 Cs (et_X12_runs (em_pI G 119 j (nI m)) (nI l)) := ep_Lq.mk p.c1 p.c2 p.z t3.g1 t3.g2 t3.kr t3.g4
    obtain ⟨e1, e2, e3, e4⟩ := em_copies (a := 120) (b := 119) (by omega) (et_X12_runs (em_pI G 119 j (nI m)) (nI l))
    obtain ⟨k1, k2⟩ := ep_back lq e2 e3 e4
    have sub : nI m + (-1 : Int32) = nI m - 1 := (Int32.sub_eq_add_neg _ _).symm
    have i := fun n least => ih fu n least _ (by omega) (by omega) k1 k2
    rw [es_X12_fits_49, et_X12_fits_49, eq_q1, if_neg e]
    simp only [eq_m0, nI_clamp (show j < 2 ^ 31 by omega), s', sub, nI_1]
    by_cases f : F m = 0
    · obtain ⟨i1, i2⟩ := i n least
      refine ⟨⟨fun q => absurd q e, fun _ => ⟨vp_in_nI (by omega) (by omega), ?_⟩⟩, ?_⟩
      · rintro _ rfl
        refine ⟨t1, ?_⟩
        rintro _ rfl
        refine ⟨s1, fun r er => ⟨fun _ => ⟨e1, ?_⟩, fun q => absurd (er.symm.trans (s'.trans f)) q⟩⟩
        rintro _ rfl
        exact i1
      · rw [if_pos f, ep_cU, ep_lU, if_pos f, if_pos f, Nat.add_zero]
        by_cases q : ep_lU F m = -5
        · rw [if_pos q] at i2 ⊢; simpa using i2
        · rw [if_neg q] at i2; rw [if_neg q, if_neg q]; exact i2
    · obtain ⟨i1, i2⟩ := i (n + 1) (nI m)
      refine ⟨⟨fun q => absurd q e, fun _ => ⟨vp_in_nI (by omega) (by omega), ?_⟩⟩, ?_⟩
      · rintro _ rfl
        refine ⟨t1, ?_⟩
        rintro _ rfl
        refine ⟨s1, fun r er => ⟨fun q => absurd ((s'.symm.trans er).trans q) f, fun _ => ⟨e1, ?_⟩⟩⟩
        rintro _ rfl
        exact i1
      · rw [if_neg f, ep_cU, ep_lU, if_neg f, if_neg f]
        have nm : ¬ nI m = -5 := fun q => absurd (show nI m < 0 by rw [q]; decide) e
        rw [show n + (ep_cU F m + 1) = n + 1 + ep_cU F m by omega]
        by_cases q : ep_lU F m = -5
        · rw [if_pos q] at i2; rw [if_pos q, if_neg nm]; exact i2
        · rw [if_neg q] at i2; rw [if_neg q, if_neg q]; exact i2
theorem pm_fits {φ D : Nat → Nat × Nat} {u nl : Nat} {C G : em_M} (h : ep_I φ D u nl C G) (line name what : Int32) : es_X12_fits G line name what ∧ (et_X11_fits C line name what).1 = (et_X12_fits G line name what).1 ∧ ∃ φ' D' u' nl', ep_I φ' D' u' nl' (et_X11_fits C line name what).2 (et_X12_fits G line name what).2 := by
  have ll : et_X12_isLine G line = et_X2_has C line := eq_line h.ln line
  rw [es_X12_fits, et_X11_fits, et_X12_fits, ll, eq_name, eq_nameC G C, show et_X12_in G what.toInt64 (0 : Int64) (1 : Int64) = if what < 0 then 0 else if 1 < what then 0 else 1 from eq_in G what 0 1]
  by_cases p : et_X2_has C line = 0
  · rw [if_pos p, if_pos p]
    exact ⟨fun r e => ⟨fun _ => trivial, fun q => absurd (e.symm.trans p) q⟩, rfl, φ, D, u, nl, h⟩
  rw [if_neg p, if_neg p]
  by_cases q : et_X11_isName C name = 0
  · dsimp only
    rw [if_pos q, if_pos q]
    exact ⟨fun r e => ⟨fun _ => trivial, fun _ r3 e3 => ⟨fun _ => trivial, fun z => absurd (e3.symm.trans q) z⟩⟩, rfl, φ, D, u, nl, h⟩
  dsimp only
  rw [if_neg q, if_neg q]
  by_cases w1 : what < 0
  · rw [if_pos w1, if_pos w1, if_pos rfl]
    exact ⟨fun r e => ⟨fun _ => trivial, fun _ r3 e3 => ⟨fun _ => trivial, fun _ r5 e5 => ⟨fun _ => trivial, fun z => absurd e5.symm z⟩⟩⟩, rfl, φ, D, u, nl, h⟩
  by_cases w2 : what ≤ 1
  · have w3 : ¬ 1 < what := Int32.not_lt.mpr w2
    have n1 : ¬ (1 : Int32) = 0 := by decide
    rw [if_neg w1, if_neg w1, if_pos w2, if_neg w3, if_neg n1]
    obtain ⟨l, hl, rfl⟩ := eq_lineN h.ln p
    obtain ⟨j, hj, rfl⟩ := eq_nameN q
    obtain ⟨e1, e2, e3, e4⟩ := em_copies (a := 119) (b := 120) (by omega) G
    generalize et_X12_copies 119 5880 120 5880 G = G1 at e2 e3 e4 ⊢
    have lq := ep_Lq0 h (C1 := C) (fun _ _ => rfl) rfl e2 e3 e4
    have g3 : ∀ k, k < 5880 → G1.1 119 k = G.1 119 k := fun k _ => by rw [e2 _ (by omega)]
    obtain ⟨C', c1, c2⟩ := ep_fitsC h g3 hj hl what (F := fun v => et_X12_isSeen (et_X12_runs (em_pI G1 119 j (nI v)) (nI l))) rfl 20 0 21 C (by omega) (by omega) lq
    obtain ⟨d1, G', d2, d3, d4⟩ := ep_fitsG h lq g3 hj hl what (F := fun v => et_X12_isSeen (et_X12_runs (em_pI G1 119 j (nI v)) (nI l))) rfl 20 21 0 (-5) G1 (by omega) (by omega) lq g3
    have c1' : et_X11_fits_39 21 C (nI l) (nI j) what 0 (-5) 0 = _ := c1
    have d1' : es_X12_fits_49 21 G1 (nI l) (nI j) what 0 (-5) 19 := d1
    have d2' : et_X12_fits_49 21 G1 (nI l) (nI j) what 0 (-5) 19 = _ := d2
    rw [c1', d2']
    refine ⟨fun r e => ⟨fun _ => trivial, fun _ r3 e3 => ⟨fun _ => trivial, fun _ r5 e5 => ⟨fun _ => trivial, fun _ => ⟨e1, ?_⟩⟩⟩⟩, ?_, φ, D, u, nl, ?_⟩
    · rintro _ rfl
      exact d1'
    · dsimp only
      by_cases w : what = 0
      · rw [if_pos w, if_pos w, Nat.zero_add]
      · rw [if_neg w, if_neg w]
        by_cases z : ep_lU (fun v => et_X12_isSeen (et_X12_runs (em_pI G1 119 j (nI v)) (nI l))) 20 = -5
        · rw [if_pos z, z]
        · rw [if_neg z]
    · exact ep_I_try h (ep_Lq.mk c2.c1 c2.c2 c2.z d3.g1 d3.g2 d3.kr d3.g4) d4
  · have w3 : 1 < what := Int32.not_le.mp w2
    rw [if_neg w1, if_neg w1, if_neg w2, if_pos w3, if_pos rfl]
    exact ⟨fun r e => ⟨fun _ => trivial, fun _ r3 e3 => ⟨fun _ => trivial, fun _ r5 e5 => ⟨fun _ => trivial, fun z => absurd e5.symm z⟩⟩⟩, rfl, φ, D, u, nl, h⟩
theorem pl_fits {M : em_M} (hI : ep_Inv M) (line : Int32) (name : Int32) (what : Int32) {r1 : Int32} {M1 : em_M} (e1 : et_X11_fits M line name what = (r1, M1)) : es_X12_fits M1 line name what ∧ ∀ (r2 : Int32) (M2 : em_M), et_X12_fits M1 line name what = (r2, M2) → r1 = r2 ∧ ep_Inv M2 :=
  ep_go hI (fun M => et_X11_fits M line name what) (fun M => et_X12_fits M line name what) (fun M => es_X12_fits M line name what) (fun _ _ _ _ _ _ h => pm_fits h line name what) (fun o h => ef1_X11_fits _ _ _ _ (by omega)) (fun o h => ef2_X11_fits _ _ _ _ (by omega)) (fun o h => ef1_X12_fits _ _ _ _ (by omega)) (fun o h => ef2_X12_fits _ _ _ _ (by omega)) e1
