/-! the next WINDER on the way, and a WINDER comes -/
theorem ep_nx0 {φ : Nat → Nat × Nat} {u : Nat} {H : ep_H} {w g : Nat} {C G : em_M} (h : ep_Tb φ u H w g C G) {row : Nat} : ∀ m x, x ≤ H.nw → H.hw x ≤ H.hw row → ep_nx H.bw row m x = 0 := by
  intro m
  induction m with
  | zero => intro x _ _; rfl
  | succ m ih =>
    intro x hx hh
    rw [ep_nx]
    cases x with
    | zero => rfl
    | succ v =>
      obtain ⟨b1, b2, -⟩ := h.wb v (by omega)
      have e : ¬ H.bw (v + 1) = row := fun e => by rw [e] at b2; omega
      rw [if_neg (by omega), if_neg e]
      exact ih _ (by omega) (by omega)
theorem ec_next15 {φ : Nat → Nat × Nat} {u : Nat} {H : ep_H} {w g : Nat} {C G : em_M} (h : ep_Tb φ u H w g C G) (h3 : H.nw ≤ 300) {row : Nat} (hr : row ≤ H.nw) (hrh : H.hw row ≤ 300) (kk : Int32) : ∀ x, x ≤ H.nw → ∀ (fu m : Nat) (k : Int32), x ≤ m → H.hw x < fu + H.hw row → 0 < fu → k.toInt = (H.hw x : Int) - H.hw row → et_X9_next_15 w fu C (nI row) kk (nI x) k = nI (ep_nx H.bw row m x) := by
  intro x
  induction x using Nat.strongRecOn with
  | ind x ih =>
    intro hx fu m k hm hf f0 hk
    obtain ⟨fu, rfl⟩ : ∃ f, fu = f + 1 := ⟨fu - 1, by omega⟩
    rw [et_X9_next_15]
    cases x with
    | zero =>
      have p : k ≤ 1 := by rw [Int32.le_iff_toInt_le, hk, h.wh0.1]; show _ ≤ (1 : Int); omega
      rw [if_pos p, if_pos nI_0]
      cases m with
      | zero => rfl
      | succ m => rfl
    | succ v =>
      obtain ⟨b1, b2, b3, b4, -, -⟩ := h.wb v (by omega)
      obtain ⟨m, rfl⟩ : ∃ f, m = f + 1 := ⟨m - 1, by omega⟩
      have e0 : et_X9_below w C (nI (v + 1)) = nI (H.bw (v + 1)) := by rw [et_X9_below, eq_atS _ (by omega) (by omega), b4]
      rw [e0, ep_nx, if_neg (show ¬ v + 1 = 0 by omega)]
      by_cases p : k ≤ 1
      · have p' : H.hw (v + 1) ≤ H.hw row + 1 := by
          rw [Int32.le_iff_toInt_le, hk] at p
          have p : (H.hw (v + 1) : Int) - H.hw row ≤ 1 := p
          omega
        rw [if_pos p, if_neg (nI_ne0 (by omega) (by omega))]
        by_cases e : H.bw (v + 1) = row
        · rw [e, if_pos rfl, if_pos rfl]
        · have e' : ¬ nI (H.bw (v + 1)) = nI row := fun q => e ((nI_eq (by omega) (by omega)).mp q)
          simp only [if_neg e', if_neg e]
          rw [ep_nx0 h _ _ (by omega) (by omega)]
          rfl
      · have p' : H.hw row + 1 < H.hw (v + 1) := by
          rw [Int32.le_iff_toInt_le, hk] at p
          have p : ¬ (H.hw (v + 1) : Int) - H.hw row ≤ 1 := p
          omega
        have e : ¬ H.bw (v + 1) = row := fun e => by rw [e] at b2; omega
        rw [if_neg p, if_neg e]
        refine ih _ (by omega) (by omega) fu m _ (by omega) (by omega) (by omega) ?_
        rw [Int32.toInt_add, hk, show (-1 : Int32).toInt = -1 by decide, b2]
        rw [Int.bmod_eq_of_le (by omega) (by omega)]
        omega
theorem ep_hw_le {φ : Nat → Nat × Nat} {u : Nat} {H : ep_H} {w g : Nat} {C G : em_M} (h : ep_Tb φ u H w g C G) {x : Nat} (hx : x ≤ H.nw) : H.hw x ≤ x ∧ C.1 (w + 19) x = nI (H.hw x) := by
  cases x with
  | zero => rw [h.wh0.1, h.wh0.2]; exact ⟨by omega, rfl⟩
  | succ v => exact ⟨(h.wb v (by omega)).2.2.1, (h.wb v (by omega)).2.2.2.2.1⟩
theorem ec_next {φ : Nat → Nat × Nat} {u : Nat} {H : ep_H} {w g : Nat} {C G : em_M} (h : ep_Tb φ u H w g C G) (h3 : H.nw ≤ 300) {row kept : Nat} (hr : row ≤ H.nw) (hk : kept ≤ H.nw) : et_X9_next w C (nI row) (nI kept) = nI (ep_nx H.bw row kept kept) := by
  obtain ⟨r1, r2⟩ := ep_hw_le h hr
  obtain ⟨k1, k2⟩ := ep_hw_le h hk
  rw [et_X9_next, et_X9_height, et_X9_height, eq_atS _ (by omega) (by omega), eq_atS _ (by omega) (by omega), r2, k2]
  have e : (nI (H.hw kept) - nI (H.hw row)).toInt = (H.hw kept : Int) - H.hw row := by
    rw [Int32.toInt_sub, nI_toInt (by omega), nI_toInt (by omega), Int.bmod_eq_of_le (by omega) (by omega)]
  exact ec_next15 h h3 hr (by omega) _ kept hk _ kept _ (Nat.le_refl _) (by rw [e]; omega) (by omega) e
theorem em_nexts {φ : Nat → Nat × Nat} {u : Nat} {H : ep_H} {w : Nat} {C G : em_M} (h : ep_Tb φ u H w 119 C G) (h3 : H.nw ≤ 300) {row : Nat} (hr : row ≤ H.nw) : ∀ x, x ≤ H.nw → ∀ fu m, x < fu → x ≤ m → es_X12_goesOnFrom_2 fu G (nI row - 1) (nI x - 1) ∧ et_X12_goesOnFrom_2 fu G (nI row - 1) (nI x - 1) = nI (ep_nx H.bw row m x) - 1 := by
  intro x
  induction x using Nat.strongRecOn with
  | ind x ih =>
    intro hx fu m hf hm
    obtain ⟨fu, rfl⟩ : ∃ f, fu = f + 1 := ⟨fu - 1, by omega⟩
    rw [es_X12_goesOnFrom_2, et_X12_goesOnFrom_2]
    cases x with
    | zero =>
      rw [eq_q0, if_pos eq_neg]
      refine ⟨⟨fun _ => trivial, fun q => absurd eq_neg q⟩, ?_⟩
      cases m <;> rfl
    | succ v =>
      obtain ⟨b1, b2, b3, -, -, b6⟩ := h.wb v (by omega)
      obtain ⟨m, rfl⟩ : ∃ f, m = f + 1 := ⟨m - 1, by omega⟩
      have p : ¬ nI v < 0 := nI_pos (by omega)
      have i := ih (H.bw (v + 1)) (by omega) (by omega) fu m (by omega) (by omega)
      rw [eq_q1, eq_w4, eq_p2, nI_clamp (by omega), b6, if_neg p, ep_nx, if_neg (show ¬ v + 1 = 0 by omega)]
      by_cases e : H.bw (v + 1) = row
      · rw [if_pos e, if_pos (by rw [e]), eq_q1]
        exact ⟨⟨fun _ => trivial, fun _ => ⟨vp_in_nI (by omega) (by omega), fun _ => trivial, fun q => absurd (by rw [e]) q⟩⟩, rfl⟩
      · have e' : ¬ nI (H.bw (v + 1)) - 1 = nI row - 1 := fun q => e ((eq_qe (by omega) (by omega)).mp q)
        rw [if_neg e, if_neg e']
        exact ⟨⟨fun _ => trivial, fun _ => ⟨vp_in_nI (by omega) (by omega), fun q => absurd q e', fun _ => ⟨vp_in_nI (by omega) (by omega), i.1⟩⟩⟩, i.2⟩
theorem ep_nxP {bw : Nat → Nat} {row n : Nat} (d : ∀ v, v < n → bw (v + 1) ≤ v) : ∀ m x, x ≤ n → x ≤ m → ep_nx bw row m x ≤ x ∧ (ep_nx bw row m x ≠ 0 → bw (ep_nx bw row m x) = row) ∧ (row = 0 → x ≠ 0 → ep_nx bw row m x ≠ 0) := by
  intro m
  induction m with
  | zero =>
    intro x hx hm
    refine ⟨Nat.zero_le _, fun q => absurd rfl q, fun _ q => absurd (by omega) q⟩
  | succ m ih =>
    intro x hx hm
    rw [ep_nx]
    cases x with
    | zero => exact ⟨by simp, fun q => absurd (by simp) q, fun _ q => absurd rfl q⟩
    | succ v =>
      have b := d v (by omega)
      rw [if_neg (show ¬ v + 1 = 0 by omega)]
      by_cases e : bw (v + 1) = row
      · rw [if_pos e]; exact ⟨Nat.le_refl _, fun _ => e, fun _ _ => by omega⟩
      · rw [if_neg e]
        obtain ⟨i1, i2, i3⟩ := ih (bw (v + 1)) (by omega) (by omega)
        exact ⟨by omega, i2, fun q _ => i3 q (fun z => e (by omega))⟩
theorem ep_wadd {φ : Nat → Nat × Nat} {u nl : Nat} {H : ep_H} {t w : Nat} {C0 G0 C G : em_M} (h : ep_Md φ u nl H t w C0 G0 C G) (hn : H.nw < 300) {wi e sc : Nat} (hw : wi ≤ H.nw) (he : e < u) (hk : C.1 2 e = nI 8) (hs : sc ≤ H.ns) : ∃ C', et_X9_add w C (nI wi) (nI e) (nI sc) = (nI (H.nw + 1), C') ∧ ep_Md φ u nl (ep_aW H wi) t w C0 G0 C' (em_pI (em_pI (em_pI (em_pI (em_pI G 119 (3960 + 4 * H.nw) (nI (φ e).1)) 119 (3960 + 4 * H.nw + 1) (nI sc - 1)) 119 (3960 + 4 * H.nw + 2) (nI wi - 1)) 119 23 (nI (H.nw + 1))) 119 18 (nI H.nw)) ∧ (∀ o, o < w + 17 ∨ w + 21 < o → C'.1 o = C.1 o) ∧ C'.2 = C.2 := by
  have w6 := h.w6
  have p2 : nI (H.nw + 1) < (301 : Int32) := nI_lt (b := 301) (by omega) (by omega)
  obtain ⟨k1, k2⟩ := ep_hw_le h.tb hw
  have ec : et_X9_add w C (nI wi) (nI e) (nI sc) = (nI (H.nw + 1), em_pI (em_pI (em_pI (em_pI (em_pI C (w + 17) 0 (nI (H.nw + 1 + 1))) (w + 18) (H.nw + 1) (nI wi)) (w + 19) (H.nw + 1) (nI (H.hw wi + 1))) (w + 20) (H.nw + 1) (nI e)) (w + 21) (H.nw + 1) (nI sc)) := by
    rw [et_X9_add, h.nw1, if_pos p2]
    simp (disch := omega) only [et_X9_height, nI_1, eq_putS, eq_atS]
    simp (disch := omega) only [ef_pI', ef_pIk, ef_pIs, k2, nI_1]
  refine ⟨_, ec, ?_, fun o ho => by simp (disch := omega) only [ef_pI'], rfl⟩
  obtain ⟨z, z1, z2, z3, z4⟩ := h.sz
  refine ep_Md.mk h.w6 h.t3 h.nf h.ns hn h.ne ?_ ?_ ?_ ?_ ?_ ?_ ?_ ?_ ?_ ?_ ?_ ?_ ?_ ?_ ?_ ?_ ?_ ?_ ?_ ?_ ?_ ?_
  · intro k hk; simp (disch := omega) only [ef_pI', ef_pIk, ef_pIs]; exact h.va k hk
  · intro k hk; simp (disch := omega) only [ef_pI', ef_pIk, ef_pIs]; exact h.fu k hk
  · simp (disch := omega) only [ef_pI', ef_pIk, ef_pIs]; exact h.s0
  · simp (disch := omega) only [ef_pI', ef_pIk, ef_pIs]; exact h.s1
  · simp (disch := omega) only [ef_pI', ef_pIk, ef_pIs]; exact h.t0
  · simp (disch := omega) only [ef_pI', ef_pIk, ef_pIs]; exact h.t1
  · simp (disch := omega) only [ef_pI', ef_pIk, ef_pIs]; exact h.dp
  · refine ⟨z, z1, by simp (disch := omega) only [ef_pI', ef_pIk, ef_pIs]; exact z2, by simp (disch := omega) only [ef_pI', ef_pIk, ef_pIs]; exact z3, fun k hk => ?_⟩
    simp (disch := omega) only [ef_pI', ef_pIk, ef_pIs]; exact z4 k hk
  · simp (disch := omega) only [ef_pI', ef_pIk, ef_pIs]; exact h.nf1
  · simp (disch := omega) only [ef_pI', ef_pIk, ef_pIs]; exact h.nf2
  · simp (disch := omega) only [ef_pI', ef_pIk, ef_pIs]; exact h.ns1
  · simp (disch := omega) only [ef_pI', ef_pIk, ef_pIs]; exact h.ns2
  · simp (disch := omega) only [ef_pI', ef_pIk, ef_pIs]; rfl
  · simp (disch := omega) only [ef_pI', ef_pIk, ef_pIs]; rfl
  · simp (disch := omega) only [ef_pI', ef_pIk, ef_pIs]; exact h.ne1
  · simp (disch := omega) only [ef_pI', ef_pIk, ef_pIs]; exact h.ne2
  · have a : ep_Ag H w 119 C G w 119 (em_pI (em_pI (em_pI (em_pI (em_pI C (w + 17) 0 (nI (H.nw + 1 + 1))) (w + 18) (H.nw + 1) (nI wi)) (w + 19) (H.nw + 1) (nI (H.hw wi + 1))) (w + 20) (H.nw + 1) (nI e)) (w + 21) (H.nw + 1) (nI sc)) (em_pI (em_pI (em_pI (em_pI (em_pI G 119 (3960 + 4 * H.nw) (nI (φ e).1)) 119 (3960 + 4 * H.nw + 1) (nI sc - 1)) 119 (3960 + 4 * H.nw + 2) (nI wi - 1)) 119 23 (nI (H.nw + 1))) 119 18 (nI H.nw)) := by
      have n1 := h.nf
      have n2 := h.ns
      have n3 := h.ne
      refine ep_Ag.mk ?_ ?_ ?_ ?_ ?_ ?_ ?_ ?_ ?_ ?_ ?_ ?_ ?_
      case refine_8 =>
        intro j j1 j2 k k1 k2
        have : j = 18 ∨ j = 19 ∨ j = 20 ∨ j = 21 := by omega
        rcases this with rfl | rfl | rfl | rfl
        all_goals simp (disch := omega) only [ef_pI', ef_pIk, ef_pIs]
      all_goals (intros; simp (disch := omega) only [ef_pI', ef_pIk, ef_pIs, eq_pI2])
    refine ep_Tb_ex (ep_Tb_ag h.tb a) (ep_aW_ex H wi) (fun f f1 f2 => ?_) (fun q q1 q2 => ?_) (fun v v1 v2 => ?_) (fun x x1 x2 => ?_)
    · exact absurd f2 (show ¬ f < H.nf by omega)
    · exact absurd q2 (show ¬ q < H.ns by omega)
    · have e' : v = H.nw := by have : v < H.nw + 1 := v2; omega
      subst e'
      have b1 : (ep_aW H wi).bw (H.nw + 1) = wi := if_pos rfl
      have b2 : (ep_aW H wi).hw (H.nw + 1) = H.hw wi + 1 := if_pos rfl
      have b3 : (ep_aW H wi).hw wi = H.hw wi := if_neg (by omega)
      rw [b1, b2, b3]
      refine ⟨⟨hw, rfl, by omega, ?_, ?_, ?_⟩, e, sc, he, ?_, ?_, ?_, hs, ?_, ?_⟩
      case refine_4 => simp (disch := omega) only [ef_pI', ef_pIk, ef_pIs]; exact hk
      all_goals simp (disch := omega) only [ef_pI', ef_pIk, ef_pIs]
    · exact absurd x2 (show ¬ x < H.ne by omega)
  · intro o ho; simp (disch := omega) only [ef_pI']; exact h.kc o ho
  · intro o ho; exact h.k2 o ho
  · intro o ho; simp (disch := omega) only [ef_pI']; exact h.kg o ho
  · exact h.kl
  · intro k k1 k2; simp (disch := omega) only [ef_pI', ef_pIk, ef_pIs]; exact h.kr k k1 k2
theorem em_cm (M : em_M) {a b : Nat} (x y : Int32) (h : a ≠ b) : em_pI (em_pI M 119 a x) 119 b y = em_pI (em_pI M 119 b y) 119 a x := by
  refine Prod.ext ?_ rfl
  funext o k
  simp only [eq_pI]
  by_cases p : o = 119
  · simp only [p, if_true]
    by_cases p1 : k = a
    · subst p1; simp [h]
    · simp [p1]
  · simp only [p, if_false]
theorem em_gFcm {nf h d a : Nat} {what e scope ke kt below ex x : Int32} {G : em_M} (hn : nf < 300) (ha : a = 18 ∨ a = 23 ∨ 2680 ≤ a) : ep_gF nf h d what e scope ke kt below ex (em_pI G 119 a x) = em_pI (ep_gF nf h d what e scope ke kt below ex G) 119 a x := by
  unfold ep_gF
  rw [em_cm _ x what (show a ≠ 120 + 8 * nf by omega), em_cm _ x e (show a ≠ 120 + 8 * nf + 1 by omega), em_cm _ x scope (show a ≠ 120 + 8 * nf + 2 by omega), em_cm _ x ke (show a ≠ 120 + 8 * nf + 3 by omega), em_cm _ x kt (show a ≠ 120 + 8 * nf + 4 by omega), em_cm _ x below (show a ≠ 120 + 8 * nf + 5 by omega), em_cm _ x _ (show a ≠ 120 + 8 * nf + 6 by omega), em_cm _ x ex (show a ≠ 120 + 8 * nf + 7 by omega), em_cm _ x _ (show a ≠ 21 by omega), em_cm _ x _ (show a ≠ 17 by omega), em_cm _ x _ (show a ≠ 11 by omega)]
