/-! Lines.end: what it counts over an E that was read -/
theorem ep_ct_add (r : Nat → Int32) (b n k : Nat) : ep_ct r b (n + k) = ep_ct r b n + ep_ct r (b + n) k := by
  induction k with
  | zero => rfl
  | succ k ih => rw [← Nat.add_assoc, ep_ct, ih, ep_ct, ← Nat.add_assoc b n k]; omega
theorem ep_ct_to (r : Nat → Int32) {a b c : Nat} (h1 : a ≤ b) (h2 : b ≤ c) : ep_ct r a (c - a) = ep_ct r a (b - a) + ep_ct r b (c - b) := by
  have := ep_ct_add r a (b - a) (c - b)
  rw [show b - a + (c - b) = c - a by omega, show a + (b - a) = b by omega] at this
  exact this
theorem ep_ct1 (r : Nat → Int32) {a : Nat} : ep_ct r a (a + 1 - a) = if r a = nI 64 then 1 else 0 := by
  rw [show a + 1 - a = 0 + 1 by omega, ep_ct, ep_ct, Nat.add_zero, Nat.zero_add]
/-- a part has its depth and whether it is last handed down -/
def ep_hd (M : em_M) (q : Nat) (a b : Nat) : em_M := em_pI (em_pI M 5 q (nI a)) 6 q (nI b)
/-- one node is counted -/
def ep_cn (M : em_M) (nl f0 f1 f2 f3 : Nat) : em_M := em_pI (em_pI (em_pI (em_pI M 8 (nl * 4) (nI f0)) 8 (nl * 4 + 1) (nI f1)) 8 (nl * 4 + 2) (nI f2)) 8 (nl * 4 + 3) (nI f3)
def ep_Ft (nl f0 f1 f2 f3 : Nat) (M : em_M) : Prop :=
  (M.1 8 (nl * 4) = nI f0) ∧
  (M.1 8 (nl * 4 + 1) = nI f1) ∧
  (M.1 8 (nl * 4 + 2) = nI f2) ∧
  (M.1 8 (nl * 4 + 3) = nI f3)
theorem ep_Ft.a0 {nl f0 f1 f2 f3 : Nat} {M : em_M} (h : ep_Ft nl f0 f1 f2 f3 M) : M.1 8 (nl * 4) = nI f0 := h.1
theorem ep_Ft.a1 {nl f0 f1 f2 f3 : Nat} {M : em_M} (h : ep_Ft nl f0 f1 f2 f3 M) : M.1 8 (nl * 4 + 1) = nI f1 := h.2.1
theorem ep_Ft.a2 {nl f0 f1 f2 f3 : Nat} {M : em_M} (h : ep_Ft nl f0 f1 f2 f3 M) : M.1 8 (nl * 4 + 2) = nI f2 := h.2.2.1
theorem ep_Ft.a3 {nl f0 f1 f2 f3 : Nat} {M : em_M} (h : ep_Ft nl f0 f1 f2 f3 M) : M.1 8 (nl * 4 + 3) = nI f3 := h.2.2.2
theorem ep_Ft.mk {nl f0 f1 f2 f3 : Nat} {M : em_M} (a0 : M.1 8 (nl * 4) = nI f0) (a1 : M.1 8 (nl * 4 + 1) = nI f1) (a2 : M.1 8 (nl * 4 + 2) = nI f2) (a3 : M.1 8 (nl * 4 + 3) = nI f3) : ep_Ft nl f0 f1 f2 f3 M :=
  ⟨a0, a1, a2, a3⟩
theorem ec_cn {M : em_M} {nl e kd a b f0 f1 f2 f3 : Nat} (hl : nl < 8) (he : e < 800) (hk : kd < 20) (k : M.1 2 e = nI kd) (d : M.1 5 e = nI a) (l : M.1 6 e = nI b) (ha : a < 2 ^ 31) (h1 : f1 < 2 ^ 31) (h : ep_Ft nl f0 f1 f2 f3 M) : et_X2_countIn M (nI nl) (nI e) = ep_cn M nl (f0 + if kd = 14 then 0 else 1) (max f1 a) (f2 + if kd = 13 then 1 else 0) (f3 + if kd = 4 then b else 0) := by
  have kk : et_X2_kind M (nI e) = nI kd := by rw [et_X2_kind, eq_atS _ he (by omega)]; exact k
  have e14 : (nI kd = (14 : Int32)) ↔ (kd = 14) := nI_eq (b := 14) (by omega) (by omega)
  have e13 : (nI kd = (13 : Int32)) ↔ (kd = 13) := nI_eq (b := 13) (by omega) (by omega)
  have e4 : (nI kd = (4 : Int32)) ↔ (kd = 4) := nI_eq (b := 4) (by omega) (by omega)
  have m0 := h.a0
  have m1 := h.a1
  have m2 := h.a2
  have m3 := h.a3
  have st : ∀ x : Nat, et_X2_countIn_37 M (nI nl) (nI e) (nI kd) (nI (nl * 4)) (nI x) (nI f0) (nI (nl * 4)) = ep_cn M nl (f0 + x) (max f1 a) (f2 + if kd = 13 then 1 else 0) (f3 + if kd = 4 then b else 0) := by
    intro x
    have t3 : ∀ (N : em_M) (y z : Nat), et_X2_countIn_144 N (nI nl) (nI e) (nI kd) (nI (nl * 4)) (nI y) (nI z) (nI (nl * 4 + 3)) = em_pI N 8 (nl * 4 + 3) (nI (z + y)) := by
      intro N y z
      rw [et_X2_countIn_144, nI_add]
      exact eq_putS _ (by omega) (by omega)
    have t2 : ∀ (N : em_M) (y : Nat), N.1 8 (nl * 4 + 3) = nI f3 → N.1 6 e = nI b → et_X2_countIn_104 N (nI nl) (nI e) (nI kd) (nI (nl * 4)) (nI y) (nI f2) (nI (nl * 4 + 2)) = em_pI (em_pI N 8 (nl * 4 + 2) (nI (f2 + y))) 8 (nl * 4 + 3) (nI (f3 + if kd = 4 then b else 0)) := by
      intro N y n3 n6
      rw [et_X2_countIn_104, nI_add, eq_putS _ (show nl * 4 + 2 < 32 by omega) (by omega)]
      dsimp only
      rw [eq_p3, eq_atS _ (show nl * 4 + 3 < 32 by omega) (by omega), ef_pIk _ _ (by omega), n3, eq_atS _ he (by omega), ef_pI' _ _ _ _ (by omega), n6]
      by_cases q : kd = 4
      · rw [if_pos (e4.mpr q), if_pos q, t3]
      · rw [if_neg (fun z => q (e4.mp z)), if_neg q, show (0 : Int32) = nI 0 from rfl, t3]
    rw [et_X2_countIn_37, nI_add, eq_putS _ (show nl * 4 < 32 by omega) (by omega)]
    try dsimp only
    rw [nI_1, eq_p2, eq_atS _ (show nl * 4 + 1 < 32 by omega) (by omega), eq_atS _ he (by omega)]
    rw [ef_pIk (M := M) (o := 8) _ (show nl * 4 + 1 ≠ nl * 4 by omega), m1, ef_pI' M 8 _ _ (show 5 ≠ 8 by omega), d, eq_max h1 ha, eq_putS _ (show nl * 4 + 1 < 32 by omega) (by omega), eq_atS _ (show nl * 4 + 2 < 32 by omega) (by omega), ef_pIk _ _ (by omega), ef_pIk _ _ (by omega), m2]
    have n3 : (em_pI (em_pI M 8 (nl * 4) (nI (f0 + x))) 8 (nl * 4 + 1) (nI (max f1 a))).1 8 (nl * 4 + 3) = nI f3 := by rw [ef_pIk _ _ (by omega), ef_pIk _ _ (by omega)]; exact m3
    have n6 : (em_pI (em_pI M 8 (nl * 4) (nI (f0 + x))) 8 (nl * 4 + 1) (nI (max f1 a))).1 6 e = nI b := by rw [ef_pI' _ _ _ _ (by omega), ef_pI' _ _ _ _ (by omega)]; exact l
    by_cases q : kd = 13
    · rw [if_pos (e13.mpr q), if_pos q, show (1 : Int32) = nI 1 from rfl, t2 _ _ n3 n6, ep_cn]
    · rw [if_neg (fun z => q (e13.mp z)), if_neg q, show (0 : Int32) = nI 0 from rfl, t2 _ _ n3 n6, ep_cn]
  rw [et_X2_countIn, kk, eq_y4, eq_atS _ (show nl * 4 < 32 by omega) (by omega), m0]
  try dsimp only
  by_cases q : kd = 14
  · rw [if_pos (e14.mpr q), if_pos q, show (0 : Int32) = nI 0 from rfl, st]
  · rw [if_neg (fun z => q (e14.mp z)), if_neg q, show (1 : Int32) = nI 1 from rfl, st]
theorem ep_cn_ft {nl f0 f1 f2 f3 : Nat} {M : em_M} : ep_Ft nl f0 f1 f2 f3 (ep_cn M nl f0 f1 f2 f3) := by
  refine ep_Ft.mk ?_ ?_ ?_ ?_
  all_goals simp (disch := omega) only [ep_cn, ef_pIk, ef_pIs]
/-- what the counting leaves alone: all but the facts of the line, and the depths and lasts of nodes between -/
def ep_Fr (nl e hi : Nat) (M M' : em_M) : Prop :=
  (∀ o, ¬ (o = 5 ∨ o = 6 ∨ o = 8) → M'.1 o = M.1 o) ∧
  (M'.2 = M.2) ∧
  (∀ k, ¬ (nl * 4 ≤ k ∧ k < nl * 4 + 4) → M'.1 8 k = M.1 8 k) ∧
  (∀ k, ¬ (e < k ∧ k < hi) → M'.1 5 k = M.1 5 k ∧ M'.1 6 k = M.1 6 k)
theorem ep_Fr.f1 {nl e hi : Nat} {M M' : em_M} (h : ep_Fr nl e hi M M') : ∀ o, ¬ (o = 5 ∨ o = 6 ∨ o = 8) → M'.1 o = M.1 o := h.1
theorem ep_Fr.f2 {nl e hi : Nat} {M M' : em_M} (h : ep_Fr nl e hi M M') : M'.2 = M.2 := h.2.1
theorem ep_Fr.f8 {nl e hi : Nat} {M M' : em_M} (h : ep_Fr nl e hi M M') : ∀ k, ¬ (nl * 4 ≤ k ∧ k < nl * 4 + 4) → M'.1 8 k = M.1 8 k := h.2.2.1
theorem ep_Fr.f5 {nl e hi : Nat} {M M' : em_M} (h : ep_Fr nl e hi M M') : ∀ k, ¬ (e < k ∧ k < hi) → M'.1 5 k = M.1 5 k ∧ M'.1 6 k = M.1 6 k := h.2.2.2
theorem ep_Fr.mk {nl e hi : Nat} {M M' : em_M} (f1 : ∀ o, ¬ (o = 5 ∨ o = 6 ∨ o = 8) → M'.1 o = M.1 o) (f2 : M'.2 = M.2) (f8 : ∀ k, ¬ (nl * 4 ≤ k ∧ k < nl * 4 + 4) → M'.1 8 k = M.1 8 k) (f5 : ∀ k, ¬ (e < k ∧ k < hi) → M'.1 5 k = M.1 5 k ∧ M'.1 6 k = M.1 6 k) : ep_Fr nl e hi M M' :=
  ⟨f1, f2, f8, f5⟩
theorem ep_Fr_rf (nl e hi : Nat) (M : em_M) : ep_Fr nl e hi M M := ep_Fr.mk (fun _ _ => rfl) rfl (fun _ _ => rfl) (fun _ _ => ⟨rfl, rfl⟩)
theorem ep_Fr_tr {nl e hi e' hi' e'' hi'' : Nat} {M M1 M2 : em_M} (f : ep_Fr nl e hi M M1) (g : ep_Fr nl e' hi' M1 M2) (h1 : e'' ≤ e) (h2 : hi ≤ hi'') (h3 : e'' ≤ e') (h4 : hi' ≤ hi'') : ep_Fr nl e'' hi'' M M2 :=
  ep_Fr.mk (fun o ho => (g.f1 o ho).trans (f.f1 o ho)) (g.f2.trans f.f2) (fun k hk => (g.f8 k hk).trans (f.f8 k hk)) (fun k hk => ⟨(g.f5 k (by omega)).1.trans (f.f5 k (by omega)).1, (g.f5 k (by omega)).2.trans (f.f5 k (by omega)).2⟩)
theorem ep_cn_fr {nl f0 f1 f2 f3 e hi : Nat} {M : em_M} : ep_Fr nl e hi M (ep_cn M nl f0 f1 f2 f3) := by
  refine ep_Fr.mk (fun o ho => ?_) rfl (fun k hk => ?_) (fun k hk => ⟨?_, ?_⟩)
  · simp (disch := omega) only [ep_cn, ef_pI']
  · simp (disch := omega) only [ep_cn, ef_pIk]
  · simp (disch := omega) only [ep_cn, ef_pI']
  · simp (disch := omega) only [ep_cn, ef_pI']
theorem ep_hd_fr {nl e hi q a b : Nat} {M : em_M} (h1 : e < q) (h2 : q < hi) : ep_Fr nl e hi M (ep_hd M q a b) := by
  refine ep_Fr.mk (fun o ho => ?_) rfl (fun k hk => ?_) (fun k hk => ⟨?_, ?_⟩)
  · simp (disch := omega) only [ep_hd, ef_pI']
  · simp (disch := omega) only [ep_hd, ef_pI']
  · simp (disch := omega) only [ep_hd, ef_pI', ef_pIk]
  · simp (disch := omega) only [ep_hd, ef_pI', ef_pIk]
theorem ep_hd_ft {nl f0 f1 f2 f3 q a b : Nat} {M : em_M} (h : ep_Ft nl f0 f1 f2 f3 M) : ep_Ft nl f0 f1 f2 f3 (ep_hd M q a b) := by
  refine ep_Ft.mk ?_ ?_ ?_ ?_
  all_goals simp (disch := omega) only [ep_hd, ef_pI']
  · exact h.a0
  · exact h.a1
  · exact h.a2
  · exact h.a3
/-- whether part k of a node is last, by the node's kind and its part 1 -/
def ep_il (kd : Nat) (p1 : Int32) (k : Nat) : Nat :=
  if kd = 1 then (if k = 0 then 0 else 1) else if kd = 2 then (if k = 1 then 1 else 0) else if kd = 3 ∨ kd = 14 then (if k = 1 then 1 else if 0 ≤ p1 then 0 else 1) else if kd = 13 then 1 else 0
theorem ec_il {M : em_M} {e kd k : Nat} (he : e < 800) (hk : k < 3) (h : M.1 2 e = nI kd) (hkd : kd < 20) : et_X2_isLast M (nI e) (nI k) = nI (ep_il kd (M.1 4 (3 * e + 1)) k) := by
  have kk : et_X2_kind M (nI e) = nI kd := by rw [et_X2_kind, eq_atS _ he (by omega)]; exact h
  have p1 : et_X2_part M (nI e) (1 : Int32) = M.1 4 (3 * e + 1) := eq_part (k := 1) he (by omega)
  have E : ∀ j, j < 100 → ((nI kd = nI j) = (kd = j)) := fun j hj => propext (nI_eq (by omega) (by omega))
  have e1 : (nI kd = (1 : Int32)) = (kd = 1) := E 1 (by omega)
  have e2 : (nI kd = (2 : Int32)) = (kd = 2) := E 2 (by omega)
  have e3 : (nI kd = (3 : Int32)) = (kd = 3) := E 3 (by omega)
  have e13 : (nI kd = (13 : Int32)) = (kd = 13) := E 13 (by omega)
  have e14 : (nI kd = (14 : Int32)) = (kd = 14) := E 14 (by omega)
  have k1 : (nI k = (1 : Int32)) = (k = 1) := propext (nI_eq (b := 1) (by omega) (by omega))
  have k0 : (nI k ≤ (0 : Int32)) = (k = 0) := by
    rw [← nI_0, propext (nI_leI (show k < 2 ^ 31 by omega) (show 0 < 2 ^ 31 by omega))]
    exact propext ⟨fun q => by omega, fun q => by omega⟩
  rw [et_X2_isLast]
  dsimp only
  rw [kk, p1, ep_il]
  simp only [e1, e2, e3, e13, e14, k1, k0]
  by_cases q1 : kd = 1
  · rw [if_pos q1, if_pos q1]; by_cases z : k = 0
    · rw [if_pos z, if_pos z]; rfl
    · rw [if_neg z, if_neg z]; rfl
  rw [if_neg q1, if_neg q1]
  by_cases q2 : kd = 2
  · rw [if_pos q2, if_pos q2]; by_cases z : k = 1
    · rw [if_pos z, if_pos z]; rfl
    · rw [if_neg z, if_neg z]; rfl
  rw [if_neg q2, if_neg q2]
  have tl : (if k = 1 then (1 : Int32) else (if 0 ≤ M.1 4 (3 * e + 1) then (0 : Int32) else (1 : Int32))) = nI (if k = 1 then 1 else if 0 ≤ M.1 4 (3 * e + 1) then 0 else 1) := by
    by_cases z : k = 1
    · rw [if_pos z, if_pos z]; rfl
    · rw [if_neg z, if_neg z]
      by_cases y : 0 ≤ M.1 4 (3 * e + 1)
      · rw [if_pos y, if_pos y]; rfl
      · rw [if_neg y, if_neg y]; rfl
  by_cases q3 : kd = 3
  · rw [if_pos q3, if_pos (Or.inl q3)]; exact tl
  rw [if_neg q3]
  by_cases q13 : kd = 13
  · rw [if_pos q13, if_neg (by omega), if_pos q13]; rfl
  rw [if_neg q13]
  by_cases q14 : kd = 14
  · rw [if_pos q14, if_pos (Or.inr q14)]; exact tl
  · rw [if_neg q14, if_neg (by omega), if_neg q13]; rfl
theorem ep_il1 (kd : Nat) (p1 : Int32) (k : Nat) : ep_il kd p1 k = 0 ∨ ep_il kd p1 k = 1 := by
  unfold ep_il
  by_cases c1 : kd = 1
  · rw [if_pos c1]
    by_cases z : k = 0
    · rw [if_pos z]; exact Or.inl rfl
    · rw [if_neg z]; exact Or.inr rfl
  rw [if_neg c1]
  by_cases c2 : kd = 2
  · rw [if_pos c2]
    by_cases z : k = 1
    · rw [if_pos z]; exact Or.inr rfl
    · rw [if_neg z]; exact Or.inl rfl
  rw [if_neg c2]
  by_cases c3 : kd = 3 ∨ kd = 14
  · rw [if_pos c3]
    by_cases z : k = 1
    · rw [if_pos z]; exact Or.inr rfl
    · rw [if_neg z]
      by_cases c4 : 0 ≤ p1
      · rw [if_pos c4]; exact Or.inl rfl
      · rw [if_neg c4]; exact Or.inr rfl
  rw [if_neg c3]
  by_cases c5 : kd = 13
  · rw [if_pos c5]; exact Or.inr rfl
  · rw [if_neg c5]; exact Or.inl rfl
/-- part 2 of a node at depth a, last b -/
theorem ec_hd2 {M : em_M} {e kd a b : Nat} (he : e < 800) (h : M.1 2 e = nI kd) (hkd : kd < 20) (d : M.1 5 e = nI a) (l : M.1 6 e = nI b) (hb : b ≤ 1) : (∀ q kp, M.1 4 (3 * e + 2) = nI q → q < 800 → e < q → M.1 2 q = nI kp → kp < 20 → et_X2_handDown_2_2 M (nI e) = (et_X2_handDown_2_3 (ep_hd M q (a + if kp = 14 then 0 else 1) (if b = 0 then 0 else ep_il kd (M.1 4 (3 * e + 1)) 2)) (nI e))) ∧ (M.1 4 (3 * e + 2) = -1 → et_X2_handDown_2_2 M (nI e) = (et_X2_handDown_2_3 M (nI e))) := by
  have p2 : et_X2_part M (nI e) (2 : Int32) = M.1 4 (3 * e + 2) := eq_part (k := 2) he (by omega)
  rw [et_X2_handDown_2_2]
  dsimp only
  refine ⟨fun q kp e1 e2 e3 e4 e5 => ?_, fun e1 => ?_⟩
  · have kq : et_X2_kind M (nI q) = nI kp := by rw [et_X2_kind, eq_atS _ e2 (by omega)]; exact e4
    have e14 : (nI kp = (14 : Int32)) ↔ (kp = 14) := nI_eq (b := 14) (by omega) (by omega)
    rw [p2.trans e1, if_neg (nI_pos (by omega)), kq, eq_atS _ he (by omega), d]
    have st : ∀ x : Nat, et_X2_handDown_46_2 M (nI e) (nI q) (nI x) (nI a) (nI q) = (et_X2_handDown_2_3 (ep_hd M q (a + x) (if b = 0 then 0 else ep_il kd (M.1 4 (3 * e + 1)) 2)) (nI e)) := by
      intro x
      have il := ec_il (M := em_pI M 5 q (nI (a + x))) (k := 2) he (by omega) (by rw [ef_pI' _ _ _ _ (by omega)]; exact h) hkd
      rw [ef_pI' M 5 _ _ (show 4 ≠ 5 by omega)] at il
      have il' : et_X2_isLast (em_pI M 5 q (nI (a + x))) (nI e) (2 : Int32) = nI (ep_il kd (M.1 4 (3 * e + 1)) 2) := il
      have t : ∀ y : Nat, et_X2_handDown_80_2 (em_pI M 5 q (nI (a + x))) (nI e) (nI q) (nI y) (nI q) = (et_X2_handDown_2_3 (ep_hd M q (a + x) y) (nI e)) := by
        intro y
        rw [et_X2_handDown_80_2, eq_putS _ e2 (by omega)]
        rfl
      have l6 : (em_pI M 5 q (nI (a + x))).1 6 e = nI b := by rw [ef_pI' _ _ _ _ (by omega)]; exact l
      rw [et_X2_handDown_46_2, nI_add, eq_putS _ e2 (by omega)]
      dsimp only
      rw [eq_atS _ he (by omega), l6, il']
      by_cases z : b = 0
      · rw [if_pos (by rw [z]; rfl), if_pos z]; exact t 0
      · rw [if_neg (nI_ne0 (by omega) (by omega)), if_neg z]
        rcases ep_il1 kd (M.1 4 (3 * e + 1)) 2 with y | y
        · rw [y, if_pos (show nI 0 = 0 from rfl)]; exact t 0
        · rw [y, if_neg (show ¬ nI 1 = 0 by decide)]; exact t 1
    by_cases z : kp = 14
    · rw [if_pos (e14.mpr z), if_pos z]; exact st 0
    · rw [if_neg (fun y => z (e14.mp y)), if_neg z]; exact st 1
  · rw [p2.trans e1, if_pos (by decide)]; rfl
/-- part 1 of a node at depth a, last b -/
theorem ec_hd1 {M : em_M} {e kd a b : Nat} (he : e < 800) (h : M.1 2 e = nI kd) (hkd : kd < 20) (d : M.1 5 e = nI a) (l : M.1 6 e = nI b) (hb : b ≤ 1) : (∀ q kp, M.1 4 (3 * e + 1) = nI q → q < 800 → e < q → M.1 2 q = nI kp → kp < 20 → et_X2_handDown_2_1 M (nI e) = (et_X2_handDown_2_2 (ep_hd M q (a + if kp = 14 then 0 else 1) (if b = 0 then 0 else ep_il kd (M.1 4 (3 * e + 1)) 1)) (nI e))) ∧ (M.1 4 (3 * e + 1) = -1 → et_X2_handDown_2_1 M (nI e) = (et_X2_handDown_2_2 M (nI e))) := by
  have p2 : et_X2_part M (nI e) (1 : Int32) = M.1 4 (3 * e + 1) := eq_part (k := 1) he (by omega)
  rw [et_X2_handDown_2_1]
  dsimp only
  refine ⟨fun q kp e1 e2 e3 e4 e5 => ?_, fun e1 => ?_⟩
  · have kq : et_X2_kind M (nI q) = nI kp := by rw [et_X2_kind, eq_atS _ e2 (by omega)]; exact e4
    have e14 : (nI kp = (14 : Int32)) ↔ (kp = 14) := nI_eq (b := 14) (by omega) (by omega)
    rw [p2.trans e1, if_neg (nI_pos (by omega)), kq, eq_atS _ he (by omega), d]
    have st : ∀ x : Nat, et_X2_handDown_46_1 M (nI e) (nI q) (nI x) (nI a) (nI q) = (et_X2_handDown_2_2 (ep_hd M q (a + x) (if b = 0 then 0 else ep_il kd (M.1 4 (3 * e + 1)) 1)) (nI e)) := by
      intro x
      have il := ec_il (M := em_pI M 5 q (nI (a + x))) (k := 1) he (by omega) (by rw [ef_pI' _ _ _ _ (by omega)]; exact h) hkd
      rw [ef_pI' M 5 _ _ (show 4 ≠ 5 by omega)] at il
      have il' : et_X2_isLast (em_pI M 5 q (nI (a + x))) (nI e) (1 : Int32) = nI (ep_il kd (M.1 4 (3 * e + 1)) 1) := il
      have t : ∀ y : Nat, et_X2_handDown_80_1 (em_pI M 5 q (nI (a + x))) (nI e) (nI q) (nI y) (nI q) = (et_X2_handDown_2_2 (ep_hd M q (a + x) y) (nI e)) := by
        intro y
        rw [et_X2_handDown_80_1, eq_putS _ e2 (by omega)]
        rfl
      have l6 : (em_pI M 5 q (nI (a + x))).1 6 e = nI b := by rw [ef_pI' _ _ _ _ (by omega)]; exact l
      rw [et_X2_handDown_46_1, nI_add, eq_putS _ e2 (by omega)]
      dsimp only
      rw [eq_atS _ he (by omega), l6, il']
      by_cases z : b = 0
      · rw [if_pos (by rw [z]; rfl), if_pos z]; exact t 0
      · rw [if_neg (nI_ne0 (by omega) (by omega)), if_neg z]
        rcases ep_il1 kd (M.1 4 (3 * e + 1)) 1 with y | y
        · rw [y, if_pos (show nI 0 = 0 from rfl)]; exact t 0
        · rw [y, if_neg (show ¬ nI 1 = 0 by decide)]; exact t 1
    by_cases z : kp = 14
    · rw [if_pos (e14.mpr z), if_pos z]; exact st 0
    · rw [if_neg (fun y => z (e14.mp y)), if_neg z]; exact st 1
  · rw [p2.trans e1, if_pos (by decide)]; rfl
/-- part 0 of a node at depth a, last b -/
theorem ec_hd0 {M : em_M} {e kd a b : Nat} (he : e < 800) (h : M.1 2 e = nI kd) (hkd : kd < 20) (d : M.1 5 e = nI a) (l : M.1 6 e = nI b) (hb : b ≤ 1) : (∀ q kp, M.1 4 (3 * e) = nI q → q < 800 → e < q → M.1 2 q = nI kp → kp < 20 → et_X2_handDown_2_0 M (nI e) = (et_X2_handDown_2_1 (ep_hd M q (a + if kp = 14 then 0 else 1) (if b = 0 then 0 else ep_il kd (M.1 4 (3 * e + 1)) 0)) (nI e))) ∧ (M.1 4 (3 * e) = -1 → et_X2_handDown_2_0 M (nI e) = (et_X2_handDown_2_1 M (nI e))) := by
  have p2 : et_X2_part M (nI e) (0 : Int32) = M.1 4 (3 * e) := eq_part (k := 0) he (by omega)
  rw [et_X2_handDown_2_0]
  dsimp only
  refine ⟨fun q kp e1 e2 e3 e4 e5 => ?_, fun e1 => ?_⟩
  · have kq : et_X2_kind M (nI q) = nI kp := by rw [et_X2_kind, eq_atS _ e2 (by omega)]; exact e4
    have e14 : (nI kp = (14 : Int32)) ↔ (kp = 14) := nI_eq (b := 14) (by omega) (by omega)
    rw [p2.trans e1, if_neg (nI_pos (by omega)), kq, eq_atS _ he (by omega), d]
    have st : ∀ x : Nat, et_X2_handDown_46_0 M (nI e) (nI q) (nI x) (nI a) (nI q) = (et_X2_handDown_2_1 (ep_hd M q (a + x) (if b = 0 then 0 else ep_il kd (M.1 4 (3 * e + 1)) 0)) (nI e)) := by
      intro x
      have il := ec_il (M := em_pI M 5 q (nI (a + x))) (k := 0) he (by omega) (by rw [ef_pI' _ _ _ _ (by omega)]; exact h) hkd
      rw [ef_pI' M 5 _ _ (show 4 ≠ 5 by omega)] at il
      have il' : et_X2_isLast (em_pI M 5 q (nI (a + x))) (nI e) (0 : Int32) = nI (ep_il kd (M.1 4 (3 * e + 1)) 0) := il
      have t : ∀ y : Nat, et_X2_handDown_80_0 (em_pI M 5 q (nI (a + x))) (nI e) (nI q) (nI y) (nI q) = (et_X2_handDown_2_1 (ep_hd M q (a + x) y) (nI e)) := by
        intro y
        rw [et_X2_handDown_80_0, eq_putS _ e2 (by omega)]
        rfl
      have l6 : (em_pI M 5 q (nI (a + x))).1 6 e = nI b := by rw [ef_pI' _ _ _ _ (by omega)]; exact l
      rw [et_X2_handDown_46_0, nI_add, eq_putS _ e2 (by omega)]
      dsimp only
      rw [eq_atS _ he (by omega), l6, il']
      by_cases z : b = 0
      · rw [if_pos (by rw [z]; rfl), if_pos z]; exact t 0
      · rw [if_neg (nI_ne0 (by omega) (by omega)), if_neg z]
        rcases ep_il1 kd (M.1 4 (3 * e + 1)) 0 with y | y
        · rw [y, if_pos (show nI 0 = 0 from rfl)]; exact t 0
        · rw [y, if_neg (show ¬ nI 1 = 0 by decide)]; exact t 1
    by_cases z : kp = 14
    · rw [if_pos (e14.mpr z), if_pos z]; exact st 0
    · rw [if_neg (fun y => z (e14.mp y)), if_neg z]; exact st 1
  · rw [p2.trans e1, if_pos (by decide)]; rfl
