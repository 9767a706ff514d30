/-! Lines.end over every E -/
theorem ep_Cd_T4 {nl d e hi m mh x y kd sg np a b f0 f1 f2 f3 : Nat} {c mm xs ys : Nat → Nat} {C0 G M : em_M} (hl : nl < 8) (ih : ep_Cd nl d C0 G) (t : ep_T4 (ep_Tr C0 G d) C0 G e hi m mh x y kd sg np c mm xs ys) (h8 : hi ≤ 800) (k2 : M.1 2 = C0.1 2) (k4 : M.1 4 = C0.1 4) (dd : M.1 5 e = nI a) (l : M.1 6 e = nI b) (hb : b ≤ 1) (ha : a + (d + 1) ≤ 20) (h1 : f1 ≤ 20) (h : ep_Ft nl f0 f1 f2 f3 M) : ep_Ft nl (f0 + (mh - m)) (max f1 (a + x - 1)) (f2 + ep_ct (G.1 122) m (mh - m)) (f3 + b * y) (ep_it nl (hi - e) e M) ∧ ep_Fr nl e hi M (ep_it nl (hi - e) e M) := by
  have K := t.hK
  have kb : kd < 20 := by unfold ep_K at K; omega
  have np1 : 1 ≤ np := by unfold ep_K at K; omega
  have c0 := t.c0
  have m0 := t.m0
  obtain ⟨hh1, hh2, hh3⟩ := t.hh
  have st : ∀ i, i ≤ np → e + 1 ≤ c i ∧ m + 1 ≤ mm i := by
    intro k
    induction k with
    | zero => intro _; rw [c0, m0]; omega
    | succ k ik =>
      intro hk
      have i := ik (by omega)
      have t := ep_Tr_lt _ _ _ _ _ _ _ (t.h0 k (by omega)).2.2
      omega
  have up' : ∀ j, j ≤ np → c (np - j) ≤ c np ∧ mm (np - j) ≤ mm np := by
    intro j
    induction j with
    | zero => intro _; exact ⟨Nat.le_refl _, Nat.le_refl _⟩
    | succ j ij =>
      intro hj
      have i := ij (by omega)
      have t := ep_Tr_lt _ _ _ _ _ _ _ (t.h0 (np - (j + 1)) (by omega)).2.2
      rw [show np - (j + 1) + 1 = np - j by omega] at t
      omega
  have up : ∀ i, i ≤ np → e + 1 ≤ c i ∧ c i ≤ hi ∧ (i < np → c i < c (i + 1)) := by
    intro i hi'
    have a1 := up' (np - i) (by omega)
    rw [show np - (np - i) = i by omega] at a1
    refine ⟨(st i hi').1, by omega, fun q => ?_⟩
    have t := ep_Tr_lt _ _ _ _ _ _ _ (t.h0 i q).2.2
    omega
  have mup : ∀ i, i ≤ np → m + 1 ≤ mm i ∧ mm i ≤ mh ∧ (i < np → mm i < mm (i + 1)) := by
    intro i hi'
    have a1 := up' (np - i) (by omega)
    rw [show np - (np - i) = i by omega] at a1
    refine ⟨(st i hi').2, by omega, fun q => ?_⟩
    have t := ep_Tr_lt _ _ _ _ _ _ _ (t.h0 i q).2.2
    omega
  obtain ⟨M0, e0, T0, F0, R0⟩ := ep_hds t up h8 k2 k4 dd l hb h
  have u0 := up 0 (by omega)
  have e8 : e < 800 := by have := u0.2.1; omega
  have hk : M0.1 2 e = nI kd := by rw [F0.f1 2 (by omega), k2]; exact t.hk
  have d0 : M0.1 5 e = nI a := by rw [(F0.f5 e (by omega)).1]; exact dd
  have l0 : M0.1 6 e = nI b := by rw [(F0.f5 e (by omega)).2]; exact l
  have n14 : kd ≠ 14 := by unfold ep_K at K; omega
  have cn := ec_cn hl e8 kb hk d0 l0 (by omega) (by omega) T0
  rw [if_neg n14] at cn
  have F1 : ep_Fr nl e hi M (ep_cn M0 nl (f0 + 1) (max f1 a) (f2 + if kd = 13 then 1 else 0) (f3 + if kd = 4 then b else 0)) := ep_Fr_tr F0 ep_cn_fr (Nat.le_refl _) (Nat.le_refl _) (Nat.le_refl _) (Nat.le_refl _)
  have T1 := ep_cn_ft (nl := nl) (f0 := f0 + 1) (f1 := max f1 a) (f2 := f2 + if kd = 13 then 1 else 0) (f3 := f3 + if kd = 4 then b else 0) (M := M0)
  have R1 : ∀ j, j < np → (ep_cn M0 nl (f0 + 1) (max f1 a) (f2 + if kd = 13 then 1 else 0) (f3 + if kd = 4 then b else 0)).1 5 (c j) = nI (a + 1) ∧ (ep_cn M0 nl (f0 + 1) (max f1 a) (f2 + if kd = 13 then 1 else 0) (f3 + if kd = 4 then b else 0)).1 6 (c j) = nI (if b = 0 then 0 else ep_il kd (C0.1 4 (3 * e + 1)) j) := by
    intro j hj
    have r := R0 j hj
    refine ⟨?_, ?_⟩
    · simp (disch := omega) only [ep_cn, ef_pI']; exact r.1
    · simp (disch := omega) only [ep_cn, ef_pI']; exact r.2
  have E1 : ep_it nl (e + 1 - e) e M = ep_cn M0 nl (f0 + 1) (max f1 a) (f2 + if kd = 13 then 1 else 0) (f3 + if kd = 4 then b else 0) := by
    rw [ep_it_one, e0, cn]
  rw [ep_it_to nl (show e ≤ e + 1 by omega) (show e + 1 ≤ hi by have := u0.2.1; omega), E1]
  generalize ep_cn M0 nl (f0 + 1) (max f1 a) (f2 + if kd = 13 then 1 else 0) (f3 + if kd = 4 then b else 0) = M1 at F1 T1 R1
  have seq : ∀ j, j ≤ np → ep_Ft nl (f0 + 1 + (mm j - (m + 1))) (ep_MX f1 a xs j) ((f2 + if kd = 13 then 1 else 0) + ep_ct (G.1 122) (m + 1) (mm j - (m + 1))) ((f3 + if kd = 4 then b else 0) + ep_SM (fun k => if b = 0 then 0 else ep_il kd (C0.1 4 (3 * e + 1)) k) ys j) (ep_it nl (c j - (e + 1)) (e + 1) M1) ∧ ep_MX f1 a xs j ≤ 20 ∧ ep_Fr nl e hi M (ep_it nl (c j - (e + 1)) (e + 1) M1) ∧ ∀ i, j ≤ i → i < np → (ep_it nl (c j - (e + 1)) (e + 1) M1).1 5 (c i) = nI (a + 1) ∧ (ep_it nl (c j - (e + 1)) (e + 1) M1).1 6 (c i) = nI (if b = 0 then 0 else ep_il kd (C0.1 4 (3 * e + 1)) i) := by
    intro j
    induction j with
    | zero =>
      intro _
      rw [c0, m0, Nat.sub_self, Nat.sub_self, ep_it]
      exact ⟨ep_Ft_to T1 (by omega) rfl rfl rfl, by rw [ep_MX]; omega, F1, fun i _ hi => R1 i hi⟩
    | succ j ij =>
      intro hj
      obtain ⟨i1, i2, i3, i4⟩ := ij (by omega)
      have uj := up j (by omega)
      have uj1 := up (j + 1) hj
      have vj := mup j (by omega)
      have vj1 := mup (j + 1) hj
      have ujl := uj.2.2 (by omega)
      have vjl := vj.2.2 (by omega)
      have tp := (t.h0 j (by omega)).2.2
      have tl := ep_Tr_lt _ _ _ _ _ _ _ tp
      rw [ep_it_to nl (show e + 1 ≤ c j by omega) (show c j ≤ c (j + 1) by omega)]
      generalize ep_it nl (c j - (e + 1)) (e + 1) M1 = Mj at i1 i3 i4 ⊢
      have bj : (if b = 0 then 0 else ep_il kd (C0.1 4 (3 * e + 1)) j) ≤ 1 := by
        by_cases q : b = 0
        · rw [if_pos q]; omega
        · rw [if_neg q]; have := ep_il1 kd (C0.1 4 (3 * e + 1)) j; omega
      have r := i4 j (Nat.le_refl _) (by omega)
      obtain ⟨w1, w2⟩ := ih _ _ _ _ _ _ tp (by omega) Mj (a + 1) _ _ _ _ _ ((i3.f1 2 (by omega)).trans k2) ((i3.f1 4 (by omega)).trans k4) r.1 r.2 bj (by omega) i2 i1
      refine ⟨ep_Ft_to w1 (by omega) rfl ?_ ?_, ?_, ep_Fr_tr i3 w2 (Nat.le_refl _) (Nat.le_refl _) (by omega) (by omega), fun i hi1 hi2 => ?_⟩
      · have := ep_ct_to (G.1 122) (show m + 1 ≤ mm j by omega) (show mm j ≤ mm (j + 1) by omega)
        omega
      · rw [ep_SM]; omega
      · rw [ep_MX]; omega
      · have ui := up i (by omega)
        have lo : c (j + 1) ≤ c i := by
          have : ∀ k, j + 1 + k ≤ np → c (j + 1) ≤ c (j + 1 + k) := by
            intro k
            induction k with
            | zero => intro _; exact Nat.le_refl _
            | succ k ik =>
              intro hk
              have a1 := ik (by omega)
              have a2 := (up (j + 1 + k) (by omega)).2.2 (by omega)
              rw [show j + 1 + (k + 1) = j + 1 + k + 1 by omega]
              omega
          have := this (i - (j + 1)) (by omega)
          rw [show j + 1 + (i - (j + 1)) = i by omega] at this
          exact this
        have f := w2.f5 (c i) (by omega)
        rw [f.1, f.2]
        exact i4 i (by omega) hi2
  obtain ⟨s1, -, s3, -⟩ := seq np (Nat.le_refl _)
  obtain ⟨g1, g2, g3⟩ := ep_T4fin (b := b) (f1 := f1) (a := a) (p1 := C0.1 4 (3 * e + 1)) K hh3 hb
  rw [← hh1, ← hh2] at s1
  rw [← hh1] at s3
  have ml := mup 0 (by omega)
  refine ⟨ep_Ft_to s1 (by omega) g1 ?_ (by omega), s3⟩
  have ct := ep_ct_to (G.1 122) (show m ≤ m + 1 by omega) (show m + 1 ≤ mh by omega)
  rw [ep_ct1, t.hs] at ct
  have sgq : (nI sg = nI 64) = (sg = 64) := propext (nI_eq (by unfold ep_K at K; omega) (by omega))
  simp only [sgq] at ct
  omega
/-- the deepest of a LIST so far -/
def ep_MY (f1 a : Nat) (xs : Nat → Nat) : Nat → Nat
  | 0 => f1
  | j + 1 => max (max (ep_MY f1 a xs j) a) (a + 1 + xs j - 1)
theorem ep_MYle {f1 a : Nat} {xs : Nat → Nat} : ∀ j B, ep_MY f1 a xs j ≤ B ↔ (f1 ≤ B ∧ ∀ i, i < j → a ≤ B ∧ a + xs i ≤ B) := by
  intro j
  induction j with
  | zero => intro B; rw [ep_MY]; exact ⟨fun h => ⟨h, fun i hi => absurd hi (by omega)⟩, fun h => h.1⟩
  | succ j ih =>
    intro B
    rw [ep_MY, Nat.max_le, Nat.max_le, ih]
    constructor
    · rintro ⟨⟨⟨h1, h2⟩, h3⟩, h4⟩
      refine ⟨h1, fun i hi => ?_⟩
      by_cases q : i = j
      · subst q; omega
      · exact h2 i (by omega)
    · rintro ⟨h1, h2⟩
      have h3 := h2 j (by omega)
      exact ⟨⟨⟨h1, fun i hi => h2 i (by omega)⟩, h3.1⟩, by omega⟩
theorem ep_mxle {n : Nat} {xs : Nat → Nat} : ∀ k B, k < n → (ep_mx xs n k ≤ B ↔ ∀ i, n - 1 - k ≤ i → i < n → 1 + xs i ≤ B) := by
  intro k
  induction k with
  | zero =>
    intro B hk
    rw [ep_mx]
    constructor
    · intro h i i1 i2
      obtain rfl : i = n - 1 := by omega
      exact h
    · intro h
      exact h (n - 1) (by omega) (by omega)
  | succ k ih =>
    intro B hk
    rw [ep_mx, Nat.max_le, ih B (by omega)]
    constructor
    · rintro ⟨h1, h2⟩ i i1 i2
      by_cases q : i = n - 1 - (k + 1)
      · rw [q]; exact h1
      · exact h2 i (by omega) i2
    · intro h
      exact ⟨h _ (by omega) (by omega), fun i i1 i2 => h i (by omega) i2⟩
theorem ep_MYfin {f1 a n : Nat} {xs : Nat → Nat} (n1 : 1 ≤ n) : ep_MY f1 a xs n = max f1 (a + ep_mx xs n (n - 1) - 1) := by
  have m1 := (ep_mxle (n := n) (xs := xs) (n - 1) (ep_mx xs n (n - 1)) (by omega)).mp (Nat.le_refl _)
  have y1 := (ep_MYle (f1 := f1) (a := a) (xs := xs) n (ep_MY f1 a xs n)).mp (Nat.le_refl _)
  refine Nat.le_antisymm ?_ ?_
  · rw [ep_MYle]
    refine ⟨by omega, fun i hi => ?_⟩
    have := m1 i (by omega) hi
    omega
  · have a1 := y1.2 0 (by omega)
    have m2 := (ep_mxle (n := n) (xs := xs) (n - 1) (ep_MY f1 a xs n + 1 - a) (by omega)).mpr (fun i _ hi => by have := y1.2 i hi; omega)
    omega
/-- a node of a LIST hands down -/
theorem ep_hdl {nl d e hi m mh x y n a b f0 f1 f2 f3 i : Nat} {r mm xs ys : Nat → Nat} {C0 G M : em_M} (t : ep_T3 (ep_Tr C0 G d) C0 G e hi m mh x y n r mm xs ys) (hi1 : i < n) (h8 : hi ≤ 800) (k2 : M.1 2 = C0.1 2) (k4 : M.1 4 = C0.1 4) (dd : M.1 5 (r i) = nI a) (l : M.1 6 (r i) = nI b) (hb : b ≤ 1) (h : ep_Ft nl f0 f1 f2 f3 M) : ∃ M0, et_X2_handDown M (nI (r i)) = M0 ∧ ep_Ft nl f0 f1 f2 f3 M0 ∧ ep_Fr nl e hi M M0 ∧ (M0.1 5 (r i) = nI a ∧ M0.1 6 (r i) = nI b) ∧ (M0.1 5 (r i + 1) = nI (a + 1) ∧ M0.1 6 (r i + 1) = nI (if b = 0 then 0 else if i + 1 < n then 0 else 1)) ∧ (i + 1 < n → M0.1 5 (r (i + 1)) = nI a ∧ M0.1 6 (r (i + 1)) = nI b) := by
  have st := ep_rr (fun i hi => (t.h0 i hi).2.2.2.2)
  have si := st i (by omega)
  have sl := si.2.2.2.2 hi1
  obtain ⟨hh1, hh2, -⟩ := t.hh
  have r0 := t.r0
  have s1 := st (i + 1) (by omega)
  have e8 : r i < 800 := by omega
  obtain ⟨h1, h2, h3, -, tp⟩ := t.h0 i hi1
  have hkk := t.hk i hi1
  obtain ⟨kd, hk, kd3⟩ : ∃ kd, C0.1 2 (r i) = nI kd ∧ (kd = 3 ∨ kd = 14) := by
    by_cases q : i = 0
    · rw [if_pos q] at hkk; exact ⟨3, hkk, Or.inl rfl⟩
    · rw [if_neg q] at hkk; exact ⟨14, hkk, Or.inr rfl⟩
  have kb : kd < 20 := by omega
  have hk' : M.1 2 (r i) = nI kd := by rw [k2]; exact hk
  obtain ⟨kp0, a1, a2, a3⟩ := ep_Tr_kd tp
  rw [et_X2_handDown]
  have s0 := (ec_hd0 e8 hk' kb dd l hb).1 (r i + 1) kp0 (by rw [k4]; exact h1) (by omega) (by omega) (by rw [k2]; exact a1) a2
  have il0 : ep_il kd (M.1 4 (3 * r i + 1)) 0 = if i + 1 < n then 0 else 1 := by
    rw [k4, h2]
    unfold ep_il
    rw [if_neg (by omega), if_neg (by omega), if_pos kd3, if_neg (by omega)]
    by_cases q : i + 1 < n
    · rw [if_pos q, if_pos q, if_pos (nI_pos' (by omega))]
    · rw [if_neg q, if_neg q, if_neg (by decide)]
  rw [if_neg a3, il0] at s0
  rw [s0]
  have F1 : ep_Fr nl e hi M (ep_hd M (r i + 1) (a + 1) (if b = 0 then 0 else if i + 1 < n then 0 else 1)) := ep_hd_fr (by omega) (by omega)
  have T1 := ep_hd_ft (q := r i + 1) (a := a + 1) (b := if b = 0 then 0 else if i + 1 < n then 0 else 1) h
  have V1 : (ep_hd M (r i + 1) (a + 1) (if b = 0 then 0 else if i + 1 < n then 0 else 1)).1 5 (r i + 1) = nI (a + 1) ∧ (ep_hd M (r i + 1) (a + 1) (if b = 0 then 0 else if i + 1 < n then 0 else 1)).1 6 (r i + 1) = nI (if b = 0 then 0 else if i + 1 < n then 0 else 1) := by
    refine ⟨?_, ?_⟩
    · simp (disch := omega) only [ep_hd, ef_pI', ef_pIs]
    · simp (disch := omega) only [ep_hd, ef_pIs]
  have d1 : (ep_hd M (r i + 1) (a + 1) (if b = 0 then 0 else if i + 1 < n then 0 else 1)).1 5 (r i) = nI a := by
    simp (disch := omega) only [ep_hd, ef_pI', ef_pIk]; exact dd
  have l1 : (ep_hd M (r i + 1) (a + 1) (if b = 0 then 0 else if i + 1 < n then 0 else 1)).1 6 (r i) = nI b := by
    simp (disch := omega) only [ep_hd, ef_pI', ef_pIk]; exact l
  generalize ep_hd M (r i + 1) (a + 1) (if b = 0 then 0 else if i + 1 < n then 0 else 1) = M1 at F1 T1 V1 d1 l1 ⊢
  have k21 : M1.1 2 = C0.1 2 := (F1.f1 2 (by omega)).trans k2
  have k41 : M1.1 4 = C0.1 4 := (F1.f1 4 (by omega)).trans k4
  have hk1 : M1.1 2 (r i) = nI kd := by rw [k21]; exact hk
  have H1 := ec_hd1 e8 hk1 kb d1 l1 hb
  by_cases q : i + 1 < n
  · rw [if_pos q] at h2
    have s2 := st (i + 1 + 1) (by omega)
    have sl2 := s1.2.2.2.2 q
    have kq : C0.1 2 (r (i + 1)) = nI 14 := by
      have := t.hk (i + 1) q
      rw [if_neg (by omega)] at this
      exact this
    have g1 := H1.1 (r (i + 1)) 14 (by rw [k41]; exact h2) (by omega) (by omega) (by rw [k21]; exact kq) (by omega)
    have il1 : ep_il kd (M1.1 4 (3 * r i + 1)) 1 = 1 := by
      unfold ep_il
      rw [if_neg (by omega), if_neg (by omega), if_pos kd3, if_pos rfl]
    rw [if_pos rfl, il1, show a + 0 = a from rfl, show (if b = 0 then 0 else 1) = b by
      by_cases z : b = 0
      · rw [if_pos z, z]
      · rw [if_neg z]; omega] at g1
    rw [g1]
    have F2 : ep_Fr nl e hi M1 (ep_hd M1 (r (i + 1)) a b) := ep_hd_fr (by omega) (by omega)
    have d2 : (ep_hd M1 (r (i + 1)) a b).1 5 (r i) = nI a := by
      simp (disch := omega) only [ep_hd, ef_pI', ef_pIk]; exact d1
    have l2 : (ep_hd M1 (r (i + 1)) a b).1 6 (r i) = nI b := by
      simp (disch := omega) only [ep_hd, ef_pI', ef_pIk]; exact l1
    have e2 := (ec_hd2 e8 (show (ep_hd M1 (r (i + 1)) a b).1 2 (r i) = nI kd by rw [F2.f1 2 (by omega)]; exact hk1) kb d2 l2 hb).2 (by rw [F2.f1 4 (by omega), k41]; exact h3)
    rw [e2, et_X2_handDown_2_3]
    refine ⟨_, rfl, ep_hd_ft T1, ep_Fr_tr F1 F2 (Nat.le_refl _) (Nat.le_refl _) (Nat.le_refl _) (Nat.le_refl _), ⟨d2, l2⟩, ⟨?_, ?_⟩, fun _ => ⟨?_, ?_⟩⟩
    · simp (disch := omega) only [ep_hd, ef_pI', ef_pIk]; exact V1.1
    · simp (disch := omega) only [ep_hd, ef_pI', ef_pIk]; exact V1.2
    · simp (disch := omega) only [ep_hd, ef_pI', ef_pIs]
    · simp (disch := omega) only [ep_hd, ef_pIs]
  · rw [if_neg q] at h2
    have g1 := H1.2 (by rw [k41]; exact h2)
    have e2 := (ec_hd2 e8 hk1 kb d1 l1 hb).2 (by rw [k41]; exact h3)
    rw [g1, e2, et_X2_handDown_2_3]
    exact ⟨M1, rfl, T1, F1, ⟨d1, l1⟩, V1, fun z => absurd z q⟩
theorem ep_Cd_T3 {nl d e hi m mh x y n a b f0 f1 f2 f3 : Nat} {r mm xs ys : Nat → Nat} {C0 G M : em_M} (hl : nl < 8) (ih : ep_Cd nl d C0 G) (t : ep_T3 (ep_Tr C0 G d) C0 G e hi m mh x y n r mm xs ys) (h8 : hi ≤ 800) (k2 : M.1 2 = C0.1 2) (k4 : M.1 4 = C0.1 4) (dd : M.1 5 e = nI a) (l : M.1 6 e = nI b) (hb : b ≤ 1) (ha : a + (d + 1) ≤ 20) (h1 : f1 ≤ 20) (h : ep_Ft nl f0 f1 f2 f3 M) : ep_Ft nl (f0 + (mh - m)) (max f1 (a + x - 1)) (f2 + ep_ct (G.1 122) m (mh - m)) (f3 + b * y) (ep_it nl (hi - e) e M) ∧ ep_Fr nl e hi M (ep_it nl (hi - e) e M) := by
  have st := ep_rr (fun i hi => (t.h0 i hi).2.2.2.2)
  obtain ⟨hh1, hh2, hh3, hh4⟩ := t.hh
  have r0 := t.r0
  have m0 := t.m0
  have n1 := t.n1
  have n5 := t.n5
  have seq : ∀ j, j ≤ n → ep_Ft nl (f0 + (if j = 0 then 0 else 1) + (mm j - (m + 1))) (ep_MY f1 a xs j) (f2 + ep_ct (G.1 122) (m + 1) (mm j - (m + 1))) (f3 + ep_SM (fun k => if b = 0 then 0 else if k + 1 < n then 0 else 1) ys j) (ep_it nl (r j - e) e M) ∧ ep_MY f1 a xs j ≤ 20 ∧ ep_Fr nl e hi M (ep_it nl (r j - e) e M) ∧ (j < n → (ep_it nl (r j - e) e M).1 5 (r j) = nI a ∧ (ep_it nl (r j - e) e M).1 6 (r j) = nI b) := by
    intro j
    induction j with
    | zero =>
      intro _
      rw [r0, m0, Nat.sub_self, Nat.sub_self, ep_it, if_pos rfl]
      exact ⟨ep_Ft_to h (by omega) rfl rfl rfl, h1, ep_Fr_rf _ _ _ _, fun _ => ⟨dd, l⟩⟩
    | succ j ij =>
      intro hj
      obtain ⟨i1, i2, i3, i4⟩ := ij (by omega)
      have sj := st j (by omega)
      have sj1 := st (j + 1) hj
      have sl := sj.2.2.2.2 (by omega)
      have rj := i4 (by omega)
      rw [ep_it_to nl (show e ≤ r j by omega) (show r j ≤ r (j + 1) by omega)]
      generalize ep_it nl (r j - e) e M = Mj at i1 i3 rj ⊢
      have k2j : Mj.1 2 = C0.1 2 := (i3.f1 2 (by omega)).trans k2
      have k4j : Mj.1 4 = C0.1 4 := (i3.f1 4 (by omega)).trans k4
      obtain ⟨M0, e0, T0, F0, R0, R1, R2⟩ := ep_hdl t (by omega) h8 k2j k4j rj.1 rj.2 hb i1
      have hkk := t.hk j (by omega)
      obtain ⟨kd, hk, kd3⟩ : ∃ kd, C0.1 2 (r j) = nI kd ∧ ((j = 0 ∧ kd = 3) ∨ (j ≠ 0 ∧ kd = 14)) := by
        by_cases q : j = 0
        · rw [if_pos q] at hkk; exact ⟨3, hkk, Or.inl ⟨q, rfl⟩⟩
        · rw [if_neg q] at hkk; exact ⟨14, hkk, Or.inr ⟨q, rfl⟩⟩
      have hk0 : M0.1 2 (r j) = nI kd := by rw [F0.f1 2 (by omega), k2j]; exact hk
      have cn := ec_cn hl (show r j < 800 by omega) (show kd < 20 by omega) hk0 R0.1 R0.2 (by omega) (by omega) T0
      rw [if_neg (show ¬ kd = 13 by omega), if_neg (show ¬ kd = 4 by omega)] at cn
      have F1 : ep_Fr nl e hi M (ep_cn M0 nl (f0 + (if j = 0 then 0 else 1) + (mm j - (m + 1)) + if kd = 14 then 0 else 1) (max (ep_MY f1 a xs j) a) (f2 + ep_ct (G.1 122) (m + 1) (mm j - (m + 1)) + 0) (f3 + ep_SM (fun k => if b = 0 then 0 else if k + 1 < n then 0 else 1) ys j + 0)) := ep_Fr_tr (ep_Fr_tr i3 F0 (Nat.le_refl _) (Nat.le_refl _) (Nat.le_refl _) (Nat.le_refl _)) ep_cn_fr (Nat.le_refl _) (Nat.le_refl _) (Nat.le_refl _) (Nat.le_refl _)
      have T1 := ep_cn_ft (nl := nl) (f0 := f0 + (if j = 0 then 0 else 1) + (mm j - (m + 1)) + if kd = 14 then 0 else 1) (f1 := max (ep_MY f1 a xs j) a) (f2 := f2 + ep_ct (G.1 122) (m + 1) (mm j - (m + 1)) + 0) (f3 := f3 + ep_SM (fun k => if b = 0 then 0 else if k + 1 < n then 0 else 1) ys j + 0) (M := M0)
      have cf := ep_cn_fr (nl := nl) (f0 := f0 + (if j = 0 then 0 else 1) + (mm j - (m + 1)) + if kd = 14 then 0 else 1) (f1 := max (ep_MY f1 a xs j) a) (f2 := f2 + ep_ct (G.1 122) (m + 1) (mm j - (m + 1)) + 0) (f3 := f3 + ep_SM (fun k => if b = 0 then 0 else if k + 1 < n then 0 else 1) ys j + 0) (M := M0) (e := 0) (hi := 0)
      have E1 : ep_it nl (r j + 1 - r j) (r j) Mj = ep_cn M0 nl (f0 + (if j = 0 then 0 else 1) + (mm j - (m + 1)) + if kd = 14 then 0 else 1) (max (ep_MY f1 a xs j) a) (f2 + ep_ct (G.1 122) (m + 1) (mm j - (m + 1)) + 0) (f3 + ep_SM (fun k => if b = 0 then 0 else if k + 1 < n then 0 else 1) ys j + 0) := by
        rw [ep_it_one, e0, cn]
      rw [ep_it_to nl (show r j ≤ r j + 1 by omega) (show r j + 1 ≤ r (j + 1) by omega), E1]
      generalize ep_cn M0 nl (f0 + (if j = 0 then 0 else 1) + (mm j - (m + 1)) + if kd = 14 then 0 else 1) (max (ep_MY f1 a xs j) a) (f2 + ep_ct (G.1 122) (m + 1) (mm j - (m + 1)) + 0) (f3 + ep_SM (fun k => if b = 0 then 0 else if k + 1 < n then 0 else 1) ys j + 0) = M1 at F1 T1 cf ⊢
      have c5 := cf.f5 (r j + 1) (by omega)
      have tp := (t.h0 j (by omega)).2.2.2.2
      have tl := ep_Tr_lt _ _ _ _ _ _ _ tp
      have bj : (if b = 0 then 0 else if j + 1 < n then 0 else 1) ≤ 1 := by
        by_cases q : b = 0
        · rw [if_pos q]; omega
        · rw [if_neg q]
          by_cases q2 : j + 1 < n
          · rw [if_pos q2]; omega
          · rw [if_neg q2]; omega
      obtain ⟨w1, w2⟩ := ih _ _ _ _ _ _ tp (by omega) M1 (a + 1) _ _ _ _ _ ((F1.f1 2 (by omega)).trans k2) ((F1.f1 4 (by omega)).trans k4) (c5.1.trans R1.1) (c5.2.trans R1.2) bj (by omega) (by omega) T1
      refine ⟨ep_Ft_to w1 ?_ rfl ?_ ?_, ?_, ep_Fr_tr F1 w2 (Nat.le_refl _) (Nat.le_refl _) (by omega) (by omega), fun q => ?_⟩
      · rw [if_neg (show ¬ j + 1 = 0 by omega)]
        rcases kd3 with ⟨q1, q2⟩ | ⟨q1, q2⟩
        · rw [if_pos q1, if_neg (by omega)]; omega
        · rw [if_neg q1, if_pos q2]; omega
      · have := ep_ct_to (G.1 122) (show m + 1 ≤ mm j by omega) (show mm j ≤ mm (j + 1) by omega)
        omega
      · rw [ep_SM]; omega
      · rw [ep_MY]; omega
      · have f := w2.f5 (r (j + 1)) (by omega)
        have c6 := cf.f5 (r (j + 1)) (by omega)
        rw [f.1, f.2, c6.1, c6.2]
        exact R2 q
  obtain ⟨s1, -, s3, -⟩ := seq n (Nat.le_refl _)
  rw [← hh1, ← hh2] at s1
  rw [← hh1] at s3
  have sn := st n (Nat.le_refl _)
  have s0' := st 0 (by omega)
  have ml := s0'.2.2.2.2 (by omega)
  refine ⟨ep_Ft_to s1 ?_ ?_ ?_ ?_, s3⟩
  · rw [if_neg (by omega)]; omega
  · rw [ep_MYfin n1, hh3]
  · have ct := ep_ct_to (G.1 122) (show m ≤ m + 1 by omega) (show m + 1 ≤ mh by omega)
    rw [ep_ct1, t.hs, if_neg (show ¬ nI 91 = nI 64 by decide)] at ct
    omega
  · have z : ∀ j, j < n → ep_SM (fun k => if b = 0 then 0 else if k + 1 < n then 0 else 1) ys j = 0 := by
      intro j
      induction j with
      | zero => intro _; rfl
      | succ j ij =>
        intro hj
        rw [ep_SM, ij (by omega), if_pos hj, ite_self, Nat.zero_mul]
    obtain ⟨n', rfl⟩ : ∃ k, n = k + 1 := ⟨n - 1, by omega⟩
    rw [ep_SM, z n' (by omega), if_neg (show ¬ n' + 1 < n' + 1 by omega), hh4, Nat.add_sub_cancel]
    by_cases q : b = 0
    · rw [if_pos q, q, Nat.zero_mul]
    · have b1 : b = 1 := by omega
      rw [if_neg q, b1]; omega
theorem ep_CdA (nl : Nat) (hl : nl < 8) (C0 G : em_M) : ∀ d, ep_Cd nl d C0 G := by
  intro d
  induction d with
  | zero => intro e hi m mh x y t; exact absurd t id
  | succ d ih =>
    intro e hi m mh x y t h8 M a b f0 f1 f2 f3 k2 k4 dd l hb ha h1 h
    rcases t with q | ⟨v, q⟩ | ⟨n, r, mm, xs, ys, q⟩ | ⟨kd, sg, np, c, mm, xs, ys, q⟩
    · obtain ⟨g1, g2, g3, g4⟩ := q.hh
      subst g1 g2 g3 g4
      obtain ⟨w1, w2⟩ := ep_Cd_leaf hl (by omega) (Or.inl rfl) (by rw [k2]; exact q.hk) (fun j hj => by rw [k4]; exact q.h0 j hj) dd l hb (by omega) h1 h
      refine ⟨ep_Ft_to w1 (by omega) (by omega) ?_ (by omega), w2⟩
      rw [ep_ct1, q.hs, if_neg (show ¬ nI 48 = nI 64 by decide)]; omega
    · obtain ⟨g1, g2, g3, g4⟩ := q.hh
      subst g1 g2 g3 g4
      obtain ⟨w1, w2⟩ := ep_Cd_leaf hl (by omega) (Or.inr rfl) (by rw [k2]; exact q.hk) (fun j hj => by rw [k4]; exact q.h0 j hj) dd l hb (by omega) h1 h
      refine ⟨ep_Ft_to w1 (by omega) (by omega) ?_ (by omega), w2⟩
      rw [ep_ct1, q.hs, if_neg (show ¬ nI 97 = nI 64 by decide)]; omega
    · exact ep_Cd_T3 hl ih q h8 k2 k4 dd l hb ha h1 h
    · exact ep_Cd_T4 hl ih q h8 k2 k4 dd l hb ha h1 h
