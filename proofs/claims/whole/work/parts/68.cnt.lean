/-! the loop of Lines.end over an E -/
theorem ef_cn1 (M : em_M) (line e : Int32) : (et_X2_countIn M line e).1 1 = M.1 1 := by
  have a : ∀ (N : em_M) (x1 x2 x3 x4 s0 s1 s2 : Int32), (et_X2_countIn_144 N x1 x2 x3 x4 s0 s1 s2).1 1 = N.1 1 := fun N x1 x2 x3 x4 s0 s1 s2 => by
    rw [et_X2_countIn_144]; exact ef_put (by omega)
  have b : ∀ (N : em_M) (x1 x2 x3 x4 s0 s1 s2 : Int32), (et_X2_countIn_104 N x1 x2 x3 x4 s0 s1 s2).1 1 = N.1 1 := fun N x1 x2 x3 x4 s0 s1 s2 => by
    rw [et_X2_countIn_104]
    try dsimp only
    by_cases q : x3 = (4 : Int32)
    · rw [if_pos q, a]; exact ef_put (by omega)
    · rw [if_neg q, a]; exact ef_put (by omega)
  have c : ∀ (N : em_M) (x1 x2 x3 x4 s0 s1 s2 : Int32), (et_X2_countIn_37 N x1 x2 x3 x4 s0 s1 s2).1 1 = N.1 1 := fun N x1 x2 x3 x4 s0 s1 s2 => by
    rw [et_X2_countIn_37]
    try dsimp only
    by_cases q : x3 = (13 : Int32)
    · rw [if_pos q, b, ef_put (by omega)]; exact ef_put (by omega)
    · rw [if_neg q, b, ef_put (by omega)]; exact ef_put (by omega)
  rw [et_X2_countIn]
  try dsimp only
  by_cases q : et_X2_kind M e = (14 : Int32)
  · rw [if_pos q, c]
  · rw [if_neg q, c]
theorem ef_h2 (M : em_M) (x : Int32) : (et_X2_handDown_2_2 M x).1 1 = M.1 1 := by
  have z : ∀ N : em_M, (et_X2_handDown_83_2 N x).1 1 = N.1 1 := fun N => by
    rw [et_X2_handDown_83_2]; rw [et_X2_handDown_2_3]
  have a : ∀ (N : em_M) (x3 s0 s1 : Int32), (et_X2_handDown_80_2 N x x3 s0 s1).1 1 = N.1 1 := fun N x3 s0 s1 => by
    rw [et_X2_handDown_80_2]
    try dsimp only
    rw [z]; exact ef_put (by omega)
  have b : ∀ (N : em_M) (x3 s0 s1 s2 : Int32), (et_X2_handDown_46_2 N x x3 s0 s1 s2).1 1 = N.1 1 := fun N x3 s0 s1 s2 => by
    rw [et_X2_handDown_46_2]
    try dsimp only
    generalize et_X11_at 6 800 _ x = r
    generalize et_X2_isLast _ x _ = l
    by_cases q : r = 0
    · rw [if_pos q, a]; exact ef_put (by omega)
    · rw [if_neg q]
      by_cases q2 : l = 0
      · rw [if_pos q2, a]; exact ef_put (by omega)
      · rw [if_neg q2, a]; exact ef_put (by omega)
  rw [et_X2_handDown_2_2]
  try dsimp only
  generalize et_X2_part M x _ = r
  by_cases q : r < 0
  · rw [if_pos q, z]
  · rw [if_neg q]
    by_cases q2 : et_X2_kind M r = (14 : Int32)
    · rw [if_pos q2, b]
    · rw [if_neg q2, b]
theorem ef_h1 (M : em_M) (x : Int32) : (et_X2_handDown_2_1 M x).1 1 = M.1 1 := by
  have z : ∀ N : em_M, (et_X2_handDown_83_1 N x).1 1 = N.1 1 := fun N => by
    rw [et_X2_handDown_83_1]; rw [ef_h2]
  have a : ∀ (N : em_M) (x3 s0 s1 : Int32), (et_X2_handDown_80_1 N x x3 s0 s1).1 1 = N.1 1 := fun N x3 s0 s1 => by
    rw [et_X2_handDown_80_1]
    try dsimp only
    rw [z]; exact ef_put (by omega)
  have b : ∀ (N : em_M) (x3 s0 s1 s2 : Int32), (et_X2_handDown_46_1 N x x3 s0 s1 s2).1 1 = N.1 1 := fun N x3 s0 s1 s2 => by
    rw [et_X2_handDown_46_1]
    try dsimp only
    generalize et_X11_at 6 800 _ x = r
    generalize et_X2_isLast _ x _ = l
    by_cases q : r = 0
    · rw [if_pos q, a]; exact ef_put (by omega)
    · rw [if_neg q]
      by_cases q2 : l = 0
      · rw [if_pos q2, a]; exact ef_put (by omega)
      · rw [if_neg q2, a]; exact ef_put (by omega)
  rw [et_X2_handDown_2_1]
  try dsimp only
  generalize et_X2_part M x _ = r
  by_cases q : r < 0
  · rw [if_pos q, z]
  · rw [if_neg q]
    by_cases q2 : et_X2_kind M r = (14 : Int32)
    · rw [if_pos q2, b]
    · rw [if_neg q2, b]
theorem ef_h0 (M : em_M) (x : Int32) : (et_X2_handDown_2_0 M x).1 1 = M.1 1 := by
  have z : ∀ N : em_M, (et_X2_handDown_83_0 N x).1 1 = N.1 1 := fun N => by
    rw [et_X2_handDown_83_0]; rw [ef_h1]
  have a : ∀ (N : em_M) (x3 s0 s1 : Int32), (et_X2_handDown_80_0 N x x3 s0 s1).1 1 = N.1 1 := fun N x3 s0 s1 => by
    rw [et_X2_handDown_80_0]
    try dsimp only
    rw [z]; exact ef_put (by omega)
  have b : ∀ (N : em_M) (x3 s0 s1 s2 : Int32), (et_X2_handDown_46_0 N x x3 s0 s1 s2).1 1 = N.1 1 := fun N x3 s0 s1 s2 => by
    rw [et_X2_handDown_46_0]
    try dsimp only
    generalize et_X11_at 6 800 _ x = r
    generalize et_X2_isLast _ x _ = l
    by_cases q : r = 0
    · rw [if_pos q, a]; exact ef_put (by omega)
    · rw [if_neg q]
      by_cases q2 : l = 0
      · rw [if_pos q2, a]; exact ef_put (by omega)
      · rw [if_neg q2, a]; exact ef_put (by omega)
  rw [et_X2_handDown_2_0]
  try dsimp only
  generalize et_X2_part M x _ = r
  by_cases q : r < 0
  · rw [if_pos q, z]
  · rw [if_neg q]
    by_cases q2 : et_X2_kind M r = (14 : Int32)
    · rw [if_pos q2, b]
    · rw [if_neg q2, b]
def ep_it (nl : Nat) : Nat → Nat → em_M → em_M
  | 0, _, M => M
  | k + 1, e, M => ep_it nl k (e + 1) (et_X2_countIn (et_X2_handDown M (nI e)) (nI nl) (nI e))
theorem ep_it_add (nl k : Nat) : ∀ j e M, ep_it nl (j + k) e M = ep_it nl k (e + j) (ep_it nl j e M) := by
  intro j
  induction j with
  | zero => intro e M; rw [Nat.zero_add]; rfl
  | succ j ih =>
    intro e M
    rw [show j + 1 + k = j + k + 1 by omega, ep_it, ih, ep_it, show e + 1 + j = e + (j + 1) by omega]
theorem ep_it_to (nl : Nat) {e f g : Nat} (h1 : e ≤ f) (h2 : f ≤ g) (M : em_M) : ep_it nl (g - e) e M = ep_it nl (g - f) f (ep_it nl (f - e) e M) := by
  have := ep_it_add nl (g - f) (f - e) e M
  rw [show f - e + (g - f) = g - e by omega, show e + (f - e) = f by omega] at this
  exact this
theorem ep_it_one (nl e : Nat) (M : em_M) : ep_it nl (e + 1 - e) e M = et_X2_countIn (et_X2_handDown M (nI e)) (nI nl) (nI e) := by
  rw [show e + 1 - e = 0 + 1 by omega, ep_it, ep_it]
theorem ec_end44 (nl : Nat) : ∀ k e (M : em_M) fu, M.1 1 1 = nI (e + k) → e + k ≤ 800 → k < fu → et_X2_end_44 fu M (nI nl) (nI e) = (nI nl, ep_it nl k e M) := by
  intro k
  induction k with
  | zero =>
    intro e M fu h h8 hf
    obtain ⟨fu, rfl⟩ : ∃ x, fu = x + 1 := ⟨fu - 1, by omega⟩
    rw [et_X2_end_44, h, if_pos (nI_le (by omega) (by omega)), ep_it]
  | succ k ih =>
    intro e M fu h h8 hf
    obtain ⟨fu, rfl⟩ : ∃ x, fu = x + 1 := ⟨fu - 1, by omega⟩
    rw [et_X2_end_44, h, if_neg (nI_ge (by omega) (by omega)), ep_it, nI_1]
    try dsimp only
    refine ih (e + 1) _ fu ?_ (by omega) (by omega)
    rw [ef_cn1, et_X2_handDown, ef_h0, h, show e + (k + 1) = e + 1 + k by omega]
/-- the kind of an E's first node -/
theorem ep_Tr_kd {C G : em_M} {d e hi m mh x y : Nat} (t : ep_Tr C G d e hi m mh x y) : ∃ kp, C.1 2 e = nI kp ∧ kp < 20 ∧ kp ≠ 14 := by
  cases d with
  | zero => exact absurd t id
  | succ d =>
    rcases t with q | ⟨a, q⟩ | ⟨n, r, mm, xs, ys, q⟩ | ⟨kd, sg, np, c, mm, xs, ys, q⟩
    · exact ⟨11, q.hk, by omega, by omega⟩
    · exact ⟨12, q.hk, by omega, by omega⟩
    · have n1 := q.n1
      have k := q.hk 0 (by omega)
      rw [q.r0, if_pos rfl] at k
      exact ⟨3, k, by omega, by omega⟩
    · have K := q.hK
      unfold ep_K at K
      exact ⟨kd, q.hk, by omega, by omega⟩
/-- the deepest so far, and the last calls so far -/
def ep_MX (f1 a : Nat) (xs : Nat → Nat) : Nat → Nat
  | 0 => max f1 a
  | j + 1 => max (ep_MX f1 a xs j) (a + 1 + xs j - 1)
def ep_SM (bb ys : Nat → Nat) : Nat → Nat
  | 0 => 0
  | j + 1 => ep_SM bb ys j + bb j * ys j
theorem ep_T4fin {kd sg np a b f1 x y : Nat} {xs ys : Nat → Nat} {p1 : Int32} (K : ep_K kd sg np) (e : ep_xy kd xs ys x y) (hb : b ≤ 1) : ep_MX f1 a xs np = max f1 (a + x - 1) ∧ (if kd = 4 then b else 0) + ep_SM (fun k => if b = 0 then 0 else ep_il kd p1 k) ys np = b * y ∧ (if kd = 13 then 1 else 0) = (if sg = 64 then 1 else 0) := by
  have hb' : b = 0 ∨ b = 1 := by omega
  unfold ep_K at K
  unfold ep_xy at e
  refine ⟨?_, ?_, ?_⟩
  · rcases e with ⟨k, x1, -⟩ | ⟨k, x1, -⟩ | ⟨k, x1, -⟩ | ⟨k, x1, -⟩ | ⟨k, x1, -⟩ | ⟨k, x1, -⟩ | ⟨k, x1, -⟩
    · obtain rfl : np = 2 := by omega
      rw [ep_MX, ep_MX, ep_MX]; omega
    · obtain rfl : np = 3 := by omega
      rw [ep_MX, ep_MX, ep_MX, ep_MX]; omega
    · obtain rfl : np = 2 := by omega
      rw [ep_MX, ep_MX, ep_MX]; omega
    · obtain rfl : np = 1 := by omega
      rw [ep_MX, ep_MX]; omega
    · obtain rfl : np = 1 := by omega
      rw [ep_MX, ep_MX]; omega
    · obtain rfl : np = 3 := by omega
      rw [ep_MX, ep_MX, ep_MX, ep_MX]; omega
    · obtain rfl : np = 1 := by omega
      rw [ep_MX, ep_MX]; omega
  · have i0 : ∀ q k, ep_il 0 q k = 0 := fun _ _ => rfl
    have i10 : ∀ q, ep_il 1 q 0 = 0 := fun _ => rfl
    have i11 : ∀ q, ep_il 1 q 1 = 1 := fun _ => rfl
    have i12 : ∀ q, ep_il 1 q 2 = 1 := fun _ => rfl
    have i20 : ∀ q, ep_il 2 q 0 = 0 := fun _ => rfl
    have i21 : ∀ q, ep_il 2 q 1 = 1 := fun _ => rfl
    have i4 : ∀ q k, ep_il 4 q k = 0 := fun _ _ => rfl
    have i5 : ∀ q k, ep_il 5 q k = 0 := fun _ _ => rfl
    have i6 : ∀ q k, ep_il 6 q k = 0 := fun _ _ => rfl
    have i7 : ∀ q k, ep_il 7 q k = 0 := fun _ _ => rfl
    have i8 : ∀ q k, ep_il 8 q k = 0 := fun _ _ => rfl
    have i13 : ∀ q k, ep_il 13 q k = 1 := fun _ _ => rfl
    have z4 : ∀ k, k ≠ 4 → (if k = 4 then b else 0) = 0 := fun k hk => if_neg hk
    have b0 : ∀ n, b = 0 → ep_SM (fun k => if b = 0 then 0 else ep_il kd p1 k) ys n = 0 := by
      intro n q
      induction n with
      | zero => rfl
      | succ n ih => rw [ep_SM, ih, if_pos q, Nat.zero_mul]
    rcases hb' with q | q
    · rw [b0 np q, q, Nat.zero_mul]
      by_cases k : kd = 4
      · rw [if_pos k]
      · rw [if_neg k]
    · have n1 : ¬ (1 : Nat) = 0 := by omega
      rw [q, Nat.one_mul]
      rcases e with ⟨k, -, y1⟩ | ⟨k, -, y1⟩ | ⟨k, -, y1⟩ | ⟨k, -, y1⟩ | ⟨k, -, y1⟩ | ⟨k, -, y1⟩ | ⟨k, -, y1⟩
      · obtain rfl : np = 2 := by omega
        subst k
        rw [show (if (0 : Nat) = 4 then 1 else 0) = 0 from rfl]
        simp only [ep_SM, i0, if_neg n1]; omega
      · obtain rfl : np = 3 := by omega
        subst k
        rw [show (if (1 : Nat) = 4 then 1 else 0) = 0 from rfl]
        simp only [ep_SM, i10, i11, i12, if_neg n1]; omega
      · obtain rfl : np = 2 := by omega
        subst k
        rw [show (if (2 : Nat) = 4 then 1 else 0) = 0 from rfl]
        simp only [ep_SM, i20, i21, if_neg n1]; omega
      · obtain rfl : np = 1 := by omega
        subst k
        rw [show (if (4 : Nat) = 4 then 1 else 0) = 1 from rfl]
        simp only [ep_SM, i4, if_neg n1]; omega
      · obtain rfl : np = 1 := by omega
        rcases k with k | k | k
        · subst k
          rw [show (if (5 : Nat) = 4 then 1 else 0) = 0 from rfl]
          simp only [ep_SM, i5, if_neg n1]; omega
        · subst k
          rw [show (if (6 : Nat) = 4 then 1 else 0) = 0 from rfl]
          simp only [ep_SM, i6, if_neg n1]; omega
        · subst k
          rw [show (if (7 : Nat) = 4 then 1 else 0) = 0 from rfl]
          simp only [ep_SM, i7, if_neg n1]; omega
      · obtain rfl : np = 3 := by omega
        subst k
        rw [show (if (8 : Nat) = 4 then 1 else 0) = 0 from rfl]
        simp only [ep_SM, i8, if_neg n1]; omega
      · obtain rfl : np = 1 := by omega
        subst k
        rw [show (if (13 : Nat) = 4 then 1 else 0) = 0 from rfl]
        simp only [ep_SM, i13, if_neg n1]; omega
  · by_cases k : kd = 13
    · rw [if_pos k, if_pos (by omega)]
    · rw [if_neg k, if_neg (by omega)]
/-- what is counted over an E -/
def ep_Cd (nl d : Nat) (C0 G : em_M) : Prop := ∀ e hi m mh x y, ep_Tr C0 G d e hi m mh x y → hi ≤ 800 → ∀ (M : em_M) (a b f0 f1 f2 f3 : Nat), M.1 2 = C0.1 2 → M.1 4 = C0.1 4 → M.1 5 e = nI a → M.1 6 e = nI b → b ≤ 1 → a + d ≤ 20 → f1 ≤ 20 → ep_Ft nl f0 f1 f2 f3 M → ep_Ft nl (f0 + (mh - m)) (max f1 (a + x - 1)) (f2 + ep_ct (G.1 122) m (mh - m)) (f3 + b * y) (ep_it nl (hi - e) e M) ∧ ep_Fr nl e hi M (ep_it nl (hi - e) e M)
theorem ep_Ft_to {nl f0 f1 f2 f3 g0 g1 g2 g3 : Nat} {M : em_M} (h : ep_Ft nl f0 f1 f2 f3 M) (e0 : f0 = g0) (e1 : f1 = g1) (e2 : f2 = g2) (e3 : f3 = g3) : ep_Ft nl g0 g1 g2 g3 M := by
  subst e0 e1 e2 e3; exact h
/-- a leaf is counted -/
theorem ep_Cd_leaf {nl e kd a b f0 f1 f2 f3 : Nat} {M : em_M} (hl : nl < 8) (he : e < 800) (hk : kd = 11 ∨ kd = 12) (k : M.1 2 e = nI kd) (h0 : ∀ j, j < 3 → M.1 4 (3 * e + j) = -1) (d : M.1 5 e = nI a) (l : M.1 6 e = nI b) (hb : b ≤ 1) (ha : a ≤ 20) (h1 : f1 ≤ 20) (h : ep_Ft nl f0 f1 f2 f3 M) : ep_Ft nl (f0 + 1) (max f1 a) f2 f3 (ep_it nl (e + 1 - e) e M) ∧ ep_Fr nl e (e + 1) M (ep_it nl (e + 1 - e) e M) := by
  have e0 := (ec_hd0 he k (by omega) d l hb).2 (h0 0 (by omega))
  have e1 := (ec_hd1 he k (by omega) d l hb).2 (h0 1 (by omega))
  have e2 := (ec_hd2 he k (by omega) d l hb).2 (h0 2 (by omega))
  have c := ec_cn hl he (show kd < 20 by omega) k d l (by omega) (by omega) h
  rw [if_neg (by omega), if_neg (by omega), if_neg (by omega)] at c
  rw [ep_it_one, et_X2_handDown, e0, e1, e2, et_X2_handDown_2_3, c]
  exact ⟨ep_cn_ft, ep_cn_fr⟩
/-- a node that is no list hands down -/
theorem ep_hds {nl d e hi m mh x y kd sg np a b f0 f1 f2 f3 : Nat} {c mm xs ys : Nat → Nat} {C0 G M : em_M} (t : ep_T4 (ep_Tr C0 G d) C0 G e hi m mh x y kd sg np c mm xs ys) (up : ∀ i, i ≤ np → e + 1 ≤ c i ∧ c i ≤ hi ∧ (i < np → c i < c (i + 1))) (h8 : hi ≤ 800) (k2 : M.1 2 = C0.1 2) (k4 : M.1 4 = C0.1 4) (dd : M.1 5 e = nI a) (l : M.1 6 e = nI b) (hb : b ≤ 1) (h : ep_Ft nl f0 f1 f2 f3 M) : ∃ M0, et_X2_handDown M (nI e) = M0 ∧ ep_Ft nl f0 f1 f2 f3 M0 ∧ ep_Fr nl e hi M M0 ∧ ∀ j, j < np → M0.1 5 (c j) = nI (a + 1) ∧ M0.1 6 (c j) = nI (if b = 0 then 0 else ep_il kd (C0.1 4 (3 * e + 1)) j) := by
  have K := t.hK
  have kb : kd < 20 := by unfold ep_K at K; omega
  have np3 : np = 1 ∨ np = 2 ∨ np = 3 := by unfold ep_K at K; omega
  have u0 := up 0 (by omega)
  have v0 : c 0 < c 1 := u0.2.2 (by omega)
  have w1 := up 1 (by omega)
  have e8 : e < 800 := by omega
  have hk : M.1 2 e = nI kd := by rw [k2]; exact t.hk
  have kpf : ∀ j, j < np → ∃ kp, M.1 2 (c j) = nI kp ∧ kp < 20 ∧ kp ≠ 14 := fun j hj => by rw [k2]; exact ep_Tr_kd (t.h0 j hj).2.2
  have rw' : ∀ j, j < np → M.1 4 (3 * e + j) = nI (c j) := fun j hj => by rw [k4]; exact (t.h0 j hj).1
  have rn : ∀ j, np ≤ j → j < 3 → M.1 4 (3 * e + j) = -1 := fun j h1 h2 => by rw [k4]; exact t.h1 j h1 h2
  have p1 : M.1 4 (3 * e + 1) = C0.1 4 (3 * e + 1) := by rw [k4]
  rw [et_X2_handDown]
  obtain ⟨kp0, a1, a2, a3⟩ := kpf 0 (by omega)
  have s0 := (ec_hd0 e8 hk kb dd l hb).1 (c 0) kp0 (rw' 0 (by omega)) (by omega) (by omega) a1 a2
  rw [if_neg a3, p1] at s0
  rw [s0]
  have F1 : ep_Fr nl e hi M (ep_hd M (c 0) (a + 1) (if b = 0 then 0 else ep_il kd (C0.1 4 (3 * e + 1)) 0)) := ep_hd_fr (by omega) (by omega)
  have T1 := ep_hd_ft (q := c 0) (a := a + 1) (b := if b = 0 then 0 else ep_il kd (C0.1 4 (3 * e + 1)) 0) h
  have V1 : (ep_hd M (c 0) (a + 1) (if b = 0 then 0 else ep_il kd (C0.1 4 (3 * e + 1)) 0)).1 5 (c 0) = nI (a + 1) ∧ (ep_hd M (c 0) (a + 1) (if b = 0 then 0 else ep_il kd (C0.1 4 (3 * e + 1)) 0)).1 6 (c 0) = nI (if b = 0 then 0 else ep_il kd (C0.1 4 (3 * e + 1)) 0) := by
    refine ⟨?_, ?_⟩
    · simp (disch := omega) only [ep_hd, ef_pI', ef_pIs]
    · simp (disch := omega) only [ep_hd, ef_pIs]
  generalize ep_hd M (c 0) (a + 1) (if b = 0 then 0 else ep_il kd (C0.1 4 (3 * e + 1)) 0) = M1 at F1 T1 V1 ⊢
  have k21 : M1.1 2 = M.1 2 := F1.f1 2 (by omega)
  have k41 : M1.1 4 = M.1 4 := F1.f1 4 (by omega)
  have d1 : M1.1 5 e = nI a := by rw [(F1.f5 e (by omega)).1]; exact dd
  have l1 : M1.1 6 e = nI b := by rw [(F1.f5 e (by omega)).2]; exact l
  have hk1 : M1.1 2 e = nI kd := by rw [k21]; exact hk
  have H1 := ec_hd1 e8 hk1 kb d1 l1 hb
  have H2 := fun (M2 : em_M) (F : ep_Fr nl e hi M M2) => ec_hd2 (M := M2) e8 (by rw [F.f1 2 (by omega)]; exact hk) kb (by rw [(F.f5 e (by omega)).1]; exact dd) (by rw [(F.f5 e (by omega)).2]; exact l) hb
  rcases np3 with e1 | e1
  · have s1 := H1.2 (by rw [k41]; exact rn 1 (by omega) (by omega))
    have s2 := (H2 M1 F1).2 (by rw [k41]; exact rn 2 (by omega) (by omega))
    rw [s1, s2, et_X2_handDown_2_3]
    refine ⟨M1, rfl, T1, F1, fun j hj => ?_⟩
    obtain rfl : j = 0 := by omega
    exact V1
  · obtain ⟨kp1, b1, b2, b3⟩ := kpf 1 (by omega)
    have u1 := up 1 (by omega)
    have v1 : c 1 < c 2 := u1.2.2 (by omega)
    have u2 := up 2 (by omega)
    have s1 := H1.1 (c 1) kp1 (by rw [k41]; exact rw' 1 (by omega)) (by omega) (by omega) (by rw [k21]; exact b1) b2
    rw [if_neg b3, k41, p1] at s1
    rw [s1]
    have F2 : ep_Fr nl e hi M1 (ep_hd M1 (c 1) (a + 1) (if b = 0 then 0 else ep_il kd (C0.1 4 (3 * e + 1)) 1)) := ep_hd_fr (by omega) (by omega)
    have F2' := ep_Fr_tr F1 F2 (Nat.le_refl _) (Nat.le_refl _) (Nat.le_refl _) (Nat.le_refl _)
    have T2 := ep_hd_ft (q := c 1) (a := a + 1) (b := if b = 0 then 0 else ep_il kd (C0.1 4 (3 * e + 1)) 1) T1
    have V2 : (ep_hd M1 (c 1) (a + 1) (if b = 0 then 0 else ep_il kd (C0.1 4 (3 * e + 1)) 1)).1 5 (c 1) = nI (a + 1) ∧ (ep_hd M1 (c 1) (a + 1) (if b = 0 then 0 else ep_il kd (C0.1 4 (3 * e + 1)) 1)).1 6 (c 1) = nI (if b = 0 then 0 else ep_il kd (C0.1 4 (3 * e + 1)) 1) := by
      refine ⟨?_, ?_⟩
      · simp (disch := omega) only [ep_hd, ef_pI', ef_pIs]
      · simp (disch := omega) only [ep_hd, ef_pIs]
    have W2 : (ep_hd M1 (c 1) (a + 1) (if b = 0 then 0 else ep_il kd (C0.1 4 (3 * e + 1)) 1)).1 5 (c 0) = nI (a + 1) ∧ (ep_hd M1 (c 1) (a + 1) (if b = 0 then 0 else ep_il kd (C0.1 4 (3 * e + 1)) 1)).1 6 (c 0) = nI (if b = 0 then 0 else ep_il kd (C0.1 4 (3 * e + 1)) 0) := by
      refine ⟨?_, ?_⟩
      · simp (disch := omega) only [ep_hd, ef_pI', ef_pIk]; exact V1.1
      · simp (disch := omega) only [ep_hd, ef_pI', ef_pIk]; exact V1.2
    generalize ep_hd M1 (c 1) (a + 1) (if b = 0 then 0 else ep_il kd (C0.1 4 (3 * e + 1)) 1) = M2 at F2 F2' T2 V2 W2 ⊢
    have k42 : M2.1 4 = M.1 4 := F2'.f1 4 (by omega)
    have k22 : M2.1 2 = M.1 2 := F2'.f1 2 (by omega)
    rcases e1 with e1 | e1
    · have s2 := (H2 M2 F2').2 (by rw [k42]; exact rn 2 (by omega) (by omega))
      rw [s2, et_X2_handDown_2_3]
      refine ⟨M2, rfl, T2, F2', fun j hj => ?_⟩
      have hh : j = 0 ∨ j = 1 := by omega
      rcases hh with rfl | rfl
      · exact W2
      · exact V2
    · obtain ⟨kp2, g1, g2, g3⟩ := kpf 2 (by omega)
      have v2 : c 2 < c 3 := u2.2.2 (by omega)
      have u3 := up 3 (by omega)
      have s2 := (H2 M2 F2').1 (c 2) kp2 (by rw [k42]; exact rw' 2 (by omega)) (by omega) (by omega) (by rw [k22]; exact g1) g2
      rw [if_neg g3, k42, p1] at s2
      rw [s2, et_X2_handDown_2_3]
      refine ⟨_, rfl, ep_hd_ft T2, ep_Fr_tr F2' (ep_hd_fr (by omega) (by omega)) (Nat.le_refl _) (Nat.le_refl _) (Nat.le_refl _) (Nat.le_refl _), fun j hj => ?_⟩
      have hh : j = 0 ∨ j = 1 ∨ j = 2 := by omega
      rcases hh with rfl | rfl | rfl
      · refine ⟨?_, ?_⟩
        · simp (disch := omega) only [ep_hd, ef_pI', ef_pIk]; exact W2.1
        · simp (disch := omega) only [ep_hd, ef_pI', ef_pIk]; exact W2.2
      · refine ⟨?_, ?_⟩
        · simp (disch := omega) only [ep_hd, ef_pI', ef_pIk]; exact V2.1
        · simp (disch := omega) only [ep_hd, ef_pI', ef_pIk]; exact V2.2
      · refine ⟨?_, ?_⟩
        · simp (disch := omega) only [ep_hd, ef_pI', ef_pIs]
        · simp (disch := omega) only [ep_hd, ef_pIs]
