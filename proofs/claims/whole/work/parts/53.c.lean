theorem pm_shift {φ D : Nat → Nat × Nat} {u nl : Nat} {C G : em_M} (h : ep_I φ D u nl C G) (tape i other j n : Int32) : es_X12_shift G tape i other j n ∧ (et_X11_shift C tape i other j n).1 = (et_X12_shift G tape i other j n).1 ∧ ∃ φ' D' u' nl', ep_I φ' D' u' nl' (et_X11_shift C tape i other j n).2 (et_X12_shift G tape i other j n).2 := by
  rw [es_X12_shift, et_X11_shift, et_X12_shift, eq_tin, eq_tin]
  have n1 : ¬ (1 : Int32) = 0 := by decide
  have no : ∀ R : Int32 × em_M, R = ((-1 : Int32), G) → R.1 = R.1 := fun _ _ => rfl
  by_cases p1 : tape < 0
  · have c : (if other < 0 then ((-1 : Int32), C) else (if (6 : Int32) ≤ other then ((-1 : Int32), C) else ((-1 : Int32), C))) = ((-1 : Int32), C) := by rw [ite_self, ite_self]
    rw [if_pos p1, if_pos p1, if_pos rfl, c]
    exact ⟨fun r e => ⟨fun _ => trivial, fun q => absurd e.symm q⟩, rfl, φ, D, u, nl, h⟩
  by_cases p2 : 6 ≤ tape
  · have c : (if other < 0 then ((-1 : Int32), C) else (if (6 : Int32) ≤ other then ((-1 : Int32), C) else ((-1 : Int32), C))) = ((-1 : Int32), C) := by rw [ite_self, ite_self]
    rw [if_neg p1, if_neg p1, if_pos p2, if_pos p2, if_pos rfl, c]
    exact ⟨fun r e => ⟨fun _ => trivial, fun q => absurd e.symm q⟩, rfl, φ, D, u, nl, h⟩
  rw [if_neg p1, if_neg p1, if_neg p2, if_neg p2, if_neg n1]
  dsimp only
  by_cases p3 : other < 0
  · rw [if_pos p3, if_pos p3, if_pos rfl]
    exact ⟨fun r e => ⟨fun _ => trivial, fun _ r3 e3 => ⟨fun _ => trivial, fun q => absurd e3.symm q⟩⟩, rfl, φ, D, u, nl, h⟩
  by_cases p4 : 6 ≤ other
  · rw [if_neg p3, if_neg p3, if_pos p4, if_pos p4, if_pos rfl]
    exact ⟨fun r e => ⟨fun _ => trivial, fun _ r3 e3 => ⟨fun _ => trivial, fun q => absurd e3.symm q⟩⟩, rfl, φ, D, u, nl, h⟩
  obtain ⟨a, ha, rfl, eta⟩ := eq_tpN p1 p2
  obtain ⟨b, hb, rfl, etb⟩ := eq_tpN p3 p4
  obtain ⟨sa, hsa, ta1, ta2, ta3, ta4, ta5⟩ := h.tp a ha
  obtain ⟨sb, hsb, tb1, tb2, tb3, tb4, tb5⟩ := h.tp b hb
  have va : vp_in (nI a) 6 := vp_in_nI (by omega) (by omega)
  have vb : vp_in (nI b) 6 := vp_in_nI (by omega) (by omega)
  rw [if_neg p3, if_neg p3, if_neg p4, if_neg p4, if_neg n1, eta, etb, ta1, tb1, ta2, tb2, nI_clamp (show a < 2 ^ 31 by omega), nI_clamp (show b < 2 ^ 31 by omega), ta3, tb3]
  by_cases q1 : G.1 129 a = -1
  · rw [if_pos q1, if_pos q1]
    exact ⟨fun r e => ⟨fun _ => trivial, fun _ r3 e3 => ⟨fun _ => trivial, fun _ => ⟨va, fun _ => trivial, fun q => absurd q1 q⟩⟩⟩, rfl, φ, D, u, nl, h⟩
  by_cases q2 : G.1 129 b = -1
  · rw [if_neg q1, if_neg q1, if_pos q2, if_pos q2]
    exact ⟨fun r e => ⟨fun _ => trivial, fun _ r3 e3 => ⟨fun _ => trivial, fun _ => ⟨va, fun q => absurd q q1, fun _ => ⟨vb, fun _ => trivial, fun q => absurd q2 q⟩⟩⟩⟩, rfl, φ, D, u, nl, h⟩
  rw [if_neg q1, if_neg q1, if_neg q2, if_neg q2]
  by_cases q3 : G.1 129 a = G.1 129 b
  case neg =>
    rw [if_neg q3, if_neg q3]
    exact ⟨fun r e => ⟨fun _ => trivial, fun _ r3 e3 => ⟨fun _ => trivial, fun _ => ⟨va, fun q => absurd q q1, fun _ => ⟨vb, fun q => absurd q q2, fun _ => ⟨va, vb, fun q => absurd q q3, fun _ => trivial⟩⟩⟩⟩⟩, rfl, φ, D, u, nl, h⟩
  rw [if_pos q3, if_pos q3]
  have W : ∀ P : Prop, P → (∀ r1 : Int32, (1 : Int32) = r1 → ((r1 = 0 → True) ∧ (¬ r1 = 0 → ∀ r3 : Int32, (1 : Int32) = r3 → ((r3 = 0 → True) ∧ (¬ r3 = 0 → (vp_in (nI a) 6 ∧ ((G.1 129 a = -1 → True) ∧ (¬ G.1 129 a = -1 → (vp_in (nI b) 6 ∧ ((G.1 129 b = -1 → True) ∧ (¬ G.1 129 b = -1 → (vp_in (nI a) 6 ∧ (vp_in (nI b) 6 ∧ ((G.1 129 a = G.1 129 b → P) ∧ (¬ G.1 129 a = G.1 129 b → True))))))))))))))) := fun P hP r e => ⟨fun _ => trivial, fun _ r3 e3 => ⟨fun _ => trivial, fun _ => ⟨va, fun q => absurd q q1, fun _ => ⟨vb, fun q => absurd q q2, fun _ => ⟨va, vb, fun _ => hP, fun q => absurd q3 q⟩⟩⟩⟩⟩
  by_cases w1 : n < 0
  · rw [if_pos w1, if_pos w1]
    exact ⟨W _ ⟨fun _ => trivial, fun q => absurd w1 q⟩, rfl, φ, D, u, nl, h⟩
  by_cases w2 : i < 0
  · rw [if_neg w1, if_neg w1, if_pos w2, if_pos w2]
    exact ⟨W _ ⟨fun q => absurd q w1, fun _ => ⟨fun _ => trivial, fun q => absurd w2 q⟩⟩, rfl, φ, D, u, nl, h⟩
  by_cases w3 : j < 0
  · rw [if_neg w1, if_neg w1, if_neg w2, if_neg w2, if_pos w3, if_pos w3]
    exact ⟨W _ ⟨fun q => absurd q w1, fun _ => ⟨fun q => absurd q w2, fun _ => ⟨fun _ => trivial, fun q => absurd w3 q⟩⟩⟩, rfl, φ, D, u, nl, h⟩
  obtain ⟨n', hn, rfl⟩ := nI_of w1
  obtain ⟨i', hi, rfl⟩ := nI_of w2
  obtain ⟨j', hj, rfl⟩ := nI_of w3
  have X : (nI sa - nI i' < nI n') = (sa < i' + n') := by
    rw [Int32.lt_iff_toInt_lt, nI_toInt hn, eq_sz hsa hi]
    exact propext (by omega)
  have Y : (nI n' ≤ nI sb - nI j') = (n' + j' ≤ sb) := by
    rw [Int32.le_iff_toInt_le, nI_toInt hn, eq_sz hsb hj]
    exact propext (by omega)
  have Z1 : (nI sa < nI i') = (sa < i') := propext (nI_ltI (by omega) hi)
  have Z2 : (nI sb < nI j') = (sb < j') := propext (nI_ltI (by omega) hj)
  rw [if_neg w1, if_neg w1, if_neg w2, if_neg w2, if_neg w3, if_neg w3]
  simp only [X, Y, Z1, Z2]
  by_cases x : i' + n' ≤ sa ∧ n' + j' ≤ sb
  · have x1 : ¬ sa < i' + n' := by omega
    have x2 : n' + j' ≤ sb := x.2
    have x3 : ¬ sa < i' := by omega
    have x4 : ¬ sb < j' := by omega
    rw [if_neg x1, if_neg x1, if_pos x2, if_pos x2, if_neg x3, if_neg x4, nI_clamp hn, nI_clamp hi, nI_clamp hj]
    obtain ⟨r0, r1, r2, r3⟩ := em_sh (a := a) (b := b) (i := i') (j := j') (n := n') ha hb (by omega) (by omega) (M0 := G) n' 0 (n' + 1) G (by omega) (by omega) rfl (fun p => by rw [if_neg (by omega)])
    have z0 : (0 : Int32) = nI 0 := rfl
    rw [z0]
    generalize et_X12_shift_135 (n' + 1) G (nI a) (nI i') (nI b) (nI j') (nI n') (nI 0) = R at r1 r2 r3 ⊢
    refine ⟨W _ ⟨fun q => absurd q w1, fun _ => ⟨fun q => absurd q w2, fun _ => ⟨fun q => absurd q w3, fun _ => ⟨va, fun q => absurd q x3, fun _ => ⟨vb, fun q => absurd q x4, fun _ => ⟨va, fun q => absurd q x1, fun _ => ⟨vb, fun _ => r0, fun q => absurd x2 q⟩⟩⟩⟩⟩⟩⟩, r1.symm, φ, D, u, nl, ?_⟩
    dsimp only
    refine ep_I_tpj h hb hsb (fun o _ => rfl) (by rw [r2]; exact tb1) tb2 (fun o ho => if_neg (by omega)) (fun o _ => by rw [r2]) (fun k _ => by rw [r2]; exact ⟨rfl, rfl⟩) (by rw [r2]; exact tb3) (by rw [r2]; exact tb4) (fun k hk => by rw [r3, if_neg (by omega)]) (fun k hk => ?_)
    have e0 : (em_cL C (106 + 2 * a + 1) (106 + 2 * b + 1) i' j' n').2 (107 + 2 * b) k = if j' ≤ k ∧ k < j' + n' then C.2 (107 + 2 * a) (i' + (k - j')) else C.2 (107 + 2 * b) k := by
      rw [show 106 + 2 * a + 1 = 107 + 2 * a by omega, show 106 + 2 * b + 1 = 107 + 2 * b by omega]
      simp [em_cL, va_cpy]
    rw [e0, r3]
    by_cases y : j' ≤ k ∧ k < j' + n'
    · rw [if_pos y, if_pos (by omega), ta5 _ (by omega), show 60 * a + (i' + (k - j')) = 60 * a + i' + (60 * b + k - (60 * b + j')) by omega]
    · rw [if_neg y, if_neg (by omega), tb5 k hk]
  · have c : (if sa < i' + n' then ((-13 : Int32), C) else (if n' + j' ≤ sb then (nI n', em_cL C (106 + 2 * a + 1) (106 + 2 * b + 1) (nI i').toNatClampNeg (nI j').toNatClampNeg (nI n').toNatClampNeg) else ((-13 : Int32), C))) = ((-13 : Int32), C) := by
      by_cases y : sa < i' + n'
      · rw [if_pos y]
      · rw [if_neg y, if_neg (by omega)]
    have g : ∀ R : Int32 × em_M, (if sa < i' then ((-13 : Int32), G) else (if sb < j' then ((-13 : Int32), G) else (if sa < i' + n' then ((-13 : Int32), G) else (if n' + j' ≤ sb then R else ((-13 : Int32), G))))) = ((-13 : Int32), G) := by
      intro R
      by_cases y : sa < i'
      · rw [if_pos y]
      · rw [if_neg y]
        by_cases y : sb < j'
        · rw [if_pos y]
        · rw [if_neg y]
          by_cases y : sa < i' + n'
          · rw [if_pos y]
          · rw [if_neg y, if_neg (by omega)]
    rw [c, g]
    exact ⟨W _ ⟨fun q => absurd q w1, fun _ => ⟨fun q => absurd q w2, fun _ => ⟨fun q => absurd q w3, fun _ => ⟨va, fun _ => trivial, fun _ => ⟨vb, fun _ => trivial, fun _ => ⟨va, fun _ => trivial, fun y => ⟨vb, fun y' => absurd ⟨by omega, y'⟩ x, fun _ => trivial⟩⟩⟩⟩⟩⟩⟩, rfl, φ, D, u, nl, h⟩
