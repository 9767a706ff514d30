/-! the nodes of an E that was read, and the numbers of the model: phi and D -/
theorem ep_Nk_up {φ : Nat → Nat × Nat} {u u' : Nat} {C G : em_M} {e : Nat} (h : ep_Nk φ u C G e) (hu : u ≤ u') : ep_Nk φ u' C G e := by
  rcases h with q | ⟨a, q⟩ | ⟨n, p, q⟩ | ⟨kd, sg, np, q⟩
  · exact Or.inl q
  · exact Or.inr (Or.inl ⟨a, q⟩)
  · refine Or.inr (Or.inr (Or.inl ⟨n, p, ep_Nd3.mk q.hk q.hs q.hn q.hn5 q.ho (Nat.lt_of_lt_of_le q.hp hu) q.h0 q.hp0 q.hp1 q.hl (fun z => ?_)⟩))
    obtain ⟨r, r1, r2⟩ := q.hr z
    exact ⟨r, Nat.lt_of_lt_of_le r1 hu, r2⟩
  · refine Or.inr (Or.inr (Or.inr ⟨kd, sg, np, ep_Nd4.mk q.hK q.hk q.ho q.hs q.hn (fun k hk => ?_) q.hm q.hf q.ha⟩))
    obtain ⟨p, r1, r2⟩ := q.hp k hk
    exact ⟨p, Nat.lt_of_lt_of_le r1 hu, r2⟩
theorem ep_Dl_mk {D : Nat → Nat × Nat} {C : em_M} {e kd : Nat} (h : C.1 2 e = nI kd) (kb : kd < 20) (a : kd = 11 ∨ kd = 12 → D e = (1, 0)) (b : kd = 3 ∨ kd = 14 → D e = if C.1 4 (3 * e + 1) = -1 then (1 + (D (ep_pt C e 0)).1, (D (ep_pt C e 0)).2) else (max (1 + (D (ep_pt C e 0)).1) (D (ep_pt C e 1)).1, (D (ep_pt C e 1)).2)) (c : kd = 4 → D e = (1 + (D (ep_pt C e 0)).1, 1)) (d : kd = 5 ∨ kd = 6 ∨ kd = 7 → D e = (1 + (D (ep_pt C e 0)).1, 0)) (e' : kd = 13 → D e = (1 + (D (ep_pt C e 0)).1, (D (ep_pt C e 0)).2)) (f : kd = 0 → D e = (1 + max (D (ep_pt C e 0)).1 (D (ep_pt C e 1)).1, 0)) (g : kd = 2 → D e = (1 + max (D (ep_pt C e 0)).1 (D (ep_pt C e 1)).1, (D (ep_pt C e 1)).2)) (i : kd = 1 → D e = (1 + max (D (ep_pt C e 0)).1 (max (D (ep_pt C e 1)).1 (D (ep_pt C e 2)).1), (D (ep_pt C e 1)).2 + (D (ep_pt C e 2)).2)) (j : kd = 8 → D e = (1 + max (D (ep_pt C e 0)).1 (max (D (ep_pt C e 1)).1 (D (ep_pt C e 2)).1), 0)) : ep_Dl D C e := by
  have E : ∀ k, k < 20 → (C.1 2 e = nI k → kd = k) := fun k hk q => (nI_eq (by omega) (by omega)).mp (h.symm.trans q)
  refine ⟨fun q => a ?_, fun q => b ?_, fun q => c (E 4 (by omega) q), fun q => d ?_, fun q => e' (E 13 (by omega) q), fun q => f (E 0 (by omega) q), fun q => g (E 2 (by omega) q), fun q => i (E 1 (by omega) q), fun q => j (E 8 (by omega) q)⟩
  · rcases q with q | q
    · exact Or.inl (E 11 (by omega) q)
    · exact Or.inr (E 12 (by omega) q)
  · rcases q with q | q
    · exact Or.inl (E 3 (by omega) q)
    · exact Or.inr (E 14 (by omega) q)
  · rcases q with q | q | q
    · exact Or.inl (E 5 (by omega) q)
    · exact Or.inr (Or.inl (E 6 (by omega) q))
    · exact Or.inr (Or.inr (E 7 (by omega) q))
theorem ep_glue {α : Type} (F : Nat → Nat → α) (v : Nat → α) (c : Nat → Nat) : ∀ n, (∀ i, i < n → c i < c (i + 1)) → (c 0 ≤ c n ∧ ∀ i, i ≤ n → c i ≤ c n) ∧ ∃ g : Nat → α, (∀ k, k < c 0 → g k = v k) ∧ ∀ i, i < n → ∀ k, c i ≤ k → k < c (i + 1) → g k = F i k := by
  intro n
  induction n with
  | zero => intro _; exact ⟨⟨Nat.le_refl _, fun i hi => by rw [show i = 0 by omega]; exact Nat.le_refl _⟩, v, fun _ _ => rfl, fun i hi => absurd hi (by omega)⟩
  | succ n ih =>
    intro h
    obtain ⟨⟨a1, a2⟩, g, b1, b2⟩ := ih (fun i hi => h i (by omega))
    have hn := h n (by omega)
    refine ⟨⟨by omega, fun i hi => ?_⟩, fun k => if k < c n then g k else F n k, fun k hk => ?_, fun i hi k k1 k2 => ?_⟩
    · by_cases q : i = n + 1
      · rw [q]; exact Nat.le_refl _
      · have := a2 i (by omega); omega
    · show (if k < c n then g k else F n k) = v k
      rw [if_pos (by omega)]; exact b1 k hk
    · show (if k < c n then g k else F n k) = F i k
      by_cases q : i = n
      · subst q; rw [if_neg (by omega)]
      · have := a2 (i + 1) (by omega)
        rw [if_pos (by omega)]; exact b2 i (by omega) k k1 k2
theorem ep_loc {c : Nat → Nat} : ∀ n k, c 0 ≤ k → k < c n → ∃ i, i < n ∧ c i ≤ k ∧ k < c (i + 1) := by
  intro n
  induction n with
  | zero => intro k h1 h2; exact absurd h2 (by omega)
  | succ n ih =>
    intro k h1 h2
    by_cases q : k < c n
    · obtain ⟨i, i1, i2⟩ := ih k h1 q
      exact ⟨i, by omega, i2⟩
    · exact ⟨n, by omega, by omega, h2⟩
def ep_Q (C G : em_M) (lo hi mh B : Nat) (F : Nat → (Nat × Nat) × (Nat × Nat)) : Prop :=
  ∀ φ' D' : Nat → Nat × Nat, (∀ k, lo ≤ k → k < hi → φ' k = (F k).1 ∧ D' k = (F k).2) → ∀ k, lo ≤ k → k < hi → ep_Nk φ' hi C G k ∧ ep_Dl D' C k ∧ (D' k).1 ≤ B ∧ (φ' k).1 < mh
theorem ep_ptc {C : em_M} {e k p : Nat} (h : C.1 4 (3 * e + k) = nI p) (hp : p < 2 ^ 31) : ep_pt C e k = p := by
  rw [ep_pt, h, nI_clamp hp]
theorem ep_gr {C G : em_M} : ∀ d e hi m mh x y, hi ≤ 800 → ep_Tr C G d e hi m mh x y → ∃ F : Nat → (Nat × Nat) × (Nat × Nat), F e = ((m, 0), (x, y)) ∧ ep_Q C G e hi mh d F := by
  intro d
  induction d with
  | zero => intro e hi m mh x y _ h; exact absurd h id
  | succ d ih =>
    intro e hi m mh x y h8 h
    have L := ep_Tr_lt _ _ _ _ _ _ _ h
    rcases h with q | ⟨a, q⟩ | ⟨n, r, mm, xs, ys, q⟩ | ⟨kd, sg, np, c, mm, xs, ys, q⟩
    · obtain ⟨g1, g2, g3, g4⟩ := q.hh
      refine ⟨fun _ => ((m, 0), (x, y)), rfl, fun φ' D' hF k k1 k2 => ?_⟩
      obtain rfl : k = e := by omega
      obtain ⟨f1, f2⟩ := hF k k1 k2
      have f1 : φ' k = (m, 0) := f1
      have f2 : D' k = (x, y) := f2
      refine ⟨Or.inl (ep_Nd1.mk q.hk ?_ ?_ ?_ ?_), ep_Dl_mk q.hk (by omega) (fun _ => by rw [f2, g3, g4]) (fun z => absurd z (by omega)) (fun z => absurd z (by omega)) (fun z => absurd z (by omega)) (fun z => absurd z (by omega)) (fun z => absurd z (by omega)) (fun z => absurd z (by omega)) (fun z => absurd z (by omega)) (fun z => absurd z (by omega)), by rw [f2]; omega, by rw [f1]; omega⟩
      · rw [f1]
      · rw [f1]; exact q.hs
      · rw [f1]; exact q.hn
      · rw [f1]; exact q.hm
    · obtain ⟨g1, g2, g3, g4⟩ := q.hh
      refine ⟨fun _ => ((m, 0), (x, y)), rfl, fun φ' D' hF k k1 k2 => ?_⟩
      obtain rfl : k = e := by omega
      obtain ⟨f1, f2⟩ := hF k k1 k2
      have f1 : φ' k = (m, 0) := f1
      have f2 : D' k = (x, y) := f2
      refine ⟨Or.inr (Or.inl ⟨a, ep_Nd2.mk q.hk ?_ ?_ ?_ q.ha q.hm ?_⟩), ep_Dl_mk q.hk (by omega) (fun _ => by rw [f2, g3, g4]) (fun z => absurd z (by omega)) (fun z => absurd z (by omega)) (fun z => absurd z (by omega)) (fun z => absurd z (by omega)) (fun z => absurd z (by omega)) (fun z => absurd z (by omega)) (fun z => absurd z (by omega)) (fun z => absurd z (by omega)), by rw [f2]; omega, by rw [f1]; omega⟩
      · rw [f1]
      · rw [f1]; exact q.hs
      · rw [f1]; exact q.hn
      · rw [f1]; exact q.hm'
    · -- a LIST
      have st := ep_rr (fun i hi => (q.h0 i hi).2.2.2.2)
      obtain ⟨g1, g2, g3, g4⟩ := q.hh
      have r0 := q.r0
      have m0 := q.m0
      have n1 := q.n1
      have pick : ∀ i, ∃ F : Nat → (Nat × Nat) × (Nat × Nat), i < n → (F (r i + 1) = ((mm i, 0), (xs i, ys i)) ∧ ep_Q C G (r i + 1) (r (i + 1)) (mm (i + 1)) d F) := by
        intro i
        by_cases hi : i < n
        · have s1 := st (i + 1) (by omega)
          obtain ⟨F, hF⟩ := ih _ _ _ _ _ _ (by omega) (q.h0 i hi).2.2.2.2
          exact ⟨F, fun _ => hF⟩
        · exact ⟨fun _ => ((0, 0), (0, 0)), fun z => absurd z hi⟩
      obtain ⟨FF, hFF⟩ : ∃ FF : Nat → Nat → (Nat × Nat) × (Nat × Nat), ∀ i, i < n → (FF i (r i + 1) = ((mm i, 0), (xs i, ys i)) ∧ ep_Q C G (r i + 1) (r (i + 1)) (mm (i + 1)) d (FF i)) := ⟨fun i => Classical.choose (pick i), fun i => Classical.choose_spec (pick i)⟩
      obtain ⟨-, F, -, hF⟩ := ep_glue (fun i k => if k = r i then ((m, i), (ep_mx xs n (n - 1 - i), ys (n - 1))) else FF i k) (fun _ => ((0, 0), (0, 0))) r n (fun i hi => by have := (st i (by omega)).2.2.2.2 hi; omega)
      have Fr : ∀ i, i < n → F (r i) = ((m, i), (ep_mx xs n (n - 1 - i), ys (n - 1))) := fun i hi => by
        have := (st i (by omega)).2.2.2.2 hi
        rw [hF i hi (r i) (Nat.le_refl _) (by omega), if_pos rfl]
      have Fp : ∀ i, i < n → ∀ k, r i + 1 ≤ k → k < r (i + 1) → F k = FF i k := fun i hi k k1 k2 => by
        rw [hF i hi k (by omega) k2, if_neg (by omega)]
      have mxb : ∀ k, k < n → ep_mx xs n k ≤ d + 1 := fun k hk => by
        rw [ep_mxle k _ hk]
        intro i _ i2
        have t := ep_Tr_lt _ _ _ _ _ _ _ (q.h0 i i2).2.2.2.2
        omega
      refine ⟨F, ?_, fun φ' D' hFD k k1 k2 => ?_⟩
      · rw [← r0, Fr 0 (by omega), g3, g4, Nat.sub_zero]
      · have hFr : ∀ i, i < n → φ' (r i) = (m, i) ∧ D' (r i) = (ep_mx xs n (n - 1 - i), ys (n - 1)) := fun i hi => by
          have s0 := st i (by omega)
          have s1 := s0.2.2.2.2 hi
          have s2 := st (i + 1) (by omega)
          have f := hFD (r i) (by omega) (by omega)
          rw [Fr i hi] at f
          exact f
        have hFp : ∀ i, i < n → φ' (r i + 1) = (mm i, 0) ∧ D' (r i + 1) = (xs i, ys i) := fun i hi => by
          have s0 := st i (by omega)
          have s1 := s0.2.2.2.2 hi
          have s2 := st (i + 1) (by omega)
          have f := hFD (r i + 1) (by omega) (by omega)
          rw [Fp i hi _ (Nat.le_refl _) (by omega), (hFF i hi).1] at f
          exact f
        obtain ⟨i, i1, i2, i3⟩ := ep_loc (c := r) n k (by omega) (by omega)
        have s0 := st i (by omega)
        have s1 := s0.2.2.2.2 i1
        have s2 := st (i + 1) (by omega)
        by_cases kr : k = r i
        · subst kr
          obtain ⟨f1, f2⟩ := hFr i i1
          obtain ⟨p1, p2⟩ := hFp i i1
          obtain ⟨w1, w2, w3, w4, w5⟩ := q.h0 i i1
          have hk := q.hk i i1
          have pt0 : ep_pt C (r i) 0 = r i + 1 := ep_ptc w1 (by omega)
          obtain ⟨kd, kk, kd3⟩ : ∃ kd, C.1 2 (r i) = nI kd ∧ ((i = 0 ∧ kd = 3) ∨ (0 < i ∧ kd = 14)) := by
            by_cases z : i = 0
            · rw [if_pos z] at hk; exact ⟨3, hk, Or.inl ⟨z, rfl⟩⟩
            · rw [if_neg z] at hk; exact ⟨14, hk, Or.inr ⟨by omega, rfl⟩⟩
          refine ⟨Or.inr (Or.inr (Or.inl ⟨n, r i + 1, ep_Nd3.mk ?_ ?_ ?_ q.n5 ?_ (by omega) w1 ?_ ?_ ?_ ?_⟩)), ep_Dl_mk kk (by omega) (fun z => absurd z (by omega)) (fun _ => ?_) (fun z => absurd z (by omega)) (fun z => absurd z (by omega)) (fun z => absurd z (by omega)) (fun z => absurd z (by omega)) (fun z => absurd z (by omega)) (fun z => absurd z (by omega)) (fun z => absurd z (by omega)), ?_, ?_⟩
          · rw [f1]
            rcases kd3 with ⟨z1, z2⟩ | ⟨z1, z2⟩
            · exact Or.inl ⟨by rw [kk, z2], z1⟩
            · exact Or.inr ⟨by rw [kk, z2], z1⟩
          · rw [f1]; exact q.hs
          · rw [f1]; exact q.hn
          · rw [f1]; exact i1
          · rw [p1]
          · rw [f1, p1]; exact w4
          · intro z
            rw [f1] at z
            have z' : i + 1 = n := z
            rw [w2, if_neg (by omega)]
          · intro z
            rw [f1] at z
            have z' : i + 1 < n := z
            have s3 := (st (i + 1) (by omega)).2.2.2.2 z'
            have s4 := st (i + 1 + 1) (by omega)
            refine ⟨r (i + 1), by omega, by rw [w2, if_pos z'], ?_⟩
            rw [(hFr (i + 1) z').1, f1]
          · rw [f2, pt0, p2, w2]
            by_cases z : i + 1 < n
            · have s3 := (st (i + 1) (by omega)).2.2.2.2 z
              have s4 := st (i + 1 + 1) (by omega)
              have ne : ¬ nI (r (i + 1)) = -1 := fun y => by
                have := nI_pos (n := r (i + 1)) (by omega)
                rw [y] at this
                exact this (by decide)
              have pt1 : ep_pt C (r i) 1 = r (i + 1) := ep_ptc (by rw [w2, if_pos z]) (by omega)
              rw [if_pos z, if_neg ne, pt1, (hFr (i + 1) z).2, show n - 1 - i = (n - 1 - (i + 1)) + 1 by omega, ep_mx, show n - 1 - (n - 1 - (i + 1) + 1) = i by omega]
            · rw [if_neg z, if_pos rfl, show n - 1 - i = 0 by omega, ep_mx, show n - 1 = i by omega]
          · rw [f2]; exact mxb _ (by omega)
          · rw [f1]; show m < mh; omega
        · have Qi := (hFF i i1).2 φ' D' (fun j j1 j2 => by
            have f := hFD j (by omega) (by omega)
            rw [Fp i i1 j j1 j2] at f
            exact f) k (by omega) i3
          obtain ⟨v1, v2, v3, v4⟩ := Qi
          exact ⟨ep_Nk_up v1 (by omega), v2, by omega, by omega⟩
    · -- another E
      obtain ⟨g1, g2, g3⟩ := q.hh
      have K := q.hK
      have c0 := q.c0
      have m0 := q.m0
      have np3 : 1 ≤ np ∧ np ≤ 3 := by unfold ep_K at K; omega
      have kb : kd < 20 ∧ kd ≠ 11 ∧ kd ≠ 12 ∧ kd ≠ 3 ∧ kd ≠ 14 := by unfold ep_K at K; omega
      have cl : ∀ i, i < np → c i < c (i + 1) ∧ mm i < mm (i + 1) := fun i hi => by
        have t := ep_Tr_lt _ _ _ _ _ _ _ (q.h0 i hi).2.2
        omega
      have ub := (ep_glue (fun _ _ => 0) (fun _ => 0) c np (fun i hi => (cl i hi).1)).1
      have um := (ep_glue (fun _ _ => 0) (fun _ => 0) mm np (fun i hi => (cl i hi).2)).1
      have pick : ∀ i, ∃ F : Nat → (Nat × Nat) × (Nat × Nat), i < np → (F (c i) = ((mm i, 0), (xs i, ys i)) ∧ ep_Q C G (c i) (c (i + 1)) (mm (i + 1)) d F) := by
        intro i
        by_cases hi : i < np
        · have s1 := ub.2 (i + 1) (by omega)
          obtain ⟨F, hF⟩ := ih _ _ _ _ _ _ (by omega) (q.h0 i hi).2.2
          exact ⟨F, fun _ => hF⟩
        · exact ⟨fun _ => ((0, 0), (0, 0)), fun z => absurd z hi⟩
      obtain ⟨FF, hFF⟩ : ∃ FF : Nat → Nat → (Nat × Nat) × (Nat × Nat), ∀ i, i < np → (FF i (c i) = ((mm i, 0), (xs i, ys i)) ∧ ep_Q C G (c i) (c (i + 1)) (mm (i + 1)) d (FF i)) := ⟨fun i => Classical.choose (pick i), fun i => Classical.choose_spec (pick i)⟩
      obtain ⟨-, F, hF0, hF⟩ := ep_glue FF (fun _ => ((m, 0), (x, y))) c np (fun i hi => (cl i hi).1)
      refine ⟨F, hF0 e (by omega), fun φ' D' hFD k k1 k2 => ?_⟩
      have hFp : ∀ i, i < np → φ' (c i) = (mm i, 0) ∧ D' (c i) = (xs i, ys i) := fun i hi => by
        have s1 := ub.2 (i + 1) (by omega)
        have s2 := (ep_glue (fun _ _ => 0) (fun _ => 0) c i (fun j hj => (cl j (by omega)).1)).1.1
        have s3 := (cl i hi).1
        have f := hFD (c i) (by omega) (by omega)
        rw [hF i hi _ (Nat.le_refl _) s3, (hFF i hi).1] at f
        exact f
      by_cases ke : k = e
      · subst ke
        have f := hFD k (Nat.le_refl _) (by omega)
        rw [hF0 k (by omega)] at f
        have f1 : φ' k = (m, 0) := f.1
        have f2 : D' k = (x, y) := f.2
        have pts : ∀ i, i < np → ep_pt C k i = c i := fun i hi => by
          have s1 := ub.2 (i + 1) (by omega)
          have s3 := (cl i hi).1
          exact ep_ptc (q.h0 i hi).1 (by omega)
        have dts : ∀ i, i < np → D' (ep_pt C k i) = (xs i, ys i) := fun i hi => by rw [pts i hi]; exact (hFp i hi).2
        unfold ep_xy at g3
        have npk : (kd = 0 → np = 2) ∧ (kd = 1 → np = 3) ∧ (kd = 2 → np = 2) ∧ (kd = 8 → np = 3) := by unfold ep_K at K; omega
        refine ⟨Or.inr (Or.inr (Or.inr ⟨kd, sg, np, ep_Nd4.mk K q.hk ?_ ?_ ?_ ?_ q.hm q.hf ?_⟩)), ep_Dl_mk q.hk kb.1 (fun z => absurd z (by omega)) (fun z => absurd z (by omega)) ?_ ?_ ?_ ?_ ?_ ?_ ?_, by rw [f2]; show x ≤ d + 1; omega, by rw [f1]; show m < mh; omega⟩
        · rw [f1]
        · rw [f1]; exact q.hs
        · rw [f1]; exact q.hn
        · intro i hi
          have s1 := ub.2 (i + 1) (by omega)
          have s3 := (cl i hi).1
          refine ⟨c i, by omega, (q.h0 i hi).1, ?_, ?_⟩
          · rw [(hFp i hi).1]
          · rw [f1, (hFp i hi).1]; exact (q.h0 i hi).2.1
        · intro z
          rw [f1]; exact q.ha z
        · intro z
          rw [f2, dts 0 (by omega)]
          rcases g3 with w | w | w | ⟨w, w1, w2⟩ | w | w | w
          all_goals first | exact absurd w.1 (by omega) | skip
          rw [w1, w2]
        · intro z
          rw [f2, dts 0 (by omega)]
          rcases g3 with w | w | w | w | ⟨w, w1, w2⟩ | w | w
          all_goals first | exact absurd w.1 (by omega) | skip
          rw [w1, w2]
        · intro z
          rw [f2, dts 0 (by omega)]
          rcases g3 with w | w | w | w | w | w | ⟨w, w1, w2⟩
          all_goals first | exact absurd w.1 (by omega) | skip
          rw [w1, w2]
        · intro z
          rw [f2, dts 0 (by omega), dts 1 (by omega)]
          rcases g3 with ⟨w, w1, w2⟩ | w | w | w | w | w | w
          all_goals first | exact absurd w.1 (by omega) | skip
          rw [w1, w2]
        · intro z
          rw [f2, dts 0 (by omega), dts 1 (by omega)]
          rcases g3 with w | w | ⟨w, w1, w2⟩ | w | w | w | w
          all_goals first | exact absurd w.1 (by omega) | skip
          rw [w1, w2]
        · intro z
          rw [f2, dts 0 (by omega), dts 1 (by omega), dts 2 (by omega)]
          rcases g3 with w | ⟨w, w1, w2⟩ | w | w | w | w | w
          all_goals first | exact absurd w.1 (by omega) | skip
          rw [w1, w2]
        · intro z
          rw [f2, dts 0 (by omega), dts 1 (by omega), dts 2 (by omega)]
          rcases g3 with w | w | w | w | w | ⟨w, w1, w2⟩ | w
          all_goals first | exact absurd w.1 (by omega) | skip
          rw [w1, w2]
      · obtain ⟨i, i1, i2, i3⟩ := ep_loc (c := c) np k (by omega) (by omega)
        have s1 := ub.2 (i + 1) (by omega)
        have s1' := um.2 (i + 1) (by omega)
        have s2 := (ep_glue (fun _ _ => 0) (fun _ => 0) c i (fun j hj => (cl j (by omega)).1)).1.1
        have Qi := (hFF i i1).2 φ' D' (fun j j1 j2 => by
          have f := hFD j (by omega) (by omega)
          rw [hF i i1 j j1 j2] at f
          exact f) k i2 i3
        obtain ⟨v1, v2, v3, v4⟩ := Qi
        exact ⟨ep_Nk_up v1 (by omega), v2, by omega, by omega⟩
