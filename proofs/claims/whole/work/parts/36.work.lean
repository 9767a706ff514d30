/-! a STEP at work on an E -/
theorem ep_Ln_md {φ D : Nat → Nat × Nat} {u nl : Nat} {H : ep_H} {t w : Nat} {C0 G0 C G : em_M} (h : ep_Md φ u nl H t w C0 G0 C G) (ln : ep_Ln φ D u nl C0 G0) : ep_Ln φ D u nl C G := by
  have w6 := h.w6
  exact ep_Ln_cg (fun o o1 o2 => h.kc o (by omega)) (by rw [h.kg _ (by omega)]) (fun o o1 o2 => h.kg o (by omega)) ln
/-- the model at work on node p in scope sc, all else as before but for the WINDERS -/
def ep_fw (φ : Nat → Nat × Nat) (p sc wi : Nat) (M M' : em_M) : Prop :=
  (∀ o, o ≠ 119 → M'.1 o = M.1 o) ∧
  (M'.2 = M.2) ∧
  (∀ k, k < 13 ∨ 20 < k → M'.1 119 k = M.1 119 k) ∧
  (M'.1 119 13 = 0) ∧
  (M'.1 119 14 = nI (φ p).1) ∧
  (M'.1 119 15 = nI (φ p).2) ∧
  (M'.1 119 16 = nI sc - 1) ∧
  (M'.1 119 17 = M.1 119 17) ∧
  (M'.1 119 18 = nI wi - 1)
theorem ep_fw.f1 {φ : Nat → Nat × Nat} {p sc wi : Nat} {M M' : em_M} (h : ep_fw φ p sc wi M M') : ∀ o, o ≠ 119 → M'.1 o = M.1 o := h.1
theorem ep_fw.f2 {φ : Nat → Nat × Nat} {p sc wi : Nat} {M M' : em_M} (h : ep_fw φ p sc wi M M') : M'.2 = M.2 := h.2.1
theorem ep_fw.f3 {φ : Nat → Nat × Nat} {p sc wi : Nat} {M M' : em_M} (h : ep_fw φ p sc wi M M') : ∀ k, k < 13 ∨ 20 < k → M'.1 119 k = M.1 119 k := h.2.2.1
theorem ep_fw.f13 {φ : Nat → Nat × Nat} {p sc wi : Nat} {M M' : em_M} (h : ep_fw φ p sc wi M M') : M'.1 119 13 = 0 := h.2.2.2.1
theorem ep_fw.f14 {φ : Nat → Nat × Nat} {p sc wi : Nat} {M M' : em_M} (h : ep_fw φ p sc wi M M') : M'.1 119 14 = nI (φ p).1 := h.2.2.2.2.1
theorem ep_fw.f15 {φ : Nat → Nat × Nat} {p sc wi : Nat} {M M' : em_M} (h : ep_fw φ p sc wi M M') : M'.1 119 15 = nI (φ p).2 := h.2.2.2.2.2.1
theorem ep_fw.f16 {φ : Nat → Nat × Nat} {p sc wi : Nat} {M M' : em_M} (h : ep_fw φ p sc wi M M') : M'.1 119 16 = nI sc - 1 := h.2.2.2.2.2.2.1
theorem ep_fw.f17 {φ : Nat → Nat × Nat} {p sc wi : Nat} {M M' : em_M} (h : ep_fw φ p sc wi M M') : M'.1 119 17 = M.1 119 17 := h.2.2.2.2.2.2.2.1
theorem ep_fw.f18 {φ : Nat → Nat × Nat} {p sc wi : Nat} {M M' : em_M} (h : ep_fw φ p sc wi M M') : M'.1 119 18 = nI wi - 1 := h.2.2.2.2.2.2.2.2
theorem ep_fw.mk {φ : Nat → Nat × Nat} {p sc wi : Nat} {M M' : em_M} (f1 : ∀ o, o ≠ 119 → M'.1 o = M.1 o) (f2 : M'.2 = M.2) (f3 : ∀ k, k < 13 ∨ 20 < k → M'.1 119 k = M.1 119 k) (f13 : M'.1 119 13 = 0) (f14 : M'.1 119 14 = nI (φ p).1) (f15 : M'.1 119 15 = nI (φ p).2) (f16 : M'.1 119 16 = nI sc - 1) (f17 : M'.1 119 17 = M.1 119 17) (f18 : M'.1 119 18 = nI wi - 1) : ep_fw φ p sc wi M M' :=
  ⟨f1, f2, f3, f13, f14, f15, f16, f17, f18⟩
theorem eq_works (M : em_M) (e o s : Int32) : et_X12_works M e o s = em_pI (em_pI (em_pI (em_pI M 119 13 0) 119 14 e) 119 15 o) 119 16 s := rfl
theorem eq_gives (M : em_M) (e o : Int32) : et_X12_gives M e o = em_pI (em_pI (em_pI M 119 13 1) 119 19 e) 119 20 o := rfl
theorem eq_stands (M : em_M) (v : Int32) : et_X12_stands M v = em_pI M 119 7 v := rfl
theorem eq_give (w : Nat) (M : em_M) (v : Int64) : et_X3_give w M v = em_pI (em_pL M (w + 3) 12 v) (w + 3) 9 1 := rfl
theorem ep_fwW {φ : Nat → Nat × Nat} {p sc wi : Nat} {M : em_M} {e o s : Int32} (h1 : e = nI (φ p).1) (h2 : o = nI (φ p).2) (h3 : s = nI sc - 1) (h4 : M.1 119 18 = nI wi - 1) : ep_fw φ p sc wi M (et_X12_works M e o s) := by
  rw [eq_works]
  refine ep_fw.mk ?_ rfl ?_ ?_ ?_ ?_ ?_ ?_ ?_
  · intro o ho; simp (disch := omega) only [ef_pI']
  · intro k hk; simp (disch := omega) only [ef_pI', ef_pIk, ef_pIs]
  · simp (disch := omega) only [ef_pI', ef_pIk, ef_pIs]
  · simp (disch := omega) only [ef_pI', ef_pIk, ef_pIs]; exact h1
  · simp (disch := omega) only [ef_pI', ef_pIk, ef_pIs]; exact h2
  · simp (disch := omega) only [ef_pI', ef_pIk, ef_pIs]; exact h3
  · simp (disch := omega) only [ef_pI', ef_pIk, ef_pIs]
  · simp (disch := omega) only [ef_pI', ef_pIk, ef_pIs]; exact h4
theorem eq_part {C : em_M} {e k : Nat} (he : e < 800) (hk : k < 3) : et_X2_part C (nI e) (nI k) = C.1 4 (3 * e + k) := by
  rw [et_X2_part, eq_y3, nI_add, show e * 3 + k = 3 * e + k by omega, eq_atS _ (by omega) (by omega)]
theorem eq_workOn {w : Nat} {C : em_M} {e k : Nat} (he : e < 800) (hk : k < 3) (c10 : C.1 (w + 3) 10 = nI e) : et_X3_workOn w C (nI k) = em_pI (em_pI C (w + 3) 10 (C.1 4 (3 * e + k))) (w + 3) 9 0 := by
  rw [et_X3_workOn, c10, eq_part he hk]
/-- the class and the model come to be at work on node p -/
theorem ep_wk {φ : Nat → Nat × Nat} {u nl : Nat} {H : ep_H} {t w : Nat} {C0 G0 C G G' : em_M} (h : ep_Md φ u nl H t w C0 G0 C G) (b : H.nf ≤ t + 1 ∧ H.ns ≤ t + 1 ∧ H.nw ≤ t + 1 ∧ H.ne ≤ t + 1) {ch wi sc p : Nat} {v : Int32} (hch : ch ≤ H.nf) (c13 : C.1 (w + 3) 13 = nI ch) (g17 : G.1 119 17 = nI ch - 1) (hwi : wi ≤ H.nw) (c14 : C.1 (w + 3) 14 = nI wi) (cw : ch ≠ 0 → H.W ch = wi) (hp : p < u) (hs : sc ≤ H.ns) (c11 : C.1 (w + 3) 11 = nI sc) (hv : v = nI p) (f : ep_fw φ p sc wi G G') : ep_Ps φ u nl t w C0 G0 (em_pI (em_pI C (w + 3) 10 v) (w + 3) 9 0) G' := by
  have w6 := h.w6
  have m : ep_Md φ u nl H t w C0 G0 (em_pI (em_pI C (w + 3) 10 v) (w + 3) 9 0) G' := ep_Md_rg h (fun o ho => by simp (disch := omega) only [ef_pI']) (fun o ho => rfl) (by simp (disch := omega) only [ef_pI', ef_pIk, ef_pIs]) f.f1 f.f2 f.f3
  refine ep_fin m b ch wi hch ?_ (by rw [f.f17]; exact g17) hwi ?_ f.f18 cw (Or.inl ⟨?_, f.f13, p, sc, hp, ?_, f.f14, f.f15, hs, ?_, f.f16⟩)
  all_goals simp (disch := omega) only [ef_pI', ef_pIk, ef_pIs]
  · exact c13
  · exact c14
  · exact hv
  · exact c11
/-- .. to give a THING -/
theorem ep_gv {φ : Nat → Nat × Nat} {u nl : Nat} {H : ep_H} {t w : Nat} {C0 G0 C G : em_M} (h : ep_Md φ u nl H t w C0 G0 C G) (b : H.nf ≤ t + 1 ∧ H.ns ≤ t + 1 ∧ H.nw ≤ t + 1 ∧ H.ne ≤ t + 1) {ch wi : Nat} {v : Int64} {ie x : Int32} (hch : ch ≤ H.nf) (c13 : C.1 (w + 3) 13 = nI ch) (g17 : G.1 119 17 = nI ch - 1) (hwi : wi ≤ H.nw) (c14 : C.1 (w + 3) 14 = nI wi) (g18 : G.1 119 18 = nI wi - 1) (cw : ch ≠ 0 → H.W ch = wi) (ht : ep_Th H.ne v ie x) : ep_Ps φ u nl t w C0 G0 (et_X3_give w C v) (et_X12_gives G ie x) := by
  have w6 := h.w6
  rw [eq_give, eq_gives]
  have m : ep_Md φ u nl H t w C0 G0 (em_pI (em_pL C (w + 3) 12 v) (w + 3) 9 1) (em_pI (em_pI (em_pI G 119 13 1) 119 19 ie) 119 20 x) := ep_Md_rg h (fun o ho => by simp (disch := omega) only [ef_pI', eq_pL1]) (fun o ho => by simp (disch := omega) only [eq_pI2, ef_pL']) (by simp (disch := omega) only [ef_pI', ef_pIk, ef_pIs, eq_pL1]) (fun o ho => by simp (disch := omega) only [ef_pI']) rfl (fun k hk => by simp (disch := omega) only [ef_pI', ef_pIk, ef_pIs])
  refine ep_fin m b ch wi hch ?_ ?_ hwi ?_ ?_ cw (Or.inr ⟨?_, ?_, ?_⟩)
  all_goals simp (disch := omega) only [ef_pI', ef_pIk, ef_pIs, eq_pI2, ef_pL', ef_pLk, ef_pLs, eq_pL1]
  · exact c13
  · exact g17
  · exact c14
  · exact g18
  · exact ht
/-- a frame comes, and they are at work on a part -/
theorem ep_cw {φ : Nat → Nat × Nat} {u nl : Nat} {H : ep_H} {t w : Nat} {C0 G0 C G : em_M} (h : ep_Md φ u nl H t w C0 G0 C G) (b : H.nf ≤ t ∧ H.ns ≤ t + 1 ∧ H.nw ≤ t + 1 ∧ H.ne ≤ t + 1) (so be what e scope ke kt ex : Int32) (th : Int64) (es : Int32) (ch wi : Nat) (hch : ch ≤ H.nf) (c13 : C.1 (w + 3) 13 = nI ch) (hwi : wi ≤ H.nw) (c14 : C.1 (w + 3) 14 = nI wi)
    (hF : ∀ C' G', ep_nw w H.nf so be what e scope ke kt ex th es C C' G' → ep_Fk φ u (ep_aF H ch wi) w 119 C' G' H.nf)
    {x sc p k : Nat} (c10 : C.1 (w + 3) 10 = nI x) (hx : x < 800) (hk : k < 3) (hp : p < u) (c4 : C.1 4 (3 * x + k) = nI p) (hs : sc ≤ H.ns) (c11 : C.1 (w + 3) 11 = nI sc)
    (K : em_M → Int32 → em_M) (hK : (K = fun M r => et_X0_keep w M r th es) ∨ ((K = fun M _ => M) ∧ th = 0 ∧ es = 0))
    (Fw : em_M → em_M) (hFw : ∀ M : em_M, (∀ o, o ≠ 119 → M.1 o = G.1 o) → (∀ k, 2680 ≤ k → M.1 119 k = G.1 119 k) → (M.1 119 18 = G.1 119 18) → ep_fw φ p sc wi M (Fw M)) :
    es_X12_comes G (nI ch - 1) what e scope ke kt ex ∧ ep_Ps φ u nl t w C0 G0 (et_X3_workOn w (K (et_X3_comes w C so be).2 (et_X3_comes w C so be).1) (nI k)) (if (et_X12_comes G (nI ch - 1) what e scope ke kt ex).1 = 0 then (et_X12_comes G (nI ch - 1) what e scope ke kt ex).2 else Fw (et_X12_comes G (nI ch - 1) what e scope ke kt ex).2) := by
  have w6 := h.w6
  have t3 := h.t3
  obtain ⟨q1, q2⟩ := ep_come h (by omega) so be what e scope ke kt ex th es ch wi hch c13 hwi hF
  refine ⟨q1, ?_⟩
  rcases q2 with ⟨e1, e2⟩ | ⟨xx, d, C', e1, e2, q3, q4, q5, q6⟩
  · rw [e1, e2]
    simp only [if_true]
    have z : (0 : Int32) = nI 0 := rfl
    rcases hK with rfl | ⟨rfl, -, -⟩
    · simp only [et_X0_keep, et_X3_workOn, z]
      rw [eq_putS_ _ (by omega) (by omega), eq_putS _ (by omega) (by omega)]
      refine ep_stop h 4 (by decide) ?_ ?_ ?_ (Or.inl ?_) ?_ rfl ?_ ?_ (by simp (disch := omega) only [ef_pI', eq_pL1])
      · intro o o1 o2 o3 o4; simp (disch := omega) only [ef_pI', eq_pL1]
      · intro o o1; simp (disch := omega) only [eq_pI2, ef_pL']
      · intro k'; simp (disch := omega) only [ef_pI', ef_pIa, eq_pL1]
      · simp (disch := omega) only [ef_pI', ef_pIk, ef_pIs]; rfl
      · intro o ho; simp (disch := omega) only [ef_pI']
      · intro k' hk'; simp (disch := omega) only [ef_pIa]
      · intro k' hk'; simp (disch := omega) only [ef_pI', ef_pIk, ef_pIs]
    · simp only [et_X3_workOn]
      refine ep_stop h 4 (by decide) ?_ ?_ ?_ (Or.inl ?_) ?_ rfl ?_ ?_ (by simp (disch := omega) only [ef_pI', eq_pL1])
      · intro o o1 o2 o3 o4; simp (disch := omega) only [ef_pI', eq_pL1]
      · intro o o1; rfl
      · intro k'; simp (disch := omega) only [ef_pI', ef_pIa, eq_pL1]
      · simp (disch := omega) only [ef_pI', ef_pIk, ef_pIs]
      · intro o ho; simp (disch := omega) only [ef_pI']
      · intro k' hk'; simp (disch := omega) only [ef_pIa]
      · intro k' hk'; simp (disch := omega) only [ef_pI', ef_pIk, ef_pIs]
  · rw [e1, e2]
    simp only [if_neg (show ¬ (1 : Int32) = 0 by decide)]
    have kc : K C' (nI (H.nf + 1)) = et_X0_keep w C' (nI (H.nf + 1)) th es ∨ (K C' (nI (H.nf + 1)) = C' ∧ th = 0 ∧ es = 0) := by
      rcases hK with rfl | ⟨rfl, k1, k2⟩
      · exact Or.inl rfl
      · exact Or.inr ⟨rfl, k1, k2⟩
    obtain ⟨m, r3, r3l, rk, rp⟩ := q3 _ kc
    generalize K C' (nI (H.nf + 1)) = C2 at *
    have f := hFw _ q6 q5 (by rw [q4 _ (by omega) (by omega), if_neg (by omega)])
    rw [eq_workOn hx hk (by rw [r3, if_neg (by omega)]; exact c10)]
    refine ep_wk m ⟨by have := b.1; show H.nf + 1 ≤ t + 1; omega, b.2.1, b.2.2.1, b.2.2.2⟩ (ch := H.nf + 1) (wi := wi) (sc := sc) (p := p) (Nat.le_refl _) (by rw [r3, if_pos rfl]) ?_ hwi (by rw [r3, if_neg (by omega)]; exact c14) (fun _ => if_pos rfl) hp hs (by rw [r3, if_neg (by omega)]; exact c11) (by rw [rp]; exact c4) f
    rw [q4 _ (by omega) (by omega), if_pos rfl, eq_q1]
