/-! a STEP that gives a THING: first pieces -/
def ep_pC (w : Nat) (C : em_M) (b x s : Int32) : em_M := em_pI (em_pI (em_pI C (w + 3) 13 b) (w + 3) 10 x) (w + 3) 11 s
theorem ep_pCd (w : Nat) (C : em_M) (b x s : Int32) : em_pI (em_pI (em_pI C (w + 3) 13 b) (w + 3) 10 x) (w + 3) 11 s = ep_pC w C b x s := rfl
def ep_pr (w : Nat) (C : em_M) (b x s : Int32) (P : em_M) : Prop :=
  (∀ o, o ≠ w + 3 → P.1 o = C.1 o) ∧
  (P.2 = C.2) ∧
  (P.1 (w + 3) 13 = b) ∧
  (P.1 (w + 3) 10 = x) ∧
  (P.1 (w + 3) 11 = s) ∧
  (∀ k, k ≠ 10 → k ≠ 11 → k ≠ 13 → P.1 (w + 3) k = C.1 (w + 3) k)
theorem ep_pr.o1 {w : Nat} {C : em_M} {b x s : Int32} {P : em_M} (h : ep_pr w C b x s P) : ∀ o, o ≠ w + 3 → P.1 o = C.1 o := h.1
theorem ep_pr.o2 {w : Nat} {C : em_M} {b x s : Int32} {P : em_M} (h : ep_pr w C b x s P) : P.2 = C.2 := h.2.1
theorem ep_pr.r13 {w : Nat} {C : em_M} {b x s : Int32} {P : em_M} (h : ep_pr w C b x s P) : P.1 (w + 3) 13 = b := h.2.2.1
theorem ep_pr.r10 {w : Nat} {C : em_M} {b x s : Int32} {P : em_M} (h : ep_pr w C b x s P) : P.1 (w + 3) 10 = x := h.2.2.2.1
theorem ep_pr.r11 {w : Nat} {C : em_M} {b x s : Int32} {P : em_M} (h : ep_pr w C b x s P) : P.1 (w + 3) 11 = s := h.2.2.2.2.1
theorem ep_pr.rk {w : Nat} {C : em_M} {b x s : Int32} {P : em_M} (h : ep_pr w C b x s P) : ∀ k, k ≠ 10 → k ≠ 11 → k ≠ 13 → P.1 (w + 3) k = C.1 (w + 3) k := h.2.2.2.2.2
theorem ep_pr.mk {w : Nat} {C : em_M} {b x s : Int32} {P : em_M} (o1 : ∀ o, o ≠ w + 3 → P.1 o = C.1 o) (o2 : P.2 = C.2) (r13 : P.1 (w + 3) 13 = b) (r10 : P.1 (w + 3) 10 = x) (r11 : P.1 (w + 3) 11 = s) (rk : ∀ k, k ≠ 10 → k ≠ 11 → k ≠ 13 → P.1 (w + 3) k = C.1 (w + 3) k) : ep_pr w C b x s P :=
  ⟨o1, o2, r13, r10, r11, rk⟩
theorem ep_pCr (w : Nat) (C : em_M) (b x s : Int32) : ep_pr w C b x s (ep_pC w C b x s) := by
  unfold ep_pC
  refine ep_pr.mk (fun o ho => ?_) rfl ?_ ?_ ?_ (fun k k1 k2 k3 => ?_)
  all_goals simp (disch := omega) only [ef_pI', ef_pIk, ef_pIs]
theorem ec_comes2 (w : Nat) (C : em_M) (so be : Int32) : (et_X3_comes w C so be).2.2 (w + 3) = C.2 (w + 3) := by
  have a : ∀ ch e s : Int32, (et_X0_add w C ch so be e s).2.2 (w + 3) = C.2 (w + 3) := by
    intro ch e s
    rw [et_X0_add]
    by_cases p1 : (40 : Int32) < et_X11_at (w + 10) 301 C ch + 1
    · rw [if_pos p1]
    · rw [if_neg p1]
      by_cases p2 : C.1 (w + 8) 0 < 301
      · rw [if_pos p2]
        simp (disch := omega) only [ef_putL, ef_put12, eq_pI2]
      · rw [if_neg p2]
  rw [et_X3_comes]
  by_cases p : (et_X0_add w C (C.1 (w + 3) 13) so be (C.1 (w + 3) 10) (C.1 (w + 3) 11)).1 = 0
  · simp only [if_pos p]; exact a _ _ _
  · simp only [if_neg p]; exact a _ _ _
theorem eq_num0 {M : em_M} {ne : Nat} {t : Int64} {ie v : Int32} (h : ep_Th ne t ie v) (hn : ne ≤ 300) : (et_X11_isNumber M t = 0) = (ie = 1) := by
  rcases eq_Thn h hn M with ⟨a, b, -⟩ | ⟨a, b, -⟩
  · rw [eq_true a, eq_true b]
  · rw [eq_false a, b]; exact (eq_false (by decide)).symm
theorem eq_numv {ne : Nat} {t : Int64} {ie v : Int32} (h : ep_Th ne t ie v) (i : ¬ ie = 1) : ie = 0 ∧ t = v.toInt64 ∧ t.toInt32 = v := by
  rcases h with ⟨a, rfl⟩ | ⟨a, -⟩
  · exact ⟨a, rfl, by simp⟩
  · exact absurd a i
theorem eq_cmp0 (v : Int32) : (lg_cmp v.toInt64 (0 : Int64) = 0) = (v = 0) := by
  rw [lg_cmp_eq]
  refine propext ⟨fun q => ?_, fun q => by rw [q]; rfl⟩
  have := congrArg Int64.toInt q
  rw [Int32.toInt_toInt64] at this
  exact Int32.toInt_inj.mp (by rw [this]; rfl)
theorem eq_madeX (M M' : em_M) (s a b : Int32) : et_X3_made M s a b = et_X12_made M' s a b := rfl
/-- OUT has one more -/
theorem ep_Md_wr {φ : Nat → Nat × Nat} {u nl : Nat} {H : ep_H} {t w : Nat} {C0 G0 C G : em_M} (h : ep_Md φ u nl H t w C0 G0 C G) (y : Int32) : (C.1 (w + 4) 3 = 40 ∧ G.1 119 12 = 40) ∨ ∃ z, z < 40 ∧ C.1 (w + 4) 3 = nI z ∧ G.1 119 12 = nI z ∧ ep_Md φ u nl H t w C0 G0 (em_pI (em_pI C (w + 5) z y) (w + 4) 3 (nI (z + 1))) (em_pI (em_pI G 119 (74 + z) y) 119 12 (nI (z + 1))) := by
  obtain ⟨z, z1, z2, z3, z4⟩ := h.sz
  by_cases p : z = 40
  · subst p; exact Or.inl ⟨z2, z3⟩
  · have w6 := h.w6
    refine Or.inr ⟨z, by omega, z2, z3, ?_⟩
    refine ep_Md.mk h.w6 h.t3 h.nf h.ns h.nw h.ne ?_ ?_ ?_ ?_ ?_ ?_ ?_ ?_ ?_ ?_ ?_ ?_ ?_ ?_ ?_ ?_ ?_ ?_ ?_ ?_ ?_ ?_
    · intro k hk; simp (disch := omega) only [ef_pI', ef_pIk, ef_pIs]; exact h.va k hk
    · intro k hk; simp (disch := omega) only [ef_pI', ef_pIk, ef_pIs]; exact h.fu k hk
    · simp (disch := omega) only [ef_pI', ef_pIk, ef_pIs]; exact h.s0
    · simp (disch := omega) only [ef_pI', ef_pIk, ef_pIs]; exact h.s1
    · simp (disch := omega) only [ef_pI', ef_pIk, ef_pIs]; exact h.t0
    · simp (disch := omega) only [ef_pI', ef_pIk, ef_pIs]; exact h.t1
    · simp (disch := omega) only [ef_pI', ef_pIk, ef_pIs]; exact h.dp
    · refine ⟨z + 1, by omega, by simp (disch := omega) only [ef_pIs], by simp (disch := omega) only [ef_pIs], fun k hk => ?_⟩
      by_cases e : k = z
      · subst e; simp (disch := omega) only [ef_pI', ef_pIk, ef_pIs]
      · simp (disch := omega) only [ef_pI', ef_pIk, ef_pIs]; exact z4 k (by omega)
    · simp (disch := omega) only [ef_pI', ef_pIk, ef_pIs]; exact h.nf1
    · simp (disch := omega) only [ef_pI', ef_pIk, ef_pIs]; exact h.nf2
    · simp (disch := omega) only [ef_pI', ef_pIk, ef_pIs]; exact h.ns1
    · simp (disch := omega) only [ef_pI', ef_pIk, ef_pIs]; exact h.ns2
    · simp (disch := omega) only [ef_pI', ef_pIk, ef_pIs]; exact h.nw1
    · simp (disch := omega) only [ef_pI', ef_pIk, ef_pIs]; exact h.nw2
    · simp (disch := omega) only [ef_pI', ef_pIk, ef_pIs]; exact h.ne1
    · simp (disch := omega) only [ef_pI', ef_pIk, ef_pIs]; exact h.ne2
    · have n1 := h.nf
      have n2 := h.ns
      have n3 := h.nw
      have n4 := h.ne
      refine ep_Tb_ag h.tb (ep_Ag.mk ?_ ?_ ?_ ?_ ?_ ?_ ?_ ?_ ?_ ?_ ?_ ?_ ?_)
      all_goals (intros; simp (disch := omega) only [eq_pI2, ef_pI', ef_pIk])
    · intro o ho; simp (disch := omega) only [ef_pI']; exact h.kc o ho
    · intro o ho; exact h.k2 o ho
    · intro o ho; simp (disch := omega) only [ef_pI']; exact h.kg o ho
    · exact h.kl
    · intro k k1 k2; simp (disch := omega) only [ef_pI', ef_pIk, ef_pIs]; exact h.kr k k1 k2
/-- a VALUE changes -/
theorem ep_Md_va {φ : Nat → Nat × Nat} {u nl : Nat} {H : ep_H} {t w : Nat} {C0 G0 C G : em_M} (h : ep_Md φ u nl H t w C0 G0 C G) {a : Nat} (ha : a < 4) (y : Int32) : ep_Md φ u nl H t w C0 G0 (em_pI C (w + 1) a y) (em_pI G 119 a y) := by
  obtain ⟨z, z1, z2, z3, z4⟩ := h.sz
  have w6 := h.w6
  refine ep_Md.mk h.w6 h.t3 h.nf h.ns h.nw h.ne ?_ ?_ ?_ ?_ ?_ ?_ ?_ ?_ ?_ ?_ ?_ ?_ ?_ ?_ ?_ ?_ ?_ ?_ ?_ ?_ ?_ ?_
  · intro k hk
    by_cases e : k = a
    · simp (disch := omega) only [ef_pI', ef_pIk, ef_pIs]
    · simp (disch := omega) only [ef_pI', ef_pIk, ef_pIs]; exact h.va k hk
  · intro k hk; simp (disch := omega) only [ef_pI', ef_pIk, ef_pIs]; exact h.fu k hk
  · simp (disch := omega) only [ef_pI', ef_pIk, ef_pIs]; exact h.s0
  · simp (disch := omega) only [ef_pI', ef_pIk, ef_pIs]; exact h.s1
  · simp (disch := omega) only [ef_pI', ef_pIk, ef_pIs]; exact h.t0
  · simp (disch := omega) only [ef_pI', ef_pIk, ef_pIs]; exact h.t1
  · simp (disch := omega) only [ef_pI', ef_pIk, ef_pIs]; exact h.dp
  · refine ⟨z, z1, by simp (disch := omega) only [ef_pI']; exact z2, by simp (disch := omega) only [ef_pIk]; exact z3, fun k hk => ?_⟩
    simp (disch := omega) only [ef_pI', ef_pIk, ef_pIs]; exact z4 k (by omega)
  · simp (disch := omega) only [ef_pI', ef_pIk, ef_pIs]; exact h.nf1
  · simp (disch := omega) only [ef_pI', ef_pIk, ef_pIs]; exact h.nf2
  · simp (disch := omega) only [ef_pI', ef_pIk, ef_pIs]; exact h.ns1
  · simp (disch := omega) only [ef_pI', ef_pIk, ef_pIs]; exact h.ns2
  · simp (disch := omega) only [ef_pI', ef_pIk, ef_pIs]; exact h.nw1
  · simp (disch := omega) only [ef_pI', ef_pIk, ef_pIs]; exact h.nw2
  · simp (disch := omega) only [ef_pI', ef_pIk, ef_pIs]; exact h.ne1
  · simp (disch := omega) only [ef_pI', ef_pIk, ef_pIs]; exact h.ne2
  · have n1 := h.nf
    have n2 := h.ns
    have n3 := h.nw
    have n4 := h.ne
    refine ep_Tb_ag h.tb (ep_Ag.mk ?_ ?_ ?_ ?_ ?_ ?_ ?_ ?_ ?_ ?_ ?_ ?_ ?_)
    all_goals (intros; simp (disch := omega) only [eq_pI2, ef_pI', ef_pIk])
  · intro o ho; simp (disch := omega) only [ef_pI']; exact h.kc o ho
  · intro o ho; exact h.k2 o ho
  · intro o ho; simp (disch := omega) only [ef_pI']; exact h.kg o ho
  · exact h.kl
  · intro k k1 k2; simp (disch := omega) only [ef_pI', ef_pIk, ef_pIs]; exact h.kr k k1 k2
/-- KIND or LOST or the like, behind a frame that went -/
theorem ep_stopP {φ : Nat → Nat × Nat} {u nl : Nat} {H : ep_H} {t w : Nat} {C0 G0 C G P Q : em_M} {b x s : Int32} (h : ep_Md φ u nl H t w C0 G0 C G) (v : Int32) (hv : v ≠ 0 ∧ v ≠ -5) (c9 : C.1 (w + 3) 9 = 1) (r : ep_pr w C b x s P) (g1 : ∀ o, o ≠ 119 → Q.1 o = G.1 o) (g2 : Q.2 = G.2) (g3 : ∀ k, k < 13 ∨ 20 < k → Q.1 119 k = G.1 119 k) : ep_Ps φ u nl t w C0 G0 (em_pI P (w + 4) 0 v) (em_pI Q 119 7 v) := by
  refine ep_stop h v hv ?_ ?_ ?_ (Or.inr ?_) ?_ g2 ?_ ?_ (by rw [ef_pI' _ _ _ _ (by omega), r.o1 _ (by omega)])
  · intro o o1 o2 o3 o4; rw [ef_pI' _ _ _ _ o2]; exact r.o1 o o1
  · intro o o1; rw [eq_pI2, r.o2]
  · intro k; rw [ef_pIa, r.o1 _ (by omega)]
  · rw [ef_pI' _ _ _ _ (by omega), r.rk _ (by omega) (by omega) (by omega)]; exact c9
  · intro o ho; rw [ef_pI' _ _ _ _ ho]; exact g1 o ho
  · intro k hk; rw [ef_pIa, g3 _ (by omega)]
  · intro k hk; rw [ef_pIk _ _ (by omega)]; exact g3 k (by omega)
theorem ep_Md_pop {φ : Nat → Nat × Nat} {u nl : Nat} {H : ep_H} {t w : Nat} {C0 G0 C G P : em_M} {b x s : Int32} (h : ep_Md φ u nl H t w C0 G0 C G) (r : ep_pr w C b x s P) (v : Int32) : ep_Md φ u nl H t w C0 G0 P (em_pI G 119 17 v) :=
  ep_Md_rg h r.o1 (fun o _ => by rw [r.o2]) (r.rk _ (by omega) (by omega) (by omega)) (fun o ho => ef_pI' _ _ _ _ ho) rfl (fun k hk => ef_pIk _ _ (by omega))
