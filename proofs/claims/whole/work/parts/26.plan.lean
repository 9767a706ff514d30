/-- the last part of plan, of a row that stands -/
theorem ep_planA {φ D : Nat → Nat × Nat} {u nl : Nat} {C G : em_M} (h : ep_I φ D u nl C G) (what v : Int32) (hV : ep_Vp nl what v) (p3 : ¬ G.1 119 26 = 10) : ∃ n, n < 10 ∧ G.1 119 26 = nI n ∧ (et_X6_add 15 C what v).1 = nI (n + 1) ∧ ep_I φ D u nl (et_X6_add 15 C what v).2 (em_pI (em_pI (em_pI G 119 (38 + 2 * n) what) 119 (38 + 2 * n + 1) v) 119 26 (nI (n + 1))) := by
  obtain ⟨n, hn, hg, hc, hr⟩ := ep_addN h.rp h.iz.2.1 (by omega) p3 (by omega) what v hV
  rw [hc]
  refine ⟨n, hn, hg, rfl, ?_⟩
  exact ep_I_rows h (fun o ho => by simp (disch := omega) only [ef_pI']) (fun _ => rfl) (by simp [eq_pI]) (fun o ho => by simp (disch := omega) only [ef_pI']) (fun _ => rfl) (fun k hk => by simp (disch := omega) only [eq_pI, if_neg, if_true]) (ep_Rw_cg (fun o _ _ => by simp (disch := omega) only [ef_pI']) (by simp (disch := omega) only [eq_pI, if_neg, if_true]) (fun k _ _ => by simp (disch := omega) only [eq_pI, if_neg, if_true]) h.rs) hr (ep_Rw_cg (fun o _ _ => by simp (disch := omega) only [ef_pI']) (by simp (disch := omega) only [eq_pI, if_neg, if_true]) (fun k _ _ => by simp (disch := omega) only [eq_pI, if_neg, if_true]) h.rb)
theorem ep_imgA {M : em_M} (hI : ep_Inv M) : M.1 24 9 = 0 ∨ M.1 24 9 = 1 := by
  obtain ⟨φ, D, u, nl, h⟩ := hI
  exact h.wd.gb.1
theorem ep_undoA {M : em_M} (hI : ep_Inv M) : M.1 58 9 = 0 ∨ M.1 58 9 = 1 := by
  obtain ⟨φ, D, u, nl, h⟩ := hI
  exact h.io.ig
theorem ep_htz {M : em_M} (hI : ep_Inv M) : ∀ t, et t → 0 ≤ (M.1 t 1).toInt ∧ (M.1 t 1).toInt ≤ 60 := by
  obtain ⟨φ, D, u, nl, h⟩ := hI
  intro t ht
  have k : ∃ i, i < 6 ∧ t = 106 + 2 * i := by
    rcases ht with e | e | e | e | e | e
    · exact ⟨0, by omega, e⟩
    · exact ⟨1, by omega, e⟩
    · exact ⟨2, by omega, e⟩
    · exact ⟨3, by omega, e⟩
    · exact ⟨4, by omega, e⟩
    · exact ⟨5, by omega, e⟩
  obtain ⟨i, hi, rfl⟩ := k
  obtain ⟨s, hs, -, e, -⟩ := h.tp i hi
  rw [e, nI_toInt (by omega)]
  omega
theorem pm_plan {φ D : Nat → Nat × Nat} {u nl : Nat} {C G : em_M} (h : ep_I φ D u nl C G) (what n : Int32) : es_X12_plan G what n ∧ (et_X11_plan C what n).1 = (et_X12_plan G what n).1 ∧ ∃ φ' D' u' nl', ep_I φ' D' u' nl' (et_X11_plan C what n).2 (et_X12_plan G what n).2 := by
  have em : ∀ (q : Int32) (_ : ¬ q = 0 → ep_Vp nl what n), (q = 0 → True) ∧ True := fun _ _ => ⟨fun _ => trivial, trivial⟩
  have hes : ep_Vp nl what n → (¬ G.1 119 26 = 10 → ∃ k, k < 10 ∧ G.1 119 26 = nI k) := by
    intro hV p3
    obtain ⟨k, hk, hg, -, -⟩ := ep_planA h what n hV p3
    exact ⟨k, hk, hg⟩
  unfold es_X12_plan et_X11_plan et_X12_plan
  rw [show ((26 : Int32)).toNatClampNeg = 26 from rfl]
  simp only [eq_name, eq_fun, eq_line h.ln, show et_X11_isFunction G n = et_X11_isFunction C n from rfl, eq_nameC G C]
  have main : ∀ hV : ep_Vp nl what n, ((G.1 119 26 = 10 → True) ∧ (¬ G.1 119 26 = 10 → vp_in (38 + 2 * G.1 119 26) 5880 ∧ ∀ M5 : em_M, em_pI G 119 ((38 + 2 * G.1 119 26)).toNatClampNeg what = M5 → vp_in (38 + 2 * G.1 119 26 + 1) 5880 ∧ ∀ M6 : em_M, em_pI M5 119 ((38 + 2 * G.1 119 26 + 1)).toNatClampNeg n = M6 → ∀ M7 : em_M, em_pI M6 119 26 (G.1 119 26 + 1) = M7 → True)) ∧
      (et_X6_add 15 C what n).1 = (if G.1 119 26 = 10 then ((-4 : Int32), G) else (G.1 119 26 + 1, em_pI (em_pI (em_pI G 119 ((38 + 2 * G.1 119 26)).toNatClampNeg what) 119 ((38 + 2 * G.1 119 26 + 1)).toNatClampNeg n) 119 26 (G.1 119 26 + 1))).1 ∧
      ep_I φ D u nl (et_X6_add 15 C what n).2 (if G.1 119 26 = 10 then ((-4 : Int32), G) else (G.1 119 26 + 1, em_pI (em_pI (em_pI G 119 ((38 + 2 * G.1 119 26)).toNatClampNeg what) 119 ((38 + 2 * G.1 119 26 + 1)).toNatClampNeg n) 119 26 (G.1 119 26 + 1))).2 := by
    intro hV
    by_cases p3 : G.1 119 26 = 10
    · rw [ep_addF h.rp h.iz.2.1 (by omega) p3, if_pos p3]
      exact ⟨⟨fun _ => trivial, fun q => absurd p3 q⟩, rfl, h⟩
    · obtain ⟨k, hk, hg, h1, h2⟩ := ep_planA h what n hV p3
      rw [if_neg p3]
      have e1 : (38 : Int32) + 2 * G.1 119 26 = nI (38 + 2 * k) := by rw [hg]; exact eq_mul2 38 k
      rw [e1, show nI (38 + 2 * k) + 1 = nI (38 + 2 * k + 1) from nI_1 _, nI_clamp (by omega), nI_clamp (by omega), hg, nI_1]
      exact ⟨⟨fun _ => trivial, fun _ => ⟨vp_in_nI (by omega) (by omega), fun _ _ => ⟨vp_in_nI (by omega) (by omega), fun _ _ _ _ => trivial⟩⟩⟩, h1, h2⟩
  by_cases p1 : what = -1
  · simp only [p1, if_true]
    refine ⟨⟨fun _ => fun _ _ => trivial, fun q => absurd trivial q⟩, ?_, φ, D, u, nl, ?_⟩
    · simp [et_X6_empty, eq_pI]
    · rw [et_X6_empty]
      exact ep_I_rows h (fun o ho => by simp (disch := omega) only [ef_pI']) (fun _ => rfl) (by simp [eq_pI]) (fun o ho => by simp (disch := omega) only [ef_pI']) (fun _ => rfl) (fun k hk => by simp (disch := omega) only [eq_pI, if_neg, if_true])
        (ep_Rw_cg (fun o _ _ => by simp (disch := omega) only [ef_pI']) (by simp (disch := omega) only [eq_pI, if_neg, if_true]) (fun k _ _ => by simp (disch := omega) only [eq_pI, if_neg, if_true]) h.rs) (ep_clr h.rp)
        (ep_Rw_cg (fun o _ _ => by simp (disch := omega) only [ef_pI']) (by simp (disch := omega) only [eq_pI, if_neg, if_true]) (fun k _ _ => by simp (disch := omega) only [eq_pI, if_neg, if_true]) h.rb)
  · by_cases p2 : what = 0
    · by_cases p4 : et_X2_has C n = 0
      · rw [if_neg p1, if_neg p1, if_pos p2, if_pos p2, if_pos p4, if_pos p4]
        exact ⟨⟨fun q => absurd q p1, fun _ => ⟨fun _ => fun r2 e => ⟨fun _ => trivial, fun q => absurd (e.symm.trans p4) q⟩, fun q => absurd p2 q⟩⟩, rfl, φ, D, u, nl, h⟩
      · obtain ⟨l, hl, e⟩ := eq_lineN h.ln p4
        obtain ⟨m1, m2, m3⟩ := main (Or.inl ⟨by rw [p2, nI_0], l, hl, e⟩)
        rw [if_neg p1, if_neg p1, if_pos p2, if_pos p2, if_neg p4, if_neg p4]
        exact ⟨⟨fun q => absurd q p1, fun _ => ⟨fun _ => fun r2 e => ⟨fun _ => trivial, fun _ => m1⟩, fun q => absurd p2 q⟩⟩, m2, φ, D, u, nl, m3⟩
    · by_cases p5 : what = 1
      · by_cases p4 : et_X11_isName C n = 0
        · rw [if_neg p1, if_neg p1, if_neg p2, if_neg p2, if_pos p5, if_pos p5, if_pos p4, if_pos p4]
          exact ⟨⟨fun q => absurd q p1, fun _ => ⟨fun q => absurd q p2, fun _ => ⟨fun _ => fun r2 e => ⟨fun _ => trivial, fun q => absurd (e.symm.trans p4) q⟩, fun q => absurd p5 q⟩⟩⟩, rfl, φ, D, u, nl, h⟩
        · obtain ⟨l, hl, e⟩ := eq_nameN p4
          obtain ⟨m1, m2, m3⟩ := main (Or.inr (Or.inl ⟨p5, l, hl, e⟩))
          rw [if_neg p1, if_neg p1, if_neg p2, if_neg p2, if_pos p5, if_pos p5, if_neg p4, if_neg p4]
          exact ⟨⟨fun q => absurd q p1, fun _ => ⟨fun q => absurd q p2, fun _ => ⟨fun _ => fun r2 e => ⟨fun _ => trivial, fun _ => m1⟩, fun q => absurd p5 q⟩⟩⟩, m2, φ, D, u, nl, m3⟩
      · by_cases p6 : what = 2
        · by_cases p4 : et_X11_isFunction C n = 0
          · rw [if_neg p1, if_neg p1, if_neg p2, if_neg p2, if_neg p5, if_neg p5, if_pos p6, if_pos p6, if_pos p4, if_pos p4]
            exact ⟨⟨fun q => absurd q p1, fun _ => ⟨fun q => absurd q p2, fun _ => ⟨fun q => absurd q p5, fun _ => ⟨fun _ => fun r2 e => ⟨fun _ => trivial, fun q => absurd (e.symm.trans p4) q⟩, fun q => absurd p6 q⟩⟩⟩⟩, rfl, φ, D, u, nl, h⟩
          · obtain ⟨l, hl, e⟩ := eq_funN p4
            obtain ⟨m1, m2, m3⟩ := main (Or.inr (Or.inr ⟨p6, l, hl, e⟩))
            rw [if_neg p1, if_neg p1, if_neg p2, if_neg p2, if_neg p5, if_neg p5, if_pos p6, if_pos p6, if_neg p4, if_neg p4]
            exact ⟨⟨fun q => absurd q p1, fun _ => ⟨fun q => absurd q p2, fun _ => ⟨fun q => absurd q p5, fun _ => ⟨fun _ => fun r2 e => ⟨fun _ => trivial, fun _ => m1⟩, fun q => absurd p6 q⟩⟩⟩⟩, m2, φ, D, u, nl, m3⟩
        · rw [if_neg p1, if_neg p1, if_neg p2, if_neg p2, if_neg p5, if_neg p5, if_neg p6, if_neg p6]
          exact ⟨⟨fun q => absurd q p1, fun _ => ⟨fun q => absurd q p2, fun _ => ⟨fun q => absurd q p5, fun _ => ⟨fun q => absurd q p6, fun _ => trivial⟩⟩⟩⟩, rfl, φ, D, u, nl, h⟩
theorem pl_plan {M : em_M} (hI : ep_Inv M) (what : Int32) (n : Int32) {r1 : Int32} {M1 : em_M} (e1 : et_X11_plan M what n = (r1, M1)) : es_X12_plan M1 what n ∧ ∀ (r2 : Int32) (M2 : em_M), et_X12_plan M1 what n = (r2, M2) → r1 = r2 ∧ ep_Inv M2 :=
  ep_go hI (fun M => et_X11_plan M what n) (fun M => et_X12_plan M what n) (fun M => es_X12_plan M what n) (fun _ _ _ _ _ _ h => pm_plan h what n) (fun o h => ef1_X11_plan _ _ _ (by omega)) (fun o h => ef2_X11_plan _ _ _ (by omega)) (fun o h => ef1_X12_plan _ _ _ (by omega)) (fun o h => ef2_X12_plan _ _ _ (by omega)) e1
