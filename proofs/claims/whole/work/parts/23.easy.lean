theorem pl_count {M : em_M} (hI : ep_Inv M) (what : Int32) {r1 : Int32} (e1 : et_X11_count M what = r1) : ∀ (r2 : Int32), et_X12_count M what = r2 → r1 = r2 ∧ ep_Inv M := by
  intro r2 e2
  refine ⟨?_, hI⟩
  obtain ⟨φ, D, u, nl, h⟩ := hI
  obtain ⟨n1, -, q1, q1', -⟩ := h.rs
  obtain ⟨n2, -, q2, q2', -⟩ := h.rp
  obtain ⟨n3, -, q3, q3', -⟩ := h.rb
  obtain ⟨n4, -, q4, q4', -⟩ := h.tx
  rw [← e1, ← e2]
  unfold et_X11_count et_X12_count
  rw [show ((25 : Int32)).toNatClampNeg = 25 from rfl, show ((26 : Int32)).toNatClampNeg = 26 from rfl, show ((27 : Int32)).toNatClampNeg = 27 from rfl, q1, q1', q2, q2', q3, q3', q4, q4', h.ln.sz, h.ln.sm]
theorem pm_feed {φ D : Nat → Nat × Nat} {u nl : Nat} {C G : em_M} (h : ep_I φ D u nl C G) (sign : Int32) : es_X12_feed G sign ∧ (et_X11_feed C sign).1 = (et_X12_feed G sign).1 ∧ ∃ φ' D' u' nl', ep_I φ' D' u' nl' (et_X11_feed C sign).2 (et_X12_feed G sign).2 := by
  obtain ⟨n, hn, c0, g0, hk⟩ := h.tx
  have ein : et_X12_in G sign.toInt64 (0 : Int64) (127 : Int64) = if sign < 0 then 0 else if 127 < sign then 0 else 1 := eq_in G sign 0 127
  unfold es_X12_feed et_X11_feed et_X12_feed et_X5_append
  by_cases p1 : sign < 0
  · rw [ein]
    simp only [p1, if_true]
    refine ⟨?_, trivial, φ, D, u, nl, h⟩
    rintro r1 rfl
    exact ⟨fun _ => trivial, fun q => absurd rfl q⟩
  · by_cases p2 : sign ≤ 127
    · have p2' : ¬ 127 < sign := Int32.not_lt.mpr p2
      rw [ein]
      simp only [p1, p2, p2', if_true, if_false]
      obtain ⟨c, hc, rfl⟩ := nI_of2 (M := 127) (n := 127) (by decide) p1 p2
      rw [c0, g0]
      by_cases p3 : n = 100
      · have p4 : ¬ nI n < 100 := by rw [p3]; decide
        have p5 : nI n = (100 : Int32) := by rw [p3]; rfl
        simp only [p4, p5, if_true, if_false, show ¬ ((1 : Int32) = 0) by decide, show ¬ ((100 : Int32) < 100) by decide]
        refine ⟨?_, trivial, φ, D, u, nl, h⟩
        rintro r1 rfl
        exact ⟨fun _ => trivial, fun q => ⟨fun _ => trivial, fun q => absurd trivial q⟩⟩
      · have p4 : nI n < 100 := nI_lt (b := 100) (by omega) (by omega)
        have p5 : ¬ nI n = (100 : Int32) := fun e => p3 ((nI_eq (b := 100) (by omega) (by omega)).mp e)
        simp only [p4, p5, if_true, if_false, show ¬ ((1 : Int32) = 0) by decide]
        rw [eq_put (j := n) rfl (by omega) (by omega), nI_clamp (by omega)]
        simp only [eq_pI, if_true, if_false, c0, g0, show ¬ ((9 : Nat) = 10) by decide, show ¬ ((118 : Nat) = 127) by decide, nI_1]
        refine ⟨?_, trivial, φ, D, u, nl, ?_⟩
        · rintro r1 rfl
          refine ⟨fun _ => trivial, fun q => ⟨fun _ => trivial, fun q => ⟨vp_in_nI (by omega) (by omega), ?_⟩⟩⟩
          intros; trivial
        · refine ep_I.mk (ep_Ln_cg ?_ ?_ ?_ h.ln) ?_ (fun i hi => ep_Tp_cg ?_ ?_ ?_ ?_ ?_ (h.tp i hi)) (ep_Rw_cg ?_ ?_ ?_ h.rs) (ep_Rw_cg ?_ ?_ ?_ h.rp) (ep_Rw_cg ?_ ?_ ?_ h.rb) ?_ (ep_Wd_cg ?_ ?_ ?_ ?_ ?_ h.wd) (ep_Io_cg ?_ ?_ ?_ ?_ ?_ ?_ ?_ h.io)
          case refine_4 =>
            refine ⟨n + 1, by omega, by simp [eq_pI], by simp [eq_pI], fun k hk' => ?_⟩
            by_cases hkn : k = n
            · subst hkn
              exact ⟨c, by omega, by simp [eq_pI], by simp [eq_pI]⟩
            · obtain ⟨c', h1, h2, h3⟩ := hk k (by omega)
              exact ⟨c', h1, by simp [eq_pI, hkn, h2], by simp [eq_pI, hkn, h3]⟩
          all_goals first | (intros; simp (disch := omega) only [eq_pI, eq_pI2, ef_pI', if_neg]; done) | (intros; simp [eq_pI]; done) | (simp [eq_pI]; exact h.iz) | trace_state
    · have p2' : 127 < sign := Int32.not_le.mp p2
      rw [ein]
      simp only [p1, p2, p2', if_true, if_false]
      refine ⟨?_, trivial, φ, D, u, nl, h⟩
      rintro r1 rfl
      exact ⟨fun _ => trivial, fun q => absurd rfl q⟩
theorem pl_feed {M : em_M} (hI : ep_Inv M) (sign : Int32) {r1 : Int32} {M1 : em_M} (e1 : et_X11_feed M sign = (r1, M1)) : es_X12_feed M1 sign ∧ ∀ (r2 : Int32) (M2 : em_M), et_X12_feed M1 sign = (r2, M2) → r1 = r2 ∧ ep_Inv M2 :=
  ep_go hI (fun M => et_X11_feed M sign) (fun M => et_X12_feed M sign) (fun M => es_X12_feed M sign) (fun _ _ _ _ _ _ h => pm_feed h sign) (fun o h => ef1_X11_feed _ _ (by omega)) (fun o h => ef2_X11_feed _ _ (by omega)) (fun o h => ef1_X12_feed _ _ (by omega)) (fun o h => ef2_X12_feed _ _ (by omega)) e1
