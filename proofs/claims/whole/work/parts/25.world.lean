theorem ep_I_wd {φ D : Nat → Nat × Nat} {u nl : Nat} {C C' G G' : em_M} (h : ep_I φ D u nl C G) (a1 : ∀ o, o < 21 ∨ 44 < o → C'.1 o = C.1 o) (a2 : ∀ o, o < 21 ∨ 44 < o → C'.2 o = C.2 o) (b1 : ∀ o, o ≠ 119 → G'.1 o = G.1 o) (b2 : ∀ o, G'.2 o = G.2 o) (b3 : ∀ k, 25 ≤ k → k ≤ 73 → G'.1 119 k = G.1 119 k) (wd : ep_Wd φ u nl 21 119 C' G') : ep_I φ D u nl C' G' := by
  refine ep_I.mk (ep_Ln_cg (fun o _ _ => a1 o (by omega)) (by rw [b1 _ (by omega)]) (fun o _ _ => b1 o (by omega)) h.ln) (ep_Tx_cg (by rw [a1 _ (by omega)]) (a1 _ (by omega)) (by rw [b1 _ (by omega)]) (b1 _ (by omega)) h.tx) (fun i hi => ep_Tp_cg (a1 _ (by omega)) (a2 _ (by omega)) (by rw [b1 _ (by omega)]) (by rw [b1 _ (by omega)]) (fun k _ _ => by rw [b2]) (h.tp i hi))
    (ep_Rw_cg (fun o _ _ => a1 o (by omega)) (b3 _ (by omega) (by omega)) (fun k _ _ => b3 k (by omega) (by omega)) h.rs)
    (ep_Rw_cg (fun o _ _ => a1 o (by omega)) (b3 _ (by omega) (by omega)) (fun k _ _ => b3 k (by omega) (by omega)) h.rp)
    (ep_Rw_cg (fun o _ _ => a1 o (by omega)) (b3 _ (by omega) (by omega)) (fun k _ _ => b3 k (by omega) (by omega)) h.rb) ?_ wd (ep_Io_cg (by rw [a1 _ (by omega)]) (a1 _ (by omega)) (a1 _ (by omega)) (fun o _ _ => a1 o (by omega)) (fun o _ _ => a2 o (by omega)) (by rw [b1 _ (by omega)]) (b1 _ (by omega)) h.io)
  rw [a1 _ (by omega), a1 _ (by omega), a1 _ (by omega), a1 _ (by omega), a1 _ (by omega)]
  exact h.iz
theorem ep_Rn_cg {φ : Nat → Nat × Nat} {u : Nat} {H : ep_H} {s ch wi w g : Nat} {C C' G G' : em_M} (a0 : C'.1 2 = C.1 2) (a4 : C'.1 4 = C.1 4) (a1 : ∀ o, w + 3 ≤ o → o ≤ w + 23 → C'.1 o = C.1 o) (a2 : ∀ o, w + 3 ≤ o → o ≤ w + 23 → C'.2 o = C.2 o) (b1 : ∀ k, 10 ≤ k ∧ k < 25 ∨ 73 < k → G'.1 g k = G.1 g k) (h : ep_Rn φ u H s ch wi w g C G) : ep_Rn φ u H s ch wi w g C' G' := by
  unfold ep_Rn ep_Fk ep_F1 ep_F2 ep_F3 at h ⊢
  simp (disch := omega) only [a0, a4, a1, a2, b1]
  exact h
/-- a VALUE is put -/
theorem ep_Wd_va {φ : Nat → Nat × Nat} {u nl w g : Nat} {C G : em_M} (h0 : 5 ≤ w) (h : ep_Wd φ u nl w g C G) (j : Nat) (hj : j < 4) (v : Int32) : ep_Wd φ u nl w g (em_pI C (w + 1) j v) (em_pI G g j v) := by
  obtain ⟨h1, h2, h3, h4, h5, h6, h7, h8, h9⟩ := h
  refine ⟨fun k hk => ?_, fun k hk => ?_, ?_, ?_, ?_, ?_, ?_, ?_, ?_⟩
  · by_cases q : k = j
    · subst q; simp [eq_pI]
    · simp [eq_pI, q]; exact h1 k hk
  · have := h2 k hk
    simp (disch := omega) only [eq_pI, if_neg, if_pos, ite_self]
    exact this
  · simp (disch := omega) only [eq_pI, if_neg, if_pos, ite_self]; exact h3
  · simp (disch := omega) only [eq_pI, if_neg, if_pos, ite_self]; exact h4
  · simp (disch := omega) only [eq_pI, if_neg, if_pos, ite_self]; exact h5
  · simp (disch := omega) only [eq_pI, if_neg, if_pos, ite_self]; exact h6
  · simp (disch := omega) only [eq_pI, eq_pI2, if_neg, if_pos]; exact h7
  · simp (disch := omega) only [eq_pI, if_neg, if_pos, ite_self]; exact h8
  · simp (disch := omega) only [eq_pI, if_neg, if_pos, ite_self]
    intro q
    obtain ⟨H, s, ch, wi, e, r⟩ := h9 q
    exact ⟨H, s, ch, wi, e, ep_Rn_cg (ef_pI' _ _ _ _ (by omega)) (ef_pI' _ _ _ _ (by omega)) (fun o _ _ => ef_pI' _ _ _ _ (by omega)) (fun _ _ _ => rfl) (fun k hk => by simp (disch := omega) only [eq_pI, if_neg, if_pos, ite_self]) r⟩
/-- a FUNCTION is put -/
theorem ep_Wd_fu {φ : Nat → Nat × Nat} {u nl w g : Nat} {C G : em_M} (h0 : 5 ≤ w) (h : ep_Wd φ u nl w g C G) (j : Nat) (hj : j < 3) (v : Int32) (hv : v = -5 ∨ ∃ l, l < nl ∧ v = nI l) : ep_Wd φ u nl w g (em_pI C (w + 2) j v) (em_pI G g (4 + j) v) := by
  obtain ⟨h1, h2, h3, h4, h5, h6, h7, h8, h9⟩ := h
  refine ⟨fun k hk => ?_, fun k hk => ?_, ?_, ?_, ?_, ?_, ?_, ?_, ?_⟩
  · have := h1 k hk
    simp (disch := omega) only [eq_pI, if_neg, if_pos, ite_self]
    exact this
  · by_cases q : k = j
    · subst q
      simp (disch := omega) only [eq_pI, if_neg, if_pos, ite_self]
      exact ⟨rfl, hv⟩
    · simp (disch := omega) only [eq_pI, if_neg, if_pos, ite_self]
      exact h2 k hk
  · simp (disch := omega) only [eq_pI, if_neg, if_pos, ite_self]; exact h3
  · simp (disch := omega) only [eq_pI, if_neg, if_pos, ite_self]; exact h4
  · simp (disch := omega) only [eq_pI, if_neg, if_pos, ite_self]; exact h5
  · simp (disch := omega) only [eq_pI, if_neg, if_pos, ite_self]; exact h6
  · simp (disch := omega) only [eq_pI, eq_pI2, if_neg, if_pos]; exact h7
  · simp (disch := omega) only [eq_pI, if_neg, if_pos, ite_self]; exact h8
  · simp (disch := omega) only [eq_pI, if_neg, if_pos, ite_self]
    intro q
    obtain ⟨H, s, ch, wi, e, r⟩ := h9 q
    exact ⟨H, s, ch, wi, e, ep_Rn_cg (ef_pI' _ _ _ _ (by omega)) (ef_pI' _ _ _ _ (by omega)) (fun o _ _ => ef_pI' _ _ _ _ (by omega)) (fun _ _ _ => rfl) (fun k hk => by simp (disch := omega) only [eq_pI, if_neg, if_pos, ite_self]) r⟩
theorem pm_value {φ D : Nat → Nat × Nat} {u nl : Nat} {C G : em_M} (h : ep_I φ D u nl C G) (name v : Int32) : es_X12_value G name v ∧ (et_X11_value C name v).1 = (et_X12_value G name v).1 ∧ ∃ φ' D' u' nl', ep_I φ' D' u' nl' (et_X11_value C name v).2 (et_X12_value G name v).2 := by
  unfold es_X12_value et_X11_value et_X12_value
  simp only [eq_name, eq_nameC G C]
  by_cases p2 : et_X11_isName C name = 0
  · simp only [p2, if_true]
    exact ⟨fun r2 e => ⟨fun _ => trivial, fun q => absurd e.symm q⟩, trivial, φ, D, u, nl, h⟩
  · obtain ⟨j, hj, rfl⟩ := eq_nameN p2
    simp only [p2, if_false]
    have e0 : (0 : Int32) + nI j = nI j := by rw [show (0 : Int32) = nI 0 from rfl, nI_add, Nat.zero_add]
    rw [e0, eq_at (j := j) rfl hj (by omega), eq_put (j := j) rfl hj (by omega), nI_clamp (by omega), h.wd.va j hj]
    exact ⟨fun r2 e => ⟨fun _ => trivial, fun _ => ⟨vp_in_nI (by omega) (by omega), vp_in_nI (by omega) (by omega), fun _ _ => trivial⟩⟩, rfl, φ, D, u, nl, ep_I_wd h (fun o ho => ef_pI' _ _ _ _ (by omega)) (fun _ _ => rfl) (fun o ho => ef_pI' _ _ _ _ (by omega)) (fun _ => rfl) (fun k _ _ => by simp (disch := omega) only [eq_pI, if_neg, if_pos, ite_self]) (ep_Wd_va (by omega) h.wd j hj v)⟩
theorem pl_value {M : em_M} (hI : ep_Inv M) (name : Int32) (v : Int32) {r1 : Int64} {M1 : em_M} (e1 : et_X11_value M name v = (r1, M1)) : es_X12_value M1 name v ∧ ∀ (r2 : Int64) (M2 : em_M), et_X12_value M1 name v = (r2, M2) → r1 = r2 ∧ ep_Inv M2 :=
  ep_go hI (fun M => et_X11_value M name v) (fun M => et_X12_value M name v) (fun M => es_X12_value M name v) (fun _ _ _ _ _ _ h => pm_value h name v) (fun o h => ef1_X11_value _ _ _ (by omega)) (fun o h => ef2_X11_value _ _ _ (by omega)) (fun o h => ef1_X12_value _ _ _ (by omega)) (fun o h => ef2_X12_value _ _ _ (by omega)) e1
theorem eq_line {φ D : Nat → Nat × Nat} {u nl : Nat} {C G : em_M} (h : ep_Ln φ D u nl C G) (x : Int32) : et_X12_isLine G x = et_X2_has C x := by
  rw [et_X12_isLine, et_X2_has, h.sz, h.sm]
  have n8 := h.n8
  rw [show et_X12_in G x.toInt64 (0 : Int64) ((nI nl - 1).toInt64) = if x < 0 then 0 else if nI nl - 1 < x then 0 else 1 from eq_in G x 0 (nI nl - 1)]
  by_cases p1 : x < 0
  · rw [if_pos p1, if_pos p1]
  · obtain ⟨j, hj, rfl⟩ := nI_of p1
    rw [if_neg p1, if_neg p1]
    have e : (nI nl - 1).toInt = (nl : Int) - 1 := by
      cases nl with
      | zero => decide
      | succ n => rw [nI_pred, nI_toInt (by omega)]; omega
    by_cases p2 : nl ≤ j
    · rw [if_pos (nI_le p2 hj), if_pos]
      rw [Int32.lt_iff_toInt_lt, e, nI_toInt hj]
      omega
    · rw [if_neg (nI_ge (by omega) (by omega)), if_neg]
      rw [Int32.lt_iff_toInt_lt, e, nI_toInt hj]
      omega
theorem eq_lineN {φ D : Nat → Nat × Nat} {u nl : Nat} {C G : em_M} (h : ep_Ln φ D u nl C G) {x : Int32} (q : ¬ et_X2_has C x = 0) : ∃ j, j < nl ∧ x = nI j := by
  rw [et_X2_has, h.sz] at q
  have n8 := h.n8
  by_cases p1 : x < 0
  · rw [if_pos p1] at q; exact absurd rfl q
  · rw [if_neg p1] at q
    by_cases p2 : nI nl ≤ x
    · rw [if_pos p2] at q; exact absurd rfl q
    · obtain ⟨j, hj, rfl⟩ := nI_of p1
      refine ⟨j, ?_, rfl⟩
      rw [nI_leI (by omega) hj] at p2
      omega
theorem pm_define {φ D : Nat → Nat × Nat} {u nl : Nat} {C G : em_M} (h : ep_I φ D u nl C G) (f line : Int32) : es_X12_define G f line ∧ (et_X11_define C f line).1 = (et_X12_define G f line).1 ∧ ∃ φ' D' u' nl', ep_I φ' D' u' nl' (et_X11_define C f line).2 (et_X12_define G f line).2 := by
  unfold es_X12_define et_X11_define et_X12_define
  simp only [eq_fun, eq_line h.ln, show et_X11_isFunction G f = et_X11_isFunction C f from rfl]
  by_cases p2 : et_X11_isFunction C f = 0
  · simp only [p2, if_true]
    exact ⟨fun r2 e => ⟨fun _ => trivial, fun q => absurd e.symm q⟩, trivial, φ, D, u, nl, h⟩
  · obtain ⟨j, hj, rfl⟩ := eq_funN p2
    simp only [p2, if_false]
    have e0 : (4 : Int32) + nI j = nI (4 + j) := by rw [show (4 : Int32) = nI 4 from rfl, nI_add]
    rw [e0, nI_clamp (by omega), eq_at (j := j) rfl hj (by omega), (h.wd.fu j hj).1]
    by_cases p3 : line = -1
    · simp only [p3, if_true]
      rw [eq_put (j := j) rfl hj (by omega)]
      exact ⟨fun r2 e => ⟨fun _ => trivial, fun _ => ⟨fun _ => ⟨vp_in_nI (by omega) (by omega), vp_in_nI (by omega) (by omega), fun _ _ => trivial⟩, fun q => absurd trivial q⟩⟩, trivial, φ, D, u, nl, ep_I_wd h (fun o ho => ef_pI' _ _ _ _ (by omega)) (fun _ _ => rfl) (fun o ho => ef_pI' _ _ _ _ (by omega)) (fun _ => rfl) (fun k _ _ => by simp (disch := omega) only [eq_pI, if_neg, if_pos, ite_self]) (ep_Wd_fu (by omega) h.wd j hj _ (Or.inl rfl))⟩
    · simp only [p3, if_false]
      by_cases p4 : et_X2_has C line = 0
      · simp only [p4, if_true]
        exact ⟨fun r2 e => ⟨fun _ => trivial, fun _ => ⟨fun q => absurd q id, fun _ => fun r5 e5 => ⟨fun _ => trivial, fun q => absurd e5.symm q⟩⟩⟩, trivial, φ, D, u, nl, h⟩
      · obtain ⟨l, hl, rfl⟩ := eq_lineN h.ln p4
        simp only [p4, if_false]
        rw [eq_put (j := j) rfl hj (by omega)]
        exact ⟨fun r2 e => ⟨fun _ => trivial, fun _ => ⟨fun q => absurd q id, fun _ => fun r5 e5 => ⟨fun _ => trivial, fun _ => ⟨vp_in_nI (by omega) (by omega), vp_in_nI (by omega) (by omega), fun _ _ => trivial⟩⟩⟩⟩, trivial, φ, D, u, nl, ep_I_wd h (fun o ho => ef_pI' _ _ _ _ (by omega)) (fun _ _ => rfl) (fun o ho => ef_pI' _ _ _ _ (by omega)) (fun _ => rfl) (fun k _ _ => by simp (disch := omega) only [eq_pI, if_neg, if_pos, ite_self]) (ep_Wd_fu (by omega) h.wd j hj _ (Or.inr ⟨l, hl, rfl⟩))⟩
theorem pl_define {M : em_M} (hI : ep_Inv M) (function : Int32) (line : Int32) {r1 : Int32} {M1 : em_M} (e1 : et_X11_define M function line = (r1, M1)) : es_X12_define M1 function line ∧ ∀ (r2 : Int32) (M2 : em_M), et_X12_define M1 function line = (r2, M2) → r1 = r2 ∧ ep_Inv M2 :=
  ep_go hI (fun M => et_X11_define M function line) (fun M => et_X12_define M function line) (fun M => es_X12_define M function line) (fun _ _ _ _ _ _ h => pm_define h function line) (fun o h => ef1_X11_define _ _ _ (by omega)) (fun o h => ef2_X11_define _ _ _ (by omega)) (fun o h => ef1_X12_define _ _ _ (by omega)) (fun o h => ef2_X12_define _ _ _ (by omega)) e1
