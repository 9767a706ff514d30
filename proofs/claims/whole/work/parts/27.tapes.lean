theorem eq_tin (M : em_M) (n : Int32) : et_X12_in M n.toInt64 (0 : Int64) (5 : Int64) = if n < 0 then 0 else if 6 ≤ n then 0 else 1 := by
  rw [show et_X12_in M n.toInt64 (0 : Int64) (5 : Int64) = if n < 0 then 0 else if 5 < n then 0 else 1 from eq_in M n 0 5]
  have e : (5 < n) = (6 ≤ n) := by
    rw [Int32.lt_iff_toInt_lt, Int32.le_iff_toInt_le, show (5 : Int32).toInt = 5 by decide, show (6 : Int32).toInt = 6 by decide]
    exact propext (by omega)
  simp only [e]
theorem eq_pin (M : em_M) (i : Int32) {s : Nat} (hs : s ≤ 60) : et_X12_in M i.toInt64 (0 : Int64) ((nI s - 1).toInt64) = if i < 0 then 0 else if nI s ≤ i then 0 else 1 := by
  rw [show et_X12_in M i.toInt64 (0 : Int64) ((nI s - 1).toInt64) = if i < 0 then 0 else if nI s - 1 < i then 0 else 1 from eq_in M i 0 (nI s - 1)]
  have e : (nI s - 1).toInt = (s : Int) - 1 := by
    cases s with
    | zero => decide
    | succ n => rw [nI_pred, nI_toInt (by omega)]; omega
  have e : (nI s - 1 < i) = (nI s ≤ i) := by
    rw [Int32.lt_iff_toInt_lt, Int32.le_iff_toInt_le, e, nI_toInt (by omega)]
    exact propext (by omega)
  simp only [e]
theorem eq_tpN {tape : Int32} (h1 : ¬ tape < 0) (h2 : ¬ 6 ≤ tape) : ∃ j, j < 6 ∧ tape = nI j ∧ et_tp tape = 106 + 2 * j := by
  obtain ⟨j, hj, rfl⟩ := nI_of h1
  rw [Int32.le_iff_toInt_le, nI_toInt hj, show (6 : Int32).toInt = 6 by decide] at h2
  exact ⟨j, by omega, rfl, by rw [et_tp, nI_clamp hj]⟩
theorem eq_60 (j k : Nat) : (60 : Int32) * nI j + nI k = nI (60 * j + k) := by rw [show (60 : Int32) = nI 60 from rfl, eq_mul, nI_add]
theorem pm_read {φ D : Nat → Nat × Nat} {u nl : Nat} {C G : em_M} (h : ep_I φ D u nl C G) (tape i : Int32) : es_X12_read G tape i ∧ et_X11_read C tape i = et_X12_read G tape i := by
  unfold es_X12_read et_X11_read et_X12_read
  rw [eq_tin]
  by_cases p1 : tape < 0
  · simp only [p1, if_true]
    exact ⟨fun r e => ⟨fun _ => trivial, fun q => absurd e.symm q⟩, trivial⟩
  · by_cases p2 : 6 ≤ tape
    · simp only [p1, p2, if_true, if_false]
      exact ⟨fun r e => ⟨fun _ => trivial, fun q => absurd e.symm q⟩, trivial⟩
    · obtain ⟨j, hj, rfl, et⟩ := eq_tpN p1 p2
      obtain ⟨s, hs, t1, t2, t3, t4, t5⟩ := h.tp j hj
      simp only [p1, p2, if_true, if_false, show ¬ ((1 : Int32) = 0) by decide]
      rw [et, et_X8_has, t2, nI_clamp (by omega), t3, eq_pin G i hs]
      by_cases p3 : i < 0
      · simp only [p3, if_true]
        exact ⟨fun r e => ⟨fun _ => trivial, fun _ => ⟨vp_in_nI (by omega) (by omega), fun r' e' => ⟨fun _ => trivial, fun q => absurd e'.symm q⟩⟩⟩, trivial⟩
      · by_cases p4 : nI s ≤ i
        · simp only [p3, p4, if_true, if_false]
          exact ⟨fun r e => ⟨fun _ => trivial, fun _ => ⟨vp_in_nI (by omega) (by omega), fun r' e' => ⟨fun _ => trivial, fun q => absurd e'.symm q⟩⟩⟩, trivial⟩
        · obtain ⟨k, hk, rfl⟩ := nI_of p3
          rw [nI_leI (by omega) hk] at p4
          simp only [p3, if_false, show ¬ nI s ≤ nI k from nI_ge (by omega) (by omega), show ¬ ((1 : Int32) = 0) by decide]
          rw [eq_60, nI_clamp (by omega), eq_at_ (j := k) rfl (by omega) (by omega)]
          exact ⟨fun r e => ⟨fun _ => trivial, fun _ => ⟨vp_in_nI (by omega) (by omega), fun r' e' => ⟨fun _ => trivial, fun q => ⟨vp_in_nI (by omega) (by omega), trivial⟩⟩⟩⟩, by rw [show 106 + 2 * j + 1 = 107 + 2 * j by omega]; exact t5 k (by omega)⟩
theorem pl_read {M : em_M} (hI : ep_Inv M) (tape : Int32) (i : Int32) {r1 : Int64} (e1 : et_X11_read M tape i = r1) : es_X12_read M tape i ∧ ∀ (r2 : Int64), et_X12_read M tape i = r2 → r1 = r2 ∧ ep_Inv M :=
  ep_goP hI (fun M => et_X11_read M tape i) (fun M => et_X12_read M tape i) (fun M => es_X12_read M tape i) (fun _ _ _ _ _ _ h => pm_read h tape i) e1
theorem eq_lowest {C G : em_M} {j : Nat} (v : Int64) (e : C.1 (106 + 2 * j) 0 = G.1 129 j) (hs : ∃ q, q ≤ 4 ∧ G.1 129 j = nI q) : et_X8_lowestBits (106 + 2 * j) C v = et_X12_lowestBits G (G.1 129 j) v := by
  obtain ⟨q, hq, e2⟩ := hs
  rw [et_X8_lowestBits, et_X12_lowestBits, e, e2]
  have : q = 0 ∨ q = 1 ∨ q = 2 ∨ q = 3 ∨ q = 4 := by omega
  rcases this with rfl | rfl | rfl | rfl | rfl
  · rfl
  · rfl
  · rfl
  · rfl
  · rfl
theorem ep_I_tp {φ D : Nat → Nat × Nat} {u nl : Nat} {C C' G G' : em_M} (h : ep_I φ D u nl C G) (a1 : ∀ o, o < 106 ∨ 117 < o → C'.1 o = C.1 o) (a2 : ∀ o, o < 106 ∨ 117 < o → C'.2 o = C.2 o) (b1 : ∀ o, o < 129 → G'.1 o = G.1 o) (tp : ∀ i, i < 6 → ep_Tp i C' G') : ep_I φ D u nl C' G' := by
  refine ep_I.mk (ep_Ln_cg (fun o _ _ => a1 o (by omega)) (by rw [b1 _ (by omega)]) (fun o _ _ => b1 o (by omega)) h.ln) (ep_Tx_cg (by rw [a1 _ (by omega)]) (a1 _ (by omega)) (by rw [b1 _ (by omega)]) (b1 _ (by omega)) h.tx) tp
    (ep_Rw_cg (fun o _ _ => a1 o (by omega)) (by rw [b1 _ (by omega)]) (fun k _ _ => by rw [b1 _ (by omega)]) h.rs)
    (ep_Rw_cg (fun o _ _ => a1 o (by omega)) (by rw [b1 _ (by omega)]) (fun k _ _ => by rw [b1 _ (by omega)]) h.rp)
    (ep_Rw_cg (fun o _ _ => a1 o (by omega)) (by rw [b1 _ (by omega)]) (fun k _ _ => by rw [b1 _ (by omega)]) h.rb) ?_
    (ep_Wd_cg (a1 _ (by omega)) (a1 _ (by omega)) (fun o _ _ => a1 o (by omega)) (fun o _ _ => a2 o (by omega)) (fun k _ => by rw [b1 _ (by omega)]) h.wd) (ep_Io_cg (by rw [a1 _ (by omega)]) (a1 _ (by omega)) (a1 _ (by omega)) (fun o _ _ => a1 o (by omega)) (fun o _ _ => a2 o (by omega)) (by rw [b1 _ (by omega)]) (b1 _ (by omega)) h.io)
  rw [a1 _ (by omega), a1 _ (by omega), a1 _ (by omega), a1 _ (by omega), a1 _ (by omega)]
  exact h.iz
