theorem ep_Ln_cg {φ D : Nat → Nat × Nat} {u nl : Nat} {C C' G G' : em_M} (a1 : ∀ o, 1 ≤ o → o ≤ 8 → C'.1 o = C.1 o) (b0 : G'.1 118 9 = G.1 118 9) (b1 : ∀ o, 122 ≤ o → o ≤ 126 → G'.1 o = G.1 o) (h : ep_Ln φ D u nl C G) : ep_Ln φ D u nl C' G' := by
  unfold ep_Ln ep_Nk ep_Nd1 ep_Nd2 ep_Nd3 ep_Nd4 ep_Dl ep_Pt ep_pt at h ⊢
  simp (disch := omega) only [a1, b0, b1]
  exact h
theorem ep_Tx_cg {C C' G G' : em_M} (a1 : C'.1 9 0 = C.1 9 0) (a2 : C'.1 10 = C.1 10) (b1 : G'.1 118 11 = G.1 118 11) (b2 : G'.1 127 = G.1 127) (h : ep_Tx C G) : ep_Tx C' G' := by
  unfold ep_Tx at h ⊢
  rw [a1, a2, b1, b2]
  exact h
theorem ep_Tp_cg {i : Nat} {C C' G G' : em_M} (a1 : C'.1 (106 + 2 * i) = C.1 (106 + 2 * i)) (a2 : C'.2 (107 + 2 * i) = C.2 (107 + 2 * i)) (b1 : G'.1 129 i = G.1 129 i) (b2 : G'.1 130 i = G.1 130 i) (b3 : ∀ k, 60 * i ≤ k → k < 60 * i + 60 → G'.2 131 k = G.2 131 k) (h : ep_Tp i C G) : ep_Tp i C' G' := by
  obtain ⟨s, h1, h2, h3, h4, h5, h6⟩ := h
  refine ⟨s, h1, ?_, ?_, ?_, ?_, fun k hk => ?_⟩
  · rw [a1, b1]; exact h2
  · rw [a1]; exact h3
  · rw [b2]; exact h4
  · rw [b1]; exact h5
  · rw [a2, b3 _ (by omega) (by omega)]; exact h6 k hk
theorem ep_Rw_cg {V : Int32 → Int32 → Prop} {r m g many base : Nat} {C C' G G' : em_M} (a1 : ∀ o, r ≤ o → o ≤ r + 2 → C'.1 o = C.1 o) (b1 : G'.1 g many = G.1 g many) (b2 : ∀ k, base ≤ k → k < base + 2 * m → G'.1 g k = G.1 g k) (h : ep_Rw V r m g many base C G) : ep_Rw V r m g many base C' G' := by
  obtain ⟨n, h1, h2, h3, h4⟩ := h
  refine ⟨n, h1, ?_, ?_, fun k hk => ?_⟩
  · rw [a1 _ (by omega) (by omega)]; exact h2
  · rw [b1]; exact h3
  · rw [a1 _ (by omega) (by omega), a1 _ (by omega) (by omega), b2 _ (by omega) (by omega), b2 _ (by omega) (by omega)]; exact h4 k hk
theorem ep_Wd_cg {φ : Nat → Nat × Nat} {u nl w g : Nat} {C C' G G' : em_M} (a0 : C'.1 2 = C.1 2) (a4 : C'.1 4 = C.1 4) (a1 : ∀ o, w ≤ o → o ≤ w + 23 → C'.1 o = C.1 o) (a2 : ∀ o, w ≤ o → o ≤ w + 23 → C'.2 o = C.2 o) (b1 : ∀ k, k < 25 ∨ 73 < k → G'.1 g k = G.1 g k) (h : ep_Wd φ u nl w g C G) : ep_Wd φ u nl w g C' G' := by
  obtain ⟨h1, h2, h3, h4, h5, h6, h7, h8, h9⟩ := h
  refine ⟨fun k hk => ?_, fun k hk => ?_, ?_, ?_, ?_, ?_, ?_, ?_, ?_⟩
  · rw [a1 _ (by omega) (by omega), b1 _ (by omega)]; exact h1 k hk
  · rw [a1 _ (by omega) (by omega), b1 _ (by omega)]; exact h2 k hk
  · rw [a1 _ (by omega) (by omega), b1 _ (by omega)]; exact h3
  · rw [a1 _ (by omega) (by omega), b1 _ (by omega)]; exact h4
  · rw [a1 _ (by omega) (by omega), b1 _ (by omega)]; exact h5
  · simp (disch := omega) only [a1, b1]; exact h6
  · rw [a2 _ (by omega) (by omega), b1 _ (by omega), b1 _ (by omega), b1 _ (by omega)]; exact h7
  · rw [a1 _ (by omega) (by omega)]; exact h8
  · rw [b1 _ (by omega), a1 _ (by omega) (by omega)]
    unfold ep_Rn ep_Fk ep_F1 ep_F2 ep_F3 at h9 ⊢
    simp (disch := omega) only [a0, a4, a1, a2, b1]
    exact h9
theorem ep_Io_cg {φ : Nat → Nat × Nat} {u nl : Nat} {C C' G G' : em_M} (a0 : C'.1 0 4 = C.1 0 4) (a2 : C'.1 2 = C.1 2) (a4 : C'.1 4 = C.1 4) (a1 : ∀ o, 45 ≤ o → o ≤ 78 → C'.1 o = C.1 o) (a3 : ∀ o, 45 ≤ o → o ≤ 78 → C'.2 o = C.2 o) (b0 : G'.1 118 3 = G.1 118 3) (b1 : G'.1 121 = G.1 121) (h : ep_Io φ u nl C G) : ep_Io φ u nl C' G' := by
  obtain ⟨h1, h2, h3, h4⟩ := h
  refine ⟨?_, ?_, ?_, ?_⟩
  · rw [a0, b0]; exact h1
  · rw [a1 46 (by omega) (by omega), a1 49 (by omega) (by omega), a1 52 (by omega) (by omega)]; exact h2
  · rw [a1 58 (by omega) (by omega)]; exact h3
  · rw [b0]
    intro q
    obtain ⟨p1, p2, p3, p4⟩ := h4 q
    refine ⟨ep_Rw_cg (fun o _ _ => a1 o (by omega) (by omega)) (by rw [b1]) (fun k _ _ => by rw [b1]) p1, ep_Rw_cg (fun o _ _ => a1 o (by omega) (by omega)) (by rw [b1]) (fun k _ _ => by rw [b1]) p2, ep_Rw_cg (fun o _ _ => a1 o (by omega) (by omega)) (by rw [b1]) (fun k _ _ => by rw [b1]) p3, ep_Wd_cg a2 a4 (fun o _ _ => a1 o (by omega) (by omega)) (fun o _ _ => a3 o (by omega) (by omega)) (fun k _ => by rw [b1]) p4⟩
theorem eq_in (M : em_M) (x lo hi : Int32) : et_X12_in M x.toInt64 lo.toInt64 hi.toInt64 = if x < lo then 0 else if hi < x then 0 else 1 := by
  rw [et_X12_in]
  have e1 : (lg_cmp x.toInt64 lo.toInt64 < 0) = (x < lo) := by
    rw [lg_cmp_lt, Int64.lt_iff_toInt_lt, Int32.lt_iff_toInt_lt, Int32.toInt_toInt64, Int32.toInt_toInt64]
  have e2 : (0 < lg_cmp x.toInt64 hi.toInt64) = (hi < x) := by
    rw [lg_cmp_gt, Int64.lt_iff_toInt_lt, Int32.lt_iff_toInt_lt, Int32.toInt_toInt64, Int32.toInt_toInt64]
  simp only [e1, e2]
