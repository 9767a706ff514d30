theorem ep_Ln_cg {φ D : Nat → Nat × Nat} {u nl : Nat} {C C' G G' : em_M} (a1 : ∀ o, 1 ≤ o → o ≤ 8 → C'.1 o = C.1 o) (b0 : G'.1 118 9 = G.1 118 9) (b1 : ∀ o, 122 ≤ o → o ≤ 126 → G'.1 o = G.1 o) (h : ep_Ln φ D u nl C G) : ep_Ln φ D u nl C' G' := by
  unfold ep_Ln ep_Nk ep_Nd1 ep_Nd2 ep_Nd3 ep_Nd4 ep_Dl ep_Pt ep_pt at h ⊢
  simp (disch := omega) only [a1, b0, b1]
  exact h
theorem ep_Tx_cg {C C' G G' : em_M} (a1 : C'.1 9 0 = C.1 9 0) (a2 : C'.1 10 = C.1 10) (b1 : G'.1 118 11 = G.1 118 11) (b2 : G'.1 127 = G.1 127) (h : ep_Tx C G) : ep_Tx C' G' := by
  unfold ep_Tx at h ⊢
  rw [a1, a2, b1, b2]
  exact h
theorem ep_Tp_cg {i : Nat} {C C' G G' : em_M} (a1 : C'.1 (106 + 2 * i) = C.1 (106 + 2 * i)) (a2 : C'.2 (107 + 2 * i) = C.2 (107 + 2 * i)) (b1 : G'.1 129 i = G.1 129 i) (b2 : G'.1 130 i = G.1 130 i) (b3 : ∀ k, 60 * i ≤ k → k < 60 * i + 60 → G'.2 131 k = G.2 131 k) (h : ep_Tp i C G) : ep_Tp i C' G' := by
  obtain ⟨s, h1, h2, h3, h4, h5, h6⟩ := h
  refine ⟨s, h1, ?_, ?_, ?_, ?_, fun k hk => ?_⟩
  · rw [a1, b1]; exact h2
  · rw [a1]; exact h3
  · rw [b2]; exact h4
  · rw [b1]; exact h5
  · rw [a2, b3 _ (by omega) (by omega)]; exact h6 k hk
theorem ep_Rw_cg {V : Int32 → Int32 → Prop} {r m g many base : Nat} {C C' G G' : em_M} (a1 : ∀ o, r ≤ o → o ≤ r + 2 → C'.1 o = C.1 o) (b1 : G'.1 g many = G.1 g many) (b2 : ∀ k, base ≤ k → k < base + 2 * m → G'.1 g k = G.1 g k) (h : ep_Rw V r m g many base C G) : ep_Rw V r m g many base C' G' := by
  obtain ⟨n, h1, h2, h3, h4⟩ := h
  refine ⟨n, h1, ?_, ?_, fun k hk => ?_⟩
  · rw [a1 _ (by omega) (by omega)]; exact h2
  · rw [b1]; exact h3
  · rw [a1 _ (by omega) (by omega), a1 _ (by omega) (by omega), b2 _ (by omega) (by omega), b2 _ (by omega) (by omega)]; exact h4 k hk
theorem ep_Wd_cg {φ : Nat → Nat × Nat} {u nl w g : Nat} {C C' G G' : em_M} (a0 : C'.1 2 = C.1 2) (a4 : C'.1 4 = C.1 4) (a1 : ∀ o, w ≤ o → o ≤ w + 23 → C'.1 o = C.1 o) (a2 : ∀ o, w ≤ o → o ≤ w + 23 → C'.2 o = C.2 o) (b1 : ∀ k, k < 25 ∨ 73 < k → G'.1 g k = G.1 g k) (h : ep_Wd φ u nl w g C G) : ep_Wd φ u nl w g C' G' := by
  obtain ⟨h1, h2, h3, h4, h5, h6, h7, h8, h9⟩ := h
  refine ⟨fun k hk => ?_, fun k hk => ?_, ?_, ?_, ?_, ?_, ?_, ?_, ?_⟩
  · rw [a1 _ (by omega) (by omega), b1 _ (by omega)]; exact h1 k hk
  · rw [a1 _ (by omega) (by omega), b1 _ (by omega)]; exact h2 k hk
  · rw [a1 _ (by omega) (by omega), b1 _ (by omega)]; exact h3
  · rw [a1 _ (by omega) (by omega), b1 _ (by omega)]; exact h4
  · rw [a1 _ (by omega) (by omega), b1 _ (by omega)]; exact h5
  · simp (disch := omega) only [a1, b1]; exact h6
  · rw [a2 _ (by omega) (by omega), b1 _ (by omega), b1 _ (by omega), b1 _ (by omega)]; exact h7
  · simp (disch := omega) only [a1]; exact h8
  · rw [b1 _ (by omega), a1 _ (by omega) (by omega)]
    unfold ep_Rn ep_Fk ep_F1 ep_F2 ep_F3 at h9 ⊢
    simp (disch := omega) only [a0, a4, a1, a2, b1]
    exact h9
theorem ep_Io_cg {φ : Nat → Nat × Nat} {u nl : Nat} {C C' G G' : em_M} (a0 : C'.1 0 4 = C.1 0 4) (a2 : C'.1 2 = C.1 2) (a4 : C'.1 4 = C.1 4) (a1 : ∀ o, 45 ≤ o → o ≤ 78 → C'.1 o = C.1 o) (a3 : ∀ o, 45 ≤ o → o ≤ 78 → C'.2 o = C.2 o) (b0 : G'.1 118 3 = G.1 118 3) (b1 : G'.1 121 = G.1 121) (h : ep_Io φ u nl C G) : ep_Io φ u nl C' G' := by
  obtain ⟨h1, h2, h3, h4⟩ := h
  refine ⟨?_, ?_, ?_, ?_⟩
  · rw [a0, b0]; exact h1
  · rw [a1 46 (by omega) (by omega), a1 49 (by omega) (by omega), a1 52 (by omega) (by omega)]; exact h2
  · rw [a1 58 (by omega) (by omega)]; exact h3
  · rw [b0]
    intro q
    obtain ⟨p1, p2, p3, p4⟩ := h4 q
    refine ⟨ep_Rw_cg (fun o _ _ => a1 o (by omega) (by omega)) (by rw [b1]) (fun k _ _ => by rw [b1]) p1, ep_Rw_cg (fun o _ _ => a1 o (by omega) (by omega)) (by rw [b1]) (fun k _ _ => by rw [b1]) p2, ep_Rw_cg (fun o _ _ => a1 o (by omega) (by omega)) (by rw [b1]) (fun k _ _ => by rw [b1]) p3, ep_Wd_cg a2 a4 (fun o _ _ => a1 o (by omega) (by omega)) (fun o _ _ => a3 o (by omega) (by omega)) (fun k _ => by rw [b1]) p4⟩
theorem eq_in (M : em_M) (x lo hi : Int32) : et_X12_in M x.toInt64 lo.toInt64 hi.toInt64 = if x < lo then 0 else if hi < x then 0 else 1 := by
  rw [et_X12_in]
  have e1 : (lg_cmp x.toInt64 lo.toInt64 < 0) = (x < lo) := by
    rw [lg_cmp_lt, Int64.lt_iff_toInt_lt, Int32.lt_iff_toInt_lt, Int32.toInt_toInt64, Int32.toInt_toInt64]
  have e2 : (0 < lg_cmp x.toInt64 hi.toInt64) = (hi < x) := by
    rw [lg_cmp_gt, Int64.lt_iff_toInt_lt, Int32.lt_iff_toInt_lt, Int32.toInt_toInt64, Int32.toInt_toInt64]
  simp only [e1, e2]
theorem ep_go {α : Type} {M M1 : em_M} {r1 : α} (hI : ep_Inv M) (fC fG : em_M → α × em_M) (S : em_M → Prop) (pm : ∀ φ D u nl C G, ep_I φ D u nl C G → S G ∧ (fC C).1 = (fG G).1 ∧ ∃ φ' D' u' nl', ep_I φ' D' u' nl' (fC C).2 (fG G).2) (c1 : ∀ o, 117 < o → (fC M).2.1 o = M.1 o) (c2 : ∀ o, 117 < o → (fC M).2.2 o = M.2 o) (g1 : ∀ o, o < 118 → (fG M1).2.1 o = M1.1 o) (g2 : ∀ o, o < 118 → (fG M1).2.2 o = M1.2 o) (e1 : fC M = (r1, M1)) : S M1 ∧ ∀ r2 M2, fG M1 = (r2, M2) → r1 = r2 ∧ ep_Inv M2 := by
  rw [e1] at c1 c2
  have hI' := hI
  obtain ⟨φ, D, u, nl, h⟩ := hI'
  have q := pm φ D u nl M M1 (ep_I_cg (fun _ _ => rfl) (fun _ _ => rfl) (fun o ho _ => c1 o ho) (fun o ho _ => c2 o ho) h)
  rw [e1] at q
  refine ⟨q.1, fun r2 M2 e2 => ?_⟩
  rw [e2] at q g1 g2
  obtain ⟨φ', D', u', nl', h'⟩ := q.2.2
  exact ⟨q.2.1, φ', D', u', nl', ep_I_cg (fun o ho => g1 o ho) (fun o ho => g2 o ho) (fun _ _ _ => rfl) (fun _ _ _ => rfl) h'⟩
theorem ep_goP {α : Type} {M : em_M} {r1 : α} (hI : ep_Inv M) (fC fG : em_M → α) (S : em_M → Prop) (pm : ∀ φ D u nl C G, ep_I φ D u nl C G → S G ∧ fC C = fG G) (e1 : fC M = r1) : S M ∧ ∀ r2, fG M = r2 → r1 = r2 ∧ ep_Inv M := by
  have hI' := hI
  obtain ⟨φ, D, u, nl, h⟩ := hI'
  have q := pm φ D u nl M M h
  exact ⟨q.1, fun r2 e2 => ⟨by rw [← e1, ← e2]; exact q.2, hI⟩⟩
theorem ep_addF {V : Int32 → Int32 → Prop} {r m g many base : Nat} {C G : em_M} (h : ep_Rw V r m g many base C G) (hm : C.1 r 3 = nI m) (h10 : m ≤ 10) (hf : G.1 g many = nI m) (a b : Int32) : et_X6_add r C a b = (-4, C) := by
  obtain ⟨n, h1, h2, h3, -⟩ := h
  have e : n = m := (nI_eq (by omega) (by omega)).mp (h3.symm.trans hf)
  rw [et_X6_add, h2, hm, e, if_neg (nI_nlt (Nat.le_refl m) (by omega))]
theorem ep_addN {V : Int32 → Int32 → Prop} {r m g many base : Nat} {C G : em_M} (h : ep_Rw V r m g many base C G) (hm : C.1 r 3 = nI m) (h10 : m ≤ 10) (hf : ¬ G.1 g many = nI m) (hb : many < base) (a b : Int32) (hV : V a b) : ∃ n, n < m ∧ G.1 g many = nI n ∧ et_X6_add r C a b = (nI (n + 1), em_pI (em_pI (em_pI C (r + 1) n a) (r + 2) n b) r 0 (nI (n + 1))) ∧
    ep_Rw V r m g many base (em_pI (em_pI (em_pI C (r + 1) n a) (r + 2) n b) r 0 (nI (n + 1))) (em_pI (em_pI (em_pI G g (base + 2 * n) a) g (base + 2 * n + 1) b) g many (nI (n + 1))) := by
  obtain ⟨n, h1, h2, h3, h4⟩ := h
  have hn : n < m := by
    rcases Nat.lt_or_eq_of_le h1 with q | q
    · exact q
    · exact absurd (by rw [h3, q]) hf
  refine ⟨n, hn, h3, ?_, n + 1, hn, by simp [eq_pI], by simp [eq_pI], fun k hk => ?_⟩
  · rw [et_X6_add, h2, hm, if_pos (nI_lt hn (by omega)), eq_put (j := n) rfl (by omega) (by omega)]
    simp (disch := omega) only [eq_pI, if_neg, h2]
    rw [eq_put (j := n) rfl (by omega) (by omega)]
    simp (disch := omega) only [eq_pI, if_neg, h2, nI_1, if_true]
  · by_cases hkn : k = n
    · subst hkn
      simp (disch := omega) only [eq_pI, if_neg, if_pos]
      exact ⟨rfl, rfl, hV⟩
    · have := h4 k (by omega)
      simp (disch := omega) only [eq_pI, if_neg, if_pos]
      exact this
theorem ep_clr {V : Int32 → Int32 → Prop} {r m g many base : Nat} {C G : em_M} (h : ep_Rw V r m g many base C G) : ep_Rw V r m g many base (em_pI C r 0 0) (em_pI G g many 0) :=
  ⟨0, by omega, by simp [eq_pI, nI_0], by simp [eq_pI, nI_0], fun k hk => absurd hk (by omega)⟩
theorem ep_I_rows {φ D : Nat → Nat × Nat} {u nl : Nat} {C C' G G' : em_M} (h : ep_I φ D u nl C G) (a1 : ∀ o, o < 12 ∨ 20 < o → C'.1 o = C.1 o) (a2 : ∀ o, C'.2 o = C.2 o) (az : C'.1 12 3 = C.1 12 3 ∧ C'.1 15 3 = C.1 15 3 ∧ C'.1 18 3 = C.1 18 3) (b1 : ∀ o, o ≠ 119 → G'.1 o = G.1 o) (b2 : ∀ o, G'.2 o = G.2 o) (b3 : ∀ k, k < 25 ∨ 73 < k → G'.1 119 k = G.1 119 k) (rs : ep_Rw ep_Vs 12 5 119 25 28 C' G') (rp : ep_Rw (ep_Vp nl) 15 10 119 26 38 C' G') (rb : ep_Rw ep_Vb 18 8 119 27 58 C' G') : ep_I φ D u nl C' G' := by
  refine ep_I.mk (ep_Ln_cg (fun o _ _ => a1 o (by omega)) (by rw [b1 _ (by omega)]) (fun o _ _ => b1 o (by omega)) h.ln) (ep_Tx_cg (by rw [a1 _ (by omega)]) (a1 _ (by omega)) (by rw [b1 _ (by omega)]) (b1 _ (by omega)) h.tx) (fun i hi => ep_Tp_cg (a1 _ (by omega)) (a2 _) (by rw [b1 _ (by omega)]) (by rw [b1 _ (by omega)]) (fun k _ _ => by rw [b2]) (h.tp i hi)) rs rp rb ?_ (ep_Wd_cg (a1 _ (by omega)) (a1 _ (by omega)) (fun o _ _ => a1 o (by omega)) (fun o _ _ => a2 o) b3 h.wd) (ep_Io_cg (by rw [a1 _ (by omega)]) (a1 _ (by omega)) (a1 _ (by omega)) (fun o _ _ => a1 o (by omega)) (fun o _ _ => a2 o) (by rw [b1 _ (by omega)]) (b1 _ (by omega)) h.io)
  rw [az.1, az.2.1, az.2.2, a1 _ (by omega), a1 _ (by omega)]
  exact h.iz
