theorem ep_I_cg {φ D : Nat → Nat × Nat} {u nl : Nat} {C C' G G' : em_M} (a1 : ∀ o, o < 118 → C'.1 o = C.1 o) (a2 : ∀ o, o < 118 → C'.2 o = C.2 o) (b1 : ∀ o, 117 < o → o < 132 → G'.1 o = G.1 o) (b2 : ∀ o, 117 < o → o < 132 → G'.2 o = G.2 o) (h : ep_I φ D u nl C G) : ep_I φ D u nl C' G' := by
  obtain ⟨h1, h2, h3, h4⟩ := h
  refine ⟨?_, ?_, ?_, ?_⟩
  · clear h2 h3 h4
    unfold ep_Ln ep_Nk ep_Nd1 ep_Nd2 ep_Nd3 ep_Nd4 ep_Dl ep_Pt ep_pt at h1 ⊢
    simp (disch := omega) only [a1, a2, b1, b2]
    exact h1
  · clear h1 h3 h4
    unfold ep_Tx at h2 ⊢
    simp (disch := omega) only [a1, a2, b1, b2]
    exact h2
  · clear h1 h2 h4
    intro i hi
    have := h3 i hi
    unfold ep_Tp at this ⊢
    simp (disch := omega) only [a1, a2, b1, b2]
    exact this
  · clear h1 h2 h3
    unfold ep_Io ep_Rw ep_Wd ep_Rn ep_Fk ep_F1 ep_F2 ep_F3 at h4 ⊢
    simp (disch := omega) only [a1, a2, b1, b2]
    exact h4
theorem ep_use {M M1 M2 : em_M} {P : em_M → em_M → Prop} (hI : ep_Inv M) (h1 : ∀ o, 117 < o → M1.1 o = M.1 o) (h2 : ∀ o, 117 < o → M1.2 o = M.2 o) (g1 : ∀ o, o < 118 → M2.1 o = M1.1 o) (g2 : ∀ o, o < 118 → M2.2 o = M1.2 o) (k : ∀ φ D u nl, ep_I φ D u nl M M1 → ∃ φ' D' u' nl', ep_I φ' D' u' nl' M1 M2) : ep_Inv M2 := by
  obtain ⟨φ, D, u, nl, h⟩ := hI
  obtain ⟨φ', D', u', nl', h'⟩ := k φ D u nl (ep_I_cg (fun _ _ => rfl) (fun _ _ => rfl) (fun o ho _ => h1 o ho) (fun o ho _ => h2 o ho) h)
  exact ⟨φ', D', u', nl', ep_I_cg (fun o ho => g1 o ho) (fun o ho => g2 o ho) (fun _ _ _ => rfl) (fun _ _ _ => rfl) h'⟩
