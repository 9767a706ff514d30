theorem ep_looked {C G : em_M} {n : Nat} (n8 : n ≤ 8) (c : C.1 18 0 = nI n) (g : G.1 119 27 = nI n) (va : ∀ k, k < 4 → C.1 22 k = G.1 119 k) (hr : ∀ k, k < n → C.1 19 k = G.1 119 (58 + 2 * k) ∧ C.1 20 k = G.1 119 (58 + 2 * k + 1) ∧ ep_Vb (G.1 119 (58 + 2 * k)) (G.1 119 (58 + 2 * k + 1))) : ∀ (d k f1 f2 : Nat), k + d = n → d < f1 → d < f2 → es_X12_looked_2 f2 G (nI k) ∧ et_X11_looked_2 f1 C (nI k) = et_X12_looked_2 f2 G (nI k) := by
  intro d
  induction d with
  | zero =>
    intro k f1 f2 hk h1 h2
    obtain ⟨f1, rfl⟩ : ∃ f, f1 = f + 1 := ⟨f1 - 1, by omega⟩
    obtain ⟨f2, rfl⟩ : ∃ f, f2 = f + 1 := ⟨f2 - 1, by omega⟩
    rw [et_X11_looked_2, et_X12_looked_2, es_X12_looked_2, show ((27 : Int32)).toNatClampNeg = 27 from rfl, c, g]
    have e : nI n ≤ nI k := nI_le (by omega) (by omega)
    rw [if_pos e, if_pos e]
    exact ⟨⟨fun _ => trivial, fun q => absurd e q⟩, rfl⟩
  | succ d ih =>
    intro k f1 f2 hk h1 h2
    obtain ⟨f1, rfl⟩ : ∃ f, f1 = f + 1 := ⟨f1 - 1, by omega⟩
    obtain ⟨f2, rfl⟩ : ∃ f, f2 = f + 1 := ⟨f2 - 1, by omega⟩
    obtain ⟨q1, q2, j, hj, q3⟩ := hr k (by omega)
    have e : ¬ nI n ≤ nI k := nI_ge (by omega) (by omega)
    have i := ih (k + 1) f1 f2 (by omega) (by omega) (by omega)
    have e1 : (58 : Int32) + 2 * nI k = nI (58 + 2 * k) := eq_mul2 58 k
    have e2 : (0 : Int32) + nI j = nI j := by rw [show (0 : Int32) = nI 0 from rfl, nI_add, Nat.zero_add]
    rw [et_X11_looked_2, et_X12_looked_2, es_X12_looked_2, show ((27 : Int32)).toNatClampNeg = 27 from rfl, c, g, if_neg e, if_neg e]
    rw [e1, nI_1, nI_1, nI_clamp (by omega), nI_clamp (by omega), q3, e2, nI_clamp (by omega)]
    rw [eq_at (a := 19) (j := k) rfl (by omega) (by omega), eq_at (a := 20) (j := k) rfl (by omega) (by omega), q1, q2, q3]
    dsimp only
    rw [eq_at (a := 22) (j := j) rfl (by omega) (by omega), va j hj]
    refine ⟨⟨fun q => absurd q e, fun _ => ⟨vp_in_nI (by omega) (by omega), vp_in_nI (by omega) (by omega), vp_in_nI (by omega) (by omega), fun _ => i.1, fun _ => trivial⟩⟩, ?_⟩
    rw [i.2]
theorem pm_looked {φ D : Nat → Nat × Nat} {u nl : Nat} {C G : em_M} (h : ep_I φ D u nl C G) : es_X12_looked G ∧ et_X11_looked C = et_X12_looked G := by
  obtain ⟨n, h1, h2, h3, h4⟩ := h.rb
  rw [es_X12_looked, et_X11_looked, et_X12_looked, h2, nI_clamp (by omega)]
  exact ep_looked h1 h2 h3 h.wd.va h4 n 0 (n + 1) 9 (by omega) (by omega) (by omega)
theorem pl_looked {M : em_M} (hI : ep_Inv M)  {r1 : Int32} (e1 : et_X11_looked M = r1) : es_X12_looked M ∧ ∀ (r2 : Int32), et_X12_looked M = r2 → r1 = r2 ∧ ep_Inv M :=
  ep_goP hI (fun M => et_X11_looked M) (fun M => et_X12_looked M) (fun M => es_X12_looked M) (fun _ _ _ _ _ _ h => pm_looked h) e1
