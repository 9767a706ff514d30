theorem pm_image {φ D : Nat → Nat × Nat} {u nl : Nat} {C G : em_M} (h : ep_I φ D u nl C G) : es_X12_image G ∧ (et_X11_image C).1 = (et_X12_image G).1 ∧ ∃ φ' D' u' nl', ep_I φ' D' u' nl' (et_X11_image C).2 (et_X12_image G).2 := by
  have x := ec_X1 (k := 45) (j := 11) (by omega) C (ec_copyA C)
  obtain ⟨e1, e2, e3, e4⟩ := em_copies (a := 119) (b := 121) (by omega) G
  have E : es_X12_image G := by
    rw [es_X12_image]
    exact ⟨e1, fun _ _ _ _ => trivial⟩
  rw [et_X11_image, et_X12_image]
  generalize et_X1_copyFrom 45 11 C = C1 at x ⊢
  generalize et_X12_copies 119 5880 121 5880 G = G1 at e2 e3 e4 ⊢
  refine ⟨E, ?_, φ, D, u, nl, ?_⟩
  · dsimp only
    rw [ef_pI' _ _ _ _ (by omega), ef_pIk _ _ (by omega), x.o1 _ (by omega), e2 _ (by omega), h.ln.sz, h.ln.sm]
  · show ep_I φ D u nl (em_pI C1 0 4 1) (em_pI G1 118 3 1)
    have k1 : ∀ o, 0 < o → o < 46 ∨ 78 < o → (em_pI C1 0 4 1).1 o = C.1 o := fun o o1 o2 => by rw [ef_pI' _ _ _ _ (by omega), x.o1 _ (by omega)]
    have k2 : ∀ o, o < 46 ∨ 78 < o → (em_pI C1 0 4 1).2 o = C.2 o := fun o o2 => by rw [eq_pI2, x.o2 _ (by omega)]
    have g1 : ∀ o, o ≠ 118 → o ≠ 121 → (em_pI G1 118 3 1).1 o = G.1 o := fun o o1 o2 => by rw [ef_pI' _ _ _ _ o1, e2 _ o2]
    have g2 : (em_pI G1 118 3 1).2 = G.2 := (eq_pI2 G1 118 3 1).trans e3
    have g3 : ∀ k, k ≠ 3 → (em_pI G1 118 3 1).1 118 k = G.1 118 k := fun k hk => by rw [ef_pIk _ _ hk, e2 _ (by omega)]
    have g4 : ∀ k, k < 5880 → (em_pI G1 118 3 1).1 121 k = G.1 119 k := by
      intro k hk
      have z : (em_pI G1 118 3 1).1 121 = G1.1 121 := ef_pI' G1 118 3 1 (by omega)
      rw [z]
      exact e4 k hk
    have xr : ∀ o, 45 < o → (em_pI C1 0 4 1).1 o = C1.1 o := fun o ho => ef_pI' _ _ _ _ (by omega)
    refine ep_I.mk (ep_Ln_cg (fun o _ _ => k1 o (by omega) (by omega)) (g3 _ (by omega)) (fun o _ _ => g1 o (by omega) (by omega)) h.ln) (ep_Tx_cg (by rw [k1 _ (by omega) (by omega)]) (k1 _ (by omega) (by omega)) (g3 _ (by omega)) (g1 _ (by omega) (by omega)) h.tx) (fun i hi => ep_Tp_cg (k1 _ (by omega) (by omega)) (k2 _ (by omega)) (by rw [g1 _ (by omega) (by omega)]) (by rw [g1 _ (by omega) (by omega)]) (fun k _ _ => by rw [g2]) (h.tp i hi))
      (ep_Rw_cg (fun o _ _ => k1 o (by omega) (by omega)) (by rw [g1 _ (by omega) (by omega)]) (fun k _ _ => by rw [g1 _ (by omega) (by omega)]) h.rs)
      (ep_Rw_cg (fun o _ _ => k1 o (by omega) (by omega)) (by rw [g1 _ (by omega) (by omega)]) (fun k _ _ => by rw [g1 _ (by omega) (by omega)]) h.rp)
      (ep_Rw_cg (fun o _ _ => k1 o (by omega) (by omega)) (by rw [g1 _ (by omega) (by omega)]) (fun k _ _ => by rw [g1 _ (by omega) (by omega)]) h.rb) ?_
      (ep_Wd_cg (k1 _ (by omega) (by omega)) (k1 _ (by omega) (by omega)) (fun o _ _ => k1 o (by omega) (by omega)) (fun o _ _ => k2 o (by omega)) (fun k _ => by rw [g1 _ (by omega) (by omega)]) h.wd) (ep_Io.mk ?_ ?_ ?_ ?_)
    · rw [k1 12 (by omega) (by omega), k1 15 (by omega) (by omega), k1 18 (by omega) (by omega), k1 89 (by omega) (by omega), k1 98 (by omega) (by omega)]; exact h.iz
    · rw [ef_pIs _ _ rfl, ef_pIs _ _ rfl]; exact ⟨rfl, Or.inr rfl⟩
    · rw [xr 46 (by omega), xr 49 (by omega), xr 52 (by omega)]
      exact ⟨x.m1.trans h.io.is.1, x.m2.trans h.io.is.2.1, x.m3.trans h.io.is.2.2⟩
    · rw [xr 58 (by omega), show C1.1 58 9 = C.1 24 9 from x.cp.c3 9 (by omega) (by omega) (by omega)]; exact h.wd.gb.1
    · intro _
      refine ⟨ep_Rw_to h.rs (by omega) (by rw [xr _ (by omega)]; exact x.r1) (fun k hk => by rw [xr _ (by omega)]; exact x.s1 k hk) (fun k hk => by rw [xr _ (by omega)]; exact x.t1 k hk) (g4 _ (by omega)) (fun k _ _ => g4 k (by omega)), ep_Rw_to h.rp (by omega) (by rw [xr _ (by omega)]; exact x.r2) (fun k hk => by rw [xr _ (by omega)]; exact x.s2 k hk) (fun k hk => by rw [xr _ (by omega)]; exact x.t2 k hk) (g4 _ (by omega)) (fun k _ _ => g4 k (by omega)), ep_Rw_to h.rb (by omega) (by rw [xr _ (by omega)]; exact x.r3) (fun k hk => by rw [xr _ (by omega)]; exact x.s3 k hk) (fun k hk => by rw [xr _ (by omega)]; exact x.t3 k hk) (g4 _ (by omega)) (fun k _ _ => g4 k (by omega)), ?_⟩
      exact ep_Wd_to h.wd (k1 _ (by omega) (by omega)) (k1 _ (by omega) (by omega)) (ep_Cp_tr x.cp (fun o o1 o2 => xr o (by omega)) (eq_pI2 _ _ _ _)) (fun k _ hk => g4 k hk)
theorem pl_image {M : em_M} (hI : ep_Inv M)  {r1 : Int32} {M1 : em_M} (e1 : et_X11_image M = (r1, M1)) : es_X12_image M1 ∧ ∀ (r2 : Int32) (M2 : em_M), et_X12_image M1 = (r2, M2) → r1 = r2 ∧ ep_Inv M2 :=
  ep_go hI (fun M => et_X11_image M) (fun M => et_X12_image M) (fun M => es_X12_image M) (fun _ _ _ _ _ _ h => pm_image h) (fun o h => ef1_X11_image _ (by omega)) (fun o h => ef2_X11_image _ (by omega)) (fun o h => ef1_X12_image _ (by omega)) (fun o h => ef2_X12_image _ (by omega)) e1
theorem pm_undo {φ D : Nat → Nat × Nat} {u nl : Nat} {C G : em_M} (h : ep_I φ D u nl C G) : es_X12_undo G ∧ (et_X11_undo C).1 = (et_X12_undo G).1 ∧ ∃ φ' D' u' nl', ep_I φ' D' u' nl' (et_X11_undo C).2 (et_X12_undo G).2 := by
  obtain ⟨e1, e2, e3, e4⟩ := em_copies (a := 121) (b := 119) (by omega) G
  have x := ec_X1 (k := 11) (j := 45) (by omega) C (ec_copyB C)
  obtain ⟨im, im2⟩ := h.io.im
  by_cases p : G.1 118 3 = 0
  · have E : es_X12_undo G := by
      rw [es_X12_undo]
      exact ⟨fun _ => trivial, fun q => absurd p q⟩
    rw [et_X11_undo, et_X12_undo, im, if_pos p, if_pos p]
    exact ⟨E, rfl, φ, D, u, nl, h⟩
  · obtain ⟨i1, i2, i3, i4⟩ := h.io.ii (im2.resolve_left p)
    have E : es_X12_undo G := by
      rw [es_X12_undo]
      exact ⟨fun q => absurd q p, fun _ => ⟨e1, fun _ _ => trivial⟩⟩
    rw [et_X11_undo, et_X12_undo, im, if_neg p, if_neg p]
    generalize et_X1_copyFrom 11 45 C = C1 at x ⊢
    generalize et_X12_copies 121 5880 119 5880 G = G1 at e2 e3 e4 ⊢
    refine ⟨E, ?_, φ, D, u, nl, ?_⟩
    · dsimp only
      rw [x.o1 _ (by omega), e2 _ (by omega), h.ln.sz, h.ln.sm]
    · show ep_I φ D u nl C1 G1
      refine ep_I.mk (ep_Ln_cg (fun o _ _ => x.o1 o (by omega)) (by rw [e2 _ (by omega)]) (fun o _ _ => e2 o (by omega)) h.ln) (ep_Tx_cg (by rw [x.o1 _ (by omega)]) (x.o1 _ (by omega)) (by rw [e2 _ (by omega)]) (e2 _ (by omega)) h.tx) (fun i hi => ep_Tp_cg (x.o1 _ (by omega)) (x.o2 _ (by omega)) (by rw [e2 _ (by omega)]) (by rw [e2 _ (by omega)]) (fun k _ _ => by rw [e3]) (h.tp i hi))
        (ep_Rw_to i1 (by omega) x.r1 x.s1 x.t1 (e4 _ (by omega)) (fun k _ _ => e4 k (by omega))) (ep_Rw_to i2 (by omega) x.r2 x.s2 x.t2 (e4 _ (by omega)) (fun k _ _ => e4 k (by omega))) (ep_Rw_to i3 (by omega) x.r3 x.s3 x.t3 (e4 _ (by omega)) (fun k _ _ => e4 k (by omega))) ?_ (ep_Wd_to i4 (x.o1 _ (by omega)) (x.o1 _ (by omega)) x.cp (fun k _ hk => e4 k hk)) (ep_Io_cg (by rw [x.o1 _ (by omega)]) (x.o1 _ (by omega)) (x.o1 _ (by omega)) (fun o _ _ => x.o1 o (by omega)) (fun o _ _ => x.o2 o (by omega)) (by rw [e2 _ (by omega)]) (e2 _ (by omega)) h.io)
      rw [x.o1 89 (by omega), x.o1 98 (by omega)]
      exact ⟨x.m1.trans h.iz.1, x.m2.trans h.iz.2.1, x.m3.trans h.iz.2.2.1, h.iz.2.2.2⟩
theorem pl_undo {M : em_M} (hI : ep_Inv M)  {r1 : Int32} {M1 : em_M} (e1 : et_X11_undo M = (r1, M1)) : es_X12_undo M1 ∧ ∀ (r2 : Int32) (M2 : em_M), et_X12_undo M1 = (r2, M2) → r1 = r2 ∧ ep_Inv M2 :=
  ep_go hI (fun M => et_X11_undo M) (fun M => et_X12_undo M) (fun M => es_X12_undo M) (fun _ _ _ _ _ _ h => pm_undo h) (fun o h => ef1_X11_undo _ (by omega)) (fun o h => ef2_X11_undo _ (by omega)) (fun o h => ef1_X12_undo _ (by omega)) (fun o h => ef2_X12_undo _ (by omega)) e1
