/-! what would be -/
def ep_Lq (C0 G0 C G : em_M) : Prop :=
  (∀ o, o < 79 ∨ 104 < o → C.1 o = C0.1 o) ∧
  (∀ o, o < 79 ∨ 104 < o → C.2 o = C0.2 o) ∧
  (C.1 89 0 = 0 ∧ C.1 98 0 = 0) ∧
  (∀ o, o ≠ 119 → o ≠ 120 → o ≠ 128 → G.1 o = G0.1 o) ∧
  (G.2 = G0.2) ∧
  (∀ k, 25 ≤ k → k ≤ 73 → G.1 119 k = G0.1 119 k) ∧
  (∀ k, k < 5880 → G.1 120 k = G0.1 119 k)
theorem ep_Lq.c1 {C0 G0 C G : em_M} (h : ep_Lq C0 G0 C G) : ∀ o, o < 79 ∨ 104 < o → C.1 o = C0.1 o := h.1
theorem ep_Lq.c2 {C0 G0 C G : em_M} (h : ep_Lq C0 G0 C G) : ∀ o, o < 79 ∨ 104 < o → C.2 o = C0.2 o := h.2.1
theorem ep_Lq.z {C0 G0 C G : em_M} (h : ep_Lq C0 G0 C G) : C.1 89 0 = 0 ∧ C.1 98 0 = 0 := h.2.2.1
theorem ep_Lq.g1 {C0 G0 C G : em_M} (h : ep_Lq C0 G0 C G) : ∀ o, o ≠ 119 → o ≠ 120 → o ≠ 128 → G.1 o = G0.1 o := h.2.2.2.1
theorem ep_Lq.g2 {C0 G0 C G : em_M} (h : ep_Lq C0 G0 C G) : G.2 = G0.2 := h.2.2.2.2.1
theorem ep_Lq.kr {C0 G0 C G : em_M} (h : ep_Lq C0 G0 C G) : ∀ k, 25 ≤ k → k ≤ 73 → G.1 119 k = G0.1 119 k := h.2.2.2.2.2.1
theorem ep_Lq.g4 {C0 G0 C G : em_M} (h : ep_Lq C0 G0 C G) : ∀ k, k < 5880 → G.1 120 k = G0.1 119 k := h.2.2.2.2.2.2
theorem ep_Lq.mk {C0 G0 C G : em_M} (c1 : ∀ o, o < 79 ∨ 104 < o → C.1 o = C0.1 o) (c2 : ∀ o, o < 79 ∨ 104 < o → C.2 o = C0.2 o) (z : C.1 89 0 = 0 ∧ C.1 98 0 = 0) (g1 : ∀ o, o ≠ 119 → o ≠ 120 → o ≠ 128 → G.1 o = G0.1 o) (g2 : G.2 = G0.2) (kr : ∀ k, 25 ≤ k → k ≤ 73 → G.1 119 k = G0.1 119 k) (g4 : ∀ k, k < 5880 → G.1 120 k = G0.1 119 k) : ep_Lq C0 G0 C G :=
  ⟨c1, c2, z, g1, g2, kr, g4⟩
theorem ep_Lq_ln {φ D : Nat → Nat × Nat} {u nl : Nat} {C0 G0 C G : em_M} (h : ep_Ln φ D u nl C0 G0) (p : ep_Lq C0 G0 C G) : ep_Ln φ D u nl C G :=
  ep_Ln_cg (fun o _ _ => p.c1 o (by omega)) (by rw [p.g1 _ (by omega) (by omega) (by omega)]) (fun o _ _ => p.g1 o (by omega) (by omega) (by omega)) h
/-- all is as it was but for the trial's own rows -/
theorem ep_I_try {φ D : Nat → Nat × Nat} {u nl : Nat} {C0 G0 C G : em_M} (h : ep_I φ D u nl C0 G0) (p : ep_Lq C0 G0 C G) (g3 : ∀ k, k < 5880 → G.1 119 k = G0.1 119 k) : ep_I φ D u nl C G := by
  have c1 := p.c1
  have c2 := p.c2
  have g1 := p.g1
  refine ep_I.mk (ep_Lq_ln h.ln p) (ep_Tx_cg (by rw [c1 _ (by omega)]) (c1 _ (by omega)) (by rw [g1 _ (by omega) (by omega) (by omega)]) (g1 _ (by omega) (by omega) (by omega)) h.tx) (fun i hi => ep_Tp_cg (c1 _ (by omega)) (c2 _ (by omega)) (by rw [g1 _ (by omega) (by omega) (by omega)]) (by rw [g1 _ (by omega) (by omega) (by omega)]) (fun k _ _ => by rw [p.g2]) (h.tp i hi))
    (ep_Rw_cg (fun o _ _ => c1 o (by omega)) (g3 _ (by omega)) (fun k _ _ => g3 k (by omega)) h.rs)
    (ep_Rw_cg (fun o _ _ => c1 o (by omega)) (g3 _ (by omega)) (fun k _ _ => g3 k (by omega)) h.rp)
    (ep_Rw_cg (fun o _ _ => c1 o (by omega)) (g3 _ (by omega)) (fun k _ _ => g3 k (by omega)) h.rb) ?_
    (ep_Wd_to h.wd (c1 _ (by omega)) (c1 _ (by omega)) (ep_Cp_eq (fun o _ _ => c1 o (by omega)) (fun o _ _ => c2 o (by omega))) (fun k _ hk => g3 k hk))
    (ep_Io_cg (by rw [c1 _ (by omega)]) (c1 _ (by omega)) (c1 _ (by omega)) (fun o _ _ => c1 o (by omega)) (fun o _ _ => c2 o (by omega)) (by rw [g1 _ (by omega) (by omega) (by omega)]) (g1 _ (by omega) (by omega) (by omega)) h.io)
  rw [c1 12 (by omega), c1 15 (by omega), c1 18 (by omega)]
  exact ⟨h.iz.1, h.iz.2.1, h.iz.2.2.1, p.z⟩
theorem ep_I_cg120 {φ D : Nat → Nat × Nat} {u nl : Nat} {C G G1 : em_M} (e2 : ∀ o, o ≠ 120 → G1.1 o = G.1 o) (e3 : G1.2 = G.2) (h : ep_I φ D u nl C G1) : ep_I φ D u nl C G := by
  have e2' : ∀ o, o ≠ 120 → G.1 o = G1.1 o := fun o ho => (e2 o ho).symm
  refine ep_I.mk (ep_Ln_cg (fun _ _ _ => rfl) (by rw [e2' _ (by omega)]) (fun o _ _ => e2' o (by omega)) h.ln) (ep_Tx_cg rfl rfl (by rw [e2' _ (by omega)]) (e2' _ (by omega)) h.tx) (fun i hi => ep_Tp_cg rfl rfl (by rw [e2' _ (by omega)]) (by rw [e2' _ (by omega)]) (fun k _ _ => by rw [e3]) (h.tp i hi)) (ep_Rw_cg (fun _ _ _ => rfl) (by rw [e2' _ (by omega)]) (fun k _ _ => by rw [e2' _ (by omega)]) h.rs) (ep_Rw_cg (fun _ _ _ => rfl) (by rw [e2' _ (by omega)]) (fun k _ _ => by rw [e2' _ (by omega)]) h.rp) (ep_Rw_cg (fun _ _ _ => rfl) (by rw [e2' _ (by omega)]) (fun k _ _ => by rw [e2' _ (by omega)]) h.rb) h.iz (ep_Wd_cg rfl rfl (fun _ _ _ => rfl) (fun _ _ _ => rfl) (fun k _ => by rw [e2' _ (by omega)]) h.wd) (ep_Io_cg rfl rfl rfl (fun _ _ _ => rfl) (fun _ _ _ => rfl) (by rw [e2' _ (by omega)]) (e2' _ (by omega)) h.io)
/-- one RUN that is only thought -/
theorem ep_try {φ D : Nat → Nat × Nat} {u nl : Nat} {C0 G0 C G C1 G1 : em_M} (ln : ep_Ln φ D u nl C0 G0) (p : ep_Lq C0 G0 C G) (a1 : ∀ o, o < 79 ∨ 81 < o → C1.1 o = C.1 o) (a2 : C1.2 = C.2) (b1 : ∀ o, o ≠ 119 → G1.1 o = G.1 o) (b2 : G1.2 = G.2) (b3 : ∀ k, 25 ≤ k → k ≤ 73 → G1.1 119 k = G.1 119 k) (va : ∀ k, k < 4 → C1.1 80 k = G1.1 119 k) (fu : ∀ k, k < 3 → C1.1 81 k = G1.1 119 (4 + k) ∧ (G1.1 119 (4 + k) = -5 ∨ ∃ l, l < nl ∧ G1.1 119 (4 + k) = nI l)) {l : Nat} (hl : l < nl) : es_X12_runs G1 (nI l) ∧ ep_Wd φ u nl 79 119 (et_X11_tryOut C1 (nI l)) (et_X12_runs G1 (nI l)) ∧ ep_Lq C0 G0 (et_X11_tryOut C1 (nI l)) (et_X12_runs G1 (nI l)) := by
  have q : ep_Lq C0 G0 C1 G1 := ep_Lq.mk (fun o ho => by rw [a1 o (by omega)]; exact p.c1 o ho) (fun o ho => by rw [a2]; exact p.c2 o ho) (by rw [a1 _ (by omega), a1 _ (by omega)]; exact p.z) (fun o h1 h2 h3 => by rw [b1 o h1]; exact p.g1 o h1 h2 h3) (by rw [b2]; exact p.g2) (fun k h1 h2 => by rw [b3 k h1 h2]; exact p.kr k h1 h2) (fun k hk => by rw [b1 _ (by omega)]; exact p.g4 k hk)
  have wb : ep_Wb nl 79 C1 G1 C1 G1 := ep_Wb.mk va fu q.z (fun _ _ => rfl) (fun _ _ => rfl) (fun _ _ => rfl) rfl (fun _ _ _ => rfl)
  obtain ⟨r1, r2⟩ := ep_runs (w := 79) (by omega) (ep_Lq_ln ln q) wb hl
  have e : et_X11_tryOut C1 (nI l) = (et_X3_move 79 (et_X3_start 79 C1 (nI l)) (300 : Int32)).2 := by rw [et_X11_tryOut]
  rw [e]
  generalize (et_X3_move 79 (et_X3_start 79 C1 (nI l)) (300 : Int32)).2 = C2 at r2 ⊢
  generalize et_X12_runs G1 (nI l) = G2 at r2 ⊢
  exact ⟨r1, r2.wd, ep_Lq.mk (fun o ho => by rw [r2.kc o (by omega)]; exact q.c1 o ho) (fun o ho => by rw [r2.k2 o (by omega)]; exact q.c2 o ho) r2.wd.gb.2 (fun o h1 h2 h3 => by rw [r2.kg o h1]; exact q.g1 o h1 h2 h3) (by rw [r2.kl]; exact q.g2) (fun k h1 h2 => by rw [r2.kr k h1 h2]; exact q.kr k h1 h2) (fun k hk => by rw [r2.kg _ (by omega)]; exact q.g4 k hk)⟩
theorem ec_x10 (C : em_M) : (∀ k, k < 4 → (et_X10_copyFrom 79 21 C).1 (79 + 1) k = C.1 (21 + 1) k) ∧ (∀ k, k < 3 → (et_X10_copyFrom 79 21 C).1 (79 + 2) k = C.1 (21 + 2) k) ∧ (∀ o, o < 80 ∨ 81 < o → (et_X10_copyFrom 79 21 C).1 o = C.1 o) ∧ (et_X10_copyFrom 79 21 C).2 = C.2 := by
  refine ⟨?_, ?_, ?_, ?_⟩
  all_goals (intros; simp (disch := omega) only [et_X10_copyFrom, ef_cpI, ef_cpI2, ef_crS])
/-- the model lays its row aside, and back -/
theorem ep_Lq0 {φ D : Nat → Nat × Nat} {u nl : Nat} {C G C1 G1 : em_M} (h : ep_I φ D u nl C G) (a1 : ∀ o, o < 79 ∨ 81 < o → C1.1 o = C.1 o) (a2 : C1.2 = C.2) (e2 : ∀ o, o ≠ 120 → G1.1 o = G.1 o) (e3 : G1.2 = G.2) (e4 : ∀ k, k < 5880 → G1.1 120 k = G.1 119 k) : ep_Lq C G C1 G1 :=
  ep_Lq.mk (fun o ho => a1 o (by omega)) (fun o _ => by rw [a2]) (by rw [a1 _ (by omega), a1 _ (by omega)]; exact h.iz.2.2.2) (fun o _ h2 _ => e2 o h2) e3 (fun k _ _ => by rw [e2 _ (by omega)]) e4
theorem ep_back {C0 G0 C G G' : em_M} (p : ep_Lq C0 G0 C G) (e2 : ∀ o, o ≠ 119 → G'.1 o = G.1 o) (e3 : G'.2 = G.2) (e4 : ∀ k, k < 5880 → G'.1 119 k = G.1 120 k) : ep_Lq C0 G0 C G' ∧ (∀ k, k < 5880 → G'.1 119 k = G0.1 119 k) :=
  ⟨ep_Lq.mk p.c1 p.c2 p.z (fun o h1 h2 h3 => by rw [e2 o h1]; exact p.g1 o h1 h2 h3) (by rw [e3]; exact p.g2) (fun k _ _ => by rw [e4 k (by omega)]; exact p.g4 k (by omega)) (fun k hk => by rw [e2 _ (by omega)]; exact p.g4 k hk), fun k hk => by rw [e4 k hk]; exact p.g4 k hk⟩
/-- ON a LINE, once the trial's world is laid and the row put aside -/
theorem ep_on1 {φ D : Nat → Nat × Nat} {u nl : Nat} {C G : em_M} (h : ep_I φ D u nl C G) {l : Nat} (hl : l < nl) : es_X12_copies 119 5880 120 5880 G ∧ es_X12_runs (et_X12_copies 119 5880 120 5880 G) (nI l) ∧ ep_Wd φ u nl 79 119 (et_X11_tryOut (et_X10_copyFrom 79 21 C) (nI l)) (et_X12_runs (et_X12_copies 119 5880 120 5880 G) (nI l)) ∧ ep_Lq C G (et_X11_tryOut (et_X10_copyFrom 79 21 C) (nI l)) (et_X12_runs (et_X12_copies 119 5880 120 5880 G) (nI l)) := by
  obtain ⟨e1, e2, e3, e4⟩ := em_copies (a := 119) (b := 120) (by omega) G
  obtain ⟨x1, x2, x3, x4⟩ := ec_x10 C
  refine ⟨e1, ?_⟩
  generalize et_X12_copies 119 5880 120 5880 G = G1 at e2 e3 e4 ⊢
  generalize et_X10_copyFrom 79 21 C = C1 at x1 x2 x3 x4 ⊢
  have q := ep_Lq0 h (fun o ho => x3 o (by omega)) x4 e2 e3 e4
  refine ep_try h.ln q (fun _ _ => rfl) rfl (fun _ _ => rfl) rfl (fun _ _ _ => rfl) (fun k hk => ?_) (fun k hk => ?_) hl
  · rw [e2 _ (by omega)]; exact (x1 k hk).trans (h.wd.va k hk)
  · rw [e2 _ (by omega)]; exact ⟨(x2 k hk).trans (h.wd.fu k hk).1, (h.wd.fu k hk).2⟩
theorem pm_on {φ D : Nat → Nat × Nat} {u nl : Nat} {C G : em_M} (h : ep_I φ D u nl C G) (line what : Int32) : es_X12_on G line what ∧ (et_X11_on C line what).1 = (et_X12_on G line what).1 ∧ ∃ φ' D' u' nl', ep_I φ' D' u' nl' (et_X11_on C line what).2 (et_X12_on G line what).2 := by
  have ll : et_X12_isLine G line = et_X2_has C line := eq_line h.ln line
  rw [es_X12_on, et_X11_on, et_X12_on, ll]
  by_cases p : et_X2_has C line = 0
  · rw [if_pos p, if_pos p]
    exact ⟨fun r e => ⟨fun _ => trivial, fun q => absurd (e.symm.trans p) q⟩, rfl, φ, D, u, nl, h⟩
  · obtain ⟨l, hl, rfl⟩ := eq_lineN h.ln p
    rw [if_neg p, if_neg p]
    obtain ⟨t1, t2, t3, t4⟩ := ep_on1 h hl
    obtain ⟨a1, a2⟩ := ep_ans t3 what
    by_cases q : et_X12_in G what.toInt64 (5 : Int64) (39 : Int64) = 0
    · rw [if_pos q]
      generalize et_X12_copies 119 5880 120 5880 G = G1 at t1 t2 t3 t4 a1 a2 ⊢
      obtain ⟨e1, e2, e3, e4⟩ := em_copies (a := 120) (b := 119) (by omega) (et_X12_runs G1 (nI l))
      have E : (∀ r1 : Int32, et_X2_has C (nI l) = r1 → ((r1 = 0 → True) ∧ (¬ r1 = 0 → ∀ r3 : Int32, et_X12_in G what.toInt64 (5 : Int64) (39 : Int64) = r3 → ((r3 = 0 → es_X12_copies 119 5880 120 5880 G ∧ ∀ M5 : em_M, G1 = M5 → es_X12_runs M5 (nI l) ∧ ∀ M6 : em_M, et_X12_runs M5 (nI l) = M6 → es_X12_toldOf M6 what ∧ ∀ r7 : Int64, et_X12_toldOf M6 what = r7 → es_X12_copies 120 5880 119 5880 M6 ∧ ∀ M8 : em_M, et_X12_copies 120 5880 119 5880 M6 = M8 → True) ∧ (¬ r3 = 0 → True))))) := by
        refine fun r e => ⟨fun _ => trivial, fun _ r3 e3' => ⟨fun _ => ⟨t1, ?_⟩, fun _ => trivial⟩⟩
        rintro _ rfl
        refine ⟨t2, ?_⟩
        rintro _ rfl
        exact ⟨a1, fun _ _ => ⟨e1, fun _ _ => trivial⟩⟩
      refine ⟨E, a2, φ, D, u, nl, ?_⟩
      dsimp only
      generalize et_X12_runs G1 (nI l) = G2 at t4 e2 e3 e4 ⊢
      generalize et_X12_copies 120 5880 119 5880 G2 = G3 at e2 e3 e4 ⊢
      obtain ⟨k1, k2⟩ := ep_back t4 e2 e3 e4
      exact ep_I_try h k1 k2
    · rw [if_neg q]
      have no : et_X4_answer 83 (et_X11_tryOut (et_X10_copyFrom 79 21 C) (nI l)) what = (-9223372036854775808 : Int64) := by
        rw [show et_X12_in G what.toInt64 (5 : Int64) (39 : Int64) = if what < 5 then 0 else if 39 < what then 0 else 1 from eq_in G what 5 39] at q
        have q1 : ¬ what < 5 := fun z => q (if_pos z)
        have q2 : ¬ 39 < what := fun z => q (by rw [if_neg q1, if_pos z])
        have q0 : ¬ what < 0 := by
          rw [Int32.lt_iff_toInt_lt] at q1 ⊢
          rw [show (5 : Int32).toInt = 5 by decide] at q1
          rw [show (0 : Int32).toInt = 0 by decide]
          omega
        obtain ⟨j, hj, rfl⟩ := nI_of q0
        rw [show (5 : Int32) = nI 5 from rfl, nI_ltI hj (by omega)] at q1
        rw [show (39 : Int32) = nI 39 from rfl, nI_ltI (by omega) hj] at q2
        have ne : ∀ i : Nat, i < 5 → ¬ nI j = nI i := fun i hi z => by rw [nI_eq hj (by omega)] at z; omega
        rw [et_X4_answer, if_neg (show ¬ nI j = (0 : Int32) from ne 0 (by omega)), if_neg (show ¬ nI j = (1 : Int32) from ne 1 (by omega)), if_neg (show ¬ nI j = (2 : Int32) from ne 2 (by omega)), if_neg (show ¬ nI j = (3 : Int32) from ne 3 (by omega)), if_neg (show ¬ nI j = (4 : Int32) from ne 4 (by omega)), if_pos (show nI j < (40 : Int32) from nI_lt (b := 40) (by omega) (by omega))]
      refine ⟨fun r e => ⟨fun _ => trivial, fun _ r3 e3' => ⟨fun z => absurd (e3'.trans z) q, fun _ => trivial⟩⟩, no, φ, D, u, nl, ?_⟩
      have c1 := t4.c1
      have c2 := t4.c2
      have z := t4.z
      dsimp only
      generalize et_X11_tryOut (et_X10_copyFrom 79 21 C) (nI l) = C2 at c1 c2 z ⊢
      obtain ⟨e1, e2, e3, e4⟩ := em_copies (a := 119) (b := 120) (by omega) G
      generalize et_X12_copies 119 5880 120 5880 G = G1 at e2 e3 e4
      have lq : ep_Lq C G C2 G1 := ep_Lq.mk c1 c2 z (fun o _ h2 _ => e2 o h2) e3 (fun k _ _ => by rw [e2 _ (by omega)]) e4
      have i := ep_I_try h lq (fun k _ => by rw [e2 _ (by omega)])
      exact ep_I_cg120 e2 e3 i
theorem pl_on {M : em_M} (hI : ep_Inv M) (line : Int32) (what : Int32) {r1 : Int64} {M1 : em_M} (e1 : et_X11_on M line what = (r1, M1)) : es_X12_on M1 line what ∧ ∀ (r2 : Int64) (M2 : em_M), et_X12_on M1 line what = (r2, M2) → r1 = r2 ∧ ep_Inv M2 :=
  ep_go hI (fun M => et_X11_on M line what) (fun M => et_X12_on M line what) (fun M => es_X12_on M line what) (fun _ _ _ _ _ _ h => pm_on h line what) (fun o h => ef1_X11_on _ _ _ (by omega)) (fun o h => ef2_X11_on _ _ _ (by omega)) (fun o h => ef1_X12_on _ _ _ (by omega)) (fun o h => ef2_X12_on _ _ _ (by omega)) e1
