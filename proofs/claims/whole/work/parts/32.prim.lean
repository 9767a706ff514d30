theorem ef_pIa (M : em_M) (o k k' : Nat) (v : Int32) : (em_pI M o k v).1 o k' = if k' = k then v else M.1 o k' := by rw [eq_pI, if_pos rfl]
theorem ef_pIk (M : em_M) {o k k' : Nat} (v : Int32) (h : k' ≠ k) : (em_pI M o k v).1 o k' = M.1 o k' := by rw [eq_pI, if_pos rfl, if_neg h]
theorem ef_pIs (M : em_M) {o k k' : Nat} (v : Int32) (h : k' = k) : (em_pI M o k v).1 o k' = v := by rw [eq_pI, if_pos rfl, if_pos h]
theorem ef_pLk (M : em_M) {o k k' : Nat} (v : Int64) (h : k' ≠ k) : (em_pL M o k v).2 o k' = M.2 o k' := by rw [eq_pL, if_pos rfl, if_neg h]
theorem ef_pLs (M : em_M) {o k k' : Nat} (v : Int64) (h : k' = k) : (em_pL M o k v).2 o k' = v := by rw [eq_pL, if_pos rfl, if_pos h]
theorem eq_l0 {n : Nat} (h : n < 2 ^ 31) : ((0 : Int32) = nI n) = (n = 0) := by rw [show (0 : Int32) = nI 0 from rfl, nI_eq (by omega) h]; exact propext ⟨Eq.symm, Eq.symm⟩
theorem eq_l1 {n : Nat} (h : n < 2 ^ 31) : ((1 : Int32) = nI n) = (n = 1) := by rw [show (1 : Int32) = nI 1 from rfl, nI_eq (by omega) h]; exact propext ⟨Eq.symm, Eq.symm⟩
theorem eq_l2 {n : Nat} (h : n < 2 ^ 31) : ((2 : Int32) = nI n) = (n = 2) := by rw [show (2 : Int32) = nI 2 from rfl, nI_eq (by omega) h]; exact propext ⟨Eq.symm, Eq.symm⟩
theorem eq_l3 {n : Nat} (h : n < 2 ^ 31) : ((3 : Int32) = nI n) = (n = 3) := by rw [show (3 : Int32) = nI 3 from rfl, nI_eq (by omega) h]; exact propext ⟨Eq.symm, Eq.symm⟩
theorem eq_pr {X : Int32 × em_M} {r : Int32} {M : em_M} {P : Int32 → em_M → Prop} (h : X = (r, M)) : (∀ r' M', X = (r', M') → P r' M') ↔ P r M := by
  subst h
  constructor
  · intro q; exact q r M rfl
  · intro q r' M' e
    cases e
    exact q
/-! a frame comes: the class -/
def ep_cF (w nf ch h d : Nat) (so be : Int32) (C : em_M) : em_M :=
  em_pI (em_pI (em_pL (em_pI (em_pI (em_pI (em_pI (em_pI (em_pI (em_pI (em_pI C (w + 8) 0 (nI (nf + 1 + 1))) (w + 9) (nf + 1) (nI ch)) (w + 10) (nf + 1) (nI (h + 1))) (w + 11) (nf + 1) so) (w + 12) (nf + 1) be) (w + 13) (nf + 1) (C.1 (w + 3) 10)) (w + 14) (nf + 1) (C.1 (w + 3) 11)) (w + 15) (nf + 1) 0) (w + 16) (nf + 1) 0) (w + 3) 13 (nI (nf + 1))) (w + 4) 2 (nI (max d (h + 1)))
theorem eq_max {a b : Nat} (ha : a < 2 ^ 31) (hb : b < 2 ^ 31) : (if nI a < nI b then nI b else nI a) = nI (max a b) := by
  by_cases p : a < b
  · rw [if_pos (nI_lt p hb), Nat.max_eq_right (by omega)]
  · rw [if_neg (nI_nlt (by omega) ha), Nat.max_eq_left (by omega)]
theorem ec_come {w nf ch h d : Nat} {C : em_M} (so be : Int32) (e1 : C.1 (w + 8) 0 = nI (nf + 1)) (hn : nf < 300) (e2 : C.1 (w + 3) 13 = nI ch) (hc : ch ≤ nf) (e3 : C.1 (w + 10) ch = nI h) (hh : h < 40) (e4 : C.1 (w + 4) 2 = nI d) (hd : d ≤ 40) : et_X3_comes w C so be = (nI (nf + 1), ep_cF w nf ch h d so be C) := by
  have p1 : ¬ (40 : Int32) < nI (h + 1) := nI_nlt (b := h + 1) (a := 40) (by omega) (by omega)
  have p2 : nI (nf + 1) < (301 : Int32) := nI_lt (b := 301) (by omega) (by omega)
  have p3 : ¬ nI (nf + 1) = 0 := nI_ne0 (by omega) (by omega)
  have add : et_X0_add w C (C.1 (w + 3) 13) so be (C.1 (w + 3) 10) (C.1 (w + 3) 11) = (nI (nf + 1), em_pL (em_pI (em_pI (em_pI (em_pI (em_pI (em_pI (em_pI (em_pI C (w + 8) 0 (nI (nf + 1 + 1))) (w + 9) (nf + 1) (nI ch)) (w + 10) (nf + 1) (nI (h + 1))) (w + 11) (nf + 1) so) (w + 12) (nf + 1) be) (w + 13) (nf + 1) (C.1 (w + 3) 10)) (w + 14) (nf + 1) (C.1 (w + 3) 11)) (w + 15) (nf + 1) 0) (w + 16) (nf + 1) 0) := by
    rw [et_X0_add, e2, e1, eq_atS _ (by omega) (by omega), e3, nI_1, nI_1]
    simp (disch := omega) only [if_neg p1, if_pos p2, eq_putS, eq_putS_]
  rw [et_X3_comes, add]
  simp (disch := omega) only [if_neg p3, et_X0_height, eq_atS]
  rw [ep_cF]
  have r1 : ∀ M : em_M, (em_pI M (w + 3) 13 (nI (nf + 1))).1 (w + 10) = M.1 (w + 10) := fun M => ef_pI' _ _ _ _ (by omega)
  have r2 : ∀ M : em_M, (em_pI M (w + 3) 13 (nI (nf + 1))).1 (w + 4) = M.1 (w + 4) := fun M => ef_pI' _ _ _ _ (by omega)
  rw [r1, r2]
  rw [← eq_max (a := d) (b := h + 1) (by omega) (by omega)]
  simp (disch := omega) only [ef_pI', ef_pIk, ef_pIs, eq_pL1, e4]
theorem ec_deep {w nf ch : Nat} {C : em_M} (so be : Int32) (hn : nf < 300) (e2 : C.1 (w + 3) 13 = nI ch) (hc : ch ≤ nf) (e3 : C.1 (w + 10) ch = nI 40) : et_X3_comes w C so be = (0, em_pI C (w + 4) 0 4) := by
  have add : et_X0_add w C (C.1 (w + 3) 13) so be (C.1 (w + 3) 10) (C.1 (w + 3) 11) = (0, C) := by
    rw [et_X0_add, e2, eq_atS _ (by omega) (by omega), e3]
    exact if_pos (by decide)
  rw [et_X3_comes, add]
  rfl
def ep_fx (w nf ch y d : Nat) (so be : Int32) (th : Int64) (es : Int32) (C C' : em_M) : Prop :=
  (C'.1 (w + 8) 0 = nI (nf + 1 + 1)) ∧
  (∀ k, C'.1 (w + 9) k = if k = nf + 1 then nI ch else C.1 (w + 9) k) ∧
  (∀ k, C'.1 (w + 10) k = if k = nf + 1 then nI (y + 1) else C.1 (w + 10) k) ∧
  (∀ k, C'.1 (w + 11) k = if k = nf + 1 then so else C.1 (w + 11) k) ∧
  (∀ k, C'.1 (w + 12) k = if k = nf + 1 then be else C.1 (w + 12) k) ∧
  (∀ k, C'.1 (w + 13) k = if k = nf + 1 then C.1 (w + 3) 10 else C.1 (w + 13) k) ∧
  (∀ k, C'.1 (w + 14) k = if k = nf + 1 then C.1 (w + 3) 11 else C.1 (w + 14) k) ∧
  (∀ k, C'.1 (w + 15) k = if k = nf + 1 then es else C.1 (w + 15) k) ∧
  (∀ k, C'.2 (w + 16) k = if k = nf + 1 then th else C.2 (w + 16) k) ∧
  (∀ k, C'.1 (w + 3) k = if k = 13 then nI (nf + 1) else C.1 (w + 3) k) ∧
  (∀ k, C'.1 (w + 4) k = if k = 2 then nI (max d (y + 1)) else C.1 (w + 4) k) ∧
  (∀ o, o ≠ w + 3 → o ≠ w + 4 → (o < w + 8 ∨ w + 15 < o) → C'.1 o = C.1 o) ∧
  (∀ o, o ≠ w + 16 → C'.2 o = C.2 o)
theorem ep_fx.r8 {w nf ch y d : Nat} {so be : Int32} {th : Int64} {es : Int32} {C C' : em_M} (h : ep_fx w nf ch y d so be th es C C') : C'.1 (w + 8) 0 = nI (nf + 1 + 1) := h.1
theorem ep_fx.r9 {w nf ch y d : Nat} {so be : Int32} {th : Int64} {es : Int32} {C C' : em_M} (h : ep_fx w nf ch y d so be th es C C') : ∀ k, C'.1 (w + 9) k = if k = nf + 1 then nI ch else C.1 (w + 9) k := h.2.1
theorem ep_fx.r10 {w nf ch y d : Nat} {so be : Int32} {th : Int64} {es : Int32} {C C' : em_M} (h : ep_fx w nf ch y d so be th es C C') : ∀ k, C'.1 (w + 10) k = if k = nf + 1 then nI (y + 1) else C.1 (w + 10) k := h.2.2.1
theorem ep_fx.r11 {w nf ch y d : Nat} {so be : Int32} {th : Int64} {es : Int32} {C C' : em_M} (h : ep_fx w nf ch y d so be th es C C') : ∀ k, C'.1 (w + 11) k = if k = nf + 1 then so else C.1 (w + 11) k := h.2.2.2.1
theorem ep_fx.r12 {w nf ch y d : Nat} {so be : Int32} {th : Int64} {es : Int32} {C C' : em_M} (h : ep_fx w nf ch y d so be th es C C') : ∀ k, C'.1 (w + 12) k = if k = nf + 1 then be else C.1 (w + 12) k := h.2.2.2.2.1
theorem ep_fx.r13 {w nf ch y d : Nat} {so be : Int32} {th : Int64} {es : Int32} {C C' : em_M} (h : ep_fx w nf ch y d so be th es C C') : ∀ k, C'.1 (w + 13) k = if k = nf + 1 then C.1 (w + 3) 10 else C.1 (w + 13) k := h.2.2.2.2.2.1
theorem ep_fx.r14 {w nf ch y d : Nat} {so be : Int32} {th : Int64} {es : Int32} {C C' : em_M} (h : ep_fx w nf ch y d so be th es C C') : ∀ k, C'.1 (w + 14) k = if k = nf + 1 then C.1 (w + 3) 11 else C.1 (w + 14) k := h.2.2.2.2.2.2.1
theorem ep_fx.r15 {w nf ch y d : Nat} {so be : Int32} {th : Int64} {es : Int32} {C C' : em_M} (h : ep_fx w nf ch y d so be th es C C') : ∀ k, C'.1 (w + 15) k = if k = nf + 1 then es else C.1 (w + 15) k := h.2.2.2.2.2.2.2.1
theorem ep_fx.r16 {w nf ch y d : Nat} {so be : Int32} {th : Int64} {es : Int32} {C C' : em_M} (h : ep_fx w nf ch y d so be th es C C') : ∀ k, C'.2 (w + 16) k = if k = nf + 1 then th else C.2 (w + 16) k := h.2.2.2.2.2.2.2.2.1
theorem ep_fx.r3 {w nf ch y d : Nat} {so be : Int32} {th : Int64} {es : Int32} {C C' : em_M} (h : ep_fx w nf ch y d so be th es C C') : ∀ k, C'.1 (w + 3) k = if k = 13 then nI (nf + 1) else C.1 (w + 3) k := h.2.2.2.2.2.2.2.2.2.1
theorem ep_fx.r4 {w nf ch y d : Nat} {so be : Int32} {th : Int64} {es : Int32} {C C' : em_M} (h : ep_fx w nf ch y d so be th es C C') : ∀ k, C'.1 (w + 4) k = if k = 2 then nI (max d (y + 1)) else C.1 (w + 4) k := h.2.2.2.2.2.2.2.2.2.2.1
theorem ep_fx.ro {w nf ch y d : Nat} {so be : Int32} {th : Int64} {es : Int32} {C C' : em_M} (h : ep_fx w nf ch y d so be th es C C') : ∀ o, o ≠ w + 3 → o ≠ w + 4 → (o < w + 8 ∨ w + 15 < o) → C'.1 o = C.1 o := h.2.2.2.2.2.2.2.2.2.2.2.1
theorem ep_fx.rl {w nf ch y d : Nat} {so be : Int32} {th : Int64} {es : Int32} {C C' : em_M} (h : ep_fx w nf ch y d so be th es C C') : ∀ o, o ≠ w + 16 → C'.2 o = C.2 o := h.2.2.2.2.2.2.2.2.2.2.2.2
theorem ep_fx.mk {w nf ch y d : Nat} {so be : Int32} {th : Int64} {es : Int32} {C C' : em_M} (r8 : C'.1 (w + 8) 0 = nI (nf + 1 + 1)) (r9 : ∀ k, C'.1 (w + 9) k = if k = nf + 1 then nI ch else C.1 (w + 9) k) (r10 : ∀ k, C'.1 (w + 10) k = if k = nf + 1 then nI (y + 1) else C.1 (w + 10) k) (r11 : ∀ k, C'.1 (w + 11) k = if k = nf + 1 then so else C.1 (w + 11) k) (r12 : ∀ k, C'.1 (w + 12) k = if k = nf + 1 then be else C.1 (w + 12) k) (r13 : ∀ k, C'.1 (w + 13) k = if k = nf + 1 then C.1 (w + 3) 10 else C.1 (w + 13) k) (r14 : ∀ k, C'.1 (w + 14) k = if k = nf + 1 then C.1 (w + 3) 11 else C.1 (w + 14) k) (r15 : ∀ k, C'.1 (w + 15) k = if k = nf + 1 then es else C.1 (w + 15) k) (r16 : ∀ k, C'.2 (w + 16) k = if k = nf + 1 then th else C.2 (w + 16) k) (r3 : ∀ k, C'.1 (w + 3) k = if k = 13 then nI (nf + 1) else C.1 (w + 3) k) (r4 : ∀ k, C'.1 (w + 4) k = if k = 2 then nI (max d (y + 1)) else C.1 (w + 4) k) (ro : ∀ o, o ≠ w + 3 → o ≠ w + 4 → (o < w + 8 ∨ w + 15 < o) → C'.1 o = C.1 o) (rl : ∀ o, o ≠ w + 16 → C'.2 o = C.2 o) : ep_fx w nf ch y d so be th es C C' :=
  ⟨r8, r9, r10, r11, r12, r13, r14, r15, r16, r3, r4, ro, rl⟩
theorem ec_fx {w nf ch h d : Nat} {C : em_M} (so be : Int32) : ep_fx w nf ch h d so be 0 0 C (ep_cF w nf ch h d so be C) := by
  unfold ep_cF
  refine ep_fx.mk ?_ ?_ ?_ ?_ ?_ ?_ ?_ ?_ ?_ ?_ ?_ ?_ ?_
  case refine_12 => intro o a b c; simp (disch := omega) only [ef_pI', eq_pL1]
  case refine_13 => intro o a; simp (disch := omega) only [eq_pI2, ef_pL']
  case refine_1 => simp (disch := omega) only [ef_pI', ef_pIk, ef_pIs, eq_pL1]
  case refine_10 =>
    intro k
    by_cases p : k = 13
    · rw [if_pos p]; simp (disch := omega) only [ef_pI', ef_pIk, ef_pIs, eq_pL1]
    · rw [if_neg p]; simp (disch := omega) only [ef_pI', ef_pIk, ef_pIs, eq_pL1]
  case refine_11 =>
    intro k
    by_cases p : k = 2
    · rw [if_pos p]; simp (disch := omega) only [ef_pI', ef_pIk, ef_pIs, eq_pL1]
    · rw [if_neg p]; simp (disch := omega) only [ef_pI', ef_pIk, ef_pIs, eq_pL1]
  all_goals
    intro k
    by_cases p : k = nf + 1
    · rw [if_pos p]; simp (disch := omega) only [ef_pI', ef_pIk, ef_pIs, eq_pL1, eq_pI2, ef_pL', ef_pLk, ef_pLs]
    · rw [if_neg p]; simp (disch := omega) only [ef_pI', ef_pIk, ef_pIs, eq_pL1, eq_pI2, ef_pL', ef_pLk, ef_pLs]
theorem ec_kx {w nf ch h d : Nat} {C : em_M} (so be : Int32) (hn : nf < 300) (th : Int64) (es : Int32) : ep_fx w nf ch h d so be th es C (et_X0_keep w (ep_cF w nf ch h d so be C) (nI (nf + 1)) th es) := by
  have q := ec_fx (w := w) (nf := nf) (ch := ch) (h := h) (d := d) (C := C) so be
  rw [et_X0_keep, eq_putS_ _ (by omega) (by omega), eq_putS _ (by omega) (by omega)]
  refine ep_fx.mk ?_ ?_ ?_ ?_ ?_ ?_ ?_ ?_ ?_ ?_ ?_ ?_ ?_
  case refine_1 => simp (disch := omega) only [ef_pI', eq_pL1]; exact q.r8
  case refine_12 => intro o a b c; simp (disch := omega) only [ef_pI', eq_pL1]; exact q.ro o a b c
  case refine_13 => intro o a; simp (disch := omega) only [eq_pI2, ef_pL']; exact q.rl o a
  case refine_8 =>
    intro k
    by_cases p : k = nf + 1
    · rw [if_pos p]; simp (disch := omega) only [ef_pIs]
    · rw [if_neg p]; simp (disch := omega) only [ef_pIk, eq_pL1, q.r15 k]; rw [if_neg p]
  case refine_9 =>
    intro k
    by_cases p : k = nf + 1
    · rw [if_pos p]; simp (disch := omega) only [eq_pI2, ef_pLs]
    · rw [if_neg p]; simp (disch := omega) only [eq_pI2, ef_pLk, q.r16 k]; rw [if_neg p]
  all_goals (intro k; simp (disch := omega) only [ef_pI', eq_pL1, q.r9 k, q.r10 k, q.r11 k, q.r12 k, q.r13 k, q.r14 k, q.r3 k, q.r4 k])
/-! a frame comes: the model -/
def ep_gF (nf h d : Nat) (what e scope ke kt below ex : Int32) (G : em_M) : em_M :=
  em_pI (em_pI (em_pI (em_pI (em_pI (em_pI (em_pI (em_pI (em_pI (em_pI (em_pI G 119 (120 + 8 * nf) what) 119 (120 + 8 * nf + 1) e) 119 (120 + 8 * nf + 2) scope) 119 (120 + 8 * nf + 3) ke) 119 (120 + 8 * nf + 4) kt) 119 (120 + 8 * nf + 5) below) 119 (120 + 8 * nf + 6) (nI (h + 1))) 119 (120 + 8 * nf + 7) ex) 119 21 (nI (nf + 1))) 119 17 (nI nf)) 119 11 (nI (max d (h + 1)))
theorem em_fr0 (G : em_M) : es_X12_frames G (nI 0 - 1) ∧ et_X12_frames G (nI 0 - 1) = 0 := by
  rw [es_X12_frames, et_X12_frames, eq_q0]
  have : ¬ (0 : Int32) ≤ -1 := by decide
  exact ⟨⟨fun q => absurd q this, fun _ => trivial⟩, if_neg this⟩
theorem em_fr1 (G : em_M) {c : Nat} (hc : c < 300) : es_X12_frames G (nI (c + 1) - 1) ∧ et_X12_frames G (nI (c + 1) - 1) = G.1 119 (120 + 8 * c + 6) := by
  rw [es_X12_frames, et_X12_frames, eq_q1, eq_f8, eq_p6, nI_clamp (by omega), if_pos (nI_pos' (by omega))]
  exact ⟨⟨fun q => ⟨vp_in_nI (by omega) (by omega), trivial⟩, fun q => absurd (nI_pos' (by omega)) q⟩, rfl⟩
theorem em_come {G : em_M} {nf h d ch : Nat} (what e scope ke kt ex : Int32) (e1 : G.1 119 21 = nI nf) (hn : nf < 300) (hc : ch ≤ nf) (hf : et_X12_frames G (nI ch - 1) = nI h) (hh : h < 40) (e4 : G.1 119 11 = nI d) (hd : d ≤ 40) : es_X12_comes G (nI ch - 1) what e scope ke kt ex ∧ et_X12_comes G (nI ch - 1) what e scope ke kt ex = (1, ep_gF nf h d what e scope ke kt (nI ch - 1) ex G) := by
  have p1 : ¬ nI h = (40 : Int32) := fun q => by rw [show (40 : Int32) = nI 40 from rfl, nI_eq (by omega) (by omega)] at q; omega
  have f0 : es_X12_frames G (nI ch - 1) := by
    cases ch with
    | zero => exact (em_fr0 G).1
    | succ c => exact (em_fr1 G (by omega)).1
  have f1 : ∀ M : em_M, (∀ k, k < 120 + 8 * nf → M.1 119 k = G.1 119 k) → es_X12_frames M (nI ch - 1) ∧ et_X12_frames M (nI ch - 1) = nI h := by
    intro M hM
    cases ch with
    | zero =>
      rw [(em_fr0 G).2] at hf
      rw [← hf]; exact em_fr0 M
    | succ c =>
      rw [(em_fr1 G (by omega)).2] at hf
      refine ⟨(em_fr1 M (by omega)).1, ?_⟩
      rw [(em_fr1 M (by omega)).2, hM _ (by omega), hf]
  have f2 : ∀ a b c d e f : Int32, es_X12_frames (em_pI (em_pI (em_pI (em_pI (em_pI (em_pI G 119 (120 + 8 * nf) a) 119 (120 + 8 * nf + 1) b) 119 (120 + 8 * nf + 2) c) 119 (120 + 8 * nf + 3) d) 119 (120 + 8 * nf + 4) e) 119 (120 + 8 * nf + 5) f) (nI ch - 1) ∧ et_X12_frames (em_pI (em_pI (em_pI (em_pI (em_pI (em_pI G 119 (120 + 8 * nf) a) 119 (120 + 8 * nf + 1) b) 119 (120 + 8 * nf + 2) c) 119 (120 + 8 * nf + 3) d) 119 (120 + 8 * nf + 4) e) 119 (120 + 8 * nf + 5) f) (nI ch - 1) = nI h := by
    intro a b c d e f
    apply f1
    intro k hk
    simp (disch := omega) only [ef_pI', ef_pIk, ef_pIs]
  have ev : et_X12_comes G (nI ch - 1) what e scope ke kt ex = (1, ep_gF nf h d what e scope ke kt (nI ch - 1) ex G) := by
    rw [et_X12_comes, hf]
    simp (disch := omega) only [if_neg p1, show ((21 : Int32)).toNatClampNeg = 21 from rfl, show ((17 : Int32)).toNatClampNeg = 17 from rfl, show ((11 : Int32)).toNatClampNeg = 11 from rfl, e1, eq_f8, nI_1, eq_p2, eq_p3, eq_p4, eq_p5, eq_p6, eq_p7, nI_clamp, (f2 _ _ _ _ _ _).2]
    rw [ep_gF, ← eq_max (a := d) (b := h + 1) (by omega) (by omega)]
    simp (disch := omega) only [ef_pI', ef_pIk, ef_pIs, e4]
  refine ⟨?_, ev⟩
  rw [es_X12_comes, hf]
  simp (disch := omega) only [show ((21 : Int32)).toNatClampNeg = 21 from rfl, show ((17 : Int32)).toNatClampNeg = 17 from rfl, show ((11 : Int32)).toNatClampNeg = 11 from rfl, e1, eq_f8, nI_1, eq_p2, eq_p3, eq_p4, eq_p5, eq_p6, eq_p7, nI_clamp, forall_eq', vp_in_nI, true_and, (f2 _ _ _ _ _ _).1, (f2 _ _ _ _ _ _).2, implies_true, and_true]
  exact f0
theorem em_deep {G : em_M} {ch : Nat} (what e scope ke kt ex : Int32) (f0 : es_X12_frames G (nI ch - 1)) (hf : et_X12_frames G (nI ch - 1) = nI 40) : es_X12_comes G (nI ch - 1) what e scope ke kt ex ∧ et_X12_comes G (nI ch - 1) what e scope ke kt ex = (0, em_pI G 119 7 4) := by
  have p1 : nI 40 = (40 : Int32) := rfl
  have ev : et_X12_comes G (nI ch - 1) what e scope ke kt ex = (0, em_pI G 119 7 4) := by
    rw [et_X12_comes, hf]
    simp only [if_pos p1]
    rfl
  refine ⟨?_, ev⟩
  rw [es_X12_comes, hf]
  exact ⟨f0, fun r e => ⟨fun _ _ _ => trivial, fun q => absurd (e ▸ p1) q⟩⟩
