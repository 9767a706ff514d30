/-! begin, step, run, told -/
theorem ep_I_ws {φ D : Nat → Nat × Nat} {u nl : Nat} {C G C' G' : em_M} (h : ep_I φ D u nl C G) (s : ep_Ws φ u nl 21 C G C' G') : ep_I φ D u nl C' G' :=
  ep_I_wd h (fun o ho => s.kc o (by omega)) (fun o ho => s.k2 o (by omega)) s.kg (fun o => by rw [s.kl]) s.kr s.wd
theorem ep_I_wb {φ D : Nat → Nat × Nat} {u nl : Nat} {C G : em_M} (h : ep_I φ D u nl C G) : ep_Wb nl 21 C G C G :=
  ep_Wb.mk h.wd.va h.wd.fu h.wd.gb.2 (fun _ _ => rfl) (fun _ _ => rfl) (fun _ _ => rfl) rfl (fun _ _ _ => rfl)
theorem ep_I_w {φ D : Nat → Nat × Nat} {u nl : Nat} {C G : em_M} (h : ep_I φ D u nl C G) : ep_Ws φ u nl 21 C G C G :=
  ep_Ws.mk h.wd (fun _ _ => rfl) (fun _ _ => rfl) (fun _ _ => rfl) rfl (fun _ _ _ => rfl)
theorem pm_begin {φ D : Nat → Nat × Nat} {u nl : Nat} {C G : em_M} (h : ep_I φ D u nl C G) (line : Int32) : es_X12_begin G line ∧ (et_X11_begin C line).1 = (et_X12_begin G line).1 ∧ ∃ φ' D' u' nl', ep_I φ' D' u' nl' (et_X11_begin C line).2 (et_X12_begin G line).2 := by
  unfold es_X12_begin et_X11_begin et_X12_begin
  simp only [eq_line h.ln]
  by_cases p : et_X2_has C line = 0
  · simp only [p, if_true]
    exact ⟨fun r2 e => ⟨fun _ => trivial, fun q => absurd e.symm q⟩, trivial, φ, D, u, nl, h⟩
  · obtain ⟨l, hl, rfl⟩ := eq_lineN h.ln p
    simp only [p, if_false]
    have n8 := h.ln.n8
    have s := ep_start (w := 21) (by omega) h.ln (ep_I_wb h) hl
    obtain ⟨n, n1, n2, n3, -⟩ := h.ln.fa l hl
    refine ⟨fun r2 e => ⟨fun _ => trivial, fun _ M3 _ => ⟨vp_in_nI (by omega) (by omega), trivial⟩⟩, ?_, φ, D, u, nl, ep_I_ws h s⟩
    rw [et_X2_fact, eq_y4, eq_p0, eq_atS _ (by omega) (by omega), s.kc 8 (by omega), s.kg 126 (by omega), nI_clamp (by omega), n2, show l * 4 = 4 * l by omega, n3]
theorem pl_begin {M : em_M} (hI : ep_Inv M) (line : Int32) {r1 : Int32} {M1 : em_M} (e1 : et_X11_begin M line = (r1, M1)) : es_X12_begin M1 line ∧ ∀ (r2 : Int32) (M2 : em_M), et_X12_begin M1 line = (r2, M2) → r1 = r2 ∧ ep_Inv M2 :=
  ep_go hI (fun M => et_X11_begin M line) (fun M => et_X12_begin M line) (fun M => es_X12_begin M line) (fun _ _ _ _ _ _ h => pm_begin h line) (fun o h => ef1_X11_begin _ _ (by omega)) (fun o h => ef2_X11_begin _ _ (by omega)) (fun o h => ef1_X12_begin _ _ (by omega)) (fun o h => ef2_X12_begin _ _ (by omega)) e1
theorem pm_run {φ D : Nat → Nat × Nat} {u nl : Nat} {C G : em_M} (h : ep_I φ D u nl C G) (line : Int32) : es_X12_run G line ∧ (et_X11_run C line).1 = (et_X12_run G line).1 ∧ ∃ φ' D' u' nl', ep_I φ' D' u' nl' (et_X11_run C line).2 (et_X12_run G line).2 := by
  unfold es_X12_run et_X11_run et_X12_run
  simp only [eq_line h.ln]
  by_cases p : et_X2_has C line = 0
  · simp only [p, if_true]
    exact ⟨fun r2 e => ⟨fun _ => trivial, fun q => absurd e.symm q⟩, trivial, φ, D, u, nl, h⟩
  · obtain ⟨l, hl, rfl⟩ := eq_lineN h.ln p
    simp only [p, if_false]
    obtain ⟨s1, s2⟩ := ep_runs (w := 21) (by omega) h.ln (ep_I_wb h) hl
    exact ⟨fun r2 e => ⟨fun _ => trivial, fun _ => ⟨s1, fun _ _ => trivial⟩⟩, s2.wd.st, φ, D, u, nl, ep_I_ws h s2⟩
theorem pl_run {M : em_M} (hI : ep_Inv M) (line : Int32) {r1 : Int32} {M1 : em_M} (e1 : et_X11_run M line = (r1, M1)) : es_X12_run M1 line ∧ ∀ (r2 : Int32) (M2 : em_M), et_X12_run M1 line = (r2, M2) → r1 = r2 ∧ ep_Inv M2 :=
  ep_go hI (fun M => et_X11_run M line) (fun M => et_X12_run M line) (fun M => es_X12_run M line) (fun _ _ _ _ _ _ h => pm_run h line) (fun o h => ef1_X11_run _ _ (by omega)) (fun o h => ef2_X11_run _ _ (by omega)) (fun o h => ef1_X12_run _ _ (by omega)) (fun o h => ef2_X12_run _ _ (by omega)) e1
theorem pm_step {φ D : Nat → Nat × Nat} {u nl : Nat} {C G : em_M} (h : ep_I φ D u nl C G) (n : Int32) : es_X12_step G n ∧ (et_X11_step C n).1 = (et_X12_step G n).1 ∧ ∃ φ' D' u' nl', ep_I φ' D' u' nl' (et_X11_step C n).2 (et_X12_step G n).2 := by
  unfold es_X12_step et_X11_step et_X12_step
  rw [show et_X12_in G n.toInt64 (0 : Int64) (300 : Int64) = if n < 0 then 0 else if 300 < n then 0 else 1 from eq_in G n 0 300]
  by_cases p1 : n < 0
  · simp only [p1, if_true]
    exact ⟨fun r2 e => ⟨fun _ => trivial, fun q => absurd e.symm q⟩, trivial, φ, D, u, nl, h⟩
  · by_cases p2 : n ≤ 300
    · have p3 : ¬ 300 < n := Int32.not_lt.mpr p2
      obtain ⟨N, hN, rfl⟩ := nI_of2 (M := 300) (n := 300) (by decide) p1 p2
      have p4 : ¬ (1 : Int32) = 0 := by decide
      simp only [p1, p2, p3, p4, if_true, if_false]
      by_cases q : G.1 119 7 = -5
      · have q' : C.1 25 0 = -5 := by rw [show C.1 25 0 = G.1 119 7 from h.wd.st]; exact q
        obtain ⟨m1, m2, m3⟩ := ep_move (w := 21) (by omega) h.ln hN (ep_I_w h)
        simp only [eq_c7, q, q', if_true]
        exact ⟨fun r2 e => ⟨fun _ => trivial, fun _ => ⟨fun _ => ⟨m1, fun _ _ _ => trivial⟩, fun z => absurd trivial z⟩⟩, m2, φ, D, u, nl, ep_I_ws h m3⟩
      · have q' : ¬ C.1 25 0 = -5 := by rw [show C.1 25 0 = G.1 119 7 from h.wd.st]; exact q
        simp only [eq_c7, q, q', if_false]
        exact ⟨fun r2 e => ⟨fun _ => trivial, fun _ => ⟨fun z => absurd z id, fun _ => trivial⟩⟩, trivial, φ, D, u, nl, h⟩
    · have p3 : 300 < n := Int32.not_le.mp p2
      simp only [p1, p2, p3, if_true, if_false]
      exact ⟨fun r2 e => ⟨fun _ => trivial, fun q => absurd e.symm q⟩, trivial, φ, D, u, nl, h⟩
theorem pl_step {M : em_M} (hI : ep_Inv M) (n : Int32) {r1 : Int32} {M1 : em_M} (e1 : et_X11_step M n = (r1, M1)) : es_X12_step M1 n ∧ ∀ (r2 : Int32) (M2 : em_M), et_X12_step M1 n = (r2, M2) → r1 = r2 ∧ ep_Inv M2 :=
  ep_go hI (fun M => et_X11_step M n) (fun M => et_X12_step M n) (fun M => es_X12_step M n) (fun _ _ _ _ _ _ h => pm_step h n) (fun o h => ef1_X11_step _ _ (by omega)) (fun o h => ef2_X11_step _ _ (by omega)) (fun o h => ef1_X12_step _ _ (by omega)) (fun o h => ef2_X12_step _ _ (by omega)) e1
/-! told -/
theorem eq_sub {a b : Nat} (h : b ≤ a) : nI a - nI b = nI (a - b) := by
  have e : nI a = nI (a - b) + nI b := by rw [nI_add, Nat.sub_add_cancel h]
  rw [e, Int32.add_sub_cancel]
theorem eq_inN (M : em_M) {j a b : Nat} (hj : j < 2 ^ 31) (ha : a < 2 ^ 31) (hb : b < 2 ^ 31) : et_X12_in M (nI j).toInt64 (nI a).toInt64 (nI b).toInt64 = if j < a then 0 else if b < j then 0 else 1 := by
  rw [eq_in]
  simp only [nI_ltI hj ha, nI_ltI hb hj]
theorem ep_ans {φ : Nat → Nat × Nat} {u nl w : Nat} {C G : em_M} (h : ep_Wd φ u nl w 119 C G) (what : Int32) : es_X12_toldOf G what ∧ et_X4_answer (w + 4) C what = et_X12_toldOf G what := by
  obtain ⟨z, z1, z2, z3, z4⟩ := h.sz
  obtain ⟨s, s1, s2, s3⟩ := h.sp
  obtain ⟨d, d1, d2, d3⟩ := h.dp
  unfold es_X12_toldOf et_X4_answer et_X12_toldOf
  simp only [eq_c7, eq_c8, eq_c9, eq_c10, eq_c11, eq_c12]
  by_cases w0 : what = 0
  · simp only [w0, if_true, h.st]
    exact ⟨⟨fun _ => trivial, fun q => absurd trivial q⟩, trivial⟩
  by_cases w1 : what = 1
  · simp only [w1, if_true, if_neg (show ¬ (1 : Int32) = 0 by decide), h.st]
    refine ⟨⟨fun q => absurd q (by decide), fun _ => ⟨fun _ => ⟨fun _ => ⟨fun _ => trivial, fun _ => trivial⟩, fun _ => trivial⟩, fun q => absurd trivial q⟩⟩, ?_⟩
    by_cases q : G.1 119 7 = 0
    · have t := h.re q
      simp only [q, if_true]
      by_cases i : G.1 119 8 = 1
      · rw [if_pos (show et_X11_isNumber C (C.2 (w + 4) 5) = 0 by rw [eq_num0 t (Nat.le_refl _)]; exact i), if_neg (by rw [i]; decide)]
      · obtain ⟨a1, a2, -⟩ := eq_numv t i
        rw [if_neg (show ¬ et_X11_isNumber C (C.2 (w + 4) 5) = 0 by rw [eq_num0 t (Nat.le_refl _)]; exact i), if_pos a1, a2]
    · simp only [q, if_false]
  by_cases w2 : what = 2
  · simp only [w2, if_true, if_neg (show ¬ (2 : Int32) = 0 by decide), if_neg (show ¬ (2 : Int32) = 1 by decide), s2, s3]
    exact ⟨⟨fun q => absurd q (by decide), fun _ => ⟨fun q => absurd q (by decide), fun _ => ⟨fun _ => trivial, fun q => absurd trivial q⟩⟩⟩, trivial⟩
  by_cases w3 : what = 3
  · simp only [w3, if_true, if_neg (show ¬ (3 : Int32) = 0 by decide), if_neg (show ¬ (3 : Int32) = 1 by decide), if_neg (show ¬ (3 : Int32) = 2 by decide), d2, d3]
    exact ⟨⟨fun q => absurd q (by decide), fun _ => ⟨fun q => absurd q (by decide), fun _ => ⟨fun q => absurd q (by decide), fun _ => ⟨fun _ => trivial, fun q => absurd trivial q⟩⟩⟩⟩, trivial⟩
  by_cases w4 : what = 4
  · simp only [w4, if_true, if_neg (show ¬ (4 : Int32) = 0 by decide), if_neg (show ¬ (4 : Int32) = 1 by decide), if_neg (show ¬ (4 : Int32) = 2 by decide), if_neg (show ¬ (4 : Int32) = 3 by decide), z2, z3]
    exact ⟨⟨fun q => absurd q (by decide), fun _ => ⟨fun q => absurd q (by decide), fun _ => ⟨fun q => absurd q (by decide), fun _ => ⟨fun q => absurd q (by decide), fun _ => ⟨fun _ => trivial, fun q => absurd trivial q⟩⟩⟩⟩⟩, trivial⟩
  simp only [w0, w1, w2, w3, w4, if_false, false_implies, not_false_eq_true, true_implies, true_and, z2, z3]
  rw [show (39 : Int32) + nI z = nI (39 + z) from nI_add 39 z]
  rw [show et_X12_in G what.toInt64 (40 : Int64) (nI (39 + z)).toInt64 = if what < 40 then 0 else if nI (39 + z) < what then 0 else 1 from eq_in G what 40 (nI (39 + z))]
  by_cases p1 : what < 40
  · simp only [p1, if_true]
    exact ⟨fun r e => ⟨fun _ => trivial, fun q => absurd e.symm q⟩, trivial⟩
  · have p0 : ¬ what < 0 := by
      rw [Int32.lt_iff_toInt_lt] at p1 ⊢
      rw [show (40 : Int32).toInt = 40 by decide] at p1
      rw [show (0 : Int32).toInt = 0 by decide]
      omega
    obtain ⟨j, hj, rfl⟩ := nI_of p0
    have j40 : 40 ≤ j := by
      rw [show (40 : Int32) = nI 40 from rfl, nI_ltI hj (by omega)] at p1
      omega
    rw [show nI j - (40 : Int32) = nI (j - 40) from eq_sub (b := 40) j40]
    simp only [p1, if_false, nI_leI (show z < 2 ^ 31 by omega) (show j - 40 < 2 ^ 31 by omega), nI_ltI (show 39 + z < 2 ^ 31 by omega) hj]
    by_cases p2 : z ≤ j - 40
    · simp only [p2, if_true, show 39 + z < j by omega]
      exact ⟨fun r e => ⟨fun _ => trivial, fun q => absurd e.symm q⟩, trivial⟩
    · have i : (74 : Int32) + nI j - 40 = nI (74 + (j - 40)) := by
        rw [show (74 : Int32) + nI j = nI (74 + j) from nI_add 74 j, show nI (74 + j) - (40 : Int32) = nI (74 + j - 40) from eq_sub (b := 40) (by omega)]
        congr 1
        omega
      simp only [p2, if_false, show ¬ 39 + z < j by omega, if_neg (show ¬ (1 : Int32) = 0 by decide)]
      rw [i, nI_clamp (by omega), eq_atS _ (by omega) (by omega), z4 _ (by omega)]
      exact ⟨fun r e => ⟨fun _ => trivial, fun _ => ⟨vp_in_nI (by omega) (by omega), trivial⟩⟩, rfl⟩
theorem em_winders {φ : Nat → Nat × Nat} {u : Nat} {H : ep_H} {w : Nat} {C G : em_M} (h : ep_Tb φ u H w 119 C G) (h3 : H.nw ≤ 300) : ∀ x, x ≤ H.nw → ∀ fu a, x < fu → es_X12_winders_10 fu G (nI a) (nI x - 1) ∧ et_X12_winders_10 fu G (nI a) (nI x - 1) = nI (a + H.hw x) := by
  intro x
  induction x using Nat.strongRecOn with
  | ind x ih =>
    intro hx fu a hf
    obtain ⟨fu, rfl⟩ : ∃ f, fu = f + 1 := ⟨fu - 1, by omega⟩
    rw [es_X12_winders_10, et_X12_winders_10]
    cases x with
    | zero =>
      rw [eq_q0, if_pos eq_neg, h.wh0.1]
      exact ⟨⟨fun _ => trivial, fun q => absurd eq_neg q⟩, rfl⟩
    | succ v =>
      obtain ⟨b1, b2, -, -, -, b6⟩ := h.wb v (by omega)
      have p : ¬ nI v < 0 := nI_pos (by omega)
      rw [eq_q1, eq_w4, eq_p2, nI_clamp (by omega), b6, if_neg p, nI_1]
      obtain ⟨i1, i2⟩ := ih (H.bw (v + 1)) (by omega) (by omega) fu (a + 1) (by omega)
      exact ⟨⟨fun q => absurd q p, fun _ => ⟨vp_in_nI (by omega) (by omega), i1⟩⟩, by rw [i2, b2, show a + 1 + H.hw (H.bw (v + 1)) = a + (H.hw (H.bw (v + 1)) + 1) by omega]⟩
theorem pm_told {φ D : Nat → Nat × Nat} {u nl : Nat} {C G : em_M} (h : ep_I φ D u nl C G) (what : Int32) : es_X12_told G what ∧ et_X11_told C what = et_X12_told G what := by
  obtain ⟨t1, t2⟩ := ep_ans h.wd what
  by_cases p0 : what < 0
  · have i1 : ∀ a b : Nat, a < 2 ^ 31 → et_X12_in G what.toInt64 (nI a).toInt64 (nI b).toInt64 = 0 := by
      intro a b ha
      rw [eq_in, if_pos]
      rw [Int32.lt_iff_toInt_lt] at p0 ⊢
      rw [show (0 : Int32).toInt = 0 by decide] at p0
      rw [nI_toInt ha]
      omega
    have l : ∀ a : Nat, a < 2 ^ 31 → what < nI a := by
      intro a ha
      rw [Int32.lt_iff_toInt_lt] at p0 ⊢
      rw [show (0 : Int32).toInt = 0 by decide] at p0
      rw [nI_toInt ha]
      omega
    have V : et_X12_told G what = et_X12_toldOf G what := by
      unfold et_X12_told
      rw [show et_X12_in G what.toInt64 (5 : Int64) (8 : Int64) = 0 from i1 5 8 (by omega), show et_X12_in G what.toInt64 (10 : Int64) (13 : Int64) = 0 from i1 10 13 (by omega), show et_X12_in G what.toInt64 (20 : Int64) (22 : Int64) = 0 from i1 20 22 (by omega)]
      rfl
    have E : es_X12_told G what := by
      unfold es_X12_told
      rw [show et_X12_in G what.toInt64 (5 : Int64) (8 : Int64) = 0 from i1 5 8 (by omega), show et_X12_in G what.toInt64 (10 : Int64) (13 : Int64) = 0 from i1 10 13 (by omega), show et_X12_in G what.toInt64 (20 : Int64) (22 : Int64) = 0 from i1 20 22 (by omega)]
      exact fun r e => ⟨fun _ r' e' => ⟨fun _ r'' e'' => ⟨fun _ => ⟨t1, fun _ _ => trivial⟩, fun q => absurd e''.symm q⟩, fun q => absurd e'.symm q⟩, fun q => absurd e.symm q⟩
    refine ⟨E, ?_⟩
    rw [V, ← t2]
    unfold et_X11_told
    rw [if_pos (show what < 5 from l 5 (by omega)), if_pos (show what < 10 from l 10 (by omega)), if_pos (show what < 20 from l 20 (by omega))]
  · obtain ⟨j, hj, rfl⟩ := nI_of p0
    have L : ∀ a : Nat, a < 2 ^ 31 → (nI j < nI a) = (j < a) := fun a ha => propext (nI_ltI hj ha)
    have L' : ((8 : Int32) < nI j) = (8 < j) := propext (nI_ltI (a := 8) (by omega) hj)
    have l5 : (nI j < (5 : Int32)) = (j < 5) := L 5 (by omega)
    have l10 : (nI j < (10 : Int32)) = (j < 10) := L 10 (by omega)
    have l20 : (nI j < (20 : Int32)) = (j < 20) := L 20 (by omega)
    have i1 : et_X12_in G (nI j).toInt64 (5 : Int64) (8 : Int64) = if j < 5 then 0 else if 8 < j then 0 else 1 := eq_inN G (a := 5) (b := 8) hj (by omega) (by omega)
    have i2 : et_X12_in G (nI j).toInt64 (10 : Int64) (13 : Int64) = if j < 10 then 0 else if 13 < j then 0 else 1 := eq_inN G (a := 10) (b := 13) hj (by omega) (by omega)
    have i3 : et_X12_in G (nI j).toInt64 (20 : Int64) (22 : Int64) = if j < 20 then 0 else if 22 < j then 0 else 1 := eq_inN G (a := 20) (b := 22) hj (by omega) (by omega)
    have n1 : ¬ (1 : Int32) = 0 := by decide
    by_cases c1 : 5 ≤ j ∧ j ≤ 8
    · have V0 : et_X11_told C (nI j) = et_X3_state 21 C (nI j) := by
        unfold et_X11_told
        simp only [l5, L', show ¬ j < 5 by omega, show ¬ 8 < j by omega, if_false]
      unfold es_X12_told et_X12_told
      simp only [i1, show ¬ j < 5 by omega, show ¬ 8 < j by omega, if_false, n1]
      rw [V0, et_X3_state]
      simp only [eq_c7, eq_c13, eq_c17, show C.1 (21 + 4) 0 = G.1 119 7 from h.wd.st]
      by_cases run : G.1 119 7 = -5
      · obtain ⟨H, s, ch, wi, -, r⟩ := h.wd.ru run
        have s3 := r.s3
        have nf := r.nf
        have nw := r.nw
        have ch0 := r.ch0
        have wi0 := r.wi0
        simp only [run, if_true]
        have hj4 : j = 5 ∨ j = 6 ∨ j = 7 ∨ j = 8 := by omega
        rcases hj4 with rfl | rfl | rfl | rfl
        · obtain ⟨x, x1, x2, x3, x4⟩ := ep_hts r.tb (by omega) r.ch0
          simp only [eq_true (show nI 5 = (5 : Int32) from rfl), if_true, et_X0_height, r.ch1, r.ch2]
          rw [x3, eq_atS _ (by omega) (by omega), x2]
          exact ⟨fun r' e => ⟨fun q => absurd (e.trans q) n1, fun _ => ⟨fun _ => ⟨fun _ => ⟨x4, fun _ _ => trivial⟩, fun q => absurd trivial q⟩, fun q => absurd trivial q⟩⟩, rfl⟩
        · obtain ⟨k1, k2⟩ := ep_hw_le r.tb r.wi0
          obtain ⟨m1, m2⟩ := em_winders r.tb (by omega) wi r.wi0 400 0 (by omega)
          have w2 : et_X12_winders G = nI (H.hw wi) := by
            rw [et_X12_winders, eq_c18, r.wi2, show (0 : Int32) = nI 0 from rfl, m2, Nat.zero_add]
          have w1 : es_X12_winders G := by
            rw [es_X12_winders, eq_c18, r.wi2]; exact m1
          simp only [eq_false (show ¬ nI 6 = (5 : Int32) by decide), eq_true (show nI 6 = (6 : Int32) from rfl), if_true, if_false, et_X9_height, r.wi1]
          rw [w2, eq_atS _ (by omega) (by omega), k2]
          exact ⟨fun r' e => ⟨fun q => absurd (e.trans q) n1, fun _ => ⟨fun _ => ⟨fun q => absurd q id, fun _ => ⟨fun _ => ⟨w1, fun _ _ => trivial⟩, fun q => absurd trivial q⟩⟩, fun q => absurd trivial q⟩⟩, rfl⟩
        · simp only [eq_false (show ¬ nI 7 = (5 : Int32) by decide), eq_false (show ¬ nI 7 = (6 : Int32) by decide), eq_true (show nI 7 = (7 : Int32) from rfl), if_true, if_false]
          refine ⟨fun r' e => ⟨fun q => absurd (e.trans q) n1, fun _ => ⟨fun _ => ⟨fun q => absurd q id, fun _ => ⟨fun q => absurd q id, fun _ => ⟨fun _ => trivial, fun q => absurd trivial q⟩⟩⟩, fun q => absurd trivial q⟩⟩, ?_⟩
          rcases r.gi with ⟨g1, g2, -⟩ | ⟨g1, g2, -⟩
          · rw [show C.1 (21 + 3) 9 = 0 from g1, g2]; rfl
          · rw [show C.1 (21 + 3) 9 = 1 from g1, g2]; rfl
        · have lt : es_X12_latest G ∧ (if C.1 (21 + 3) 13 = 0 then (-5 : Int64) else (et_X0_sort 21 C (C.1 (21 + 3) 13)).toInt64) = (et_X12_latest G).toInt64 := by
            rw [es_X12_latest, et_X12_latest, eq_c17, r.ch1, r.ch2]
            cases ch with
            | zero =>
              have q : ¬ (0 : Int32) ≤ nI 0 - 1 := by rw [eq_q0]; decide
              rw [if_neg q, if_pos nI_0]
              exact ⟨⟨fun z => absurd z q, fun _ => trivial⟩, rfl⟩
            | succ f =>
              rw [eq_q1, eq_f8, nI_clamp (by omega), if_pos (nI_pos' (by omega)), if_neg (nI_ne0 (by omega) (by omega)), et_X0_sort, eq_atS _ (by omega) (by omega)]
              refine ⟨⟨fun _ => ⟨vp_in_nI (by omega) (by omega), fun _ => ⟨fun _ => ⟨fun _ => trivial, fun _ => trivial⟩, fun _ => trivial⟩, fun _ => trivial⟩, fun z => absurd (nI_pos' (by omega)) z⟩, ?_⟩
              rcases r.fk f (by omega) with ⟨so, be, wh, e, sc, q⟩ | ⟨e, sc, p, q⟩ | ⟨so, wh, x, q⟩
              · have hS := q.hS
                rw [q.hs, q.hw]
                unfold ep_S at hS
                rcases hS with ⟨rfl, rfl, rfl⟩ | ⟨rfl, rfl, rfl⟩ | ⟨rfl, rfl, rfl⟩ | ⟨rfl, rfl, rfl⟩ | ⟨rfl, rfl, rfl⟩ | ⟨rfl, rfl, rfl⟩ | ⟨rfl, rfl, rfl⟩ | ⟨rfl, rfl, rfl⟩ | ⟨rfl, rfl, rfl⟩ | ⟨rfl, rfl, rfl⟩ | ⟨rfl, rfl, rfl⟩ <;> rfl
              · rw [q.hs, q.hw]; rfl
              · rw [q.hs, q.hw]
                rcases q.hsw with ⟨rfl, rfl⟩ | ⟨rfl, rfl⟩ <;> rfl
          simp only [eq_false (show ¬ nI 8 = (5 : Int32) by decide), eq_false (show ¬ nI 8 = (6 : Int32) by decide), eq_false (show ¬ nI 8 = (7 : Int32) by decide), eq_true (show nI 8 = (8 : Int32) from rfl), if_true, if_false]
          exact ⟨fun r' e => ⟨fun q => absurd (e.trans q) n1, fun _ => ⟨fun _ => ⟨fun q => absurd q id, fun _ => ⟨fun q => absurd q id, fun _ => ⟨fun q => absurd q id, fun _ => ⟨lt.1, fun _ _ => trivial⟩⟩⟩⟩, fun q => absurd trivial q⟩⟩, lt.2⟩
      · simp only [run, if_false]
        exact ⟨fun r' e => ⟨fun q => absurd (e.trans q) n1, fun _ => ⟨fun q => absurd q id, fun _ => trivial⟩⟩, trivial⟩
    · have x1 : (if j < 5 then (0 : Int32) else if 8 < j then 0 else 1) = 0 := by
        by_cases a : j < 5
        · rw [if_pos a]
        · rw [if_neg a, if_pos (by omega)]
      have C0 : et_X11_told C (nI j) = (if j < 10 then (if j < 20 then et_X4_answer 25 C (nI j) else if et_X11_isFunction C (nI j - 20) = 0 then et_X4_answer 25 C (nI j) else (et_X11_at 23 3 C (nI j - 20)).toInt64) else if et_X11_isName C (nI j - 10) = 0 then (if j < 20 then et_X4_answer 25 C (nI j) else if et_X11_isFunction C (nI j - 20) = 0 then et_X4_answer 25 C (nI j) else (et_X11_at 23 3 C (nI j - 20)).toInt64) else (et_X11_at 22 4 C (nI j - 10)).toInt64) := by
        unfold et_X11_told
        simp only [l5, l10, l20, L']
        by_cases a : j < 5
        · rw [if_pos a]
        · rw [if_neg a, if_pos (show 8 < j by omega)]
      have n10 : j ≥ 10 → nI j - (10 : Int32) = nI (j - 10) := fun a => eq_sub (b := 10) a
      have n20 : j ≥ 20 → nI j - (20 : Int32) = nI (j - 20) := fun a => eq_sub (b := 20) a
      have isN : j ≥ 10 → et_X11_isName C (nI j - 10) = if 4 ≤ j - 10 then 0 else 1 := by
        intro a
        rw [n10 a, et_X11_isName, if_neg (nI_pos (by omega))]
        simp only [show ((4 : Int32) ≤ nI (j - 10)) = (4 ≤ j - 10) from propext (nI_leI (a := 4) (by omega) (by omega))]
      have isF : j ≥ 20 → et_X11_isFunction C (nI j - 20) = if 3 ≤ j - 20 then 0 else 1 := by
        intro a
        rw [n20 a, et_X11_isFunction, if_neg (nI_pos (by omega))]
        simp only [show ((3 : Int32) ≤ nI (j - 20)) = (3 ≤ j - 20) from propext (nI_leI (a := 3) (by omega) (by omega))]
      unfold es_X12_told et_X12_told
      rw [C0]
      simp only [i1, i2, i3, x1, if_true]
      by_cases c2 : 10 ≤ j ∧ j ≤ 13
      · have i : (0 : Int32) + nI j - 10 = nI (j - 10) := by rw [eq_m0]; exact n10 (by omega)
        simp only [show ¬ j < 10 by omega, show ¬ 13 < j by omega, if_false, n1, isN (by omega), show ¬ 4 ≤ j - 10 by omega]
        rw [i, n10 (by omega), eq_atS _ (by omega) (by omega), nI_clamp (by omega), h.wd.va (j - 10) (by omega)]
        exact ⟨fun r e => ⟨fun _ r' e' => ⟨fun q => absurd (e'.trans q) n1, fun _ => ⟨vp_in_nI (by omega) (by omega), trivial⟩⟩, fun q => absurd e.symm q⟩, rfl⟩
      · have x2 : (if j < 10 then (0 : Int32) else if 13 < j then 0 else 1) = 0 := by
          by_cases a : j < 10
          · rw [if_pos a]
          · rw [if_neg a, if_pos (by omega)]
        simp only [x2, if_true]
        by_cases c3 : 20 ≤ j ∧ j ≤ 22
        · have i : (4 : Int32) + nI j - 20 = nI (4 + (j - 20)) := by
            rw [eq_m4, show nI (4 + j) - (20 : Int32) = nI (4 + j - 20) from eq_sub (b := 20) (by omega)]
            congr 1
            omega
          simp only [show ¬ j < 10 by omega, show ¬ j < 20 by omega, show ¬ 22 < j by omega, if_false, n1, isN (by omega), isF (by omega), show 4 ≤ j - 10 by omega, show ¬ 3 ≤ j - 20 by omega, if_true]
          rw [i, n20 (by omega), eq_atS _ (by omega) (by omega), nI_clamp (by omega), (h.wd.fu (j - 20) (by omega)).1]
          exact ⟨fun r e => ⟨fun _ r' e' => ⟨fun _ r'' e'' => ⟨fun q => absurd (e''.trans q) n1, fun _ => ⟨vp_in_nI (by omega) (by omega), trivial⟩⟩, fun q => absurd e'.symm q⟩, fun q => absurd e.symm q⟩, rfl⟩
        · have x3 : (if j < 20 then (0 : Int32) else if 22 < j then 0 else 1) = 0 := by
            by_cases a : j < 20
            · rw [if_pos a]
            · rw [if_neg a, if_pos (by omega)]
          simp only [x3, if_true]
          refine ⟨fun r e => ⟨fun _ r' e' => ⟨fun _ r'' e'' => ⟨fun _ => ⟨t1, fun _ _ => trivial⟩, fun q => absurd e''.symm q⟩, fun q => absurd e'.symm q⟩, fun q => absurd e.symm q⟩, ?_⟩
          rw [← t2]
          by_cases a : j < 10
          · rw [if_pos a, if_pos (show j < 20 by omega)]
          · rw [if_neg a, isN (by omega), if_pos (show 4 ≤ j - 10 by omega), if_pos rfl]
            by_cases b : j < 20
            · rw [if_pos b]
            · rw [if_neg b, isF (by omega), if_pos (show 3 ≤ j - 20 by omega), if_pos rfl]
theorem pl_told {M : em_M} (hI : ep_Inv M) (what : Int32) {r1 : Int64} (e1 : et_X11_told M what = r1) : es_X12_told M what ∧ ∀ (r2 : Int64), et_X12_told M what = r2 → r1 = r2 ∧ ep_Inv M :=
  ep_goP hI (fun M => et_X11_told M what) (fun M => et_X12_told M what) (fun M => es_X12_told M what) (fun _ _ _ _ _ _ h => pm_told h what) e1
