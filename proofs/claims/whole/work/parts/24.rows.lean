theorem eq_name (M : em_M) (n : Int32) : et_X12_isName M n = et_X11_isName M n := by
  rw [et_X12_isName, et_X11_isName]
  rw [show et_X12_in M n.toInt64 (0 : Int64) (3 : Int64) = if n < 0 then 0 else if 3 < n then 0 else 1 from eq_in M n 0 3]
  by_cases p1 : n < 0
  · rw [if_pos p1, if_pos p1]
  · rw [if_neg p1, if_neg p1]
    by_cases p2 : 3 < n
    · rw [if_pos p2, if_pos]
      rw [Int32.le_iff_toInt_le, show (4 : Int32).toInt = 4 by decide]
      rw [Int32.lt_iff_toInt_lt, show (3 : Int32).toInt = 3 by decide] at p2
      omega
    · rw [if_neg p2, if_neg]
      rw [Int32.le_iff_toInt_le, show (4 : Int32).toInt = 4 by decide]
      rw [Int32.lt_iff_toInt_lt, show (3 : Int32).toInt = 3 by decide] at p2
      omega
theorem eq_fun (M : em_M) (n : Int32) : et_X12_in M n.toInt64 (0 : Int64) (2 : Int64) = et_X11_isFunction M n := by
  rw [et_X11_isFunction]
  rw [show et_X12_in M n.toInt64 (0 : Int64) (2 : Int64) = if n < 0 then 0 else if 2 < n then 0 else 1 from eq_in M n 0 2]
  by_cases p1 : n < 0
  · rw [if_pos p1, if_pos p1]
  · rw [if_neg p1, if_neg p1]
    by_cases p2 : 2 < n
    · rw [if_pos p2, if_pos]
      rw [Int32.le_iff_toInt_le, show (3 : Int32).toInt = 3 by decide]
      rw [Int32.lt_iff_toInt_lt, show (2 : Int32).toInt = 2 by decide] at p2
      omega
    · rw [if_neg p2, if_neg]
      rw [Int32.le_iff_toInt_le, show (3 : Int32).toInt = 3 by decide]
      rw [Int32.lt_iff_toInt_lt, show (2 : Int32).toInt = 2 by decide] at p2
      omega
theorem eq_nameN {M : em_M} {n : Int32} (h : ¬ et_X11_isName M n = 0) : ∃ j, j < 4 ∧ n = nI j := by
  rw [et_X11_isName] at h
  by_cases p1 : n < 0
  · rw [if_pos p1] at h; exact absurd rfl h
  · rw [if_neg p1] at h
    by_cases p2 : 4 ≤ n
    · rw [if_pos p2] at h; exact absurd rfl h
    · obtain ⟨j, hj, rfl⟩ := nI_of p1
      exact ⟨j, by
        rw [Int32.le_iff_toInt_le, nI_toInt hj, show (4 : Int32).toInt = 4 by decide] at p2
        omega, rfl⟩
theorem eq_funN {M : em_M} {n : Int32} (h : ¬ et_X11_isFunction M n = 0) : ∃ j, j < 3 ∧ n = nI j := by
  rw [et_X11_isFunction] at h
  by_cases p1 : n < 0
  · rw [if_pos p1] at h; exact absurd rfl h
  · rw [if_neg p1] at h
    by_cases p2 : 3 ≤ n
    · rw [if_pos p2] at h; exact absurd rfl h
    · obtain ⟨j, hj, rfl⟩ := nI_of p1
      exact ⟨j, by
        rw [Int32.le_iff_toInt_le, nI_toInt hj, show (3 : Int32).toInt = 3 by decide] at p2
        omega, rfl⟩
theorem eq_nameC (M M' : em_M) (n : Int32) : et_X11_isName M n = et_X11_isName M' n := rfl
theorem eq_mul2 (k n : Nat) : nI k + 2 * nI n = nI (k + 2 * n) := by rw [show (2 : Int32) = nI 2 from rfl, eq_mul, nI_add]
theorem pm_book {φ D : Nat → Nat × Nat} {u nl : Nat} {C G : em_M} (h : ep_I φ D u nl C G) (name v : Int32) : es_X12_book G name v ∧ (et_X11_book C name v).1 = (et_X12_book G name v).1 ∧ ∃ φ' D' u' nl', ep_I φ' D' u' nl' (et_X11_book C name v).2 (et_X12_book G name v).2 := by
  unfold es_X12_book et_X11_book et_X12_book
  rw [show ((27 : Int32)).toNatClampNeg = 27 from rfl]
  by_cases p1 : name = -1
  · simp only [p1, if_true]
    refine ⟨⟨fun _ => fun _ _ => trivial, fun q => absurd trivial q⟩, ?_, φ, D, u, nl, ?_⟩
    · simp [et_X6_empty, eq_pI]
    · rw [et_X6_empty]
      exact ep_I_rows h (fun o ho => ef_pI' _ _ _ _ (by omega)) (fun _ => rfl) (by simp [eq_pI]) (fun o ho => ef_pI' _ _ _ _ (by omega)) (fun _ => rfl) (fun k hk => by simp (disch := omega) only [eq_pI, if_neg, if_true])
        (ep_Rw_cg (fun o _ _ => ef_pI' _ _ _ _ (by omega)) (by simp [eq_pI]) (fun k _ _ => by simp (disch := omega) only [eq_pI, if_neg, if_true]) h.rs)
        (ep_Rw_cg (fun o _ _ => ef_pI' _ _ _ _ (by omega)) (by simp [eq_pI]) (fun k _ _ => by simp (disch := omega) only [eq_pI, if_neg, if_true]) h.rp)
        (ep_clr h.rb)
  · simp only [p1, if_false, eq_name, eq_nameC G C]
    by_cases p2 : et_X11_isName C name = 0
    · simp only [p2, if_true]
      exact ⟨⟨fun q => absurd q id, fun _ => fun r2 e => ⟨fun _ => trivial, fun q => absurd e.symm q⟩⟩, trivial, φ, D, u, nl, h⟩
    · obtain ⟨j, hj, rfl⟩ := eq_nameN p2
      simp only [p2, if_false]
      by_cases p3 : G.1 119 27 = 8
      · rw [ep_addF h.rb h.iz.2.2.1 (by omega) p3]
        simp only [p3, if_true]
        exact ⟨⟨fun q => absurd q id, fun _ => fun r2 e => ⟨fun _ => trivial, fun _ => ⟨fun _ => trivial, fun q => absurd trivial q⟩⟩⟩, trivial, φ, D, u, nl, h⟩
      · obtain ⟨n, hn, hg, hc, hr⟩ := ep_addN h.rb h.iz.2.2.1 (by omega) p3 (by omega) (nI j) v ⟨j, hj, rfl⟩
        rw [hc]
        have e1 : (58 : Int32) + 2 * G.1 119 27 = nI (58 + 2 * n) := by rw [hg]; exact eq_mul2 58 n
        simp only [p3, if_false, e1]
        rw [show nI (58 + 2 * n) + 1 = nI (58 + 2 * n + 1) from nI_1 _, nI_clamp (by omega), nI_clamp (by omega), hg, nI_1]
        refine ⟨⟨fun q => absurd q id, fun _ => fun r2 e => ⟨fun _ => trivial, fun _ => ⟨fun q => absurd q id, fun _ => ⟨vp_in_nI (by omega) (by omega), fun _ _ => ⟨vp_in_nI (by omega) (by omega), fun _ _ _ _ => trivial⟩⟩⟩⟩⟩, rfl, φ, D, u, nl, ?_⟩
        exact ep_I_rows h (fun o ho => by simp (disch := omega) only [ef_pI']) (fun _ => rfl) (by simp [eq_pI]) (fun o ho => by simp (disch := omega) only [ef_pI']) (fun _ => rfl) (fun k hk => by simp (disch := omega) only [eq_pI, if_neg, if_true])
          (ep_Rw_cg (fun o _ _ => by simp (disch := omega) only [ef_pI']) (by simp (disch := omega) only [eq_pI, if_neg, if_true]) (fun k _ _ => by simp (disch := omega) only [eq_pI, if_neg, if_true]) h.rs)
          (ep_Rw_cg (fun o _ _ => by simp (disch := omega) only [ef_pI']) (by simp (disch := omega) only [eq_pI, if_neg, if_true]) (fun k _ _ => by simp (disch := omega) only [eq_pI, if_neg, if_true]) h.rp)
          hr
theorem pm_see {φ D : Nat → Nat × Nat} {u nl : Nat} {C G : em_M} (h : ep_I φ D u nl C G) (place v : Int32) : es_X12_see G place v ∧ (et_X11_see C place v).1 = (et_X12_see G place v).1 ∧ ∃ φ' D' u' nl', ep_I φ' D' u' nl' (et_X11_see C place v).2 (et_X12_see G place v).2 := by
  unfold es_X12_see et_X11_see et_X12_see
  rw [show ((25 : Int32)).toNatClampNeg = 25 from rfl]
  by_cases p1 : place = -1
  · simp only [p1, if_true]
    refine ⟨⟨fun _ => fun _ _ => trivial, fun q => absurd trivial q⟩, ?_, φ, D, u, nl, ?_⟩
    · simp [et_X6_empty, eq_pI]
    · rw [et_X6_empty]
      exact ep_I_rows h (fun o ho => by simp (disch := omega) only [ef_pI']) (fun _ => rfl) (by simp [eq_pI]) (fun o ho => by simp (disch := omega) only [ef_pI']) (fun _ => rfl) (fun k hk => by simp (disch := omega) only [eq_pI, if_neg, if_true]) (ep_clr h.rs) (ep_Rw_cg (fun o _ _ => by simp (disch := omega) only [ef_pI']) (by simp (disch := omega) only [eq_pI, if_neg, if_true]) (fun k _ _ => by simp (disch := omega) only [eq_pI, if_neg, if_true]) h.rp) (ep_Rw_cg (fun o _ _ => by simp (disch := omega) only [ef_pI']) (by simp (disch := omega) only [eq_pI, if_neg, if_true]) (fun k _ _ => by simp (disch := omega) only [eq_pI, if_neg, if_true]) h.rb)
  · simp only [p1, if_false]
    rw [show et_X12_in G place.toInt64 (0 : Int64) (39 : Int64) = if place < 0 then 0 else if 39 < place then 0 else 1 from eq_in G place 0 39]
    by_cases p0 : place < 0
    · simp only [p0, if_true]
      exact ⟨⟨fun q => absurd q id, fun _ => fun r2 e => ⟨fun _ => trivial, fun q => absurd e.symm q⟩⟩, trivial, φ, D, u, nl, h⟩
    · simp only [p0, if_false]
      by_cases p2 : 39 < place
      · have p2' : ¬ place < 40 := by
          rw [Int32.lt_iff_toInt_lt] at p2 ⊢
          rw [show (39 : Int32).toInt = 39 by decide] at p2
          rw [show (40 : Int32).toInt = 40 by decide]
          omega
        simp only [p2, p2', if_true, if_false]
        exact ⟨⟨fun q => absurd q id, fun _ => fun r2 e => ⟨fun _ => trivial, fun q => absurd e.symm q⟩⟩, trivial, φ, D, u, nl, h⟩
      · have p2' : place < 40 := by
          rw [Int32.lt_iff_toInt_lt] at p2 ⊢
          rw [show (39 : Int32).toInt = 39 by decide] at p2
          rw [show (40 : Int32).toInt = 40 by decide]
          omega
        obtain ⟨j, hj, rfl⟩ := nI_of2 (M := 39) (n := 39) (by decide) p0 (Int32.not_lt.mp p2)
        simp only [p2, p2', if_true, if_false, show ¬ ((1 : Int32) = 0) by decide]
        by_cases p3 : G.1 119 25 = 5
        · rw [ep_addF h.rs h.iz.1 (by omega) p3]
          simp only [p3, if_true]
          exact ⟨⟨fun q => absurd q id, fun _ => fun r2 e => ⟨fun _ => trivial, fun _ => ⟨fun _ => trivial, fun q => absurd trivial q⟩⟩⟩, trivial, φ, D, u, nl, h⟩
        · skip
          obtain ⟨n, hn, hg, hc, hr⟩ := ep_addN h.rs h.iz.1 (by omega) p3 (by omega) (nI j) v ⟨j, by omega, rfl⟩
          rw [hc]
          have e1 : (28 : Int32) + 2 * G.1 119 25 = nI (28 + 2 * n) := by rw [hg]; exact eq_mul2 28 n
          simp only [p3, if_false, e1]
          rw [show nI (28 + 2 * n) + 1 = nI (28 + 2 * n + 1) from nI_1 _, nI_clamp (by omega), nI_clamp (by omega), hg, nI_1]
          refine ⟨⟨fun q => absurd q id, fun _ => fun r2 e => ⟨fun _ => trivial, fun _ => ⟨fun q => absurd q id, fun _ => ⟨vp_in_nI (by omega) (by omega), fun _ _ => ⟨vp_in_nI (by omega) (by omega), fun _ _ _ _ => trivial⟩⟩⟩⟩⟩, rfl, φ, D, u, nl, ?_⟩
          exact ep_I_rows h (fun o ho => by simp (disch := omega) only [ef_pI']) (fun _ => rfl) (by simp [eq_pI]) (fun o ho => by simp (disch := omega) only [ef_pI']) (fun _ => rfl) (fun k hk => by simp (disch := omega) only [eq_pI, if_neg, if_true]) hr (ep_Rw_cg (fun o _ _ => by simp (disch := omega) only [ef_pI']) (by simp (disch := omega) only [eq_pI, if_neg, if_true]) (fun k _ _ => by simp (disch := omega) only [eq_pI, if_neg, if_true]) h.rp) (ep_Rw_cg (fun o _ _ => by simp (disch := omega) only [ef_pI']) (by simp (disch := omega) only [eq_pI, if_neg, if_true]) (fun k _ _ => by simp (disch := omega) only [eq_pI, if_neg, if_true]) h.rb)
theorem pl_book {M : em_M} (hI : ep_Inv M) (name : Int32) (v : Int32) {r1 : Int32} {M1 : em_M} (e1 : et_X11_book M name v = (r1, M1)) : es_X12_book M1 name v ∧ ∀ (r2 : Int32) (M2 : em_M), et_X12_book M1 name v = (r2, M2) → r1 = r2 ∧ ep_Inv M2 :=
  ep_go hI (fun M => et_X11_book M name v) (fun M => et_X12_book M name v) (fun M => es_X12_book M name v) (fun _ _ _ _ _ _ h => pm_book h name v) (fun o h => ef1_X11_book _ _ _ (by omega)) (fun o h => ef2_X11_book _ _ _ (by omega)) (fun o h => ef1_X12_book _ _ _ (by omega)) (fun o h => ef2_X12_book _ _ _ (by omega)) e1
theorem pl_see {M : em_M} (hI : ep_Inv M) (place : Int32) (v : Int32) {r1 : Int32} {M1 : em_M} (e1 : et_X11_see M place v = (r1, M1)) : es_X12_see M1 place v ∧ ∀ (r2 : Int32) (M2 : em_M), et_X12_see M1 place v = (r2, M2) → r1 = r2 ∧ ep_Inv M2 :=
  ep_go hI (fun M => et_X11_see M place v) (fun M => et_X12_see M place v) (fun M => es_X12_see M place v) (fun _ _ _ _ _ _ h => pm_see h place v) (fun o h => ef1_X11_see _ _ _ (by omega)) (fun o h => ef2_X11_see _ _ _ (by omega)) (fun o h => ef1_X12_see _ _ _ (by omega)) (fun o h => ef2_X12_see _ _ _ (by omega)) e1
