theorem ep_Inv0 : ep_Inv em_m35 := sorry
theorem pl_line {M : em_M} (hI : ep_Inv M)  {r1 : Int32} {M1 : em_M} (e1 : et_X11_line M = (r1, M1)) : es_X12_line M1 ∧ ∀ (r2 : Int32) (M2 : em_M), et_X12_line M1 = (r2, M2) → r1 = r2 ∧ ep_Inv M2 := sorry
theorem pl_of {M : em_M} (hI : ep_Inv M) (line : Int32) (what : Int32) {r1 : Int32} (e1 : et_X11_of M line what = r1) : es_X12_of M line what ∧ ∀ (r2 : Int32), et_X12_of M line what = r2 → r1 = r2 ∧ ep_Inv M := sorry
theorem pl_alike {M : em_M} (hI : ep_Inv M) (line : Int32) (other : Int32) {r1 : Int32} {M1 : em_M} (e1 : et_X11_alike M line other = (r1, M1)) : es_X12_alike M1 line other ∧ ∀ (r2 : Int32) (M2 : em_M), et_X12_alike M1 line other = (r2, M2) → r1 = r2 ∧ ep_Inv M2 := sorry
