theorem pl_shift {M : em_M} (hI : ep_Inv M) (tape : Int32) (i : Int32) (other : Int32) (j : Int32) (n : Int32) {r1 : Int32} {M1 : em_M} (e1 : et_X11_shift M tape i other j n = (r1, M1)) : es_X12_shift M1 tape i other j n ∧ ∀ (r2 : Int32) (M2 : em_M), et_X12_shift M1 tape i other j n = (r2, M2) → r1 = r2 ∧ ep_Inv M2 := by
  have fr : ∀ o, 117 < o → (et_X11_shift M tape i other j n).2.1 o = M.1 o ∧ (et_X11_shift M tape i other j n).2.2 o = M.2 o := by
    intro o ho
    by_cases k : (et_X11_shift M tape i other j n).2 = M
    · rw [k]; exact ⟨rfl, rfl⟩
    · rw [et_X11_shift] at k ⊢
      by_cases p1 : tape < 0
      · rw [if_pos p1, ite_self, ite_self] at k; exact absurd rfl k
      by_cases p2 : 6 ≤ tape
      · rw [if_neg p1, if_pos p2, ite_self, ite_self] at k; exact absurd rfl k
      rw [if_neg p1, if_neg p2] at k ⊢
      by_cases p3 : other < 0
      · rw [if_pos p3] at k; exact absurd rfl k
      by_cases p4 : 6 ≤ other
      · rw [if_neg p3, if_pos p4] at k; exact absurd rfl k
      obtain ⟨b, hb, rfl, etb⟩ := eq_tpN p3 p4
      rw [if_neg p3, if_neg p4, etb] at k ⊢
      have fin : ∀ c : Prop, ∀ _ : Decidable c, ∀ X Y : Int32 × em_M, (X.2.1 o = M.1 o ∧ X.2.2 o = M.2 o) → (Y.2.1 o = M.1 o ∧ Y.2.2 o = M.2 o) → ((if c then X else Y).2.1 o = M.1 o ∧ (if c then X else Y).2.2 o = M.2 o) := by
        intro c hc X Y hX hY
        by_cases q : c
        · rw [if_pos q]; exact hX
        · rw [if_neg q]; exact hY
      refine fin _ _ _ _ ⟨rfl, rfl⟩ (fin _ _ _ _ ⟨rfl, rfl⟩ (fin _ _ _ _ (fin _ _ _ _ ⟨rfl, rfl⟩ (fin _ _ _ _ ⟨rfl, rfl⟩ (fin _ _ _ _ ⟨rfl, rfl⟩ (fin _ _ _ _ ⟨rfl, rfl⟩ (fin _ _ _ _ ⟨rfl, if_neg (by omega)⟩ ⟨rfl, rfl⟩))))) ⟨rfl, rfl⟩))
  exact ep_go hI (fun M => et_X11_shift M tape i other j n) (fun M => et_X12_shift M tape i other j n) (fun M => es_X12_shift M tape i other j n) (fun _ _ _ _ _ _ h => pm_shift h tape i other j n) (fun o h => (fr o h).1) (fun o h => (fr o h).2) (fun o h => ef1_X12_shift _ _ _ _ _ _ (by omega)) (fun o h => ef2_X12_shift _ _ _ _ _ _ (by omega)) e1
