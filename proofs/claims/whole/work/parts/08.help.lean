theorem ez_kn {a c n : Nat} (h : em_kd a = (c, n)) (hl : a < 132) : n < 6000 := by
  have key : ∀ a, a < 132 → (em_kd a).2 < 6000 := by decide +kernel
  have := key a hl
  rw [h] at this
  exact this
theorem ez_in {i : Int32} {n c a : Nat} (h : em_kd a = (c, n)) (hl : a < 132) (h1 : ¬ i < 0) (h2 : ¬ Int32.ofNat n ≤ i) : vp_in i n := by
  have hn := ez_kn h hl
  rw [vp_in_iff]
  rw [Int32.lt_iff_toInt_lt] at h1
  rw [Int32.le_iff_toInt_le, show (Int32.ofNat n).toInt = (n : Int) from nI_toInt (by omega)] at h2
  have h0 : (0 : Int32).toInt = 0 := by decide
  omega
theorem ez_cpn {a b c n m : Nat} (h : em_kd a = (c, n)) (hl : a < 132) (h' : em_kd b = (c, m)) (hl' : b < 132) : (¬ (if Int32.ofNat m < Int32.ofNat n then Int32.ofNat m else Int32.ofNat n) < 0) ∧ (0 : Int32).toNatClampNeg + (if Int32.ofNat m < Int32.ofNat n then Int32.ofNat m else Int32.ofNat n).toNatClampNeg ≤ n ∧ (0 : Int32).toNatClampNeg + (if Int32.ofNat m < Int32.ofNat n then Int32.ofNat m else Int32.ofNat n).toNatClampNeg ≤ m := by
  have hn := ez_kn h hl
  have hm := ez_kn h' hl'
  have e0 : (0 : Int32).toNatClampNeg = 0 := by decide
  have en : (Int32.ofNat n).toNatClampNeg = n := nI_clamp (by omega)
  have em : (Int32.ofNat m).toNatClampNeg = m := nI_clamp (by omega)
  have pn : ¬ Int32.ofNat n < 0 := nI_pos (by omega)
  have pm : ¬ Int32.ofNat m < 0 := nI_pos (by omega)
  rw [e0]
  split
  · rename_i hlt
    have := (nI_ltI (by omega) (by omega)).mp hlt
    rw [em]
    exact ⟨pm, by omega, by omega⟩
  · rename_i hlt
    have : ¬ m < n := fun q => hlt ((nI_ltI (by omega) (by omega)).mpr q)
    rw [en]
    exact ⟨pn, by omega, by omega⟩
