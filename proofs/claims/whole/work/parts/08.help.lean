theorem ez_kn {a c n : Nat} (h : em_kd a = (c, n)) (hl : a < 132) : n < 6000 := by
  have key : ∀ a, a < 132 → (em_kd a).2 < 6000 := by decide +kernel
  have := key a hl
  rw [h] at this
  exact this
theorem ez_in {i : Int32} {n c a : Nat} (h : em_kd a = (c, n)) (hl : a < 132) (h1 : ¬ i < 0) (h2 : ¬ Int32.ofNat n ≤ i) : vp_in i n := by
  have hn := ez_kn h hl
  rw [vp_in_iff]
  rw [Int32.lt_iff_toInt_lt] at h1
  rw [Int32.le_iff_toInt_le, show (Int32.ofNat n).toInt = (n : Int) from nI_toInt (by omega)] at h2
  have h0 : (0 : Int32).toInt = 0 := by decide
  omega
theorem ez_cpn {a b c n m : Nat} (h : em_kd a = (c, n)) (hl : a < 132) (h' : em_kd b = (c, m)) (hl' : b < 132) : (¬ (if Int32.ofNat m < Int32.ofNat n then Int32.ofNat m else Int32.ofNat n) < 0) ∧ (0 : Int32).toNatClampNeg + (if Int32.ofNat m < Int32.ofNat n then Int32.ofNat m else Int32.ofNat n).toNatClampNeg ≤ n ∧ (0 : Int32).toNatClampNeg + (if Int32.ofNat m < Int32.ofNat n then Int32.ofNat m else Int32.ofNat n).toNatClampNeg ≤ m := by
  have hn := ez_kn h hl
  have hm := ez_kn h' hl'
  have e0 : (0 : Int32).toNatClampNeg = 0 := by decide
  have en : (Int32.ofNat n).toNatClampNeg = n := nI_clamp (by omega)
  have em : (Int32.ofNat m).toNatClampNeg = m := nI_clamp (by omega)
  have pn : ¬ Int32.ofNat n < 0 := nI_pos (by omega)
  have pm : ¬ Int32.ofNat m < 0 := nI_pos (by omega)
  rw [e0]
  split
  · rename_i hlt
    have := (nI_ltI (by omega) (by omega)).mp hlt
    rw [em]
    exact ⟨pm, by omega, by omega⟩
  · rename_i hlt
    have : ¬ m < n := fun q => hlt ((nI_ltI (by omega) (by omega)).mpr q)
    rw [en]
    exact ⟨pn, by omega, by omega⟩
/-- a counting loop: k up to N, with the fuel f -/
def ez_cnt (k N : Int32) (f : Nat) : Prop := 0 ≤ k.toInt ∧ (k.toInt ≤ N.toInt ∨ k.toInt ≤ 0) ∧ N.toInt < k.toInt + f ∧ 0 < k.toInt + f
theorem ez_cnt0 (N : Int32) : ez_cnt 0 N (N.toNatClampNeg + 1) := by
  have h0 : (0 : Int32).toInt = 0 := by decide
  have hc : N.toNatClampNeg = N.toInt.toNat := rfl
  unfold ez_cnt
  omega
theorem ez_cntz {k N : Int32} (h : ez_cnt k N 0) : False := by
  unfold ez_cnt at h
  omega
theorem ez_inc {k N : Int32} (h : k < N) : (k + 1).toInt = k.toInt + 1 := by
  rw [Int32.lt_iff_toInt_lt] at h
  have h1 := Int32.toInt_lt N
  have h2 := Int32.le_toInt k
  rw [Int32.toInt_add]
  have e1 : (1 : Int32).toInt = 1 := by decide
  rw [e1]
  rw [Int.bmod_def]
  split <;> omega
theorem ez_cnts {k N : Int32} {f : Nat} (h : ez_cnt k N (f + 1)) (hk : k < N) : ez_cnt (k + 1) N f := by
  have e := ez_inc hk
  rw [Int32.lt_iff_toInt_lt] at hk
  unfold ez_cnt at h ⊢
  rw [e]
  omega
theorem ez_cnts' {k N : Int32} {f : Nat} (h : ez_cnt k N (f + 1)) (hk : ¬ N ≤ k) : ez_cnt (k + 1) N f := ez_cnts h (Int32.not_le.mp hk)
theorem ez_cnu0 (k N : Int32) : ez_cnu k N ((N.toInt - k.toInt).toNat + 1) := by
  unfold ez_cnu
  omega
theorem ez_cnuz {k N : Int32} (h : ez_cnu k N 0) : False := by
  unfold ez_cnu at h
  omega
theorem ez_cnus {k N N' : Int32} {f : Nat} (h : ez_cnu k N (f + 1)) (hk : ¬ N ≤ k) (e : N' = N) : ez_cnu (k + 1) N' f := by
  have hk := Int32.not_le.mp hk
  have e2 := ez_inc hk
  rw [Int32.lt_iff_toInt_lt] at hk
  rw [e]
  unfold ez_cnu at h ⊢
  rw [e2]
  omega
theorem ez_dec {k : Int32} (h : 1 < k) : (k + (-1)).toInt = k.toInt - 1 := by
  rw [Int32.lt_iff_toInt_lt] at h
  have h1 := Int32.toInt_lt k
  have e1 : (-1 : Int32).toInt = -1 := by decide
  have e2 : (1 : Int32).toInt = 1 := by decide
  rw [Int32.toInt_add, e1, Int.bmod_def]
  rw [e2] at h
  split <;> omega
