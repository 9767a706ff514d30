/-! fractions in lowest terms; odds, mean -/
theorem eq_rm {A B : Int64} (hA : A.toInt.natAbs ≤ 2 ^ 41) (hB : 0 < B.toInt) : (A / B).toInt = A.toInt.tdiv B.toInt ∧ (A - A / B * B).toInt = A.toInt.tmod B.toInt := by
  have e1 : (A / B).toInt = A.toInt.tdiv B.toInt := by
    rw [Int64.toInt_div_of_ne_right]
    intro q
    rw [q] at hB
    exact absurd hB (by decide)
  have k := Int.tdiv_mul_add_tmod A.toInt B.toInt
  have m : (A.toInt.tmod B.toInt).natAbs ≤ A.toInt.natAbs := by rw [Int.natAbs_tmod]; exact Nat.mod_le _ _
  have e2 : (A / B * B).toInt = A.toInt.tdiv B.toInt * B.toInt := by
    rw [Int64.toInt_mul, e1, Int.bmod_eq_of_le (by omega) (by omega)]
  refine ⟨e1, ?_⟩
  rw [Int64.toInt_sub, e2, Int.bmod_eq_of_le (by omega) (by omega)]
  omega
theorem eq_i64 {a : Int64} {g : Nat} (hg : g < 2 ^ 31) (h : a.toInt = (g : Int)) : a = (nI g).toInt64 := by
  apply Int64.toInt_inj.mp
  rw [h, Int32.toInt_toInt64, nI_toInt hg]
theorem em_low {M : em_M} {above below : Int64} {part : Int32} {g : Nat} (hg : g < 2 ^ 31) : ∀ (q fu : Nat) (a b : Int64) (p : Nat), q < fu → q ≤ 64 → a.toInt = (p : Int) → b.toInt = (q : Int) → p ≤ 2 ^ 41 → 0 < p ∨ 0 < q → Nat.gcd p q = g → es_X12_lowest_17 fu M above below part a b ∧ et_X12_lowest_17 fu M above below part a b = if part = 0 then above / (nI g).toInt64 else below / (nI g).toInt64 := by
  intro q
  induction q using Nat.strongRecOn with
  | ind q ih =>
    intro fu a b p hf hq ha hb hp h0 hgcd
    obtain ⟨fu, rfl⟩ : ∃ f, fu = f + 1 := ⟨fu - 1, by omega⟩
    rw [es_X12_lowest_17, et_X12_lowest_17]
    by_cases z : q = 0
    · subst z
      have bz : b = 0 := by apply Int64.toInt_inj.mp; rw [hb]; rfl
      have c : lg_cmp b 0 = 0 := (lg_cmp_eq _ _).mpr bz
      rw [Nat.gcd_zero_right] at hgcd
      have ea : a = (nI g).toInt64 := eq_i64 hg (by rw [ha, hgcd])
      have na : ¬ a = 0 := by
        intro q
        rw [q] at ha
        have ha : (0 : Int) = p := ha
        omega
      rw [if_pos c, ← ea]
      exact ⟨⟨fun _ => ⟨fun _ => ⟨na, trivial⟩, fun _ => ⟨na, trivial⟩⟩, fun q => absurd c q⟩, rfl⟩
    · have c : ¬ lg_cmp b 0 = 0 := by
        rw [lg_cmp_eq]
        intro q'
        rw [q'] at hb
        have hb : (0 : Int) = q := hb
        omega
      obtain ⟨-, r⟩ := eq_rm (A := a) (B := b) (by rw [ha]; exact hp) (by rw [hb]; omega)
      rw [ha, hb] at r
      have r' : (a - a / b * b).toInt = ((p % q : Nat) : Int) := by rw [r]; rfl
      have lt : p % q < q := Nat.mod_lt _ (by omega)
      obtain ⟨i1, i2⟩ := ih (p % q) lt fu b (a - a / b * b) q (by omega) (by omega) hb r' (by omega) (Or.inl (by omega)) (by rw [Nat.gcd_comm q (p % q), ← Nat.gcd_rec, Nat.gcd_comm q p]; exact hgcd)
      rw [if_neg c]
      exact ⟨⟨fun q => absurd q c, fun _ => i1⟩, i2⟩
theorem ec_low {M : em_M} {A : Int64} {b g : Nat} (part : Int32) (hA : A.toInt.natAbs ≤ 2 ^ 41) (hb : b ≤ 40) (hg : g = Nat.gcd A.toInt.natAbs b) : ∀ (d e fu c : Nat), e + d = b + 1 → d < fu → 2 ≤ e → 1 ≤ c → c ∣ g → c < e → (∀ x, c < x → x < e → ¬ x ∣ g) → et_X11_inLowestTerms_6 fu M A (nI b) part (nI c) (nI e) = if part = 0 then A / (nI g).toInt64 else (nI b / nI g).toInt64 := by
  intro d
  induction d with
  | zero =>
    intro e fu c he hf h2 h1 hc hce hx
    obtain ⟨fu, rfl⟩ : ∃ f, fu = f + 1 := ⟨fu - 1, by omega⟩
    have l : nI b < nI e := nI_lt (by omega) (by omega)
    have gb : 0 < b → g ≤ b := fun z => by rw [hg]; exact Nat.le_of_dvd z (Nat.gcd_dvd_right _ _)
    have b0 : 0 < b := by omega
    have g0 : 0 < g := by rw [hg]; exact Nat.gcd_pos_of_pos_right _ b0
    have cg : c = g := by
      have := Nat.le_of_dvd g0 hc
      by_cases q : c = g
      · exact q
      · exact absurd (Nat.dvd_refl g) (hx g (by omega) (by have := gb b0; omega))
    rw [et_X11_inLowestTerms_6, if_pos l, cg]
  | succ d ih =>
    intro e fu c he hf h2 h1 hc hce hx
    obtain ⟨fu, rfl⟩ : ∃ f, fu = f + 1 := ⟨fu - 1, by omega⟩
    have l : ¬ nI b < nI e := nI_nlt (by omega) (by omega)
    have te : ((nI e).toInt64).toInt = (e : Int) := by rw [Int32.toInt_toInt64, nI_toInt (by omega)]
    obtain ⟨-, r⟩ := eq_rm (A := A) (B := (nI e).toInt64) hA (by rw [te]; omega)
    rw [te] at r
    have c1 : (lg_cmp (A - A / (nI e).toInt64 * (nI e).toInt64) 0 = 0) = (e ∣ A.toInt.natAbs) := by
      rw [lg_cmp_eq]
      refine propext ⟨fun q => ?_, fun q => ?_⟩
      · rw [q] at r
        have r : (0 : Int) = A.toInt.tmod e := r
        exact Int.ofNat_dvd_left.mp (Int.dvd_of_tmod_eq_zero r.symm)
      · apply Int64.toInt_inj.mp
        rw [r]
        exact Int.tmod_eq_zero_of_dvd (Int.ofNat_dvd_left.mpr q)
    have c2 : (nI b - nI b / nI e * nI e = 0) = (e ∣ b) := by
      have q : nI b / nI e = nI (b / e) := by
        apply Int32.toInt_inj.mp
        rw [Int32.toInt_div_of_ne_right, nI_toInt (by omega), nI_toInt (by omega), nI_toInt (by have := Nat.div_le_self b e; omega)]
        · rfl
        · intro z
          have := congrArg Int32.toInt z
          rw [nI_toInt (by omega), show (-1 : Int32).toInt = -1 by decide] at this
          omega
      have dm : b / e * e ≤ b := Nat.div_mul_le_self b e
      rw [q, eq_mul, eq_sub dm, show (0 : Int32) = nI 0 from rfl, nI_eq (by omega) (by omega)]
      refine propext ⟨fun z => ⟨b / e, ?_⟩, fun z => ?_⟩
      · rw [Nat.mul_comm]; omega
      · rw [Nat.div_mul_cancel z]; omega
    have cg : (e ∣ g) = (e ∣ A.toInt.natAbs ∧ e ∣ b) := by
      rw [hg]
      exact propext (Nat.dvd_gcd_iff)
    rw [et_X11_inLowestTerms_6, if_neg l]
    simp only [c1, c2, nI_1]
    have skip : ¬ e ∣ g → et_X11_inLowestTerms_6 fu M A (nI b) part (nI c) (nI (e + 1)) = if part = 0 then A / (nI g).toInt64 else (nI b / nI g).toInt64 := fun n => ih (e + 1) fu c (by omega) (by omega) (by omega) h1 hc (by omega) (fun x x1 x2 => by
      by_cases y : x = e
      · rw [y]; exact n
      · exact hx x x1 (by omega))
    by_cases q1 : e ∣ A.toInt.natAbs
    · by_cases q2 : e ∣ b
      · rw [if_pos q1, if_pos q2]
        exact ih (e + 1) fu e (by omega) (by omega) (by omega) (by omega) (by rw [cg]; exact ⟨q1, q2⟩) (by omega) (fun x x1 x2 => absurd x1 (by omega))
      · rw [if_pos q1, if_neg q2]
        exact skip (by rw [cg]; exact fun z => q2 z.2)
    · rw [if_neg q1]
      exact skip (by rw [cg]; exact fun z => q1 z.1)
theorem ep_low (M M' : em_M) {A : Int64} {b : Nat} (part : Int32) (hA : A.toInt.natAbs ≤ 2 ^ 40) (hb : b ≤ 40) (h1 : 1 ≤ b) : es_X12_lowest M A (nI b).toInt64 part ∧ et_X11_inLowestTerms M' A (nI b) part = et_X12_lowest M A (nI b).toInt64 part := by
  have tb : ((nI b).toInt64).toInt = (b : Int) := by rw [Int32.toInt_toInt64, nI_toInt (by omega)]
  have gb : Nat.gcd A.toInt.natAbs b ≤ b := Nat.le_of_dvd h1 (Nat.gcd_dvd_right _ _)
  have g0 : 0 < Nat.gcd A.toInt.natAbs b := Nat.gcd_pos_of_pos_right _ h1
  have cl : et_X11_inLowestTerms M' A (nI b) part = if part = 0 then A / (nI (Nat.gcd A.toInt.natAbs b)).toInt64 else (nI b / nI (Nat.gcd A.toInt.natAbs b)).toInt64 := by
    rw [et_X11_inLowestTerms, nI_clamp (by omega)]
    exact ec_low part (by omega) hb rfl (b - 1) 2 (b + 1) 1 (by omega) (by omega) (by omega) (by omega) (Nat.one_dvd _) (by omega) (fun x x1 x2 => absurd x1 (by omega))
  have dv : (nI b / nI (Nat.gcd A.toInt.natAbs b)).toInt64 = (nI b).toInt64 / (nI (Nat.gcd A.toInt.natAbs b)).toInt64 := by
    apply Int64.toInt_inj.mp
    have e1 : ((nI b).toInt64 / (nI (Nat.gcd A.toInt.natAbs b)).toInt64).toInt = _ := (eq_rm (by rw [tb]; omega) (by rw [Int32.toInt_toInt64, nI_toInt (by omega)]; omega)).1
    rw [e1, Int32.toInt_toInt64, Int32.toInt_div_of_ne_right, Int32.toInt_toInt64, Int32.toInt_toInt64]
    intro z
    have := congrArg Int32.toInt z
    rw [nI_toInt (by omega), show (-1 : Int32).toInt = -1 by decide] at this
    omega
  rw [cl, dv, es_X12_lowest, et_X12_lowest]
  by_cases p : 0 ≤ lg_cmp A 0
  · have p' : 0 ≤ A.toInt := by
      rw [lg_cmp_ge, Int64.le_iff_toInt_le] at p
      exact p
    obtain ⟨i1, i2⟩ := em_low (M := M) (above := A) (below := (nI b).toInt64) (part := part) (g := Nat.gcd A.toInt.natAbs b) (by omega) b 100 A (nI b).toInt64 A.toInt.natAbs (by omega) (by omega) (by omega) tb (by omega) (Or.inr h1) rfl
    rw [if_pos p]
    exact ⟨⟨fun _ => i1, fun q => absurd p q⟩, i2.symm⟩
  · have p' : A.toInt < 0 := by
      rw [lg_cmp_ge, Int64.le_iff_toInt_le] at p
      have p : ¬ (0 : Int) ≤ A.toInt := p
      omega
    have nA : (-A).toInt = (A.toInt.natAbs : Int) := by
      rw [Int64.toInt_neg, Int.bmod_eq_of_le (by omega) (by omega)]
      omega
    obtain ⟨i1, i2⟩ := em_low (M := M) (above := A) (below := (nI b).toInt64) (part := part) (g := Nat.gcd A.toInt.natAbs b) (by omega) b 100 (-A) (nI b).toInt64 A.toInt.natAbs (by omega) (by omega) nA tb (by omega) (Or.inr h1) rfl
    rw [if_neg p]
    exact ⟨⟨fun q => absurd q p, fun _ => i1⟩, i2.symm⟩
