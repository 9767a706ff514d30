set_option maxRecDepth 100000 in
theorem ec_X11_meanH (l : Launch) (D : em_G) (B : Nat) (M : em_M) (line : Int32) (part : Int32) (hz : ¬ et_X2_has M line = 0 → (et_X11_tryOut (et_X10_copyFrom 79 21 M) line).1 83 3 < (2147483647 : Int32) ∧ 0 ≤ ((et_X11_tryOut (et_X10_copyFrom 79 21 M) line).1 83 3).toInt) : em_C l D B yX11_mean cX11_mean 4 (some .long) 7 165 0 0 false [.ref (B + 0), .int line, .int part] 132 em_R M (some (.long (et_X11_mean M line part).1)) 132 em_R ((et_X11_mean M line part).2) := by
  refine em_C_of RX11 [(0, .ref (B + 0)), (1, .int line), (2, .int part)] (by decide) rfl rfl (Nat.le_of_ble_eq_true rfl) ?_
  rintro X rfl rfl rfl hRm hnL hnm hsz hX hQ
  obtain ⟨t0, hT⟩ : ∃ tz, et_X11_mean M line part = tz := ⟨_, rfl⟩
  rw [hT] at hQ
  refine ez_aload_n hX 0 dX11_mean_0 rfl ?_
  refine ez_getr hX kc_0 rfl (Nat.le_of_ble_eq_true rfl) lc_0 (Nat.le_of_ble_eq_true rfl) inX11 1 rfl rc_0_0 wf_X11_14 dX11_mean_1 ?_
  refine ez_iload_n hX 1 dX11_mean_4 rfl ?_
  refine ez_callV hX (N0 := 0) (As := [.int line]) (st := []) kc_1 (Nat.le_of_ble_eq_true rfl) lc_1 rfl (ec_X2_has _ _ _ M line) (Or.inl rfl) wm_X11_79 wv_X2_has we_X2_has wy_X2_has rfl wd_X2_has wi_X2 (ez_rok hRm rfl) (Nat.le_of_ble_eq_true rfl) dX11_mean_5 ?_
  refine ez_nmI (fun r1 er1 => ?_)
  refine ez_if_eq hX 20 dX11_mean_8 (by decide) (fun c2 => ?_) (fun c2 => ?_)
  · -- c2 jump
    refine ez_ldc2 hX wl_X11_108 dX11_mean_20 ?_
    have ht : t0 = ((-9223372036854775808 : Int64), M) := hT.symm.trans (by simp only [et_X11_mean, er1, if_pos c2])
    subst ht
    exact ez_lret hX hQ dX11_mean_23 rfl rfl
  · -- c2 on
    refine ez_iload_n hX 2 dX11_mean_11 rfl ?_
    refine ez_if_lt hX 20 dX11_mean_12 (by decide) (fun c3 => ?_) (fun c3 => ?_)
    · -- c3 jump
      refine ez_ldc2 hX wl_X11_108 dX11_mean_20 ?_
      have ht : t0 = ((-9223372036854775808 : Int64), M) := hT.symm.trans (by simp only [et_X11_mean, er1, if_neg c2, if_pos c3])
      subst ht
      exact ez_lret hX hQ dX11_mean_23 rfl rfl
    · -- c3 on
      refine ez_iload_n hX 2 dX11_mean_15 rfl ?_
      refine ez_iconst hX (1 : Int32) dX11_mean_16 (by decide) ?_
      refine ez_icmp_le hX 24 dX11_mean_17 (by decide) (fun c4 => ?_) (fun c4 => ?_)
      · -- c4 jump
        refine ez_aload_n hX 0 dX11_mean_24 rfl ?_
        refine ez_getr hX kc_0 rfl (Nat.le_of_ble_eq_true rfl) lc_0 (Nat.le_of_ble_eq_true rfl) inX11 79 rfl rc_0_5 wf_X11_40 dX11_mean_25 ?_
        refine ez_aload_n hX 0 dX11_mean_28 rfl ?_
        refine ez_getr hX kc_0 rfl (Nat.le_of_ble_eq_true rfl) lc_0 (Nat.le_of_ble_eq_true rfl) inX11 11 rfl rc_0_2 wf_X11_30 dX11_mean_29 ?_
        refine ez_getr hX kc_11 rfl (Nat.le_of_ble_eq_true rfl) lc_11 (Nat.le_of_ble_eq_true rfl) inX1 21 rfl rc_11_0 wf_X11_90 dX11_mean_32 ?_
        refine ez_callV hX (N0 := 0) (As := [.ref (ez_B X + 21)]) (st := []) kc_79 (Nat.le_of_ble_eq_true rfl) lc_79 rfl (ec_X10_copyFrom _ _ _ 79 ew_79 21 ew_21 M) (Or.inl rfl) wm_X11_136 wv_X10_copyFrom we_X10_copyFrom wy_X10_copyFrom rfl wd_X10_copyFrom wi_X10 (ez_rok hRm rfl) (Nat.le_of_ble_eq_true rfl) dX11_mean_35 ?_
        refine ez_nmM (fun M5 eM5 => ?_)
        refine ez_aload_n hX 0 dX11_mean_38 rfl ?_
        refine ez_iload_n hX 1 dX11_mean_39 rfl ?_
        refine ez_callV hX (N0 := 0) (As := [.int line]) (st := []) kc_0 (Nat.le_of_ble_eq_true rfl) lc_0 rfl (ec_X11_tryOut _ _ _ M5 line) (Or.inl rfl) wm_X11_140 wv_X11_tryOut we_X11_tryOut wy_X11_tryOut rfl wd_X11_tryOut wi_X11 (ez_rok hRm rfl) (Nat.le_of_ble_eq_true rfl) dX11_mean_40 ?_
        refine ez_nmM (fun M6 eM6 => ?_)
        refine ez_astore_n hX [(3, .ref (ez_B X + 83)), (0, .ref (ez_B X + 0)), (1, .int line), (2, .int part)] dX11_mean_43 (ez_lt hnL rfl) rfl ?_
        refine ez_aload_n hX 0 dX11_mean_44 rfl ?_
        refine ez_geti hX kc_83 rfl (Nat.le_of_ble_eq_true rfl) lc_83 (Nat.le_of_ble_eq_true rfl) inX4 rfl wf_X11_175 dX11_mean_45 ?_
        refine ez_if_ne hX 57 dX11_mean_48 (by decide) (fun c7 => ?_) (fun c7 => ?_)
        · -- c7 jump
          refine ez_aload_n hX 0 dX11_mean_57 rfl ?_
          refine ez_callV hX (N0 := 0) (As := []) (st := []) kc_83 (Nat.le_of_ble_eq_true rfl) lc_83 rfl (ec_X4_sum _ _ _ 83 eo_83 M6) (Or.inl rfl) wm_X11_176 wv_X4_sum we_X4_sum wy_X4_sum rfl wd_X4_sum wi_X4 (ez_rok hRm rfl) (Nat.le_of_ble_eq_true rfl) dX11_mean_58 ?_
          refine ez_nmL (fun r8 er8 => ?_)
          refine ez_aload_n hX 0 dX11_mean_61 rfl ?_
          refine ez_geti hX kc_83 rfl (Nat.le_of_ble_eq_true rfl) lc_83 (Nat.le_of_ble_eq_true rfl) inX4 rfl wf_X11_175 dX11_mean_62 ?_
          refine ez_iload_n hX 3 dX11_mean_65 rfl ?_
          refine ez_callS hX (N0 := 0) (As := [.long r8, .int (M6.1 83 3), .int part]) (st := []) (ec_X11_inLowestTerms _ _ _ M6 r8 (M6.1 83 3) part (by rw [← eM6, ← eM5]; exact (hz (fun z => c2 (er1.symm.trans z))).1) (ez_pos1 c7 (by rw [← eM6, ← eM5]; exact (hz (fun z => c2 (er1.symm.trans z))).2))) (Or.inl rfl) wm_X11_171 ws_X11_inLowestTerms wy_X11_inLowestTerms rfl wd_X11_inLowestTerms wi_X11 (ez_rok hRm rfl) (Nat.le_of_ble_eq_true rfl) dX11_mean_66 ?_
          refine ez_nmL (fun r9 er9 => ?_)
          have ht : t0 = (r9, M6) := hT.symm.trans (by simp only [et_X11_mean, er1, if_neg c2, if_neg c3, if_pos c4, eM5, eM6, if_neg c7, er8, er9])
          subst ht
          exact ez_lret hX hQ dX11_mean_69 rfl rfl
        · -- c7 on
          refine ez_ldc2 hX wl_X11_108 dX11_mean_51 ?_
          refine ez_goto hX 69 dX11_mean_54 (by decide) ?_
          have ht : t0 = ((-9223372036854775808 : Int64), M6) := hT.symm.trans (by simp only [et_X11_mean, er1, if_neg c2, if_neg c3, if_pos c4, eM5, eM6, if_pos c7])
          subst ht
          exact ez_lret hX hQ dX11_mean_69 rfl rfl
      · -- c4 on
        refine ez_ldc2 hX wl_X11_108 dX11_mean_20 ?_
        have ht : t0 = ((-9223372036854775808 : Int64), M) := hT.symm.trans (by simp only [et_X11_mean, er1, if_neg c2, if_neg c3, if_neg c4])
        subst ht
        exact ez_lret hX hQ dX11_mean_23 rfl rfl

theorem ep_meanH {M : em_M} (hI : ep_Inv M) (line : Int32) : ¬ et_X2_has M line = 0 → (et_X11_tryOut (et_X10_copyFrom 79 21 M) line).1 83 3 < (2147483647 : Int32) ∧ 0 ≤ ((et_X11_tryOut (et_X10_copyFrom 79 21 M) line).1 83 3).toInt := by
  intro q
  obtain ⟨φ, D, u, nl, h⟩ := hI
  obtain ⟨l, hl, rfl⟩ := eq_lineN h.ln q
  obtain ⟨-, -, t3, -⟩ := ep_on1 h hl
  obtain ⟨z, z1, z2, -⟩ := t3.sz
  have e : (et_X11_tryOut (et_X10_copyFrom 79 21 M) (nI l)).1 83 3 = nI z := z2
  rw [e]
  refine ⟨?_, ?_⟩
  · rw [Int32.lt_iff_toInt_lt, nI_toInt (by omega)]
    show (z : Int) < 2147483647
    omega
  · rw [nI_toInt (by omega)]
    omega
