def et_tp (tape : Int32) : Nat := 106 + 2 * tape.toNatClampNeg
theorem et_tpi {tape : Int32} (h1 : ¬ tape < 0) (h2 : ¬ (6 : Int32) ≤ tape) : vp_in tape 6 := by
  rw [Int32.lt_iff_toInt_lt, show (0 : Int32).toInt = 0 by decide] at h1
  rw [Int32.le_iff_toInt_le, show (6 : Int32).toInt = 6 by decide] at h2
  rw [vp_in_iff]
  omega
theorem et_tpn {tape : Int32} (h1 : ¬ tape < 0) (h2 : ¬ (6 : Int32) ≤ tape) : tape.toNatClampNeg < 6 := Nat.not_le.mp fun q => et_tpi h1 h2 (Or.inr q)
theorem et_tpt {tape : Int32} (h1 : ¬ tape < 0) (h2 : ¬ (6 : Int32) ≤ tape) : et (et_tp tape) := by
  have h := et_tpn h1 h2
  unfold et et_tp
  omega
theorem et_tpr {tape : Int32} (h1 : ¬ tape < 0) (h2 : ¬ (6 : Int32) ≤ tape) : em_R 105 tape.toNatClampNeg = some (et_tp tape) := by
  have h := et_tpn h1 h2
  unfold et_tp
  generalize tape.toNatClampNeg = j at h
  match j, h with
  | 0, _ => rfl
  | 1, _ => rfl
  | 2, _ => rfl
  | 3, _ => rfl
  | 4, _ => rfl
  | 5, _ => rfl
  | n + 6, h => exact absurd h (by omega)

set_option maxHeartbeats 4000000 in
set_option maxRecDepth 100000 in
theorem ec_X11_tapeOf_R (l : Launch) (D : em_G) (B : Nat) (M : em_M) (tape : Int32) (h1 : ¬ tape < 0) (h2 : ¬ (6 : Int32) ≤ tape) : em_C l D B yX11_tapeOf cX11_tapeOf 2 (some (.object "EscapeFrames$Tape")) 0 0 0 0 false [.ref (B + 0), .int tape] 132 em_R M (some (.ref (B + et_tp tape))) 132 em_R M := by
  refine em_C_of RX11 [(0, .ref (B + 0)), (1, .int tape)] (by decide) rfl rfl (Nat.le_of_ble_eq_true rfl) ?_
  rintro X rfl rfl rfl hRm hnL hnm hsz hX hQ
  refine ez_iload_n hX 1 dX11_tapeOf_0 rfl ?_
  refine ez_if_lt hX 22 dX11_tapeOf_1 (by decide) (fun c => absurd c h1) (fun _ => ?_)
  refine ez_iload_n hX 1 dX11_tapeOf_4 rfl ?_
  refine ez_aload_n hX 0 dX11_tapeOf_5 rfl ?_
  refine ez_getr hX kc_0 rfl (Nat.le_of_ble_eq_true rfl) lc_0 (Nat.le_of_ble_eq_true rfl) inX11 105 rfl rc_0_8 wf_X11_62 dX11_tapeOf_6 ?_
  refine ez_alenT hX kc_105 lc_105 (6 : Int32) (by decide) dX11_tapeOf_9 ?_
  refine ez_icmp_ge hX 22 dX11_tapeOf_10 (by decide) (fun c => absurd c h2) (fun _ => ?_)
  refine ez_aload_n hX 0 dX11_tapeOf_13 rfl ?_
  refine ez_getr hX kc_0 rfl (Nat.le_of_ble_eq_true rfl) lc_0 (Nat.le_of_ble_eq_true rfl) inX11 105 rfl rc_0_8 wf_X11_62 dX11_tapeOf_14 ?_
  refine ez_iload_n hX 1 dX11_tapeOf_17 rfl ?_
  refine ez_aald hX kc_105 lc_105 (et_tp tape) (et_tpi h1 h2) (et_tpr h1 h2) dX11_tapeOf_18 ?_
  refine ez_goto hX 23 dX11_tapeOf_19 (by decide) ?_
  exact ez_aret hX hQ dX11_tapeOf_23 (Or.inl ⟨_, rfl⟩) (Or.inr ⟨_, rfl⟩) rfl rfl
set_option maxHeartbeats 4000000 in
set_option maxRecDepth 100000 in
theorem ec_X11_tapeOf_N (l : Launch) (D : em_G) (B : Nat) (M : em_M) (tape : Int32) (h : tape < 0 ∨ (6 : Int32) ≤ tape) : em_C l D B yX11_tapeOf cX11_tapeOf 2 (some (.object "EscapeFrames$Tape")) 0 0 0 0 false [.ref (B + 0), .int tape] 132 em_R M (some .null) 132 em_R M := by
  refine em_C_of RX11 [(0, .ref (B + 0)), (1, .int tape)] (by decide) rfl rfl (Nat.le_of_ble_eq_true rfl) ?_
  rintro X rfl rfl rfl hRm hnL hnm hsz hX hQ
  have fin : ez_Z X 132 em_R M 0 0 22 [(0, .ref (ez_B X + 0)), (1, .int tape)] [] := by
    refine ez_null hX dX11_tapeOf_22 ?_
    exact ez_aret hX hQ dX11_tapeOf_23 (Or.inl ⟨_, rfl⟩) (Or.inl rfl) rfl rfl
  refine ez_iload_n hX 1 dX11_tapeOf_0 rfl ?_
  refine ez_if_lt hX 22 dX11_tapeOf_1 (by decide) (fun c => fin) (fun h1 => ?_)
  refine ez_iload_n hX 1 dX11_tapeOf_4 rfl ?_
  refine ez_aload_n hX 0 dX11_tapeOf_5 rfl ?_
  refine ez_getr hX kc_0 rfl (Nat.le_of_ble_eq_true rfl) lc_0 (Nat.le_of_ble_eq_true rfl) inX11 105 rfl rc_0_8 wf_X11_62 dX11_tapeOf_6 ?_
  refine ez_alenT hX kc_105 lc_105 (6 : Int32) (by decide) dX11_tapeOf_9 ?_
  refine ez_icmp_ge hX 22 dX11_tapeOf_10 (by decide) (fun c => fin) (fun h2 => ?_)
  exact absurd h (fun q => q.elim h1 h2)

def et_X11_feed  (M : em_M) (sign : Int32) : Int32 × em_M :=
  (if sign < 0 then ((-2 : Int32), M) else (if sign ≤ (127 : Int32) then let q5 := et_X5_append M sign
  let r3 := q5.1
  let M4 := q5.2
  (r3, M4) else ((-2 : Int32), M)))
set_option maxHeartbeats 4000000 in
set_option maxRecDepth 100000 in
theorem ec_X11_feed (l : Launch) (D : em_G) (B : Nat) (M : em_M) (sign : Int32) : em_C l D B yX11_feed cX11_feed 2 (some .int) 2 43 0 0 false [.ref (B + 0), .int sign] 132 em_R M (some (.int (et_X11_feed M sign).1)) 132 em_R ((et_X11_feed M sign).2) := by
  refine em_C_of RX11 [(0, .ref (B + 0)), (1, .int sign)] (by decide) rfl rfl (Nat.le_of_ble_eq_true rfl) ?_
  rintro X rfl rfl rfl hRm hnL hnm hsz hX hQ
  obtain ⟨t0, hT⟩ : ∃ tz, et_X11_feed M sign = tz := ⟨_, rfl⟩
  rw [hT] at hQ
  refine ez_iload_n hX 1 dX11_feed_0 rfl ?_
  refine ez_if_lt hX 10 dX11_feed_1 (by decide) (fun c1 => ?_) (fun c1 => ?_)
  · -- c1 jump
    refine ez_bipush hX (-2 : Int32) dX11_feed_10 (by decide) ?_
    have ht : t0 = ((-2 : Int32), M) := hT.symm.trans (by simp only [et_X11_feed, if_pos c1])
    subst ht
    exact ez_iret hX hQ dX11_feed_12 rfl rfl
  · -- c1 on
    refine ez_iload_n hX 1 dX11_feed_4 rfl ?_
    refine ez_bipush hX (127 : Int32) dX11_feed_5 (by decide) ?_
    refine ez_icmp_le hX 13 dX11_feed_7 (by decide) (fun c2 => ?_) (fun c2 => ?_)
    · -- c2 jump
      refine ez_aload_n hX 0 dX11_feed_13 rfl ?_
      refine ez_getr hX kc_0 rfl (Nat.le_of_ble_eq_true rfl) lc_0 (Nat.le_of_ble_eq_true rfl) inX11 9 rfl rc_0_1 wf_X11_23 dX11_feed_14 ?_
      refine ez_iload_n hX 1 dX11_feed_17 rfl ?_
      refine ez_callV hX (N0 := 0) (As := [.int sign]) (st := []) kc_9 (Nat.le_of_ble_eq_true rfl) lc_9 rfl (ec_X5_append _ _ _ M sign) (Or.inl rfl) wm_X11_67 wv_X5_append we_X5_append wy_X5_append rfl wd_X5_append wi_X5 (ez_rok hRm rfl) (Nat.le_of_ble_eq_true rfl) dX11_feed_18 ?_
      refine ez_nmIM (fun r3 M4 eM4 => ?_)
      have ht : t0 = (r3, M4) := hT.symm.trans (by simp only [et_X11_feed, if_neg c1, if_pos c2, eM4])
      subst ht
      exact ez_iret hX hQ dX11_feed_21 rfl rfl
    · -- c2 on
      refine ez_bipush hX (-2 : Int32) dX11_feed_10 (by decide) ?_
      have ht : t0 = ((-2 : Int32), M) := hT.symm.trans (by simp only [et_X11_feed, if_neg c1, if_neg c2])
      subst ht
      exact ez_iret hX hQ dX11_feed_12 rfl rfl

def et_X11_line  (M : em_M) : Int32 × em_M :=
  (if (M.1 1 0) < (8 : Int32) then let q4 := et_X5_take M
  let r2 := q4.1
  let M3 := q4.2
  (r2, M3) else ((-4 : Int32), M))
set_option maxHeartbeats 4000000 in
set_option maxRecDepth 100000 in
theorem ec_X11_line (l : Launch) (D : em_G) (B : Nat) (M : em_M) : em_C l D B yX11_line cX11_line 1 (some .int) 66 1646 0 0 false [.ref (B + 0)] 132 em_R M (some (.int (et_X11_line M).1)) 132 em_R ((et_X11_line M).2) := by
  refine em_C_of RX11 [(0, .ref (B + 0))] (by decide) rfl rfl (Nat.le_of_ble_eq_true rfl) ?_
  rintro X rfl rfl rfl hRm hnL hnm hsz hX hQ
  obtain ⟨t0, hT⟩ : ∃ tz, et_X11_line M = tz := ⟨_, rfl⟩
  rw [hT] at hQ
  refine ez_aload_n hX 0 dX11_line_0 rfl ?_
  refine ez_getr hX kc_0 rfl (Nat.le_of_ble_eq_true rfl) lc_0 (Nat.le_of_ble_eq_true rfl) inX11 1 rfl rc_0_0 wf_X11_14 dX11_line_1 ?_
  refine ez_geti hX kc_1 rfl (Nat.le_of_ble_eq_true rfl) lc_1 (Nat.le_of_ble_eq_true rfl) inX2 rfl wf_X11_71 dX11_line_4 ?_
  refine ez_bipush hX (8 : Int32) dX11_line_7 (by decide) ?_
  refine ez_icmp_lt hX 17 dX11_line_9 (by decide) (fun c1 => ?_) (fun c1 => ?_)
  · -- c1 jump
    refine ez_aload_n hX 0 dX11_line_17 rfl ?_
    refine ez_getr hX kc_0 rfl (Nat.le_of_ble_eq_true rfl) lc_0 (Nat.le_of_ble_eq_true rfl) inX11 9 rfl rc_0_1 wf_X11_23 dX11_line_18 ?_
    refine ez_callV hX (N0 := 0) (As := []) (st := []) kc_9 (Nat.le_of_ble_eq_true rfl) lc_9 rfl (ec_X5_take _ _ _ M) (Or.inl rfl) wm_X11_75 wv_X5_take we_X5_take wy_X5_take rfl wd_X5_take wi_X5 (ez_rok hRm rfl) (Nat.le_of_ble_eq_true rfl) dX11_line_21 ?_
    refine ez_nmIM (fun r2 M3 eM3 => ?_)
    have ht : t0 = (r2, M3) := hT.symm.trans (by simp only [et_X11_line, if_pos c1, eM3])
    subst ht
    exact ez_iret hX hQ dX11_line_24 rfl rfl
  · -- c1 on
    refine ez_bipush hX (-4 : Int32) dX11_line_12 (by decide) ?_
    refine ez_goto hX 24 dX11_line_14 (by decide) ?_
    have ht : t0 = ((-4 : Int32), M) := hT.symm.trans (by simp only [et_X11_line, if_neg c1])
    subst ht
    exact ez_iret hX hQ dX11_line_24 rfl rfl

def et_X11_of  (M : em_M) (line : Int32) (what : Int32) : Int32 :=
  let r1 := et_X2_has M line
  (if r1 = 0 then (-1 : Int32) else (if what < 0 then (-1 : Int32) else (if what < (4 : Int32) then let r5 := et_X2_fact M line what
  r5 else (-1 : Int32))))
set_option maxHeartbeats 4000000 in
set_option maxRecDepth 100000 in
theorem ec_X11_of (l : Launch) (D : em_G) (B : Nat) (M : em_M) (line : Int32) (what : Int32) : em_C l D B yX11_of cX11_of 3 (some .int) 2 43 0 0 false [.ref (B + 0), .int line, .int what] 132 em_R M (some (.int (et_X11_of M line what))) 132 em_R (M) := by
  refine em_C_of RX11 [(0, .ref (B + 0)), (1, .int line), (2, .int what)] (by decide) rfl rfl (Nat.le_of_ble_eq_true rfl) ?_
  rintro X rfl rfl rfl hRm hnL hnm hsz hX hQ
  obtain ⟨t0, hT⟩ : ∃ tz, et_X11_of M line what = tz := ⟨_, rfl⟩
  rw [hT] at hQ
  refine ez_aload_n hX 0 dX11_of_0 rfl ?_
  refine ez_getr hX kc_0 rfl (Nat.le_of_ble_eq_true rfl) lc_0 (Nat.le_of_ble_eq_true rfl) inX11 1 rfl rc_0_0 wf_X11_14 dX11_of_1 ?_
  refine ez_iload_n hX 1 dX11_of_4 rfl ?_
  refine ez_callV hX (N0 := 0) (As := [.int line]) (st := []) kc_1 (Nat.le_of_ble_eq_true rfl) lc_1 rfl (ec_X2_has _ _ _ M line) (Or.inl rfl) wm_X11_79 wv_X2_has we_X2_has wy_X2_has rfl wd_X2_has wi_X2 (ez_rok hRm rfl) (Nat.le_of_ble_eq_true rfl) dX11_of_5 ?_
  refine ez_nmI (fun r1 er1 => ?_)
  refine ez_if_eq hX 20 dX11_of_8 (by decide) (fun c2 => ?_) (fun c2 => ?_)
  · -- c2 jump
    refine ez_iconst hX (-1 : Int32) dX11_of_20 (by decide) ?_
    have ht : t0 = (-1 : Int32) := hT.symm.trans (by simp only [et_X11_of, er1, if_pos c2])
    subst ht
    exact ez_iret hX hQ dX11_of_21 rfl rfl
  · -- c2 on
    refine ez_iload_n hX 2 dX11_of_11 rfl ?_
    refine ez_if_lt hX 20 dX11_of_12 (by decide) (fun c3 => ?_) (fun c3 => ?_)
    · -- c3 jump
      refine ez_iconst hX (-1 : Int32) dX11_of_20 (by decide) ?_
      have ht : t0 = (-1 : Int32) := hT.symm.trans (by simp only [et_X11_of, er1, if_neg c2, if_pos c3])
      subst ht
      exact ez_iret hX hQ dX11_of_21 rfl rfl
    · -- c3 on
      refine ez_iload_n hX 2 dX11_of_15 rfl ?_
      refine ez_iconst hX (4 : Int32) dX11_of_16 (by decide) ?_
      refine ez_icmp_lt hX 22 dX11_of_17 (by decide) (fun c4 => ?_) (fun c4 => ?_)
      · -- c4 jump
        refine ez_aload_n hX 0 dX11_of_22 rfl ?_
        refine ez_getr hX kc_0 rfl (Nat.le_of_ble_eq_true rfl) lc_0 (Nat.le_of_ble_eq_true rfl) inX11 1 rfl rc_0_0 wf_X11_14 dX11_of_23 ?_
        refine ez_iload_n hX 1 dX11_of_26 rfl ?_
        refine ez_iload_n hX 2 dX11_of_27 rfl ?_
        refine ez_callV hX (N0 := 0) (As := [.int line, .int what]) (st := []) kc_1 (Nat.le_of_ble_eq_true rfl) lc_1 rfl (ec_X2_fact _ _ _ M line what) (Or.inl rfl) wm_X11_83 wv_X2_fact we_X2_fact wy_X2_fact rfl wd_X2_fact wi_X2 (ez_rok hRm rfl) (Nat.le_of_ble_eq_true rfl) dX11_of_28 ?_
        refine ez_nmI (fun r5 er5 => ?_)
        have ht : t0 = r5 := hT.symm.trans (by simp only [et_X11_of, er1, if_neg c2, if_neg c3, if_pos c4, er5])
        subst ht
        exact ez_iret hX hQ dX11_of_31 rfl rfl
      · -- c4 on
        refine ez_iconst hX (-1 : Int32) dX11_of_20 (by decide) ?_
        have ht : t0 = (-1 : Int32) := hT.symm.trans (by simp only [et_X11_of, er1, if_neg c2, if_neg c3, if_neg c4])
        subst ht
        exact ez_iret hX hQ dX11_of_21 rfl rfl

def et_X11_define  (M : em_M) (function : Int32) (line : Int32) : Int32 × em_M :=
  let r1 := et_X11_isFunction M function
  (if r1 = 0 then ((-1 : Int32), M) else (if line = (-1 : Int32) then let r4 := et_X11_at 23 3 M function
  let M5 := et_X11_put 23 3 M function (-5 : Int32)
  (r4, M5) else let r6 := et_X2_has M line
  (if r6 = 0 then ((-1 : Int32), M) else let r8 := et_X11_at 23 3 M function
  let M9 := et_X11_put 23 3 M function line
  (r8, M9))))
set_option maxHeartbeats 4000000 in
set_option maxRecDepth 100000 in
theorem ec_X11_define (l : Launch) (D : em_G) (B : Nat) (M : em_M) (function : Int32) (line : Int32) : em_C l D B yX11_define cX11_define 4 (some .int) 1 22 0 0 false [.ref (B + 0), .int function, .int line] 132 em_R M (some (.int (et_X11_define M function line).1)) 132 em_R ((et_X11_define M function line).2) := by
  refine em_C_of RX11 [(0, .ref (B + 0)), (1, .int function), (2, .int line)] (by decide) rfl rfl (Nat.le_of_ble_eq_true rfl) ?_
  rintro X rfl rfl rfl hRm hnL hnm hsz hX hQ
  obtain ⟨t0, hT⟩ : ∃ tz, et_X11_define M function line = tz := ⟨_, rfl⟩
  rw [hT] at hQ
  refine ez_iload_n hX 1 dX11_define_0 rfl ?_
  refine ez_callS hX (N0 := 0) (As := [.int function]) (st := []) (ec_X11_isFunction _ _ _ M function) (Or.inl rfl) wm_X11_87 ws_X11_isFunction wy_X11_isFunction rfl wd_X11_isFunction wi_X11 (ez_rok hRm rfl) (Nat.le_of_ble_eq_true rfl) dX11_define_1 ?_
  refine ez_nmI (fun r1 er1 => ?_)
  refine ez_if_eq hX 23 dX11_define_4 (by decide) (fun c2 => ?_) (fun c2 => ?_)
  · -- c2 jump
    refine ez_iconst hX (-1 : Int32) dX11_define_23 (by decide) ?_
    have ht : t0 = ((-1 : Int32), M) := hT.symm.trans (by simp only [et_X11_define, er1, if_pos c2])
    subst ht
    exact ez_iret hX hQ dX11_define_24 rfl rfl
  · -- c2 on
    refine ez_iload_n hX 2 dX11_define_7 rfl ?_
    refine ez_iconst hX (-1 : Int32) dX11_define_8 (by decide) ?_
    refine ez_icmp_eq hX 25 dX11_define_9 (by decide) (fun c3 => ?_) (fun c3 => ?_)
    · -- c3 jump
      refine ez_aload_n hX 0 dX11_define_25 rfl ?_
      refine ez_getr hX kc_0 rfl (Nat.le_of_ble_eq_true rfl) lc_0 (Nat.le_of_ble_eq_true rfl) inX11 11 rfl rc_0_2 wf_X11_30 dX11_define_26 ?_
      refine ez_getr hX kc_11 rfl (Nat.le_of_ble_eq_true rfl) lc_11 (Nat.le_of_ble_eq_true rfl) inX1 21 rfl rc_11_0 wf_X11_90 dX11_define_29 ?_
      refine ez_getr hX kc_21 rfl (Nat.le_of_ble_eq_true rfl) lc_21 (Nat.le_of_ble_eq_true rfl) inX10 23 rfl rc_21_1 wf_X11_93 dX11_define_32 ?_
      refine ez_iload_n hX 1 dX11_define_35 rfl ?_
      refine ez_callS hX (N0 := 0) (As := [.ref (ez_B X + 23), .int function]) (st := []) (ec_X11_at _ _ _ 23 3 kc_23 lc_23 M function) (Or.inl rfl) wm_X11_97 ws_X11_at wy_X11_at rfl wd_X11_at wi_X11 (ez_rok hRm rfl) (Nat.le_of_ble_eq_true rfl) dX11_define_36 ?_
      refine ez_nmI (fun r4 er4 => ?_)
      refine ez_istore_n hX [(3, .int r4), (0, .ref (ez_B X + 0)), (1, .int function), (2, .int line)] dX11_define_39 (ez_lt hnL rfl) rfl ?_
      refine ez_aload_n hX 1 dX11_define_40 rfl ?_
      refine ez_getr hX kc_0 rfl (Nat.le_of_ble_eq_true rfl) lc_0 (Nat.le_of_ble_eq_true rfl) inX11 11 rfl rc_0_2 wf_X11_30 dX11_define_41 ?_
      refine ez_getr hX kc_11 rfl (Nat.le_of_ble_eq_true rfl) lc_11 (Nat.le_of_ble_eq_true rfl) inX1 21 rfl rc_11_0 wf_X11_90 dX11_define_44 ?_
      refine ez_getr hX kc_21 rfl (Nat.le_of_ble_eq_true rfl) lc_21 (Nat.le_of_ble_eq_true rfl) inX10 23 rfl rc_21_1 wf_X11_93 dX11_define_47 ?_
      refine ez_iload_n hX 2 dX11_define_50 rfl ?_
      refine ez_iload_n hX 3 dX11_define_51 rfl ?_
      refine ez_iconst hX (-1 : Int32) dX11_define_52 (by decide) ?_
      refine ez_icmp_ne hX 61 dX11_define_53 (by decide) (fun c => absurd (by rw [c3] <;> decide) c) (fun _ => ?_)
      refine ez_bipush hX (-5 : Int32) dX11_define_56 (by decide) ?_
      refine ez_goto hX 62 dX11_define_58 (by decide) ?_
      refine ez_callS hX (N0 := 0) (As := [.ref (ez_B X + 23), .int function, .int (-5 : Int32)]) (st := []) (ec_X11_put _ _ _ 23 3 kc_23 lc_23 M function (-5 : Int32)) (Or.inl rfl) wm_X11_101 ws_X11_put wy_X11_put rfl wd_X11_put wi_X11 (ez_rok hRm rfl) (Nat.le_of_ble_eq_true rfl) dX11_define_62 ?_
      refine ez_nmM (fun M5 eM5 => ?_)
      refine ez_iload_n hX 0 dX11_define_65 rfl ?_
      have ht : t0 = (r4, M5) := hT.symm.trans (by simp only [et_X11_define, er1, if_neg c2, if_pos c3, er4, eM5])
      subst ht
      exact ez_iret hX hQ dX11_define_66 rfl rfl
    · -- c3 on
      refine ez_aload_n hX 0 dX11_define_12 rfl ?_
      refine ez_getr hX kc_0 rfl (Nat.le_of_ble_eq_true rfl) lc_0 (Nat.le_of_ble_eq_true rfl) inX11 1 rfl rc_0_0 wf_X11_14 dX11_define_13 ?_
      refine ez_iload_n hX 2 dX11_define_16 rfl ?_
      refine ez_callV hX (N0 := 0) (As := [.int line]) (st := []) kc_1 (Nat.le_of_ble_eq_true rfl) lc_1 rfl (ec_X2_has _ _ _ M line) (Or.inl rfl) wm_X11_79 wv_X2_has we_X2_has wy_X2_has rfl wd_X2_has wi_X2 (ez_rok hRm rfl) (Nat.le_of_ble_eq_true rfl) dX11_define_17 ?_
      refine ez_nmI (fun r6 er6 => ?_)
      refine ez_if_ne hX 25 dX11_define_20 (by decide) (fun c7 => ?_) (fun c7 => ?_)
      · -- c7 jump
        refine ez_aload_n hX 0 dX11_define_25 rfl ?_
        refine ez_getr hX kc_0 rfl (Nat.le_of_ble_eq_true rfl) lc_0 (Nat.le_of_ble_eq_true rfl) inX11 11 rfl rc_0_2 wf_X11_30 dX11_define_26 ?_
        refine ez_getr hX kc_11 rfl (Nat.le_of_ble_eq_true rfl) lc_11 (Nat.le_of_ble_eq_true rfl) inX1 21 rfl rc_11_0 wf_X11_90 dX11_define_29 ?_
        refine ez_getr hX kc_21 rfl (Nat.le_of_ble_eq_true rfl) lc_21 (Nat.le_of_ble_eq_true rfl) inX10 23 rfl rc_21_1 wf_X11_93 dX11_define_32 ?_
        refine ez_iload_n hX 1 dX11_define_35 rfl ?_
        refine ez_callS hX (N0 := 0) (As := [.ref (ez_B X + 23), .int function]) (st := []) (ec_X11_at _ _ _ 23 3 kc_23 lc_23 M function) (Or.inl rfl) wm_X11_97 ws_X11_at wy_X11_at rfl wd_X11_at wi_X11 (ez_rok hRm rfl) (Nat.le_of_ble_eq_true rfl) dX11_define_36 ?_
        refine ez_nmI (fun r8 er8 => ?_)
        refine ez_istore_n hX [(3, .int r8), (0, .ref (ez_B X + 0)), (1, .int function), (2, .int line)] dX11_define_39 (ez_lt hnL rfl) rfl ?_
        refine ez_aload_n hX 1 dX11_define_40 rfl ?_
        refine ez_getr hX kc_0 rfl (Nat.le_of_ble_eq_true rfl) lc_0 (Nat.le_of_ble_eq_true rfl) inX11 11 rfl rc_0_2 wf_X11_30 dX11_define_41 ?_
        refine ez_getr hX kc_11 rfl (Nat.le_of_ble_eq_true rfl) lc_11 (Nat.le_of_ble_eq_true rfl) inX1 21 rfl rc_11_0 wf_X11_90 dX11_define_44 ?_
        refine ez_getr hX kc_21 rfl (Nat.le_of_ble_eq_true rfl) lc_21 (Nat.le_of_ble_eq_true rfl) inX10 23 rfl rc_21_1 wf_X11_93 dX11_define_47 ?_
        refine ez_iload_n hX 2 dX11_define_50 rfl ?_
        refine ez_iload_n hX 3 dX11_define_51 rfl ?_
        refine ez_iconst hX (-1 : Int32) dX11_define_52 (by decide) ?_
        refine ez_icmp_ne hX 61 dX11_define_53 (by decide) (fun _ => ?_) (fun c => absurd c c3)
        refine ez_iload_n hX 3 dX11_define_61 rfl ?_
        refine ez_callS hX (N0 := 0) (As := [.ref (ez_B X + 23), .int function, .int line]) (st := []) (ec_X11_put _ _ _ 23 3 kc_23 lc_23 M function line) (Or.inl rfl) wm_X11_101 ws_X11_put wy_X11_put rfl wd_X11_put wi_X11 (ez_rok hRm rfl) (Nat.le_of_ble_eq_true rfl) dX11_define_62 ?_
        refine ez_nmM (fun M9 eM9 => ?_)
        refine ez_iload_n hX 0 dX11_define_65 rfl ?_
        have ht : t0 = (r8, M9) := hT.symm.trans (by simp only [et_X11_define, er1, if_neg c2, if_neg c3, er6, if_neg c7, er8, eM9])
        subst ht
        exact ez_iret hX hQ dX11_define_66 rfl rfl
      · -- c7 on
        refine ez_iconst hX (-1 : Int32) dX11_define_23 (by decide) ?_
        have ht : t0 = ((-1 : Int32), M) := hT.symm.trans (by simp only [et_X11_define, er1, if_neg c2, if_neg c3, er6, if_pos c7])
        subst ht
        exact ez_iret hX hQ dX11_define_24 rfl rfl

def et_X11_value  (M : em_M) (name : Int32) (v : Int32) : Int64 × em_M :=
  let r1 := et_X11_isName M name
  (if r1 = 0 then ((-9223372036854775808 : Int64), M) else let r3 := et_X11_at 22 4 M name
  let M4 := et_X11_put 22 4 M name v
  ((r3).toInt64, M4))
set_option maxHeartbeats 4000000 in
set_option maxRecDepth 100000 in
theorem ec_X11_value (l : Launch) (D : em_G) (B : Nat) (M : em_M) (name : Int32) (v : Int32) : em_C l D B yX11_value cX11_value 4 (some .long) 1 22 0 0 false [.ref (B + 0), .int name, .int v] 132 em_R M (some (.long (et_X11_value M name v).1)) 132 em_R ((et_X11_value M name v).2) := by
  refine em_C_of RX11 [(0, .ref (B + 0)), (1, .int name), (2, .int v)] (by decide) rfl rfl (Nat.le_of_ble_eq_true rfl) ?_
  rintro X rfl rfl rfl hRm hnL hnm hsz hX hQ
  obtain ⟨t0, hT⟩ : ∃ tz, et_X11_value M name v = tz := ⟨_, rfl⟩
  rw [hT] at hQ
  refine ez_iload_n hX 1 dX11_value_0 rfl ?_
  refine ez_callS hX (N0 := 0) (As := [.int name]) (st := []) (ec_X11_isName _ _ _ M name) (Or.inl rfl) wm_X11_105 ws_X11_isName wy_X11_isName rfl wd_X11_isName wi_X11 (ez_rok hRm rfl) (Nat.le_of_ble_eq_true rfl) dX11_value_1 ?_
  refine ez_nmI (fun r1 er1 => ?_)
  refine ez_if_ne hX 11 dX11_value_4 (by decide) (fun c2 => ?_) (fun c2 => ?_)
  · -- c2 jump
    refine ez_aload_n hX 0 dX11_value_11 rfl ?_
    refine ez_getr hX kc_0 rfl (Nat.le_of_ble_eq_true rfl) lc_0 (Nat.le_of_ble_eq_true rfl) inX11 11 rfl rc_0_2 wf_X11_30 dX11_value_12 ?_
    refine ez_getr hX kc_11 rfl (Nat.le_of_ble_eq_true rfl) lc_11 (Nat.le_of_ble_eq_true rfl) inX1 21 rfl rc_11_0 wf_X11_90 dX11_value_15 ?_
    refine ez_getr hX kc_21 rfl (Nat.le_of_ble_eq_true rfl) lc_21 (Nat.le_of_ble_eq_true rfl) inX10 22 rfl rc_21_0 wf_X11_110 dX11_value_18 ?_
    refine ez_iload_n hX 1 dX11_value_21 rfl ?_
    refine ez_callS hX (N0 := 0) (As := [.ref (ez_B X + 22), .int name]) (st := []) (ec_X11_at _ _ _ 22 4 kc_22 lc_22 M name) (Or.inl rfl) wm_X11_97 ws_X11_at wy_X11_at rfl wd_X11_at wi_X11 (ez_rok hRm rfl) (Nat.le_of_ble_eq_true rfl) dX11_value_22 ?_
    refine ez_nmI (fun r3 er3 => ?_)
    refine ez_istore_n hX [(3, .int r3), (0, .ref (ez_B X + 0)), (1, .int name), (2, .int v)] dX11_value_25 (ez_lt hnL rfl) rfl ?_
    refine ez_aload_n hX 1 dX11_value_26 rfl ?_
    refine ez_getr hX kc_0 rfl (Nat.le_of_ble_eq_true rfl) lc_0 (Nat.le_of_ble_eq_true rfl) inX11 11 rfl rc_0_2 wf_X11_30 dX11_value_27 ?_
    refine ez_getr hX kc_11 rfl (Nat.le_of_ble_eq_true rfl) lc_11 (Nat.le_of_ble_eq_true rfl) inX1 21 rfl rc_11_0 wf_X11_90 dX11_value_30 ?_
    refine ez_getr hX kc_21 rfl (Nat.le_of_ble_eq_true rfl) lc_21 (Nat.le_of_ble_eq_true rfl) inX10 22 rfl rc_21_0 wf_X11_110 dX11_value_33 ?_
    refine ez_iload_n hX 2 dX11_value_36 rfl ?_
    refine ez_iload_n hX 3 dX11_value_37 rfl ?_
    refine ez_callS hX (N0 := 0) (As := [.ref (ez_B X + 22), .int name, .int v]) (st := []) (ec_X11_put _ _ _ 22 4 kc_22 lc_22 M name v) (Or.inl rfl) wm_X11_101 ws_X11_put wy_X11_put rfl wd_X11_put wi_X11 (ez_rok hRm rfl) (Nat.le_of_ble_eq_true rfl) dX11_value_38 ?_
    refine ez_nmM (fun M4 eM4 => ?_)
    refine ez_iload_n hX 0 dX11_value_41 rfl ?_
    refine ez_i2l hX dX11_value_42 ?_
    have ht : t0 = ((r3).toInt64, M4) := hT.symm.trans (by simp only [et_X11_value, er1, if_neg c2, er3, eM4])
    subst ht
    exact ez_lret hX hQ dX11_value_43 rfl rfl
  · -- c2 on
    refine ez_ldc2 hX wl_X11_108 dX11_value_7 ?_
    have ht : t0 = ((-9223372036854775808 : Int64), M) := hT.symm.trans (by simp only [et_X11_value, er1, if_pos c2])
    subst ht
    exact ez_lret hX hQ dX11_value_10 rfl rfl

def et_X11_begin  (M : em_M) (line : Int32) : Int32 × em_M :=
  let r1 := et_X2_has M line
  (if r1 = 0 then ((-1 : Int32), M) else let M3 := et_X3_start 21 M line
  let r4 := et_X2_fact M3 line (0 : Int32)
  (r4, M3))
set_option maxHeartbeats 4000000 in
set_option maxRecDepth 100000 in
theorem ec_X11_begin (l : Launch) (D : em_G) (B : Nat) (M : em_M) (line : Int32) : em_C l D B yX11_begin cX11_begin 2 (some .int) 3 65 0 0 false [.ref (B + 0), .int line] 132 em_R M (some (.int (et_X11_begin M line).1)) 132 em_R ((et_X11_begin M line).2) := by
  refine em_C_of RX11 [(0, .ref (B + 0)), (1, .int line)] (by decide) rfl rfl (Nat.le_of_ble_eq_true rfl) ?_
  rintro X rfl rfl rfl hRm hnL hnm hsz hX hQ
  obtain ⟨t0, hT⟩ : ∃ tz, et_X11_begin M line = tz := ⟨_, rfl⟩
  rw [hT] at hQ
  refine ez_aload_n hX 0 dX11_begin_0 rfl ?_
  refine ez_getr hX kc_0 rfl (Nat.le_of_ble_eq_true rfl) lc_0 (Nat.le_of_ble_eq_true rfl) inX11 1 rfl rc_0_0 wf_X11_14 dX11_begin_1 ?_
  refine ez_iload_n hX 1 dX11_begin_4 rfl ?_
  refine ez_callV hX (N0 := 0) (As := [.int line]) (st := []) kc_1 (Nat.le_of_ble_eq_true rfl) lc_1 rfl (ec_X2_has _ _ _ M line) (Or.inl rfl) wm_X11_79 wv_X2_has we_X2_has wy_X2_has rfl wd_X2_has wi_X2 (ez_rok hRm rfl) (Nat.le_of_ble_eq_true rfl) dX11_begin_5 ?_
  refine ez_nmI (fun r1 er1 => ?_)
  refine ez_if_ne hX 13 dX11_begin_8 (by decide) (fun c2 => ?_) (fun c2 => ?_)
  · -- c2 jump
    refine ez_aload_n hX 0 dX11_begin_13 rfl ?_
    refine ez_getr hX kc_0 rfl (Nat.le_of_ble_eq_true rfl) lc_0 (Nat.le_of_ble_eq_true rfl) inX11 11 rfl rc_0_2 wf_X11_30 dX11_begin_14 ?_
    refine ez_getr hX kc_11 rfl (Nat.le_of_ble_eq_true rfl) lc_11 (Nat.le_of_ble_eq_true rfl) inX1 24 rfl rc_11_1 wf_X11_113 dX11_begin_17 ?_
    refine ez_iload_n hX 1 dX11_begin_20 rfl ?_
    refine ez_callV hX (N0 := 0) (As := [.int line]) (st := []) kc_24 (Nat.le_of_ble_eq_true rfl) lc_24 rfl (ec_X3_start _ _ _ 21 ew_21 M line) (Or.inl rfl) wm_X11_116 wv_X3_start we_X3_start wy_X3_start rfl wd_X3_start wi_X3 (ez_rok hRm rfl) (Nat.le_of_ble_eq_true rfl) dX11_begin_21 ?_
    refine ez_nmM (fun M3 eM3 => ?_)
    refine ez_aload_n hX 0 dX11_begin_24 rfl ?_
    refine ez_getr hX kc_0 rfl (Nat.le_of_ble_eq_true rfl) lc_0 (Nat.le_of_ble_eq_true rfl) inX11 1 rfl rc_0_0 wf_X11_14 dX11_begin_25 ?_
    refine ez_iload_n hX 1 dX11_begin_28 rfl ?_
    refine ez_iconst hX (0 : Int32) dX11_begin_29 (by decide) ?_
    refine ez_callV hX (N0 := 0) (As := [.int line, .int (0 : Int32)]) (st := []) kc_1 (Nat.le_of_ble_eq_true rfl) lc_1 rfl (ec_X2_fact _ _ _ M3 line (0 : Int32)) (Or.inl rfl) wm_X11_83 wv_X2_fact we_X2_fact wy_X2_fact rfl wd_X2_fact wi_X2 (ez_rok hRm rfl) (Nat.le_of_ble_eq_true rfl) dX11_begin_30 ?_
    refine ez_nmI (fun r4 er4 => ?_)
    have ht : t0 = (r4, M3) := hT.symm.trans (by simp only [et_X11_begin, er1, if_neg c2, eM3, er4])
    subst ht
    exact ez_iret hX hQ dX11_begin_33 rfl rfl
  · -- c2 on
    refine ez_iconst hX (-1 : Int32) dX11_begin_11 (by decide) ?_
    have ht : t0 = ((-1 : Int32), M) := hT.symm.trans (by simp only [et_X11_begin, er1, if_pos c2])
    subst ht
    exact ez_iret hX hQ dX11_begin_12 rfl rfl

def et_X11_step  (M : em_M) (n : Int32) : Int32 × em_M :=
  (if n < 0 then ((-2 : Int32), M) else (if n ≤ (300 : Int32) then (if (M.1 25 0) = (-5 : Int32) then let q6 := et_X3_move 21 M n
  let r4 := q6.1
  let M5 := q6.2
  (r4, M5) else ((-3 : Int32), M)) else ((-2 : Int32), M)))
set_option maxHeartbeats 4000000 in
set_option maxRecDepth 100000 in
theorem ec_X11_step (l : Launch) (D : em_G) (B : Nat) (M : em_M) (n : Int32) : em_C l D B yX11_step cX11_step 2 (some .int) 6 144 0 0 false [.ref (B + 0), .int n] 132 em_R M (some (.int (et_X11_step M n).1)) 132 em_R ((et_X11_step M n).2) := by
  refine em_C_of RX11 [(0, .ref (B + 0)), (1, .int n)] (by decide) rfl rfl (Nat.le_of_ble_eq_true rfl) ?_
  rintro X rfl rfl rfl hRm hnL hnm hsz hX hQ
  obtain ⟨t0, hT⟩ : ∃ tz, et_X11_step M n = tz := ⟨_, rfl⟩
  rw [hT] at hQ
  refine ez_iload_n hX 1 dX11_step_0 rfl ?_
  refine ez_if_lt hX 11 dX11_step_1 (by decide) (fun c1 => ?_) (fun c1 => ?_)
  · -- c1 jump
    refine ez_bipush hX (-2 : Int32) dX11_step_11 (by decide) ?_
    have ht : t0 = ((-2 : Int32), M) := hT.symm.trans (by simp only [et_X11_step, if_pos c1])
    subst ht
    exact ez_iret hX hQ dX11_step_13 rfl rfl
  · -- c1 on
    refine ez_iload_n hX 1 dX11_step_4 rfl ?_
    refine ez_sipush hX (300 : Int32) dX11_step_5 (by decide) ?_
    refine ez_icmp_le hX 14 dX11_step_8 (by decide) (fun c2 => ?_) (fun c2 => ?_)
    · -- c2 jump
      refine ez_aload_n hX 0 dX11_step_14 rfl ?_
      refine ez_getr hX kc_0 rfl (Nat.le_of_ble_eq_true rfl) lc_0 (Nat.le_of_ble_eq_true rfl) inX11 11 rfl rc_0_2 wf_X11_30 dX11_step_15 ?_
      refine ez_getr hX kc_11 rfl (Nat.le_of_ble_eq_true rfl) lc_11 (Nat.le_of_ble_eq_true rfl) inX1 24 rfl rc_11_1 wf_X11_113 dX11_step_18 ?_
      refine ez_getr hX kc_24 rfl (Nat.le_of_ble_eq_true rfl) lc_24 (Nat.le_of_ble_eq_true rfl) inX3 25 rfl rc_24_0 wf_X11_120 dX11_step_21 ?_
      refine ez_geti hX kc_25 rfl (Nat.le_of_ble_eq_true rfl) lc_25 (Nat.le_of_ble_eq_true rfl) inX4 rfl wf_X11_123 dX11_step_24 ?_
      refine ez_bipush hX (-5 : Int32) dX11_step_27 (by decide) ?_
      refine ez_icmp_ne hX 46 dX11_step_29 (by decide) (fun c3 => ?_) (fun c3 => ?_)
      · -- c3 jump
        refine ez_bipush hX (-3 : Int32) dX11_step_46 (by decide) ?_
        have ht : t0 = ((-3 : Int32), M) := hT.symm.trans (by simp only [et_X11_step, if_neg c1, if_pos c2, if_neg c3])
        subst ht
        exact ez_iret hX hQ dX11_step_48 rfl rfl
      · -- c3 on
        refine ez_aload_n hX 0 dX11_step_32 rfl ?_
        refine ez_getr hX kc_0 rfl (Nat.le_of_ble_eq_true rfl) lc_0 (Nat.le_of_ble_eq_true rfl) inX11 11 rfl rc_0_2 wf_X11_30 dX11_step_33 ?_
        refine ez_getr hX kc_11 rfl (Nat.le_of_ble_eq_true rfl) lc_11 (Nat.le_of_ble_eq_true rfl) inX1 24 rfl rc_11_1 wf_X11_113 dX11_step_36 ?_
        refine ez_iload_n hX 1 dX11_step_39 rfl ?_
        refine ez_callV hX (N0 := 0) (As := [.int n]) (st := []) kc_24 (Nat.le_of_ble_eq_true rfl) lc_24 rfl (ec_X3_move _ _ _ 21 ew_21 M n) (Or.inl rfl) wm_X11_126 wv_X3_move we_X3_move wy_X3_move rfl wd_X3_move wi_X3 (ez_rok hRm rfl) (Nat.le_of_ble_eq_true rfl) dX11_step_40 ?_
        refine ez_nmIM (fun r4 M5 eM5 => ?_)
        refine ez_goto hX 48 dX11_step_43 (by decide) ?_
        have ht : t0 = (r4, M5) := hT.symm.trans (by simp only [et_X11_step, if_neg c1, if_pos c2, if_pos c3, eM5])
        subst ht
        exact ez_iret hX hQ dX11_step_48 rfl rfl
    · -- c2 on
      refine ez_bipush hX (-2 : Int32) dX11_step_11 (by decide) ?_
      have ht : t0 = ((-2 : Int32), M) := hT.symm.trans (by simp only [et_X11_step, if_neg c1, if_neg c2])
      subst ht
      exact ez_iret hX hQ dX11_step_13 rfl rfl

def et_X11_run  (M : em_M) (line : Int32) : Int32 × em_M :=
  let r1 := et_X2_has M line
  (if r1 = 0 then ((-1 : Int32), M) else let M3 := et_X3_start 21 M line
  let q6 := et_X3_move 21 M3 (300 : Int32)
  let r4 := q6.1
  let M5 := q6.2
  ((M5.1 25 0), M5))
set_option maxHeartbeats 4000000 in
set_option maxRecDepth 100000 in
theorem ec_X11_run (l : Launch) (D : em_G) (B : Nat) (M : em_M) (line : Int32) : em_C l D B yX11_run cX11_run 2 (some .int) 6 144 0 0 false [.ref (B + 0), .int line] 132 em_R M (some (.int (et_X11_run M line).1)) 132 em_R ((et_X11_run M line).2) := by
  refine em_C_of RX11 [(0, .ref (B + 0)), (1, .int line)] (by decide) rfl rfl (Nat.le_of_ble_eq_true rfl) ?_
  rintro X rfl rfl rfl hRm hnL hnm hsz hX hQ
  obtain ⟨t0, hT⟩ : ∃ tz, et_X11_run M line = tz := ⟨_, rfl⟩
  rw [hT] at hQ
  refine ez_aload_n hX 0 dX11_run_0 rfl ?_
  refine ez_getr hX kc_0 rfl (Nat.le_of_ble_eq_true rfl) lc_0 (Nat.le_of_ble_eq_true rfl) inX11 1 rfl rc_0_0 wf_X11_14 dX11_run_1 ?_
  refine ez_iload_n hX 1 dX11_run_4 rfl ?_
  refine ez_callV hX (N0 := 0) (As := [.int line]) (st := []) kc_1 (Nat.le_of_ble_eq_true rfl) lc_1 rfl (ec_X2_has _ _ _ M line) (Or.inl rfl) wm_X11_79 wv_X2_has we_X2_has wy_X2_has rfl wd_X2_has wi_X2 (ez_rok hRm rfl) (Nat.le_of_ble_eq_true rfl) dX11_run_5 ?_
  refine ez_nmI (fun r1 er1 => ?_)
  refine ez_if_ne hX 13 dX11_run_8 (by decide) (fun c2 => ?_) (fun c2 => ?_)
  · -- c2 jump
    refine ez_aload_n hX 0 dX11_run_13 rfl ?_
    refine ez_getr hX kc_0 rfl (Nat.le_of_ble_eq_true rfl) lc_0 (Nat.le_of_ble_eq_true rfl) inX11 11 rfl rc_0_2 wf_X11_30 dX11_run_14 ?_
    refine ez_getr hX kc_11 rfl (Nat.le_of_ble_eq_true rfl) lc_11 (Nat.le_of_ble_eq_true rfl) inX1 24 rfl rc_11_1 wf_X11_113 dX11_run_17 ?_
    refine ez_iload_n hX 1 dX11_run_20 rfl ?_
    refine ez_callV hX (N0 := 0) (As := [.int line]) (st := []) kc_24 (Nat.le_of_ble_eq_true rfl) lc_24 rfl (ec_X3_start _ _ _ 21 ew_21 M line) (Or.inl rfl) wm_X11_116 wv_X3_start we_X3_start wy_X3_start rfl wd_X3_start wi_X3 (ez_rok hRm rfl) (Nat.le_of_ble_eq_true rfl) dX11_run_21 ?_
    refine ez_nmM (fun M3 eM3 => ?_)
    refine ez_aload_n hX 0 dX11_run_24 rfl ?_
    refine ez_getr hX kc_0 rfl (Nat.le_of_ble_eq_true rfl) lc_0 (Nat.le_of_ble_eq_true rfl) inX11 11 rfl rc_0_2 wf_X11_30 dX11_run_25 ?_
    refine ez_getr hX kc_11 rfl (Nat.le_of_ble_eq_true rfl) lc_11 (Nat.le_of_ble_eq_true rfl) inX1 24 rfl rc_11_1 wf_X11_113 dX11_run_28 ?_
    refine ez_sipush hX (300 : Int32) dX11_run_31 (by decide) ?_
    refine ez_callV hX (N0 := 0) (As := [.int (300 : Int32)]) (st := []) kc_24 (Nat.le_of_ble_eq_true rfl) lc_24 rfl (ec_X3_move _ _ _ 21 ew_21 M3 (300 : Int32)) (Or.inl rfl) wm_X11_126 wv_X3_move we_X3_move wy_X3_move rfl wd_X3_move wi_X3 (ez_rok hRm rfl) (Nat.le_of_ble_eq_true rfl) dX11_run_34 ?_
    refine ez_nmIM (fun r4 M5 eM5 => ?_)
    refine ez_pop hX dX11_run_37 rfl ?_
    refine ez_aload_n hX 0 dX11_run_38 rfl ?_
    refine ez_getr hX kc_0 rfl (Nat.le_of_ble_eq_true rfl) lc_0 (Nat.le_of_ble_eq_true rfl) inX11 11 rfl rc_0_2 wf_X11_30 dX11_run_39 ?_
    refine ez_getr hX kc_11 rfl (Nat.le_of_ble_eq_true rfl) lc_11 (Nat.le_of_ble_eq_true rfl) inX1 24 rfl rc_11_1 wf_X11_113 dX11_run_42 ?_
    refine ez_getr hX kc_24 rfl (Nat.le_of_ble_eq_true rfl) lc_24 (Nat.le_of_ble_eq_true rfl) inX3 25 rfl rc_24_0 wf_X11_120 dX11_run_45 ?_
    refine ez_geti hX kc_25 rfl (Nat.le_of_ble_eq_true rfl) lc_25 (Nat.le_of_ble_eq_true rfl) inX4 rfl wf_X11_123 dX11_run_48 ?_
    have ht : t0 = ((M5.1 25 0), M5) := hT.symm.trans (by simp only [et_X11_run, er1, if_neg c2, eM3, eM5])
    subst ht
    exact ez_iret hX hQ dX11_run_51 rfl rfl
  · -- c2 on
    refine ez_iconst hX (-1 : Int32) dX11_run_11 (by decide) ?_
    have ht : t0 = ((-1 : Int32), M) := hT.symm.trans (by simp only [et_X11_run, er1, if_pos c2])
    subst ht
    exact ez_iret hX hQ dX11_run_12 rfl rfl

def et_X11_told  (M : em_M) (what : Int32) : Int64 :=
  (if what < (5 : Int32) then (if what < (10 : Int32) then (if what < (20 : Int32) then let r4 := et_X4_answer 25 M what
  r4 else let r5 := et_X11_isFunction M (what - (20 : Int32))
  (if r5 = 0 then let r7 := et_X4_answer 25 M what
  r7 else let r8 := et_X11_at 23 3 M (what - (20 : Int32))
  (r8).toInt64)) else let r9 := et_X11_isName M (what - (10 : Int32))
  (if r9 = 0 then (if what < (20 : Int32) then let r12 := et_X4_answer 25 M what
  r12 else let r13 := et_X11_isFunction M (what - (20 : Int32))
  (if r13 = 0 then let r15 := et_X4_answer 25 M what
  r15 else let r16 := et_X11_at 23 3 M (what - (20 : Int32))
  (r16).toInt64)) else let r17 := et_X11_at 22 4 M (what - (10 : Int32))
  (r17).toInt64)) else (if (8 : Int32) < what then (if what < (10 : Int32) then (if what < (20 : Int32) then let r21 := et_X4_answer 25 M what
  r21 else let r22 := et_X11_isFunction M (what - (20 : Int32))
  (if r22 = 0 then let r24 := et_X4_answer 25 M what
  r24 else let r25 := et_X11_at 23 3 M (what - (20 : Int32))
  (r25).toInt64)) else let r26 := et_X11_isName M (what - (10 : Int32))
  (if r26 = 0 then (if what < (20 : Int32) then let r29 := et_X4_answer 25 M what
  r29 else let r30 := et_X11_isFunction M (what - (20 : Int32))
  (if r30 = 0 then let r32 := et_X4_answer 25 M what
  r32 else let r33 := et_X11_at 23 3 M (what - (20 : Int32))
  (r33).toInt64)) else let r34 := et_X11_at 22 4 M (what - (10 : Int32))
  (r34).toInt64)) else let r35 := et_X3_state 21 M what
  r35))
set_option maxHeartbeats 4000000 in
set_option maxRecDepth 100000 in
theorem ec_X11_told (l : Launch) (D : em_G) (B : Nat) (M : em_M) (what : Int32) : em_C l D B yX11_told cX11_told 2 (some .long) 3 63 0 0 false [.ref (B + 0), .int what] 132 em_R M (some (.long (et_X11_told M what))) 132 em_R (M) := by
  refine em_C_of RX11 [(0, .ref (B + 0)), (1, .int what)] (by decide) rfl rfl (Nat.le_of_ble_eq_true rfl) ?_
  rintro X rfl rfl rfl hRm hnL hnm hsz hX hQ
  obtain ⟨t0, hT⟩ : ∃ tz, et_X11_told M what = tz := ⟨_, rfl⟩
  rw [hT] at hQ
  refine ez_iload_n hX 1 dX11_told_0 rfl ?_
  refine ez_iconst hX (5 : Int32) dX11_told_1 (by decide) ?_
  refine ez_icmp_lt hX 23 dX11_told_2 (by decide) (fun c1 => ?_) (fun c1 => ?_)
  · -- c1 jump
    refine ez_iload_n hX 1 dX11_told_23 rfl ?_
    refine ez_bipush hX (10 : Int32) dX11_told_24 (by decide) ?_
    refine ez_icmp_lt hX 58 dX11_told_26 (by decide) (fun c2 => ?_) (fun c2 => ?_)
    · -- c2 jump
      refine ez_iload_n hX 1 dX11_told_58 rfl ?_
      refine ez_bipush hX (20 : Int32) dX11_told_59 (by decide) ?_
      refine ez_icmp_lt hX 93 dX11_told_61 (by decide) (fun c3 => ?_) (fun c3 => ?_)
      · -- c3 jump
        refine ez_aload_n hX 0 dX11_told_93 rfl ?_
        refine ez_getr hX kc_0 rfl (Nat.le_of_ble_eq_true rfl) lc_0 (Nat.le_of_ble_eq_true rfl) inX11 11 rfl rc_0_2 wf_X11_30 dX11_told_94 ?_
        refine ez_getr hX kc_11 rfl (Nat.le_of_ble_eq_true rfl) lc_11 (Nat.le_of_ble_eq_true rfl) inX1 24 rfl rc_11_1 wf_X11_113 dX11_told_97 ?_
        refine ez_getr hX kc_24 rfl (Nat.le_of_ble_eq_true rfl) lc_24 (Nat.le_of_ble_eq_true rfl) inX3 25 rfl rc_24_0 wf_X11_120 dX11_told_100 ?_
        refine ez_iload_n hX 1 dX11_told_103 rfl ?_
        refine ez_callV hX (N0 := 0) (As := [.int what]) (st := []) kc_25 (Nat.le_of_ble_eq_true rfl) lc_25 rfl (ec_X4_answer _ _ _ 25 eo_25 M what) (Or.inl rfl) wm_X11_133 wv_X4_answer we_X4_answer wy_X4_answer rfl wd_X4_answer wi_X4 (ez_rok hRm rfl) (Nat.le_of_ble_eq_true rfl) dX11_told_104 ?_
        refine ez_nmL (fun r4 er4 => ?_)
        have ht : t0 = r4 := hT.symm.trans (by simp only [et_X11_told, if_pos c1, if_pos c2, if_pos c3, er4])
        subst ht
        exact ez_lret hX hQ dX11_told_107 rfl rfl
      · -- c3 on
        refine ez_iload_n hX 1 dX11_told_64 rfl ?_
        refine ez_bipush hX (20 : Int32) dX11_told_65 (by decide) ?_
        refine ez_isub hX dX11_told_67 ?_
        refine ez_callS hX (N0 := 0) (As := [.int (what - (20 : Int32))]) (st := []) (ec_X11_isFunction _ _ _ M (what - (20 : Int32))) (Or.inl rfl) wm_X11_87 ws_X11_isFunction wy_X11_isFunction rfl wd_X11_isFunction wi_X11 (ez_rok hRm rfl) (Nat.le_of_ble_eq_true rfl) dX11_told_68 ?_
        refine ez_nmI (fun r5 er5 => ?_)
        refine ez_if_eq hX 93 dX11_told_71 (by decide) (fun c6 => ?_) (fun c6 => ?_)
        · -- c6 jump
          refine ez_aload_n hX 0 dX11_told_93 rfl ?_
          refine ez_getr hX kc_0 rfl (Nat.le_of_ble_eq_true rfl) lc_0 (Nat.le_of_ble_eq_true rfl) inX11 11 rfl rc_0_2 wf_X11_30 dX11_told_94 ?_
          refine ez_getr hX kc_11 rfl (Nat.le_of_ble_eq_true rfl) lc_11 (Nat.le_of_ble_eq_true rfl) inX1 24 rfl rc_11_1 wf_X11_113 dX11_told_97 ?_
          refine ez_getr hX kc_24 rfl (Nat.le_of_ble_eq_true rfl) lc_24 (Nat.le_of_ble_eq_true rfl) inX3 25 rfl rc_24_0 wf_X11_120 dX11_told_100 ?_
          refine ez_iload_n hX 1 dX11_told_103 rfl ?_
          refine ez_callV hX (N0 := 0) (As := [.int what]) (st := []) kc_25 (Nat.le_of_ble_eq_true rfl) lc_25 rfl (ec_X4_answer _ _ _ 25 eo_25 M what) (Or.inl rfl) wm_X11_133 wv_X4_answer we_X4_answer wy_X4_answer rfl wd_X4_answer wi_X4 (ez_rok hRm rfl) (Nat.le_of_ble_eq_true rfl) dX11_told_104 ?_
          refine ez_nmL (fun r7 er7 => ?_)
          have ht : t0 = r7 := hT.symm.trans (by simp only [et_X11_told, if_pos c1, if_pos c2, if_neg c3, er5, if_pos c6, er7])
          subst ht
          exact ez_lret hX hQ dX11_told_107 rfl rfl
        · -- c6 on
          refine ez_aload_n hX 0 dX11_told_74 rfl ?_
          refine ez_getr hX kc_0 rfl (Nat.le_of_ble_eq_true rfl) lc_0 (Nat.le_of_ble_eq_true rfl) inX11 11 rfl rc_0_2 wf_X11_30 dX11_told_75 ?_
          refine ez_getr hX kc_11 rfl (Nat.le_of_ble_eq_true rfl) lc_11 (Nat.le_of_ble_eq_true rfl) inX1 21 rfl rc_11_0 wf_X11_90 dX11_told_78 ?_
          refine ez_getr hX kc_21 rfl (Nat.le_of_ble_eq_true rfl) lc_21 (Nat.le_of_ble_eq_true rfl) inX10 23 rfl rc_21_1 wf_X11_93 dX11_told_81 ?_
          refine ez_iload_n hX 1 dX11_told_84 rfl ?_
          refine ez_bipush hX (20 : Int32) dX11_told_85 (by decide) ?_
          refine ez_isub hX dX11_told_87 ?_
          refine ez_callS hX (N0 := 0) (As := [.ref (ez_B X + 23), .int (what - (20 : Int32))]) (st := []) (ec_X11_at _ _ _ 23 3 kc_23 lc_23 M (what - (20 : Int32))) (Or.inl rfl) wm_X11_97 ws_X11_at wy_X11_at rfl wd_X11_at wi_X11 (ez_rok hRm rfl) (Nat.le_of_ble_eq_true rfl) dX11_told_88 ?_
          refine ez_nmI (fun r8 er8 => ?_)
          refine ez_i2l hX dX11_told_91 ?_
          have ht : t0 = (r8).toInt64 := hT.symm.trans (by simp only [et_X11_told, if_pos c1, if_pos c2, if_neg c3, er5, if_neg c6, er8])
          subst ht
          exact ez_lret hX hQ dX11_told_92 rfl rfl
    · -- c2 on
      refine ez_iload_n hX 1 dX11_told_29 rfl ?_
      refine ez_bipush hX (10 : Int32) dX11_told_30 (by decide) ?_
      refine ez_isub hX dX11_told_32 ?_
      refine ez_callS hX (N0 := 0) (As := [.int (what - (10 : Int32))]) (st := []) (ec_X11_isName _ _ _ M (what - (10 : Int32))) (Or.inl rfl) wm_X11_105 ws_X11_isName wy_X11_isName rfl wd_X11_isName wi_X11 (ez_rok hRm rfl) (Nat.le_of_ble_eq_true rfl) dX11_told_33 ?_
      refine ez_nmI (fun r9 er9 => ?_)
      refine ez_if_eq hX 58 dX11_told_36 (by decide) (fun c10 => ?_) (fun c10 => ?_)
      · -- c10 jump
        refine ez_iload_n hX 1 dX11_told_58 rfl ?_
        refine ez_bipush hX (20 : Int32) dX11_told_59 (by decide) ?_
        refine ez_icmp_lt hX 93 dX11_told_61 (by decide) (fun c11 => ?_) (fun c11 => ?_)
        · -- c11 jump
          refine ez_aload_n hX 0 dX11_told_93 rfl ?_
          refine ez_getr hX kc_0 rfl (Nat.le_of_ble_eq_true rfl) lc_0 (Nat.le_of_ble_eq_true rfl) inX11 11 rfl rc_0_2 wf_X11_30 dX11_told_94 ?_
          refine ez_getr hX kc_11 rfl (Nat.le_of_ble_eq_true rfl) lc_11 (Nat.le_of_ble_eq_true rfl) inX1 24 rfl rc_11_1 wf_X11_113 dX11_told_97 ?_
          refine ez_getr hX kc_24 rfl (Nat.le_of_ble_eq_true rfl) lc_24 (Nat.le_of_ble_eq_true rfl) inX3 25 rfl rc_24_0 wf_X11_120 dX11_told_100 ?_
          refine ez_iload_n hX 1 dX11_told_103 rfl ?_
          refine ez_callV hX (N0 := 0) (As := [.int what]) (st := []) kc_25 (Nat.le_of_ble_eq_true rfl) lc_25 rfl (ec_X4_answer _ _ _ 25 eo_25 M what) (Or.inl rfl) wm_X11_133 wv_X4_answer we_X4_answer wy_X4_answer rfl wd_X4_answer wi_X4 (ez_rok hRm rfl) (Nat.le_of_ble_eq_true rfl) dX11_told_104 ?_
          refine ez_nmL (fun r12 er12 => ?_)
          have ht : t0 = r12 := hT.symm.trans (by simp only [et_X11_told, if_pos c1, if_neg c2, er9, if_pos c10, if_pos c11, er12])
          subst ht
          exact ez_lret hX hQ dX11_told_107 rfl rfl
        · -- c11 on
          refine ez_iload_n hX 1 dX11_told_64 rfl ?_
          refine ez_bipush hX (20 : Int32) dX11_told_65 (by decide) ?_
          refine ez_isub hX dX11_told_67 ?_
          refine ez_callS hX (N0 := 0) (As := [.int (what - (20 : Int32))]) (st := []) (ec_X11_isFunction _ _ _ M (what - (20 : Int32))) (Or.inl rfl) wm_X11_87 ws_X11_isFunction wy_X11_isFunction rfl wd_X11_isFunction wi_X11 (ez_rok hRm rfl) (Nat.le_of_ble_eq_true rfl) dX11_told_68 ?_
          refine ez_nmI (fun r13 er13 => ?_)
          refine ez_if_eq hX 93 dX11_told_71 (by decide) (fun c14 => ?_) (fun c14 => ?_)
          · -- c14 jump
            refine ez_aload_n hX 0 dX11_told_93 rfl ?_
            refine ez_getr hX kc_0 rfl (Nat.le_of_ble_eq_true rfl) lc_0 (Nat.le_of_ble_eq_true rfl) inX11 11 rfl rc_0_2 wf_X11_30 dX11_told_94 ?_
            refine ez_getr hX kc_11 rfl (Nat.le_of_ble_eq_true rfl) lc_11 (Nat.le_of_ble_eq_true rfl) inX1 24 rfl rc_11_1 wf_X11_113 dX11_told_97 ?_
            refine ez_getr hX kc_24 rfl (Nat.le_of_ble_eq_true rfl) lc_24 (Nat.le_of_ble_eq_true rfl) inX3 25 rfl rc_24_0 wf_X11_120 dX11_told_100 ?_
            refine ez_iload_n hX 1 dX11_told_103 rfl ?_
            refine ez_callV hX (N0 := 0) (As := [.int what]) (st := []) kc_25 (Nat.le_of_ble_eq_true rfl) lc_25 rfl (ec_X4_answer _ _ _ 25 eo_25 M what) (Or.inl rfl) wm_X11_133 wv_X4_answer we_X4_answer wy_X4_answer rfl wd_X4_answer wi_X4 (ez_rok hRm rfl) (Nat.le_of_ble_eq_true rfl) dX11_told_104 ?_
            refine ez_nmL (fun r15 er15 => ?_)
            have ht : t0 = r15 := hT.symm.trans (by simp only [et_X11_told, if_pos c1, if_neg c2, er9, if_pos c10, if_neg c11, er13, if_pos c14, er15])
            subst ht
            exact ez_lret hX hQ dX11_told_107 rfl rfl
          · -- c14 on
            refine ez_aload_n hX 0 dX11_told_74 rfl ?_
            refine ez_getr hX kc_0 rfl (Nat.le_of_ble_eq_true rfl) lc_0 (Nat.le_of_ble_eq_true rfl) inX11 11 rfl rc_0_2 wf_X11_30 dX11_told_75 ?_
            refine ez_getr hX kc_11 rfl (Nat.le_of_ble_eq_true rfl) lc_11 (Nat.le_of_ble_eq_true rfl) inX1 21 rfl rc_11_0 wf_X11_90 dX11_told_78 ?_
            refine ez_getr hX kc_21 rfl (Nat.le_of_ble_eq_true rfl) lc_21 (Nat.le_of_ble_eq_true rfl) inX10 23 rfl rc_21_1 wf_X11_93 dX11_told_81 ?_
            refine ez_iload_n hX 1 dX11_told_84 rfl ?_
            refine ez_bipush hX (20 : Int32) dX11_told_85 (by decide) ?_
            refine ez_isub hX dX11_told_87 ?_
            refine ez_callS hX (N0 := 0) (As := [.ref (ez_B X + 23), .int (what - (20 : Int32))]) (st := []) (ec_X11_at _ _ _ 23 3 kc_23 lc_23 M (what - (20 : Int32))) (Or.inl rfl) wm_X11_97 ws_X11_at wy_X11_at rfl wd_X11_at wi_X11 (ez_rok hRm rfl) (Nat.le_of_ble_eq_true rfl) dX11_told_88 ?_
            refine ez_nmI (fun r16 er16 => ?_)
            refine ez_i2l hX dX11_told_91 ?_
            have ht : t0 = (r16).toInt64 := hT.symm.trans (by simp only [et_X11_told, if_pos c1, if_neg c2, er9, if_pos c10, if_neg c11, er13, if_neg c14, er16])
            subst ht
            exact ez_lret hX hQ dX11_told_92 rfl rfl
      · -- c10 on
        refine ez_aload_n hX 0 dX11_told_39 rfl ?_
        refine ez_getr hX kc_0 rfl (Nat.le_of_ble_eq_true rfl) lc_0 (Nat.le_of_ble_eq_true rfl) inX11 11 rfl rc_0_2 wf_X11_30 dX11_told_40 ?_
        refine ez_getr hX kc_11 rfl (Nat.le_of_ble_eq_true rfl) lc_11 (Nat.le_of_ble_eq_true rfl) inX1 21 rfl rc_11_0 wf_X11_90 dX11_told_43 ?_
        refine ez_getr hX kc_21 rfl (Nat.le_of_ble_eq_true rfl) lc_21 (Nat.le_of_ble_eq_true rfl) inX10 22 rfl rc_21_0 wf_X11_110 dX11_told_46 ?_
        refine ez_iload_n hX 1 dX11_told_49 rfl ?_
        refine ez_bipush hX (10 : Int32) dX11_told_50 (by decide) ?_
        refine ez_isub hX dX11_told_52 ?_
        refine ez_callS hX (N0 := 0) (As := [.ref (ez_B X + 22), .int (what - (10 : Int32))]) (st := []) (ec_X11_at _ _ _ 22 4 kc_22 lc_22 M (what - (10 : Int32))) (Or.inl rfl) wm_X11_97 ws_X11_at wy_X11_at rfl wd_X11_at wi_X11 (ez_rok hRm rfl) (Nat.le_of_ble_eq_true rfl) dX11_told_53 ?_
        refine ez_nmI (fun r17 er17 => ?_)
        refine ez_i2l hX dX11_told_56 ?_
        have ht : t0 = (r17).toInt64 := hT.symm.trans (by simp only [et_X11_told, if_pos c1, if_neg c2, er9, if_neg c10, er17])
        subst ht
        exact ez_lret hX hQ dX11_told_57 rfl rfl
  · -- c1 on
    refine ez_iload_n hX 1 dX11_told_5 rfl ?_
    refine ez_bipush hX (8 : Int32) dX11_told_6 (by decide) ?_
    refine ez_icmp_gt hX 23 dX11_told_8 (by decide) (fun c18 => ?_) (fun c18 => ?_)
    · -- c18 jump
      refine ez_iload_n hX 1 dX11_told_23 rfl ?_
      refine ez_bipush hX (10 : Int32) dX11_told_24 (by decide) ?_
      refine ez_icmp_lt hX 58 dX11_told_26 (by decide) (fun c19 => ?_) (fun c19 => ?_)
      · -- c19 jump
        refine ez_iload_n hX 1 dX11_told_58 rfl ?_
        refine ez_bipush hX (20 : Int32) dX11_told_59 (by decide) ?_
        refine ez_icmp_lt hX 93 dX11_told_61 (by decide) (fun c20 => ?_) (fun c20 => ?_)
        · -- c20 jump
          refine ez_aload_n hX 0 dX11_told_93 rfl ?_
          refine ez_getr hX kc_0 rfl (Nat.le_of_ble_eq_true rfl) lc_0 (Nat.le_of_ble_eq_true rfl) inX11 11 rfl rc_0_2 wf_X11_30 dX11_told_94 ?_
          refine ez_getr hX kc_11 rfl (Nat.le_of_ble_eq_true rfl) lc_11 (Nat.le_of_ble_eq_true rfl) inX1 24 rfl rc_11_1 wf_X11_113 dX11_told_97 ?_
          refine ez_getr hX kc_24 rfl (Nat.le_of_ble_eq_true rfl) lc_24 (Nat.le_of_ble_eq_true rfl) inX3 25 rfl rc_24_0 wf_X11_120 dX11_told_100 ?_
          refine ez_iload_n hX 1 dX11_told_103 rfl ?_
          refine ez_callV hX (N0 := 0) (As := [.int what]) (st := []) kc_25 (Nat.le_of_ble_eq_true rfl) lc_25 rfl (ec_X4_answer _ _ _ 25 eo_25 M what) (Or.inl rfl) wm_X11_133 wv_X4_answer we_X4_answer wy_X4_answer rfl wd_X4_answer wi_X4 (ez_rok hRm rfl) (Nat.le_of_ble_eq_true rfl) dX11_told_104 ?_
          refine ez_nmL (fun r21 er21 => ?_)
          have ht : t0 = r21 := hT.symm.trans (by simp only [et_X11_told, if_neg c1, if_pos c18, if_pos c19, if_pos c20, er21])
          subst ht
          exact ez_lret hX hQ dX11_told_107 rfl rfl
        · -- c20 on
          refine ez_iload_n hX 1 dX11_told_64 rfl ?_
          refine ez_bipush hX (20 : Int32) dX11_told_65 (by decide) ?_
          refine ez_isub hX dX11_told_67 ?_
          refine ez_callS hX (N0 := 0) (As := [.int (what - (20 : Int32))]) (st := []) (ec_X11_isFunction _ _ _ M (what - (20 : Int32))) (Or.inl rfl) wm_X11_87 ws_X11_isFunction wy_X11_isFunction rfl wd_X11_isFunction wi_X11 (ez_rok hRm rfl) (Nat.le_of_ble_eq_true rfl) dX11_told_68 ?_
          refine ez_nmI (fun r22 er22 => ?_)
          refine ez_if_eq hX 93 dX11_told_71 (by decide) (fun c23 => ?_) (fun c23 => ?_)
          · -- c23 jump
            refine ez_aload_n hX 0 dX11_told_93 rfl ?_
            refine ez_getr hX kc_0 rfl (Nat.le_of_ble_eq_true rfl) lc_0 (Nat.le_of_ble_eq_true rfl) inX11 11 rfl rc_0_2 wf_X11_30 dX11_told_94 ?_
            refine ez_getr hX kc_11 rfl (Nat.le_of_ble_eq_true rfl) lc_11 (Nat.le_of_ble_eq_true rfl) inX1 24 rfl rc_11_1 wf_X11_113 dX11_told_97 ?_
            refine ez_getr hX kc_24 rfl (Nat.le_of_ble_eq_true rfl) lc_24 (Nat.le_of_ble_eq_true rfl) inX3 25 rfl rc_24_0 wf_X11_120 dX11_told_100 ?_
            refine ez_iload_n hX 1 dX11_told_103 rfl ?_
            refine ez_callV hX (N0 := 0) (As := [.int what]) (st := []) kc_25 (Nat.le_of_ble_eq_true rfl) lc_25 rfl (ec_X4_answer _ _ _ 25 eo_25 M what) (Or.inl rfl) wm_X11_133 wv_X4_answer we_X4_answer wy_X4_answer rfl wd_X4_answer wi_X4 (ez_rok hRm rfl) (Nat.le_of_ble_eq_true rfl) dX11_told_104 ?_
            refine ez_nmL (fun r24 er24 => ?_)
            have ht : t0 = r24 := hT.symm.trans (by simp only [et_X11_told, if_neg c1, if_pos c18, if_pos c19, if_neg c20, er22, if_pos c23, er24])
            subst ht
            exact ez_lret hX hQ dX11_told_107 rfl rfl
          · -- c23 on
            refine ez_aload_n hX 0 dX11_told_74 rfl ?_
            refine ez_getr hX kc_0 rfl (Nat.le_of_ble_eq_true rfl) lc_0 (Nat.le_of_ble_eq_true rfl) inX11 11 rfl rc_0_2 wf_X11_30 dX11_told_75 ?_
            refine ez_getr hX kc_11 rfl (Nat.le_of_ble_eq_true rfl) lc_11 (Nat.le_of_ble_eq_true rfl) inX1 21 rfl rc_11_0 wf_X11_90 dX11_told_78 ?_
            refine ez_getr hX kc_21 rfl (Nat.le_of_ble_eq_true rfl) lc_21 (Nat.le_of_ble_eq_true rfl) inX10 23 rfl rc_21_1 wf_X11_93 dX11_told_81 ?_
            refine ez_iload_n hX 1 dX11_told_84 rfl ?_
            refine ez_bipush hX (20 : Int32) dX11_told_85 (by decide) ?_
            refine ez_isub hX dX11_told_87 ?_
            refine ez_callS hX (N0 := 0) (As := [.ref (ez_B X + 23), .int (what - (20 : Int32))]) (st := []) (ec_X11_at _ _ _ 23 3 kc_23 lc_23 M (what - (20 : Int32))) (Or.inl rfl) wm_X11_97 ws_X11_at wy_X11_at rfl wd_X11_at wi_X11 (ez_rok hRm rfl) (Nat.le_of_ble_eq_true rfl) dX11_told_88 ?_
            refine ez_nmI (fun r25 er25 => ?_)
            refine ez_i2l hX dX11_told_91 ?_
            have ht : t0 = (r25).toInt64 := hT.symm.trans (by simp only [et_X11_told, if_neg c1, if_pos c18, if_pos c19, if_neg c20, er22, if_neg c23, er25])
            subst ht
            exact ez_lret hX hQ dX11_told_92 rfl rfl
      · -- c19 on
        refine ez_iload_n hX 1 dX11_told_29 rfl ?_
        refine ez_bipush hX (10 : Int32) dX11_told_30 (by decide) ?_
        refine ez_isub hX dX11_told_32 ?_
        refine ez_callS hX (N0 := 0) (As := [.int (what - (10 : Int32))]) (st := []) (ec_X11_isName _ _ _ M (what - (10 : Int32))) (Or.inl rfl) wm_X11_105 ws_X11_isName wy_X11_isName rfl wd_X11_isName wi_X11 (ez_rok hRm rfl) (Nat.le_of_ble_eq_true rfl) dX11_told_33 ?_
        refine ez_nmI (fun r26 er26 => ?_)
        refine ez_if_eq hX 58 dX11_told_36 (by decide) (fun c27 => ?_) (fun c27 => ?_)
        · -- c27 jump
          refine ez_iload_n hX 1 dX11_told_58 rfl ?_
          refine ez_bipush hX (20 : Int32) dX11_told_59 (by decide) ?_
          refine ez_icmp_lt hX 93 dX11_told_61 (by decide) (fun c28 => ?_) (fun c28 => ?_)
          · -- c28 jump
            refine ez_aload_n hX 0 dX11_told_93 rfl ?_
            refine ez_getr hX kc_0 rfl (Nat.le_of_ble_eq_true rfl) lc_0 (Nat.le_of_ble_eq_true rfl) inX11 11 rfl rc_0_2 wf_X11_30 dX11_told_94 ?_
            refine ez_getr hX kc_11 rfl (Nat.le_of_ble_eq_true rfl) lc_11 (Nat.le_of_ble_eq_true rfl) inX1 24 rfl rc_11_1 wf_X11_113 dX11_told_97 ?_
            refine ez_getr hX kc_24 rfl (Nat.le_of_ble_eq_true rfl) lc_24 (Nat.le_of_ble_eq_true rfl) inX3 25 rfl rc_24_0 wf_X11_120 dX11_told_100 ?_
            refine ez_iload_n hX 1 dX11_told_103 rfl ?_
            refine ez_callV hX (N0 := 0) (As := [.int what]) (st := []) kc_25 (Nat.le_of_ble_eq_true rfl) lc_25 rfl (ec_X4_answer _ _ _ 25 eo_25 M what) (Or.inl rfl) wm_X11_133 wv_X4_answer we_X4_answer wy_X4_answer rfl wd_X4_answer wi_X4 (ez_rok hRm rfl) (Nat.le_of_ble_eq_true rfl) dX11_told_104 ?_
            refine ez_nmL (fun r29 er29 => ?_)
            have ht : t0 = r29 := hT.symm.trans (by simp only [et_X11_told, if_neg c1, if_pos c18, if_neg c19, er26, if_pos c27, if_pos c28, er29])
            subst ht
            exact ez_lret hX hQ dX11_told_107 rfl rfl
          · -- c28 on
            refine ez_iload_n hX 1 dX11_told_64 rfl ?_
            refine ez_bipush hX (20 : Int32) dX11_told_65 (by decide) ?_
            refine ez_isub hX dX11_told_67 ?_
            refine ez_callS hX (N0 := 0) (As := [.int (what - (20 : Int32))]) (st := []) (ec_X11_isFunction _ _ _ M (what - (20 : Int32))) (Or.inl rfl) wm_X11_87 ws_X11_isFunction wy_X11_isFunction rfl wd_X11_isFunction wi_X11 (ez_rok hRm rfl) (Nat.le_of_ble_eq_true rfl) dX11_told_68 ?_
            refine ez_nmI (fun r30 er30 => ?_)
            refine ez_if_eq hX 93 dX11_told_71 (by decide) (fun c31 => ?_) (fun c31 => ?_)
            · -- c31 jump
              refine ez_aload_n hX 0 dX11_told_93 rfl ?_
              refine ez_getr hX kc_0 rfl (Nat.le_of_ble_eq_true rfl) lc_0 (Nat.le_of_ble_eq_true rfl) inX11 11 rfl rc_0_2 wf_X11_30 dX11_told_94 ?_
              refine ez_getr hX kc_11 rfl (Nat.le_of_ble_eq_true rfl) lc_11 (Nat.le_of_ble_eq_true rfl) inX1 24 rfl rc_11_1 wf_X11_113 dX11_told_97 ?_
              refine ez_getr hX kc_24 rfl (Nat.le_of_ble_eq_true rfl) lc_24 (Nat.le_of_ble_eq_true rfl) inX3 25 rfl rc_24_0 wf_X11_120 dX11_told_100 ?_
              refine ez_iload_n hX 1 dX11_told_103 rfl ?_
              refine ez_callV hX (N0 := 0) (As := [.int what]) (st := []) kc_25 (Nat.le_of_ble_eq_true rfl) lc_25 rfl (ec_X4_answer _ _ _ 25 eo_25 M what) (Or.inl rfl) wm_X11_133 wv_X4_answer we_X4_answer wy_X4_answer rfl wd_X4_answer wi_X4 (ez_rok hRm rfl) (Nat.le_of_ble_eq_true rfl) dX11_told_104 ?_
              refine ez_nmL (fun r32 er32 => ?_)
              have ht : t0 = r32 := hT.symm.trans (by simp only [et_X11_told, if_neg c1, if_pos c18, if_neg c19, er26, if_pos c27, if_neg c28, er30, if_pos c31, er32])
              subst ht
              exact ez_lret hX hQ dX11_told_107 rfl rfl
            · -- c31 on
              refine ez_aload_n hX 0 dX11_told_74 rfl ?_
              refine ez_getr hX kc_0 rfl (Nat.le_of_ble_eq_true rfl) lc_0 (Nat.le_of_ble_eq_true rfl) inX11 11 rfl rc_0_2 wf_X11_30 dX11_told_75 ?_
              refine ez_getr hX kc_11 rfl (Nat.le_of_ble_eq_true rfl) lc_11 (Nat.le_of_ble_eq_true rfl) inX1 21 rfl rc_11_0 wf_X11_90 dX11_told_78 ?_
              refine ez_getr hX kc_21 rfl (Nat.le_of_ble_eq_true rfl) lc_21 (Nat.le_of_ble_eq_true rfl) inX10 23 rfl rc_21_1 wf_X11_93 dX11_told_81 ?_
              refine ez_iload_n hX 1 dX11_told_84 rfl ?_
              refine ez_bipush hX (20 : Int32) dX11_told_85 (by decide) ?_
              refine ez_isub hX dX11_told_87 ?_
              refine ez_callS hX (N0 := 0) (As := [.ref (ez_B X + 23), .int (what - (20 : Int32))]) (st := []) (ec_X11_at _ _ _ 23 3 kc_23 lc_23 M (what - (20 : Int32))) (Or.inl rfl) wm_X11_97 ws_X11_at wy_X11_at rfl wd_X11_at wi_X11 (ez_rok hRm rfl) (Nat.le_of_ble_eq_true rfl) dX11_told_88 ?_
              refine ez_nmI (fun r33 er33 => ?_)
              refine ez_i2l hX dX11_told_91 ?_
              have ht : t0 = (r33).toInt64 := hT.symm.trans (by simp only [et_X11_told, if_neg c1, if_pos c18, if_neg c19, er26, if_pos c27, if_neg c28, er30, if_neg c31, er33])
              subst ht
              exact ez_lret hX hQ dX11_told_92 rfl rfl
        · -- c27 on
          refine ez_aload_n hX 0 dX11_told_39 rfl ?_
          refine ez_getr hX kc_0 rfl (Nat.le_of_ble_eq_true rfl) lc_0 (Nat.le_of_ble_eq_true rfl) inX11 11 rfl rc_0_2 wf_X11_30 dX11_told_40 ?_
          refine ez_getr hX kc_11 rfl (Nat.le_of_ble_eq_true rfl) lc_11 (Nat.le_of_ble_eq_true rfl) inX1 21 rfl rc_11_0 wf_X11_90 dX11_told_43 ?_
          refine ez_getr hX kc_21 rfl (Nat.le_of_ble_eq_true rfl) lc_21 (Nat.le_of_ble_eq_true rfl) inX10 22 rfl rc_21_0 wf_X11_110 dX11_told_46 ?_
          refine ez_iload_n hX 1 dX11_told_49 rfl ?_
          refine ez_bipush hX (10 : Int32) dX11_told_50 (by decide) ?_
          refine ez_isub hX dX11_told_52 ?_
          refine ez_callS hX (N0 := 0) (As := [.ref (ez_B X + 22), .int (what - (10 : Int32))]) (st := []) (ec_X11_at _ _ _ 22 4 kc_22 lc_22 M (what - (10 : Int32))) (Or.inl rfl) wm_X11_97 ws_X11_at wy_X11_at rfl wd_X11_at wi_X11 (ez_rok hRm rfl) (Nat.le_of_ble_eq_true rfl) dX11_told_53 ?_
          refine ez_nmI (fun r34 er34 => ?_)
          refine ez_i2l hX dX11_told_56 ?_
          have ht : t0 = (r34).toInt64 := hT.symm.trans (by simp only [et_X11_told, if_neg c1, if_pos c18, if_neg c19, er26, if_neg c27, er34])
          subst ht
          exact ez_lret hX hQ dX11_told_57 rfl rfl
    · -- c18 on
      refine ez_aload_n hX 0 dX11_told_11 rfl ?_
      refine ez_getr hX kc_0 rfl (Nat.le_of_ble_eq_true rfl) lc_0 (Nat.le_of_ble_eq_true rfl) inX11 11 rfl rc_0_2 wf_X11_30 dX11_told_12 ?_
      refine ez_getr hX kc_11 rfl (Nat.le_of_ble_eq_true rfl) lc_11 (Nat.le_of_ble_eq_true rfl) inX1 24 rfl rc_11_1 wf_X11_113 dX11_told_15 ?_
      refine ez_iload_n hX 1 dX11_told_18 rfl ?_
      refine ez_callV hX (N0 := 0) (As := [.int what]) (st := []) kc_24 (Nat.le_of_ble_eq_true rfl) lc_24 rfl (ec_X3_state _ _ _ 21 ew_21 M what) (Or.inl rfl) wm_X11_129 wv_X3_state we_X3_state wy_X3_state rfl wd_X3_state wi_X3 (ez_rok hRm rfl) (Nat.le_of_ble_eq_true rfl) dX11_told_19 ?_
      refine ez_nmL (fun r35 er35 => ?_)
      have ht : t0 = r35 := hT.symm.trans (by simp only [et_X11_told, if_neg c1, if_neg c18, er35])
      subst ht
      exact ez_lret hX hQ dX11_told_22 rfl rfl

def et_X11_tryOut  (M : em_M) (line : Int32) : em_M :=
  let M1 := et_X3_start 79 M line
  let q4 := et_X3_move 79 M1 (300 : Int32)
  let r2 := q4.1
  let M3 := q4.2
  M3
set_option maxHeartbeats 4000000 in
set_option maxRecDepth 100000 in
theorem ec_X11_tryOut (l : Launch) (D : em_G) (B : Nat) (M : em_M) (line : Int32) : em_C l D B yX11_tryOut cX11_tryOut 2 (some (.object "EscapeFrames$Outcome")) 6 144 0 0 false [.ref (B + 0), .int line] 132 em_R M (some (.ref (B + 83))) 132 em_R ((et_X11_tryOut M line)) := by
  refine em_C_of RX11 [(0, .ref (B + 0)), (1, .int line)] (by decide) rfl rfl (Nat.le_of_ble_eq_true rfl) ?_
  rintro X rfl rfl rfl hRm hnL hnm hsz hX hQ
  obtain ⟨t0, hT⟩ : ∃ tz, et_X11_tryOut M line = tz := ⟨_, rfl⟩
  rw [hT] at hQ
  refine ez_aload_n hX 0 dX11_tryOut_0 rfl ?_
  refine ez_getr hX kc_0 rfl (Nat.le_of_ble_eq_true rfl) lc_0 (Nat.le_of_ble_eq_true rfl) inX11 82 rfl rc_0_6 wf_X11_49 dX11_tryOut_1 ?_
  refine ez_iload_n hX 1 dX11_tryOut_4 rfl ?_
  refine ez_callV hX (N0 := 0) (As := [.int line]) (st := []) kc_82 (Nat.le_of_ble_eq_true rfl) lc_82 rfl (ec_X3_start _ _ _ 79 ew_79 M line) (Or.inl rfl) wm_X11_116 wv_X3_start we_X3_start wy_X3_start rfl wd_X3_start wi_X3 (ez_rok hRm rfl) (Nat.le_of_ble_eq_true rfl) dX11_tryOut_5 ?_
  refine ez_nmM (fun M1 eM1 => ?_)
  refine ez_aload_n hX 0 dX11_tryOut_8 rfl ?_
  refine ez_getr hX kc_0 rfl (Nat.le_of_ble_eq_true rfl) lc_0 (Nat.le_of_ble_eq_true rfl) inX11 82 rfl rc_0_6 wf_X11_49 dX11_tryOut_9 ?_
  refine ez_sipush hX (300 : Int32) dX11_tryOut_12 (by decide) ?_
  refine ez_callV hX (N0 := 0) (As := [.int (300 : Int32)]) (st := []) kc_82 (Nat.le_of_ble_eq_true rfl) lc_82 rfl (ec_X3_move _ _ _ 79 ew_79 M1 (300 : Int32)) (Or.inl rfl) wm_X11_126 wv_X3_move we_X3_move wy_X3_move rfl wd_X3_move wi_X3 (ez_rok hRm rfl) (Nat.le_of_ble_eq_true rfl) dX11_tryOut_15 ?_
  refine ez_nmIM (fun r2 M3 eM3 => ?_)
  refine ez_pop hX dX11_tryOut_18 rfl ?_
  refine ez_aload_n hX 0 dX11_tryOut_19 rfl ?_
  refine ez_getr hX kc_0 rfl (Nat.le_of_ble_eq_true rfl) lc_0 (Nat.le_of_ble_eq_true rfl) inX11 82 rfl rc_0_6 wf_X11_49 dX11_tryOut_20 ?_
  refine ez_getr hX kc_82 rfl (Nat.le_of_ble_eq_true rfl) lc_82 (Nat.le_of_ble_eq_true rfl) inX3 83 rfl rc_82_0 wf_X11_120 dX11_tryOut_23 ?_
  have ht : t0 = M3 := hT.symm.trans (by simp only [et_X11_tryOut, eM1, eM3])
  subst ht
  exact ez_aret hX hQ dX11_tryOut_26 (Or.inl ⟨_, rfl⟩) (Or.inr ⟨_, rfl⟩) rfl rfl

def et_X11_tryWith  (M : em_M) (line : Int32) (name : Int32) (v : Int32) : em_M :=
  let M1 := et_X10_copyFrom 79 21 M
  let M2 := et_X11_put 80 4 M1 name v
  let M3 := et_X3_start 79 M2 line
  let q6 := et_X3_move 79 M3 (300 : Int32)
  let r4 := q6.1
  let M5 := q6.2
  M5
set_option maxHeartbeats 4000000 in
set_option maxRecDepth 100000 in
theorem ec_X11_tryWith (l : Launch) (D : em_G) (B : Nat) (M : em_M) (line : Int32) (name : Int32) (v : Int32) : em_C l D B yX11_tryWith cX11_tryWith 4 (some (.object "EscapeFrames$Outcome")) 6 144 0 0 false [.ref (B + 0), .int line, .int name, .int v] 132 em_R M (some (.ref (B + 83))) 132 em_R ((et_X11_tryWith M line name v)) := by
  refine em_C_of RX11 [(0, .ref (B + 0)), (1, .int line), (2, .int name), (3, .int v)] (by decide) rfl rfl (Nat.le_of_ble_eq_true rfl) ?_
  rintro X rfl rfl rfl hRm hnL hnm hsz hX hQ
  obtain ⟨t0, hT⟩ : ∃ tz, et_X11_tryWith M line name v = tz := ⟨_, rfl⟩
  rw [hT] at hQ
  refine ez_aload_n hX 0 dX11_tryWith_0 rfl ?_
  refine ez_getr hX kc_0 rfl (Nat.le_of_ble_eq_true rfl) lc_0 (Nat.le_of_ble_eq_true rfl) inX11 79 rfl rc_0_5 wf_X11_40 dX11_tryWith_1 ?_
  refine ez_aload_n hX 0 dX11_tryWith_4 rfl ?_
  refine ez_getr hX kc_0 rfl (Nat.le_of_ble_eq_true rfl) lc_0 (Nat.le_of_ble_eq_true rfl) inX11 11 rfl rc_0_2 wf_X11_30 dX11_tryWith_5 ?_
  refine ez_getr hX kc_11 rfl (Nat.le_of_ble_eq_true rfl) lc_11 (Nat.le_of_ble_eq_true rfl) inX1 21 rfl rc_11_0 wf_X11_90 dX11_tryWith_8 ?_
  refine ez_callV hX (N0 := 0) (As := [.ref (ez_B X + 21)]) (st := []) kc_79 (Nat.le_of_ble_eq_true rfl) lc_79 rfl (ec_X10_copyFrom _ _ _ 79 ew_79 21 ew_21 M) (Or.inl rfl) wm_X11_136 wv_X10_copyFrom we_X10_copyFrom wy_X10_copyFrom rfl wd_X10_copyFrom wi_X10 (ez_rok hRm rfl) (Nat.le_of_ble_eq_true rfl) dX11_tryWith_11 ?_
  refine ez_nmM (fun M1 eM1 => ?_)
  refine ez_aload_n hX 0 dX11_tryWith_14 rfl ?_
  refine ez_getr hX kc_0 rfl (Nat.le_of_ble_eq_true rfl) lc_0 (Nat.le_of_ble_eq_true rfl) inX11 79 rfl rc_0_5 wf_X11_40 dX11_tryWith_15 ?_
  refine ez_getr hX kc_79 rfl (Nat.le_of_ble_eq_true rfl) lc_79 (Nat.le_of_ble_eq_true rfl) inX10 80 rfl rc_79_0 wf_X11_110 dX11_tryWith_18 ?_
  refine ez_iload_n hX 2 dX11_tryWith_21 rfl ?_
  refine ez_iload_n hX 3 dX11_tryWith_22 rfl ?_
  refine ez_callS hX (N0 := 0) (As := [.ref (ez_B X + 80), .int name, .int v]) (st := []) (ec_X11_put _ _ _ 80 4 kc_80 lc_80 M1 name v) (Or.inl rfl) wm_X11_101 ws_X11_put wy_X11_put rfl wd_X11_put wi_X11 (ez_rok hRm rfl) (Nat.le_of_ble_eq_true rfl) dX11_tryWith_23 ?_
  refine ez_nmM (fun M2 eM2 => ?_)
  refine ez_aload_n hX 0 dX11_tryWith_26 rfl ?_
  refine ez_getr hX kc_0 rfl (Nat.le_of_ble_eq_true rfl) lc_0 (Nat.le_of_ble_eq_true rfl) inX11 82 rfl rc_0_6 wf_X11_49 dX11_tryWith_27 ?_
  refine ez_iload_n hX 1 dX11_tryWith_30 rfl ?_
  refine ez_callV hX (N0 := 0) (As := [.int line]) (st := []) kc_82 (Nat.le_of_ble_eq_true rfl) lc_82 rfl (ec_X3_start _ _ _ 79 ew_79 M2 line) (Or.inl rfl) wm_X11_116 wv_X3_start we_X3_start wy_X3_start rfl wd_X3_start wi_X3 (ez_rok hRm rfl) (Nat.le_of_ble_eq_true rfl) dX11_tryWith_31 ?_
  refine ez_nmM (fun M3 eM3 => ?_)
  refine ez_aload_n hX 0 dX11_tryWith_34 rfl ?_
  refine ez_getr hX kc_0 rfl (Nat.le_of_ble_eq_true rfl) lc_0 (Nat.le_of_ble_eq_true rfl) inX11 82 rfl rc_0_6 wf_X11_49 dX11_tryWith_35 ?_
  refine ez_sipush hX (300 : Int32) dX11_tryWith_38 (by decide) ?_
  refine ez_callV hX (N0 := 0) (As := [.int (300 : Int32)]) (st := []) kc_82 (Nat.le_of_ble_eq_true rfl) lc_82 rfl (ec_X3_move _ _ _ 79 ew_79 M3 (300 : Int32)) (Or.inl rfl) wm_X11_126 wv_X3_move we_X3_move wy_X3_move rfl wd_X3_move wi_X3 (ez_rok hRm rfl) (Nat.le_of_ble_eq_true rfl) dX11_tryWith_41 ?_
  refine ez_nmIM (fun r4 M5 eM5 => ?_)
  refine ez_pop hX dX11_tryWith_44 rfl ?_
  refine ez_aload_n hX 0 dX11_tryWith_45 rfl ?_
  refine ez_getr hX kc_0 rfl (Nat.le_of_ble_eq_true rfl) lc_0 (Nat.le_of_ble_eq_true rfl) inX11 82 rfl rc_0_6 wf_X11_49 dX11_tryWith_46 ?_
  refine ez_getr hX kc_82 rfl (Nat.le_of_ble_eq_true rfl) lc_82 (Nat.le_of_ble_eq_true rfl) inX3 83 rfl rc_82_0 wf_X11_120 dX11_tryWith_49 ?_
  have ht : t0 = M5 := hT.symm.trans (by simp only [et_X11_tryWith, eM1, eM2, eM3, eM5])
  subst ht
  exact ez_aret hX hQ dX11_tryWith_52 (Or.inl ⟨_, rfl⟩) (Or.inr ⟨_, rfl⟩) rfl rfl

def et_X11_on  (M : em_M) (line : Int32) (what : Int32) : Int64 × em_M :=
  let r1 := et_X2_has M line
  (if r1 = 0 then ((-9223372036854775808 : Int64), M) else let M3 := et_X10_copyFrom 79 21 M
  let M4 := et_X11_tryOut M3 line
  let r5 := et_X4_answer 83 M4 what
  (r5, M4))
set_option maxHeartbeats 4000000 in
set_option maxRecDepth 100000 in
theorem ec_X11_on (l : Launch) (D : em_G) (B : Nat) (M : em_M) (line : Int32) (what : Int32) : em_C l D B yX11_on cX11_on 3 (some .long) 7 165 0 0 false [.ref (B + 0), .int line, .int what] 132 em_R M (some (.long (et_X11_on M line what).1)) 132 em_R ((et_X11_on M line what).2) := by
  refine em_C_of RX11 [(0, .ref (B + 0)), (1, .int line), (2, .int what)] (by decide) rfl rfl (Nat.le_of_ble_eq_true rfl) ?_
  rintro X rfl rfl rfl hRm hnL hnm hsz hX hQ
  obtain ⟨t0, hT⟩ : ∃ tz, et_X11_on M line what = tz := ⟨_, rfl⟩
  rw [hT] at hQ
  refine ez_aload_n hX 0 dX11_on_0 rfl ?_
  refine ez_getr hX kc_0 rfl (Nat.le_of_ble_eq_true rfl) lc_0 (Nat.le_of_ble_eq_true rfl) inX11 1 rfl rc_0_0 wf_X11_14 dX11_on_1 ?_
  refine ez_iload_n hX 1 dX11_on_4 rfl ?_
  refine ez_callV hX (N0 := 0) (As := [.int line]) (st := []) kc_1 (Nat.le_of_ble_eq_true rfl) lc_1 rfl (ec_X2_has _ _ _ M line) (Or.inl rfl) wm_X11_79 wv_X2_has we_X2_has wy_X2_has rfl wd_X2_has wi_X2 (ez_rok hRm rfl) (Nat.le_of_ble_eq_true rfl) dX11_on_5 ?_
  refine ez_nmI (fun r1 er1 => ?_)
  refine ez_if_ne hX 15 dX11_on_8 (by decide) (fun c2 => ?_) (fun c2 => ?_)
  · -- c2 jump
    refine ez_aload_n hX 0 dX11_on_15 rfl ?_
    refine ez_getr hX kc_0 rfl (Nat.le_of_ble_eq_true rfl) lc_0 (Nat.le_of_ble_eq_true rfl) inX11 79 rfl rc_0_5 wf_X11_40 dX11_on_16 ?_
    refine ez_aload_n hX 0 dX11_on_19 rfl ?_
    refine ez_getr hX kc_0 rfl (Nat.le_of_ble_eq_true rfl) lc_0 (Nat.le_of_ble_eq_true rfl) inX11 11 rfl rc_0_2 wf_X11_30 dX11_on_20 ?_
    refine ez_getr hX kc_11 rfl (Nat.le_of_ble_eq_true rfl) lc_11 (Nat.le_of_ble_eq_true rfl) inX1 21 rfl rc_11_0 wf_X11_90 dX11_on_23 ?_
    refine ez_callV hX (N0 := 0) (As := [.ref (ez_B X + 21)]) (st := []) kc_79 (Nat.le_of_ble_eq_true rfl) lc_79 rfl (ec_X10_copyFrom _ _ _ 79 ew_79 21 ew_21 M) (Or.inl rfl) wm_X11_136 wv_X10_copyFrom we_X10_copyFrom wy_X10_copyFrom rfl wd_X10_copyFrom wi_X10 (ez_rok hRm rfl) (Nat.le_of_ble_eq_true rfl) dX11_on_26 ?_
    refine ez_nmM (fun M3 eM3 => ?_)
    refine ez_aload_n hX 0 dX11_on_29 rfl ?_
    refine ez_iload_n hX 1 dX11_on_30 rfl ?_
    refine ez_callV hX (N0 := 0) (As := [.int line]) (st := []) kc_0 (Nat.le_of_ble_eq_true rfl) lc_0 rfl (ec_X11_tryOut _ _ _ M3 line) (Or.inl rfl) wm_X11_140 wv_X11_tryOut we_X11_tryOut wy_X11_tryOut rfl wd_X11_tryOut wi_X11 (ez_rok hRm rfl) (Nat.le_of_ble_eq_true rfl) dX11_on_31 ?_
    refine ez_nmM (fun M4 eM4 => ?_)
    refine ez_iload_n hX 2 dX11_on_34 rfl ?_
    refine ez_callV hX (N0 := 0) (As := [.int what]) (st := []) kc_83 (Nat.le_of_ble_eq_true rfl) lc_83 rfl (ec_X4_answer _ _ _ 83 eo_83 M4 what) (Or.inl rfl) wm_X11_133 wv_X4_answer we_X4_answer wy_X4_answer rfl wd_X4_answer wi_X4 (ez_rok hRm rfl) (Nat.le_of_ble_eq_true rfl) dX11_on_35 ?_
    refine ez_nmL (fun r5 er5 => ?_)
    have ht : t0 = (r5, M4) := hT.symm.trans (by simp only [et_X11_on, er1, if_neg c2, eM3, eM4, er5])
    subst ht
    exact ez_lret hX hQ dX11_on_38 rfl rfl
  · -- c2 on
    refine ez_ldc2 hX wl_X11_108 dX11_on_11 ?_
    have ht : t0 = ((-9223372036854775808 : Int64), M) := hT.symm.trans (by simp only [et_X11_on, er1, if_pos c2])
    subst ht
    exact ez_lret hX hQ dX11_on_14 rfl rfl

def et_X11_see  (M : em_M) (place : Int32) (v : Int32) : Int32 × em_M :=
  (if place = (-1 : Int32) then let q9 := et_X6_empty 12 M
  let r7 := q9.1
  let M8 := q9.2
  (r7, M8) else (if place < 0 then ((-2 : Int32), M) else (if place < (40 : Int32) then let q6 := et_X6_add 12 M place v
  let r4 := q6.1
  let M5 := q6.2
  (r4, M5) else ((-2 : Int32), M))))
set_option maxHeartbeats 4000000 in
set_option maxRecDepth 100000 in
theorem ec_X11_see (l : Launch) (D : em_G) (B : Nat) (M : em_M) (place : Int32) (v : Int32) : em_C l D B yX11_see cX11_see 3 (some .int) 2 44 0 0 false [.ref (B + 0), .int place, .int v] 132 em_R M (some (.int (et_X11_see M place v).1)) 132 em_R ((et_X11_see M place v).2) := by
  refine em_C_of RX11 [(0, .ref (B + 0)), (1, .int place), (2, .int v)] (by decide) rfl rfl (Nat.le_of_ble_eq_true rfl) ?_
  rintro X rfl rfl rfl hRm hnL hnm hsz hX hQ
  obtain ⟨t0, hT⟩ : ∃ tz, et_X11_see M place v = tz := ⟨_, rfl⟩
  rw [hT] at hQ
  refine ez_iload_n hX 1 dX11_see_0 rfl ?_
  refine ez_iconst hX (-1 : Int32) dX11_see_1 (by decide) ?_
  refine ez_icmp_ne hX 16 dX11_see_2 (by decide) (fun c1 => ?_) (fun c1 => ?_)
  · -- c1 jump
    refine ez_iload_n hX 1 dX11_see_16 rfl ?_
    refine ez_if_lt hX 26 dX11_see_17 (by decide) (fun c2 => ?_) (fun c2 => ?_)
    · -- c2 jump
      refine ez_bipush hX (-2 : Int32) dX11_see_26 (by decide) ?_
      refine ez_goto hX 43 dX11_see_28 (by decide) ?_
      have ht : t0 = ((-2 : Int32), M) := hT.symm.trans (by simp only [et_X11_see, if_neg c1, if_pos c2])
      subst ht
      exact ez_iret hX hQ dX11_see_43 rfl rfl
    · -- c2 on
      refine ez_iload_n hX 1 dX11_see_20 rfl ?_
      refine ez_bipush hX (40 : Int32) dX11_see_21 (by decide) ?_
      refine ez_icmp_lt hX 31 dX11_see_23 (by decide) (fun c3 => ?_) (fun c3 => ?_)
      · -- c3 jump
        refine ez_aload_n hX 0 dX11_see_31 rfl ?_
        refine ez_getr hX kc_0 rfl (Nat.le_of_ble_eq_true rfl) lc_0 (Nat.le_of_ble_eq_true rfl) inX11 11 rfl rc_0_2 wf_X11_30 dX11_see_32 ?_
        refine ez_getr hX kc_11 rfl (Nat.le_of_ble_eq_true rfl) lc_11 (Nat.le_of_ble_eq_true rfl) inX1 12 rfl rc_11_2 wf_X11_144 dX11_see_35 ?_
        refine ez_iload_n hX 1 dX11_see_38 rfl ?_
        refine ez_iload_n hX 2 dX11_see_39 rfl ?_
        refine ez_callV hX (N0 := 0) (As := [.int place, .int v]) (st := []) kc_12 (Nat.le_of_ble_eq_true rfl) lc_12 rfl (ec_X6_add _ _ _ 12 er_12 M place v) (Or.inl rfl) wm_X11_153 wv_X6_add we_X6_add wy_X6_add rfl wd_X6_add wi_X6 (ez_rok hRm rfl) (Nat.le_of_ble_eq_true rfl) dX11_see_40 ?_
        refine ez_nmIM (fun r4 M5 eM5 => ?_)
        have ht : t0 = (r4, M5) := hT.symm.trans (by simp only [et_X11_see, if_neg c1, if_neg c2, if_pos c3, eM5])
        subst ht
        exact ez_iret hX hQ dX11_see_43 rfl rfl
      · -- c3 on
        refine ez_bipush hX (-2 : Int32) dX11_see_26 (by decide) ?_
        refine ez_goto hX 43 dX11_see_28 (by decide) ?_
        have ht : t0 = ((-2 : Int32), M) := hT.symm.trans (by simp only [et_X11_see, if_neg c1, if_neg c2, if_neg c3])
        subst ht
        exact ez_iret hX hQ dX11_see_43 rfl rfl
  · -- c1 on
    refine ez_aload_n hX 0 dX11_see_5 rfl ?_
    refine ez_getr hX kc_0 rfl (Nat.le_of_ble_eq_true rfl) lc_0 (Nat.le_of_ble_eq_true rfl) inX11 11 rfl rc_0_2 wf_X11_30 dX11_see_6 ?_
    refine ez_getr hX kc_11 rfl (Nat.le_of_ble_eq_true rfl) lc_11 (Nat.le_of_ble_eq_true rfl) inX1 12 rfl rc_11_2 wf_X11_144 dX11_see_9 ?_
    refine ez_callV hX (N0 := 0) (As := []) (st := []) kc_12 (Nat.le_of_ble_eq_true rfl) lc_12 rfl (ec_X6_empty _ _ _ 12 er_12 M) (Or.inl rfl) wm_X11_148 wv_X6_empty we_X6_empty wy_X6_empty rfl wd_X6_empty wi_X6 (ez_rok hRm rfl) (Nat.le_of_ble_eq_true rfl) dX11_see_12 ?_
    refine ez_nmIM (fun r7 M8 eM8 => ?_)
    have ht : t0 = (r7, M8) := hT.symm.trans (by simp only [et_X11_see, if_pos c1, eM8])
    subst ht
    exact ez_iret hX hQ dX11_see_15 rfl rfl

def et_X11_fits_39   : Nat → em_M → Int32 → Int32 → Int32 → Int32 → Int32 → Int32 → Int32 × em_M
  | 0, M, _, _, _, _, _, _ => (0, M)
  | fu + 1, M, line, name, what, fitting, least, v =>
  (if (20 : Int32) ≤ v then (if what = 0 then (fitting, M) else (least, M)) else let M9 := et_X11_tryWith M line name v
  let r10 := et_X4_shows 83 12 M9
  (if r10 = 0 then et_X11_fits_39 fu M9 line name what fitting least (v + (1 : Int32)) else (if least = (-5 : Int32) then et_X11_fits_39 fu M9 line name what (fitting + (1 : Int32)) v (v + (1 : Int32)) else et_X11_fits_39 fu M9 line name what (fitting + (1 : Int32)) least (v + (1 : Int32)))))
def et_X11_fits  (M : em_M) (line : Int32) (name : Int32) (what : Int32) : Int32 × em_M :=
  let r1 := et_X2_has M line
  (if r1 = 0 then ((-1 : Int32), M) else let r3 := et_X11_isName M name
  (if r3 = 0 then ((-1 : Int32), M) else (if what < 0 then ((-1 : Int32), M) else (if what ≤ (1 : Int32) then et_X11_fits_39 21 M line name what (0 : Int32) (-5 : Int32) (0 : Int32) else ((-1 : Int32), M)))))
set_option maxHeartbeats 4000000 in
set_option maxRecDepth 100000 in
theorem el_X11_fits_39 (X : em_X)    (t0 : Int32 × em_M) (hRm : ez_rm X = { frames := 7, cells := 0, slots := 0, locals := 167 }) (hnL : ez_nL X = 7) (hX : ez_ok X cX11_fits RX11) (hQ : ez_ret X (some .int) (some (.int t0.1)) 132 em_R (t0.2) 0 0) : ∀ (fu : Nat) (M : em_M) (line : Int32) (name : Int32) (what : Int32) (fitting : Int32) (least : Int32) (v : Int32), ez_cnt v (20 : Int32) fu → et_X11_fits_39  fu M line name what fitting least v = t0 → ez_Z X 132 em_R M 0 0 39 [(0, .ref (ez_B X + 0)), (1, .int line), (2, .int name), (3, .int what), (4, .int fitting), (5, .int least), (6, .int v)] [] := by
  intro fu
  induction fu with
  | zero =>
    intro M line name what fitting least v hc hT
    exact absurd hc ez_cntz
  | succ fu ih =>
    intro M line name what fitting least v hc hT
    refine ez_iload hX 6 dX11_fits_39 rfl ?_
    refine ez_bipush hX (20 : Int32) dX11_fits_41 (by decide) ?_
    refine ez_icmp_ge hX 92 dX11_fits_43 (by decide) (fun c7 => ?_) (fun c7 => ?_)
    · -- c7 jump
      refine ez_iload_n hX 3 dX11_fits_92 rfl ?_
      refine ez_if_ne hX 101 dX11_fits_93 (by decide) (fun c8 => ?_) (fun c8 => ?_)
      · -- c8 jump
        refine ez_iload hX 5 dX11_fits_101 rfl ?_
        have ht : t0 = (least, M) := hT.symm.trans (by simp only [et_X11_fits_39, if_pos c7, if_neg c8])
        subst ht
        exact ez_iret hX hQ dX11_fits_103 rfl rfl
      · -- c8 on
        refine ez_iload hX 4 dX11_fits_96 rfl ?_
        refine ez_goto hX 103 dX11_fits_98 (by decide) ?_
        have ht : t0 = (fitting, M) := hT.symm.trans (by simp only [et_X11_fits_39, if_pos c7, if_pos c8])
        subst ht
        exact ez_iret hX hQ dX11_fits_103 rfl rfl
    · -- c7 on
      refine ez_aload_n hX 0 dX11_fits_46 rfl ?_
      refine ez_iload_n hX 1 dX11_fits_47 rfl ?_
      refine ez_iload_n hX 2 dX11_fits_48 rfl ?_
      refine ez_iload hX 6 dX11_fits_49 rfl ?_
      refine ez_callV hX (N0 := 0) (As := [.int line, .int name, .int v]) (st := []) kc_0 (Nat.le_of_ble_eq_true rfl) lc_0 rfl (ec_X11_tryWith _ _ _ M line name v) (Or.inl rfl) wm_X11_156 wv_X11_tryWith we_X11_tryWith wy_X11_tryWith rfl wd_X11_tryWith wi_X11 (ez_rok hRm rfl) (Nat.le_of_ble_eq_true rfl) dX11_fits_51 ?_
      refine ez_nmM (fun M9 eM9 => ?_)
      refine ez_aload_n hX 0 dX11_fits_54 rfl ?_
      refine ez_getr hX kc_0 rfl (Nat.le_of_ble_eq_true rfl) lc_0 (Nat.le_of_ble_eq_true rfl) inX11 11 rfl rc_0_2 wf_X11_30 dX11_fits_55 ?_
      refine ez_getr hX kc_11 rfl (Nat.le_of_ble_eq_true rfl) lc_11 (Nat.le_of_ble_eq_true rfl) inX1 12 rfl rc_11_2 wf_X11_144 dX11_fits_58 ?_
      refine ez_callV hX (N0 := 0) (As := [.ref (ez_B X + 12)]) (st := []) kc_83 (Nat.le_of_ble_eq_true rfl) lc_83 rfl (ec_X4_shows _ _ _ 83 eo_83 12 er_12 M9) (Or.inl rfl) wm_X11_160 wv_X4_shows we_X4_shows wy_X4_shows rfl wd_X4_shows wi_X4 (ez_rok hRm rfl) (Nat.le_of_ble_eq_true rfl) dX11_fits_61 ?_
      refine ez_nmI (fun r10 er10 => ?_)
      refine ez_if_eq hX 86 dX11_fits_64 (by decide) (fun c11 => ?_) (fun c11 => ?_)
      · -- c11 jump
        refine ez_iinc hX (v + (1 : Int32)) 6 [(6, .int (v + (1 : Int32))), (0, .ref (ez_B X + 0)), (1, .int line), (2, .int name), (3, .int what), (4, .int fitting), (5, .int least)] dX11_fits_86 rfl rfl (ez_lt hnL rfl) rfl ?_
        refine ez_goto hX 39 dX11_fits_89 (by decide) ?_
        refine ez_lv [1, 2, 3, 4, 5, 6, 0] rfl ?_
        exact ih M9 line name what fitting least (v + (1 : Int32)) (ez_cnts' hc c7) (Eq.trans (by simp only [et_X11_fits_39, if_neg c7, eM9, er10, if_pos c11]) hT)
      · -- c11 on
        refine ez_iinc hX (fitting + (1 : Int32)) 4 [(4, .int (fitting + (1 : Int32))), (0, .ref (ez_B X + 0)), (1, .int line), (2, .int name), (3, .int what), (5, .int least), (6, .int v)] dX11_fits_67 rfl rfl (ez_lt hnL rfl) rfl ?_
        refine ez_iload hX 5 dX11_fits_70 rfl ?_
        refine ez_bipush hX (-5 : Int32) dX11_fits_72 (by decide) ?_
        refine ez_icmp_ne hX 82 dX11_fits_74 (by decide) (fun c12 => ?_) (fun c12 => ?_)
        · -- c12 jump
          refine ez_iload hX 5 dX11_fits_82 rfl ?_
          refine ez_istore hX [(5, .int least), (4, .int (fitting + (1 : Int32))), (0, .ref (ez_B X + 0)), (1, .int line), (2, .int name), (3, .int what), (6, .int v)] dX11_fits_84 (ez_lt hnL rfl) rfl ?_
          refine ez_iinc hX (v + (1 : Int32)) 6 [(6, .int (v + (1 : Int32))), (5, .int least), (4, .int (fitting + (1 : Int32))), (0, .ref (ez_B X + 0)), (1, .int line), (2, .int name), (3, .int what)] dX11_fits_86 rfl rfl (ez_lt hnL rfl) rfl ?_
          refine ez_goto hX 39 dX11_fits_89 (by decide) ?_
          refine ez_lv [3, 4, 5, 6, 2, 1, 0] rfl ?_
          exact ih M9 line name what (fitting + (1 : Int32)) least (v + (1 : Int32)) (ez_cnts' hc c7) (Eq.trans (by simp only [et_X11_fits_39, if_neg c7, eM9, er10, if_neg c11, if_neg c12]) hT)
        · -- c12 on
          refine ez_iload hX 6 dX11_fits_77 rfl ?_
          refine ez_goto hX 84 dX11_fits_79 (by decide) ?_
          refine ez_istore hX [(5, .int v), (4, .int (fitting + (1 : Int32))), (0, .ref (ez_B X + 0)), (1, .int line), (2, .int name), (3, .int what), (6, .int v)] dX11_fits_84 (ez_lt hnL rfl) rfl ?_
          refine ez_iinc hX (v + (1 : Int32)) 6 [(6, .int (v + (1 : Int32))), (5, .int v), (4, .int (fitting + (1 : Int32))), (0, .ref (ez_B X + 0)), (1, .int line), (2, .int name), (3, .int what)] dX11_fits_86 rfl rfl (ez_lt hnL rfl) rfl ?_
          refine ez_goto hX 39 dX11_fits_89 (by decide) ?_
          refine ez_lv [3, 4, 5, 6, 2, 1, 0] rfl ?_
          exact ih M9 line name what (fitting + (1 : Int32)) v (v + (1 : Int32)) (ez_cnts' hc c7) (Eq.trans (by simp only [et_X11_fits_39, if_neg c7, eM9, er10, if_neg c11, if_pos c12]) hT)
set_option maxHeartbeats 4000000 in
set_option maxRecDepth 100000 in
theorem ec_X11_fits (l : Launch) (D : em_G) (B : Nat) (M : em_M) (line : Int32) (name : Int32) (what : Int32) : em_C l D B yX11_fits cX11_fits 7 (some .int) 7 167 0 0 false [.ref (B + 0), .int line, .int name, .int what] 132 em_R M (some (.int (et_X11_fits M line name what).1)) 132 em_R ((et_X11_fits M line name what).2) := by
  refine em_C_of RX11 [(0, .ref (B + 0)), (1, .int line), (2, .int name), (3, .int what)] (by decide) rfl rfl (Nat.le_of_ble_eq_true rfl) ?_
  rintro X rfl rfl rfl hRm hnL hnm hsz hX hQ
  obtain ⟨t0, hT⟩ : ∃ tz, et_X11_fits M line name what = tz := ⟨_, rfl⟩
  rw [hT] at hQ
  refine ez_aload_n hX 0 dX11_fits_0 rfl ?_
  refine ez_getr hX kc_0 rfl (Nat.le_of_ble_eq_true rfl) lc_0 (Nat.le_of_ble_eq_true rfl) inX11 1 rfl rc_0_0 wf_X11_14 dX11_fits_1 ?_
  refine ez_iload_n hX 1 dX11_fits_4 rfl ?_
  refine ez_callV hX (N0 := 0) (As := [.int line]) (st := []) kc_1 (Nat.le_of_ble_eq_true rfl) lc_1 rfl (ec_X2_has _ _ _ M line) (Or.inl rfl) wm_X11_79 wv_X2_has we_X2_has wy_X2_has rfl wd_X2_has wi_X2 (ez_rok hRm rfl) (Nat.le_of_ble_eq_true rfl) dX11_fits_5 ?_
  refine ez_nmI (fun r1 er1 => ?_)
  refine ez_if_eq hX 27 dX11_fits_8 (by decide) (fun c2 => ?_) (fun c2 => ?_)
  · -- c2 jump
    refine ez_iconst hX (-1 : Int32) dX11_fits_27 (by decide) ?_
    have ht : t0 = ((-1 : Int32), M) := hT.symm.trans (by simp only [et_X11_fits, er1, if_pos c2])
    subst ht
    exact ez_iret hX hQ dX11_fits_28 rfl rfl
  · -- c2 on
    refine ez_iload_n hX 2 dX11_fits_11 rfl ?_
    refine ez_callS hX (N0 := 0) (As := [.int name]) (st := []) (ec_X11_isName _ _ _ M name) (Or.inl rfl) wm_X11_105 ws_X11_isName wy_X11_isName rfl wd_X11_isName wi_X11 (ez_rok hRm rfl) (Nat.le_of_ble_eq_true rfl) dX11_fits_12 ?_
    refine ez_nmI (fun r3 er3 => ?_)
    refine ez_if_eq hX 27 dX11_fits_15 (by decide) (fun c4 => ?_) (fun c4 => ?_)
    · -- c4 jump
      refine ez_iconst hX (-1 : Int32) dX11_fits_27 (by decide) ?_
      have ht : t0 = ((-1 : Int32), M) := hT.symm.trans (by simp only [et_X11_fits, er1, if_neg c2, er3, if_pos c4])
      subst ht
      exact ez_iret hX hQ dX11_fits_28 rfl rfl
    · -- c4 on
      refine ez_iload_n hX 3 dX11_fits_18 rfl ?_
      refine ez_if_lt hX 27 dX11_fits_19 (by decide) (fun c5 => ?_) (fun c5 => ?_)
      · -- c5 jump
        refine ez_iconst hX (-1 : Int32) dX11_fits_27 (by decide) ?_
        have ht : t0 = ((-1 : Int32), M) := hT.symm.trans (by simp only [et_X11_fits, er1, if_neg c2, er3, if_neg c4, if_pos c5])
        subst ht
        exact ez_iret hX hQ dX11_fits_28 rfl rfl
      · -- c5 on
        refine ez_iload_n hX 3 dX11_fits_22 rfl ?_
        refine ez_iconst hX (1 : Int32) dX11_fits_23 (by decide) ?_
        refine ez_icmp_le hX 29 dX11_fits_24 (by decide) (fun c6 => ?_) (fun c6 => ?_)
        · -- c6 jump
          refine ez_iconst hX (0 : Int32) dX11_fits_29 (by decide) ?_
          refine ez_istore hX [(4, .int (0 : Int32)), (0, .ref (ez_B X + 0)), (1, .int line), (2, .int name), (3, .int what)] dX11_fits_30 (ez_lt hnL rfl) rfl ?_
          refine ez_bipush hX (-5 : Int32) dX11_fits_32 (by decide) ?_
          refine ez_istore hX [(5, .int (-5 : Int32)), (4, .int (0 : Int32)), (0, .ref (ez_B X + 0)), (1, .int line), (2, .int name), (3, .int what)] dX11_fits_34 (ez_lt hnL rfl) rfl ?_
          refine ez_iconst hX (0 : Int32) dX11_fits_36 (by decide) ?_
          refine ez_istore hX [(6, .int (0 : Int32)), (5, .int (-5 : Int32)), (4, .int (0 : Int32)), (0, .ref (ez_B X + 0)), (1, .int line), (2, .int name), (3, .int what)] dX11_fits_37 (ez_lt hnL rfl) rfl ?_
          refine ez_lv [3, 4, 5, 6, 2, 1, 0] rfl ?_
          exact el_X11_fits_39 X  t0 hRm hnL hX hQ 21 M line name what (0 : Int32) (-5 : Int32) (0 : Int32) (ez_cnt0 (20 : Int32)) (Eq.trans (by simp only [et_X11_fits, er1, if_neg c2, er3, if_neg c4, if_neg c5, if_pos c6]) hT)
        · -- c6 on
          refine ez_iconst hX (-1 : Int32) dX11_fits_27 (by decide) ?_
          have ht : t0 = ((-1 : Int32), M) := hT.symm.trans (by simp only [et_X11_fits, er1, if_neg c2, er3, if_neg c4, if_neg c5, if_neg c6])
          subst ht
          exact ez_iret hX hQ dX11_fits_28 rfl rfl

def et_X11_alike  (M : em_M) (line : Int32) (other : Int32) : Int32 × em_M :=
  let r1 := et_X2_has M line
  (if r1 = 0 then ((-1 : Int32), M) else let r3 := et_X2_has M other
  (if r3 = 0 then ((-1 : Int32), M) else let M5 := et_X10_copyFrom 79 21 M
  let M6 := et_X11_tryOut M5 line
  let M7 := et_X4_copyFrom 103 83 M6
  let M8 := et_X10_copyFrom 79 21 M7
  let M9 := et_X11_tryOut M8 other
  let r10 := et_X4_sameAs 83 103 M9
  (if r10 = 0 then ((0 : Int32), M9) else ((1 : Int32), M9))))
set_option maxHeartbeats 4000000 in
set_option maxRecDepth 100000 in
theorem ec_X11_alike (l : Launch) (D : em_G) (B : Nat) (M : em_M) (line : Int32) (other : Int32) : em_C l D B yX11_alike cX11_alike 3 (some .int) 7 165 0 0 false [.ref (B + 0), .int line, .int other] 132 em_R M (some (.int (et_X11_alike M line other).1)) 132 em_R ((et_X11_alike M line other).2) := by
  refine em_C_of RX11 [(0, .ref (B + 0)), (1, .int line), (2, .int other)] (by decide) rfl rfl (Nat.le_of_ble_eq_true rfl) ?_
  rintro X rfl rfl rfl hRm hnL hnm hsz hX hQ
  obtain ⟨t0, hT⟩ : ∃ tz, et_X11_alike M line other = tz := ⟨_, rfl⟩
  rw [hT] at hQ
  refine ez_aload_n hX 0 dX11_alike_0 rfl ?_
  refine ez_getr hX kc_0 rfl (Nat.le_of_ble_eq_true rfl) lc_0 (Nat.le_of_ble_eq_true rfl) inX11 1 rfl rc_0_0 wf_X11_14 dX11_alike_1 ?_
  refine ez_iload_n hX 1 dX11_alike_4 rfl ?_
  refine ez_callV hX (N0 := 0) (As := [.int line]) (st := []) kc_1 (Nat.le_of_ble_eq_true rfl) lc_1 rfl (ec_X2_has _ _ _ M line) (Or.inl rfl) wm_X11_79 wv_X2_has we_X2_has wy_X2_has rfl wd_X2_has wi_X2 (ez_rok hRm rfl) (Nat.le_of_ble_eq_true rfl) dX11_alike_5 ?_
  refine ez_nmI (fun r1 er1 => ?_)
  refine ez_if_eq hX 22 dX11_alike_8 (by decide) (fun c2 => ?_) (fun c2 => ?_)
  · -- c2 jump
    refine ez_iconst hX (-1 : Int32) dX11_alike_22 (by decide) ?_
    have ht : t0 = ((-1 : Int32), M) := hT.symm.trans (by simp only [et_X11_alike, er1, if_pos c2])
    subst ht
    exact ez_iret hX hQ dX11_alike_23 rfl rfl
  · -- c2 on
    refine ez_aload_n hX 0 dX11_alike_11 rfl ?_
    refine ez_getr hX kc_0 rfl (Nat.le_of_ble_eq_true rfl) lc_0 (Nat.le_of_ble_eq_true rfl) inX11 1 rfl rc_0_0 wf_X11_14 dX11_alike_12 ?_
    refine ez_iload_n hX 2 dX11_alike_15 rfl ?_
    refine ez_callV hX (N0 := 0) (As := [.int other]) (st := []) kc_1 (Nat.le_of_ble_eq_true rfl) lc_1 rfl (ec_X2_has _ _ _ M other) (Or.inl rfl) wm_X11_79 wv_X2_has we_X2_has wy_X2_has rfl wd_X2_has wi_X2 (ez_rok hRm rfl) (Nat.le_of_ble_eq_true rfl) dX11_alike_16 ?_
    refine ez_nmI (fun r3 er3 => ?_)
    refine ez_if_ne hX 24 dX11_alike_19 (by decide) (fun c4 => ?_) (fun c4 => ?_)
    · -- c4 jump
      refine ez_aload_n hX 0 dX11_alike_24 rfl ?_
      refine ez_getr hX kc_0 rfl (Nat.le_of_ble_eq_true rfl) lc_0 (Nat.le_of_ble_eq_true rfl) inX11 79 rfl rc_0_5 wf_X11_40 dX11_alike_25 ?_
      refine ez_aload_n hX 0 dX11_alike_28 rfl ?_
      refine ez_getr hX kc_0 rfl (Nat.le_of_ble_eq_true rfl) lc_0 (Nat.le_of_ble_eq_true rfl) inX11 11 rfl rc_0_2 wf_X11_30 dX11_alike_29 ?_
      refine ez_getr hX kc_11 rfl (Nat.le_of_ble_eq_true rfl) lc_11 (Nat.le_of_ble_eq_true rfl) inX1 21 rfl rc_11_0 wf_X11_90 dX11_alike_32 ?_
      refine ez_callV hX (N0 := 0) (As := [.ref (ez_B X + 21)]) (st := []) kc_79 (Nat.le_of_ble_eq_true rfl) lc_79 rfl (ec_X10_copyFrom _ _ _ 79 ew_79 21 ew_21 M) (Or.inl rfl) wm_X11_136 wv_X10_copyFrom we_X10_copyFrom wy_X10_copyFrom rfl wd_X10_copyFrom wi_X10 (ez_rok hRm rfl) (Nat.le_of_ble_eq_true rfl) dX11_alike_35 ?_
      refine ez_nmM (fun M5 eM5 => ?_)
      refine ez_aload_n hX 0 dX11_alike_38 rfl ?_
      refine ez_getr hX kc_0 rfl (Nat.le_of_ble_eq_true rfl) lc_0 (Nat.le_of_ble_eq_true rfl) inX11 103 rfl rc_0_7 wf_X11_56 dX11_alike_39 ?_
      refine ez_aload_n hX 0 dX11_alike_42 rfl ?_
      refine ez_iload_n hX 1 dX11_alike_43 rfl ?_
      refine ez_callV hX (N0 := 0) (As := [.int line]) (st := [.ref (ez_B X + 103)]) kc_0 (Nat.le_of_ble_eq_true rfl) lc_0 rfl (ec_X11_tryOut _ _ _ M5 line) (Or.inl rfl) wm_X11_140 wv_X11_tryOut we_X11_tryOut wy_X11_tryOut rfl wd_X11_tryOut wi_X11 (ez_rok hRm rfl) (Nat.le_of_ble_eq_true rfl) dX11_alike_44 ?_
      refine ez_nmM (fun M6 eM6 => ?_)
      refine ez_callV hX (N0 := 0) (As := [.ref (ez_B X + 83)]) (st := []) kc_103 (Nat.le_of_ble_eq_true rfl) lc_103 rfl (ec_X4_copyFrom _ _ _ 103 eo_103 83 eo_83 M6) (Or.inl rfl) wm_X11_164 wv_X4_copyFrom we_X4_copyFrom wy_X4_copyFrom rfl wd_X4_copyFrom wi_X4 (ez_rok hRm rfl) (Nat.le_of_ble_eq_true rfl) dX11_alike_47 ?_
      refine ez_nmM (fun M7 eM7 => ?_)
      refine ez_aload_n hX 0 dX11_alike_50 rfl ?_
      refine ez_getr hX kc_0 rfl (Nat.le_of_ble_eq_true rfl) lc_0 (Nat.le_of_ble_eq_true rfl) inX11 79 rfl rc_0_5 wf_X11_40 dX11_alike_51 ?_
      refine ez_aload_n hX 0 dX11_alike_54 rfl ?_
      refine ez_getr hX kc_0 rfl (Nat.le_of_ble_eq_true rfl) lc_0 (Nat.le_of_ble_eq_true rfl) inX11 11 rfl rc_0_2 wf_X11_30 dX11_alike_55 ?_
      refine ez_getr hX kc_11 rfl (Nat.le_of_ble_eq_true rfl) lc_11 (Nat.le_of_ble_eq_true rfl) inX1 21 rfl rc_11_0 wf_X11_90 dX11_alike_58 ?_
      refine ez_callV hX (N0 := 0) (As := [.ref (ez_B X + 21)]) (st := []) kc_79 (Nat.le_of_ble_eq_true rfl) lc_79 rfl (ec_X10_copyFrom _ _ _ 79 ew_79 21 ew_21 M7) (Or.inl rfl) wm_X11_136 wv_X10_copyFrom we_X10_copyFrom wy_X10_copyFrom rfl wd_X10_copyFrom wi_X10 (ez_rok hRm rfl) (Nat.le_of_ble_eq_true rfl) dX11_alike_61 ?_
      refine ez_nmM (fun M8 eM8 => ?_)
      refine ez_aload_n hX 0 dX11_alike_64 rfl ?_
      refine ez_iload_n hX 2 dX11_alike_65 rfl ?_
      refine ez_callV hX (N0 := 0) (As := [.int other]) (st := []) kc_0 (Nat.le_of_ble_eq_true rfl) lc_0 rfl (ec_X11_tryOut _ _ _ M8 other) (Or.inl rfl) wm_X11_140 wv_X11_tryOut we_X11_tryOut wy_X11_tryOut rfl wd_X11_tryOut wi_X11 (ez_rok hRm rfl) (Nat.le_of_ble_eq_true rfl) dX11_alike_66 ?_
      refine ez_nmM (fun M9 eM9 => ?_)
      refine ez_aload_n hX 0 dX11_alike_69 rfl ?_
      refine ez_getr hX kc_0 rfl (Nat.le_of_ble_eq_true rfl) lc_0 (Nat.le_of_ble_eq_true rfl) inX11 103 rfl rc_0_7 wf_X11_56 dX11_alike_70 ?_
      refine ez_callV hX (N0 := 0) (As := [.ref (ez_B X + 103)]) (st := []) kc_83 (Nat.le_of_ble_eq_true rfl) lc_83 rfl (ec_X4_sameAs _ _ _ 83 eo_83 103 eo_103 M9) (Or.inl rfl) wm_X11_167 wv_X4_sameAs we_X4_sameAs wy_X4_sameAs rfl wd_X4_sameAs wi_X4 (ez_rok hRm rfl) (Nat.le_of_ble_eq_true rfl) dX11_alike_73 ?_
      refine ez_nmI (fun r10 er10 => ?_)
      refine ez_if_eq hX 83 dX11_alike_76 (by decide) (fun c11 => ?_) (fun c11 => ?_)
      · -- c11 jump
        refine ez_iconst hX (0 : Int32) dX11_alike_83 (by decide) ?_
        have ht : t0 = ((0 : Int32), M9) := hT.symm.trans (by simp only [et_X11_alike, er1, if_neg c2, er3, if_neg c4, eM5, eM6, eM7, eM8, eM9, er10, if_pos c11])
        subst ht
        exact ez_iret hX hQ dX11_alike_84 rfl rfl
      · -- c11 on
        refine ez_iconst hX (1 : Int32) dX11_alike_79 (by decide) ?_
        refine ez_goto hX 84 dX11_alike_80 (by decide) ?_
        have ht : t0 = ((1 : Int32), M9) := hT.symm.trans (by simp only [et_X11_alike, er1, if_neg c2, er3, if_neg c4, eM5, eM6, eM7, eM8, eM9, er10, if_neg c11])
        subst ht
        exact ez_iret hX hQ dX11_alike_84 rfl rfl
    · -- c4 on
      refine ez_iconst hX (-1 : Int32) dX11_alike_22 (by decide) ?_
      have ht : t0 = ((-1 : Int32), M) := hT.symm.trans (by simp only [et_X11_alike, er1, if_neg c2, er3, if_pos c4])
      subst ht
      exact ez_iret hX hQ dX11_alike_23 rfl rfl

theorem ez_i0 {x : Int32} (h : 1 ≤ x.toInt) : ¬ x = 0 := by
  intro q
  rw [q, show (0 : Int32).toInt = 0 by decide] at h
  omega
theorem ez_l0 {x : Int32} (h : 1 ≤ x.toInt) : ¬ x.toInt64 = 0 := by
  intro q
  have := congrArg Int64.toInt q
  rw [Int32.toInt_toInt64, show (0 : Int64).toInt = 0 by decide] at this
  omega
theorem ez_inc2 {d below : Int32} (hb : below < (2147483647 : Int32)) (hk : ¬ below < d) : (d + 1).toInt = d.toInt + 1 := ez_inc (N := 2147483647) (by
  rw [Int32.lt_iff_toInt_lt] at hb hk ⊢
  omega)
theorem ez_lt1 {d below : Int32} (hb : below < (2147483647 : Int32)) (hd : 2 ≤ d.toInt) (hk : ¬ below < d) : 2 ≤ (d + 1).toInt := by
  rw [ez_inc2 hb hk]
  omega
theorem ez_lt2 {d below : Int32} {f : Nat} (hb : below < (2147483647 : Int32)) (hc : below.toInt + 1 - d.toInt < ((f + 1 : Nat) : Int) ∧ 0 < f + 1) (hk : ¬ below < d) : below.toInt + 1 - (d + 1).toInt < (f : Int) ∧ 0 < f := by
  rw [ez_inc2 hb hk]
  rw [Int32.lt_iff_toInt_lt] at hk
  omega
theorem ez_lt3 {below : Int32} (h : 1 ≤ below.toInt) : below.toInt + 1 - (2 : Int32).toInt < ((below.toNatClampNeg + 1 : Nat) : Int) ∧ 0 < below.toNatClampNeg + 1 := by
  have : below.toNatClampNeg = below.toInt.toNat := rfl
  have e2 : (2 : Int32).toInt = 2 := by decide
  rw [e2]
  omega

def et_X11_inLowestTerms_6   : Nat → em_M → Int64 → Int32 → Int32 → Int32 → Int32 → Int64
  | 0, _, _, _, _, _, _ => 0
  | fu + 1, M, above, below, part, common, d =>
  (if below < d then (if part = 0 then (above / (common).toInt64) else ((below / common)).toInt64) else (if (lg_cmp (above - above / (d).toInt64 * (d).toInt64) (0 : Int64)) = 0 then (if (below - below / d * d) = 0 then et_X11_inLowestTerms_6 fu M above below part d (d + (1 : Int32)) else et_X11_inLowestTerms_6 fu M above below part common (d + (1 : Int32))) else et_X11_inLowestTerms_6 fu M above below part common (d + (1 : Int32))))
def et_X11_inLowestTerms  (M : em_M) (above : Int64) (below : Int32) (part : Int32) : Int64 :=
  et_X11_inLowestTerms_6 (below.toNatClampNeg + 1) M above below part (1 : Int32) (2 : Int32)
set_option maxHeartbeats 4000000 in
set_option maxRecDepth 100000 in
theorem el_X11_inLowestTerms_6 (X : em_X)    (t0 : Int64) (hRm : ez_rm X = { frames := 0, cells := 0, slots := 0, locals := 0 }) (hnL : ez_nL X = 6) (hX : ez_ok X cX11_inLowestTerms RX11) (M : em_M) (hQ : ez_ret X (some .long) (some (.long t0)) 132 em_R (M) 0 0) : ∀ (fu : Nat) (above : Int64) (below : Int32) (part : Int32) (common : Int32) (d : Int32), below < (2147483647 : Int32) → 1 ≤ below.toInt → 2 ≤ d.toInt → 1 ≤ common.toInt → below.toInt + 1 - d.toInt < fu ∧ 0 < fu → et_X11_inLowestTerms_6  fu M above below part common d = t0 → ez_Z X 132 em_R M 0 0 6 [(0, .long above), (2, .int below), (3, .int part), (4, .int common), (5, .int d)] [] := by
  intro fu
  induction fu with
  | zero =>
    intro above below part common d hb hb1 hd hm hc hT
    exact absurd hc (by omega)
  | succ fu ih =>
    intro above below part common d hb hb1 hd hm hc hT
    refine ez_iload hX 4 dX11_inLowestTerms_6 rfl ?_
    refine ez_iload_n hX 1 dX11_inLowestTerms_8 rfl ?_
    refine ez_icmp_gt hX 39 dX11_inLowestTerms_9 (by decide) (fun c1 => ?_) (fun c1 => ?_)
    · -- c1 jump
      refine ez_iload_n hX 2 dX11_inLowestTerms_39 rfl ?_
      refine ez_if_ne hX 51 dX11_inLowestTerms_40 (by decide) (fun c2 => ?_) (fun c2 => ?_)
      · -- c2 jump
        refine ez_iload_n hX 1 dX11_inLowestTerms_51 rfl ?_
        refine ez_iload hX 3 dX11_inLowestTerms_52 rfl ?_
        refine ez_idiv hX dX11_inLowestTerms_54 (ez_i0 hm) ?_
        refine ez_i2l hX dX11_inLowestTerms_55 ?_
        have ht : t0 = ((below / common)).toInt64 := hT.symm.trans (by simp only [et_X11_inLowestTerms_6, if_pos c1, if_neg c2])
        subst ht
        exact ez_lret hX hQ dX11_inLowestTerms_56 rfl rfl
      · -- c2 on
        refine ez_lload_n hX 0 dX11_inLowestTerms_43 rfl ?_
        refine ez_iload hX 3 dX11_inLowestTerms_44 rfl ?_
        refine ez_i2l hX dX11_inLowestTerms_46 ?_
        refine ez_ldiv hX dX11_inLowestTerms_47 (ez_l0 hm) ?_
        refine ez_goto hX 56 dX11_inLowestTerms_48 (by decide) ?_
        have ht : t0 = (above / (common).toInt64) := hT.symm.trans (by simp only [et_X11_inLowestTerms_6, if_pos c1, if_pos c2])
        subst ht
        exact ez_lret hX hQ dX11_inLowestTerms_56 rfl rfl
    · -- c1 on
      refine ez_lload_n hX 0 dX11_inLowestTerms_12 rfl ?_
      refine ez_iload hX 4 dX11_inLowestTerms_13 rfl ?_
      refine ez_i2l hX dX11_inLowestTerms_15 ?_
      refine ez_lrem hX dX11_inLowestTerms_16 (ez_l0 (Int.le_trans (by decide) hd)) ?_
      refine ez_lconst hX (0 : Int64) dX11_inLowestTerms_17 (by decide) ?_
      refine ez_lcmp hX dX11_inLowestTerms_18 ?_
      refine ez_if_ne hX 33 dX11_inLowestTerms_19 (by decide) (fun c3 => ?_) (fun c3 => ?_)
      · -- c3 jump
        refine ez_iinc hX (d + (1 : Int32)) 4 [(5, .int (d + (1 : Int32))), (0, .long above), (2, .int below), (3, .int part), (4, .int common)] dX11_inLowestTerms_33 rfl rfl (ez_lt hnL rfl) rfl ?_
        refine ez_goto hX 6 dX11_inLowestTerms_36 (by decide) ?_
        refine ez_lv [1, 2, 3, 4, 0] rfl ?_
        exact ih above below part common (d + (1 : Int32)) hb hb1 (ez_lt1 hb hd c1) hm (ez_lt2 hb hc c1) (Eq.trans (by simp only [et_X11_inLowestTerms_6, if_neg c1, if_neg c3]) hT)
      · -- c3 on
        refine ez_iload_n hX 1 dX11_inLowestTerms_22 rfl ?_
        refine ez_iload hX 4 dX11_inLowestTerms_23 rfl ?_
        refine ez_irem hX dX11_inLowestTerms_25 (ez_i0 (Int.le_trans (by decide) hd)) ?_
        refine ez_if_ne hX 33 dX11_inLowestTerms_26 (by decide) (fun c4 => ?_) (fun c4 => ?_)
        · -- c4 jump
          refine ez_iinc hX (d + (1 : Int32)) 4 [(5, .int (d + (1 : Int32))), (0, .long above), (2, .int below), (3, .int part), (4, .int common)] dX11_inLowestTerms_33 rfl rfl (ez_lt hnL rfl) rfl ?_
          refine ez_goto hX 6 dX11_inLowestTerms_36 (by decide) ?_
          refine ez_lv [1, 2, 3, 4, 0] rfl ?_
          exact ih above below part common (d + (1 : Int32)) hb hb1 (ez_lt1 hb hd c1) hm (ez_lt2 hb hc c1) (Eq.trans (by simp only [et_X11_inLowestTerms_6, if_neg c1, if_pos c3, if_neg c4]) hT)
        · -- c4 on
          refine ez_iload hX 4 dX11_inLowestTerms_29 rfl ?_
          refine ez_istore hX [(4, .int d), (0, .long above), (2, .int below), (3, .int part), (5, .int d)] dX11_inLowestTerms_31 (ez_lt hnL rfl) rfl ?_
          refine ez_iinc hX (d + (1 : Int32)) 4 [(5, .int (d + (1 : Int32))), (4, .int d), (0, .long above), (2, .int below), (3, .int part)] dX11_inLowestTerms_33 rfl rfl (ez_lt hnL rfl) rfl ?_
          refine ez_goto hX 6 dX11_inLowestTerms_36 (by decide) ?_
          refine ez_lv [2, 3, 4, 1, 0] rfl ?_
          exact ih above below part d (d + (1 : Int32)) hb hb1 (ez_lt1 hb hd c1) (Int.le_trans (by decide) hd) (ez_lt2 hb hc c1) (Eq.trans (by simp only [et_X11_inLowestTerms_6, if_neg c1, if_pos c3, if_pos c4]) hT)
set_option maxHeartbeats 4000000 in
set_option maxRecDepth 100000 in
theorem ec_X11_inLowestTerms (l : Launch) (D : em_G) (B : Nat) (M : em_M) (above : Int64) (below : Int32) (part : Int32) (hb : below < (2147483647 : Int32)) (hb1 : 1 ≤ below.toInt) : em_C l D B yX11_inLowestTerms cX11_inLowestTerms 6 (some .long) 0 0 0 0 false [.long above, .int below, .int part] 132 em_R M (some (.long (et_X11_inLowestTerms M above below part))) 132 em_R (M) := by
  refine em_C_of RX11 [(0, .long above), (2, .int below), (3, .int part)] (by decide) rfl rfl (Nat.le_of_ble_eq_true rfl) ?_
  rintro X rfl rfl rfl hRm hnL hnm hsz hX hQ
  obtain ⟨t0, hT⟩ : ∃ tz, et_X11_inLowestTerms M above below part = tz := ⟨_, rfl⟩
  rw [hT] at hQ
  refine ez_iconst hX (1 : Int32) dX11_inLowestTerms_0 (by decide) ?_
  refine ez_istore hX [(4, .int (1 : Int32)), (0, .long above), (2, .int below), (3, .int part)] dX11_inLowestTerms_1 (ez_lt hnL rfl) rfl ?_
  refine ez_iconst hX (2 : Int32) dX11_inLowestTerms_3 (by decide) ?_
  refine ez_istore hX [(5, .int (2 : Int32)), (4, .int (1 : Int32)), (0, .long above), (2, .int below), (3, .int part)] dX11_inLowestTerms_4 (ez_lt hnL rfl) rfl ?_
  refine ez_lv [2, 3, 4, 1, 0] rfl ?_
  exact el_X11_inLowestTerms_6 X  t0 hRm hnL hX M hQ (below.toNatClampNeg + 1) above below part (1 : Int32) (2 : Int32) hb hb1 (by decide) (by decide) (ez_lt3 hb1) (Eq.trans (by simp only [et_X11_inLowestTerms]) hT)

def et_X11_odds_37   : Nat → em_M → Int32 → Int32 → Int32 → Int32 → Int32 → Int64 × em_M
  | 0, M, _, _, _, _, _ => (0, M)
  | fu + 1, M, line, name, part, good, v =>
  (if (10 : Int32) ≤ v then let r8 := et_X11_inLowestTerms M ((good).toInt64) (10 : Int32) part
  (r8, M) else let M9 := et_X11_tryWith M line name v
  let r10 := et_X4_answer 83 M9 (1 : Int32)
  (if (lg_cmp r10 (-9223372036854775808 : Int64)) = 0 then et_X11_odds_37 fu M9 line name part good (v + (1 : Int32)) else (if (lg_cmp r10 (0 : Int64)) = 0 then et_X11_odds_37 fu M9 line name part good (v + (1 : Int32)) else et_X11_odds_37 fu M9 line name part (good + (1 : Int32)) (v + (1 : Int32)))))
def et_X11_odds  (M : em_M) (line : Int32) (name : Int32) (part : Int32) : Int64 × em_M :=
  let r1 := et_X2_has M line
  (if r1 = 0 then ((-9223372036854775808 : Int64), M) else let r3 := et_X11_isName M name
  (if r3 = 0 then ((-9223372036854775808 : Int64), M) else (if part < 0 then ((-9223372036854775808 : Int64), M) else (if part ≤ (1 : Int32) then et_X11_odds_37 11 M line name part (0 : Int32) (0 : Int32) else ((-9223372036854775808 : Int64), M)))))
set_option maxHeartbeats 4000000 in
set_option maxRecDepth 100000 in
theorem el_X11_odds_37 (X : em_X)    (t0 : Int64 × em_M) (hRm : ez_rm X = { frames := 7, cells := 0, slots := 0, locals := 167 }) (hnL : ez_nL X = 8) (hX : ez_ok X cX11_odds RX11) (hQ : ez_ret X (some .long) (some (.long t0.1)) 132 em_R (t0.2) 0 0) : ∀ (fu : Nat) (M : em_M) (line : Int32) (name : Int32) (part : Int32) (good : Int32) (v : Int32), ez_cnt v (10 : Int32) fu → et_X11_odds_37  fu M line name part good v = t0 → ez_Z X 132 em_R M 0 0 37 [(0, .ref (ez_B X + 0)), (1, .int line), (2, .int name), (3, .int part), (4, .int good), (5, .int v)] [] := by
  intro fu
  induction fu with
  | zero =>
    intro M line name part good v hc hT
    exact absurd hc ez_cntz
  | succ fu ih =>
    intro M line name part good v hc hT
    refine ez_iload hX 5 dX11_odds_37 rfl ?_
    refine ez_bipush hX (10 : Int32) dX11_odds_39 (by decide) ?_
    refine ez_icmp_ge hX 83 dX11_odds_41 (by decide) (fun c7 => ?_) (fun c7 => ?_)
    · -- c7 jump
      refine ez_iload hX 4 dX11_odds_83 rfl ?_
      refine ez_i2l hX dX11_odds_85 ?_
      refine ez_bipush hX (10 : Int32) dX11_odds_86 (by decide) ?_
      refine ez_iload_n hX 3 dX11_odds_88 rfl ?_
      refine ez_callS hX (N0 := 0) (As := [.long ((good).toInt64), .int (10 : Int32), .int part]) (st := []) (ec_X11_inLowestTerms _ _ _ M ((good).toInt64) (10 : Int32) part (by decide) (by decide)) (Or.inl rfl) wm_X11_171 ws_X11_inLowestTerms wy_X11_inLowestTerms rfl wd_X11_inLowestTerms wi_X11 (ez_rok hRm rfl) (Nat.le_of_ble_eq_true rfl) dX11_odds_89 ?_
      refine ez_nmL (fun r8 er8 => ?_)
      have ht : t0 = (r8, M) := hT.symm.trans (by simp only [et_X11_odds_37, if_pos c7, er8])
      subst ht
      exact ez_lret hX hQ dX11_odds_92 rfl rfl
    · -- c7 on
      refine ez_aload_n hX 0 dX11_odds_44 rfl ?_
      refine ez_iload_n hX 1 dX11_odds_45 rfl ?_
      refine ez_iload_n hX 2 dX11_odds_46 rfl ?_
      refine ez_iload hX 5 dX11_odds_47 rfl ?_
      refine ez_callV hX (N0 := 0) (As := [.int line, .int name, .int v]) (st := []) kc_0 (Nat.le_of_ble_eq_true rfl) lc_0 rfl (ec_X11_tryWith _ _ _ M line name v) (Or.inl rfl) wm_X11_156 wv_X11_tryWith we_X11_tryWith wy_X11_tryWith rfl wd_X11_tryWith wi_X11 (ez_rok hRm rfl) (Nat.le_of_ble_eq_true rfl) dX11_odds_49 ?_
      refine ez_nmM (fun M9 eM9 => ?_)
      refine ez_iconst hX (1 : Int32) dX11_odds_52 (by decide) ?_
      refine ez_callV hX (N0 := 0) (As := [.int (1 : Int32)]) (st := []) kc_83 (Nat.le_of_ble_eq_true rfl) lc_83 rfl (ec_X4_answer _ _ _ 83 eo_83 M9 (1 : Int32)) (Or.inl rfl) wm_X11_133 wv_X4_answer we_X4_answer wy_X4_answer rfl wd_X4_answer wi_X4 (ez_rok hRm rfl) (Nat.le_of_ble_eq_true rfl) dX11_odds_53 ?_
      refine ez_nmL (fun r10 er10 => ?_)
      refine ez_lstore hX [(6, .long r10), (0, .ref (ez_B X + 0)), (1, .int line), (2, .int name), (3, .int part), (4, .int good), (5, .int v)] dX11_odds_56 (ez_lt hnL rfl) rfl ?_
      refine ez_lload hX 0 dX11_odds_58 rfl ?_
      refine ez_ldc2 hX wl_X11_108 dX11_odds_60 ?_
      refine ez_lcmp hX dX11_odds_63 ?_
      refine ez_if_eq hX 77 dX11_odds_64 (by decide) (fun c11 => ?_) (fun c11 => ?_)
      · -- c11 jump
        refine ez_iinc hX (v + (1 : Int32)) 6 [(5, .int (v + (1 : Int32))), (6, .long r10), (0, .ref (ez_B X + 0)), (1, .int line), (2, .int name), (3, .int part), (4, .int good)] dX11_odds_77 rfl rfl (ez_lt hnL rfl) rfl ?_
        refine ez_goto hX 37 dX11_odds_80 (by decide) ?_
        refine ez_lv [2, 3, 4, 5, 6, 0] rfl ?_
        exact ih M9 line name part good (v + (1 : Int32)) (ez_cnts' hc c7) (Eq.trans (by simp only [et_X11_odds_37, if_neg c7, eM9, er10, if_pos c11]) hT)
      · -- c11 on
        refine ez_lload hX 0 dX11_odds_67 rfl ?_
        refine ez_lconst hX (0 : Int64) dX11_odds_69 (by decide) ?_
        refine ez_lcmp hX dX11_odds_70 ?_
        refine ez_if_eq hX 77 dX11_odds_71 (by decide) (fun c12 => ?_) (fun c12 => ?_)
        · -- c12 jump
          refine ez_iinc hX (v + (1 : Int32)) 6 [(5, .int (v + (1 : Int32))), (6, .long r10), (0, .ref (ez_B X + 0)), (1, .int line), (2, .int name), (3, .int part), (4, .int good)] dX11_odds_77 rfl rfl (ez_lt hnL rfl) rfl ?_
          refine ez_goto hX 37 dX11_odds_80 (by decide) ?_
          refine ez_lv [2, 3, 4, 5, 6, 0] rfl ?_
          exact ih M9 line name part good (v + (1 : Int32)) (ez_cnts' hc c7) (Eq.trans (by simp only [et_X11_odds_37, if_neg c7, eM9, er10, if_neg c11, if_pos c12]) hT)
        · -- c12 on
          refine ez_iinc hX (good + (1 : Int32)) 5 [(4, .int (good + (1 : Int32))), (6, .long r10), (0, .ref (ez_B X + 0)), (1, .int line), (2, .int name), (3, .int part), (5, .int v)] dX11_odds_74 rfl rfl (ez_lt hnL rfl) rfl ?_
          refine ez_iinc hX (v + (1 : Int32)) 6 [(5, .int (v + (1 : Int32))), (4, .int (good + (1 : Int32))), (6, .long r10), (0, .ref (ez_B X + 0)), (1, .int line), (2, .int name), (3, .int part)] dX11_odds_77 rfl rfl (ez_lt hnL rfl) rfl ?_
          refine ez_goto hX 37 dX11_odds_80 (by decide) ?_
          refine ez_lv [3, 4, 5, 6, 1, 0] rfl ?_
          exact ih M9 line name part (good + (1 : Int32)) (v + (1 : Int32)) (ez_cnts' hc c7) (Eq.trans (by simp only [et_X11_odds_37, if_neg c7, eM9, er10, if_neg c11, if_neg c12]) hT)
set_option maxHeartbeats 4000000 in
set_option maxRecDepth 100000 in
theorem ec_X11_odds (l : Launch) (D : em_G) (B : Nat) (M : em_M) (line : Int32) (name : Int32) (part : Int32) : em_C l D B yX11_odds cX11_odds 8 (some .long) 7 167 0 0 false [.ref (B + 0), .int line, .int name, .int part] 132 em_R M (some (.long (et_X11_odds M line name part).1)) 132 em_R ((et_X11_odds M line name part).2) := by
  refine em_C_of RX11 [(0, .ref (B + 0)), (1, .int line), (2, .int name), (3, .int part)] (by decide) rfl rfl (Nat.le_of_ble_eq_true rfl) ?_
  rintro X rfl rfl rfl hRm hnL hnm hsz hX hQ
  obtain ⟨t0, hT⟩ : ∃ tz, et_X11_odds M line name part = tz := ⟨_, rfl⟩
  rw [hT] at hQ
  refine ez_aload_n hX 0 dX11_odds_0 rfl ?_
  refine ez_getr hX kc_0 rfl (Nat.le_of_ble_eq_true rfl) lc_0 (Nat.le_of_ble_eq_true rfl) inX11 1 rfl rc_0_0 wf_X11_14 dX11_odds_1 ?_
  refine ez_iload_n hX 1 dX11_odds_4 rfl ?_
  refine ez_callV hX (N0 := 0) (As := [.int line]) (st := []) kc_1 (Nat.le_of_ble_eq_true rfl) lc_1 rfl (ec_X2_has _ _ _ M line) (Or.inl rfl) wm_X11_79 wv_X2_has we_X2_has wy_X2_has rfl wd_X2_has wi_X2 (ez_rok hRm rfl) (Nat.le_of_ble_eq_true rfl) dX11_odds_5 ?_
  refine ez_nmI (fun r1 er1 => ?_)
  refine ez_if_eq hX 27 dX11_odds_8 (by decide) (fun c2 => ?_) (fun c2 => ?_)
  · -- c2 jump
    refine ez_ldc2 hX wl_X11_108 dX11_odds_27 ?_
    have ht : t0 = ((-9223372036854775808 : Int64), M) := hT.symm.trans (by simp only [et_X11_odds, er1, if_pos c2])
    subst ht
    exact ez_lret hX hQ dX11_odds_30 rfl rfl
  · -- c2 on
    refine ez_iload_n hX 2 dX11_odds_11 rfl ?_
    refine ez_callS hX (N0 := 0) (As := [.int name]) (st := []) (ec_X11_isName _ _ _ M name) (Or.inl rfl) wm_X11_105 ws_X11_isName wy_X11_isName rfl wd_X11_isName wi_X11 (ez_rok hRm rfl) (Nat.le_of_ble_eq_true rfl) dX11_odds_12 ?_
    refine ez_nmI (fun r3 er3 => ?_)
    refine ez_if_eq hX 27 dX11_odds_15 (by decide) (fun c4 => ?_) (fun c4 => ?_)
    · -- c4 jump
      refine ez_ldc2 hX wl_X11_108 dX11_odds_27 ?_
      have ht : t0 = ((-9223372036854775808 : Int64), M) := hT.symm.trans (by simp only [et_X11_odds, er1, if_neg c2, er3, if_pos c4])
      subst ht
      exact ez_lret hX hQ dX11_odds_30 rfl rfl
    · -- c4 on
      refine ez_iload_n hX 3 dX11_odds_18 rfl ?_
      refine ez_if_lt hX 27 dX11_odds_19 (by decide) (fun c5 => ?_) (fun c5 => ?_)
      · -- c5 jump
        refine ez_ldc2 hX wl_X11_108 dX11_odds_27 ?_
        have ht : t0 = ((-9223372036854775808 : Int64), M) := hT.symm.trans (by simp only [et_X11_odds, er1, if_neg c2, er3, if_neg c4, if_pos c5])
        subst ht
        exact ez_lret hX hQ dX11_odds_30 rfl rfl
      · -- c5 on
        refine ez_iload_n hX 3 dX11_odds_22 rfl ?_
        refine ez_iconst hX (1 : Int32) dX11_odds_23 (by decide) ?_
        refine ez_icmp_le hX 31 dX11_odds_24 (by decide) (fun c6 => ?_) (fun c6 => ?_)
        · -- c6 jump
          refine ez_iconst hX (0 : Int32) dX11_odds_31 (by decide) ?_
          refine ez_istore hX [(4, .int (0 : Int32)), (0, .ref (ez_B X + 0)), (1, .int line), (2, .int name), (3, .int part)] dX11_odds_32 (ez_lt hnL rfl) rfl ?_
          refine ez_iconst hX (0 : Int32) dX11_odds_34 (by decide) ?_
          refine ez_istore hX [(5, .int (0 : Int32)), (4, .int (0 : Int32)), (0, .ref (ez_B X + 0)), (1, .int line), (2, .int name), (3, .int part)] dX11_odds_35 (ez_lt hnL rfl) rfl ?_
          refine ez_lv [2, 3, 4, 5, 1, 0] rfl ?_
          exact el_X11_odds_37 X  t0 hRm hnL hX hQ 11 M line name part (0 : Int32) (0 : Int32) (ez_cnt0 (10 : Int32)) (Eq.trans (by simp only [et_X11_odds, er1, if_neg c2, er3, if_neg c4, if_neg c5, if_pos c6]) hT)
        · -- c6 on
          refine ez_ldc2 hX wl_X11_108 dX11_odds_27 ?_
          have ht : t0 = ((-9223372036854775808 : Int64), M) := hT.symm.trans (by simp only [et_X11_odds, er1, if_neg c2, er3, if_neg c4, if_neg c5, if_neg c6])
          subst ht
          exact ez_lret hX hQ dX11_odds_30 rfl rfl

theorem ez_pos1 {x : Int32} (h : ¬ x = 0) (h2 : 0 ≤ x.toInt) : 1 ≤ x.toInt := by
  have : x.toInt ≠ 0 := fun q => h (Int32.toInt_inj.mp (by rw [q]; decide))
  omega

def et_X11_mean  (M : em_M) (line : Int32) (part : Int32) : Int64 × em_M :=
  let r1 := et_X2_has M line
  (if r1 = 0 then ((-9223372036854775808 : Int64), M) else (if part < 0 then ((-9223372036854775808 : Int64), M) else (if part ≤ (1 : Int32) then let M5 := et_X10_copyFrom 79 21 M
  let M6 := et_X11_tryOut M5 line
  (if (M6.1 83 3) = 0 then ((-9223372036854775808 : Int64), M6) else let r8 := et_X4_sum 83 M6
  let r9 := et_X11_inLowestTerms M6 r8 (M6.1 83 3) part
  (r9, M6)) else ((-9223372036854775808 : Int64), M))))
set_option maxHeartbeats 4000000 in
set_option maxRecDepth 100000 in
theorem ec_X11_mean (l : Launch) (D : em_G) (B : Nat) (M : em_M) (line : Int32) (part : Int32) (hm : (et_X11_tryOut (et_X10_copyFrom 79 21 M) line).1 83 3 < (2147483647 : Int32)) (hm2 : 0 ≤ ((et_X11_tryOut (et_X10_copyFrom 79 21 M) line).1 83 3).toInt) : em_C l D B yX11_mean cX11_mean 4 (some .long) 7 165 0 0 false [.ref (B + 0), .int line, .int part] 132 em_R M (some (.long (et_X11_mean M line part).1)) 132 em_R ((et_X11_mean M line part).2) := by
  refine em_C_of RX11 [(0, .ref (B + 0)), (1, .int line), (2, .int part)] (by decide) rfl rfl (Nat.le_of_ble_eq_true rfl) ?_
  rintro X rfl rfl rfl hRm hnL hnm hsz hX hQ
  obtain ⟨t0, hT⟩ : ∃ tz, et_X11_mean M line part = tz := ⟨_, rfl⟩
  rw [hT] at hQ
  refine ez_aload_n hX 0 dX11_mean_0 rfl ?_
  refine ez_getr hX kc_0 rfl (Nat.le_of_ble_eq_true rfl) lc_0 (Nat.le_of_ble_eq_true rfl) inX11 1 rfl rc_0_0 wf_X11_14 dX11_mean_1 ?_
  refine ez_iload_n hX 1 dX11_mean_4 rfl ?_
  refine ez_callV hX (N0 := 0) (As := [.int line]) (st := []) kc_1 (Nat.le_of_ble_eq_true rfl) lc_1 rfl (ec_X2_has _ _ _ M line) (Or.inl rfl) wm_X11_79 wv_X2_has we_X2_has wy_X2_has rfl wd_X2_has wi_X2 (ez_rok hRm rfl) (Nat.le_of_ble_eq_true rfl) dX11_mean_5 ?_
  refine ez_nmI (fun r1 er1 => ?_)
  refine ez_if_eq hX 20 dX11_mean_8 (by decide) (fun c2 => ?_) (fun c2 => ?_)
  · -- c2 jump
    refine ez_ldc2 hX wl_X11_108 dX11_mean_20 ?_
    have ht : t0 = ((-9223372036854775808 : Int64), M) := hT.symm.trans (by simp only [et_X11_mean, er1, if_pos c2])
    subst ht
    exact ez_lret hX hQ dX11_mean_23 rfl rfl
  · -- c2 on
    refine ez_iload_n hX 2 dX11_mean_11 rfl ?_
    refine ez_if_lt hX 20 dX11_mean_12 (by decide) (fun c3 => ?_) (fun c3 => ?_)
    · -- c3 jump
      refine ez_ldc2 hX wl_X11_108 dX11_mean_20 ?_
      have ht : t0 = ((-9223372036854775808 : Int64), M) := hT.symm.trans (by simp only [et_X11_mean, er1, if_neg c2, if_pos c3])
      subst ht
      exact ez_lret hX hQ dX11_mean_23 rfl rfl
    · -- c3 on
      refine ez_iload_n hX 2 dX11_mean_15 rfl ?_
      refine ez_iconst hX (1 : Int32) dX11_mean_16 (by decide) ?_
      refine ez_icmp_le hX 24 dX11_mean_17 (by decide) (fun c4 => ?_) (fun c4 => ?_)
      · -- c4 jump
        refine ez_aload_n hX 0 dX11_mean_24 rfl ?_
        refine ez_getr hX kc_0 rfl (Nat.le_of_ble_eq_true rfl) lc_0 (Nat.le_of_ble_eq_true rfl) inX11 79 rfl rc_0_5 wf_X11_40 dX11_mean_25 ?_
        refine ez_aload_n hX 0 dX11_mean_28 rfl ?_
        refine ez_getr hX kc_0 rfl (Nat.le_of_ble_eq_true rfl) lc_0 (Nat.le_of_ble_eq_true rfl) inX11 11 rfl rc_0_2 wf_X11_30 dX11_mean_29 ?_
        refine ez_getr hX kc_11 rfl (Nat.le_of_ble_eq_true rfl) lc_11 (Nat.le_of_ble_eq_true rfl) inX1 21 rfl rc_11_0 wf_X11_90 dX11_mean_32 ?_
        refine ez_callV hX (N0 := 0) (As := [.ref (ez_B X + 21)]) (st := []) kc_79 (Nat.le_of_ble_eq_true rfl) lc_79 rfl (ec_X10_copyFrom _ _ _ 79 ew_79 21 ew_21 M) (Or.inl rfl) wm_X11_136 wv_X10_copyFrom we_X10_copyFrom wy_X10_copyFrom rfl wd_X10_copyFrom wi_X10 (ez_rok hRm rfl) (Nat.le_of_ble_eq_true rfl) dX11_mean_35 ?_
        refine ez_nmM (fun M5 eM5 => ?_)
        refine ez_aload_n hX 0 dX11_mean_38 rfl ?_
        refine ez_iload_n hX 1 dX11_mean_39 rfl ?_
        refine ez_callV hX (N0 := 0) (As := [.int line]) (st := []) kc_0 (Nat.le_of_ble_eq_true rfl) lc_0 rfl (ec_X11_tryOut _ _ _ M5 line) (Or.inl rfl) wm_X11_140 wv_X11_tryOut we_X11_tryOut wy_X11_tryOut rfl wd_X11_tryOut wi_X11 (ez_rok hRm rfl) (Nat.le_of_ble_eq_true rfl) dX11_mean_40 ?_
        refine ez_nmM (fun M6 eM6 => ?_)
        refine ez_astore_n hX [(3, .ref (ez_B X + 83)), (0, .ref (ez_B X + 0)), (1, .int line), (2, .int part)] dX11_mean_43 (ez_lt hnL rfl) rfl ?_
        refine ez_aload_n hX 0 dX11_mean_44 rfl ?_
        refine ez_geti hX kc_83 rfl (Nat.le_of_ble_eq_true rfl) lc_83 (Nat.le_of_ble_eq_true rfl) inX4 rfl wf_X11_175 dX11_mean_45 ?_
        refine ez_if_ne hX 57 dX11_mean_48 (by decide) (fun c7 => ?_) (fun c7 => ?_)
        · -- c7 jump
          refine ez_aload_n hX 0 dX11_mean_57 rfl ?_
          refine ez_callV hX (N0 := 0) (As := []) (st := []) kc_83 (Nat.le_of_ble_eq_true rfl) lc_83 rfl (ec_X4_sum _ _ _ 83 eo_83 M6) (Or.inl rfl) wm_X11_176 wv_X4_sum we_X4_sum wy_X4_sum rfl wd_X4_sum wi_X4 (ez_rok hRm rfl) (Nat.le_of_ble_eq_true rfl) dX11_mean_58 ?_
          refine ez_nmL (fun r8 er8 => ?_)
          refine ez_aload_n hX 0 dX11_mean_61 rfl ?_
          refine ez_geti hX kc_83 rfl (Nat.le_of_ble_eq_true rfl) lc_83 (Nat.le_of_ble_eq_true rfl) inX4 rfl wf_X11_175 dX11_mean_62 ?_
          refine ez_iload_n hX 3 dX11_mean_65 rfl ?_
          refine ez_callS hX (N0 := 0) (As := [.long r8, .int (M6.1 83 3), .int part]) (st := []) (ec_X11_inLowestTerms _ _ _ M6 r8 (M6.1 83 3) part (by rw [← eM6, ← eM5]; exact hm) (ez_pos1 c7 (by rw [← eM6, ← eM5]; exact hm2))) (Or.inl rfl) wm_X11_171 ws_X11_inLowestTerms wy_X11_inLowestTerms rfl wd_X11_inLowestTerms wi_X11 (ez_rok hRm rfl) (Nat.le_of_ble_eq_true rfl) dX11_mean_66 ?_
          refine ez_nmL (fun r9 er9 => ?_)
          have ht : t0 = (r9, M6) := hT.symm.trans (by simp only [et_X11_mean, er1, if_neg c2, if_neg c3, if_pos c4, eM5, eM6, if_neg c7, er8, er9])
          subst ht
          exact ez_lret hX hQ dX11_mean_69 rfl rfl
        · -- c7 on
          refine ez_ldc2 hX wl_X11_108 dX11_mean_51 ?_
          refine ez_goto hX 69 dX11_mean_54 (by decide) ?_
          have ht : t0 = ((-9223372036854775808 : Int64), M6) := hT.symm.trans (by simp only [et_X11_mean, er1, if_neg c2, if_neg c3, if_pos c4, eM5, eM6, if_pos c7])
          subst ht
          exact ez_lret hX hQ dX11_mean_69 rfl rfl
      · -- c4 on
        refine ez_ldc2 hX wl_X11_108 dX11_mean_20 ?_
        have ht : t0 = ((-9223372036854775808 : Int64), M) := hT.symm.trans (by simp only [et_X11_mean, er1, if_neg c2, if_neg c3, if_neg c4])
        subst ht
        exact ez_lret hX hQ dX11_mean_23 rfl rfl

def et_X11_plan  (M : em_M) (what : Int32) (n : Int32) : Int32 × em_M :=
  (if what = (-1 : Int32) then let q22 := et_X6_empty 15 M
  let r20 := q22.1
  let M21 := q22.2
  (r20, M21) else (if what = 0 then let r15 := et_X2_has M n
  (if r15 = 0 then ((-1 : Int32), M) else let q19 := et_X6_add 15 M what n
  let r17 := q19.1
  let M18 := q19.2
  (r17, M18)) else (if what = (1 : Int32) then let r10 := et_X11_isName M n
  (if r10 = 0 then ((-1 : Int32), M) else let q14 := et_X6_add 15 M what n
  let r12 := q14.1
  let M13 := q14.2
  (r12, M13)) else (if what = (2 : Int32) then let r5 := et_X11_isFunction M n
  (if r5 = 0 then ((-1 : Int32), M) else let q9 := et_X6_add 15 M what n
  let r7 := q9.1
  let M8 := q9.2
  (r7, M8)) else ((-1 : Int32), M)))))
set_option maxHeartbeats 4000000 in
set_option maxRecDepth 100000 in
theorem ec_X11_plan (l : Launch) (D : em_G) (B : Nat) (M : em_M) (what : Int32) (n : Int32) : em_C l D B yX11_plan cX11_plan 4 (some .int) 2 44 0 0 false [.ref (B + 0), .int what, .int n] 132 em_R M (some (.int (et_X11_plan M what n).1)) 132 em_R ((et_X11_plan M what n).2) := by
  refine em_C_of RX11 [(0, .ref (B + 0)), (1, .int what), (2, .int n)] (by decide) rfl rfl (Nat.le_of_ble_eq_true rfl) ?_
  rintro X rfl rfl rfl hRm hnL hnm hsz hX hQ
  obtain ⟨t0, hT⟩ : ∃ tz, et_X11_plan M what n = tz := ⟨_, rfl⟩
  rw [hT] at hQ
  refine ez_iload_n hX 1 dX11_plan_0 rfl ?_
  refine ez_iconst hX (-1 : Int32) dX11_plan_1 (by decide) ?_
  refine ez_icmp_ne hX 16 dX11_plan_2 (by decide) (fun c1 => ?_) (fun c1 => ?_)
  · -- c1 jump
    refine ez_iload_n hX 1 dX11_plan_16 rfl ?_
    refine ez_if_ne hX 31 dX11_plan_17 (by decide) (fun c2 => ?_) (fun c2 => ?_)
    · -- c2 jump
      refine ez_iload_n hX 1 dX11_plan_31 rfl ?_
      refine ez_iconst hX (1 : Int32) dX11_plan_32 (by decide) ?_
      refine ez_icmp_ne hX 43 dX11_plan_33 (by decide) (fun c3 => ?_) (fun c3 => ?_)
      · -- c3 jump
        refine ez_iload_n hX 1 dX11_plan_43 rfl ?_
        refine ez_iconst hX (2 : Int32) dX11_plan_44 (by decide) ?_
        refine ez_icmp_ne hX 59 dX11_plan_45 (by decide) (fun c4 => ?_) (fun c4 => ?_)
        · -- c4 jump
          refine ez_iconst hX (0 : Int32) dX11_plan_59 (by decide) ?_
          refine ez_istore_n hX [(3, .int (0 : Int32)), (0, .ref (ez_B X + 0)), (1, .int what), (2, .int n)] dX11_plan_60 (ez_lt hnL rfl) rfl ?_
          refine ez_iload_n hX 0 dX11_plan_61 rfl ?_
          refine ez_if_eq hX 80 dX11_plan_62 (by decide) (fun _ => ?_) (fun c => absurd c (by decide))
          refine ez_iconst hX (-1 : Int32) dX11_plan_80 (by decide) ?_
          have ht : t0 = ((-1 : Int32), M) := hT.symm.trans (by simp only [et_X11_plan, if_neg c1, if_neg c2, if_neg c3, if_neg c4])
          subst ht
          exact ez_iret hX hQ dX11_plan_81 rfl rfl
        · -- c4 on
          refine ez_iload_n hX 2 dX11_plan_48 rfl ?_
          refine ez_callS hX (N0 := 0) (As := [.int n]) (st := []) (ec_X11_isFunction _ _ _ M n) (Or.inl rfl) wm_X11_87 ws_X11_isFunction wy_X11_isFunction rfl wd_X11_isFunction wi_X11 (ez_rok hRm rfl) (Nat.le_of_ble_eq_true rfl) dX11_plan_49 ?_
          refine ez_nmI (fun r5 er5 => ?_)
          refine ez_if_eq hX 59 dX11_plan_52 (by decide) (fun c6 => ?_) (fun c6 => ?_)
          · -- c6 jump
            refine ez_iconst hX (0 : Int32) dX11_plan_59 (by decide) ?_
            refine ez_istore_n hX [(3, .int (0 : Int32)), (0, .ref (ez_B X + 0)), (1, .int what), (2, .int n)] dX11_plan_60 (ez_lt hnL rfl) rfl ?_
            refine ez_iload_n hX 0 dX11_plan_61 rfl ?_
            refine ez_if_eq hX 80 dX11_plan_62 (by decide) (fun _ => ?_) (fun c => absurd c (by decide))
            refine ez_iconst hX (-1 : Int32) dX11_plan_80 (by decide) ?_
            have ht : t0 = ((-1 : Int32), M) := hT.symm.trans (by simp only [et_X11_plan, if_neg c1, if_neg c2, if_neg c3, if_pos c4, er5, if_pos c6])
            subst ht
            exact ez_iret hX hQ dX11_plan_81 rfl rfl
          · -- c6 on
            refine ez_iconst hX (1 : Int32) dX11_plan_55 (by decide) ?_
            refine ez_goto hX 60 dX11_plan_56 (by decide) ?_
            refine ez_istore_n hX [(3, .int (1 : Int32)), (0, .ref (ez_B X + 0)), (1, .int what), (2, .int n)] dX11_plan_60 (ez_lt hnL rfl) rfl ?_
            refine ez_iload_n hX 0 dX11_plan_61 rfl ?_
            refine ez_if_eq hX 80 dX11_plan_62 (by decide) (fun c => absurd c (by decide)) (fun _ => ?_)
            refine ez_aload_n hX 1 dX11_plan_65 rfl ?_
            refine ez_getr hX kc_0 rfl (Nat.le_of_ble_eq_true rfl) lc_0 (Nat.le_of_ble_eq_true rfl) inX11 11 rfl rc_0_2 wf_X11_30 dX11_plan_66 ?_
            refine ez_getr hX kc_11 rfl (Nat.le_of_ble_eq_true rfl) lc_11 (Nat.le_of_ble_eq_true rfl) inX1 15 rfl rc_11_3 wf_X11_180 dX11_plan_69 ?_
            refine ez_iload_n hX 2 dX11_plan_72 rfl ?_
            refine ez_iload_n hX 3 dX11_plan_73 rfl ?_
            refine ez_callV hX (N0 := 0) (As := [.int what, .int n]) (st := []) kc_15 (Nat.le_of_ble_eq_true rfl) lc_15 rfl (ec_X6_add _ _ _ 15 er_15 M what n) (Or.inl rfl) wm_X11_153 wv_X6_add we_X6_add wy_X6_add rfl wd_X6_add wi_X6 (ez_rok hRm rfl) (Nat.le_of_ble_eq_true rfl) dX11_plan_74 ?_
            refine ez_nmIM (fun r7 M8 eM8 => ?_)
            refine ez_goto hX 81 dX11_plan_77 (by decide) ?_
            have ht : t0 = (r7, M8) := hT.symm.trans (by simp only [et_X11_plan, if_neg c1, if_neg c2, if_neg c3, if_pos c4, er5, if_neg c6, eM8])
            subst ht
            exact ez_iret hX hQ dX11_plan_81 rfl rfl
      · -- c3 on
        refine ez_iload_n hX 2 dX11_plan_36 rfl ?_
        refine ez_callS hX (N0 := 0) (As := [.int n]) (st := []) (ec_X11_isName _ _ _ M n) (Or.inl rfl) wm_X11_105 ws_X11_isName wy_X11_isName rfl wd_X11_isName wi_X11 (ez_rok hRm rfl) (Nat.le_of_ble_eq_true rfl) dX11_plan_37 ?_
        refine ez_nmI (fun r10 er10 => ?_)
        refine ez_if_ne hX 55 dX11_plan_40 (by decide) (fun c11 => ?_) (fun c11 => ?_)
        · -- c11 jump
          refine ez_iconst hX (1 : Int32) dX11_plan_55 (by decide) ?_
          refine ez_goto hX 60 dX11_plan_56 (by decide) ?_
          refine ez_istore_n hX [(3, .int (1 : Int32)), (0, .ref (ez_B X + 0)), (1, .int what), (2, .int n)] dX11_plan_60 (ez_lt hnL rfl) rfl ?_
          refine ez_iload_n hX 0 dX11_plan_61 rfl ?_
          refine ez_if_eq hX 80 dX11_plan_62 (by decide) (fun c => absurd c (by decide)) (fun _ => ?_)
          refine ez_aload_n hX 1 dX11_plan_65 rfl ?_
          refine ez_getr hX kc_0 rfl (Nat.le_of_ble_eq_true rfl) lc_0 (Nat.le_of_ble_eq_true rfl) inX11 11 rfl rc_0_2 wf_X11_30 dX11_plan_66 ?_
          refine ez_getr hX kc_11 rfl (Nat.le_of_ble_eq_true rfl) lc_11 (Nat.le_of_ble_eq_true rfl) inX1 15 rfl rc_11_3 wf_X11_180 dX11_plan_69 ?_
          refine ez_iload_n hX 2 dX11_plan_72 rfl ?_
          refine ez_iload_n hX 3 dX11_plan_73 rfl ?_
          refine ez_callV hX (N0 := 0) (As := [.int what, .int n]) (st := []) kc_15 (Nat.le_of_ble_eq_true rfl) lc_15 rfl (ec_X6_add _ _ _ 15 er_15 M what n) (Or.inl rfl) wm_X11_153 wv_X6_add we_X6_add wy_X6_add rfl wd_X6_add wi_X6 (ez_rok hRm rfl) (Nat.le_of_ble_eq_true rfl) dX11_plan_74 ?_
          refine ez_nmIM (fun r12 M13 eM13 => ?_)
          refine ez_goto hX 81 dX11_plan_77 (by decide) ?_
          have ht : t0 = (r12, M13) := hT.symm.trans (by simp only [et_X11_plan, if_neg c1, if_neg c2, if_pos c3, er10, if_neg c11, eM13])
          subst ht
          exact ez_iret hX hQ dX11_plan_81 rfl rfl
        · -- c11 on
          refine ez_iload_n hX 1 dX11_plan_43 rfl ?_
          refine ez_iconst hX (2 : Int32) dX11_plan_44 (by decide) ?_
          refine ez_icmp_ne hX 59 dX11_plan_45 (by decide) (fun _ => ?_) (fun c => absurd c (by rw [c3] <;> decide))
          refine ez_iconst hX (0 : Int32) dX11_plan_59 (by decide) ?_
          refine ez_istore_n hX [(3, .int (0 : Int32)), (0, .ref (ez_B X + 0)), (1, .int what), (2, .int n)] dX11_plan_60 (ez_lt hnL rfl) rfl ?_
          refine ez_iload_n hX 0 dX11_plan_61 rfl ?_
          refine ez_if_eq hX 80 dX11_plan_62 (by decide) (fun _ => ?_) (fun c => absurd c (by decide))
          refine ez_iconst hX (-1 : Int32) dX11_plan_80 (by decide) ?_
          have ht : t0 = ((-1 : Int32), M) := hT.symm.trans (by simp only [et_X11_plan, if_neg c1, if_neg c2, if_pos c3, er10, if_pos c11])
          subst ht
          exact ez_iret hX hQ dX11_plan_81 rfl rfl
    · -- c2 on
      refine ez_aload_n hX 0 dX11_plan_20 rfl ?_
      refine ez_getr hX kc_0 rfl (Nat.le_of_ble_eq_true rfl) lc_0 (Nat.le_of_ble_eq_true rfl) inX11 1 rfl rc_0_0 wf_X11_14 dX11_plan_21 ?_
      refine ez_iload_n hX 2 dX11_plan_24 rfl ?_
      refine ez_callV hX (N0 := 0) (As := [.int n]) (st := []) kc_1 (Nat.le_of_ble_eq_true rfl) lc_1 rfl (ec_X2_has _ _ _ M n) (Or.inl rfl) wm_X11_79 wv_X2_has we_X2_has wy_X2_has rfl wd_X2_has wi_X2 (ez_rok hRm rfl) (Nat.le_of_ble_eq_true rfl) dX11_plan_25 ?_
      refine ez_nmI (fun r15 er15 => ?_)
      refine ez_if_ne hX 55 dX11_plan_28 (by decide) (fun c16 => ?_) (fun c16 => ?_)
      · -- c16 jump
        refine ez_iconst hX (1 : Int32) dX11_plan_55 (by decide) ?_
        refine ez_goto hX 60 dX11_plan_56 (by decide) ?_
        refine ez_istore_n hX [(3, .int (1 : Int32)), (0, .ref (ez_B X + 0)), (1, .int what), (2, .int n)] dX11_plan_60 (ez_lt hnL rfl) rfl ?_
        refine ez_iload_n hX 0 dX11_plan_61 rfl ?_
        refine ez_if_eq hX 80 dX11_plan_62 (by decide) (fun c => absurd c (by decide)) (fun _ => ?_)
        refine ez_aload_n hX 1 dX11_plan_65 rfl ?_
        refine ez_getr hX kc_0 rfl (Nat.le_of_ble_eq_true rfl) lc_0 (Nat.le_of_ble_eq_true rfl) inX11 11 rfl rc_0_2 wf_X11_30 dX11_plan_66 ?_
        refine ez_getr hX kc_11 rfl (Nat.le_of_ble_eq_true rfl) lc_11 (Nat.le_of_ble_eq_true rfl) inX1 15 rfl rc_11_3 wf_X11_180 dX11_plan_69 ?_
        refine ez_iload_n hX 2 dX11_plan_72 rfl ?_
        refine ez_iload_n hX 3 dX11_plan_73 rfl ?_
        refine ez_callV hX (N0 := 0) (As := [.int what, .int n]) (st := []) kc_15 (Nat.le_of_ble_eq_true rfl) lc_15 rfl (ec_X6_add _ _ _ 15 er_15 M what n) (Or.inl rfl) wm_X11_153 wv_X6_add we_X6_add wy_X6_add rfl wd_X6_add wi_X6 (ez_rok hRm rfl) (Nat.le_of_ble_eq_true rfl) dX11_plan_74 ?_
        refine ez_nmIM (fun r17 M18 eM18 => ?_)
        refine ez_goto hX 81 dX11_plan_77 (by decide) ?_
        have ht : t0 = (r17, M18) := hT.symm.trans (by simp only [et_X11_plan, if_neg c1, if_pos c2, er15, if_neg c16, eM18])
        subst ht
        exact ez_iret hX hQ dX11_plan_81 rfl rfl
      · -- c16 on
        refine ez_iload_n hX 1 dX11_plan_31 rfl ?_
        refine ez_iconst hX (1 : Int32) dX11_plan_32 (by decide) ?_
        refine ez_icmp_ne hX 43 dX11_plan_33 (by decide) (fun _ => ?_) (fun c => absurd c (by rw [c2] <;> decide))
        refine ez_iload_n hX 1 dX11_plan_43 rfl ?_
        refine ez_iconst hX (2 : Int32) dX11_plan_44 (by decide) ?_
        refine ez_icmp_ne hX 59 dX11_plan_45 (by decide) (fun _ => ?_) (fun c => absurd c (by rw [c2] <;> decide))
        refine ez_iconst hX (0 : Int32) dX11_plan_59 (by decide) ?_
        refine ez_istore_n hX [(3, .int (0 : Int32)), (0, .ref (ez_B X + 0)), (1, .int what), (2, .int n)] dX11_plan_60 (ez_lt hnL rfl) rfl ?_
        refine ez_iload_n hX 0 dX11_plan_61 rfl ?_
        refine ez_if_eq hX 80 dX11_plan_62 (by decide) (fun _ => ?_) (fun c => absurd c (by decide))
        refine ez_iconst hX (-1 : Int32) dX11_plan_80 (by decide) ?_
        have ht : t0 = ((-1 : Int32), M) := hT.symm.trans (by simp only [et_X11_plan, if_neg c1, if_pos c2, er15, if_pos c16])
        subst ht
        exact ez_iret hX hQ dX11_plan_81 rfl rfl
  · -- c1 on
    refine ez_aload_n hX 0 dX11_plan_5 rfl ?_
    refine ez_getr hX kc_0 rfl (Nat.le_of_ble_eq_true rfl) lc_0 (Nat.le_of_ble_eq_true rfl) inX11 11 rfl rc_0_2 wf_X11_30 dX11_plan_6 ?_
    refine ez_getr hX kc_11 rfl (Nat.le_of_ble_eq_true rfl) lc_11 (Nat.le_of_ble_eq_true rfl) inX1 15 rfl rc_11_3 wf_X11_180 dX11_plan_9 ?_
    refine ez_callV hX (N0 := 0) (As := []) (st := []) kc_15 (Nat.le_of_ble_eq_true rfl) lc_15 rfl (ec_X6_empty _ _ _ 15 er_15 M) (Or.inl rfl) wm_X11_148 wv_X6_empty we_X6_empty wy_X6_empty rfl wd_X6_empty wi_X6 (ez_rok hRm rfl) (Nat.le_of_ble_eq_true rfl) dX11_plan_12 ?_
    refine ez_nmIM (fun r20 M21 eM21 => ?_)
    have ht : t0 = (r20, M21) := hT.symm.trans (by simp only [et_X11_plan, if_pos c1, eM21])
    subst ht
    exact ez_iret hX hQ dX11_plan_15 rfl rfl

theorem ef1_X11_tryOut (M : em_M) (line : Int32) {c : Nat} (h : c < 79 ∨ 102 < c) : (et_X11_tryOut M line).1 c = M.1 c := by
  simp only [et_X11_tryOut]
  rw [ef1_X3_move _ _ _ (by omega), ef1_X3_start _ _ _ (by omega)]
theorem ef2_X11_tryOut (M : em_M) (line : Int32) {c : Nat} (h : c < 79 ∨ 102 < c) : (et_X11_tryOut M line).2 c = M.2 c := by
  simp only [et_X11_tryOut]
  rw [ef2_X3_move _ _ _ (by omega), ef2_X3_start _ _ _ (by omega)]

theorem ez_cntsE {k N N' : Int32} {f : Nat} (h : ez_cnt k N (f + 1)) (hk : ¬ N ≤ k) (e : N' = N) : ez_cnt (k + 1) N' f := by
  rw [e]
  exact ez_cnts' h hk

def et_X11_ends_27   : Nat → em_M → Int32 → Int32 → Int64 × em_M
  | 0, M, _, _ => (0, M)
  | fu + 1, M, name, row =>
  (if (M.1 15 0) ≤ row then let r5 := et_X11_at 80 4 M name
  ((r5).toInt64, M) else let r6 := et_X11_at 17 10 M row
  let r7 := et_X11_at 16 10 M row
  (if r7 = (0 : Int32) then let M9 := et_X11_tryOut M r6
  et_X11_ends_27 fu M9 name (row + (1 : Int32))
  else (if r7 = (1 : Int32) then let M11 := et_X11_put 80 4 M r6 (0 : Int32)
  et_X11_ends_27 fu M11 name (row + (1 : Int32))
  else let M12 := et_X11_put 81 3 M r6 (-5 : Int32)
  et_X11_ends_27 fu M12 name (row + (1 : Int32)))))
def et_X11_ends  (M : em_M) (name : Int32) : Int64 × em_M :=
  let r1 := et_X11_isName M name
  (if r1 = 0 then ((-9223372036854775808 : Int64), M) else let M3 := et_X10_copyFrom 79 21 M
  et_X11_ends_27 ((M3.1 15 0).toNatClampNeg + 1) M3 name (0 : Int32))
set_option maxHeartbeats 4000000 in
set_option maxRecDepth 100000 in
theorem el_X11_ends_27 (X : em_X)    (t0 : Int64 × em_M) (hRm : ez_rm X = { frames := 7, cells := 0, slots := 0, locals := 165 }) (hnL : ez_nL X = 4) (hX : ez_ok X cX11_ends RX11) (hQ : ez_ret X (some .long) (some (.long t0.1)) 132 em_R (t0.2) 0 0) : ∀ (fu : Nat) (M : em_M) (name : Int32) (row : Int32), ez_cnt row (M.1 15 0) fu → et_X11_ends_27  fu M name row = t0 → ez_Z X 132 em_R M 0 0 27 [(0, .ref (ez_B X + 0)), (1, .int name), (2, .int row)] [] := by
  intro fu
  induction fu with
  | zero =>
    intro M name row hc hT
    exact absurd hc ez_cntz
  | succ fu ih =>
    intro M name row hc hT
    refine ez_iload_n hX 2 dX11_ends_27 rfl ?_
    refine ez_aload_n hX 0 dX11_ends_28 rfl ?_
    refine ez_getr hX kc_0 rfl (Nat.le_of_ble_eq_true rfl) lc_0 (Nat.le_of_ble_eq_true rfl) inX11 11 rfl rc_0_2 wf_X11_30 dX11_ends_29 ?_
    refine ez_getr hX kc_11 rfl (Nat.le_of_ble_eq_true rfl) lc_11 (Nat.le_of_ble_eq_true rfl) inX1 15 rfl rc_11_3 wf_X11_180 dX11_ends_32 ?_
    refine ez_geti hX kc_15 rfl (Nat.le_of_ble_eq_true rfl) lc_15 (Nat.le_of_ble_eq_true rfl) inX6 rfl wf_X11_183 dX11_ends_35 ?_
    refine ez_icmp_ge hX 139 dX11_ends_38 (by decide) (fun c4 => ?_) (fun c4 => ?_)
    · -- c4 jump
      refine ez_aload_n hX 0 dX11_ends_139 rfl ?_
      refine ez_getr hX kc_0 rfl (Nat.le_of_ble_eq_true rfl) lc_0 (Nat.le_of_ble_eq_true rfl) inX11 79 rfl rc_0_5 wf_X11_40 dX11_ends_140 ?_
      refine ez_getr hX kc_79 rfl (Nat.le_of_ble_eq_true rfl) lc_79 (Nat.le_of_ble_eq_true rfl) inX10 80 rfl rc_79_0 wf_X11_110 dX11_ends_143 ?_
      refine ez_iload_n hX 1 dX11_ends_146 rfl ?_
      refine ez_callS hX (N0 := 0) (As := [.ref (ez_B X + 80), .int name]) (st := []) (ec_X11_at _ _ _ 80 4 kc_80 lc_80 M name) (Or.inl rfl) wm_X11_97 ws_X11_at wy_X11_at rfl wd_X11_at wi_X11 (ez_rok hRm rfl) (Nat.le_of_ble_eq_true rfl) dX11_ends_147 ?_
      refine ez_nmI (fun r5 er5 => ?_)
      refine ez_i2l hX dX11_ends_150 ?_
      have ht : t0 = ((r5).toInt64, M) := hT.symm.trans (by simp only [et_X11_ends_27, if_pos c4, er5])
      subst ht
      exact ez_lret hX hQ dX11_ends_151 rfl rfl
    · -- c4 on
      refine ez_aload_n hX 0 dX11_ends_41 rfl ?_
      refine ez_getr hX kc_0 rfl (Nat.le_of_ble_eq_true rfl) lc_0 (Nat.le_of_ble_eq_true rfl) inX11 11 rfl rc_0_2 wf_X11_30 dX11_ends_42 ?_
      refine ez_getr hX kc_11 rfl (Nat.le_of_ble_eq_true rfl) lc_11 (Nat.le_of_ble_eq_true rfl) inX1 15 rfl rc_11_3 wf_X11_180 dX11_ends_45 ?_
      refine ez_getr hX kc_15 rfl (Nat.le_of_ble_eq_true rfl) lc_15 (Nat.le_of_ble_eq_true rfl) inX6 17 rfl rc_15_2 wf_X11_184 dX11_ends_48 ?_
      refine ez_iload_n hX 2 dX11_ends_51 rfl ?_
      refine ez_callS hX (N0 := 0) (As := [.ref (ez_B X + 17), .int row]) (st := []) (ec_X11_at _ _ _ 17 10 kc_17 lc_17 M row) (Or.inl rfl) wm_X11_97 ws_X11_at wy_X11_at rfl wd_X11_at wi_X11 (ez_rok hRm rfl) (Nat.le_of_ble_eq_true rfl) dX11_ends_52 ?_
      refine ez_nmI (fun r6 er6 => ?_)
      refine ez_istore_n hX [(3, .int r6), (0, .ref (ez_B X + 0)), (1, .int name), (2, .int row)] dX11_ends_55 (ez_lt hnL rfl) rfl ?_
      refine ez_aload_n hX 1 dX11_ends_56 rfl ?_
      refine ez_getr hX kc_0 rfl (Nat.le_of_ble_eq_true rfl) lc_0 (Nat.le_of_ble_eq_true rfl) inX11 11 rfl rc_0_2 wf_X11_30 dX11_ends_57 ?_
      refine ez_getr hX kc_11 rfl (Nat.le_of_ble_eq_true rfl) lc_11 (Nat.le_of_ble_eq_true rfl) inX1 15 rfl rc_11_3 wf_X11_180 dX11_ends_60 ?_
      refine ez_getr hX kc_15 rfl (Nat.le_of_ble_eq_true rfl) lc_15 (Nat.le_of_ble_eq_true rfl) inX6 16 rfl rc_15_1 wf_X11_187 dX11_ends_63 ?_
      refine ez_iload_n hX 3 dX11_ends_66 rfl ?_
      refine ez_callS hX (N0 := 0) (As := [.ref (ez_B X + 16), .int row]) (st := []) (ec_X11_at _ _ _ 16 10 kc_16 lc_16 M row) (Or.inl rfl) wm_X11_97 ws_X11_at wy_X11_at rfl wd_X11_at wi_X11 (ez_rok hRm rfl) (Nat.le_of_ble_eq_true rfl) dX11_ends_67 ?_
      refine ez_nmI (fun r7 er7 => ?_)
      by_cases c8 : r7 = (0 : Int32)
      · have cx : (r7).toInt = 0 := by rw [c8]; rfl
        refine ez_ls hX (26) 96 dX11_ends_70 (by decide) (by rw [cx]; rfl) (by decide) ?_
        refine ez_aload_n hX 1 dX11_ends_96 rfl ?_
        refine ez_iload_n hX 0 dX11_ends_97 rfl ?_
        refine ez_callV hX (N0 := 0) (As := [.int r6]) (st := []) kc_0 (Nat.le_of_ble_eq_true rfl) lc_0 rfl (ec_X11_tryOut _ _ _ M r6) (Or.inl rfl) wm_X11_140 wv_X11_tryOut we_X11_tryOut wy_X11_tryOut rfl wd_X11_tryOut wi_X11 (ez_rok hRm rfl) (Nat.le_of_ble_eq_true rfl) dX11_ends_98 ?_
        refine ez_nmM (fun M9 eM9 => ?_)
        refine ez_pop hX dX11_ends_101 rfl ?_
        refine ez_goto hX 133 dX11_ends_102 (by decide) ?_
        refine ez_iinc hX (row + (1 : Int32)) 3 [(2, .int (row + (1 : Int32))), (3, .int r6), (0, .ref (ez_B X + 0)), (1, .int name)] dX11_ends_133 rfl rfl (ez_lt hnL rfl) rfl ?_
        refine ez_goto hX 27 dX11_ends_136 (by decide) ?_
        refine ez_lv [2, 3, 0] rfl ?_
        exact ih M9 name (row + (1 : Int32)) (ez_cntsE hc c4 (by rw [← eM9]; first | exact congrFun (ef1_X11_tryOut _ _ (by omega)) _ | exact congrFun (ef_put1 (by decide)) _)) (Eq.trans (by simp only [et_X11_ends_27, if_neg c4, er6, er7, if_pos c8, eM9]) hT)
      · skip
        by_cases c10 : r7 = (1 : Int32)
        · have cx : (r7).toInt = 1 := by rw [c10]; rfl
          refine ez_ls hX (35) 105 dX11_ends_70 (by decide) (by rw [cx]; rfl) (by decide) ?_
          refine ez_aload_n hX 1 dX11_ends_105 rfl ?_
          refine ez_getr hX kc_0 rfl (Nat.le_of_ble_eq_true rfl) lc_0 (Nat.le_of_ble_eq_true rfl) inX11 79 rfl rc_0_5 wf_X11_40 dX11_ends_106 ?_
          refine ez_getr hX kc_79 rfl (Nat.le_of_ble_eq_true rfl) lc_79 (Nat.le_of_ble_eq_true rfl) inX10 80 rfl rc_79_0 wf_X11_110 dX11_ends_109 ?_
          refine ez_iload_n hX 0 dX11_ends_112 rfl ?_
          refine ez_iconst hX (0 : Int32) dX11_ends_113 (by decide) ?_
          refine ez_callS hX (N0 := 0) (As := [.ref (ez_B X + 80), .int r6, .int (0 : Int32)]) (st := []) (ec_X11_put _ _ _ 80 4 kc_80 lc_80 M r6 (0 : Int32)) (Or.inl rfl) wm_X11_101 ws_X11_put wy_X11_put rfl wd_X11_put wi_X11 (ez_rok hRm rfl) (Nat.le_of_ble_eq_true rfl) dX11_ends_114 ?_
          refine ez_nmM (fun M11 eM11 => ?_)
          refine ez_goto hX 133 dX11_ends_117 (by decide) ?_
          refine ez_iinc hX (row + (1 : Int32)) 3 [(2, .int (row + (1 : Int32))), (3, .int r6), (0, .ref (ez_B X + 0)), (1, .int name)] dX11_ends_133 rfl rfl (ez_lt hnL rfl) rfl ?_
          refine ez_goto hX 27 dX11_ends_136 (by decide) ?_
          refine ez_lv [2, 3, 0] rfl ?_
          exact ih M11 name (row + (1 : Int32)) (ez_cntsE hc c4 (by rw [← eM11]; first | exact congrFun (ef1_X11_tryOut _ _ (by omega)) _ | exact congrFun (ef_put1 (by decide)) _)) (Eq.trans (by simp only [et_X11_ends_27, if_neg c4, er6, er7, if_neg c8, if_pos c10, eM11]) hT)
        · skip
          refine ez_lsD hX 120 dX11_ends_70 (by decide) (List.forall_mem_cons.mpr ⟨lv_neT c8 rfl, (List.forall_mem_cons.mpr ⟨lv_neT c10 rfl, (fun _ h => absurd h List.not_mem_nil)⟩)⟩) (by decide) ?_
          refine ez_aload_n hX 1 dX11_ends_120 rfl ?_
          refine ez_getr hX kc_0 rfl (Nat.le_of_ble_eq_true rfl) lc_0 (Nat.le_of_ble_eq_true rfl) inX11 79 rfl rc_0_5 wf_X11_40 dX11_ends_121 ?_
          refine ez_getr hX kc_79 rfl (Nat.le_of_ble_eq_true rfl) lc_79 (Nat.le_of_ble_eq_true rfl) inX10 81 rfl rc_79_1 wf_X11_93 dX11_ends_124 ?_
          refine ez_iload_n hX 0 dX11_ends_127 rfl ?_
          refine ez_bipush hX (-5 : Int32) dX11_ends_128 (by decide) ?_
          refine ez_callS hX (N0 := 0) (As := [.ref (ez_B X + 81), .int r6, .int (-5 : Int32)]) (st := []) (ec_X11_put _ _ _ 81 3 kc_81 lc_81 M r6 (-5 : Int32)) (Or.inl rfl) wm_X11_101 ws_X11_put wy_X11_put rfl wd_X11_put wi_X11 (ez_rok hRm rfl) (Nat.le_of_ble_eq_true rfl) dX11_ends_130 ?_
          refine ez_nmM (fun M12 eM12 => ?_)
          refine ez_iinc hX (row + (1 : Int32)) 3 [(2, .int (row + (1 : Int32))), (3, .int r6), (0, .ref (ez_B X + 0)), (1, .int name)] dX11_ends_133 rfl rfl (ez_lt hnL rfl) rfl ?_
          refine ez_goto hX 27 dX11_ends_136 (by decide) ?_
          refine ez_lv [2, 3, 0] rfl ?_
          exact ih M12 name (row + (1 : Int32)) (ez_cntsE hc c4 (by rw [← eM12]; first | exact congrFun (ef1_X11_tryOut _ _ (by omega)) _ | exact congrFun (ef_put1 (by decide)) _)) (Eq.trans (by simp only [et_X11_ends_27, if_neg c4, er6, er7, if_neg c8, if_neg c10, eM12]) hT)
set_option maxHeartbeats 4000000 in
set_option maxRecDepth 100000 in
theorem ec_X11_ends (l : Launch) (D : em_G) (B : Nat) (M : em_M) (name : Int32) : em_C l D B yX11_ends cX11_ends 4 (some .long) 7 165 0 0 false [.ref (B + 0), .int name] 132 em_R M (some (.long (et_X11_ends M name).1)) 132 em_R ((et_X11_ends M name).2) := by
  refine em_C_of RX11 [(0, .ref (B + 0)), (1, .int name)] (by decide) rfl rfl (Nat.le_of_ble_eq_true rfl) ?_
  rintro X rfl rfl rfl hRm hnL hnm hsz hX hQ
  obtain ⟨t0, hT⟩ : ∃ tz, et_X11_ends M name = tz := ⟨_, rfl⟩
  rw [hT] at hQ
  refine ez_iload_n hX 1 dX11_ends_0 rfl ?_
  refine ez_callS hX (N0 := 0) (As := [.int name]) (st := []) (ec_X11_isName _ _ _ M name) (Or.inl rfl) wm_X11_105 ws_X11_isName wy_X11_isName rfl wd_X11_isName wi_X11 (ez_rok hRm rfl) (Nat.le_of_ble_eq_true rfl) dX11_ends_1 ?_
  refine ez_nmI (fun r1 er1 => ?_)
  refine ez_if_ne hX 11 dX11_ends_4 (by decide) (fun c2 => ?_) (fun c2 => ?_)
  · -- c2 jump
    refine ez_aload_n hX 0 dX11_ends_11 rfl ?_
    refine ez_getr hX kc_0 rfl (Nat.le_of_ble_eq_true rfl) lc_0 (Nat.le_of_ble_eq_true rfl) inX11 79 rfl rc_0_5 wf_X11_40 dX11_ends_12 ?_
    refine ez_aload_n hX 0 dX11_ends_15 rfl ?_
    refine ez_getr hX kc_0 rfl (Nat.le_of_ble_eq_true rfl) lc_0 (Nat.le_of_ble_eq_true rfl) inX11 11 rfl rc_0_2 wf_X11_30 dX11_ends_16 ?_
    refine ez_getr hX kc_11 rfl (Nat.le_of_ble_eq_true rfl) lc_11 (Nat.le_of_ble_eq_true rfl) inX1 21 rfl rc_11_0 wf_X11_90 dX11_ends_19 ?_
    refine ez_callV hX (N0 := 0) (As := [.ref (ez_B X + 21)]) (st := []) kc_79 (Nat.le_of_ble_eq_true rfl) lc_79 rfl (ec_X10_copyFrom _ _ _ 79 ew_79 21 ew_21 M) (Or.inl rfl) wm_X11_136 wv_X10_copyFrom we_X10_copyFrom wy_X10_copyFrom rfl wd_X10_copyFrom wi_X10 (ez_rok hRm rfl) (Nat.le_of_ble_eq_true rfl) dX11_ends_22 ?_
    refine ez_nmM (fun M3 eM3 => ?_)
    refine ez_iconst hX (0 : Int32) dX11_ends_25 (by decide) ?_
    refine ez_istore_n hX [(2, .int (0 : Int32)), (0, .ref (ez_B X + 0)), (1, .int name)] dX11_ends_26 (ez_lt hnL rfl) rfl ?_
    refine ez_lv [1, 2, 0] rfl ?_
    exact el_X11_ends_27 X  t0 hRm hnL hX hQ ((M3.1 15 0).toNatClampNeg + 1) M3 name (0 : Int32) (ez_cnt0 _) (Eq.trans (by simp only [et_X11_ends, er1, if_neg c2, eM3]) hT)
  · -- c2 on
    refine ez_ldc2 hX wl_X11_108 dX11_ends_7 ?_
    have ht : t0 = ((-9223372036854775808 : Int64), M) := hT.symm.trans (by simp only [et_X11_ends, er1, if_pos c2])
    subst ht
    exact ez_lret hX hQ dX11_ends_10 rfl rfl

def et_X11_book  (M : em_M) (name : Int32) (v : Int32) : Int32 × em_M :=
  (if name = (-1 : Int32) then let q9 := et_X6_empty 18 M
  let r7 := q9.1
  let M8 := q9.2
  (r7, M8) else let r2 := et_X11_isName M name
  (if r2 = 0 then ((-1 : Int32), M) else let q6 := et_X6_add 18 M name v
  let r4 := q6.1
  let M5 := q6.2
  (r4, M5)))
set_option maxHeartbeats 4000000 in
set_option maxRecDepth 100000 in
theorem ec_X11_book (l : Launch) (D : em_G) (B : Nat) (M : em_M) (name : Int32) (v : Int32) : em_C l D B yX11_book cX11_book 3 (some .int) 2 44 0 0 false [.ref (B + 0), .int name, .int v] 132 em_R M (some (.int (et_X11_book M name v).1)) 132 em_R ((et_X11_book M name v).2) := by
  refine em_C_of RX11 [(0, .ref (B + 0)), (1, .int name), (2, .int v)] (by decide) rfl rfl (Nat.le_of_ble_eq_true rfl) ?_
  rintro X rfl rfl rfl hRm hnL hnm hsz hX hQ
  obtain ⟨t0, hT⟩ : ∃ tz, et_X11_book M name v = tz := ⟨_, rfl⟩
  rw [hT] at hQ
  refine ez_iload_n hX 1 dX11_book_0 rfl ?_
  refine ez_iconst hX (-1 : Int32) dX11_book_1 (by decide) ?_
  refine ez_icmp_ne hX 16 dX11_book_2 (by decide) (fun c1 => ?_) (fun c1 => ?_)
  · -- c1 jump
    refine ez_iload_n hX 1 dX11_book_16 rfl ?_
    refine ez_callS hX (N0 := 0) (As := [.int name]) (st := []) (ec_X11_isName _ _ _ M name) (Or.inl rfl) wm_X11_105 ws_X11_isName wy_X11_isName rfl wd_X11_isName wi_X11 (ez_rok hRm rfl) (Nat.le_of_ble_eq_true rfl) dX11_book_17 ?_
    refine ez_nmI (fun r2 er2 => ?_)
    refine ez_if_eq hX 38 dX11_book_20 (by decide) (fun c3 => ?_) (fun c3 => ?_)
    · -- c3 jump
      refine ez_iconst hX (-1 : Int32) dX11_book_38 (by decide) ?_
      have ht : t0 = ((-1 : Int32), M) := hT.symm.trans (by simp only [et_X11_book, if_neg c1, er2, if_pos c3])
      subst ht
      exact ez_iret hX hQ dX11_book_39 rfl rfl
    · -- c3 on
      refine ez_aload_n hX 0 dX11_book_23 rfl ?_
      refine ez_getr hX kc_0 rfl (Nat.le_of_ble_eq_true rfl) lc_0 (Nat.le_of_ble_eq_true rfl) inX11 11 rfl rc_0_2 wf_X11_30 dX11_book_24 ?_
      refine ez_getr hX kc_11 rfl (Nat.le_of_ble_eq_true rfl) lc_11 (Nat.le_of_ble_eq_true rfl) inX1 18 rfl rc_11_4 wf_X11_190 dX11_book_27 ?_
      refine ez_iload_n hX 1 dX11_book_30 rfl ?_
      refine ez_iload_n hX 2 dX11_book_31 rfl ?_
      refine ez_callV hX (N0 := 0) (As := [.int name, .int v]) (st := []) kc_18 (Nat.le_of_ble_eq_true rfl) lc_18 rfl (ec_X6_add _ _ _ 18 er_18 M name v) (Or.inl rfl) wm_X11_153 wv_X6_add we_X6_add wy_X6_add rfl wd_X6_add wi_X6 (ez_rok hRm rfl) (Nat.le_of_ble_eq_true rfl) dX11_book_32 ?_
      refine ez_nmIM (fun r4 M5 eM5 => ?_)
      refine ez_goto hX 39 dX11_book_35 (by decide) ?_
      have ht : t0 = (r4, M5) := hT.symm.trans (by simp only [et_X11_book, if_neg c1, er2, if_neg c3, eM5])
      subst ht
      exact ez_iret hX hQ dX11_book_39 rfl rfl
  · -- c1 on
    refine ez_aload_n hX 0 dX11_book_5 rfl ?_
    refine ez_getr hX kc_0 rfl (Nat.le_of_ble_eq_true rfl) lc_0 (Nat.le_of_ble_eq_true rfl) inX11 11 rfl rc_0_2 wf_X11_30 dX11_book_6 ?_
    refine ez_getr hX kc_11 rfl (Nat.le_of_ble_eq_true rfl) lc_11 (Nat.le_of_ble_eq_true rfl) inX1 18 rfl rc_11_4 wf_X11_190 dX11_book_9 ?_
    refine ez_callV hX (N0 := 0) (As := []) (st := []) kc_18 (Nat.le_of_ble_eq_true rfl) lc_18 rfl (ec_X6_empty _ _ _ 18 er_18 M) (Or.inl rfl) wm_X11_148 wv_X6_empty we_X6_empty wy_X6_empty rfl wd_X6_empty wi_X6 (ez_rok hRm rfl) (Nat.le_of_ble_eq_true rfl) dX11_book_12 ?_
    refine ez_nmIM (fun r7 M8 eM8 => ?_)
    have ht : t0 = (r7, M8) := hT.symm.trans (by simp only [et_X11_book, if_pos c1, eM8])
    subst ht
    exact ez_iret hX hQ dX11_book_15 rfl rfl

def et_X11_looked_2   : Nat → em_M → Int32 → Int32
  | 0, _, _ => 0
  | fu + 1, M, row =>
  (if (M.1 18 0) ≤ row then (-5 : Int32) else let r2 := et_X11_at 19 10 M row
  let r3 := et_X11_at 22 4 M r2
  let r4 := et_X11_at 20 10 M row
  (if r3 = r4 then et_X11_looked_2 fu M (row + (1 : Int32)) else row))
def et_X11_looked  (M : em_M) : Int32 :=
  et_X11_looked_2 ((M.1 18 0).toNatClampNeg + 1) M (0 : Int32)
set_option maxHeartbeats 4000000 in
set_option maxRecDepth 100000 in
theorem el_X11_looked_2 (X : em_X)    (t0 : Int32) (hRm : ez_rm X = { frames := 1, cells := 0, slots := 0, locals := 21 }) (hnL : ez_nL X = 2) (hX : ez_ok X cX11_looked RX11) (M : em_M) (hQ : ez_ret X (some .int) (some (.int t0)) 132 em_R (M) 0 0) : ∀ (fu : Nat) (row : Int32), ez_cnt row (M.1 18 0) fu → et_X11_looked_2  fu M row = t0 → ez_Z X 132 em_R M 0 0 2 [(0, .ref (ez_B X + 0)), (1, .int row)] [] := by
  intro fu
  induction fu with
  | zero =>
    intro row hc hT
    exact absurd hc ez_cntz
  | succ fu ih =>
    intro row hc hT
    refine ez_iload_n hX 1 dX11_looked_2 rfl ?_
    refine ez_aload_n hX 0 dX11_looked_3 rfl ?_
    refine ez_getr hX kc_0 rfl (Nat.le_of_ble_eq_true rfl) lc_0 (Nat.le_of_ble_eq_true rfl) inX11 11 rfl rc_0_2 wf_X11_30 dX11_looked_4 ?_
    refine ez_getr hX kc_11 rfl (Nat.le_of_ble_eq_true rfl) lc_11 (Nat.le_of_ble_eq_true rfl) inX1 18 rfl rc_11_4 wf_X11_190 dX11_looked_7 ?_
    refine ez_geti hX kc_18 rfl (Nat.le_of_ble_eq_true rfl) lc_18 (Nat.le_of_ble_eq_true rfl) inX6 rfl wf_X11_183 dX11_looked_10 ?_
    refine ez_icmp_ge hX 68 dX11_looked_13 (by decide) (fun c1 => ?_) (fun c1 => ?_)
    · -- c1 jump
      refine ez_bipush hX (-5 : Int32) dX11_looked_68 (by decide) ?_
      have ht : t0 = (-5 : Int32) := hT.symm.trans (by simp only [et_X11_looked_2, if_pos c1])
      subst ht
      exact ez_iret hX hQ dX11_looked_70 rfl rfl
    · -- c1 on
      refine ez_aload_n hX 0 dX11_looked_16 rfl ?_
      refine ez_getr hX kc_0 rfl (Nat.le_of_ble_eq_true rfl) lc_0 (Nat.le_of_ble_eq_true rfl) inX11 11 rfl rc_0_2 wf_X11_30 dX11_looked_17 ?_
      refine ez_getr hX kc_11 rfl (Nat.le_of_ble_eq_true rfl) lc_11 (Nat.le_of_ble_eq_true rfl) inX1 21 rfl rc_11_0 wf_X11_90 dX11_looked_20 ?_
      refine ez_getr hX kc_21 rfl (Nat.le_of_ble_eq_true rfl) lc_21 (Nat.le_of_ble_eq_true rfl) inX10 22 rfl rc_21_0 wf_X11_110 dX11_looked_23 ?_
      refine ez_aload_n hX 0 dX11_looked_26 rfl ?_
      refine ez_getr hX kc_0 rfl (Nat.le_of_ble_eq_true rfl) lc_0 (Nat.le_of_ble_eq_true rfl) inX11 11 rfl rc_0_2 wf_X11_30 dX11_looked_27 ?_
      refine ez_getr hX kc_11 rfl (Nat.le_of_ble_eq_true rfl) lc_11 (Nat.le_of_ble_eq_true rfl) inX1 18 rfl rc_11_4 wf_X11_190 dX11_looked_30 ?_
      refine ez_getr hX kc_18 rfl (Nat.le_of_ble_eq_true rfl) lc_18 (Nat.le_of_ble_eq_true rfl) inX6 19 rfl rc_18_1 wf_X11_187 dX11_looked_33 ?_
      refine ez_iload_n hX 1 dX11_looked_36 rfl ?_
      refine ez_callS hX (N0 := 0) (As := [.ref (ez_B X + 19), .int row]) (st := [.ref (ez_B X + 22)]) (ec_X11_at _ _ _ 19 10 kc_19 lc_19 M row) (Or.inl rfl) wm_X11_97 ws_X11_at wy_X11_at rfl wd_X11_at wi_X11 (ez_rok hRm rfl) (Nat.le_of_ble_eq_true rfl) dX11_looked_37 ?_
      refine ez_nmI (fun r2 er2 => ?_)
      refine ez_callS hX (N0 := 0) (As := [.ref (ez_B X + 22), .int r2]) (st := []) (ec_X11_at _ _ _ 22 4 kc_22 lc_22 M r2) (Or.inl rfl) wm_X11_97 ws_X11_at wy_X11_at rfl wd_X11_at wi_X11 (ez_rok hRm rfl) (Nat.le_of_ble_eq_true rfl) dX11_looked_40 ?_
      refine ez_nmI (fun r3 er3 => ?_)
      refine ez_aload_n hX 0 dX11_looked_43 rfl ?_
      refine ez_getr hX kc_0 rfl (Nat.le_of_ble_eq_true rfl) lc_0 (Nat.le_of_ble_eq_true rfl) inX11 11 rfl rc_0_2 wf_X11_30 dX11_looked_44 ?_
      refine ez_getr hX kc_11 rfl (Nat.le_of_ble_eq_true rfl) lc_11 (Nat.le_of_ble_eq_true rfl) inX1 18 rfl rc_11_4 wf_X11_190 dX11_looked_47 ?_
      refine ez_getr hX kc_18 rfl (Nat.le_of_ble_eq_true rfl) lc_18 (Nat.le_of_ble_eq_true rfl) inX6 20 rfl rc_18_2 wf_X11_184 dX11_looked_50 ?_
      refine ez_iload_n hX 1 dX11_looked_53 rfl ?_
      refine ez_callS hX (N0 := 0) (As := [.ref (ez_B X + 20), .int row]) (st := [.int r3]) (ec_X11_at _ _ _ 20 10 kc_20 lc_20 M row) (Or.inl rfl) wm_X11_97 ws_X11_at wy_X11_at rfl wd_X11_at wi_X11 (ez_rok hRm rfl) (Nat.le_of_ble_eq_true rfl) dX11_looked_54 ?_
      refine ez_nmI (fun r4 er4 => ?_)
      refine ez_icmp_eq hX 62 dX11_looked_57 (by decide) (fun c5 => ?_) (fun c5 => ?_)
      · -- c5 jump
        refine ez_iinc hX (row + (1 : Int32)) 1 [(1, .int (row + (1 : Int32))), (0, .ref (ez_B X + 0))] dX11_looked_62 rfl rfl (ez_lt hnL rfl) rfl ?_
        refine ez_goto hX 2 dX11_looked_65 (by decide) ?_
        refine ez_lv [1, 0] rfl ?_
        exact ih (row + (1 : Int32)) (ez_cnts' hc c1) (Eq.trans (by simp only [et_X11_looked_2, if_neg c1, er2, er3, er4, if_pos c5]) hT)
      · -- c5 on
        refine ez_iload_n hX 1 dX11_looked_60 rfl ?_
        have ht : t0 = row := hT.symm.trans (by simp only [et_X11_looked_2, if_neg c1, er2, er3, er4, if_neg c5])
        subst ht
        exact ez_iret hX hQ dX11_looked_61 rfl rfl
set_option maxHeartbeats 4000000 in
set_option maxRecDepth 100000 in
theorem ec_X11_looked (l : Launch) (D : em_G) (B : Nat) (M : em_M) : em_C l D B yX11_looked cX11_looked 2 (some .int) 1 21 0 0 false [.ref (B + 0)] 132 em_R M (some (.int (et_X11_looked M))) 132 em_R (M) := by
  refine em_C_of RX11 [(0, .ref (B + 0))] (by decide) rfl rfl (Nat.le_of_ble_eq_true rfl) ?_
  rintro X rfl rfl rfl hRm hnL hnm hsz hX hQ
  obtain ⟨t0, hT⟩ : ∃ tz, et_X11_looked M = tz := ⟨_, rfl⟩
  rw [hT] at hQ
  refine ez_iconst hX (0 : Int32) dX11_looked_0 (by decide) ?_
  refine ez_istore_n hX [(1, .int (0 : Int32)), (0, .ref (ez_B X + 0))] dX11_looked_1 (ez_lt hnL rfl) rfl ?_
  refine ez_lv [1, 0] rfl ?_
  exact el_X11_looked_2 X  t0 hRm hnL hX M hQ ((M.1 18 0).toNatClampNeg + 1) (0 : Int32) (ez_cnt0 _) (Eq.trans (by simp only [et_X11_looked]) hT)

def et_X11_judge_46  (t : Nat)  : Nat → em_M → Int32 → Int32 → Int32
  | 0, _, _, _ => 0
  | fu + 1, M, i, k =>
  (if (M.1 25 3) ≤ k then (-5 : Int32) else let r5 := et_X8_has t M i
  (if r5 = 0 then ((100 : Int32) + k) else (if i < ((M.1 t 1) - k) then let r8 := et_X11_at_ (t + 1) 60 M (i + k)
  let r9 := et_X11_at 26 40 M k
  (if (lg_cmp r8 (r9).toInt64) = 0 then et_X11_judge_46 t fu M i (k + (1 : Int32)) else k) else ((100 : Int32) + k))))
def et_X11_judge  (M : em_M) (tape : Int32) (i : Int32) : Int32 :=
  (if tape < 0 then (-1 : Int32) else (if (6 : Int32) ≤ tape then (-1 : Int32) else (if (M.1 (et_tp tape) 0) = (-1 : Int32) then et_X11_judge_46 (et_tp tape) ((M.1 25 3).toNatClampNeg + 1) M i (0 : Int32) else (if (M.1 (et_tp tape) 0) = (2 : Int32) then et_X11_judge_46 (et_tp tape) ((M.1 25 3).toNatClampNeg + 1) M i (0 : Int32) else (-12 : Int32)))))
set_option maxHeartbeats 4000000 in
set_option maxRecDepth 100000 in
theorem el_X11_judge_46 (X : em_X) (t : Nat) (ht : et t)   (t0 : Int32) (hRm : ez_rm X = { frames := 1, cells := 0, slots := 0, locals := 21 }) (hnL : ez_nL X = 6) (hX : ez_ok X cX11_judge RX11) (M : em_M) (hQ : ez_ret X (some .int) (some (.int t0)) 132 em_R (M) 0 0) : ∀ (fu : Nat) (i : Int32) (k : Int32), ez_cnt k (M.1 25 3) fu → et_X11_judge_46 t fu M i k = t0 → ez_Z X 132 em_R M 0 0 46 [(0, .ref (ez_B X + 0)), (2, .int i), (3, .ref (ez_B X + t)), (4, .ref (ez_B X + 25)), (5, .int k)] [] := by
  intro fu
  induction fu with
  | zero =>
    intro i k hc hT
    exact absurd hc ez_cntz
  | succ fu ih =>
    intro i k hc hT
    refine ez_iload hX 4 dX11_judge_46 rfl ?_
    refine ez_aload hX 3 dX11_judge_48 rfl ?_
    refine ez_geti hX kc_25 rfl (Nat.le_of_ble_eq_true rfl) lc_25 (Nat.le_of_ble_eq_true rfl) inX4 rfl wf_X11_175 dX11_judge_50 ?_
    refine ez_icmp_ge hX 116 dX11_judge_53 (by decide) (fun c4 => ?_) (fun c4 => ?_)
    · -- c4 jump
      refine ez_bipush hX (-5 : Int32) dX11_judge_116 (by decide) ?_
      have ht : t0 = (-5 : Int32) := hT.symm.trans (by simp only [et_X11_judge_46, if_pos c4])
      subst ht
      exact ez_iret hX hQ dX11_judge_118 rfl rfl
    · -- c4 on
      refine ez_aload_n hX 2 dX11_judge_56 rfl ?_
      refine ez_iload_n hX 1 dX11_judge_57 rfl ?_
      refine ez_callV hX (N0 := 0) (As := [.int i]) (st := []) (kt_0 ht) (Nat.le_of_ble_eq_true rfl) (kt_lt0 ht) rfl (ec_X8_has _ _ _ t ht M i) (Or.inl rfl) wm_X11_200 wv_X8_has we_X8_has wy_X8_has rfl wd_X8_has wi_X8 (ez_rok hRm rfl) (Nat.le_of_ble_eq_true rfl) dX11_judge_58 ?_
      refine ez_nmI (fun r5 er5 => ?_)
      refine ez_if_eq hX 75 dX11_judge_61 (by decide) (fun c6 => ?_) (fun c6 => ?_)
      · -- c6 jump
        refine ez_bipush hX (100 : Int32) dX11_judge_75 (by decide) ?_
        refine ez_iload hX 4 dX11_judge_77 rfl ?_
        refine ez_iadd hX dX11_judge_79 ?_
        have ht : t0 = ((100 : Int32) + k) := hT.symm.trans (by simp only [et_X11_judge_46, if_neg c4, er5, if_pos c6])
        subst ht
        exact ez_iret hX hQ dX11_judge_80 rfl rfl
      · -- c6 on
        refine ez_iload_n hX 1 dX11_judge_64 rfl ?_
        refine ez_aload_n hX 2 dX11_judge_65 rfl ?_
        refine ez_geti hX (kt_0 ht) rfl (Nat.le_of_ble_eq_true rfl) (kt_lt0 ht) (Nat.le_of_ble_eq_true rfl) inX8 rfl wf_X11_201 dX11_judge_66 ?_
        refine ez_iload hX 4 dX11_judge_69 rfl ?_
        refine ez_isub hX dX11_judge_71 ?_
        refine ez_icmp_lt hX 81 dX11_judge_72 (by decide) (fun c7 => ?_) (fun c7 => ?_)
        · -- c7 jump
          refine ez_aload_n hX 2 dX11_judge_81 rfl ?_
          refine ez_getr hX (kt_0 ht) rfl (Nat.le_of_ble_eq_true rfl) (kt_lt0 ht) (Nat.le_of_ble_eq_true rfl) inX8 (t + 1) rfl (rt_0_2 ht) wf_X11_202 dX11_judge_82 ?_
          refine ez_iload_n hX 1 dX11_judge_85 rfl ?_
          refine ez_iload hX 4 dX11_judge_86 rfl ?_
          refine ez_iadd hX dX11_judge_88 ?_
          refine ez_callS hX (N0 := 0) (As := [.ref (ez_B X + (t + 1)), .int (i + k)]) (st := []) (ec_X11_at_ _ _ _ (t + 1) 60 (kt_1 ht) (kt_lt ht 1 (by decide)) M (i + k)) (Or.inl rfl) wm_X11_206 ws_X11_at_ wy_X11_at_ rfl wd_X11_at_ wi_X11 (ez_rok hRm rfl) (Nat.le_of_ble_eq_true rfl) dX11_judge_89 ?_
          refine ez_nmL (fun r8 er8 => ?_)
          refine ez_aload hX 3 dX11_judge_92 rfl ?_
          refine ez_getr hX kc_25 rfl (Nat.le_of_ble_eq_true rfl) lc_25 (Nat.le_of_ble_eq_true rfl) inX4 26 rfl rc_25_4 wf_X11_209 dX11_judge_94 ?_
          refine ez_iload hX 4 dX11_judge_97 rfl ?_
          refine ez_callS hX (N0 := 0) (As := [.ref (ez_B X + 26), .int k]) (st := [.long r8]) (ec_X11_at _ _ _ 26 40 kc_26 lc_26 M k) (Or.inl rfl) wm_X11_97 ws_X11_at wy_X11_at rfl wd_X11_at wi_X11 (ez_rok hRm rfl) (Nat.le_of_ble_eq_true rfl) dX11_judge_99 ?_
          refine ez_nmI (fun r9 er9 => ?_)
          refine ez_i2l hX dX11_judge_102 ?_
          refine ez_lcmp hX dX11_judge_103 ?_
          refine ez_if_eq hX 110 dX11_judge_104 (by decide) (fun c10 => ?_) (fun c10 => ?_)
          · -- c10 jump
            refine ez_iinc hX (k + (1 : Int32)) 4 [(5, .int (k + (1 : Int32))), (0, .ref (ez_B X + 0)), (2, .int i), (3, .ref (ez_B X + t)), (4, .ref (ez_B X + 25))] dX11_judge_110 rfl rfl (ez_lt hnL rfl) rfl ?_
            refine ez_goto hX 46 dX11_judge_113 (by decide) ?_
            refine ez_lv [1, 2, 3, 4, 0] rfl ?_
            exact ih i (k + (1 : Int32)) (ez_cnts' hc c4) (Eq.trans (by simp only [et_X11_judge_46, if_neg c4, er5, if_neg c6, if_pos c7, er8, er9, if_pos c10]) hT)
          · -- c10 on
            refine ez_iload hX 4 dX11_judge_107 rfl ?_
            have ht : t0 = k := hT.symm.trans (by simp only [et_X11_judge_46, if_neg c4, er5, if_neg c6, if_pos c7, er8, er9, if_neg c10])
            subst ht
            exact ez_iret hX hQ dX11_judge_109 rfl rfl
        · -- c7 on
          refine ez_bipush hX (100 : Int32) dX11_judge_75 (by decide) ?_
          refine ez_iload hX 4 dX11_judge_77 rfl ?_
          refine ez_iadd hX dX11_judge_79 ?_
          have ht : t0 = ((100 : Int32) + k) := hT.symm.trans (by simp only [et_X11_judge_46, if_neg c4, er5, if_neg c6, if_neg c7])
          subst ht
          exact ez_iret hX hQ dX11_judge_80 rfl rfl
set_option maxHeartbeats 4000000 in
set_option maxRecDepth 100000 in
theorem ec_X11_judge (l : Launch) (D : em_G) (B : Nat) (M : em_M) (tape : Int32) (i : Int32) : em_C l D B yX11_judge cX11_judge 6 (some .int) 1 21 0 0 false [.ref (B + 0), .int tape, .int i] 132 em_R M (some (.int (et_X11_judge M tape i))) 132 em_R (M) := by
  refine em_C_of RX11 [(0, .ref (B + 0)), (1, .int tape), (2, .int i)] (by decide) rfl rfl (Nat.le_of_ble_eq_true rfl) ?_
  rintro X rfl rfl rfl hRm hnL hnm hsz hX hQ
  obtain ⟨t0, hT⟩ : ∃ tz, et_X11_judge M tape i = tz := ⟨_, rfl⟩
  rw [hT] at hQ
  refine ez_aload_n hX 0 dX11_judge_0 rfl ?_
  refine ez_iload_n hX 1 dX11_judge_1 rfl ?_
  by_cases c1 : tape < 0
  · skip
    refine ez_callV hX (N0 := 0) (As := [.int tape]) (st := []) kc_0 (Nat.le_of_ble_eq_true rfl) lc_0 rfl (ec_X11_tapeOf_N _ _ _ M tape (Or.inl c1)) (Or.inl rfl) wm_X11_193 wv_X11_tapeOf we_X11_tapeOf wy_X11_tapeOf rfl wd_X11_tapeOf wi_X11 (ez_rok hRm rfl) (Nat.le_of_ble_eq_true rfl) dX11_judge_2 ?_
    refine ez_astore_nN hX [(3, .null), (0, .ref (ez_B X + 0)), (1, .int tape), (2, .int i)] dX11_judge_5 (ez_lt hnL rfl) rfl ?_
    refine ez_aload_nN hX 0 dX11_judge_6 rfl ?_
    refine ez_ifnonnullN hX (x := 0) dX11_judge_7 ?_
    refine ez_iconst hX (-1 : Int32) dX11_judge_10 (by decide) ?_
    have ht : t0 = (-1 : Int32) := hT.symm.trans (by simp only [et_X11_judge, if_pos c1])
    subst ht
    exact ez_iret hX hQ dX11_judge_11 rfl rfl
  · by_cases c2 : (6 : Int32) ≤ tape
    · skip
      refine ez_callV hX (N0 := 0) (As := [.int tape]) (st := []) kc_0 (Nat.le_of_ble_eq_true rfl) lc_0 rfl (ec_X11_tapeOf_N _ _ _ M tape (Or.inr c2)) (Or.inl rfl) wm_X11_193 wv_X11_tapeOf we_X11_tapeOf wy_X11_tapeOf rfl wd_X11_tapeOf wi_X11 (ez_rok hRm rfl) (Nat.le_of_ble_eq_true rfl) dX11_judge_2 ?_
      refine ez_astore_nN hX [(3, .null), (0, .ref (ez_B X + 0)), (1, .int tape), (2, .int i)] dX11_judge_5 (ez_lt hnL rfl) rfl ?_
      refine ez_aload_nN hX 0 dX11_judge_6 rfl ?_
      refine ez_ifnonnullN hX (x := 0) dX11_judge_7 ?_
      refine ez_iconst hX (-1 : Int32) dX11_judge_10 (by decide) ?_
      have ht : t0 = (-1 : Int32) := hT.symm.trans (by simp only [et_X11_judge, if_neg c1, if_pos c2])
      subst ht
      exact ez_iret hX hQ dX11_judge_11 rfl rfl
    · skip
      refine ez_callV hX (N0 := 0) (As := [.int tape]) (st := []) kc_0 (Nat.le_of_ble_eq_true rfl) lc_0 rfl (ec_X11_tapeOf_R _ _ _ M tape c1 c2) (Or.inl rfl) wm_X11_193 wv_X11_tapeOf we_X11_tapeOf wy_X11_tapeOf rfl wd_X11_tapeOf wi_X11 (ez_rok hRm rfl) (Nat.le_of_ble_eq_true rfl) dX11_judge_2 ?_
      refine ez_astore_n hX [(3, .ref (ez_B X + (et_tp tape))), (0, .ref (ez_B X + 0)), (1, .int tape), (2, .int i)] dX11_judge_5 (ez_lt hnL rfl) rfl ?_
      refine ez_aload_n hX 0 dX11_judge_6 rfl ?_
      refine ez_ifnonnull hX 12 dX11_judge_7 (by decide) ?_
      refine ez_aload_n hX 0 dX11_judge_12 rfl ?_
      refine ez_geti hX (kt_0 (et_tpt c1 c2)) rfl (Nat.le_of_ble_eq_true rfl) (kt_lt0 (et_tpt c1 c2)) (Nat.le_of_ble_eq_true rfl) inX8 rfl wf_X11_197 dX11_judge_13 ?_
      refine ez_iconst hX (-1 : Int32) dX11_judge_16 (by decide) ?_
      refine ez_icmp_eq hX 31 dX11_judge_17 (by decide) (fun c3 => ?_) (fun c3 => ?_)
      · -- c3 jump
        refine ez_aload_n hX 1 dX11_judge_31 rfl ?_
        refine ez_getr hX kc_0 rfl (Nat.le_of_ble_eq_true rfl) lc_0 (Nat.le_of_ble_eq_true rfl) inX11 11 rfl rc_0_2 wf_X11_30 dX11_judge_32 ?_
        refine ez_getr hX kc_11 rfl (Nat.le_of_ble_eq_true rfl) lc_11 (Nat.le_of_ble_eq_true rfl) inX1 24 rfl rc_11_1 wf_X11_113 dX11_judge_35 ?_
        refine ez_getr hX kc_24 rfl (Nat.le_of_ble_eq_true rfl) lc_24 (Nat.le_of_ble_eq_true rfl) inX3 25 rfl rc_24_0 wf_X11_120 dX11_judge_38 ?_
        refine ez_astore hX [(4, .ref (ez_B X + 25)), (3, .ref (ez_B X + (et_tp tape))), (0, .ref (ez_B X + 0)), (1, .int tape), (2, .int i)] dX11_judge_41 (ez_lt hnL rfl) rfl ?_
        refine ez_iconst hX (0 : Int32) dX11_judge_43 (by decide) ?_
        refine ez_istore hX [(5, .int (0 : Int32)), (4, .ref (ez_B X + 25)), (3, .ref (ez_B X + (et_tp tape))), (0, .ref (ez_B X + 0)), (1, .int tape), (2, .int i)] dX11_judge_44 (ez_lt hnL rfl) rfl ?_
        refine ez_lv [3, 5, 2, 1, 0] rfl ?_
        exact el_X11_judge_46 X (et_tp tape) (et_tpt c1 c2) t0 hRm hnL hX M hQ ((M.1 25 3).toNatClampNeg + 1) i (0 : Int32) (ez_cnt0 _) (Eq.trans (by simp only [et_X11_judge, if_neg c1, if_neg c2, if_pos c3]) hT)
      · -- c3 on
        refine ez_aload_n hX 0 dX11_judge_20 rfl ?_
        refine ez_geti hX (kt_0 (et_tpt c1 c2)) rfl (Nat.le_of_ble_eq_true rfl) (kt_lt0 (et_tpt c1 c2)) (Nat.le_of_ble_eq_true rfl) inX8 rfl wf_X11_197 dX11_judge_21 ?_
        refine ez_iconst hX (2 : Int32) dX11_judge_24 (by decide) ?_
        refine ez_icmp_eq hX 31 dX11_judge_25 (by decide) (fun c11 => ?_) (fun c11 => ?_)
        · -- c11 jump
          refine ez_aload_n hX 1 dX11_judge_31 rfl ?_
          refine ez_getr hX kc_0 rfl (Nat.le_of_ble_eq_true rfl) lc_0 (Nat.le_of_ble_eq_true rfl) inX11 11 rfl rc_0_2 wf_X11_30 dX11_judge_32 ?_
          refine ez_getr hX kc_11 rfl (Nat.le_of_ble_eq_true rfl) lc_11 (Nat.le_of_ble_eq_true rfl) inX1 24 rfl rc_11_1 wf_X11_113 dX11_judge_35 ?_
          refine ez_getr hX kc_24 rfl (Nat.le_of_ble_eq_true rfl) lc_24 (Nat.le_of_ble_eq_true rfl) inX3 25 rfl rc_24_0 wf_X11_120 dX11_judge_38 ?_
          refine ez_astore hX [(4, .ref (ez_B X + 25)), (3, .ref (ez_B X + (et_tp tape))), (0, .ref (ez_B X + 0)), (1, .int tape), (2, .int i)] dX11_judge_41 (ez_lt hnL rfl) rfl ?_
          refine ez_iconst hX (0 : Int32) dX11_judge_43 (by decide) ?_
          refine ez_istore hX [(5, .int (0 : Int32)), (4, .ref (ez_B X + 25)), (3, .ref (ez_B X + (et_tp tape))), (0, .ref (ez_B X + 0)), (1, .int tape), (2, .int i)] dX11_judge_44 (ez_lt hnL rfl) rfl ?_
          refine ez_lv [3, 5, 2, 1, 0] rfl ?_
          exact el_X11_judge_46 X (et_tp tape) (et_tpt c1 c2) t0 hRm hnL hX M hQ ((M.1 25 3).toNatClampNeg + 1) i (0 : Int32) (ez_cnt0 _) (Eq.trans (by simp only [et_X11_judge, if_neg c1, if_neg c2, if_neg c3, if_pos c11]) hT)
        · -- c11 on
          refine ez_bipush hX (-12 : Int32) dX11_judge_28 (by decide) ?_
          have ht : t0 = (-12 : Int32) := hT.symm.trans (by simp only [et_X11_judge, if_neg c1, if_neg c2, if_neg c3, if_neg c11])
          subst ht
          exact ez_iret hX hQ dX11_judge_30 rfl rfl

def et_X11_image  (M : em_M) : Int32 × em_M :=
  let M1 := et_X1_copyFrom 45 11 M
  let M2 := em_pI M1 0 4 (1 : Int32)
  ((M2.1 1 0), M2)
set_option maxHeartbeats 4000000 in
set_option maxRecDepth 100000 in
theorem ec_X11_image (l : Launch) (D : em_G) (B : Nat) (M : em_M) (hb : M.1 24 9 = 0 ∨ M.1 24 9 = 1) : em_C l D B yX11_image cX11_image 1 (some .int) 5 124 0 0 false [.ref (B + 0)] 132 em_R M (some (.int (et_X11_image M).1)) 132 em_R ((et_X11_image M).2) := by
  refine em_C_of RX11 [(0, .ref (B + 0))] (by decide) rfl rfl (Nat.le_of_ble_eq_true rfl) ?_
  rintro X rfl rfl rfl hRm hnL hnm hsz hX hQ
  obtain ⟨t0, hT⟩ : ∃ tz, et_X11_image M = tz := ⟨_, rfl⟩
  rw [hT] at hQ
  refine ez_aload_n hX 0 dX11_image_0 rfl ?_
  refine ez_getr hX kc_0 rfl (Nat.le_of_ble_eq_true rfl) lc_0 (Nat.le_of_ble_eq_true rfl) inX11 45 rfl rc_0_3 wf_X11_34 dX11_image_1 ?_
  refine ez_aload_n hX 0 dX11_image_4 rfl ?_
  refine ez_getr hX kc_0 rfl (Nat.le_of_ble_eq_true rfl) lc_0 (Nat.le_of_ble_eq_true rfl) inX11 11 rfl rc_0_2 wf_X11_30 dX11_image_5 ?_
  refine ez_callV hX (N0 := 0) (As := [.ref (ez_B X + 11)]) (st := []) kc_45 (Nat.le_of_ble_eq_true rfl) lc_45 rfl (ec_X1_copyFrom _ _ _ 45 ek_45 11 ek_11 M hb) (Or.inl rfl) wm_X11_212 wv_X1_copyFrom we_X1_copyFrom wy_X1_copyFrom rfl wd_X1_copyFrom wi_X1 (ez_rok hRm rfl) (Nat.le_of_ble_eq_true rfl) dX11_image_8 ?_
  refine ez_nmM (fun M1 eM1 => ?_)
  refine ez_aload_n hX 0 dX11_image_11 rfl ?_
  refine ez_iconst hX (1 : Int32) dX11_image_12 (by decide) ?_
  refine ez_puti hX kc_0 rfl (Nat.le_of_ble_eq_true rfl) lc_0 (Nat.le_of_ble_eq_true rfl) inX11 tyX11 tyX11_ok nmX11 (1 : Int32) rfl wf_X11_215 rfl rfl rfl dX11_image_13 ?_
  refine ez_nmM (fun M2 eM2 => ?_)
  refine ez_aload_n hX 0 dX11_image_16 rfl ?_
  refine ez_getr hX kc_0 rfl (Nat.le_of_ble_eq_true rfl) lc_0 (Nat.le_of_ble_eq_true rfl) inX11 1 rfl rc_0_0 wf_X11_14 dX11_image_17 ?_
  refine ez_geti hX kc_1 rfl (Nat.le_of_ble_eq_true rfl) lc_1 (Nat.le_of_ble_eq_true rfl) inX2 rfl wf_X11_71 dX11_image_20 ?_
  have ht : t0 = ((M2.1 1 0), M2) := hT.symm.trans (by simp only [et_X11_image, eM1, eM2])
  subst ht
  exact ez_iret hX hQ dX11_image_23 rfl rfl

def et_X11_undo  (M : em_M) : Int32 × em_M :=
  (if (M.1 0 4) = 0 then ((-3 : Int32), M) else let M2 := et_X1_copyFrom 11 45 M
  ((M2.1 1 0), M2))
set_option maxHeartbeats 4000000 in
set_option maxRecDepth 100000 in
theorem ec_X11_undo (l : Launch) (D : em_G) (B : Nat) (M : em_M) (hb : M.1 58 9 = 0 ∨ M.1 58 9 = 1) : em_C l D B yX11_undo cX11_undo 1 (some .int) 5 124 0 0 false [.ref (B + 0)] 132 em_R M (some (.int (et_X11_undo M).1)) 132 em_R ((et_X11_undo M).2) := by
  refine em_C_of RX11 [(0, .ref (B + 0))] (by decide) rfl rfl (Nat.le_of_ble_eq_true rfl) ?_
  rintro X rfl rfl rfl hRm hnL hnm hsz hX hQ
  obtain ⟨t0, hT⟩ : ∃ tz, et_X11_undo M = tz := ⟨_, rfl⟩
  rw [hT] at hQ
  refine ez_aload_n hX 0 dX11_undo_0 rfl ?_
  refine ez_geti hX kc_0 rfl (Nat.le_of_ble_eq_true rfl) lc_0 (Nat.le_of_ble_eq_true rfl) inX11 rfl wf_X11_215 dX11_undo_1 ?_
  refine ez_if_ne hX 10 dX11_undo_4 (by decide) (fun c1 => ?_) (fun c1 => ?_)
  · -- c1 jump
    refine ez_aload_n hX 0 dX11_undo_10 rfl ?_
    refine ez_getr hX kc_0 rfl (Nat.le_of_ble_eq_true rfl) lc_0 (Nat.le_of_ble_eq_true rfl) inX11 11 rfl rc_0_2 wf_X11_30 dX11_undo_11 ?_
    refine ez_aload_n hX 0 dX11_undo_14 rfl ?_
    refine ez_getr hX kc_0 rfl (Nat.le_of_ble_eq_true rfl) lc_0 (Nat.le_of_ble_eq_true rfl) inX11 45 rfl rc_0_3 wf_X11_34 dX11_undo_15 ?_
    refine ez_callV hX (N0 := 0) (As := [.ref (ez_B X + 45)]) (st := []) kc_11 (Nat.le_of_ble_eq_true rfl) lc_11 rfl (ec_X1_copyFrom _ _ _ 11 ek_11 45 ek_45 M hb) (Or.inl rfl) wm_X11_212 wv_X1_copyFrom we_X1_copyFrom wy_X1_copyFrom rfl wd_X1_copyFrom wi_X1 (ez_rok hRm rfl) (Nat.le_of_ble_eq_true rfl) dX11_undo_18 ?_
    refine ez_nmM (fun M2 eM2 => ?_)
    refine ez_aload_n hX 0 dX11_undo_21 rfl ?_
    refine ez_getr hX kc_0 rfl (Nat.le_of_ble_eq_true rfl) lc_0 (Nat.le_of_ble_eq_true rfl) inX11 1 rfl rc_0_0 wf_X11_14 dX11_undo_22 ?_
    refine ez_geti hX kc_1 rfl (Nat.le_of_ble_eq_true rfl) lc_1 (Nat.le_of_ble_eq_true rfl) inX2 rfl wf_X11_71 dX11_undo_25 ?_
    have ht : t0 = ((M2.1 1 0), M2) := hT.symm.trans (by simp only [et_X11_undo, if_neg c1, eM2])
    subst ht
    exact ez_iret hX hQ dX11_undo_28 rfl rfl
  · -- c1 on
    refine ez_bipush hX (-3 : Int32) dX11_undo_7 (by decide) ?_
    have ht : t0 = ((-3 : Int32), M) := hT.symm.trans (by simp only [et_X11_undo, if_pos c1])
    subst ht
    exact ez_iret hX hQ dX11_undo_9 rfl rfl

def et_X11_count  (M : em_M) (what : Int32) : Int32 :=
  (if what = (0 : Int32) then (M.1 1 0)
  else (if what = (1 : Int32) then (M.1 12 0)
  else (if what = (2 : Int32) then (M.1 15 0)
  else (if what = (3 : Int32) then (M.1 18 0)
  else (if what = (4 : Int32) then (M.1 9 0)
  else (-2 : Int32))))))
set_option maxHeartbeats 4000000 in
set_option maxRecDepth 100000 in
theorem ec_X11_count (l : Launch) (D : em_G) (B : Nat) (M : em_M) (what : Int32) : em_C l D B yX11_count cX11_count 2 (some .int) 0 0 0 0 false [.ref (B + 0), .int what] 132 em_R M (some (.int (et_X11_count M what))) 132 em_R (M) := by
  refine em_C_of RX11 [(0, .ref (B + 0)), (1, .int what)] (by decide) rfl rfl (Nat.le_of_ble_eq_true rfl) ?_
  rintro X rfl rfl rfl hRm hnL hnm hsz hX hQ
  obtain ⟨t0, hT⟩ : ∃ tz, et_X11_count M what = tz := ⟨_, rfl⟩
  rw [hT] at hQ
  refine ez_iload_n hX 1 dX11_count_0 rfl ?_
  by_cases c1 : what = (0 : Int32)
  · have cx : (what).toInt = 0 := by rw [c1]; rfl
    refine ez_tsIn hX (0) (35) 36 dX11_count_1 cx ⟨by decide, by decide, rfl, by decide⟩ ?_
    refine ez_aload_n hX 0 dX11_count_36 rfl ?_
    refine ez_getr hX kc_0 rfl (Nat.le_of_ble_eq_true rfl) lc_0 (Nat.le_of_ble_eq_true rfl) inX11 1 rfl rc_0_0 wf_X11_14 dX11_count_37 ?_
    refine ez_geti hX kc_1 rfl (Nat.le_of_ble_eq_true rfl) lc_1 (Nat.le_of_ble_eq_true rfl) inX2 rfl wf_X11_71 dX11_count_40 ?_
    have ht : t0 = (M.1 1 0) := hT.symm.trans (by simp only [et_X11_count, if_pos c1])
    subst ht
    exact ez_iret hX hQ dX11_count_43 rfl rfl
  · skip
    by_cases c2 : what = (1 : Int32)
    · have cx : (what).toInt = 1 := by rw [c2]; rfl
      refine ez_tsIn hX (1) (43) 44 dX11_count_1 cx ⟨by decide, by decide, rfl, by decide⟩ ?_
      refine ez_aload_n hX 0 dX11_count_44 rfl ?_
      refine ez_getr hX kc_0 rfl (Nat.le_of_ble_eq_true rfl) lc_0 (Nat.le_of_ble_eq_true rfl) inX11 11 rfl rc_0_2 wf_X11_30 dX11_count_45 ?_
      refine ez_getr hX kc_11 rfl (Nat.le_of_ble_eq_true rfl) lc_11 (Nat.le_of_ble_eq_true rfl) inX1 12 rfl rc_11_2 wf_X11_144 dX11_count_48 ?_
      refine ez_geti hX kc_12 rfl (Nat.le_of_ble_eq_true rfl) lc_12 (Nat.le_of_ble_eq_true rfl) inX6 rfl wf_X11_183 dX11_count_51 ?_
      have ht : t0 = (M.1 12 0) := hT.symm.trans (by simp only [et_X11_count, if_neg c1, if_pos c2])
      subst ht
      exact ez_iret hX hQ dX11_count_54 rfl rfl
    · skip
      by_cases c3 : what = (2 : Int32)
      · have cx : (what).toInt = 2 := by rw [c3]; rfl
        refine ez_tsIn hX (2) (54) 55 dX11_count_1 cx ⟨by decide, by decide, rfl, by decide⟩ ?_
        refine ez_aload_n hX 0 dX11_count_55 rfl ?_
        refine ez_getr hX kc_0 rfl (Nat.le_of_ble_eq_true rfl) lc_0 (Nat.le_of_ble_eq_true rfl) inX11 11 rfl rc_0_2 wf_X11_30 dX11_count_56 ?_
        refine ez_getr hX kc_11 rfl (Nat.le_of_ble_eq_true rfl) lc_11 (Nat.le_of_ble_eq_true rfl) inX1 15 rfl rc_11_3 wf_X11_180 dX11_count_59 ?_
        refine ez_geti hX kc_15 rfl (Nat.le_of_ble_eq_true rfl) lc_15 (Nat.le_of_ble_eq_true rfl) inX6 rfl wf_X11_183 dX11_count_62 ?_
        have ht : t0 = (M.1 15 0) := hT.symm.trans (by simp only [et_X11_count, if_neg c1, if_neg c2, if_pos c3])
        subst ht
        exact ez_iret hX hQ dX11_count_65 rfl rfl
      · skip
        by_cases c4 : what = (3 : Int32)
        · have cx : (what).toInt = 3 := by rw [c4]; rfl
          refine ez_tsIn hX (3) (65) 66 dX11_count_1 cx ⟨by decide, by decide, rfl, by decide⟩ ?_
          refine ez_aload_n hX 0 dX11_count_66 rfl ?_
          refine ez_getr hX kc_0 rfl (Nat.le_of_ble_eq_true rfl) lc_0 (Nat.le_of_ble_eq_true rfl) inX11 11 rfl rc_0_2 wf_X11_30 dX11_count_67 ?_
          refine ez_getr hX kc_11 rfl (Nat.le_of_ble_eq_true rfl) lc_11 (Nat.le_of_ble_eq_true rfl) inX1 18 rfl rc_11_4 wf_X11_190 dX11_count_70 ?_
          refine ez_geti hX kc_18 rfl (Nat.le_of_ble_eq_true rfl) lc_18 (Nat.le_of_ble_eq_true rfl) inX6 rfl wf_X11_183 dX11_count_73 ?_
          have ht : t0 = (M.1 18 0) := hT.symm.trans (by simp only [et_X11_count, if_neg c1, if_neg c2, if_neg c3, if_pos c4])
          subst ht
          exact ez_iret hX hQ dX11_count_76 rfl rfl
        · skip
          by_cases c5 : what = (4 : Int32)
          · have cx : (what).toInt = 4 := by rw [c5]; rfl
            refine ez_tsIn hX (4) (76) 77 dX11_count_1 cx ⟨by decide, by decide, rfl, by decide⟩ ?_
            refine ez_aload_n hX 0 dX11_count_77 rfl ?_
            refine ez_getr hX kc_0 rfl (Nat.le_of_ble_eq_true rfl) lc_0 (Nat.le_of_ble_eq_true rfl) inX11 9 rfl rc_0_1 wf_X11_23 dX11_count_78 ?_
            refine ez_geti hX kc_9 rfl (Nat.le_of_ble_eq_true rfl) lc_9 (Nat.le_of_ble_eq_true rfl) inX5 rfl wf_X11_219 dX11_count_81 ?_
            have ht : t0 = (M.1 9 0) := hT.symm.trans (by simp only [et_X11_count, if_neg c1, if_neg c2, if_neg c3, if_neg c4, if_pos c5])
            subst ht
            exact ez_iret hX hQ dX11_count_84 rfl rfl
          · skip
            refine ez_tsD hX [0, 1, 2, 3, 4] 85 dX11_count_1 (List.forall_mem_cons.mpr ⟨lv_neT c1 rfl, (List.forall_mem_cons.mpr ⟨lv_neT c2 rfl, (List.forall_mem_cons.mpr ⟨lv_neT c3 rfl, (List.forall_mem_cons.mpr ⟨lv_neT c4 rfl, (List.forall_mem_cons.mpr ⟨lv_neT c5 rfl, (fun _ h => absurd h List.not_mem_nil)⟩)⟩)⟩)⟩)⟩) (by decide +kernel) (by decide) ?_
            refine ez_bipush hX (-2 : Int32) dX11_count_85 (by decide) ?_
            have ht : t0 = (-2 : Int32) := hT.symm.trans (by simp only [et_X11_count, if_neg c1, if_neg c2, if_neg c3, if_neg c4, if_neg c5])
            subst ht
            exact ez_iret hX hQ dX11_count_87 rfl rfl

def et_X11_tape  (M : em_M) (tape : Int32) (sort : Int32) (n : Int32) : Int32 × em_M :=
  (if tape < 0 then ((-1 : Int32), M) else (if (6 : Int32) ≤ tape then ((-1 : Int32), M) else (if sort = (-1 : Int32) then let M9 := et_X8_become (et_tp tape) M sort (0 : Int32)
  ((1 : Int32), M9) else (if sort < 0 then ((-2 : Int32), M) else (if (4 : Int32) < sort then ((-2 : Int32), M) else (if n ≤ (60 : Int32) then (if 0 ≤ n then let M8 := et_X8_become (et_tp tape) M sort n
  ((1 : Int32), M8) else ((-14 : Int32), M)) else ((-2 : Int32), M)))))))
set_option maxHeartbeats 4000000 in
set_option maxRecDepth 100000 in
theorem ec_X11_tape (l : Launch) (D : em_G) (B : Nat) (M : em_M) (tape : Int32) (sort : Int32) (n : Int32) : em_C l D B yX11_tape cX11_tape 5 (some .int) 1 23 0 0 false [.ref (B + 0), .int tape, .int sort, .int n] 132 em_R M (some (.int (et_X11_tape M tape sort n).1)) 132 em_R ((et_X11_tape M tape sort n).2) := by
  refine em_C_of RX11 [(0, .ref (B + 0)), (1, .int tape), (2, .int sort), (3, .int n)] (by decide) rfl rfl (Nat.le_of_ble_eq_true rfl) ?_
  rintro X rfl rfl rfl hRm hnL hnm hsz hX hQ
  obtain ⟨t0, hT⟩ : ∃ tz, et_X11_tape M tape sort n = tz := ⟨_, rfl⟩
  rw [hT] at hQ
  refine ez_aload_n hX 0 dX11_tape_0 rfl ?_
  refine ez_iload_n hX 1 dX11_tape_1 rfl ?_
  by_cases c1 : tape < 0
  · skip
    refine ez_callV hX (N0 := 0) (As := [.int tape]) (st := []) kc_0 (Nat.le_of_ble_eq_true rfl) lc_0 rfl (ec_X11_tapeOf_N _ _ _ M tape (Or.inl c1)) (Or.inl rfl) wm_X11_193 wv_X11_tapeOf we_X11_tapeOf wy_X11_tapeOf rfl wd_X11_tapeOf wi_X11 (ez_rok hRm rfl) (Nat.le_of_ble_eq_true rfl) dX11_tape_2 ?_
    refine ez_astore_N hX [(4, .null), (0, .ref (ez_B X + 0)), (1, .int tape), (2, .int sort), (3, .int n)] dX11_tape_5 (ez_lt hnL rfl) rfl ?_
    refine ez_aloadN hX 0 dX11_tape_7 rfl ?_
    refine ez_ifnonnullN hX (x := 0) dX11_tape_9 ?_
    refine ez_iconst hX (-1 : Int32) dX11_tape_12 (by decide) ?_
    have ht : t0 = ((-1 : Int32), M) := hT.symm.trans (by simp only [et_X11_tape, if_pos c1])
    subst ht
    exact ez_iret hX hQ dX11_tape_13 rfl rfl
  · by_cases c2 : (6 : Int32) ≤ tape
    · skip
      refine ez_callV hX (N0 := 0) (As := [.int tape]) (st := []) kc_0 (Nat.le_of_ble_eq_true rfl) lc_0 rfl (ec_X11_tapeOf_N _ _ _ M tape (Or.inr c2)) (Or.inl rfl) wm_X11_193 wv_X11_tapeOf we_X11_tapeOf wy_X11_tapeOf rfl wd_X11_tapeOf wi_X11 (ez_rok hRm rfl) (Nat.le_of_ble_eq_true rfl) dX11_tape_2 ?_
      refine ez_astore_N hX [(4, .null), (0, .ref (ez_B X + 0)), (1, .int tape), (2, .int sort), (3, .int n)] dX11_tape_5 (ez_lt hnL rfl) rfl ?_
      refine ez_aloadN hX 0 dX11_tape_7 rfl ?_
      refine ez_ifnonnullN hX (x := 0) dX11_tape_9 ?_
      refine ez_iconst hX (-1 : Int32) dX11_tape_12 (by decide) ?_
      have ht : t0 = ((-1 : Int32), M) := hT.symm.trans (by simp only [et_X11_tape, if_neg c1, if_pos c2])
      subst ht
      exact ez_iret hX hQ dX11_tape_13 rfl rfl
    · skip
      refine ez_callV hX (N0 := 0) (As := [.int tape]) (st := []) kc_0 (Nat.le_of_ble_eq_true rfl) lc_0 rfl (ec_X11_tapeOf_R _ _ _ M tape c1 c2) (Or.inl rfl) wm_X11_193 wv_X11_tapeOf we_X11_tapeOf wy_X11_tapeOf rfl wd_X11_tapeOf wi_X11 (ez_rok hRm rfl) (Nat.le_of_ble_eq_true rfl) dX11_tape_2 ?_
      refine ez_astore hX [(4, .ref (ez_B X + (et_tp tape))), (0, .ref (ez_B X + 0)), (1, .int tape), (2, .int sort), (3, .int n)] dX11_tape_5 (ez_lt hnL rfl) rfl ?_
      refine ez_aload hX 0 dX11_tape_7 rfl ?_
      refine ez_ifnonnull hX 14 dX11_tape_9 (by decide) ?_
      refine ez_iload_n hX 3 dX11_tape_14 rfl ?_
      refine ez_iconst hX (-1 : Int32) dX11_tape_15 (by decide) ?_
      refine ez_icmp_ne hX 28 dX11_tape_16 (by decide) (fun c3 => ?_) (fun c3 => ?_)
      · -- c3 jump
        refine ez_iload_n hX 3 dX11_tape_28 rfl ?_
        refine ez_if_lt hX 43 dX11_tape_29 (by decide) (fun c4 => ?_) (fun c4 => ?_)
        · -- c4 jump
          refine ez_bipush hX (-2 : Int32) dX11_tape_43 (by decide) ?_
          have ht : t0 = ((-2 : Int32), M) := hT.symm.trans (by simp only [et_X11_tape, if_neg c1, if_neg c2, if_neg c3, if_pos c4])
          subst ht
          exact ez_iret hX hQ dX11_tape_45 rfl rfl
        · -- c4 on
          refine ez_iload_n hX 3 dX11_tape_32 rfl ?_
          refine ez_iconst hX (4 : Int32) dX11_tape_33 (by decide) ?_
          refine ez_icmp_gt hX 43 dX11_tape_34 (by decide) (fun c5 => ?_) (fun c5 => ?_)
          · -- c5 jump
            refine ez_bipush hX (-2 : Int32) dX11_tape_43 (by decide) ?_
            have ht : t0 = ((-2 : Int32), M) := hT.symm.trans (by simp only [et_X11_tape, if_neg c1, if_neg c2, if_neg c3, if_neg c4, if_pos c5])
            subst ht
            exact ez_iret hX hQ dX11_tape_45 rfl rfl
          · -- c5 on
            refine ez_iload_n hX 4 dX11_tape_37 rfl ?_
            refine ez_bipush hX (60 : Int32) dX11_tape_38 (by decide) ?_
            refine ez_icmp_le hX 46 dX11_tape_40 (by decide) (fun c6 => ?_) (fun c6 => ?_)
            · -- c6 jump
              refine ez_iload_n hX 4 dX11_tape_46 rfl ?_
              refine ez_if_ge hX 53 dX11_tape_47 (by decide) (fun c7 => ?_) (fun c7 => ?_)
              · -- c7 jump
                refine ez_aload hX 0 dX11_tape_53 rfl ?_
                refine ez_iload_n hX 3 dX11_tape_55 rfl ?_
                refine ez_iload_n hX 4 dX11_tape_56 rfl ?_
                refine ez_callV hX (N0 := 0) (As := [.int sort, .int n]) (st := []) (kt_0 (et_tpt c1 c2)) (Nat.le_of_ble_eq_true rfl) (kt_lt0 (et_tpt c1 c2)) rfl (ec_X8_become _ _ _ (et_tp tape) (et_tpt c1 c2) M sort n) (Or.inl rfl) wm_X11_220 wv_X8_become we_X8_become wy_X8_become rfl wd_X8_become wi_X8 (ez_rok hRm rfl) (Nat.le_of_ble_eq_true rfl) dX11_tape_57 ?_
                refine ez_nmM (fun M8 eM8 => ?_)
                refine ez_iconst hX (1 : Int32) dX11_tape_60 (by decide) ?_
                have ht : t0 = ((1 : Int32), M8) := hT.symm.trans (by simp only [et_X11_tape, if_neg c1, if_neg c2, if_neg c3, if_neg c4, if_neg c5, if_pos c6, if_pos c7, eM8])
                subst ht
                exact ez_iret hX hQ dX11_tape_61 rfl rfl
              · -- c7 on
                refine ez_bipush hX (-14 : Int32) dX11_tape_50 (by decide) ?_
                have ht : t0 = ((-14 : Int32), M) := hT.symm.trans (by simp only [et_X11_tape, if_neg c1, if_neg c2, if_neg c3, if_neg c4, if_neg c5, if_pos c6, if_neg c7])
                subst ht
                exact ez_iret hX hQ dX11_tape_52 rfl rfl
            · -- c6 on
              refine ez_bipush hX (-2 : Int32) dX11_tape_43 (by decide) ?_
              have ht : t0 = ((-2 : Int32), M) := hT.symm.trans (by simp only [et_X11_tape, if_neg c1, if_neg c2, if_neg c3, if_neg c4, if_neg c5, if_neg c6])
              subst ht
              exact ez_iret hX hQ dX11_tape_45 rfl rfl
      · -- c3 on
        refine ez_aload hX 0 dX11_tape_19 rfl ?_
        refine ez_iload_n hX 3 dX11_tape_21 rfl ?_
        refine ez_iconst hX (0 : Int32) dX11_tape_22 (by decide) ?_
        refine ez_callV hX (N0 := 0) (As := [.int sort, .int (0 : Int32)]) (st := []) (kt_0 (et_tpt c1 c2)) (Nat.le_of_ble_eq_true rfl) (kt_lt0 (et_tpt c1 c2)) rfl (ec_X8_become _ _ _ (et_tp tape) (et_tpt c1 c2) M sort (0 : Int32)) (Or.inl rfl) wm_X11_220 wv_X8_become we_X8_become wy_X8_become rfl wd_X8_become wi_X8 (ez_rok hRm rfl) (Nat.le_of_ble_eq_true rfl) dX11_tape_23 ?_
        refine ez_nmM (fun M9 eM9 => ?_)
        refine ez_iconst hX (1 : Int32) dX11_tape_26 (by decide) ?_
        have ht : t0 = ((1 : Int32), M9) := hT.symm.trans (by simp only [et_X11_tape, if_neg c1, if_neg c2, if_pos c3, eM9])
        subst ht
        exact ez_iret hX hQ dX11_tape_27 rfl rfl

def et_X11_item  (M : em_M) (tape : Int32) (i : Int32) (v : Int64) : Int32 × em_M :=
  (if tape < 0 then ((-1 : Int32), M) else (if (6 : Int32) ≤ tape then ((-1 : Int32), M) else (if (M.1 (et_tp tape) 0) = (-1 : Int32) then ((-11 : Int32), M) else let r4 := et_X8_has (et_tp tape) M i
  (if r4 = 0 then ((-13 : Int32), M) else let r6 := et_X8_lowestBits (et_tp tape) M v
  let M7 := et_X11_put_ ((et_tp tape) + 1) 60 M i r6
  ((1 : Int32), M7)))))
set_option maxHeartbeats 4000000 in
set_option maxRecDepth 100000 in
theorem ec_X11_item (l : Launch) (D : em_G) (B : Nat) (M : em_M) (tape : Int32) (i : Int32) (v : Int64) : em_C l D B yX11_item cX11_item 6 (some .int) 1 23 0 0 false [.ref (B + 0), .int tape, .int i, .long v] 132 em_R M (some (.int (et_X11_item M tape i v).1)) 132 em_R ((et_X11_item M tape i v).2) := by
  refine em_C_of RX11 [(0, .ref (B + 0)), (1, .int tape), (2, .int i), (3, .long v)] (by decide) rfl rfl (Nat.le_of_ble_eq_true rfl) ?_
  rintro X rfl rfl rfl hRm hnL hnm hsz hX hQ
  obtain ⟨t0, hT⟩ : ∃ tz, et_X11_item M tape i v = tz := ⟨_, rfl⟩
  rw [hT] at hQ
  refine ez_aload_n hX 0 dX11_item_0 rfl ?_
  refine ez_iload_n hX 1 dX11_item_1 rfl ?_
  by_cases c1 : tape < 0
  · skip
    refine ez_callV hX (N0 := 0) (As := [.int tape]) (st := []) kc_0 (Nat.le_of_ble_eq_true rfl) lc_0 rfl (ec_X11_tapeOf_N _ _ _ M tape (Or.inl c1)) (Or.inl rfl) wm_X11_193 wv_X11_tapeOf we_X11_tapeOf wy_X11_tapeOf rfl wd_X11_tapeOf wi_X11 (ez_rok hRm rfl) (Nat.le_of_ble_eq_true rfl) dX11_item_2 ?_
    refine ez_astore_N hX [(5, .null), (0, .ref (ez_B X + 0)), (1, .int tape), (2, .int i), (3, .long v)] dX11_item_5 (ez_lt hnL rfl) rfl ?_
    refine ez_aloadN hX 0 dX11_item_7 rfl ?_
    refine ez_ifnonnullN hX (x := 0) dX11_item_9 ?_
    refine ez_iconst hX (-1 : Int32) dX11_item_12 (by decide) ?_
    have ht : t0 = ((-1 : Int32), M) := hT.symm.trans (by simp only [et_X11_item, if_pos c1])
    subst ht
    exact ez_iret hX hQ dX11_item_13 rfl rfl
  · by_cases c2 : (6 : Int32) ≤ tape
    · skip
      refine ez_callV hX (N0 := 0) (As := [.int tape]) (st := []) kc_0 (Nat.le_of_ble_eq_true rfl) lc_0 rfl (ec_X11_tapeOf_N _ _ _ M tape (Or.inr c2)) (Or.inl rfl) wm_X11_193 wv_X11_tapeOf we_X11_tapeOf wy_X11_tapeOf rfl wd_X11_tapeOf wi_X11 (ez_rok hRm rfl) (Nat.le_of_ble_eq_true rfl) dX11_item_2 ?_
      refine ez_astore_N hX [(5, .null), (0, .ref (ez_B X + 0)), (1, .int tape), (2, .int i), (3, .long v)] dX11_item_5 (ez_lt hnL rfl) rfl ?_
      refine ez_aloadN hX 0 dX11_item_7 rfl ?_
      refine ez_ifnonnullN hX (x := 0) dX11_item_9 ?_
      refine ez_iconst hX (-1 : Int32) dX11_item_12 (by decide) ?_
      have ht : t0 = ((-1 : Int32), M) := hT.symm.trans (by simp only [et_X11_item, if_neg c1, if_pos c2])
      subst ht
      exact ez_iret hX hQ dX11_item_13 rfl rfl
    · skip
      refine ez_callV hX (N0 := 0) (As := [.int tape]) (st := []) kc_0 (Nat.le_of_ble_eq_true rfl) lc_0 rfl (ec_X11_tapeOf_R _ _ _ M tape c1 c2) (Or.inl rfl) wm_X11_193 wv_X11_tapeOf we_X11_tapeOf wy_X11_tapeOf rfl wd_X11_tapeOf wi_X11 (ez_rok hRm rfl) (Nat.le_of_ble_eq_true rfl) dX11_item_2 ?_
      refine ez_astore hX [(5, .ref (ez_B X + (et_tp tape))), (0, .ref (ez_B X + 0)), (1, .int tape), (2, .int i), (3, .long v)] dX11_item_5 (ez_lt hnL rfl) rfl ?_
      refine ez_aload hX 0 dX11_item_7 rfl ?_
      refine ez_ifnonnull hX 14 dX11_item_9 (by decide) ?_
      refine ez_aload hX 0 dX11_item_14 rfl ?_
      refine ez_geti hX (kt_0 (et_tpt c1 c2)) rfl (Nat.le_of_ble_eq_true rfl) (kt_lt0 (et_tpt c1 c2)) (Nat.le_of_ble_eq_true rfl) inX8 rfl wf_X11_197 dX11_item_16 ?_
      refine ez_iconst hX (-1 : Int32) dX11_item_19 (by decide) ?_
      refine ez_icmp_ne hX 26 dX11_item_20 (by decide) (fun c3 => ?_) (fun c3 => ?_)
      · -- c3 jump
        refine ez_aload hX 0 dX11_item_26 rfl ?_
        refine ez_iload_n hX 3 dX11_item_28 rfl ?_
        refine ez_callV hX (N0 := 0) (As := [.int i]) (st := []) (kt_0 (et_tpt c1 c2)) (Nat.le_of_ble_eq_true rfl) (kt_lt0 (et_tpt c1 c2)) rfl (ec_X8_has _ _ _ (et_tp tape) (et_tpt c1 c2) M i) (Or.inl rfl) wm_X11_200 wv_X8_has we_X8_has wy_X8_has rfl wd_X8_has wi_X8 (ez_rok hRm rfl) (Nat.le_of_ble_eq_true rfl) dX11_item_29 ?_
        refine ez_nmI (fun r4 er4 => ?_)
        refine ez_if_ne hX 38 dX11_item_32 (by decide) (fun c5 => ?_) (fun c5 => ?_)
        · -- c5 jump
          refine ez_aload hX 0 dX11_item_38 rfl ?_
          refine ez_getr hX (kt_0 (et_tpt c1 c2)) rfl (Nat.le_of_ble_eq_true rfl) (kt_lt0 (et_tpt c1 c2)) (Nat.le_of_ble_eq_true rfl) inX8 ((et_tp tape) + 1) rfl (rt_0_2 (et_tpt c1 c2)) wf_X11_202 dX11_item_40 ?_
          refine ez_iload_n hX 3 dX11_item_43 rfl ?_
          refine ez_aload hX 0 dX11_item_44 rfl ?_
          refine ez_lload_n hX 4 dX11_item_46 rfl ?_
          refine ez_callV hX (N0 := 0) (As := [.long v]) (st := [.int i, .ref (ez_B X + ((et_tp tape) + 1))]) (kt_0 (et_tpt c1 c2)) (Nat.le_of_ble_eq_true rfl) (kt_lt0 (et_tpt c1 c2)) rfl (ec_X8_lowestBits _ _ _ (et_tp tape) (et_tpt c1 c2) M v) (Or.inl rfl) wm_X11_224 wv_X8_lowestBits we_X8_lowestBits wy_X8_lowestBits rfl wd_X8_lowestBits wi_X8 (ez_rok hRm rfl) (Nat.le_of_ble_eq_true rfl) dX11_item_47 ?_
          refine ez_nmL (fun r6 er6 => ?_)
          refine ez_callS hX (N0 := 0) (As := [.ref (ez_B X + ((et_tp tape) + 1)), .int i, .long r6]) (st := []) (ec_X11_put_ _ _ _ ((et_tp tape) + 1) 60 (kt_1 (et_tpt c1 c2)) (kt_lt (et_tpt c1 c2) 1 (by decide)) M i r6) (Or.inl rfl) wm_X11_228 ws_X11_put_ wy_X11_put_ rfl wd_X11_put_ wi_X11 (ez_rok hRm rfl) (Nat.le_of_ble_eq_true rfl) dX11_item_50 ?_
          refine ez_nmM (fun M7 eM7 => ?_)
          refine ez_iconst hX (1 : Int32) dX11_item_53 (by decide) ?_
          have ht : t0 = ((1 : Int32), M7) := hT.symm.trans (by simp only [et_X11_item, if_neg c1, if_neg c2, if_neg c3, er4, if_neg c5, er6, eM7])
          subst ht
          exact ez_iret hX hQ dX11_item_54 rfl rfl
        · -- c5 on
          refine ez_bipush hX (-13 : Int32) dX11_item_35 (by decide) ?_
          have ht : t0 = ((-13 : Int32), M) := hT.symm.trans (by simp only [et_X11_item, if_neg c1, if_neg c2, if_neg c3, er4, if_pos c5])
          subst ht
          exact ez_iret hX hQ dX11_item_37 rfl rfl
      · -- c3 on
        refine ez_bipush hX (-11 : Int32) dX11_item_23 (by decide) ?_
        have ht : t0 = ((-11 : Int32), M) := hT.symm.trans (by simp only [et_X11_item, if_neg c1, if_neg c2, if_pos c3])
        subst ht
        exact ez_iret hX hQ dX11_item_25 rfl rfl

def et_X11_read  (M : em_M) (tape : Int32) (i : Int32) : Int64 :=
  (if tape < 0 then (-9223372036854775808 : Int64) else (if (6 : Int32) ≤ tape then (-9223372036854775808 : Int64) else let r3 := et_X8_has (et_tp tape) M i
  (if r3 = 0 then (-9223372036854775808 : Int64) else let r5 := et_X11_at_ ((et_tp tape) + 1) 60 M i
  r5)))
set_option maxHeartbeats 4000000 in
set_option maxRecDepth 100000 in
theorem ec_X11_read (l : Launch) (D : em_G) (B : Nat) (M : em_M) (tape : Int32) (i : Int32) : em_C l D B yX11_read cX11_read 4 (some .long) 1 21 0 0 false [.ref (B + 0), .int tape, .int i] 132 em_R M (some (.long (et_X11_read M tape i))) 132 em_R (M) := by
  refine em_C_of RX11 [(0, .ref (B + 0)), (1, .int tape), (2, .int i)] (by decide) rfl rfl (Nat.le_of_ble_eq_true rfl) ?_
  rintro X rfl rfl rfl hRm hnL hnm hsz hX hQ
  obtain ⟨t0, hT⟩ : ∃ tz, et_X11_read M tape i = tz := ⟨_, rfl⟩
  rw [hT] at hQ
  refine ez_aload_n hX 0 dX11_read_0 rfl ?_
  refine ez_iload_n hX 1 dX11_read_1 rfl ?_
  by_cases c1 : tape < 0
  · skip
    refine ez_callV hX (N0 := 0) (As := [.int tape]) (st := []) kc_0 (Nat.le_of_ble_eq_true rfl) lc_0 rfl (ec_X11_tapeOf_N _ _ _ M tape (Or.inl c1)) (Or.inl rfl) wm_X11_193 wv_X11_tapeOf we_X11_tapeOf wy_X11_tapeOf rfl wd_X11_tapeOf wi_X11 (ez_rok hRm rfl) (Nat.le_of_ble_eq_true rfl) dX11_read_2 ?_
    refine ez_astore_nN hX [(3, .null), (0, .ref (ez_B X + 0)), (1, .int tape), (2, .int i)] dX11_read_5 (ez_lt hnL rfl) rfl ?_
    refine ez_aload_nN hX 0 dX11_read_6 rfl ?_
    refine ez_ifnullN hX (x := 0) 29 dX11_read_7 (by decide) ?_
    refine ez_ldc2 hX wl_X11_108 dX11_read_29 ?_
    have ht : t0 = (-9223372036854775808 : Int64) := hT.symm.trans (by simp only [et_X11_read, if_pos c1])
    subst ht
    exact ez_lret hX hQ dX11_read_32 rfl rfl
  · by_cases c2 : (6 : Int32) ≤ tape
    · skip
      refine ez_callV hX (N0 := 0) (As := [.int tape]) (st := []) kc_0 (Nat.le_of_ble_eq_true rfl) lc_0 rfl (ec_X11_tapeOf_N _ _ _ M tape (Or.inr c2)) (Or.inl rfl) wm_X11_193 wv_X11_tapeOf we_X11_tapeOf wy_X11_tapeOf rfl wd_X11_tapeOf wi_X11 (ez_rok hRm rfl) (Nat.le_of_ble_eq_true rfl) dX11_read_2 ?_
      refine ez_astore_nN hX [(3, .null), (0, .ref (ez_B X + 0)), (1, .int tape), (2, .int i)] dX11_read_5 (ez_lt hnL rfl) rfl ?_
      refine ez_aload_nN hX 0 dX11_read_6 rfl ?_
      refine ez_ifnullN hX (x := 0) 29 dX11_read_7 (by decide) ?_
      refine ez_ldc2 hX wl_X11_108 dX11_read_29 ?_
      have ht : t0 = (-9223372036854775808 : Int64) := hT.symm.trans (by simp only [et_X11_read, if_neg c1, if_pos c2])
      subst ht
      exact ez_lret hX hQ dX11_read_32 rfl rfl
    · skip
      refine ez_callV hX (N0 := 0) (As := [.int tape]) (st := []) kc_0 (Nat.le_of_ble_eq_true rfl) lc_0 rfl (ec_X11_tapeOf_R _ _ _ M tape c1 c2) (Or.inl rfl) wm_X11_193 wv_X11_tapeOf we_X11_tapeOf wy_X11_tapeOf rfl wd_X11_tapeOf wi_X11 (ez_rok hRm rfl) (Nat.le_of_ble_eq_true rfl) dX11_read_2 ?_
      refine ez_astore_n hX [(3, .ref (ez_B X + (et_tp tape))), (0, .ref (ez_B X + 0)), (1, .int tape), (2, .int i)] dX11_read_5 (ez_lt hnL rfl) rfl ?_
      refine ez_aload_n hX 0 dX11_read_6 rfl ?_
      refine ez_ifnull hX dX11_read_7 ?_
      refine ez_aload_n hX 0 dX11_read_10 rfl ?_
      refine ez_iload_n hX 3 dX11_read_11 rfl ?_
      refine ez_callV hX (N0 := 0) (As := [.int i]) (st := []) (kt_0 (et_tpt c1 c2)) (Nat.le_of_ble_eq_true rfl) (kt_lt0 (et_tpt c1 c2)) rfl (ec_X8_has _ _ _ (et_tp tape) (et_tpt c1 c2) M i) (Or.inl rfl) wm_X11_200 wv_X8_has we_X8_has wy_X8_has rfl wd_X8_has wi_X8 (ez_rok hRm rfl) (Nat.le_of_ble_eq_true rfl) dX11_read_12 ?_
      refine ez_nmI (fun r3 er3 => ?_)
      refine ez_if_eq hX 29 dX11_read_15 (by decide) (fun c4 => ?_) (fun c4 => ?_)
      · -- c4 jump
        refine ez_ldc2 hX wl_X11_108 dX11_read_29 ?_
        have ht : t0 = (-9223372036854775808 : Int64) := hT.symm.trans (by simp only [et_X11_read, if_neg c1, if_neg c2, er3, if_pos c4])
        subst ht
        exact ez_lret hX hQ dX11_read_32 rfl rfl
      · -- c4 on
        refine ez_aload_n hX 0 dX11_read_18 rfl ?_
        refine ez_getr hX (kt_0 (et_tpt c1 c2)) rfl (Nat.le_of_ble_eq_true rfl) (kt_lt0 (et_tpt c1 c2)) (Nat.le_of_ble_eq_true rfl) inX8 ((et_tp tape) + 1) rfl (rt_0_2 (et_tpt c1 c2)) wf_X11_202 dX11_read_19 ?_
        refine ez_iload_n hX 3 dX11_read_22 rfl ?_
        refine ez_callS hX (N0 := 0) (As := [.ref (ez_B X + ((et_tp tape) + 1)), .int i]) (st := []) (ec_X11_at_ _ _ _ ((et_tp tape) + 1) 60 (kt_1 (et_tpt c1 c2)) (kt_lt (et_tpt c1 c2) 1 (by decide)) M i) (Or.inl rfl) wm_X11_206 ws_X11_at_ wy_X11_at_ rfl wd_X11_at_ wi_X11 (ez_rok hRm rfl) (Nat.le_of_ble_eq_true rfl) dX11_read_23 ?_
        refine ez_nmL (fun r5 er5 => ?_)
        refine ez_goto hX 32 dX11_read_26 (by decide) ?_
        have ht : t0 = r5 := hT.symm.trans (by simp only [et_X11_read, if_neg c1, if_neg c2, er3, if_neg c4, er5])
        subst ht
        exact ez_lret hX hQ dX11_read_32 rfl rfl

theorem et_shc {z i n : Int32} (h : 0 ≤ z.toInt ∧ z.toInt ≤ 60) (hi : ¬ i < 0) (hn : ¬ n < 0) (hc : ¬ z - i < n) : i.toNatClampNeg + n.toNatClampNeg ≤ 60 := by
  have e1 : i.toNatClampNeg = i.toInt.toNat := rfl
  have e2 : n.toNatClampNeg = n.toInt.toNat := rfl
  have e0 : (0 : Int32).toInt = 0 := by decide
  have hl := Int32.toInt_lt i
  rw [Int32.lt_iff_toInt_lt] at hi hn hc
  rw [e0] at hi hn
  have e3 : (z - i).toInt = z.toInt - i.toInt := by
    rw [Int32.toInt_sub, Int.bmod_def]
    split <;> omega
  rw [e3] at hc
  omega

def et_X11_shift  (M : em_M) (tape : Int32) (i : Int32) (other : Int32) (j : Int32) (n : Int32) : Int32 × em_M :=
  (if tape < 0 then (if other < 0 then ((-1 : Int32), M) else (if (6 : Int32) ≤ other then ((-1 : Int32), M) else ((-1 : Int32), M))) else (if (6 : Int32) ≤ tape then (if other < 0 then ((-1 : Int32), M) else (if (6 : Int32) ≤ other then ((-1 : Int32), M) else ((-1 : Int32), M))) else (if other < 0 then ((-1 : Int32), M) else (if (6 : Int32) ≤ other then ((-1 : Int32), M) else (if (M.1 (et_tp tape) 0) = (-1 : Int32) then ((-11 : Int32), M) else (if (M.1 (et_tp other) 0) = (-1 : Int32) then ((-11 : Int32), M) else (if (M.1 (et_tp tape) 0) = (M.1 (et_tp other) 0) then (if n < 0 then ((-13 : Int32), M) else (if i < 0 then ((-13 : Int32), M) else (if j < 0 then ((-13 : Int32), M) else (if ((M.1 (et_tp tape) 1) - i) < n then ((-13 : Int32), M) else (if n ≤ ((M.1 (et_tp other) 1) - j) then let M17 := em_cL M ((et_tp tape) + 1) ((et_tp other) + 1) (i).toNatClampNeg (j).toNatClampNeg (n).toNatClampNeg
  (n, M17) else ((-13 : Int32), M)))))) else ((-12 : Int32), M))))))))
set_option maxHeartbeats 4000000 in
set_option maxRecDepth 100000 in
theorem ec_X11_shift (l : Launch) (D : em_G) (B : Nat) (M : em_M) (tape : Int32) (i : Int32) (other : Int32) (j : Int32) (n : Int32) (htz : ∀ t, et t → 0 ≤ (M.1 t 1).toInt ∧ (M.1 t 1).toInt ≤ 60) : em_C l D B yX11_shift cX11_shift 8 (some .int) 1 40 0 0 false [.ref (B + 0), .int tape, .int i, .int other, .int j, .int n] 132 em_R M (some (.int (et_X11_shift M tape i other j n).1)) 132 em_R ((et_X11_shift M tape i other j n).2) := by
  refine em_C_of RX11 [(0, .ref (B + 0)), (1, .int tape), (2, .int i), (3, .int other), (4, .int j), (5, .int n)] (by decide) rfl rfl (Nat.le_of_ble_eq_true rfl) ?_
  rintro X rfl rfl rfl hRm hnL hnm hsz hX hQ
  obtain ⟨t0, hT⟩ : ∃ tz, et_X11_shift M tape i other j n = tz := ⟨_, rfl⟩
  rw [hT] at hQ
  refine ez_aload_n hX 0 dX11_shift_0 rfl ?_
  refine ez_iload_n hX 1 dX11_shift_1 rfl ?_
  by_cases c1 : tape < 0
  · skip
    refine ez_callV hX (N0 := 0) (As := [.int tape]) (st := []) kc_0 (Nat.le_of_ble_eq_true rfl) lc_0 rfl (ec_X11_tapeOf_N _ _ _ M tape (Or.inl c1)) (Or.inl rfl) wm_X11_193 wv_X11_tapeOf we_X11_tapeOf wy_X11_tapeOf rfl wd_X11_tapeOf wi_X11 (ez_rok hRm rfl) (Nat.le_of_ble_eq_true rfl) dX11_shift_2 ?_
    refine ez_astore_N hX [(6, .null), (0, .ref (ez_B X + 0)), (1, .int tape), (2, .int i), (3, .int other), (4, .int j), (5, .int n)] dX11_shift_5 (ez_lt hnL rfl) rfl ?_
    refine ez_aload_n hX 1 dX11_shift_7 rfl ?_
    refine ez_iload_n hX 4 dX11_shift_8 rfl ?_
    by_cases c3 : other < 0
    · skip
      refine ez_callV hX (N0 := 0) (As := [.int other]) (st := []) kc_0 (Nat.le_of_ble_eq_true rfl) lc_0 rfl (ec_X11_tapeOf_N _ _ _ M other (Or.inl c3)) (Or.inl rfl) wm_X11_193 wv_X11_tapeOf we_X11_tapeOf wy_X11_tapeOf rfl wd_X11_tapeOf wi_X11 (ez_rok hRm rfl) (Nat.le_of_ble_eq_true rfl) dX11_shift_9 ?_
      refine ez_astore_N hX [(7, .null), (6, .null), (0, .ref (ez_B X + 0)), (1, .int tape), (2, .int i), (3, .int other), (4, .int j), (5, .int n)] dX11_shift_12 (ez_lt hnL rfl) rfl ?_
      refine ez_aloadN hX 1 dX11_shift_14 rfl ?_
      refine ez_ifnullN hX (x := 0) 24 dX11_shift_16 (by decide) ?_
      refine ez_iconst hX (-1 : Int32) dX11_shift_24 (by decide) ?_
      have ht : t0 = ((-1 : Int32), M) := hT.symm.trans (by simp only [et_X11_shift, if_pos c1, if_pos c3])
      subst ht
      exact ez_iret hX hQ dX11_shift_25 rfl rfl
    · by_cases c4 : (6 : Int32) ≤ other
      · skip
        refine ez_callV hX (N0 := 0) (As := [.int other]) (st := []) kc_0 (Nat.le_of_ble_eq_true rfl) lc_0 rfl (ec_X11_tapeOf_N _ _ _ M other (Or.inr c4)) (Or.inl rfl) wm_X11_193 wv_X11_tapeOf we_X11_tapeOf wy_X11_tapeOf rfl wd_X11_tapeOf wi_X11 (ez_rok hRm rfl) (Nat.le_of_ble_eq_true rfl) dX11_shift_9 ?_
        refine ez_astore_N hX [(7, .null), (6, .null), (0, .ref (ez_B X + 0)), (1, .int tape), (2, .int i), (3, .int other), (4, .int j), (5, .int n)] dX11_shift_12 (ez_lt hnL rfl) rfl ?_
        refine ez_aloadN hX 1 dX11_shift_14 rfl ?_
        refine ez_ifnullN hX (x := 0) 24 dX11_shift_16 (by decide) ?_
        refine ez_iconst hX (-1 : Int32) dX11_shift_24 (by decide) ?_
        have ht : t0 = ((-1 : Int32), M) := hT.symm.trans (by simp only [et_X11_shift, if_pos c1, if_neg c3, if_pos c4])
        subst ht
        exact ez_iret hX hQ dX11_shift_25 rfl rfl
      · skip
        refine ez_callV hX (N0 := 0) (As := [.int other]) (st := []) kc_0 (Nat.le_of_ble_eq_true rfl) lc_0 rfl (ec_X11_tapeOf_R _ _ _ M other c3 c4) (Or.inl rfl) wm_X11_193 wv_X11_tapeOf we_X11_tapeOf wy_X11_tapeOf rfl wd_X11_tapeOf wi_X11 (ez_rok hRm rfl) (Nat.le_of_ble_eq_true rfl) dX11_shift_9 ?_
        refine ez_astore hX [(7, .ref (ez_B X + (et_tp other))), (6, .null), (0, .ref (ez_B X + 0)), (1, .int tape), (2, .int i), (3, .int other), (4, .int j), (5, .int n)] dX11_shift_12 (ez_lt hnL rfl) rfl ?_
        refine ez_aloadN hX 1 dX11_shift_14 rfl ?_
        refine ez_ifnullN hX (x := 0) 24 dX11_shift_16 (by decide) ?_
        refine ez_iconst hX (-1 : Int32) dX11_shift_24 (by decide) ?_
        have ht : t0 = ((-1 : Int32), M) := hT.symm.trans (by simp only [et_X11_shift, if_pos c1, if_neg c3, if_neg c4])
        subst ht
        exact ez_iret hX hQ dX11_shift_25 rfl rfl
  · by_cases c2 : (6 : Int32) ≤ tape
    · skip
      refine ez_callV hX (N0 := 0) (As := [.int tape]) (st := []) kc_0 (Nat.le_of_ble_eq_true rfl) lc_0 rfl (ec_X11_tapeOf_N _ _ _ M tape (Or.inr c2)) (Or.inl rfl) wm_X11_193 wv_X11_tapeOf we_X11_tapeOf wy_X11_tapeOf rfl wd_X11_tapeOf wi_X11 (ez_rok hRm rfl) (Nat.le_of_ble_eq_true rfl) dX11_shift_2 ?_
      refine ez_astore_N hX [(6, .null), (0, .ref (ez_B X + 0)), (1, .int tape), (2, .int i), (3, .int other), (4, .int j), (5, .int n)] dX11_shift_5 (ez_lt hnL rfl) rfl ?_
      refine ez_aload_n hX 1 dX11_shift_7 rfl ?_
      refine ez_iload_n hX 4 dX11_shift_8 rfl ?_
      by_cases c5 : other < 0
      · skip
        refine ez_callV hX (N0 := 0) (As := [.int other]) (st := []) kc_0 (Nat.le_of_ble_eq_true rfl) lc_0 rfl (ec_X11_tapeOf_N _ _ _ M other (Or.inl c5)) (Or.inl rfl) wm_X11_193 wv_X11_tapeOf we_X11_tapeOf wy_X11_tapeOf rfl wd_X11_tapeOf wi_X11 (ez_rok hRm rfl) (Nat.le_of_ble_eq_true rfl) dX11_shift_9 ?_
        refine ez_astore_N hX [(7, .null), (6, .null), (0, .ref (ez_B X + 0)), (1, .int tape), (2, .int i), (3, .int other), (4, .int j), (5, .int n)] dX11_shift_12 (ez_lt hnL rfl) rfl ?_
        refine ez_aloadN hX 1 dX11_shift_14 rfl ?_
        refine ez_ifnullN hX (x := 0) 24 dX11_shift_16 (by decide) ?_
        refine ez_iconst hX (-1 : Int32) dX11_shift_24 (by decide) ?_
        have ht : t0 = ((-1 : Int32), M) := hT.symm.trans (by simp only [et_X11_shift, if_neg c1, if_pos c2, if_pos c5])
        subst ht
        exact ez_iret hX hQ dX11_shift_25 rfl rfl
      · by_cases c6 : (6 : Int32) ≤ other
        · skip
          refine ez_callV hX (N0 := 0) (As := [.int other]) (st := []) kc_0 (Nat.le_of_ble_eq_true rfl) lc_0 rfl (ec_X11_tapeOf_N _ _ _ M other (Or.inr c6)) (Or.inl rfl) wm_X11_193 wv_X11_tapeOf we_X11_tapeOf wy_X11_tapeOf rfl wd_X11_tapeOf wi_X11 (ez_rok hRm rfl) (Nat.le_of_ble_eq_true rfl) dX11_shift_9 ?_
          refine ez_astore_N hX [(7, .null), (6, .null), (0, .ref (ez_B X + 0)), (1, .int tape), (2, .int i), (3, .int other), (4, .int j), (5, .int n)] dX11_shift_12 (ez_lt hnL rfl) rfl ?_
          refine ez_aloadN hX 1 dX11_shift_14 rfl ?_
          refine ez_ifnullN hX (x := 0) 24 dX11_shift_16 (by decide) ?_
          refine ez_iconst hX (-1 : Int32) dX11_shift_24 (by decide) ?_
          have ht : t0 = ((-1 : Int32), M) := hT.symm.trans (by simp only [et_X11_shift, if_neg c1, if_pos c2, if_neg c5, if_pos c6])
          subst ht
          exact ez_iret hX hQ dX11_shift_25 rfl rfl
        · skip
          refine ez_callV hX (N0 := 0) (As := [.int other]) (st := []) kc_0 (Nat.le_of_ble_eq_true rfl) lc_0 rfl (ec_X11_tapeOf_R _ _ _ M other c5 c6) (Or.inl rfl) wm_X11_193 wv_X11_tapeOf we_X11_tapeOf wy_X11_tapeOf rfl wd_X11_tapeOf wi_X11 (ez_rok hRm rfl) (Nat.le_of_ble_eq_true rfl) dX11_shift_9 ?_
          refine ez_astore hX [(7, .ref (ez_B X + (et_tp other))), (6, .null), (0, .ref (ez_B X + 0)), (1, .int tape), (2, .int i), (3, .int other), (4, .int j), (5, .int n)] dX11_shift_12 (ez_lt hnL rfl) rfl ?_
          refine ez_aloadN hX 1 dX11_shift_14 rfl ?_
          refine ez_ifnullN hX (x := 0) 24 dX11_shift_16 (by decide) ?_
          refine ez_iconst hX (-1 : Int32) dX11_shift_24 (by decide) ?_
          have ht : t0 = ((-1 : Int32), M) := hT.symm.trans (by simp only [et_X11_shift, if_neg c1, if_pos c2, if_neg c5, if_neg c6])
          subst ht
          exact ez_iret hX hQ dX11_shift_25 rfl rfl
    · skip
      refine ez_callV hX (N0 := 0) (As := [.int tape]) (st := []) kc_0 (Nat.le_of_ble_eq_true rfl) lc_0 rfl (ec_X11_tapeOf_R _ _ _ M tape c1 c2) (Or.inl rfl) wm_X11_193 wv_X11_tapeOf we_X11_tapeOf wy_X11_tapeOf rfl wd_X11_tapeOf wi_X11 (ez_rok hRm rfl) (Nat.le_of_ble_eq_true rfl) dX11_shift_2 ?_
      refine ez_astore hX [(6, .ref (ez_B X + (et_tp tape))), (0, .ref (ez_B X + 0)), (1, .int tape), (2, .int i), (3, .int other), (4, .int j), (5, .int n)] dX11_shift_5 (ez_lt hnL rfl) rfl ?_
      refine ez_aload_n hX 1 dX11_shift_7 rfl ?_
      refine ez_iload_n hX 4 dX11_shift_8 rfl ?_
      by_cases c7 : other < 0
      · skip
        refine ez_callV hX (N0 := 0) (As := [.int other]) (st := []) kc_0 (Nat.le_of_ble_eq_true rfl) lc_0 rfl (ec_X11_tapeOf_N _ _ _ M other (Or.inl c7)) (Or.inl rfl) wm_X11_193 wv_X11_tapeOf we_X11_tapeOf wy_X11_tapeOf rfl wd_X11_tapeOf wi_X11 (ez_rok hRm rfl) (Nat.le_of_ble_eq_true rfl) dX11_shift_9 ?_
        refine ez_astore_N hX [(7, .null), (6, .ref (ez_B X + (et_tp tape))), (0, .ref (ez_B X + 0)), (1, .int tape), (2, .int i), (3, .int other), (4, .int j), (5, .int n)] dX11_shift_12 (ez_lt hnL rfl) rfl ?_
        refine ez_aload hX 1 dX11_shift_14 rfl ?_
        refine ez_ifnull hX dX11_shift_16 ?_
        refine ez_aloadN hX 0 dX11_shift_19 rfl ?_
        refine ez_ifnonnullN hX (x := 0) dX11_shift_21 ?_
        refine ez_iconst hX (-1 : Int32) dX11_shift_24 (by decide) ?_
        have ht : t0 = ((-1 : Int32), M) := hT.symm.trans (by simp only [et_X11_shift, if_neg c1, if_neg c2, if_pos c7])
        subst ht
        exact ez_iret hX hQ dX11_shift_25 rfl rfl
      · by_cases c8 : (6 : Int32) ≤ other
        · skip
          refine ez_callV hX (N0 := 0) (As := [.int other]) (st := []) kc_0 (Nat.le_of_ble_eq_true rfl) lc_0 rfl (ec_X11_tapeOf_N _ _ _ M other (Or.inr c8)) (Or.inl rfl) wm_X11_193 wv_X11_tapeOf we_X11_tapeOf wy_X11_tapeOf rfl wd_X11_tapeOf wi_X11 (ez_rok hRm rfl) (Nat.le_of_ble_eq_true rfl) dX11_shift_9 ?_
          refine ez_astore_N hX [(7, .null), (6, .ref (ez_B X + (et_tp tape))), (0, .ref (ez_B X + 0)), (1, .int tape), (2, .int i), (3, .int other), (4, .int j), (5, .int n)] dX11_shift_12 (ez_lt hnL rfl) rfl ?_
          refine ez_aload hX 1 dX11_shift_14 rfl ?_
          refine ez_ifnull hX dX11_shift_16 ?_
          refine ez_aloadN hX 0 dX11_shift_19 rfl ?_
          refine ez_ifnonnullN hX (x := 0) dX11_shift_21 ?_
          refine ez_iconst hX (-1 : Int32) dX11_shift_24 (by decide) ?_
          have ht : t0 = ((-1 : Int32), M) := hT.symm.trans (by simp only [et_X11_shift, if_neg c1, if_neg c2, if_neg c7, if_pos c8])
          subst ht
          exact ez_iret hX hQ dX11_shift_25 rfl rfl
        · skip
          refine ez_callV hX (N0 := 0) (As := [.int other]) (st := []) kc_0 (Nat.le_of_ble_eq_true rfl) lc_0 rfl (ec_X11_tapeOf_R _ _ _ M other c7 c8) (Or.inl rfl) wm_X11_193 wv_X11_tapeOf we_X11_tapeOf wy_X11_tapeOf rfl wd_X11_tapeOf wi_X11 (ez_rok hRm rfl) (Nat.le_of_ble_eq_true rfl) dX11_shift_9 ?_
          refine ez_astore hX [(7, .ref (ez_B X + (et_tp other))), (6, .ref (ez_B X + (et_tp tape))), (0, .ref (ez_B X + 0)), (1, .int tape), (2, .int i), (3, .int other), (4, .int j), (5, .int n)] dX11_shift_12 (ez_lt hnL rfl) rfl ?_
          refine ez_aload hX 1 dX11_shift_14 rfl ?_
          refine ez_ifnull hX dX11_shift_16 ?_
          refine ez_aload hX 0 dX11_shift_19 rfl ?_
          refine ez_ifnonnull hX 26 dX11_shift_21 (by decide) ?_
          refine ez_aload hX 1 dX11_shift_26 rfl ?_
          refine ez_geti hX (kt_0 (et_tpt c1 c2)) rfl (Nat.le_of_ble_eq_true rfl) (kt_lt0 (et_tpt c1 c2)) (Nat.le_of_ble_eq_true rfl) inX8 rfl wf_X11_197 dX11_shift_28 ?_
          refine ez_iconst hX (-1 : Int32) dX11_shift_31 (by decide) ?_
          refine ez_icmp_eq hX 44 dX11_shift_32 (by decide) (fun c9 => ?_) (fun c9 => ?_)
          · -- c9 jump
            refine ez_bipush hX (-11 : Int32) dX11_shift_44 (by decide) ?_
            have ht : t0 = ((-11 : Int32), M) := hT.symm.trans (by simp only [et_X11_shift, if_neg c1, if_neg c2, if_neg c7, if_neg c8, if_pos c9])
            subst ht
            exact ez_iret hX hQ dX11_shift_46 rfl rfl
          · -- c9 on
            refine ez_aload hX 0 dX11_shift_35 rfl ?_
            refine ez_geti hX (kt_0 (et_tpt c7 c8)) rfl (Nat.le_of_ble_eq_true rfl) (kt_lt0 (et_tpt c7 c8)) (Nat.le_of_ble_eq_true rfl) inX8 rfl wf_X11_197 dX11_shift_37 ?_
            refine ez_iconst hX (-1 : Int32) dX11_shift_40 (by decide) ?_
            refine ez_icmp_ne hX 47 dX11_shift_41 (by decide) (fun c10 => ?_) (fun c10 => ?_)
            · -- c10 jump
              refine ez_aload hX 1 dX11_shift_47 rfl ?_
              refine ez_geti hX (kt_0 (et_tpt c1 c2)) rfl (Nat.le_of_ble_eq_true rfl) (kt_lt0 (et_tpt c1 c2)) (Nat.le_of_ble_eq_true rfl) inX8 rfl wf_X11_197 dX11_shift_49 ?_
              refine ez_aload hX 0 dX11_shift_52 rfl ?_
              refine ez_geti hX (kt_0 (et_tpt c7 c8)) rfl (Nat.le_of_ble_eq_true rfl) (kt_lt0 (et_tpt c7 c8)) (Nat.le_of_ble_eq_true rfl) inX8 rfl wf_X11_197 dX11_shift_54 ?_
              refine ez_icmp_eq hX 63 dX11_shift_57 (by decide) (fun c11 => ?_) (fun c11 => ?_)
              · -- c11 jump
                refine ez_iload hX 7 dX11_shift_63 rfl ?_
                refine ez_if_lt hX 102 dX11_shift_65 (by decide) (fun c12 => ?_) (fun c12 => ?_)
                · -- c12 jump
                  refine ez_bipush hX (-13 : Int32) dX11_shift_102 (by decide) ?_
                  have ht : t0 = ((-13 : Int32), M) := hT.symm.trans (by simp only [et_X11_shift, if_neg c1, if_neg c2, if_neg c7, if_neg c8, if_neg c9, if_neg c10, if_pos c11, if_pos c12])
                  subst ht
                  exact ez_iret hX hQ dX11_shift_104 rfl rfl
                · -- c12 on
                  refine ez_iload_n hX 4 dX11_shift_68 rfl ?_
                  refine ez_if_lt hX 102 dX11_shift_69 (by decide) (fun c13 => ?_) (fun c13 => ?_)
                  · -- c13 jump
                    refine ez_bipush hX (-13 : Int32) dX11_shift_102 (by decide) ?_
                    have ht : t0 = ((-13 : Int32), M) := hT.symm.trans (by simp only [et_X11_shift, if_neg c1, if_neg c2, if_neg c7, if_neg c8, if_neg c9, if_neg c10, if_pos c11, if_neg c12, if_pos c13])
                    subst ht
                    exact ez_iret hX hQ dX11_shift_104 rfl rfl
                  · -- c13 on
                    refine ez_iload hX 6 dX11_shift_72 rfl ?_
                    refine ez_if_lt hX 102 dX11_shift_74 (by decide) (fun c14 => ?_) (fun c14 => ?_)
                    · -- c14 jump
                      refine ez_bipush hX (-13 : Int32) dX11_shift_102 (by decide) ?_
                      have ht : t0 = ((-13 : Int32), M) := hT.symm.trans (by simp only [et_X11_shift, if_neg c1, if_neg c2, if_neg c7, if_neg c8, if_neg c9, if_neg c10, if_pos c11, if_neg c12, if_neg c13, if_pos c14])
                      subst ht
                      exact ez_iret hX hQ dX11_shift_104 rfl rfl
                    · -- c14 on
                      refine ez_iload hX 7 dX11_shift_77 rfl ?_
                      refine ez_aload hX 1 dX11_shift_79 rfl ?_
                      refine ez_geti hX (kt_0 (et_tpt c1 c2)) rfl (Nat.le_of_ble_eq_true rfl) (kt_lt0 (et_tpt c1 c2)) (Nat.le_of_ble_eq_true rfl) inX8 rfl wf_X11_201 dX11_shift_81 ?_
                      refine ez_iload_n hX 4 dX11_shift_84 rfl ?_
                      refine ez_isub hX dX11_shift_85 ?_
                      refine ez_icmp_gt hX 102 dX11_shift_86 (by decide) (fun c15 => ?_) (fun c15 => ?_)
                      · -- c15 jump
                        refine ez_bipush hX (-13 : Int32) dX11_shift_102 (by decide) ?_
                        have ht : t0 = ((-13 : Int32), M) := hT.symm.trans (by simp only [et_X11_shift, if_neg c1, if_neg c2, if_neg c7, if_neg c8, if_neg c9, if_neg c10, if_pos c11, if_neg c12, if_neg c13, if_neg c14, if_pos c15])
                        subst ht
                        exact ez_iret hX hQ dX11_shift_104 rfl rfl
                      · -- c15 on
                        refine ez_iload hX 7 dX11_shift_89 rfl ?_
                        refine ez_aload hX 0 dX11_shift_91 rfl ?_
                        refine ez_geti hX (kt_0 (et_tpt c7 c8)) rfl (Nat.le_of_ble_eq_true rfl) (kt_lt0 (et_tpt c7 c8)) (Nat.le_of_ble_eq_true rfl) inX8 rfl wf_X11_201 dX11_shift_93 ?_
                        refine ez_iload hX 6 dX11_shift_96 rfl ?_
                        refine ez_isub hX dX11_shift_98 ?_
                        refine ez_icmp_le hX 105 dX11_shift_99 (by decide) (fun c16 => ?_) (fun c16 => ?_)
                        · -- c16 jump
                          refine ez_aload hX 1 dX11_shift_105 rfl ?_
                          refine ez_getr hX (kt_0 (et_tpt c1 c2)) rfl (Nat.le_of_ble_eq_true rfl) (kt_lt0 (et_tpt c1 c2)) (Nat.le_of_ble_eq_true rfl) inX8 ((et_tp tape) + 1) rfl (rt_0_2 (et_tpt c1 c2)) wf_X11_202 dX11_shift_107 ?_
                          refine ez_iload_n hX 4 dX11_shift_110 rfl ?_
                          refine ez_aload hX 0 dX11_shift_111 rfl ?_
                          refine ez_getr hX (kt_0 (et_tpt c7 c8)) rfl (Nat.le_of_ble_eq_true rfl) (kt_lt0 (et_tpt c7 c8)) (Nat.le_of_ble_eq_true rfl) inX8 ((et_tp other) + 1) rfl (rt_0_2 (et_tpt c7 c8)) wf_X11_202 dX11_shift_113 ?_
                          refine ez_iload hX 6 dX11_shift_116 rfl ?_
                          refine ez_iload hX 7 dX11_shift_118 rfl ?_
                          refine ez_copyl hX (kt_1 (et_tpt c1 c2)) (kt_lt (et_tpt c1 c2) 1 (by decide)) (kt_1 (et_tpt c7 c8)) (kt_lt (et_tpt c7 c8) 1 (by decide)) wm_X11_231 c13 c14 c12 (et_shc (htz _ (et_tpt c1 c2)) c13 c12 c15) (et_shc (htz _ (et_tpt c7 c8)) c14 c12 (Int32.not_lt.mpr c16)) ⟨ez_ra hRm rfl, ez_rb hRm rfl⟩ dX11_shift_120 ?_
                          refine ez_nmM (fun M17 eM17 => ?_)
                          refine ez_iload hX 7 dX11_shift_123 rfl ?_
                          have ht : t0 = (n, M17) := hT.symm.trans (by simp only [et_X11_shift, if_neg c1, if_neg c2, if_neg c7, if_neg c8, if_neg c9, if_neg c10, if_pos c11, if_neg c12, if_neg c13, if_neg c14, if_neg c15, if_pos c16, eM17])
                          subst ht
                          exact ez_iret hX hQ dX11_shift_125 rfl rfl
                        · -- c16 on
                          refine ez_bipush hX (-13 : Int32) dX11_shift_102 (by decide) ?_
                          have ht : t0 = ((-13 : Int32), M) := hT.symm.trans (by simp only [et_X11_shift, if_neg c1, if_neg c2, if_neg c7, if_neg c8, if_neg c9, if_neg c10, if_pos c11, if_neg c12, if_neg c13, if_neg c14, if_neg c15, if_neg c16])
                          subst ht
                          exact ez_iret hX hQ dX11_shift_104 rfl rfl
              · -- c11 on
                refine ez_bipush hX (-12 : Int32) dX11_shift_60 (by decide) ?_
                have ht : t0 = ((-12 : Int32), M) := hT.symm.trans (by simp only [et_X11_shift, if_neg c1, if_neg c2, if_neg c7, if_neg c8, if_neg c9, if_neg c10, if_neg c11])
                subst ht
                exact ez_iret hX hQ dX11_shift_62 rfl rfl
            · -- c10 on
              refine ez_bipush hX (-11 : Int32) dX11_shift_44 (by decide) ?_
              have ht : t0 = ((-11 : Int32), M) := hT.symm.trans (by simp only [et_X11_shift, if_neg c1, if_neg c2, if_neg c7, if_neg c8, if_neg c9, if_pos c10])
              subst ht
              exact ez_iret hX hQ dX11_shift_46 rfl rfl
