def et_X12_define  (M : em_M) (function : Int32) (line : Int32) : Int32 × em_M :=
  let r1 := et_X12_in M ((function).toInt64) (0 : Int64) (2 : Int64)
  (if r1 = 0 then ((-1 : Int32), M) else (if line = (-1 : Int32) then let M4 := em_pI M 119 (((4 : Int32) + function)).toNatClampNeg (-5 : Int32)
  ((M.1 119 (((4 : Int32) + function)).toNatClampNeg), M4) else let r5 := et_X12_isLine M line
  (if r5 = 0 then ((-1 : Int32), M) else let M7 := em_pI M 119 (((4 : Int32) + function)).toNatClampNeg line
  ((M.1 119 (((4 : Int32) + function)).toNatClampNeg), M7))))
def es_X12_define  (M : em_M) (function : Int32) (line : Int32) : Prop :=
  ∀ r1 : Int32, et_X12_in M ((function).toInt64) (0 : Int64) (2 : Int64) = r1 → (
  ((r1 = 0) → (True)) ∧
  (¬ (r1 = 0) → (((line = (-1 : Int32)) → (vp_in ((4 : Int32) + function) 5880 ∧ (vp_in ((4 : Int32) + function) 5880 ∧ (∀ M4 : em_M, em_pI M 119 (((4 : Int32) + function)).toNatClampNeg (-5 : Int32) = M4 → (
  True))))) ∧
  (¬ (line = (-1 : Int32)) → (∀ r5 : Int32, et_X12_isLine M line = r5 → (
  ((r5 = 0) → (True)) ∧
  (¬ (r5 = 0) → (vp_in ((4 : Int32) + function) 5880 ∧ (vp_in ((4 : Int32) + function) 5880 ∧ (∀ M7 : em_M, em_pI M 119 (((4 : Int32) + function)).toNatClampNeg line = M7 → (
  True)))))))))))
set_option maxHeartbeats 4000000 in
set_option maxRecDepth 100000 in
theorem ec_X12_define (l : Launch) (D : em_G) (B : Nat) (M : em_M) (function : Int32) (line : Int32) (hs : es_X12_define M function line) : em_C l D B yX12_define cX12_define 4 (some .int) 2 46 0 0 false [.ref (B + 118), .int function, .int line] 132 em_R M (some (.int (et_X12_define M function line).1)) 132 em_R ((et_X12_define M function line).2) := by
  refine em_C_of RX12 [(0, .ref (B + 118)), (1, .int function), (2, .int line)] (by decide) rfl rfl (Nat.le_of_ble_eq_true rfl) ?_
  rintro X rfl rfl rfl hRm hnL hnm hsz hX hQ
  obtain ⟨t0, hT⟩ : ∃ tz, et_X12_define M function line = tz := ⟨_, rfl⟩
  rw [hT] at hQ
  rw [es_X12_define] at hs
  refine ez_iload_n hX 1 dX12_define_0 rfl ?_
  refine ez_i2l hX dX12_define_1 ?_
  refine ez_lconst hX (0 : Int64) dX12_define_2 (by decide) ?_
  refine ez_ldc2 hX wl_X12_129 dX12_define_3 ?_
  refine ez_callS hX (N0 := 0) (As := [.long ((function).toInt64), .long (0 : Int64), .long (2 : Int64)]) (st := []) (ec_X12_in _ _ _ M ((function).toInt64) (0 : Int64) (2 : Int64)) (Or.inl rfl) wm_X12_54 ws_X12_in wy_X12_in rfl wd_X12_in wi_X12 (ez_rok hRm rfl) (Nat.le_of_ble_eq_true rfl) dX12_define_6 ?_
  refine ez_nmI (fun r1 er1 => ?_)
  have hs := hs r1 er1
  refine ez_if_eq hX 25 dX12_define_9 (by decide) (fun c2 => ?_) (fun c2 => ?_)
  · -- c2 jump
    have hs := hs.1 c2
    refine ez_iconst hX (-1 : Int32) dX12_define_25 (by decide) ?_
    have ht : t0 = ((-1 : Int32), M) := hT.symm.trans (by simp only [et_X12_define, er1, if_pos c2])
    subst ht
    exact ez_iret hX hQ dX12_define_26 rfl rfl
  · -- c2 on
    have hs := hs.2 c2
    refine ez_iload_n hX 2 dX12_define_12 rfl ?_
    refine ez_iconst hX (-1 : Int32) dX12_define_13 (by decide) ?_
    refine ez_icmp_eq hX 27 dX12_define_14 (by decide) (fun c3 => ?_) (fun c3 => ?_)
    · -- c3 jump
      have hs := hs.1 c3
      refine ez_aload_n hX 0 dX12_define_27 rfl ?_
      refine ez_getr hX kc_118 rfl (Nat.le_of_ble_eq_true rfl) lc_118 (Nat.le_of_ble_eq_true rfl) inX12 119 rfl rc_118_0 wf_X12_11 dX12_define_28 ?_
      refine ez_iconst hX (4 : Int32) dX12_define_31 (by decide) ?_
      refine ez_iload_n hX 1 dX12_define_32 rfl ?_
      refine ez_iadd hX dX12_define_33 ?_
      refine ez_iald hX kc_119 lc_119 hs.1 dX12_define_34 ?_
      have hs := hs.2
      refine ez_istore_n hX [(3, .int (M.1 119 (((4 : Int32) + function)).toNatClampNeg)), (0, .ref (ez_B X + 118)), (1, .int function), (2, .int line)] dX12_define_35 (ez_lt hnL rfl) rfl ?_
      refine ez_aload_n hX 1 dX12_define_36 rfl ?_
      refine ez_getr hX kc_118 rfl (Nat.le_of_ble_eq_true rfl) lc_118 (Nat.le_of_ble_eq_true rfl) inX12 119 rfl rc_118_0 wf_X12_11 dX12_define_37 ?_
      refine ez_iconst hX (4 : Int32) dX12_define_40 (by decide) ?_
      refine ez_iload_n hX 2 dX12_define_41 rfl ?_
      refine ez_iadd hX dX12_define_42 ?_
      refine ez_iload_n hX 3 dX12_define_43 rfl ?_
      refine ez_iconst hX (-1 : Int32) dX12_define_44 (by decide) ?_
      refine ez_icmp_ne hX 53 dX12_define_45 (by decide) (fun c => absurd (by rw [c3] <;> decide) c) (fun _ => ?_)
      refine ez_bipush hX (-5 : Int32) dX12_define_48 (by decide) ?_
      refine ez_goto hX 54 dX12_define_50 (by decide) ?_
      refine ez_iast hX kc_119 lc_119 hs.1 dX12_define_54 ?_
      have hs := hs.2
      refine ez_nmM (fun M4 eM4 => ?_)
      have hs := hs M4 eM4
      refine ez_iload_n hX 0 dX12_define_55 rfl ?_
      have ht : t0 = ((M.1 119 (((4 : Int32) + function)).toNatClampNeg), M4) := hT.symm.trans (by simp only [et_X12_define, er1, if_neg c2, if_pos c3, eM4])
      subst ht
      exact ez_iret hX hQ dX12_define_56 rfl rfl
    · -- c3 on
      have hs := hs.2 c3
      refine ez_aload_n hX 0 dX12_define_17 rfl ?_
      refine ez_iload_n hX 2 dX12_define_18 rfl ?_
      refine ez_callV hX (N0 := 0) (As := [.int line]) (st := []) kc_118 (Nat.le_of_ble_eq_true rfl) lc_118 rfl (ec_X12_isLine _ _ _ M line) (Or.inl rfl) wm_X12_124 wv_X12_isLine we_X12_isLine wy_X12_isLine rfl wd_X12_isLine wi_X12 (ez_rok hRm rfl) (Nat.le_of_ble_eq_true rfl) dX12_define_19 ?_
      refine ez_nmI (fun r5 er5 => ?_)
      have hs := hs r5 er5
      refine ez_if_ne hX 27 dX12_define_22 (by decide) (fun c6 => ?_) (fun c6 => ?_)
      · -- c6 jump
        have hs := hs.2 c6
        refine ez_aload_n hX 0 dX12_define_27 rfl ?_
        refine ez_getr hX kc_118 rfl (Nat.le_of_ble_eq_true rfl) lc_118 (Nat.le_of_ble_eq_true rfl) inX12 119 rfl rc_118_0 wf_X12_11 dX12_define_28 ?_
        refine ez_iconst hX (4 : Int32) dX12_define_31 (by decide) ?_
        refine ez_iload_n hX 1 dX12_define_32 rfl ?_
        refine ez_iadd hX dX12_define_33 ?_
        refine ez_iald hX kc_119 lc_119 hs.1 dX12_define_34 ?_
        have hs := hs.2
        refine ez_istore_n hX [(3, .int (M.1 119 (((4 : Int32) + function)).toNatClampNeg)), (0, .ref (ez_B X + 118)), (1, .int function), (2, .int line)] dX12_define_35 (ez_lt hnL rfl) rfl ?_
        refine ez_aload_n hX 1 dX12_define_36 rfl ?_
        refine ez_getr hX kc_118 rfl (Nat.le_of_ble_eq_true rfl) lc_118 (Nat.le_of_ble_eq_true rfl) inX12 119 rfl rc_118_0 wf_X12_11 dX12_define_37 ?_
        refine ez_iconst hX (4 : Int32) dX12_define_40 (by decide) ?_
        refine ez_iload_n hX 2 dX12_define_41 rfl ?_
        refine ez_iadd hX dX12_define_42 ?_
        refine ez_iload_n hX 3 dX12_define_43 rfl ?_
        refine ez_iconst hX (-1 : Int32) dX12_define_44 (by decide) ?_
        refine ez_icmp_ne hX 53 dX12_define_45 (by decide) (fun _ => ?_) (fun c => absurd c c3)
        refine ez_iload_n hX 3 dX12_define_53 rfl ?_
        refine ez_iast hX kc_119 lc_119 hs.1 dX12_define_54 ?_
        have hs := hs.2
        refine ez_nmM (fun M7 eM7 => ?_)
        have hs := hs M7 eM7
        refine ez_iload_n hX 0 dX12_define_55 rfl ?_
        have ht : t0 = ((M.1 119 (((4 : Int32) + function)).toNatClampNeg), M7) := hT.symm.trans (by simp only [et_X12_define, er1, if_neg c2, if_neg c3, er5, if_neg c6, eM7])
        subst ht
        exact ez_iret hX hQ dX12_define_56 rfl rfl
      · -- c6 on
        have hs := hs.1 c6
        refine ez_iconst hX (-1 : Int32) dX12_define_25 (by decide) ?_
        have ht : t0 = ((-1 : Int32), M) := hT.symm.trans (by simp only [et_X12_define, er1, if_neg c2, if_neg c3, er5, if_pos c6])
        subst ht
        exact ez_iret hX hQ dX12_define_26 rfl rfl

def et_X12_isName  (M : em_M) (n : Int32) : Int32 :=
  let r1 := et_X12_in M ((n).toInt64) (0 : Int64) (3 : Int64)
  r1
set_option maxHeartbeats 4000000 in
set_option maxRecDepth 100000 in
theorem ec_X12_isName (l : Launch) (D : em_G) (B : Nat) (M : em_M) (n : Int32) : em_C l D B yX12_isName cX12_isName 1 (some .boolean) 1 25 0 0 false [.int n] 132 em_R M (some (.int (et_X12_isName M n))) 132 em_R (M) := by
  refine em_C_of RX12 [(0, .int n)] (by decide) rfl rfl (Nat.le_of_ble_eq_true rfl) ?_
  rintro X rfl rfl rfl hRm hnL hnm hsz hX hQ
  obtain ⟨t0, hT⟩ : ∃ tz, et_X12_isName M n = tz := ⟨_, rfl⟩
  rw [hT] at hQ
  refine ez_iload_n hX 0 dX12_isName_0 rfl ?_
  refine ez_i2l hX dX12_isName_1 ?_
  refine ez_lconst hX (0 : Int64) dX12_isName_2 (by decide) ?_
  refine ez_ldc2 hX wl_X12_127 dX12_isName_3 ?_
  refine ez_callS hX (N0 := 0) (As := [.long ((n).toInt64), .long (0 : Int64), .long (3 : Int64)]) (st := []) (ec_X12_in _ _ _ M ((n).toInt64) (0 : Int64) (3 : Int64)) (Or.inl rfl) wm_X12_54 ws_X12_in wy_X12_in rfl wd_X12_in wi_X12 (ez_rok hRm rfl) (Nat.le_of_ble_eq_true rfl) dX12_isName_6 ?_
  refine ez_nmI (fun r1 er1 => ?_)
  have ht : t0 = r1 := hT.symm.trans (by simp only [et_X12_isName, er1])
  subst ht
  exact ez_zret hX hQ dX12_isName_9 (ez_bn (by rw [← er1]; exact ez_inb _ _ _ _)) rfl rfl

def et_X12_value  (M : em_M) (name : Int32) (v : Int32) : Int64 × em_M :=
  let r1 := et_X12_isName M name
  (if r1 = 0 then ((-9223372036854775808 : Int64), M) else let M3 := em_pI M 119 (((0 : Int32) + name)).toNatClampNeg v
  (((M.1 119 (((0 : Int32) + name)).toNatClampNeg)).toInt64, M3))
def es_X12_value  (M : em_M) (name : Int32) (v : Int32) : Prop :=
  ∀ r1 : Int32, et_X12_isName M name = r1 → (
  ((r1 = 0) → (True)) ∧
  (¬ (r1 = 0) → (vp_in ((0 : Int32) + name) 5880 ∧ (vp_in ((0 : Int32) + name) 5880 ∧ (∀ M3 : em_M, em_pI M 119 (((0 : Int32) + name)).toNatClampNeg v = M3 → (
  True))))))
set_option maxHeartbeats 4000000 in
set_option maxRecDepth 100000 in
theorem ec_X12_value (l : Launch) (D : em_G) (B : Nat) (M : em_M) (name : Int32) (v : Int32) (hs : es_X12_value M name v) : em_C l D B yX12_value cX12_value 5 (some .long) 2 45 0 0 false [.ref (B + 118), .int name, .int v] 132 em_R M (some (.long (et_X12_value M name v).1)) 132 em_R ((et_X12_value M name v).2) := by
  refine em_C_of RX12 [(0, .ref (B + 118)), (1, .int name), (2, .int v)] (by decide) rfl rfl (Nat.le_of_ble_eq_true rfl) ?_
  rintro X rfl rfl rfl hRm hnL hnm hsz hX hQ
  obtain ⟨t0, hT⟩ : ∃ tz, et_X12_value M name v = tz := ⟨_, rfl⟩
  rw [hT] at hQ
  rw [es_X12_value] at hs
  refine ez_iload_n hX 1 dX12_value_0 rfl ?_
  refine ez_callS hX (N0 := 0) (As := [.int name]) (st := []) (ec_X12_isName _ _ _ M name) (Or.inl rfl) wm_X12_131 ws_X12_isName wy_X12_isName rfl wd_X12_isName wi_X12 (ez_rok hRm rfl) (Nat.le_of_ble_eq_true rfl) dX12_value_1 ?_
  refine ez_nmI (fun r1 er1 => ?_)
  have hs := hs r1 er1
  refine ez_if_ne hX 11 dX12_value_4 (by decide) (fun c2 => ?_) (fun c2 => ?_)
  · -- c2 jump
    have hs := hs.2 c2
    refine ez_aload_n hX 0 dX12_value_11 rfl ?_
    refine ez_getr hX kc_118 rfl (Nat.le_of_ble_eq_true rfl) lc_118 (Nat.le_of_ble_eq_true rfl) inX12 119 rfl rc_118_0 wf_X12_11 dX12_value_12 ?_
    refine ez_iconst hX (0 : Int32) dX12_value_15 (by decide) ?_
    refine ez_iload_n hX 1 dX12_value_16 rfl ?_
    refine ez_iadd hX dX12_value_17 ?_
    refine ez_iald hX kc_119 lc_119 hs.1 dX12_value_18 ?_
    have hs := hs.2
    refine ez_i2l hX dX12_value_19 ?_
    refine ez_lstore_n hX [(3, .long (((M.1 119 (((0 : Int32) + name)).toNatClampNeg)).toInt64)), (0, .ref (ez_B X + 118)), (1, .int name), (2, .int v)] dX12_value_20 (ez_lt hnL rfl) rfl ?_
    refine ez_aload_n hX 1 dX12_value_21 rfl ?_
    refine ez_getr hX kc_118 rfl (Nat.le_of_ble_eq_true rfl) lc_118 (Nat.le_of_ble_eq_true rfl) inX12 119 rfl rc_118_0 wf_X12_11 dX12_value_22 ?_
    refine ez_iconst hX (0 : Int32) dX12_value_25 (by decide) ?_
    refine ez_iload_n hX 2 dX12_value_26 rfl ?_
    refine ez_iadd hX dX12_value_27 ?_
    refine ez_iload_n hX 3 dX12_value_28 rfl ?_
    refine ez_iast hX kc_119 lc_119 hs.1 dX12_value_29 ?_
    have hs := hs.2
    refine ez_nmM (fun M3 eM3 => ?_)
    have hs := hs M3 eM3
    refine ez_lload_n hX 0 dX12_value_30 rfl ?_
    have ht : t0 = (((M.1 119 (((0 : Int32) + name)).toNatClampNeg)).toInt64, M3) := hT.symm.trans (by simp only [et_X12_value, er1, if_neg c2, eM3])
    subst ht
    exact ez_lret hX hQ dX12_value_31 rfl rfl
  · -- c2 on
    have hs := hs.1 c2
    refine ez_ldc2 hX wl_X12_134 dX12_value_7 ?_
    have ht : t0 = ((-9223372036854775808 : Int64), M) := hT.symm.trans (by simp only [et_X12_value, er1, if_pos c2])
    subst ht
    exact ez_lret hX hQ dX12_value_10 rfl rfl

def et_X12_frames  (M : em_M) (chain : Int32) : Int32 :=
  (if 0 ≤ chain then (M.1 119 ((((120 : Int32) + ((8 : Int32) * chain)) + (6 : Int32))).toNatClampNeg) else (0 : Int32))
def es_X12_frames  (M : em_M) (chain : Int32) : Prop :=
  ((0 ≤ chain) → (vp_in (((120 : Int32) + ((8 : Int32) * chain)) + (6 : Int32)) 5880 ∧ (True))) ∧
  (¬ (0 ≤ chain) → (True))
set_option maxHeartbeats 4000000 in
set_option maxRecDepth 100000 in
theorem ec_X12_frames (l : Launch) (D : em_G) (B : Nat) (M : em_M) (chain : Int32) (hs : es_X12_frames M chain) : em_C l D B yX12_frames cX12_frames 2 (some .int) 0 0 0 0 false [.ref (B + 118), .int chain] 132 em_R M (some (.int (et_X12_frames M chain))) 132 em_R (M) := by
  refine em_C_of RX12 [(0, .ref (B + 118)), (1, .int chain)] (by decide) rfl rfl (Nat.le_of_ble_eq_true rfl) ?_
  rintro X rfl rfl rfl hRm hnL hnm hsz hX hQ
  obtain ⟨t0, hT⟩ : ∃ tz, et_X12_frames M chain = tz := ⟨_, rfl⟩
  rw [hT] at hQ
  rw [es_X12_frames] at hs
  refine ez_iload_n hX 1 dX12_frames_0 rfl ?_
  refine ez_if_ge hX 8 dX12_frames_1 (by decide) (fun c1 => ?_) (fun c1 => ?_)
  · -- c1 jump
    have hs := hs.1 c1
    refine ez_aload_n hX 0 dX12_frames_8 rfl ?_
    refine ez_getr hX kc_118 rfl (Nat.le_of_ble_eq_true rfl) lc_118 (Nat.le_of_ble_eq_true rfl) inX12 119 rfl rc_118_0 wf_X12_11 dX12_frames_9 ?_
    refine ez_bipush hX (120 : Int32) dX12_frames_12 (by decide) ?_
    refine ez_bipush hX (8 : Int32) dX12_frames_14 (by decide) ?_
    refine ez_iload_n hX 1 dX12_frames_16 rfl ?_
    refine ez_imul hX dX12_frames_17 ?_
    refine ez_iadd hX dX12_frames_18 ?_
    refine ez_bipush hX (6 : Int32) dX12_frames_19 (by decide) ?_
    refine ez_iadd hX dX12_frames_21 ?_
    refine ez_iald hX kc_119 lc_119 hs.1 dX12_frames_22 ?_
    have hs := hs.2
    have ht : t0 = (M.1 119 ((((120 : Int32) + ((8 : Int32) * chain)) + (6 : Int32))).toNatClampNeg) := hT.symm.trans (by simp only [et_X12_frames, if_pos c1])
    subst ht
    exact ez_iret hX hQ dX12_frames_23 rfl rfl
  · -- c1 on
    have hs := hs.2 c1
    refine ez_iconst hX (0 : Int32) dX12_frames_4 (by decide) ?_
    refine ez_goto hX 23 dX12_frames_5 (by decide) ?_
    have ht : t0 = (0 : Int32) := hT.symm.trans (by simp only [et_X12_frames, if_neg c1])
    subst ht
    exact ez_iret hX hQ dX12_frames_23 rfl rfl

def et_X12_stands  (M : em_M) (status : Int32) : em_M :=
  let M1 := em_pI M 119 ((7 : Int32)).toNatClampNeg status
  M1
set_option maxHeartbeats 4000000 in
set_option maxRecDepth 100000 in
theorem ec_X12_stands (l : Launch) (D : em_G) (B : Nat) (M : em_M) (status : Int32) : em_C l D B yX12_stands cX12_stands 2 none 0 0 0 0 false [.ref (B + 118), .int status] 132 em_R M (none) 132 em_R ((et_X12_stands M status)) := by
  refine em_C_of RX12 [(0, .ref (B + 118)), (1, .int status)] (by decide) rfl rfl (Nat.le_of_ble_eq_true rfl) ?_
  rintro X rfl rfl rfl hRm hnL hnm hsz hX hQ
  obtain ⟨t0, hT⟩ : ∃ tz, et_X12_stands M status = tz := ⟨_, rfl⟩
  rw [hT] at hQ
  refine ez_aload_n hX 0 dX12_stands_0 rfl ?_
  refine ez_getr hX kc_118 rfl (Nat.le_of_ble_eq_true rfl) lc_118 (Nat.le_of_ble_eq_true rfl) inX12 119 rfl rc_118_0 wf_X12_11 dX12_stands_1 ?_
  refine ez_bipush hX (7 : Int32) dX12_stands_4 (by decide) ?_
  refine ez_iload_n hX 1 dX12_stands_6 rfl ?_
  refine ez_iast hX kc_119 lc_119 (by unfold vp_in; decide) dX12_stands_7 ?_
  refine ez_nmM (fun M1 eM1 => ?_)
  have ht : t0 = M1 := hT.symm.trans (by simp only [et_X12_stands, eM1])
  subst ht
  exact ez_vret hX hQ dX12_stands_8 rfl rfl

def et_X12_works  (M : em_M) (e : Int32) (offset : Int32) (scope : Int32) : em_M :=
  let M1 := em_pI M 119 ((13 : Int32)).toNatClampNeg (0 : Int32)
  let M2 := em_pI M1 119 ((14 : Int32)).toNatClampNeg e
  let M3 := em_pI M2 119 ((15 : Int32)).toNatClampNeg offset
  let M4 := em_pI M3 119 ((16 : Int32)).toNatClampNeg scope
  M4
set_option maxHeartbeats 4000000 in
set_option maxRecDepth 100000 in
theorem ec_X12_works (l : Launch) (D : em_G) (B : Nat) (M : em_M) (e : Int32) (offset : Int32) (scope : Int32) : em_C l D B yX12_works cX12_works 4 none 0 0 0 0 false [.ref (B + 118), .int e, .int offset, .int scope] 132 em_R M (none) 132 em_R ((et_X12_works M e offset scope)) := by
  refine em_C_of RX12 [(0, .ref (B + 118)), (1, .int e), (2, .int offset), (3, .int scope)] (by decide) rfl rfl (Nat.le_of_ble_eq_true rfl) ?_
  rintro X rfl rfl rfl hRm hnL hnm hsz hX hQ
  obtain ⟨t0, hT⟩ : ∃ tz, et_X12_works M e offset scope = tz := ⟨_, rfl⟩
  rw [hT] at hQ
  refine ez_aload_n hX 0 dX12_works_0 rfl ?_
  refine ez_getr hX kc_118 rfl (Nat.le_of_ble_eq_true rfl) lc_118 (Nat.le_of_ble_eq_true rfl) inX12 119 rfl rc_118_0 wf_X12_11 dX12_works_1 ?_
  refine ez_bipush hX (13 : Int32) dX12_works_4 (by decide) ?_
  refine ez_iconst hX (0 : Int32) dX12_works_6 (by decide) ?_
  refine ez_iast hX kc_119 lc_119 (by unfold vp_in; decide) dX12_works_7 ?_
  refine ez_nmM (fun M1 eM1 => ?_)
  refine ez_aload_n hX 0 dX12_works_8 rfl ?_
  refine ez_getr hX kc_118 rfl (Nat.le_of_ble_eq_true rfl) lc_118 (Nat.le_of_ble_eq_true rfl) inX12 119 rfl rc_118_0 wf_X12_11 dX12_works_9 ?_
  refine ez_bipush hX (14 : Int32) dX12_works_12 (by decide) ?_
  refine ez_iload_n hX 1 dX12_works_14 rfl ?_
  refine ez_iast hX kc_119 lc_119 (by unfold vp_in; decide) dX12_works_15 ?_
  refine ez_nmM (fun M2 eM2 => ?_)
  refine ez_aload_n hX 0 dX12_works_16 rfl ?_
  refine ez_getr hX kc_118 rfl (Nat.le_of_ble_eq_true rfl) lc_118 (Nat.le_of_ble_eq_true rfl) inX12 119 rfl rc_118_0 wf_X12_11 dX12_works_17 ?_
  refine ez_bipush hX (15 : Int32) dX12_works_20 (by decide) ?_
  refine ez_iload_n hX 2 dX12_works_22 rfl ?_
  refine ez_iast hX kc_119 lc_119 (by unfold vp_in; decide) dX12_works_23 ?_
  refine ez_nmM (fun M3 eM3 => ?_)
  refine ez_aload_n hX 0 dX12_works_24 rfl ?_
  refine ez_getr hX kc_118 rfl (Nat.le_of_ble_eq_true rfl) lc_118 (Nat.le_of_ble_eq_true rfl) inX12 119 rfl rc_118_0 wf_X12_11 dX12_works_25 ?_
  refine ez_bipush hX (16 : Int32) dX12_works_28 (by decide) ?_
  refine ez_iload_n hX 3 dX12_works_30 rfl ?_
  refine ez_iast hX kc_119 lc_119 (by unfold vp_in; decide) dX12_works_31 ?_
  refine ez_nmM (fun M4 eM4 => ?_)
  have ht : t0 = M4 := hT.symm.trans (by simp only [et_X12_works, eM1, eM2, eM3, eM4])
  subst ht
  exact ez_vret hX hQ dX12_works_32 rfl rfl

def et_X12_gives  (M : em_M) (isEscape : Int32) (v : Int32) : em_M :=
  let M1 := em_pI M 119 ((13 : Int32)).toNatClampNeg (1 : Int32)
  let M2 := em_pI M1 119 ((19 : Int32)).toNatClampNeg isEscape
  let M3 := em_pI M2 119 ((20 : Int32)).toNatClampNeg v
  M3
set_option maxHeartbeats 4000000 in
set_option maxRecDepth 100000 in
theorem ec_X12_gives (l : Launch) (D : em_G) (B : Nat) (M : em_M) (isEscape : Int32) (v : Int32) : em_C l D B yX12_gives cX12_gives 3 none 0 0 0 0 false [.ref (B + 118), .int isEscape, .int v] 132 em_R M (none) 132 em_R ((et_X12_gives M isEscape v)) := by
  refine em_C_of RX12 [(0, .ref (B + 118)), (1, .int isEscape), (2, .int v)] (by decide) rfl rfl (Nat.le_of_ble_eq_true rfl) ?_
  rintro X rfl rfl rfl hRm hnL hnm hsz hX hQ
  obtain ⟨t0, hT⟩ : ∃ tz, et_X12_gives M isEscape v = tz := ⟨_, rfl⟩
  rw [hT] at hQ
  refine ez_aload_n hX 0 dX12_gives_0 rfl ?_
  refine ez_getr hX kc_118 rfl (Nat.le_of_ble_eq_true rfl) lc_118 (Nat.le_of_ble_eq_true rfl) inX12 119 rfl rc_118_0 wf_X12_11 dX12_gives_1 ?_
  refine ez_bipush hX (13 : Int32) dX12_gives_4 (by decide) ?_
  refine ez_iconst hX (1 : Int32) dX12_gives_6 (by decide) ?_
  refine ez_iast hX kc_119 lc_119 (by unfold vp_in; decide) dX12_gives_7 ?_
  refine ez_nmM (fun M1 eM1 => ?_)
  refine ez_aload_n hX 0 dX12_gives_8 rfl ?_
  refine ez_getr hX kc_118 rfl (Nat.le_of_ble_eq_true rfl) lc_118 (Nat.le_of_ble_eq_true rfl) inX12 119 rfl rc_118_0 wf_X12_11 dX12_gives_9 ?_
  refine ez_bipush hX (19 : Int32) dX12_gives_12 (by decide) ?_
  refine ez_iload_n hX 1 dX12_gives_14 rfl ?_
  refine ez_iast hX kc_119 lc_119 (by unfold vp_in; decide) dX12_gives_15 ?_
  refine ez_nmM (fun M2 eM2 => ?_)
  refine ez_aload_n hX 0 dX12_gives_16 rfl ?_
  refine ez_getr hX kc_118 rfl (Nat.le_of_ble_eq_true rfl) lc_118 (Nat.le_of_ble_eq_true rfl) inX12 119 rfl rc_118_0 wf_X12_11 dX12_gives_17 ?_
  refine ez_bipush hX (20 : Int32) dX12_gives_20 (by decide) ?_
  refine ez_iload_n hX 2 dX12_gives_22 rfl ?_
  refine ez_iast hX kc_119 lc_119 (by unfold vp_in; decide) dX12_gives_23 ?_
  refine ez_nmM (fun M3 eM3 => ?_)
  have ht : t0 = M3 := hT.symm.trans (by simp only [et_X12_gives, eM1, eM2, eM3])
  subst ht
  exact ez_vret hX hQ dX12_gives_24 rfl rfl

def et_X12_comes  (M : em_M) (below : Int32) (what : Int32) (e : Int32) (scope : Int32) (keptEscape : Int32) (keptThing : Int32) (extra : Int32) : Int32 × em_M :=
  let r1 := et_X12_frames M below
  (if r1 = (40 : Int32) then let M16 := et_X12_stands M (4 : Int32)
  ((0 : Int32), M16) else let M3 := em_pI M 119 (((120 : Int32) + ((8 : Int32) * (M.1 119 ((21 : Int32)).toNatClampNeg)))).toNatClampNeg what
  let M4 := em_pI M3 119 ((((120 : Int32) + ((8 : Int32) * (M.1 119 ((21 : Int32)).toNatClampNeg))) + (1 : Int32))).toNatClampNeg e
  let M5 := em_pI M4 119 ((((120 : Int32) + ((8 : Int32) * (M.1 119 ((21 : Int32)).toNatClampNeg))) + (2 : Int32))).toNatClampNeg scope
  let M6 := em_pI M5 119 ((((120 : Int32) + ((8 : Int32) * (M.1 119 ((21 : Int32)).toNatClampNeg))) + (3 : Int32))).toNatClampNeg keptEscape
  let M7 := em_pI M6 119 ((((120 : Int32) + ((8 : Int32) * (M.1 119 ((21 : Int32)).toNatClampNeg))) + (4 : Int32))).toNatClampNeg keptThing
  let M8 := em_pI M7 119 ((((120 : Int32) + ((8 : Int32) * (M.1 119 ((21 : Int32)).toNatClampNeg))) + (5 : Int32))).toNatClampNeg below
  let r9 := et_X12_frames M8 below
  let M10 := em_pI M8 119 ((((120 : Int32) + ((8 : Int32) * (M.1 119 ((21 : Int32)).toNatClampNeg))) + (6 : Int32))).toNatClampNeg (r9 + (1 : Int32))
  let M11 := em_pI M10 119 ((((120 : Int32) + ((8 : Int32) * (M.1 119 ((21 : Int32)).toNatClampNeg))) + (7 : Int32))).toNatClampNeg extra
  let M12 := em_pI M11 119 ((21 : Int32)).toNatClampNeg ((M.1 119 ((21 : Int32)).toNatClampNeg) + (1 : Int32))
  let M13 := em_pI M12 119 ((17 : Int32)).toNatClampNeg (M.1 119 ((21 : Int32)).toNatClampNeg)
  let r14 : Int32 := (if (M13.1 119 ((11 : Int32)).toNatClampNeg) < (M13.1 119 ((((120 : Int32) + ((8 : Int32) * (M.1 119 ((21 : Int32)).toNatClampNeg))) + (6 : Int32))).toNatClampNeg) then (M13.1 119 ((((120 : Int32) + ((8 : Int32) * (M.1 119 ((21 : Int32)).toNatClampNeg))) + (6 : Int32))).toNatClampNeg) else (M13.1 119 ((11 : Int32)).toNatClampNeg))
  let M15 := em_pI M13 119 ((11 : Int32)).toNatClampNeg r14
  ((1 : Int32), M15))
def es_X12_comes  (M : em_M) (below : Int32) (what : Int32) (e : Int32) (scope : Int32) (keptEscape : Int32) (keptThing : Int32) (extra : Int32) : Prop :=
  es_X12_frames M below ∧ (∀ r1 : Int32, et_X12_frames M below = r1 → (
  ((r1 = (40 : Int32)) → (∀ M16 : em_M, et_X12_stands M (4 : Int32) = M16 → (
  True))) ∧
  (¬ (r1 = (40 : Int32)) → (vp_in ((120 : Int32) + ((8 : Int32) * (M.1 119 ((21 : Int32)).toNatClampNeg))) 5880 ∧ (∀ M3 : em_M, em_pI M 119 (((120 : Int32) + ((8 : Int32) * (M.1 119 ((21 : Int32)).toNatClampNeg)))).toNatClampNeg what = M3 → (
  vp_in (((120 : Int32) + ((8 : Int32) * (M.1 119 ((21 : Int32)).toNatClampNeg))) + (1 : Int32)) 5880 ∧ (∀ M4 : em_M, em_pI M3 119 ((((120 : Int32) + ((8 : Int32) * (M.1 119 ((21 : Int32)).toNatClampNeg))) + (1 : Int32))).toNatClampNeg e = M4 → (
  vp_in (((120 : Int32) + ((8 : Int32) * (M.1 119 ((21 : Int32)).toNatClampNeg))) + (2 : Int32)) 5880 ∧ (∀ M5 : em_M, em_pI M4 119 ((((120 : Int32) + ((8 : Int32) * (M.1 119 ((21 : Int32)).toNatClampNeg))) + (2 : Int32))).toNatClampNeg scope = M5 → (
  vp_in (((120 : Int32) + ((8 : Int32) * (M.1 119 ((21 : Int32)).toNatClampNeg))) + (3 : Int32)) 5880 ∧ (∀ M6 : em_M, em_pI M5 119 ((((120 : Int32) + ((8 : Int32) * (M.1 119 ((21 : Int32)).toNatClampNeg))) + (3 : Int32))).toNatClampNeg keptEscape = M6 → (
  vp_in (((120 : Int32) + ((8 : Int32) * (M.1 119 ((21 : Int32)).toNatClampNeg))) + (4 : Int32)) 5880 ∧ (∀ M7 : em_M, em_pI M6 119 ((((120 : Int32) + ((8 : Int32) * (M.1 119 ((21 : Int32)).toNatClampNeg))) + (4 : Int32))).toNatClampNeg keptThing = M7 → (
  vp_in (((120 : Int32) + ((8 : Int32) * (M.1 119 ((21 : Int32)).toNatClampNeg))) + (5 : Int32)) 5880 ∧ (∀ M8 : em_M, em_pI M7 119 ((((120 : Int32) + ((8 : Int32) * (M.1 119 ((21 : Int32)).toNatClampNeg))) + (5 : Int32))).toNatClampNeg below = M8 → (
  es_X12_frames M8 below ∧ (∀ r9 : Int32, et_X12_frames M8 below = r9 → (
  vp_in (((120 : Int32) + ((8 : Int32) * (M.1 119 ((21 : Int32)).toNatClampNeg))) + (6 : Int32)) 5880 ∧ (∀ M10 : em_M, em_pI M8 119 ((((120 : Int32) + ((8 : Int32) * (M.1 119 ((21 : Int32)).toNatClampNeg))) + (6 : Int32))).toNatClampNeg (r9 + (1 : Int32)) = M10 → (
  vp_in (((120 : Int32) + ((8 : Int32) * (M.1 119 ((21 : Int32)).toNatClampNeg))) + (7 : Int32)) 5880 ∧ (∀ M11 : em_M, em_pI M10 119 ((((120 : Int32) + ((8 : Int32) * (M.1 119 ((21 : Int32)).toNatClampNeg))) + (7 : Int32))).toNatClampNeg extra = M11 → (
  ∀ M12 : em_M, em_pI M11 119 ((21 : Int32)).toNatClampNeg ((M.1 119 ((21 : Int32)).toNatClampNeg) + (1 : Int32)) = M12 → (
  ∀ M13 : em_M, em_pI M12 119 ((17 : Int32)).toNatClampNeg (M.1 119 ((21 : Int32)).toNatClampNeg) = M13 → (
  vp_in (((120 : Int32) + ((8 : Int32) * (M.1 119 ((21 : Int32)).toNatClampNeg))) + (6 : Int32)) 5880 ∧ (∀ r14 : Int32, (if (M13.1 119 ((11 : Int32)).toNatClampNeg) < (M13.1 119 ((((120 : Int32) + ((8 : Int32) * (M.1 119 ((21 : Int32)).toNatClampNeg))) + (6 : Int32))).toNatClampNeg) then (M13.1 119 ((((120 : Int32) + ((8 : Int32) * (M.1 119 ((21 : Int32)).toNatClampNeg))) + (6 : Int32))).toNatClampNeg) else (M13.1 119 ((11 : Int32)).toNatClampNeg)) = r14 → (
  ∀ M15 : em_M, em_pI M13 119 ((11 : Int32)).toNatClampNeg r14 = M15 → (
  True)))))))))))))))))))))))))))
set_option maxHeartbeats 4000000 in
set_option maxRecDepth 100000 in
theorem ec_X12_comes (l : Launch) (D : em_G) (B : Nat) (M : em_M) (below : Int32) (what : Int32) (e : Int32) (scope : Int32) (keptEscape : Int32) (keptThing : Int32) (extra : Int32) (hs : es_X12_comes M below what e scope keptEscape keptThing extra) : em_C l D B yX12_comes cX12_comes 10 (some .boolean) 1 21 0 0 false [.ref (B + 118), .int below, .int what, .int e, .int scope, .int keptEscape, .int keptThing, .int extra] 132 em_R M (some (.int (et_X12_comes M below what e scope keptEscape keptThing extra).1)) 132 em_R ((et_X12_comes M below what e scope keptEscape keptThing extra).2) := by
  refine em_C_of RX12 [(0, .ref (B + 118)), (1, .int below), (2, .int what), (3, .int e), (4, .int scope), (5, .int keptEscape), (6, .int keptThing), (7, .int extra)] (by decide) rfl rfl (Nat.le_of_ble_eq_true rfl) ?_
  rintro X rfl rfl rfl hRm hnL hnm hsz hX hQ
  obtain ⟨t0, hT⟩ : ∃ tz, et_X12_comes M below what e scope keptEscape keptThing extra = tz := ⟨_, rfl⟩
  rw [hT] at hQ
  rw [es_X12_comes] at hs
  refine ez_aload_n hX 0 dX12_comes_0 rfl ?_
  refine ez_iload_n hX 1 dX12_comes_1 rfl ?_
  refine ez_callV hX (N0 := 0) (As := [.int below]) (st := []) kc_118 (Nat.le_of_ble_eq_true rfl) lc_118 rfl (ec_X12_frames _ _ _ M below hs.1) (Or.inl rfl) wm_X12_136 wv_X12_frames we_X12_frames wy_X12_frames rfl wd_X12_frames wi_X12 (ez_rok hRm rfl) (Nat.le_of_ble_eq_true rfl) dX12_comes_2 ?_
  have hs := hs.2
  refine ez_nmI (fun r1 er1 => ?_)
  have hs := hs r1 er1
  refine ez_bipush hX (40 : Int32) dX12_comes_5 (by decide) ?_
  refine ez_icmp_ne hX 17 dX12_comes_7 (by decide) (fun c2 => ?_) (fun c2 => ?_)
  · -- c2 jump
    have hs := hs.2 c2
    refine ez_aload_n hX 0 dX12_comes_17 rfl ?_
    refine ez_getr hX kc_118 rfl (Nat.le_of_ble_eq_true rfl) lc_118 (Nat.le_of_ble_eq_true rfl) inX12 119 rfl rc_118_0 wf_X12_11 dX12_comes_18 ?_
    refine ez_bipush hX (21 : Int32) dX12_comes_21 (by decide) ?_
    refine ez_iald hX kc_119 lc_119 (by unfold vp_in; decide) dX12_comes_23 ?_
    refine ez_istore hX [(8, .int (M.1 119 ((21 : Int32)).toNatClampNeg)), (0, .ref (ez_B X + 118)), (1, .int below), (2, .int what), (3, .int e), (4, .int scope), (5, .int keptEscape), (6, .int keptThing), (7, .int extra)] dX12_comes_24 (ez_lt hnL rfl) rfl ?_
    refine ez_bipush hX (120 : Int32) dX12_comes_26 (by decide) ?_
    refine ez_bipush hX (8 : Int32) dX12_comes_28 (by decide) ?_
    refine ez_iload hX 0 dX12_comes_30 rfl ?_
    refine ez_imul hX dX12_comes_32 ?_
    refine ez_iadd hX dX12_comes_33 ?_
    refine ez_istore hX [(9, .int ((120 : Int32) + ((8 : Int32) * (M.1 119 ((21 : Int32)).toNatClampNeg)))), (8, .int (M.1 119 ((21 : Int32)).toNatClampNeg)), (0, .ref (ez_B X + 118)), (1, .int below), (2, .int what), (3, .int e), (4, .int scope), (5, .int keptEscape), (6, .int keptThing), (7, .int extra)] dX12_comes_34 (ez_lt hnL rfl) rfl ?_
    refine ez_aload_n hX 2 dX12_comes_36 rfl ?_
    refine ez_getr hX kc_118 rfl (Nat.le_of_ble_eq_true rfl) lc_118 (Nat.le_of_ble_eq_true rfl) inX12 119 rfl rc_118_0 wf_X12_11 dX12_comes_37 ?_
    refine ez_iload hX 0 dX12_comes_40 rfl ?_
    refine ez_iload_n hX 4 dX12_comes_42 rfl ?_
    refine ez_iast hX kc_119 lc_119 hs.1 dX12_comes_43 ?_
    have hs := hs.2
    refine ez_nmM (fun M3 eM3 => ?_)
    have hs := hs M3 eM3
    refine ez_aload_n hX 2 dX12_comes_44 rfl ?_
    refine ez_getr hX kc_118 rfl (Nat.le_of_ble_eq_true rfl) lc_118 (Nat.le_of_ble_eq_true rfl) inX12 119 rfl rc_118_0 wf_X12_11 dX12_comes_45 ?_
    refine ez_iload hX 0 dX12_comes_48 rfl ?_
    refine ez_iconst hX (1 : Int32) dX12_comes_50 (by decide) ?_
    refine ez_iadd hX dX12_comes_51 ?_
    refine ez_iload_n hX 5 dX12_comes_52 rfl ?_
    refine ez_iast hX kc_119 lc_119 hs.1 dX12_comes_53 ?_
    have hs := hs.2
    refine ez_nmM (fun M4 eM4 => ?_)
    have hs := hs M4 eM4
    refine ez_aload_n hX 2 dX12_comes_54 rfl ?_
    refine ez_getr hX kc_118 rfl (Nat.le_of_ble_eq_true rfl) lc_118 (Nat.le_of_ble_eq_true rfl) inX12 119 rfl rc_118_0 wf_X12_11 dX12_comes_55 ?_
    refine ez_iload hX 0 dX12_comes_58 rfl ?_
    refine ez_iconst hX (2 : Int32) dX12_comes_60 (by decide) ?_
    refine ez_iadd hX dX12_comes_61 ?_
    refine ez_iload hX 6 dX12_comes_62 rfl ?_
    refine ez_iast hX kc_119 lc_119 hs.1 dX12_comes_64 ?_
    have hs := hs.2
    refine ez_nmM (fun M5 eM5 => ?_)
    have hs := hs M5 eM5
    refine ez_aload_n hX 2 dX12_comes_65 rfl ?_
    refine ez_getr hX kc_118 rfl (Nat.le_of_ble_eq_true rfl) lc_118 (Nat.le_of_ble_eq_true rfl) inX12 119 rfl rc_118_0 wf_X12_11 dX12_comes_66 ?_
    refine ez_iload hX 0 dX12_comes_69 rfl ?_
    refine ez_iconst hX (3 : Int32) dX12_comes_71 (by decide) ?_
    refine ez_iadd hX dX12_comes_72 ?_
    refine ez_iload hX 7 dX12_comes_73 rfl ?_
    refine ez_iast hX kc_119 lc_119 hs.1 dX12_comes_75 ?_
    have hs := hs.2
    refine ez_nmM (fun M6 eM6 => ?_)
    have hs := hs M6 eM6
    refine ez_aload_n hX 2 dX12_comes_76 rfl ?_
    refine ez_getr hX kc_118 rfl (Nat.le_of_ble_eq_true rfl) lc_118 (Nat.le_of_ble_eq_true rfl) inX12 119 rfl rc_118_0 wf_X12_11 dX12_comes_77 ?_
    refine ez_iload hX 0 dX12_comes_80 rfl ?_
    refine ez_iconst hX (4 : Int32) dX12_comes_82 (by decide) ?_
    refine ez_iadd hX dX12_comes_83 ?_
    refine ez_iload hX 8 dX12_comes_84 rfl ?_
    refine ez_iast hX kc_119 lc_119 hs.1 dX12_comes_86 ?_
    have hs := hs.2
    refine ez_nmM (fun M7 eM7 => ?_)
    have hs := hs M7 eM7
    refine ez_aload_n hX 2 dX12_comes_87 rfl ?_
    refine ez_getr hX kc_118 rfl (Nat.le_of_ble_eq_true rfl) lc_118 (Nat.le_of_ble_eq_true rfl) inX12 119 rfl rc_118_0 wf_X12_11 dX12_comes_88 ?_
    refine ez_iload hX 0 dX12_comes_91 rfl ?_
    refine ez_iconst hX (5 : Int32) dX12_comes_93 (by decide) ?_
    refine ez_iadd hX dX12_comes_94 ?_
    refine ez_iload_n hX 3 dX12_comes_95 rfl ?_
    refine ez_iast hX kc_119 lc_119 hs.1 dX12_comes_96 ?_
    have hs := hs.2
    refine ez_nmM (fun M8 eM8 => ?_)
    have hs := hs M8 eM8
    refine ez_aload_n hX 2 dX12_comes_97 rfl ?_
    refine ez_getr hX kc_118 rfl (Nat.le_of_ble_eq_true rfl) lc_118 (Nat.le_of_ble_eq_true rfl) inX12 119 rfl rc_118_0 wf_X12_11 dX12_comes_98 ?_
    refine ez_iload hX 0 dX12_comes_101 rfl ?_
    refine ez_bipush hX (6 : Int32) dX12_comes_103 (by decide) ?_
    refine ez_iadd hX dX12_comes_105 ?_
    refine ez_aload_n hX 2 dX12_comes_106 rfl ?_
    refine ez_iload_n hX 3 dX12_comes_107 rfl ?_
    refine ez_callV hX (N0 := 0) (As := [.int below]) (st := [.int (((120 : Int32) + ((8 : Int32) * (M.1 119 ((21 : Int32)).toNatClampNeg))) + (6 : Int32)), .ref (ez_B X + 119)]) kc_118 (Nat.le_of_ble_eq_true rfl) lc_118 rfl (ec_X12_frames _ _ _ M8 below hs.1) (Or.inl rfl) wm_X12_136 wv_X12_frames we_X12_frames wy_X12_frames rfl wd_X12_frames wi_X12 (ez_rok hRm rfl) (Nat.le_of_ble_eq_true rfl) dX12_comes_108 ?_
    have hs := hs.2
    refine ez_nmI (fun r9 er9 => ?_)
    have hs := hs r9 er9
    refine ez_iconst hX (1 : Int32) dX12_comes_111 (by decide) ?_
    refine ez_iadd hX dX12_comes_112 ?_
    refine ez_iast hX kc_119 lc_119 hs.1 dX12_comes_113 ?_
    have hs := hs.2
    refine ez_nmM (fun M10 eM10 => ?_)
    have hs := hs M10 eM10
    refine ez_aload_n hX 2 dX12_comes_114 rfl ?_
    refine ez_getr hX kc_118 rfl (Nat.le_of_ble_eq_true rfl) lc_118 (Nat.le_of_ble_eq_true rfl) inX12 119 rfl rc_118_0 wf_X12_11 dX12_comes_115 ?_
    refine ez_iload hX 0 dX12_comes_118 rfl ?_
    refine ez_bipush hX (7 : Int32) dX12_comes_120 (by decide) ?_
    refine ez_iadd hX dX12_comes_122 ?_
    refine ez_iload hX 9 dX12_comes_123 rfl ?_
    refine ez_iast hX kc_119 lc_119 hs.1 dX12_comes_125 ?_
    have hs := hs.2
    refine ez_nmM (fun M11 eM11 => ?_)
    have hs := hs M11 eM11
    refine ez_aload_n hX 2 dX12_comes_126 rfl ?_
    refine ez_getr hX kc_118 rfl (Nat.le_of_ble_eq_true rfl) lc_118 (Nat.le_of_ble_eq_true rfl) inX12 119 rfl rc_118_0 wf_X12_11 dX12_comes_127 ?_
    refine ez_bipush hX (21 : Int32) dX12_comes_130 (by decide) ?_
    refine ez_iload hX 1 dX12_comes_132 rfl ?_
    refine ez_iconst hX (1 : Int32) dX12_comes_134 (by decide) ?_
    refine ez_iadd hX dX12_comes_135 ?_
    refine ez_iast hX kc_119 lc_119 (by unfold vp_in; decide) dX12_comes_136 ?_
    refine ez_nmM (fun M12 eM12 => ?_)
    have hs := hs M12 eM12
    refine ez_aload_n hX 2 dX12_comes_137 rfl ?_
    refine ez_getr hX kc_118 rfl (Nat.le_of_ble_eq_true rfl) lc_118 (Nat.le_of_ble_eq_true rfl) inX12 119 rfl rc_118_0 wf_X12_11 dX12_comes_138 ?_
    refine ez_bipush hX (17 : Int32) dX12_comes_141 (by decide) ?_
    refine ez_iload hX 1 dX12_comes_143 rfl ?_
    refine ez_iast hX kc_119 lc_119 (by unfold vp_in; decide) dX12_comes_145 ?_
    refine ez_nmM (fun M13 eM13 => ?_)
    have hs := hs M13 eM13
    refine ez_aload_n hX 2 dX12_comes_146 rfl ?_
    refine ez_getr hX kc_118 rfl (Nat.le_of_ble_eq_true rfl) lc_118 (Nat.le_of_ble_eq_true rfl) inX12 119 rfl rc_118_0 wf_X12_11 dX12_comes_147 ?_
    refine ez_bipush hX (11 : Int32) dX12_comes_150 (by decide) ?_
    refine ez_aload_n hX 2 dX12_comes_152 rfl ?_
    refine ez_getr hX kc_118 rfl (Nat.le_of_ble_eq_true rfl) lc_118 (Nat.le_of_ble_eq_true rfl) inX12 119 rfl rc_118_0 wf_X12_11 dX12_comes_153 ?_
    refine ez_bipush hX (11 : Int32) dX12_comes_156 (by decide) ?_
    refine ez_iald hX kc_119 lc_119 (by unfold vp_in; decide) dX12_comes_158 ?_
    refine ez_aload_n hX 2 dX12_comes_159 rfl ?_
    refine ez_getr hX kc_118 rfl (Nat.le_of_ble_eq_true rfl) lc_118 (Nat.le_of_ble_eq_true rfl) inX12 119 rfl rc_118_0 wf_X12_11 dX12_comes_160 ?_
    refine ez_iload hX 0 dX12_comes_163 rfl ?_
    refine ez_bipush hX (6 : Int32) dX12_comes_165 (by decide) ?_
    refine ez_iadd hX dX12_comes_167 ?_
    refine ez_iald hX kc_119 lc_119 hs.1 dX12_comes_168 ?_
    have hs := hs.2
    refine ez_mmax hX wm_X12_113 (ez_rok2 hRm rfl) dX12_comes_169 ?_
    refine ez_nmI (fun r14 er14 => ?_)
    have hs := hs r14 er14
    refine ez_iast hX kc_119 lc_119 (by unfold vp_in; decide) dX12_comes_172 ?_
    refine ez_nmM (fun M15 eM15 => ?_)
    have hs := hs M15 eM15
    refine ez_iconst hX (1 : Int32) dX12_comes_173 (by decide) ?_
    have ht : t0 = ((1 : Int32), M15) := hT.symm.trans (by simp only [et_X12_comes, er1, if_neg c2, eM3, eM4, eM5, eM6, eM7, eM8, er9, eM10, eM11, eM12, eM13, er14, eM15])
    subst ht
    exact ez_zret hX hQ dX12_comes_174 rfl rfl rfl
  · -- c2 on
    have hs := hs.1 c2
    refine ez_aload_n hX 0 dX12_comes_10 rfl ?_
    refine ez_iconst hX (4 : Int32) dX12_comes_11 (by decide) ?_
    refine ez_callV hX (N0 := 0) (As := [.int (4 : Int32)]) (st := []) kc_118 (Nat.le_of_ble_eq_true rfl) lc_118 rfl (ec_X12_stands _ _ _ M (4 : Int32)) (Or.inl rfl) wm_X12_139 wv_X12_stands we_X12_stands wy_X12_stands rfl wd_X12_stands wi_X12 (ez_rok hRm rfl) (Nat.le_of_ble_eq_true rfl) dX12_comes_12 ?_
    refine ez_nmM (fun M16 eM16 => ?_)
    have hs := hs M16 eM16
    refine ez_iconst hX (0 : Int32) dX12_comes_15 (by decide) ?_
    have ht : t0 = ((0 : Int32), M16) := hT.symm.trans (by simp only [et_X12_comes, er1, if_pos c2, eM16])
    subst ht
    exact ez_zret hX hQ dX12_comes_16 rfl rfl rfl

def et_X12_bound  (M : em_M) (below : Int32) (name : Int32) (isEscape : Int32) (v : Int32) : Int32 × em_M :=
  let M1 := em_pI M 119 (((2680 : Int32) + ((4 : Int32) * (M.1 119 ((22 : Int32)).toNatClampNeg)))).toNatClampNeg name
  let M2 := em_pI M1 119 ((((2680 : Int32) + ((4 : Int32) * (M.1 119 ((22 : Int32)).toNatClampNeg))) + (1 : Int32))).toNatClampNeg isEscape
  let M3 := em_pI M2 119 ((((2680 : Int32) + ((4 : Int32) * (M.1 119 ((22 : Int32)).toNatClampNeg))) + (2 : Int32))).toNatClampNeg v
  let M4 := em_pI M3 119 ((((2680 : Int32) + ((4 : Int32) * (M.1 119 ((22 : Int32)).toNatClampNeg))) + (3 : Int32))).toNatClampNeg below
  let M5 := em_pI M4 119 ((22 : Int32)).toNatClampNeg ((M.1 119 ((22 : Int32)).toNatClampNeg) + (1 : Int32))
  ((M.1 119 ((22 : Int32)).toNatClampNeg), M5)
def es_X12_bound  (M : em_M) (below : Int32) (name : Int32) (isEscape : Int32) (v : Int32) : Prop :=
  vp_in ((2680 : Int32) + ((4 : Int32) * (M.1 119 ((22 : Int32)).toNatClampNeg))) 5880 ∧ (∀ M1 : em_M, em_pI M 119 (((2680 : Int32) + ((4 : Int32) * (M.1 119 ((22 : Int32)).toNatClampNeg)))).toNatClampNeg name = M1 → (
  vp_in (((2680 : Int32) + ((4 : Int32) * (M.1 119 ((22 : Int32)).toNatClampNeg))) + (1 : Int32)) 5880 ∧ (∀ M2 : em_M, em_pI M1 119 ((((2680 : Int32) + ((4 : Int32) * (M.1 119 ((22 : Int32)).toNatClampNeg))) + (1 : Int32))).toNatClampNeg isEscape = M2 → (
  vp_in (((2680 : Int32) + ((4 : Int32) * (M.1 119 ((22 : Int32)).toNatClampNeg))) + (2 : Int32)) 5880 ∧ (∀ M3 : em_M, em_pI M2 119 ((((2680 : Int32) + ((4 : Int32) * (M.1 119 ((22 : Int32)).toNatClampNeg))) + (2 : Int32))).toNatClampNeg v = M3 → (
  vp_in (((2680 : Int32) + ((4 : Int32) * (M.1 119 ((22 : Int32)).toNatClampNeg))) + (3 : Int32)) 5880 ∧ (∀ M4 : em_M, em_pI M3 119 ((((2680 : Int32) + ((4 : Int32) * (M.1 119 ((22 : Int32)).toNatClampNeg))) + (3 : Int32))).toNatClampNeg below = M4 → (
  ∀ M5 : em_M, em_pI M4 119 ((22 : Int32)).toNatClampNeg ((M.1 119 ((22 : Int32)).toNatClampNeg) + (1 : Int32)) = M5 → (
  True)))))))))
set_option maxHeartbeats 4000000 in
set_option maxRecDepth 100000 in
theorem ec_X12_bound (l : Launch) (D : em_G) (B : Nat) (M : em_M) (below : Int32) (name : Int32) (isEscape : Int32) (v : Int32) (hs : es_X12_bound M below name isEscape v) : em_C l D B yX12_bound cX12_bound 7 (some .int) 0 0 0 0 false [.ref (B + 118), .int below, .int name, .int isEscape, .int v] 132 em_R M (some (.int (et_X12_bound M below name isEscape v).1)) 132 em_R ((et_X12_bound M below name isEscape v).2) := by
  refine em_C_of RX12 [(0, .ref (B + 118)), (1, .int below), (2, .int name), (3, .int isEscape), (4, .int v)] (by decide) rfl rfl (Nat.le_of_ble_eq_true rfl) ?_
  rintro X rfl rfl rfl hRm hnL hnm hsz hX hQ
  obtain ⟨t0, hT⟩ : ∃ tz, et_X12_bound M below name isEscape v = tz := ⟨_, rfl⟩
  rw [hT] at hQ
  rw [es_X12_bound] at hs
  refine ez_aload_n hX 0 dX12_bound_0 rfl ?_
  refine ez_getr hX kc_118 rfl (Nat.le_of_ble_eq_true rfl) lc_118 (Nat.le_of_ble_eq_true rfl) inX12 119 rfl rc_118_0 wf_X12_11 dX12_bound_1 ?_
  refine ez_bipush hX (22 : Int32) dX12_bound_4 (by decide) ?_
  refine ez_iald hX kc_119 lc_119 (by unfold vp_in; decide) dX12_bound_6 ?_
  refine ez_istore hX [(5, .int (M.1 119 ((22 : Int32)).toNatClampNeg)), (0, .ref (ez_B X + 118)), (1, .int below), (2, .int name), (3, .int isEscape), (4, .int v)] dX12_bound_7 (ez_lt hnL rfl) rfl ?_
  refine ez_sipush hX (2680 : Int32) dX12_bound_9 (by decide) ?_
  refine ez_iconst hX (4 : Int32) dX12_bound_12 (by decide) ?_
  refine ez_iload hX 0 dX12_bound_13 rfl ?_
  refine ez_imul hX dX12_bound_15 ?_
  refine ez_iadd hX dX12_bound_16 ?_
  refine ez_istore hX [(6, .int ((2680 : Int32) + ((4 : Int32) * (M.1 119 ((22 : Int32)).toNatClampNeg)))), (5, .int (M.1 119 ((22 : Int32)).toNatClampNeg)), (0, .ref (ez_B X + 118)), (1, .int below), (2, .int name), (3, .int isEscape), (4, .int v)] dX12_bound_17 (ez_lt hnL rfl) rfl ?_
  refine ez_aload_n hX 2 dX12_bound_19 rfl ?_
  refine ez_getr hX kc_118 rfl (Nat.le_of_ble_eq_true rfl) lc_118 (Nat.le_of_ble_eq_true rfl) inX12 119 rfl rc_118_0 wf_X12_11 dX12_bound_20 ?_
  refine ez_iload hX 0 dX12_bound_23 rfl ?_
  refine ez_iload_n hX 4 dX12_bound_25 rfl ?_
  refine ez_iast hX kc_119 lc_119 hs.1 dX12_bound_26 ?_
  have hs := hs.2
  refine ez_nmM (fun M1 eM1 => ?_)
  have hs := hs M1 eM1
  refine ez_aload_n hX 2 dX12_bound_27 rfl ?_
  refine ez_getr hX kc_118 rfl (Nat.le_of_ble_eq_true rfl) lc_118 (Nat.le_of_ble_eq_true rfl) inX12 119 rfl rc_118_0 wf_X12_11 dX12_bound_28 ?_
  refine ez_iload hX 0 dX12_bound_31 rfl ?_
  refine ez_iconst hX (1 : Int32) dX12_bound_33 (by decide) ?_
  refine ez_iadd hX dX12_bound_34 ?_
  refine ez_iload_n hX 5 dX12_bound_35 rfl ?_
  refine ez_iast hX kc_119 lc_119 hs.1 dX12_bound_36 ?_
  have hs := hs.2
  refine ez_nmM (fun M2 eM2 => ?_)
  have hs := hs M2 eM2
  refine ez_aload_n hX 2 dX12_bound_37 rfl ?_
  refine ez_getr hX kc_118 rfl (Nat.le_of_ble_eq_true rfl) lc_118 (Nat.le_of_ble_eq_true rfl) inX12 119 rfl rc_118_0 wf_X12_11 dX12_bound_38 ?_
  refine ez_iload hX 0 dX12_bound_41 rfl ?_
  refine ez_iconst hX (2 : Int32) dX12_bound_43 (by decide) ?_
  refine ez_iadd hX dX12_bound_44 ?_
  refine ez_iload hX 6 dX12_bound_45 rfl ?_
  refine ez_iast hX kc_119 lc_119 hs.1 dX12_bound_47 ?_
  have hs := hs.2
  refine ez_nmM (fun M3 eM3 => ?_)
  have hs := hs M3 eM3
  refine ez_aload_n hX 2 dX12_bound_48 rfl ?_
  refine ez_getr hX kc_118 rfl (Nat.le_of_ble_eq_true rfl) lc_118 (Nat.le_of_ble_eq_true rfl) inX12 119 rfl rc_118_0 wf_X12_11 dX12_bound_49 ?_
  refine ez_iload hX 0 dX12_bound_52 rfl ?_
  refine ez_iconst hX (3 : Int32) dX12_bound_54 (by decide) ?_
  refine ez_iadd hX dX12_bound_55 ?_
  refine ez_iload_n hX 3 dX12_bound_56 rfl ?_
  refine ez_iast hX kc_119 lc_119 hs.1 dX12_bound_57 ?_
  have hs := hs.2
  refine ez_nmM (fun M4 eM4 => ?_)
  have hs := hs M4 eM4
  refine ez_aload_n hX 2 dX12_bound_58 rfl ?_
  refine ez_getr hX kc_118 rfl (Nat.le_of_ble_eq_true rfl) lc_118 (Nat.le_of_ble_eq_true rfl) inX12 119 rfl rc_118_0 wf_X12_11 dX12_bound_59 ?_
  refine ez_bipush hX (22 : Int32) dX12_bound_62 (by decide) ?_
  refine ez_iload hX 1 dX12_bound_64 rfl ?_
  refine ez_iconst hX (1 : Int32) dX12_bound_66 (by decide) ?_
  refine ez_iadd hX dX12_bound_67 ?_
  refine ez_iast hX kc_119 lc_119 (by unfold vp_in; decide) dX12_bound_68 ?_
  refine ez_nmM (fun M5 eM5 => ?_)
  have hs := hs M5 eM5
  refine ez_iload hX 1 dX12_bound_69 rfl ?_
  have ht : t0 = ((M.1 119 ((22 : Int32)).toNatClampNeg), M5) := hT.symm.trans (by simp only [et_X12_bound, eM1, eM2, eM3, eM4, eM5])
  subst ht
  exact ez_iret hX hQ dX12_bound_71 rfl rfl

def et_X12_found_2   : Nat → em_M → Int32 → Int32 → Int32
  | 0, _, _, _ => 0
  | fu + 1, M, name, s =>
  (if s < 0 then s else (if (M.1 119 (((2680 : Int32) + ((4 : Int32) * s))).toNatClampNeg) = name then s else et_X12_found_2 fu M name (M.1 119 ((((2680 : Int32) + ((4 : Int32) * s)) + (3 : Int32))).toNatClampNeg)))
def es_X12_found_2   : Nat → em_M → Int32 → Int32 → Prop
  | 0, _, _, _ => False
  | fu + 1, M, name, s =>
  ((s < 0) → (True)) ∧
  (¬ (s < 0) → (vp_in ((2680 : Int32) + ((4 : Int32) * s)) 5880 ∧ ((((M.1 119 (((2680 : Int32) + ((4 : Int32) * s))).toNatClampNeg) = name) → (True)) ∧
  (¬ ((M.1 119 (((2680 : Int32) + ((4 : Int32) * s))).toNatClampNeg) = name) → (vp_in (((2680 : Int32) + ((4 : Int32) * s)) + (3 : Int32)) 5880 ∧ (es_X12_found_2 fu M name (M.1 119 ((((2680 : Int32) + ((4 : Int32) * s)) + (3 : Int32))).toNatClampNeg)))))))
def et_X12_found  (M : em_M) (scope : Int32) (name : Int32) : Int32 :=
  et_X12_found_2 400 M name scope
def es_X12_found  (M : em_M) (scope : Int32) (name : Int32) : Prop :=
  es_X12_found_2 400 M name scope
set_option maxHeartbeats 4000000 in
set_option maxRecDepth 100000 in
theorem el_X12_found_2 (X : em_X)    (t0 : Int32) (hRm : ez_rm X = { frames := 0, cells := 0, slots := 0, locals := 0 }) (hnL : ez_nL X = 4) (hX : ez_ok X cX12_found RX12) (M : em_M) (hQ : ez_ret X (some .int) (some (.int t0)) 132 em_R (M) 0 0) : ∀ (fu : Nat) (name : Int32) (s : Int32), es_X12_found_2  fu M name s → et_X12_found_2  fu M name s = t0 → ez_Z X 132 em_R M 0 0 2 [(0, .ref (ez_B X + 118)), (2, .int name), (3, .int s)] [] := by
  intro fu
  induction fu with
  | zero =>
    intro name s hs hT
    exact False.elim hs
  | succ fu ih =>
    intro name s hs hT
    rw [es_X12_found_2] at hs
    refine ez_iload_n hX 2 dX12_found_2 rfl ?_
    refine ez_if_lt hX 40 dX12_found_3 (by decide) (fun c1 => ?_) (fun c1 => ?_)
    · -- c1 jump
      have hs := hs.1 c1
      refine ez_iload_n hX 2 dX12_found_40 rfl ?_
      have ht : t0 = s := hT.symm.trans (by simp only [et_X12_found_2, if_pos c1])
      subst ht
      exact ez_iret hX hQ dX12_found_41 rfl rfl
    · -- c1 on
      have hs := hs.2 c1
      refine ez_aload_n hX 0 dX12_found_6 rfl ?_
      refine ez_getr hX kc_118 rfl (Nat.le_of_ble_eq_true rfl) lc_118 (Nat.le_of_ble_eq_true rfl) inX12 119 rfl rc_118_0 wf_X12_11 dX12_found_7 ?_
      refine ez_sipush hX (2680 : Int32) dX12_found_10 (by decide) ?_
      refine ez_iconst hX (4 : Int32) dX12_found_13 (by decide) ?_
      refine ez_iload_n hX 2 dX12_found_14 rfl ?_
      refine ez_imul hX dX12_found_15 ?_
      refine ez_iadd hX dX12_found_16 ?_
      refine ez_iald hX kc_119 lc_119 hs.1 dX12_found_17 ?_
      have hs := hs.2
      refine ez_iload_n hX 1 dX12_found_18 rfl ?_
      refine ez_icmp_eq hX 40 dX12_found_19 (by decide) (fun c2 => ?_) (fun c2 => ?_)
      · -- c2 jump
        have hs := hs.1 c2
        refine ez_iload_n hX 2 dX12_found_40 rfl ?_
        have ht : t0 = s := hT.symm.trans (by simp only [et_X12_found_2, if_neg c1, if_pos c2])
        subst ht
        exact ez_iret hX hQ dX12_found_41 rfl rfl
      · -- c2 on
        have hs := hs.2 c2
        refine ez_aload_n hX 0 dX12_found_22 rfl ?_
        refine ez_getr hX kc_118 rfl (Nat.le_of_ble_eq_true rfl) lc_118 (Nat.le_of_ble_eq_true rfl) inX12 119 rfl rc_118_0 wf_X12_11 dX12_found_23 ?_
        refine ez_sipush hX (2680 : Int32) dX12_found_26 (by decide) ?_
        refine ez_iconst hX (4 : Int32) dX12_found_29 (by decide) ?_
        refine ez_iload_n hX 2 dX12_found_30 rfl ?_
        refine ez_imul hX dX12_found_31 ?_
        refine ez_iadd hX dX12_found_32 ?_
        refine ez_iconst hX (3 : Int32) dX12_found_33 (by decide) ?_
        refine ez_iadd hX dX12_found_34 ?_
        refine ez_iald hX kc_119 lc_119 hs.1 dX12_found_35 ?_
        have hs := hs.2
        refine ez_istore_n hX [(3, .int (M.1 119 ((((2680 : Int32) + ((4 : Int32) * s)) + (3 : Int32))).toNatClampNeg)), (0, .ref (ez_B X + 118)), (2, .int name)] dX12_found_36 (ez_lt hnL rfl) rfl ?_
        refine ez_goto hX 2 dX12_found_37 (by decide) ?_
        refine ez_lv [1, 2, 0] rfl ?_
        exact ih name (M.1 119 ((((2680 : Int32) + ((4 : Int32) * s)) + (3 : Int32))).toNatClampNeg) hs (Eq.trans (by simp only [et_X12_found_2, if_neg c1, if_neg c2]) hT)
set_option maxHeartbeats 4000000 in
set_option maxRecDepth 100000 in
theorem ec_X12_found (l : Launch) (D : em_G) (B : Nat) (M : em_M) (scope : Int32) (name : Int32) (hs : es_X12_found M scope name) : em_C l D B yX12_found cX12_found 4 (some .int) 0 0 0 0 false [.ref (B + 118), .int scope, .int name] 132 em_R M (some (.int (et_X12_found M scope name))) 132 em_R (M) := by
  refine em_C_of RX12 [(0, .ref (B + 118)), (1, .int scope), (2, .int name)] (by decide) rfl rfl (Nat.le_of_ble_eq_true rfl) ?_
  rintro X rfl rfl rfl hRm hnL hnm hsz hX hQ
  obtain ⟨t0, hT⟩ : ∃ tz, et_X12_found M scope name = tz := ⟨_, rfl⟩
  rw [hT] at hQ
  rw [es_X12_found] at hs
  refine ez_iload_n hX 1 dX12_found_0 rfl ?_
  refine ez_istore_n hX [(3, .int scope), (0, .ref (ez_B X + 118)), (1, .int scope), (2, .int name)] dX12_found_1 (ez_lt hnL rfl) rfl ?_
  refine ez_lv [1, 3, 0] rfl ?_
  exact el_X12_found_2 X  t0 hRm hnL hX M hQ 400 name scope hs (Eq.trans (by simp only [et_X12_found]) hT)

def et_X12_frameOf  (M : em_M) (c : Int32) : Int32 :=
  (if c = (33 : Int32) then (7 : Int32)
  else (if c = (37 : Int32) then (9 : Int32)
  else (if c = (58 : Int32) then (8 : Int32)
  else (if c = (61 : Int32) then (3 : Int32)
  else (if c = (63 : Int32) then (2 : Int32)
  else (if c = (94 : Int32) then (6 : Int32)
  else let r7 := et_X12_isCall M c
  (if r7 = 0 then (0 : Int32) else (5 : Int32))))))))
set_option maxHeartbeats 4000000 in
set_option maxRecDepth 100000 in
theorem ec_X12_frameOf (l : Launch) (D : em_G) (B : Nat) (M : em_M) (c : Int32) : em_C l D B yX12_frameOf cX12_frameOf 1 (some .int) 1 20 0 0 false [.int c] 132 em_R M (some (.int (et_X12_frameOf M c))) 132 em_R (M) := by
  refine em_C_of RX12 [(0, .int c)] (by decide) rfl rfl (Nat.le_of_ble_eq_true rfl) ?_
  rintro X rfl rfl rfl hRm hnL hnm hsz hX hQ
  obtain ⟨t0, hT⟩ : ∃ tz, et_X12_frameOf M c = tz := ⟨_, rfl⟩
  rw [hT] at hQ
  refine ez_iload_n hX 0 dX12_frameOf_0 rfl ?_
  by_cases c1 : c = (33 : Int32)
  · have cx : (c).toInt = 33 := by rw [c1]; rfl
    refine ez_ls hX (66) 67 dX12_frameOf_1 (by decide) (by rw [cx]; rfl) (by decide) ?_
    refine ez_bipush hX (7 : Int32) dX12_frameOf_67 (by decide) ?_
    have ht : t0 = (7 : Int32) := hT.symm.trans (by simp only [et_X12_frameOf, if_pos c1])
    subst ht
    exact ez_iret hX hQ dX12_frameOf_69 rfl rfl
  · skip
    by_cases c2 : c = (37 : Int32)
    · have cx : (c).toInt = 37 := by rw [c2]; rfl
      refine ez_ls hX (72) 73 dX12_frameOf_1 (by decide) (by rw [cx]; rfl) (by decide) ?_
      refine ez_bipush hX (9 : Int32) dX12_frameOf_73 (by decide) ?_
      have ht : t0 = (9 : Int32) := hT.symm.trans (by simp only [et_X12_frameOf, if_neg c1, if_pos c2])
      subst ht
      exact ez_iret hX hQ dX12_frameOf_75 rfl rfl
    · skip
      by_cases c3 : c = (58 : Int32)
      · have cx : (c).toInt = 58 := by rw [c3]; rfl
        refine ez_ls hX (69) 70 dX12_frameOf_1 (by decide) (by rw [cx]; rfl) (by decide) ?_
        refine ez_bipush hX (8 : Int32) dX12_frameOf_70 (by decide) ?_
        have ht : t0 = (8 : Int32) := hT.symm.trans (by simp only [et_X12_frameOf, if_neg c1, if_neg c2, if_pos c3])
        subst ht
        exact ez_iret hX hQ dX12_frameOf_72 rfl rfl
      · skip
        by_cases c4 : c = (61 : Int32)
        · have cx : (c).toInt = 61 := by rw [c4]; rfl
          refine ez_ls hX (61) 62 dX12_frameOf_1 (by decide) (by rw [cx]; rfl) (by decide) ?_
          refine ez_iconst hX (3 : Int32) dX12_frameOf_62 (by decide) ?_
          have ht : t0 = (3 : Int32) := hT.symm.trans (by simp only [et_X12_frameOf, if_neg c1, if_neg c2, if_neg c3, if_pos c4])
          subst ht
          exact ez_iret hX hQ dX12_frameOf_63 rfl rfl
        · skip
          by_cases c5 : c = (63 : Int32)
          · have cx : (c).toInt = 63 := by rw [c5]; rfl
            refine ez_ls hX (59) 60 dX12_frameOf_1 (by decide) (by rw [cx]; rfl) (by decide) ?_
            refine ez_iconst hX (2 : Int32) dX12_frameOf_60 (by decide) ?_
            have ht : t0 = (2 : Int32) := hT.symm.trans (by simp only [et_X12_frameOf, if_neg c1, if_neg c2, if_neg c3, if_neg c4, if_pos c5])
            subst ht
            exact ez_iret hX hQ dX12_frameOf_61 rfl rfl
          · skip
            by_cases c6 : c = (94 : Int32)
            · have cx : (c).toInt = 94 := by rw [c6]; rfl
              refine ez_ls hX (63) 64 dX12_frameOf_1 (by decide) (by rw [cx]; rfl) (by decide) ?_
              refine ez_bipush hX (6 : Int32) dX12_frameOf_64 (by decide) ?_
              have ht : t0 = (6 : Int32) := hT.symm.trans (by simp only [et_X12_frameOf, if_neg c1, if_neg c2, if_neg c3, if_neg c4, if_neg c5, if_pos c6])
              subst ht
              exact ez_iret hX hQ dX12_frameOf_66 rfl rfl
            · skip
              refine ez_lsD hX 76 dX12_frameOf_1 (by decide) (List.forall_mem_cons.mpr ⟨lv_neT c1 rfl, (List.forall_mem_cons.mpr ⟨lv_neT c2 rfl, (List.forall_mem_cons.mpr ⟨lv_neT c3 rfl, (List.forall_mem_cons.mpr ⟨lv_neT c4 rfl, (List.forall_mem_cons.mpr ⟨lv_neT c5 rfl, (List.forall_mem_cons.mpr ⟨lv_neT c6 rfl, (fun _ h => absurd h List.not_mem_nil)⟩)⟩)⟩)⟩)⟩)⟩) (by decide) ?_
              refine ez_iload_n hX 0 dX12_frameOf_76 rfl ?_
              refine ez_callS hX (N0 := 0) (As := [.int c]) (st := []) (ec_X12_isCall _ _ _ M c) (Or.inl rfl) wm_X12_118 ws_X12_isCall wy_X12_isCall rfl wd_X12_isCall wi_X12 (ez_rok hRm rfl) (Nat.le_of_ble_eq_true rfl) dX12_frameOf_77 ?_
              refine ez_nmI (fun r7 er7 => ?_)
              refine ez_if_eq hX 87 dX12_frameOf_80 (by decide) (fun c8 => ?_) (fun c8 => ?_)
              · -- c8 jump
                refine ez_iconst hX (0 : Int32) dX12_frameOf_87 (by decide) ?_
                have ht : t0 = (0 : Int32) := hT.symm.trans (by simp only [et_X12_frameOf, if_neg c1, if_neg c2, if_neg c3, if_neg c4, if_neg c5, if_neg c6, er7, if_pos c8])
                subst ht
                exact ez_iret hX hQ dX12_frameOf_88 rfl rfl
              · -- c8 on
                refine ez_iconst hX (5 : Int32) dX12_frameOf_83 (by decide) ?_
                refine ez_goto hX 88 dX12_frameOf_84 (by decide) ?_
                have ht : t0 = (5 : Int32) := hT.symm.trans (by simp only [et_X12_frameOf, if_neg c1, if_neg c2, if_neg c3, if_neg c4, if_neg c5, if_neg c6, er7, if_neg c8])
                subst ht
                exact ez_iret hX hQ dX12_frameOf_88 rfl rfl

def et_X12_made  (M : em_M) (sign : Int32) (a : Int32) (b : Int32) : Int32 :=
  (if sign = (42 : Int32) then (a * b)
  else (if sign = (43 : Int32) then (a + b)
  else (if sign = (45 : Int32) then (a - b)
  else (if b ≤ a then (0 : Int32) else (1 : Int32)))))
set_option maxHeartbeats 4000000 in
set_option maxRecDepth 100000 in
theorem ec_X12_made (l : Launch) (D : em_G) (B : Nat) (M : em_M) (sign : Int32) (a : Int32) (b : Int32) : em_C l D B yX12_made cX12_made 3 (some .int) 0 0 0 0 false [.int sign, .int a, .int b] 132 em_R M (some (.int (et_X12_made M sign a b))) 132 em_R (M) := by
  refine em_C_of RX12 [(0, .int sign), (1, .int a), (2, .int b)] (by decide) rfl rfl (Nat.le_of_ble_eq_true rfl) ?_
  rintro X rfl rfl rfl hRm hnL hnm hsz hX hQ
  obtain ⟨t0, hT⟩ : ∃ tz, et_X12_made M sign a b = tz := ⟨_, rfl⟩
  rw [hT] at hQ
  refine ez_iload_n hX 0 dX12_made_0 rfl ?_
  by_cases c1 : sign = (42 : Int32)
  · have cx : (sign).toInt = 42 := by rw [c1]; rfl
    refine ez_tsIn hX (42) (39) 40 dX12_made_1 cx ⟨by decide, by decide, rfl, by decide⟩ ?_
    refine ez_iload_n hX 1 dX12_made_40 rfl ?_
    refine ez_iload_n hX 2 dX12_made_41 rfl ?_
    refine ez_imul hX dX12_made_42 ?_
    have ht : t0 = (a * b) := hT.symm.trans (by simp only [et_X12_made, if_pos c1])
    subst ht
    exact ez_iret hX hQ dX12_made_43 rfl rfl
  · skip
    by_cases c2 : sign = (43 : Int32)
    · have cx : (sign).toInt = 43 := by rw [c2]; rfl
      refine ez_tsIn hX (43) (31) 32 dX12_made_1 cx ⟨by decide, by decide, rfl, by decide⟩ ?_
      refine ez_iload_n hX 1 dX12_made_32 rfl ?_
      refine ez_iload_n hX 2 dX12_made_33 rfl ?_
      refine ez_iadd hX dX12_made_34 ?_
      have ht : t0 = (a + b) := hT.symm.trans (by simp only [et_X12_made, if_neg c1, if_pos c2])
      subst ht
      exact ez_iret hX hQ dX12_made_35 rfl rfl
    · skip
      by_cases c3 : sign = (45 : Int32)
      · have cx : (sign).toInt = 45 := by rw [c3]; rfl
        refine ez_tsIn hX (45) (35) 36 dX12_made_1 cx ⟨by decide, by decide, rfl, by decide⟩ ?_
        refine ez_iload_n hX 1 dX12_made_36 rfl ?_
        refine ez_iload_n hX 2 dX12_made_37 rfl ?_
        refine ez_isub hX dX12_made_38 ?_
        have ht : t0 = (a - b) := hT.symm.trans (by simp only [et_X12_made, if_neg c1, if_neg c2, if_pos c3])
        subst ht
        exact ez_iret hX hQ dX12_made_39 rfl rfl
      · skip
        refine ez_tsD hX [42, 43, 45] 44 dX12_made_1 (List.forall_mem_cons.mpr ⟨lv_neT c1 rfl, (List.forall_mem_cons.mpr ⟨lv_neT c2 rfl, (List.forall_mem_cons.mpr ⟨lv_neT c3 rfl, (fun _ h => absurd h List.not_mem_nil)⟩)⟩)⟩) (by decide +kernel) (by decide) ?_
        refine ez_iload_n hX 1 dX12_made_44 rfl ?_
        refine ez_iload_n hX 2 dX12_made_45 rfl ?_
        refine ez_icmp_ge hX 53 dX12_made_46 (by decide) (fun c4 => ?_) (fun c4 => ?_)
        · -- c4 jump
          refine ez_iconst hX (0 : Int32) dX12_made_53 (by decide) ?_
          have ht : t0 = (0 : Int32) := hT.symm.trans (by simp only [et_X12_made, if_neg c1, if_neg c2, if_neg c3, if_pos c4])
          subst ht
          exact ez_iret hX hQ dX12_made_54 rfl rfl
        · -- c4 on
          refine ez_iconst hX (1 : Int32) dX12_made_49 (by decide) ?_
          refine ez_goto hX 54 dX12_made_50 (by decide) ?_
          have ht : t0 = (1 : Int32) := hT.symm.trans (by simp only [et_X12_made, if_neg c1, if_neg c2, if_neg c3, if_neg c4])
          subst ht
          exact ez_iret hX hQ dX12_made_54 rfl rfl

def et_X12_worksOn  (M : em_M) : em_M :=
  (if (M.1 122 ((M.1 119 ((14 : Int32)).toNatClampNeg)).toNatClampNeg) = (97 : Int32) then let r2 := et_X12_found M (M.1 119 ((16 : Int32)).toNatClampNeg) (M.1 123 ((M.1 119 ((14 : Int32)).toNatClampNeg)).toNatClampNeg)
  (if r2 < 0 then let M4 := et_X12_gives M (0 : Int32) (M.1 119 (((0 : Int32) + (M.1 123 ((M.1 119 ((14 : Int32)).toNatClampNeg)).toNatClampNeg))).toNatClampNeg)
  M4 else (if (M.1 119 ((((2680 : Int32) + ((4 : Int32) * r2)) + (1 : Int32))).toNatClampNeg) = (1 : Int32) then let M7 := et_X12_gives M (1 : Int32) (M.1 119 ((((2680 : Int32) + ((4 : Int32) * r2)) + (2 : Int32))).toNatClampNeg)
  M7 else let M6 := et_X12_gives M (0 : Int32) (M.1 119 ((((2680 : Int32) + ((4 : Int32) * r2)) + (2 : Int32))).toNatClampNeg)
  M6)) else (if (M.1 122 ((M.1 119 ((14 : Int32)).toNatClampNeg)).toNatClampNeg) = (94 : Int32) then let r33 := et_X12_found M (M.1 119 ((16 : Int32)).toNatClampNeg) (M.1 123 ((M.1 119 ((14 : Int32)).toNatClampNeg)).toNatClampNeg)
  (if r33 < 0 then let M35 := et_X12_stands M (2 : Int32)
  M35 else (if (M.1 119 ((((2680 : Int32) + ((4 : Int32) * r33)) + (1 : Int32))).toNatClampNeg) = (1 : Int32) then let r38 := et_X12_frameOf M (M.1 122 ((M.1 119 ((14 : Int32)).toNatClampNeg)).toNatClampNeg)
  let q41 := et_X12_comes M (M.1 119 ((17 : Int32)).toNatClampNeg) r38 (M.1 119 ((14 : Int32)).toNatClampNeg) (M.1 119 ((16 : Int32)).toNatClampNeg) (0 : Int32) (0 : Int32) (M.1 119 ((((2680 : Int32) + ((4 : Int32) * r33)) + (2 : Int32))).toNatClampNeg)
  let r39 := q41.1
  let M40 := q41.2
  (if r39 = 0 then M40 else let M43 := et_X12_works M40 (M40.1 125 (((5 : Int32) * (M.1 119 ((14 : Int32)).toNatClampNeg))).toNatClampNeg) (0 : Int32) (M.1 119 ((16 : Int32)).toNatClampNeg)
  M43) else let M37 := et_X12_stands M (2 : Int32)
  M37)) else (if (M.1 122 ((M.1 119 ((14 : Int32)).toNatClampNeg)).toNatClampNeg) = (48 : Int32) then let M32 := et_X12_gives M (0 : Int32) (M.1 123 ((M.1 119 ((14 : Int32)).toNatClampNeg)).toNatClampNeg)
  M32 else (if (M.1 122 ((M.1 119 ((14 : Int32)).toNatClampNeg)).toNatClampNeg) = (91 : Int32) then (if (M.1 119 ((15 : Int32)).toNatClampNeg) = ((M.1 124 ((M.1 119 ((14 : Int32)).toNatClampNeg)).toNatClampNeg) - (1 : Int32)) then let M26 := et_X12_works M (M.1 125 ((((5 : Int32) * (M.1 119 ((14 : Int32)).toNatClampNeg)) + (M.1 119 ((15 : Int32)).toNatClampNeg))).toNatClampNeg) (0 : Int32) (M.1 119 ((16 : Int32)).toNatClampNeg)
  M26 else let q29 := et_X12_comes M (M.1 119 ((17 : Int32)).toNatClampNeg) (4 : Int32) (M.1 119 ((14 : Int32)).toNatClampNeg) (M.1 119 ((16 : Int32)).toNatClampNeg) (0 : Int32) (0 : Int32) ((M.1 119 ((15 : Int32)).toNatClampNeg) + (1 : Int32))
  let r27 := q29.1
  let M28 := q29.2
  (if r27 = 0 then M28 else let M31 := et_X12_works M28 (M28.1 125 ((((5 : Int32) * (M.1 119 ((14 : Int32)).toNatClampNeg)) + (M.1 119 ((15 : Int32)).toNatClampNeg))).toNatClampNeg) (0 : Int32) (M.1 119 ((16 : Int32)).toNatClampNeg)
  M31)) else (if (M.1 122 ((M.1 119 ((14 : Int32)).toNatClampNeg)).toNatClampNeg) = (64 : Int32) then let M18 := em_pI M 119 (((5240 : Int32) + ((2 : Int32) * (M.1 119 ((24 : Int32)).toNatClampNeg)))).toNatClampNeg (M.1 119 ((17 : Int32)).toNatClampNeg)
  let M19 := em_pI M18 119 ((((5240 : Int32) + ((2 : Int32) * (M.1 119 ((24 : Int32)).toNatClampNeg))) + (1 : Int32))).toNatClampNeg (M18.1 119 ((18 : Int32)).toNatClampNeg)
  let M20 := em_pI M19 119 ((24 : Int32)).toNatClampNeg ((M.1 119 ((24 : Int32)).toNatClampNeg) + (1 : Int32))
  let q23 := et_X12_bound M20 (M.1 119 ((16 : Int32)).toNatClampNeg) (M.1 123 ((M.1 119 ((14 : Int32)).toNatClampNeg)).toNatClampNeg) (1 : Int32) (M.1 119 ((24 : Int32)).toNatClampNeg)
  let r21 := q23.1
  let M22 := q23.2
  let M24 := et_X12_works M22 (M20.1 125 (((5 : Int32) * (M.1 119 ((14 : Int32)).toNatClampNeg))).toNatClampNeg) (0 : Int32) r21
  M24 else let r12 := et_X12_frameOf M (M.1 122 ((M.1 119 ((14 : Int32)).toNatClampNeg)).toNatClampNeg)
  let q15 := et_X12_comes M (M.1 119 ((17 : Int32)).toNatClampNeg) r12 (M.1 119 ((14 : Int32)).toNatClampNeg) (M.1 119 ((16 : Int32)).toNatClampNeg) (0 : Int32) (0 : Int32) (0 : Int32)
  let r13 := q15.1
  let M14 := q15.2
  (if r13 = 0 then M14 else let M17 := et_X12_works M14 (M14.1 125 (((5 : Int32) * (M.1 119 ((14 : Int32)).toNatClampNeg))).toNatClampNeg) (0 : Int32) (M.1 119 ((16 : Int32)).toNatClampNeg)
  M17))))))
def es_X12_worksOn  (M : em_M) : Prop :=
  vp_in (M.1 119 ((14 : Int32)).toNatClampNeg) 808 ∧ (vp_in (M.1 119 ((14 : Int32)).toNatClampNeg) 808 ∧ ((((M.1 122 ((M.1 119 ((14 : Int32)).toNatClampNeg)).toNatClampNeg) = (97 : Int32)) → (es_X12_found M (M.1 119 ((16 : Int32)).toNatClampNeg) (M.1 123 ((M.1 119 ((14 : Int32)).toNatClampNeg)).toNatClampNeg) ∧ (∀ r2 : Int32, et_X12_found M (M.1 119 ((16 : Int32)).toNatClampNeg) (M.1 123 ((M.1 119 ((14 : Int32)).toNatClampNeg)).toNatClampNeg) = r2 → (
  ((r2 < 0) → (vp_in ((0 : Int32) + (M.1 123 ((M.1 119 ((14 : Int32)).toNatClampNeg)).toNatClampNeg)) 5880 ∧ (∀ M4 : em_M, et_X12_gives M (0 : Int32) (M.1 119 (((0 : Int32) + (M.1 123 ((M.1 119 ((14 : Int32)).toNatClampNeg)).toNatClampNeg))).toNatClampNeg) = M4 → (
  True)))) ∧
  (¬ (r2 < 0) → (vp_in (((2680 : Int32) + ((4 : Int32) * r2)) + (1 : Int32)) 5880 ∧ ((((M.1 119 ((((2680 : Int32) + ((4 : Int32) * r2)) + (1 : Int32))).toNatClampNeg) = (1 : Int32)) → (vp_in (((2680 : Int32) + ((4 : Int32) * r2)) + (2 : Int32)) 5880 ∧ (∀ M7 : em_M, et_X12_gives M (1 : Int32) (M.1 119 ((((2680 : Int32) + ((4 : Int32) * r2)) + (2 : Int32))).toNatClampNeg) = M7 → (
  True)))) ∧
  (¬ ((M.1 119 ((((2680 : Int32) + ((4 : Int32) * r2)) + (1 : Int32))).toNatClampNeg) = (1 : Int32)) → (vp_in (((2680 : Int32) + ((4 : Int32) * r2)) + (2 : Int32)) 5880 ∧ (∀ M6 : em_M, et_X12_gives M (0 : Int32) (M.1 119 ((((2680 : Int32) + ((4 : Int32) * r2)) + (2 : Int32))).toNatClampNeg) = M6 → (
  True))))))))))) ∧
  (¬ ((M.1 122 ((M.1 119 ((14 : Int32)).toNatClampNeg)).toNatClampNeg) = (97 : Int32)) → ((((M.1 122 ((M.1 119 ((14 : Int32)).toNatClampNeg)).toNatClampNeg) = (94 : Int32)) → (es_X12_found M (M.1 119 ((16 : Int32)).toNatClampNeg) (M.1 123 ((M.1 119 ((14 : Int32)).toNatClampNeg)).toNatClampNeg) ∧ (∀ r33 : Int32, et_X12_found M (M.1 119 ((16 : Int32)).toNatClampNeg) (M.1 123 ((M.1 119 ((14 : Int32)).toNatClampNeg)).toNatClampNeg) = r33 → (
  ((r33 < 0) → (∀ M35 : em_M, et_X12_stands M (2 : Int32) = M35 → (
  True))) ∧
  (¬ (r33 < 0) → (vp_in (((2680 : Int32) + ((4 : Int32) * r33)) + (1 : Int32)) 5880 ∧ ((((M.1 119 ((((2680 : Int32) + ((4 : Int32) * r33)) + (1 : Int32))).toNatClampNeg) = (1 : Int32)) → (∀ r38 : Int32, et_X12_frameOf M (M.1 122 ((M.1 119 ((14 : Int32)).toNatClampNeg)).toNatClampNeg) = r38 → (
  vp_in (((2680 : Int32) + ((4 : Int32) * r33)) + (2 : Int32)) 5880 ∧ (es_X12_comes M (M.1 119 ((17 : Int32)).toNatClampNeg) r38 (M.1 119 ((14 : Int32)).toNatClampNeg) (M.1 119 ((16 : Int32)).toNatClampNeg) (0 : Int32) (0 : Int32) (M.1 119 ((((2680 : Int32) + ((4 : Int32) * r33)) + (2 : Int32))).toNatClampNeg) ∧ (∀ (r39 : Int32) (M40 : em_M), et_X12_comes M (M.1 119 ((17 : Int32)).toNatClampNeg) r38 (M.1 119 ((14 : Int32)).toNatClampNeg) (M.1 119 ((16 : Int32)).toNatClampNeg) (0 : Int32) (0 : Int32) (M.1 119 ((((2680 : Int32) + ((4 : Int32) * r33)) + (2 : Int32))).toNatClampNeg) = (r39, M40) → (
  ((r39 = 0) → (True)) ∧
  (¬ (r39 = 0) → (vp_in ((5 : Int32) * (M.1 119 ((14 : Int32)).toNatClampNeg)) 4040 ∧ (∀ M43 : em_M, et_X12_works M40 (M40.1 125 (((5 : Int32) * (M.1 119 ((14 : Int32)).toNatClampNeg))).toNatClampNeg) (0 : Int32) (M.1 119 ((16 : Int32)).toNatClampNeg) = M43 → (
  True)))))))))) ∧
  (¬ ((M.1 119 ((((2680 : Int32) + ((4 : Int32) * r33)) + (1 : Int32))).toNatClampNeg) = (1 : Int32)) → (∀ M37 : em_M, et_X12_stands M (2 : Int32) = M37 → (
  True)))))))))) ∧
  (¬ ((M.1 122 ((M.1 119 ((14 : Int32)).toNatClampNeg)).toNatClampNeg) = (94 : Int32)) → ((((M.1 122 ((M.1 119 ((14 : Int32)).toNatClampNeg)).toNatClampNeg) = (48 : Int32)) → (∀ M32 : em_M, et_X12_gives M (0 : Int32) (M.1 123 ((M.1 119 ((14 : Int32)).toNatClampNeg)).toNatClampNeg) = M32 → (
  True))) ∧
  (¬ ((M.1 122 ((M.1 119 ((14 : Int32)).toNatClampNeg)).toNatClampNeg) = (48 : Int32)) → ((((M.1 122 ((M.1 119 ((14 : Int32)).toNatClampNeg)).toNatClampNeg) = (91 : Int32)) → (vp_in (M.1 119 ((14 : Int32)).toNatClampNeg) 808 ∧ ((((M.1 119 ((15 : Int32)).toNatClampNeg) = ((M.1 124 ((M.1 119 ((14 : Int32)).toNatClampNeg)).toNatClampNeg) - (1 : Int32))) → (vp_in (((5 : Int32) * (M.1 119 ((14 : Int32)).toNatClampNeg)) + (M.1 119 ((15 : Int32)).toNatClampNeg)) 4040 ∧ (∀ M26 : em_M, et_X12_works M (M.1 125 ((((5 : Int32) * (M.1 119 ((14 : Int32)).toNatClampNeg)) + (M.1 119 ((15 : Int32)).toNatClampNeg))).toNatClampNeg) (0 : Int32) (M.1 119 ((16 : Int32)).toNatClampNeg) = M26 → (
  True)))) ∧
  (¬ ((M.1 119 ((15 : Int32)).toNatClampNeg) = ((M.1 124 ((M.1 119 ((14 : Int32)).toNatClampNeg)).toNatClampNeg) - (1 : Int32))) → (es_X12_comes M (M.1 119 ((17 : Int32)).toNatClampNeg) (4 : Int32) (M.1 119 ((14 : Int32)).toNatClampNeg) (M.1 119 ((16 : Int32)).toNatClampNeg) (0 : Int32) (0 : Int32) ((M.1 119 ((15 : Int32)).toNatClampNeg) + (1 : Int32)) ∧ (∀ (r27 : Int32) (M28 : em_M), et_X12_comes M (M.1 119 ((17 : Int32)).toNatClampNeg) (4 : Int32) (M.1 119 ((14 : Int32)).toNatClampNeg) (M.1 119 ((16 : Int32)).toNatClampNeg) (0 : Int32) (0 : Int32) ((M.1 119 ((15 : Int32)).toNatClampNeg) + (1 : Int32)) = (r27, M28) → (
  ((r27 = 0) → (True)) ∧
  (¬ (r27 = 0) → (vp_in (((5 : Int32) * (M.1 119 ((14 : Int32)).toNatClampNeg)) + (M.1 119 ((15 : Int32)).toNatClampNeg)) 4040 ∧ (∀ M31 : em_M, et_X12_works M28 (M28.1 125 ((((5 : Int32) * (M.1 119 ((14 : Int32)).toNatClampNeg)) + (M.1 119 ((15 : Int32)).toNatClampNeg))).toNatClampNeg) (0 : Int32) (M.1 119 ((16 : Int32)).toNatClampNeg) = M31 → (
  True))))))))))) ∧
  (¬ ((M.1 122 ((M.1 119 ((14 : Int32)).toNatClampNeg)).toNatClampNeg) = (91 : Int32)) → ((((M.1 122 ((M.1 119 ((14 : Int32)).toNatClampNeg)).toNatClampNeg) = (64 : Int32)) → (vp_in ((5240 : Int32) + ((2 : Int32) * (M.1 119 ((24 : Int32)).toNatClampNeg))) 5880 ∧ (∀ M18 : em_M, em_pI M 119 (((5240 : Int32) + ((2 : Int32) * (M.1 119 ((24 : Int32)).toNatClampNeg)))).toNatClampNeg (M.1 119 ((17 : Int32)).toNatClampNeg) = M18 → (
  vp_in (((5240 : Int32) + ((2 : Int32) * (M.1 119 ((24 : Int32)).toNatClampNeg))) + (1 : Int32)) 5880 ∧ (∀ M19 : em_M, em_pI M18 119 ((((5240 : Int32) + ((2 : Int32) * (M.1 119 ((24 : Int32)).toNatClampNeg))) + (1 : Int32))).toNatClampNeg (M18.1 119 ((18 : Int32)).toNatClampNeg) = M19 → (
  ∀ M20 : em_M, em_pI M19 119 ((24 : Int32)).toNatClampNeg ((M.1 119 ((24 : Int32)).toNatClampNeg) + (1 : Int32)) = M20 → (
  vp_in ((5 : Int32) * (M.1 119 ((14 : Int32)).toNatClampNeg)) 4040 ∧ (es_X12_bound M20 (M.1 119 ((16 : Int32)).toNatClampNeg) (M.1 123 ((M.1 119 ((14 : Int32)).toNatClampNeg)).toNatClampNeg) (1 : Int32) (M.1 119 ((24 : Int32)).toNatClampNeg) ∧ (∀ (r21 : Int32) (M22 : em_M), et_X12_bound M20 (M.1 119 ((16 : Int32)).toNatClampNeg) (M.1 123 ((M.1 119 ((14 : Int32)).toNatClampNeg)).toNatClampNeg) (1 : Int32) (M.1 119 ((24 : Int32)).toNatClampNeg) = (r21, M22) → (
  ∀ M24 : em_M, et_X12_works M22 (M20.1 125 (((5 : Int32) * (M.1 119 ((14 : Int32)).toNatClampNeg))).toNatClampNeg) (0 : Int32) r21 = M24 → (
  True))))))))))) ∧
  (¬ ((M.1 122 ((M.1 119 ((14 : Int32)).toNatClampNeg)).toNatClampNeg) = (64 : Int32)) → (∀ r12 : Int32, et_X12_frameOf M (M.1 122 ((M.1 119 ((14 : Int32)).toNatClampNeg)).toNatClampNeg) = r12 → (
  es_X12_comes M (M.1 119 ((17 : Int32)).toNatClampNeg) r12 (M.1 119 ((14 : Int32)).toNatClampNeg) (M.1 119 ((16 : Int32)).toNatClampNeg) (0 : Int32) (0 : Int32) (0 : Int32) ∧ (∀ (r13 : Int32) (M14 : em_M), et_X12_comes M (M.1 119 ((17 : Int32)).toNatClampNeg) r12 (M.1 119 ((14 : Int32)).toNatClampNeg) (M.1 119 ((16 : Int32)).toNatClampNeg) (0 : Int32) (0 : Int32) (0 : Int32) = (r13, M14) → (
  ((r13 = 0) → (True)) ∧
  (¬ (r13 = 0) → (vp_in ((5 : Int32) * (M.1 119 ((14 : Int32)).toNatClampNeg)) 4040 ∧ (∀ M17 : em_M, et_X12_works M14 (M14.1 125 (((5 : Int32) * (M.1 119 ((14 : Int32)).toNatClampNeg))).toNatClampNeg) (0 : Int32) (M.1 119 ((16 : Int32)).toNatClampNeg) = M17 → (
  True)))))))))))))))))))
set_option maxHeartbeats 4000000 in
set_option maxRecDepth 100000 in
theorem ec_X12_worksOn (l : Launch) (D : em_G) (B : Nat) (M : em_M) (hs : es_X12_worksOn M) : em_C l D B yX12_worksOn cX12_worksOn 8 none 2 50 0 0 false [.ref (B + 118)] 132 em_R M (none) 132 em_R ((et_X12_worksOn M)) := by
  refine em_C_of RX12 [(0, .ref (B + 118))] (by decide) rfl rfl (Nat.le_of_ble_eq_true rfl) ?_
  rintro X rfl rfl rfl hRm hnL hnm hsz hX hQ
  obtain ⟨t0, hT⟩ : ∃ tz, et_X12_worksOn M = tz := ⟨_, rfl⟩
  rw [hT] at hQ
  rw [es_X12_worksOn] at hs
  refine ez_aload_n hX 0 dX12_worksOn_0 rfl ?_
  refine ez_getr hX kc_118 rfl (Nat.le_of_ble_eq_true rfl) lc_118 (Nat.le_of_ble_eq_true rfl) inX12 119 rfl rc_118_0 wf_X12_11 dX12_worksOn_1 ?_
  refine ez_bipush hX (14 : Int32) dX12_worksOn_4 (by decide) ?_
  refine ez_iald hX kc_119 lc_119 (by unfold vp_in; decide) dX12_worksOn_6 ?_
  refine ez_istore_n hX [(1, .int (M.1 119 ((14 : Int32)).toNatClampNeg)), (0, .ref (ez_B X + 118))] dX12_worksOn_7 (ez_lt hnL rfl) rfl ?_
  refine ez_aload_n hX 1 dX12_worksOn_8 rfl ?_
  refine ez_getr hX kc_118 rfl (Nat.le_of_ble_eq_true rfl) lc_118 (Nat.le_of_ble_eq_true rfl) inX12 119 rfl rc_118_0 wf_X12_11 dX12_worksOn_9 ?_
  refine ez_bipush hX (16 : Int32) dX12_worksOn_12 (by decide) ?_
  refine ez_iald hX kc_119 lc_119 (by unfold vp_in; decide) dX12_worksOn_14 ?_
  refine ez_istore_n hX [(2, .int (M.1 119 ((16 : Int32)).toNatClampNeg)), (1, .int (M.1 119 ((14 : Int32)).toNatClampNeg)), (0, .ref (ez_B X + 118))] dX12_worksOn_15 (ez_lt hnL rfl) rfl ?_
  refine ez_aload_n hX 2 dX12_worksOn_16 rfl ?_
  refine ez_getr hX kc_118 rfl (Nat.le_of_ble_eq_true rfl) lc_118 (Nat.le_of_ble_eq_true rfl) inX12 122 rfl rc_118_4 wf_X12_21 dX12_worksOn_17 ?_
  refine ez_iload_n hX 1 dX12_worksOn_20 rfl ?_
  refine ez_iald hX kc_122 lc_122 hs.1 dX12_worksOn_21 ?_
  have hs := hs.2
  refine ez_istore_n hX [(3, .int (M.1 122 ((M.1 119 ((14 : Int32)).toNatClampNeg)).toNatClampNeg)), (2, .int (M.1 119 ((16 : Int32)).toNatClampNeg)), (1, .int (M.1 119 ((14 : Int32)).toNatClampNeg)), (0, .ref (ez_B X + 118))] dX12_worksOn_22 (ez_lt hnL rfl) rfl ?_
  refine ez_aload_n hX 3 dX12_worksOn_23 rfl ?_
  refine ez_getr hX kc_118 rfl (Nat.le_of_ble_eq_true rfl) lc_118 (Nat.le_of_ble_eq_true rfl) inX12 123 rfl rc_118_5 wf_X12_24 dX12_worksOn_24 ?_
  refine ez_iload_n hX 2 dX12_worksOn_27 rfl ?_
  refine ez_iald hX kc_123 lc_123 hs.1 dX12_worksOn_28 ?_
  have hs := hs.2
  refine ez_istore hX [(4, .int (M.1 123 ((M.1 119 ((14 : Int32)).toNatClampNeg)).toNatClampNeg)), (3, .int (M.1 122 ((M.1 119 ((14 : Int32)).toNatClampNeg)).toNatClampNeg)), (2, .int (M.1 119 ((16 : Int32)).toNatClampNeg)), (1, .int (M.1 119 ((14 : Int32)).toNatClampNeg)), (0, .ref (ez_B X + 118))] dX12_worksOn_29 (ez_lt hnL rfl) rfl ?_
  refine ez_iload_n hX 1 dX12_worksOn_31 rfl ?_
  refine ez_bipush hX (97 : Int32) dX12_worksOn_32 (by decide) ?_
  refine ez_icmp_eq hX 43 dX12_worksOn_34 (by decide) (fun c1 => ?_) (fun c1 => ?_)
  · -- c1 jump
    have hs := hs.1 c1
    refine ez_aload_n hX 4 dX12_worksOn_43 rfl ?_
    refine ez_iload_n hX 2 dX12_worksOn_44 rfl ?_
    refine ez_iload hX 0 dX12_worksOn_45 rfl ?_
    refine ez_callV hX (N0 := 0) (As := [.int (M.1 119 ((16 : Int32)).toNatClampNeg), .int (M.1 123 ((M.1 119 ((14 : Int32)).toNatClampNeg)).toNatClampNeg)]) (st := []) kc_118 (Nat.le_of_ble_eq_true rfl) lc_118 rfl (ec_X12_found _ _ _ M (M.1 119 ((16 : Int32)).toNatClampNeg) (M.1 123 ((M.1 119 ((14 : Int32)).toNatClampNeg)).toNatClampNeg) hs.1) (Or.inl rfl) wm_X12_143 wv_X12_found we_X12_found wy_X12_found rfl wd_X12_found wi_X12 (ez_rok hRm rfl) (Nat.le_of_ble_eq_true rfl) dX12_worksOn_47 ?_
    have hs := hs.2
    refine ez_nmI (fun r2 er2 => ?_)
    have hs := hs r2 er2
    refine ez_goto hX 54 dX12_worksOn_50 (by decide) ?_
    refine ez_istore hX [(5, .int r2), (4, .int (M.1 123 ((M.1 119 ((14 : Int32)).toNatClampNeg)).toNatClampNeg)), (3, .int (M.1 122 ((M.1 119 ((14 : Int32)).toNatClampNeg)).toNatClampNeg)), (2, .int (M.1 119 ((16 : Int32)).toNatClampNeg)), (1, .int (M.1 119 ((14 : Int32)).toNatClampNeg)), (0, .ref (ez_B X + 118))] dX12_worksOn_54 (ez_lt hnL rfl) rfl ?_
    refine ez_iload hX 0 dX12_worksOn_56 rfl ?_
    refine ez_if_lt hX 84 dX12_worksOn_58 (by decide) (fun c3 => ?_) (fun c3 => ?_)
    · -- c3 jump
      have hs := hs.1 c3
      refine ez_iconst hX (0 : Int32) dX12_worksOn_84 (by decide) ?_
      refine ez_istore hX [(6, .int (0 : Int32)), (5, .int r2), (4, .int (M.1 123 ((M.1 119 ((14 : Int32)).toNatClampNeg)).toNatClampNeg)), (3, .int (M.1 122 ((M.1 119 ((14 : Int32)).toNatClampNeg)).toNatClampNeg)), (2, .int (M.1 119 ((16 : Int32)).toNatClampNeg)), (1, .int (M.1 119 ((14 : Int32)).toNatClampNeg)), (0, .ref (ez_B X + 118))] dX12_worksOn_85 (ez_lt hnL rfl) rfl ?_
      refine ez_iload_n hX 3 dX12_worksOn_87 rfl ?_
      refine ez_bipush hX (48 : Int32) dX12_worksOn_88 (by decide) ?_
      refine ez_icmp_ne hX 103 dX12_worksOn_90 (by decide) (fun _ => ?_) (fun c => absurd c (by rw [c1] <;> decide))
      refine ez_iload_n hX 3 dX12_worksOn_103 rfl ?_
      refine ez_bipush hX (97 : Int32) dX12_worksOn_104 (by decide) ?_
      refine ez_icmp_ne hX 158 dX12_worksOn_106 (by decide) (fun c => absurd (by rw [c1] <;> decide) c) (fun _ => ?_)
      refine ez_aload_n hX 6 dX12_worksOn_109 rfl ?_
      refine ez_iload hX 0 dX12_worksOn_110 rfl ?_
      refine ez_if_eq hX 119 dX12_worksOn_112 (by decide) (fun _ => ?_) (fun c => absurd c (by decide))
      refine ez_iconst hX (0 : Int32) dX12_worksOn_119 (by decide) ?_
      refine ez_iload hX 1 dX12_worksOn_120 rfl ?_
      refine ez_if_lt hX 143 dX12_worksOn_122 (by decide) (fun _ => ?_) (fun c => absurd c3 c)
      refine ez_aload_n hX 6 dX12_worksOn_143 rfl ?_
      refine ez_getr hX kc_118 rfl (Nat.le_of_ble_eq_true rfl) lc_118 (Nat.le_of_ble_eq_true rfl) inX12 119 rfl rc_118_0 wf_X12_11 dX12_worksOn_144 ?_
      refine ez_iconst hX (0 : Int32) dX12_worksOn_147 (by decide) ?_
      refine ez_iload hX 2 dX12_worksOn_148 rfl ?_
      refine ez_iadd hX dX12_worksOn_150 ?_
      refine ez_iald hX kc_119 lc_119 hs.1 dX12_worksOn_151 ?_
      have hs := hs.2
      refine ez_callV hX (N0 := 0) (As := [.int (0 : Int32), .int (M.1 119 (((0 : Int32) + (M.1 123 ((M.1 119 ((14 : Int32)).toNatClampNeg)).toNatClampNeg))).toNatClampNeg)]) (st := []) kc_118 (Nat.le_of_ble_eq_true rfl) lc_118 rfl (ec_X12_gives _ _ _ M (0 : Int32) (M.1 119 (((0 : Int32) + (M.1 123 ((M.1 119 ((14 : Int32)).toNatClampNeg)).toNatClampNeg))).toNatClampNeg)) (Or.inl rfl) wm_X12_146 wv_X12_gives we_X12_gives wy_X12_gives rfl wd_X12_gives wi_X12 (ez_rok hRm rfl) (Nat.le_of_ble_eq_true rfl) dX12_worksOn_152 ?_
      refine ez_nmM (fun M4 eM4 => ?_)
      have hs := hs M4 eM4
      refine ez_goto hX 402 dX12_worksOn_155 (by decide) ?_
      have ht : t0 = M4 := hT.symm.trans (by simp only [et_X12_worksOn, if_pos c1, er2, if_pos c3, eM4])
      subst ht
      exact ez_vret hX hQ dX12_worksOn_402 rfl rfl
    · -- c3 on
      have hs := hs.2 c3
      refine ez_aload_n hX 5 dX12_worksOn_61 rfl ?_
      refine ez_getr hX kc_118 rfl (Nat.le_of_ble_eq_true rfl) lc_118 (Nat.le_of_ble_eq_true rfl) inX12 119 rfl rc_118_0 wf_X12_11 dX12_worksOn_62 ?_
      refine ez_sipush hX (2680 : Int32) dX12_worksOn_65 (by decide) ?_
      refine ez_iconst hX (4 : Int32) dX12_worksOn_68 (by decide) ?_
      refine ez_iload hX 0 dX12_worksOn_69 rfl ?_
      refine ez_imul hX dX12_worksOn_71 ?_
      refine ez_iadd hX dX12_worksOn_72 ?_
      refine ez_iconst hX (1 : Int32) dX12_worksOn_73 (by decide) ?_
      refine ez_iadd hX dX12_worksOn_74 ?_
      refine ez_iald hX kc_119 lc_119 hs.1 dX12_worksOn_75 ?_
      have hs := hs.2
      refine ez_iconst hX (1 : Int32) dX12_worksOn_76 (by decide) ?_
      refine ez_icmp_ne hX 84 dX12_worksOn_77 (by decide) (fun c5 => ?_) (fun c5 => ?_)
      · -- c5 jump
        have hs := hs.2 c5
        refine ez_iconst hX (0 : Int32) dX12_worksOn_84 (by decide) ?_
        refine ez_istore hX [(6, .int (0 : Int32)), (5, .int r2), (4, .int (M.1 123 ((M.1 119 ((14 : Int32)).toNatClampNeg)).toNatClampNeg)), (3, .int (M.1 122 ((M.1 119 ((14 : Int32)).toNatClampNeg)).toNatClampNeg)), (2, .int (M.1 119 ((16 : Int32)).toNatClampNeg)), (1, .int (M.1 119 ((14 : Int32)).toNatClampNeg)), (0, .ref (ez_B X + 118))] dX12_worksOn_85 (ez_lt hnL rfl) rfl ?_
        refine ez_iload_n hX 3 dX12_worksOn_87 rfl ?_
        refine ez_bipush hX (48 : Int32) dX12_worksOn_88 (by decide) ?_
        refine ez_icmp_ne hX 103 dX12_worksOn_90 (by decide) (fun _ => ?_) (fun c => absurd c (by rw [c1] <;> decide))
        refine ez_iload_n hX 3 dX12_worksOn_103 rfl ?_
        refine ez_bipush hX (97 : Int32) dX12_worksOn_104 (by decide) ?_
        refine ez_icmp_ne hX 158 dX12_worksOn_106 (by decide) (fun c => absurd (by rw [c1] <;> decide) c) (fun _ => ?_)
        refine ez_aload_n hX 6 dX12_worksOn_109 rfl ?_
        refine ez_iload hX 0 dX12_worksOn_110 rfl ?_
        refine ez_if_eq hX 119 dX12_worksOn_112 (by decide) (fun _ => ?_) (fun c => absurd c (by decide))
        refine ez_iconst hX (0 : Int32) dX12_worksOn_119 (by decide) ?_
        refine ez_iload hX 1 dX12_worksOn_120 rfl ?_
        refine ez_if_lt hX 143 dX12_worksOn_122 (by decide) (fun c => absurd c c3) (fun _ => ?_)
        refine ez_aload_n hX 6 dX12_worksOn_125 rfl ?_
        refine ez_getr hX kc_118 rfl (Nat.le_of_ble_eq_true rfl) lc_118 (Nat.le_of_ble_eq_true rfl) inX12 119 rfl rc_118_0 wf_X12_11 dX12_worksOn_126 ?_
        refine ez_sipush hX (2680 : Int32) dX12_worksOn_129 (by decide) ?_
        refine ez_iconst hX (4 : Int32) dX12_worksOn_132 (by decide) ?_
        refine ez_iload hX 1 dX12_worksOn_133 rfl ?_
        refine ez_imul hX dX12_worksOn_135 ?_
        refine ez_iadd hX dX12_worksOn_136 ?_
        refine ez_iconst hX (2 : Int32) dX12_worksOn_137 (by decide) ?_
        refine ez_iadd hX dX12_worksOn_138 ?_
        refine ez_iald hX kc_119 lc_119 hs.1 dX12_worksOn_139 ?_
        have hs := hs.2
        refine ez_goto hX 152 dX12_worksOn_140 (by decide) ?_
        refine ez_callV hX (N0 := 0) (As := [.int (0 : Int32), .int (M.1 119 ((((2680 : Int32) + ((4 : Int32) * r2)) + (2 : Int32))).toNatClampNeg)]) (st := []) kc_118 (Nat.le_of_ble_eq_true rfl) lc_118 rfl (ec_X12_gives _ _ _ M (0 : Int32) (M.1 119 ((((2680 : Int32) + ((4 : Int32) * r2)) + (2 : Int32))).toNatClampNeg)) (Or.inl rfl) wm_X12_146 wv_X12_gives we_X12_gives wy_X12_gives rfl wd_X12_gives wi_X12 (ez_rok hRm rfl) (Nat.le_of_ble_eq_true rfl) dX12_worksOn_152 ?_
        refine ez_nmM (fun M6 eM6 => ?_)
        have hs := hs M6 eM6
        refine ez_goto hX 402 dX12_worksOn_155 (by decide) ?_
        have ht : t0 = M6 := hT.symm.trans (by simp only [et_X12_worksOn, if_pos c1, er2, if_neg c3, if_neg c5, eM6])
        subst ht
        exact ez_vret hX hQ dX12_worksOn_402 rfl rfl
      · -- c5 on
        have hs := hs.1 c5
        refine ez_iconst hX (1 : Int32) dX12_worksOn_80 (by decide) ?_
        refine ez_goto hX 85 dX12_worksOn_81 (by decide) ?_
        refine ez_istore hX [(6, .int (1 : Int32)), (5, .int r2), (4, .int (M.1 123 ((M.1 119 ((14 : Int32)).toNatClampNeg)).toNatClampNeg)), (3, .int (M.1 122 ((M.1 119 ((14 : Int32)).toNatClampNeg)).toNatClampNeg)), (2, .int (M.1 119 ((16 : Int32)).toNatClampNeg)), (1, .int (M.1 119 ((14 : Int32)).toNatClampNeg)), (0, .ref (ez_B X + 118))] dX12_worksOn_85 (ez_lt hnL rfl) rfl ?_
        refine ez_iload_n hX 3 dX12_worksOn_87 rfl ?_
        refine ez_bipush hX (48 : Int32) dX12_worksOn_88 (by decide) ?_
        refine ez_icmp_ne hX 103 dX12_worksOn_90 (by decide) (fun _ => ?_) (fun c => absurd c (by rw [c1] <;> decide))
        refine ez_iload_n hX 3 dX12_worksOn_103 rfl ?_
        refine ez_bipush hX (97 : Int32) dX12_worksOn_104 (by decide) ?_
        refine ez_icmp_ne hX 158 dX12_worksOn_106 (by decide) (fun c => absurd (by rw [c1] <;> decide) c) (fun _ => ?_)
        refine ez_aload_n hX 6 dX12_worksOn_109 rfl ?_
        refine ez_iload hX 0 dX12_worksOn_110 rfl ?_
        refine ez_if_eq hX 119 dX12_worksOn_112 (by decide) (fun c => absurd c (by decide)) (fun _ => ?_)
        refine ez_iconst hX (1 : Int32) dX12_worksOn_115 (by decide) ?_
        refine ez_goto hX 120 dX12_worksOn_116 (by decide) ?_
        refine ez_iload hX 1 dX12_worksOn_120 rfl ?_
        refine ez_if_lt hX 143 dX12_worksOn_122 (by decide) (fun c => absurd c c3) (fun _ => ?_)
        refine ez_aload_n hX 6 dX12_worksOn_125 rfl ?_
        refine ez_getr hX kc_118 rfl (Nat.le_of_ble_eq_true rfl) lc_118 (Nat.le_of_ble_eq_true rfl) inX12 119 rfl rc_118_0 wf_X12_11 dX12_worksOn_126 ?_
        refine ez_sipush hX (2680 : Int32) dX12_worksOn_129 (by decide) ?_
        refine ez_iconst hX (4 : Int32) dX12_worksOn_132 (by decide) ?_
        refine ez_iload hX 1 dX12_worksOn_133 rfl ?_
        refine ez_imul hX dX12_worksOn_135 ?_
        refine ez_iadd hX dX12_worksOn_136 ?_
        refine ez_iconst hX (2 : Int32) dX12_worksOn_137 (by decide) ?_
        refine ez_iadd hX dX12_worksOn_138 ?_
        refine ez_iald hX kc_119 lc_119 hs.1 dX12_worksOn_139 ?_
        have hs := hs.2
        refine ez_goto hX 152 dX12_worksOn_140 (by decide) ?_
        refine ez_callV hX (N0 := 0) (As := [.int (1 : Int32), .int (M.1 119 ((((2680 : Int32) + ((4 : Int32) * r2)) + (2 : Int32))).toNatClampNeg)]) (st := []) kc_118 (Nat.le_of_ble_eq_true rfl) lc_118 rfl (ec_X12_gives _ _ _ M (1 : Int32) (M.1 119 ((((2680 : Int32) + ((4 : Int32) * r2)) + (2 : Int32))).toNatClampNeg)) (Or.inl rfl) wm_X12_146 wv_X12_gives we_X12_gives wy_X12_gives rfl wd_X12_gives wi_X12 (ez_rok hRm rfl) (Nat.le_of_ble_eq_true rfl) dX12_worksOn_152 ?_
        refine ez_nmM (fun M7 eM7 => ?_)
        have hs := hs M7 eM7
        refine ez_goto hX 402 dX12_worksOn_155 (by decide) ?_
        have ht : t0 = M7 := hT.symm.trans (by simp only [et_X12_worksOn, if_pos c1, er2, if_neg c3, if_pos c5, eM7])
        subst ht
        exact ez_vret hX hQ dX12_worksOn_402 rfl rfl
  · -- c1 on
    have hs := hs.2 c1
    refine ez_iload_n hX 1 dX12_worksOn_37 rfl ?_
    refine ez_bipush hX (94 : Int32) dX12_worksOn_38 (by decide) ?_
    refine ez_icmp_ne hX 53 dX12_worksOn_40 (by decide) (fun c8 => ?_) (fun c8 => ?_)
    · -- c8 jump
      have hs := hs.2 c8
      refine ez_iconst hX (-1 : Int32) dX12_worksOn_53 (by decide) ?_
      refine ez_istore hX [(5, .int (-1 : Int32)), (4, .int (M.1 123 ((M.1 119 ((14 : Int32)).toNatClampNeg)).toNatClampNeg)), (3, .int (M.1 122 ((M.1 119 ((14 : Int32)).toNatClampNeg)).toNatClampNeg)), (2, .int (M.1 119 ((16 : Int32)).toNatClampNeg)), (1, .int (M.1 119 ((14 : Int32)).toNatClampNeg)), (0, .ref (ez_B X + 118))] dX12_worksOn_54 (ez_lt hnL rfl) rfl ?_
      refine ez_iload hX 0 dX12_worksOn_56 rfl ?_
      refine ez_if_lt hX 84 dX12_worksOn_58 (by decide) (fun _ => ?_) (fun c => absurd c (by decide))
      refine ez_iconst hX (0 : Int32) dX12_worksOn_84 (by decide) ?_
      refine ez_istore hX [(6, .int (0 : Int32)), (5, .int (-1 : Int32)), (4, .int (M.1 123 ((M.1 119 ((14 : Int32)).toNatClampNeg)).toNatClampNeg)), (3, .int (M.1 122 ((M.1 119 ((14 : Int32)).toNatClampNeg)).toNatClampNeg)), (2, .int (M.1 119 ((16 : Int32)).toNatClampNeg)), (1, .int (M.1 119 ((14 : Int32)).toNatClampNeg)), (0, .ref (ez_B X + 118))] dX12_worksOn_85 (ez_lt hnL rfl) rfl ?_
      refine ez_iload_n hX 3 dX12_worksOn_87 rfl ?_
      refine ez_bipush hX (48 : Int32) dX12_worksOn_88 (by decide) ?_
      refine ez_icmp_ne hX 103 dX12_worksOn_90 (by decide) (fun c9 => ?_) (fun c9 => ?_)
      · -- c9 jump
        have hs := hs.2 c9
        refine ez_iload_n hX 3 dX12_worksOn_103 rfl ?_
        refine ez_bipush hX (97 : Int32) dX12_worksOn_104 (by decide) ?_
        refine ez_icmp_ne hX 158 dX12_worksOn_106 (by decide) (fun _ => ?_) (fun c => absurd c c1)
        refine ez_iload_n hX 3 dX12_worksOn_158 rfl ?_
        refine ez_bipush hX (91 : Int32) dX12_worksOn_159 (by decide) ?_
        refine ez_icmp_ne hX 229 dX12_worksOn_161 (by decide) (fun c10 => ?_) (fun c10 => ?_)
        · -- c10 jump
          have hs := hs.2 c10
          refine ez_iload_n hX 3 dX12_worksOn_229 rfl ?_
          refine ez_bipush hX (64 : Int32) dX12_worksOn_230 (by decide) ?_
          refine ez_icmp_ne hX 323 dX12_worksOn_232 (by decide) (fun c11 => ?_) (fun c11 => ?_)
          · -- c11 jump
            have hs := hs.2 c11
            refine ez_iload_n hX 3 dX12_worksOn_323 rfl ?_
            refine ez_bipush hX (94 : Int32) dX12_worksOn_324 (by decide) ?_
            refine ez_icmp_ne hX 342 dX12_worksOn_326 (by decide) (fun _ => ?_) (fun c => absurd c c8)
            refine ez_aload_n hX 6 dX12_worksOn_342 rfl ?_
            refine ez_aload_n hX 6 dX12_worksOn_343 rfl ?_
            refine ez_getr hX kc_118 rfl (Nat.le_of_ble_eq_true rfl) lc_118 (Nat.le_of_ble_eq_true rfl) inX12 119 rfl rc_118_0 wf_X12_11 dX12_worksOn_344 ?_
            refine ez_bipush hX (17 : Int32) dX12_worksOn_347 (by decide) ?_
            refine ez_iald hX kc_119 lc_119 (by unfold vp_in; decide) dX12_worksOn_349 ?_
            refine ez_iload_n hX 3 dX12_worksOn_350 rfl ?_
            refine ez_callS hX (N0 := 0) (As := [.int (M.1 122 ((M.1 119 ((14 : Int32)).toNatClampNeg)).toNatClampNeg)]) (st := [.int (M.1 119 ((17 : Int32)).toNatClampNeg), .ref (ez_B X + 118)]) (ec_X12_frameOf _ _ _ M (M.1 122 ((M.1 119 ((14 : Int32)).toNatClampNeg)).toNatClampNeg)) (Or.inl rfl) wm_X12_162 ws_X12_frameOf wy_X12_frameOf rfl wd_X12_frameOf wi_X12 (ez_rok hRm rfl) (Nat.le_of_ble_eq_true rfl) dX12_worksOn_351 ?_
            refine ez_nmI (fun r12 er12 => ?_)
            have hs := hs r12 er12
            refine ez_iload_n hX 5 dX12_worksOn_354 rfl ?_
            refine ez_iload_n hX 4 dX12_worksOn_355 rfl ?_
            refine ez_iconst hX (0 : Int32) dX12_worksOn_356 (by decide) ?_
            refine ez_iconst hX (0 : Int32) dX12_worksOn_357 (by decide) ?_
            refine ez_iload hX 0 dX12_worksOn_358 rfl ?_
            refine ez_if_eq hX 381 dX12_worksOn_360 (by decide) (fun _ => ?_) (fun c => absurd c (by decide))
            refine ez_iconst hX (0 : Int32) dX12_worksOn_381 (by decide) ?_
            refine ez_callV hX (N0 := 0) (As := [.int (M.1 119 ((17 : Int32)).toNatClampNeg), .int r12, .int (M.1 119 ((14 : Int32)).toNatClampNeg), .int (M.1 119 ((16 : Int32)).toNatClampNeg), .int (0 : Int32), .int (0 : Int32), .int (0 : Int32)]) (st := []) kc_118 (Nat.le_of_ble_eq_true rfl) lc_118 rfl (ec_X12_comes _ _ _ M (M.1 119 ((17 : Int32)).toNatClampNeg) r12 (M.1 119 ((14 : Int32)).toNatClampNeg) (M.1 119 ((16 : Int32)).toNatClampNeg) (0 : Int32) (0 : Int32) (0 : Int32) hs.1) (Or.inl rfl) wm_X12_150 wv_X12_comes we_X12_comes wy_X12_comes rfl wd_X12_comes wi_X12 (ez_rok hRm rfl) (Nat.le_of_ble_eq_true rfl) dX12_worksOn_382 ?_
            have hs := hs.2
            refine ez_nmIM (fun r13 M14 eM14 => ?_)
            have hs := hs r13 M14 eM14
            refine ez_if_eq hX 402 dX12_worksOn_385 (by decide) (fun c16 => ?_) (fun c16 => ?_)
            · -- c16 jump
              have hs := hs.1 c16
              have ht : t0 = M14 := hT.symm.trans (by simp only [et_X12_worksOn, if_neg c1, if_neg c8, if_neg c9, if_neg c10, if_neg c11, er12, eM14, if_pos c16])
              subst ht
              exact ez_vret hX hQ dX12_worksOn_402 rfl rfl
            · -- c16 on
              have hs := hs.2 c16
              refine ez_aload_n hX 6 dX12_worksOn_388 rfl ?_
              refine ez_aload_n hX 6 dX12_worksOn_389 rfl ?_
              refine ez_getr hX kc_118 rfl (Nat.le_of_ble_eq_true rfl) lc_118 (Nat.le_of_ble_eq_true rfl) inX12 125 rfl rc_118_7 wf_X12_30 dX12_worksOn_390 ?_
              refine ez_iconst hX (5 : Int32) dX12_worksOn_393 (by decide) ?_
              refine ez_iload_n hX 5 dX12_worksOn_394 rfl ?_
              refine ez_imul hX dX12_worksOn_395 ?_
              refine ez_iald hX kc_125 lc_125 hs.1 dX12_worksOn_396 ?_
              have hs := hs.2
              refine ez_iconst hX (0 : Int32) dX12_worksOn_397 (by decide) ?_
              refine ez_iload_n hX 4 dX12_worksOn_398 rfl ?_
              refine ez_callV hX (N0 := 0) (As := [.int (M14.1 125 (((5 : Int32) * (M.1 119 ((14 : Int32)).toNatClampNeg))).toNatClampNeg), .int (0 : Int32), .int (M.1 119 ((16 : Int32)).toNatClampNeg)]) (st := []) kc_118 (Nat.le_of_ble_eq_true rfl) lc_118 rfl (ec_X12_works _ _ _ M14 (M14.1 125 (((5 : Int32) * (M.1 119 ((14 : Int32)).toNatClampNeg))).toNatClampNeg) (0 : Int32) (M.1 119 ((16 : Int32)).toNatClampNeg)) (Or.inl rfl) wm_X12_154 wv_X12_works we_X12_works wy_X12_works rfl wd_X12_works wi_X12 (ez_rok hRm rfl) (Nat.le_of_ble_eq_true rfl) dX12_worksOn_399 ?_
              refine ez_nmM (fun M17 eM17 => ?_)
              have hs := hs M17 eM17
              have ht : t0 = M17 := hT.symm.trans (by simp only [et_X12_worksOn, if_neg c1, if_neg c8, if_neg c9, if_neg c10, if_neg c11, er12, eM14, if_neg c16, eM17])
              subst ht
              exact ez_vret hX hQ dX12_worksOn_402 rfl rfl
          · -- c11 on
            have hs := hs.1 c11
            refine ez_aload_n hX 6 dX12_worksOn_235 rfl ?_
            refine ez_getr hX kc_118 rfl (Nat.le_of_ble_eq_true rfl) lc_118 (Nat.le_of_ble_eq_true rfl) inX12 119 rfl rc_118_0 wf_X12_11 dX12_worksOn_236 ?_
            refine ez_bipush hX (24 : Int32) dX12_worksOn_239 (by decide) ?_
            refine ez_iald hX kc_119 lc_119 (by unfold vp_in; decide) dX12_worksOn_241 ?_
            refine ez_istore hX [(7, .int (M.1 119 ((24 : Int32)).toNatClampNeg)), (6, .int (0 : Int32)), (5, .int (-1 : Int32)), (4, .int (M.1 123 ((M.1 119 ((14 : Int32)).toNatClampNeg)).toNatClampNeg)), (3, .int (M.1 122 ((M.1 119 ((14 : Int32)).toNatClampNeg)).toNatClampNeg)), (2, .int (M.1 119 ((16 : Int32)).toNatClampNeg)), (1, .int (M.1 119 ((14 : Int32)).toNatClampNeg)), (0, .ref (ez_B X + 118))] dX12_worksOn_242 (ez_lt hnL rfl) rfl ?_
            refine ez_aload_n hX 7 dX12_worksOn_244 rfl ?_
            refine ez_getr hX kc_118 rfl (Nat.le_of_ble_eq_true rfl) lc_118 (Nat.le_of_ble_eq_true rfl) inX12 119 rfl rc_118_0 wf_X12_11 dX12_worksOn_245 ?_
            refine ez_sipush hX (5240 : Int32) dX12_worksOn_248 (by decide) ?_
            refine ez_iconst hX (2 : Int32) dX12_worksOn_251 (by decide) ?_
            refine ez_iload hX 0 dX12_worksOn_252 rfl ?_
            refine ez_imul hX dX12_worksOn_254 ?_
            refine ez_iadd hX dX12_worksOn_255 ?_
            refine ez_aload_n hX 7 dX12_worksOn_256 rfl ?_
            refine ez_getr hX kc_118 rfl (Nat.le_of_ble_eq_true rfl) lc_118 (Nat.le_of_ble_eq_true rfl) inX12 119 rfl rc_118_0 wf_X12_11 dX12_worksOn_257 ?_
            refine ez_bipush hX (17 : Int32) dX12_worksOn_260 (by decide) ?_
            refine ez_iald hX kc_119 lc_119 (by unfold vp_in; decide) dX12_worksOn_262 ?_
            refine ez_iast hX kc_119 lc_119 hs.1 dX12_worksOn_263 ?_
            have hs := hs.2
            refine ez_nmM (fun M18 eM18 => ?_)
            have hs := hs M18 eM18
            refine ez_aload_n hX 7 dX12_worksOn_264 rfl ?_
            refine ez_getr hX kc_118 rfl (Nat.le_of_ble_eq_true rfl) lc_118 (Nat.le_of_ble_eq_true rfl) inX12 119 rfl rc_118_0 wf_X12_11 dX12_worksOn_265 ?_
            refine ez_sipush hX (5240 : Int32) dX12_worksOn_268 (by decide) ?_
            refine ez_iconst hX (2 : Int32) dX12_worksOn_271 (by decide) ?_
            refine ez_iload hX 0 dX12_worksOn_272 rfl ?_
            refine ez_imul hX dX12_worksOn_274 ?_
            refine ez_iadd hX dX12_worksOn_275 ?_
            refine ez_iconst hX (1 : Int32) dX12_worksOn_276 (by decide) ?_
            refine ez_iadd hX dX12_worksOn_277 ?_
            refine ez_aload_n hX 7 dX12_worksOn_278 rfl ?_
            refine ez_getr hX kc_118 rfl (Nat.le_of_ble_eq_true rfl) lc_118 (Nat.le_of_ble_eq_true rfl) inX12 119 rfl rc_118_0 wf_X12_11 dX12_worksOn_279 ?_
            refine ez_bipush hX (18 : Int32) dX12_worksOn_282 (by decide) ?_
            refine ez_iald hX kc_119 lc_119 (by unfold vp_in; decide) dX12_worksOn_284 ?_
            refine ez_iast hX kc_119 lc_119 hs.1 dX12_worksOn_285 ?_
            have hs := hs.2
            refine ez_nmM (fun M19 eM19 => ?_)
            have hs := hs M19 eM19
            refine ez_aload_n hX 7 dX12_worksOn_286 rfl ?_
            refine ez_getr hX kc_118 rfl (Nat.le_of_ble_eq_true rfl) lc_118 (Nat.le_of_ble_eq_true rfl) inX12 119 rfl rc_118_0 wf_X12_11 dX12_worksOn_287 ?_
            refine ez_bipush hX (24 : Int32) dX12_worksOn_290 (by decide) ?_
            refine ez_iload hX 0 dX12_worksOn_292 rfl ?_
            refine ez_iconst hX (1 : Int32) dX12_worksOn_294 (by decide) ?_
            refine ez_iadd hX dX12_worksOn_295 ?_
            refine ez_iast hX kc_119 lc_119 (by unfold vp_in; decide) dX12_worksOn_296 ?_
            refine ez_nmM (fun M20 eM20 => ?_)
            have hs := hs M20 eM20
            refine ez_aload_n hX 7 dX12_worksOn_297 rfl ?_
            refine ez_aload_n hX 7 dX12_worksOn_298 rfl ?_
            refine ez_getr hX kc_118 rfl (Nat.le_of_ble_eq_true rfl) lc_118 (Nat.le_of_ble_eq_true rfl) inX12 125 rfl rc_118_7 wf_X12_30 dX12_worksOn_299 ?_
            refine ez_iconst hX (5 : Int32) dX12_worksOn_302 (by decide) ?_
            refine ez_iload_n hX 6 dX12_worksOn_303 rfl ?_
            refine ez_imul hX dX12_worksOn_304 ?_
            refine ez_iald hX kc_125 lc_125 hs.1 dX12_worksOn_305 ?_
            have hs := hs.2
            refine ez_iconst hX (0 : Int32) dX12_worksOn_306 (by decide) ?_
            refine ez_aload_n hX 7 dX12_worksOn_307 rfl ?_
            refine ez_iload_n hX 5 dX12_worksOn_308 rfl ?_
            refine ez_iload hX 3 dX12_worksOn_309 rfl ?_
            refine ez_iconst hX (1 : Int32) dX12_worksOn_311 (by decide) ?_
            refine ez_iload hX 0 dX12_worksOn_312 rfl ?_
            refine ez_callV hX (N0 := 0) (As := [.int (M.1 119 ((16 : Int32)).toNatClampNeg), .int (M.1 123 ((M.1 119 ((14 : Int32)).toNatClampNeg)).toNatClampNeg), .int (1 : Int32), .int (M.1 119 ((24 : Int32)).toNatClampNeg)]) (st := [.int (0 : Int32), .int (M20.1 125 (((5 : Int32) * (M.1 119 ((14 : Int32)).toNatClampNeg))).toNatClampNeg), .ref (ez_B X + 118)]) kc_118 (Nat.le_of_ble_eq_true rfl) lc_118 rfl (ec_X12_bound _ _ _ M20 (M.1 119 ((16 : Int32)).toNatClampNeg) (M.1 123 ((M.1 119 ((14 : Int32)).toNatClampNeg)).toNatClampNeg) (1 : Int32) (M.1 119 ((24 : Int32)).toNatClampNeg) hs.1) (Or.inl rfl) wm_X12_158 wv_X12_bound we_X12_bound wy_X12_bound rfl wd_X12_bound wi_X12 (ez_rok hRm rfl) (Nat.le_of_ble_eq_true rfl) dX12_worksOn_314 ?_
            have hs := hs.2
            refine ez_nmIM (fun r21 M22 eM22 => ?_)
            have hs := hs r21 M22 eM22
            refine ez_callV hX (N0 := 0) (As := [.int (M20.1 125 (((5 : Int32) * (M.1 119 ((14 : Int32)).toNatClampNeg))).toNatClampNeg), .int (0 : Int32), .int r21]) (st := []) kc_118 (Nat.le_of_ble_eq_true rfl) lc_118 rfl (ec_X12_works _ _ _ M22 (M20.1 125 (((5 : Int32) * (M.1 119 ((14 : Int32)).toNatClampNeg))).toNatClampNeg) (0 : Int32) r21) (Or.inl rfl) wm_X12_154 wv_X12_works we_X12_works wy_X12_works rfl wd_X12_works wi_X12 (ez_rok hRm rfl) (Nat.le_of_ble_eq_true rfl) dX12_worksOn_317 ?_
            refine ez_nmM (fun M24 eM24 => ?_)
            have hs := hs M24 eM24
            refine ez_goto hX 402 dX12_worksOn_320 (by decide) ?_
            have ht : t0 = M24 := hT.symm.trans (by simp only [et_X12_worksOn, if_neg c1, if_neg c8, if_neg c9, if_neg c10, if_pos c11, eM18, eM19, eM20, eM22, eM24])
            subst ht
            exact ez_vret hX hQ dX12_worksOn_402 rfl rfl
        · -- c10 on
          have hs := hs.1 c10
          refine ez_aload_n hX 6 dX12_worksOn_164 rfl ?_
          refine ez_getr hX kc_118 rfl (Nat.le_of_ble_eq_true rfl) lc_118 (Nat.le_of_ble_eq_true rfl) inX12 119 rfl rc_118_0 wf_X12_11 dX12_worksOn_165 ?_
          refine ez_bipush hX (15 : Int32) dX12_worksOn_168 (by decide) ?_
          refine ez_iald hX kc_119 lc_119 (by unfold vp_in; decide) dX12_worksOn_170 ?_
          refine ez_istore hX [(7, .int (M.1 119 ((15 : Int32)).toNatClampNeg)), (6, .int (0 : Int32)), (5, .int (-1 : Int32)), (4, .int (M.1 123 ((M.1 119 ((14 : Int32)).toNatClampNeg)).toNatClampNeg)), (3, .int (M.1 122 ((M.1 119 ((14 : Int32)).toNatClampNeg)).toNatClampNeg)), (2, .int (M.1 119 ((16 : Int32)).toNatClampNeg)), (1, .int (M.1 119 ((14 : Int32)).toNatClampNeg)), (0, .ref (ez_B X + 118))] dX12_worksOn_171 (ez_lt hnL rfl) rfl ?_
          refine ez_iload hX 0 dX12_worksOn_173 rfl ?_
          refine ez_aload_n hX 7 dX12_worksOn_175 rfl ?_
          refine ez_getr hX kc_118 rfl (Nat.le_of_ble_eq_true rfl) lc_118 (Nat.le_of_ble_eq_true rfl) inX12 124 rfl rc_118_6 wf_X12_27 dX12_worksOn_176 ?_
          refine ez_iload_n hX 6 dX12_worksOn_179 rfl ?_
          refine ez_iald hX kc_124 lc_124 hs.1 dX12_worksOn_180 ?_
          have hs := hs.2
          refine ez_iconst hX (1 : Int32) dX12_worksOn_181 (by decide) ?_
          refine ez_isub hX dX12_worksOn_182 ?_
          refine ez_icmp_eq hX 209 dX12_worksOn_183 (by decide) (fun c25 => ?_) (fun c25 => ?_)
          · -- c25 jump
            have hs := hs.1 c25
            refine ez_aload_n hX 7 dX12_worksOn_209 rfl ?_
            refine ez_aload_n hX 7 dX12_worksOn_210 rfl ?_
            refine ez_getr hX kc_118 rfl (Nat.le_of_ble_eq_true rfl) lc_118 (Nat.le_of_ble_eq_true rfl) inX12 125 rfl rc_118_7 wf_X12_30 dX12_worksOn_211 ?_
            refine ez_iconst hX (5 : Int32) dX12_worksOn_214 (by decide) ?_
            refine ez_iload_n hX 6 dX12_worksOn_215 rfl ?_
            refine ez_imul hX dX12_worksOn_216 ?_
            refine ez_iload hX 0 dX12_worksOn_217 rfl ?_
            refine ez_iadd hX dX12_worksOn_219 ?_
            refine ez_iald hX kc_125 lc_125 hs.1 dX12_worksOn_220 ?_
            have hs := hs.2
            refine ez_iconst hX (0 : Int32) dX12_worksOn_221 (by decide) ?_
            refine ez_iload_n hX 5 dX12_worksOn_222 rfl ?_
            refine ez_callV hX (N0 := 0) (As := [.int (M.1 125 ((((5 : Int32) * (M.1 119 ((14 : Int32)).toNatClampNeg)) + (M.1 119 ((15 : Int32)).toNatClampNeg))).toNatClampNeg), .int (0 : Int32), .int (M.1 119 ((16 : Int32)).toNatClampNeg)]) (st := []) kc_118 (Nat.le_of_ble_eq_true rfl) lc_118 rfl (ec_X12_works _ _ _ M (M.1 125 ((((5 : Int32) * (M.1 119 ((14 : Int32)).toNatClampNeg)) + (M.1 119 ((15 : Int32)).toNatClampNeg))).toNatClampNeg) (0 : Int32) (M.1 119 ((16 : Int32)).toNatClampNeg)) (Or.inl rfl) wm_X12_154 wv_X12_works we_X12_works wy_X12_works rfl wd_X12_works wi_X12 (ez_rok hRm rfl) (Nat.le_of_ble_eq_true rfl) dX12_worksOn_223 ?_
            refine ez_nmM (fun M26 eM26 => ?_)
            have hs := hs M26 eM26
            refine ez_goto hX 402 dX12_worksOn_226 (by decide) ?_
            have ht : t0 = M26 := hT.symm.trans (by simp only [et_X12_worksOn, if_neg c1, if_neg c8, if_neg c9, if_pos c10, if_pos c25, eM26])
            subst ht
            exact ez_vret hX hQ dX12_worksOn_402 rfl rfl
          · -- c25 on
            have hs := hs.2 c25
            refine ez_aload_n hX 7 dX12_worksOn_186 rfl ?_
            refine ez_aload_n hX 7 dX12_worksOn_187 rfl ?_
            refine ez_getr hX kc_118 rfl (Nat.le_of_ble_eq_true rfl) lc_118 (Nat.le_of_ble_eq_true rfl) inX12 119 rfl rc_118_0 wf_X12_11 dX12_worksOn_188 ?_
            refine ez_bipush hX (17 : Int32) dX12_worksOn_191 (by decide) ?_
            refine ez_iald hX kc_119 lc_119 (by unfold vp_in; decide) dX12_worksOn_193 ?_
            refine ez_iconst hX (4 : Int32) dX12_worksOn_194 (by decide) ?_
            refine ez_iload_n hX 6 dX12_worksOn_195 rfl ?_
            refine ez_iload_n hX 5 dX12_worksOn_196 rfl ?_
            refine ez_iconst hX (0 : Int32) dX12_worksOn_197 (by decide) ?_
            refine ez_iconst hX (0 : Int32) dX12_worksOn_198 (by decide) ?_
            refine ez_iload hX 0 dX12_worksOn_199 rfl ?_
            refine ez_iconst hX (1 : Int32) dX12_worksOn_201 (by decide) ?_
            refine ez_iadd hX dX12_worksOn_202 ?_
            refine ez_callV hX (N0 := 0) (As := [.int (M.1 119 ((17 : Int32)).toNatClampNeg), .int (4 : Int32), .int (M.1 119 ((14 : Int32)).toNatClampNeg), .int (M.1 119 ((16 : Int32)).toNatClampNeg), .int (0 : Int32), .int (0 : Int32), .int ((M.1 119 ((15 : Int32)).toNatClampNeg) + (1 : Int32))]) (st := []) kc_118 (Nat.le_of_ble_eq_true rfl) lc_118 rfl (ec_X12_comes _ _ _ M (M.1 119 ((17 : Int32)).toNatClampNeg) (4 : Int32) (M.1 119 ((14 : Int32)).toNatClampNeg) (M.1 119 ((16 : Int32)).toNatClampNeg) (0 : Int32) (0 : Int32) ((M.1 119 ((15 : Int32)).toNatClampNeg) + (1 : Int32)) hs.1) (Or.inl rfl) wm_X12_150 wv_X12_comes we_X12_comes wy_X12_comes rfl wd_X12_comes wi_X12 (ez_rok hRm rfl) (Nat.le_of_ble_eq_true rfl) dX12_worksOn_203 ?_
            have hs := hs.2
            refine ez_nmIM (fun r27 M28 eM28 => ?_)
            have hs := hs r27 M28 eM28
            refine ez_if_eq hX 226 dX12_worksOn_206 (by decide) (fun c30 => ?_) (fun c30 => ?_)
            · -- c30 jump
              have hs := hs.1 c30
              refine ez_goto hX 402 dX12_worksOn_226 (by decide) ?_
              have ht : t0 = M28 := hT.symm.trans (by simp only [et_X12_worksOn, if_neg c1, if_neg c8, if_neg c9, if_pos c10, if_neg c25, eM28, if_pos c30])
              subst ht
              exact ez_vret hX hQ dX12_worksOn_402 rfl rfl
            · -- c30 on
              have hs := hs.2 c30
              refine ez_aload_n hX 7 dX12_worksOn_209 rfl ?_
              refine ez_aload_n hX 7 dX12_worksOn_210 rfl ?_
              refine ez_getr hX kc_118 rfl (Nat.le_of_ble_eq_true rfl) lc_118 (Nat.le_of_ble_eq_true rfl) inX12 125 rfl rc_118_7 wf_X12_30 dX12_worksOn_211 ?_
              refine ez_iconst hX (5 : Int32) dX12_worksOn_214 (by decide) ?_
              refine ez_iload_n hX 6 dX12_worksOn_215 rfl ?_
              refine ez_imul hX dX12_worksOn_216 ?_
              refine ez_iload hX 0 dX12_worksOn_217 rfl ?_
              refine ez_iadd hX dX12_worksOn_219 ?_
              refine ez_iald hX kc_125 lc_125 hs.1 dX12_worksOn_220 ?_
              have hs := hs.2
              refine ez_iconst hX (0 : Int32) dX12_worksOn_221 (by decide) ?_
              refine ez_iload_n hX 5 dX12_worksOn_222 rfl ?_
              refine ez_callV hX (N0 := 0) (As := [.int (M28.1 125 ((((5 : Int32) * (M.1 119 ((14 : Int32)).toNatClampNeg)) + (M.1 119 ((15 : Int32)).toNatClampNeg))).toNatClampNeg), .int (0 : Int32), .int (M.1 119 ((16 : Int32)).toNatClampNeg)]) (st := []) kc_118 (Nat.le_of_ble_eq_true rfl) lc_118 rfl (ec_X12_works _ _ _ M28 (M28.1 125 ((((5 : Int32) * (M.1 119 ((14 : Int32)).toNatClampNeg)) + (M.1 119 ((15 : Int32)).toNatClampNeg))).toNatClampNeg) (0 : Int32) (M.1 119 ((16 : Int32)).toNatClampNeg)) (Or.inl rfl) wm_X12_154 wv_X12_works we_X12_works wy_X12_works rfl wd_X12_works wi_X12 (ez_rok hRm rfl) (Nat.le_of_ble_eq_true rfl) dX12_worksOn_223 ?_
              refine ez_nmM (fun M31 eM31 => ?_)
              have hs := hs M31 eM31
              refine ez_goto hX 402 dX12_worksOn_226 (by decide) ?_
              have ht : t0 = M31 := hT.symm.trans (by simp only [et_X12_worksOn, if_neg c1, if_neg c8, if_neg c9, if_pos c10, if_neg c25, eM28, if_neg c30, eM31])
              subst ht
              exact ez_vret hX hQ dX12_worksOn_402 rfl rfl
      · -- c9 on
        have hs := hs.1 c9
        refine ez_aload_n hX 6 dX12_worksOn_93 rfl ?_
        refine ez_iconst hX (0 : Int32) dX12_worksOn_94 (by decide) ?_
        refine ez_iload hX 2 dX12_worksOn_95 rfl ?_
        refine ez_callV hX (N0 := 0) (As := [.int (0 : Int32), .int (M.1 123 ((M.1 119 ((14 : Int32)).toNatClampNeg)).toNatClampNeg)]) (st := []) kc_118 (Nat.le_of_ble_eq_true rfl) lc_118 rfl (ec_X12_gives _ _ _ M (0 : Int32) (M.1 123 ((M.1 119 ((14 : Int32)).toNatClampNeg)).toNatClampNeg)) (Or.inl rfl) wm_X12_146 wv_X12_gives we_X12_gives wy_X12_gives rfl wd_X12_gives wi_X12 (ez_rok hRm rfl) (Nat.le_of_ble_eq_true rfl) dX12_worksOn_97 ?_
        refine ez_nmM (fun M32 eM32 => ?_)
        have hs := hs M32 eM32
        refine ez_goto hX 402 dX12_worksOn_100 (by decide) ?_
        have ht : t0 = M32 := hT.symm.trans (by simp only [et_X12_worksOn, if_neg c1, if_neg c8, if_pos c9, eM32])
        subst ht
        exact ez_vret hX hQ dX12_worksOn_402 rfl rfl
    · -- c8 on
      have hs := hs.1 c8
      refine ez_aload_n hX 4 dX12_worksOn_43 rfl ?_
      refine ez_iload_n hX 2 dX12_worksOn_44 rfl ?_
      refine ez_iload hX 0 dX12_worksOn_45 rfl ?_
      refine ez_callV hX (N0 := 0) (As := [.int (M.1 119 ((16 : Int32)).toNatClampNeg), .int (M.1 123 ((M.1 119 ((14 : Int32)).toNatClampNeg)).toNatClampNeg)]) (st := []) kc_118 (Nat.le_of_ble_eq_true rfl) lc_118 rfl (ec_X12_found _ _ _ M (M.1 119 ((16 : Int32)).toNatClampNeg) (M.1 123 ((M.1 119 ((14 : Int32)).toNatClampNeg)).toNatClampNeg) hs.1) (Or.inl rfl) wm_X12_143 wv_X12_found we_X12_found wy_X12_found rfl wd_X12_found wi_X12 (ez_rok hRm rfl) (Nat.le_of_ble_eq_true rfl) dX12_worksOn_47 ?_
      have hs := hs.2
      refine ez_nmI (fun r33 er33 => ?_)
      have hs := hs r33 er33
      refine ez_goto hX 54 dX12_worksOn_50 (by decide) ?_
      refine ez_istore hX [(5, .int r33), (4, .int (M.1 123 ((M.1 119 ((14 : Int32)).toNatClampNeg)).toNatClampNeg)), (3, .int (M.1 122 ((M.1 119 ((14 : Int32)).toNatClampNeg)).toNatClampNeg)), (2, .int (M.1 119 ((16 : Int32)).toNatClampNeg)), (1, .int (M.1 119 ((14 : Int32)).toNatClampNeg)), (0, .ref (ez_B X + 118))] dX12_worksOn_54 (ez_lt hnL rfl) rfl ?_
      refine ez_iload hX 0 dX12_worksOn_56 rfl ?_
      refine ez_if_lt hX 84 dX12_worksOn_58 (by decide) (fun c34 => ?_) (fun c34 => ?_)
      · -- c34 jump
        have hs := hs.1 c34
        refine ez_iconst hX (0 : Int32) dX12_worksOn_84 (by decide) ?_
        refine ez_istore hX [(6, .int (0 : Int32)), (5, .int r33), (4, .int (M.1 123 ((M.1 119 ((14 : Int32)).toNatClampNeg)).toNatClampNeg)), (3, .int (M.1 122 ((M.1 119 ((14 : Int32)).toNatClampNeg)).toNatClampNeg)), (2, .int (M.1 119 ((16 : Int32)).toNatClampNeg)), (1, .int (M.1 119 ((14 : Int32)).toNatClampNeg)), (0, .ref (ez_B X + 118))] dX12_worksOn_85 (ez_lt hnL rfl) rfl ?_
        refine ez_iload_n hX 3 dX12_worksOn_87 rfl ?_
        refine ez_bipush hX (48 : Int32) dX12_worksOn_88 (by decide) ?_
        refine ez_icmp_ne hX 103 dX12_worksOn_90 (by decide) (fun _ => ?_) (fun c => absurd c (by rw [c8] <;> decide))
        refine ez_iload_n hX 3 dX12_worksOn_103 rfl ?_
        refine ez_bipush hX (97 : Int32) dX12_worksOn_104 (by decide) ?_
        refine ez_icmp_ne hX 158 dX12_worksOn_106 (by decide) (fun _ => ?_) (fun c => absurd c (by rw [c8] <;> decide))
        refine ez_iload_n hX 3 dX12_worksOn_158 rfl ?_
        refine ez_bipush hX (91 : Int32) dX12_worksOn_159 (by decide) ?_
        refine ez_icmp_ne hX 229 dX12_worksOn_161 (by decide) (fun _ => ?_) (fun c => absurd c (by rw [c8] <;> decide))
        refine ez_iload_n hX 3 dX12_worksOn_229 rfl ?_
        refine ez_bipush hX (64 : Int32) dX12_worksOn_230 (by decide) ?_
        refine ez_icmp_ne hX 323 dX12_worksOn_232 (by decide) (fun _ => ?_) (fun c => absurd c (by rw [c8] <;> decide))
        refine ez_iload_n hX 3 dX12_worksOn_323 rfl ?_
        refine ez_bipush hX (94 : Int32) dX12_worksOn_324 (by decide) ?_
        refine ez_icmp_ne hX 342 dX12_worksOn_326 (by decide) (fun c => absurd (by rw [c8] <;> decide) c) (fun _ => ?_)
        refine ez_iload hX 0 dX12_worksOn_329 rfl ?_
        refine ez_if_ne hX 342 dX12_worksOn_331 (by decide) (fun c => absurd c (by decide)) (fun _ => ?_)
        refine ez_aload_n hX 6 dX12_worksOn_334 rfl ?_
        refine ez_iconst hX (2 : Int32) dX12_worksOn_335 (by decide) ?_
        refine ez_callV hX (N0 := 0) (As := [.int (2 : Int32)]) (st := []) kc_118 (Nat.le_of_ble_eq_true rfl) lc_118 rfl (ec_X12_stands _ _ _ M (2 : Int32)) (Or.inl rfl) wm_X12_139 wv_X12_stands we_X12_stands wy_X12_stands rfl wd_X12_stands wi_X12 (ez_rok hRm rfl) (Nat.le_of_ble_eq_true rfl) dX12_worksOn_336 ?_
        refine ez_nmM (fun M35 eM35 => ?_)
        have hs := hs M35 eM35
        refine ez_goto hX 402 dX12_worksOn_339 (by decide) ?_
        have ht : t0 = M35 := hT.symm.trans (by simp only [et_X12_worksOn, if_neg c1, if_pos c8, er33, if_pos c34, eM35])
        subst ht
        exact ez_vret hX hQ dX12_worksOn_402 rfl rfl
      · -- c34 on
        have hs := hs.2 c34
        refine ez_aload_n hX 5 dX12_worksOn_61 rfl ?_
        refine ez_getr hX kc_118 rfl (Nat.le_of_ble_eq_true rfl) lc_118 (Nat.le_of_ble_eq_true rfl) inX12 119 rfl rc_118_0 wf_X12_11 dX12_worksOn_62 ?_
        refine ez_sipush hX (2680 : Int32) dX12_worksOn_65 (by decide) ?_
        refine ez_iconst hX (4 : Int32) dX12_worksOn_68 (by decide) ?_
        refine ez_iload hX 0 dX12_worksOn_69 rfl ?_
        refine ez_imul hX dX12_worksOn_71 ?_
        refine ez_iadd hX dX12_worksOn_72 ?_
        refine ez_iconst hX (1 : Int32) dX12_worksOn_73 (by decide) ?_
        refine ez_iadd hX dX12_worksOn_74 ?_
        refine ez_iald hX kc_119 lc_119 hs.1 dX12_worksOn_75 ?_
        have hs := hs.2
        refine ez_iconst hX (1 : Int32) dX12_worksOn_76 (by decide) ?_
        refine ez_icmp_ne hX 84 dX12_worksOn_77 (by decide) (fun c36 => ?_) (fun c36 => ?_)
        · -- c36 jump
          have hs := hs.2 c36
          refine ez_iconst hX (0 : Int32) dX12_worksOn_84 (by decide) ?_
          refine ez_istore hX [(6, .int (0 : Int32)), (5, .int r33), (4, .int (M.1 123 ((M.1 119 ((14 : Int32)).toNatClampNeg)).toNatClampNeg)), (3, .int (M.1 122 ((M.1 119 ((14 : Int32)).toNatClampNeg)).toNatClampNeg)), (2, .int (M.1 119 ((16 : Int32)).toNatClampNeg)), (1, .int (M.1 119 ((14 : Int32)).toNatClampNeg)), (0, .ref (ez_B X + 118))] dX12_worksOn_85 (ez_lt hnL rfl) rfl ?_
          refine ez_iload_n hX 3 dX12_worksOn_87 rfl ?_
          refine ez_bipush hX (48 : Int32) dX12_worksOn_88 (by decide) ?_
          refine ez_icmp_ne hX 103 dX12_worksOn_90 (by decide) (fun _ => ?_) (fun c => absurd c (by rw [c8] <;> decide))
          refine ez_iload_n hX 3 dX12_worksOn_103 rfl ?_
          refine ez_bipush hX (97 : Int32) dX12_worksOn_104 (by decide) ?_
          refine ez_icmp_ne hX 158 dX12_worksOn_106 (by decide) (fun _ => ?_) (fun c => absurd c (by rw [c8] <;> decide))
          refine ez_iload_n hX 3 dX12_worksOn_158 rfl ?_
          refine ez_bipush hX (91 : Int32) dX12_worksOn_159 (by decide) ?_
          refine ez_icmp_ne hX 229 dX12_worksOn_161 (by decide) (fun _ => ?_) (fun c => absurd c (by rw [c8] <;> decide))
          refine ez_iload_n hX 3 dX12_worksOn_229 rfl ?_
          refine ez_bipush hX (64 : Int32) dX12_worksOn_230 (by decide) ?_
          refine ez_icmp_ne hX 323 dX12_worksOn_232 (by decide) (fun _ => ?_) (fun c => absurd c (by rw [c8] <;> decide))
          refine ez_iload_n hX 3 dX12_worksOn_323 rfl ?_
          refine ez_bipush hX (94 : Int32) dX12_worksOn_324 (by decide) ?_
          refine ez_icmp_ne hX 342 dX12_worksOn_326 (by decide) (fun c => absurd (by rw [c8] <;> decide) c) (fun _ => ?_)
          refine ez_iload hX 0 dX12_worksOn_329 rfl ?_
          refine ez_if_ne hX 342 dX12_worksOn_331 (by decide) (fun c => absurd c (by decide)) (fun _ => ?_)
          refine ez_aload_n hX 6 dX12_worksOn_334 rfl ?_
          refine ez_iconst hX (2 : Int32) dX12_worksOn_335 (by decide) ?_
          refine ez_callV hX (N0 := 0) (As := [.int (2 : Int32)]) (st := []) kc_118 (Nat.le_of_ble_eq_true rfl) lc_118 rfl (ec_X12_stands _ _ _ M (2 : Int32)) (Or.inl rfl) wm_X12_139 wv_X12_stands we_X12_stands wy_X12_stands rfl wd_X12_stands wi_X12 (ez_rok hRm rfl) (Nat.le_of_ble_eq_true rfl) dX12_worksOn_336 ?_
          refine ez_nmM (fun M37 eM37 => ?_)
          have hs := hs M37 eM37
          refine ez_goto hX 402 dX12_worksOn_339 (by decide) ?_
          have ht : t0 = M37 := hT.symm.trans (by simp only [et_X12_worksOn, if_neg c1, if_pos c8, er33, if_neg c34, if_neg c36, eM37])
          subst ht
          exact ez_vret hX hQ dX12_worksOn_402 rfl rfl
        · -- c36 on
          have hs := hs.1 c36
          refine ez_iconst hX (1 : Int32) dX12_worksOn_80 (by decide) ?_
          refine ez_goto hX 85 dX12_worksOn_81 (by decide) ?_
          refine ez_istore hX [(6, .int (1 : Int32)), (5, .int r33), (4, .int (M.1 123 ((M.1 119 ((14 : Int32)).toNatClampNeg)).toNatClampNeg)), (3, .int (M.1 122 ((M.1 119 ((14 : Int32)).toNatClampNeg)).toNatClampNeg)), (2, .int (M.1 119 ((16 : Int32)).toNatClampNeg)), (1, .int (M.1 119 ((14 : Int32)).toNatClampNeg)), (0, .ref (ez_B X + 118))] dX12_worksOn_85 (ez_lt hnL rfl) rfl ?_
          refine ez_iload_n hX 3 dX12_worksOn_87 rfl ?_
          refine ez_bipush hX (48 : Int32) dX12_worksOn_88 (by decide) ?_
          refine ez_icmp_ne hX 103 dX12_worksOn_90 (by decide) (fun _ => ?_) (fun c => absurd c (by rw [c8] <;> decide))
          refine ez_iload_n hX 3 dX12_worksOn_103 rfl ?_
          refine ez_bipush hX (97 : Int32) dX12_worksOn_104 (by decide) ?_
          refine ez_icmp_ne hX 158 dX12_worksOn_106 (by decide) (fun _ => ?_) (fun c => absurd c (by rw [c8] <;> decide))
          refine ez_iload_n hX 3 dX12_worksOn_158 rfl ?_
          refine ez_bipush hX (91 : Int32) dX12_worksOn_159 (by decide) ?_
          refine ez_icmp_ne hX 229 dX12_worksOn_161 (by decide) (fun _ => ?_) (fun c => absurd c (by rw [c8] <;> decide))
          refine ez_iload_n hX 3 dX12_worksOn_229 rfl ?_
          refine ez_bipush hX (64 : Int32) dX12_worksOn_230 (by decide) ?_
          refine ez_icmp_ne hX 323 dX12_worksOn_232 (by decide) (fun _ => ?_) (fun c => absurd c (by rw [c8] <;> decide))
          refine ez_iload_n hX 3 dX12_worksOn_323 rfl ?_
          refine ez_bipush hX (94 : Int32) dX12_worksOn_324 (by decide) ?_
          refine ez_icmp_ne hX 342 dX12_worksOn_326 (by decide) (fun c => absurd (by rw [c8] <;> decide) c) (fun _ => ?_)
          refine ez_iload hX 0 dX12_worksOn_329 rfl ?_
          refine ez_if_ne hX 342 dX12_worksOn_331 (by decide) (fun _ => ?_) (fun c => absurd c (by decide))
          refine ez_aload_n hX 6 dX12_worksOn_342 rfl ?_
          refine ez_aload_n hX 6 dX12_worksOn_343 rfl ?_
          refine ez_getr hX kc_118 rfl (Nat.le_of_ble_eq_true rfl) lc_118 (Nat.le_of_ble_eq_true rfl) inX12 119 rfl rc_118_0 wf_X12_11 dX12_worksOn_344 ?_
          refine ez_bipush hX (17 : Int32) dX12_worksOn_347 (by decide) ?_
          refine ez_iald hX kc_119 lc_119 (by unfold vp_in; decide) dX12_worksOn_349 ?_
          refine ez_iload_n hX 3 dX12_worksOn_350 rfl ?_
          refine ez_callS hX (N0 := 0) (As := [.int (M.1 122 ((M.1 119 ((14 : Int32)).toNatClampNeg)).toNatClampNeg)]) (st := [.int (M.1 119 ((17 : Int32)).toNatClampNeg), .ref (ez_B X + 118)]) (ec_X12_frameOf _ _ _ M (M.1 122 ((M.1 119 ((14 : Int32)).toNatClampNeg)).toNatClampNeg)) (Or.inl rfl) wm_X12_162 ws_X12_frameOf wy_X12_frameOf rfl wd_X12_frameOf wi_X12 (ez_rok hRm rfl) (Nat.le_of_ble_eq_true rfl) dX12_worksOn_351 ?_
          refine ez_nmI (fun r38 er38 => ?_)
          have hs := hs r38 er38
          refine ez_iload_n hX 5 dX12_worksOn_354 rfl ?_
          refine ez_iload_n hX 4 dX12_worksOn_355 rfl ?_
          refine ez_iconst hX (0 : Int32) dX12_worksOn_356 (by decide) ?_
          refine ez_iconst hX (0 : Int32) dX12_worksOn_357 (by decide) ?_
          refine ez_iload hX 0 dX12_worksOn_358 rfl ?_
          refine ez_if_eq hX 381 dX12_worksOn_360 (by decide) (fun c => absurd c (by decide)) (fun _ => ?_)
          refine ez_aload_n hX 6 dX12_worksOn_363 rfl ?_
          refine ez_getr hX kc_118 rfl (Nat.le_of_ble_eq_true rfl) lc_118 (Nat.le_of_ble_eq_true rfl) inX12 119 rfl rc_118_0 wf_X12_11 dX12_worksOn_364 ?_
          refine ez_sipush hX (2680 : Int32) dX12_worksOn_367 (by decide) ?_
          refine ez_iconst hX (4 : Int32) dX12_worksOn_370 (by decide) ?_
          refine ez_iload hX 1 dX12_worksOn_371 rfl ?_
          refine ez_imul hX dX12_worksOn_373 ?_
          refine ez_iadd hX dX12_worksOn_374 ?_
          refine ez_iconst hX (2 : Int32) dX12_worksOn_375 (by decide) ?_
          refine ez_iadd hX dX12_worksOn_376 ?_
          refine ez_iald hX kc_119 lc_119 hs.1 dX12_worksOn_377 ?_
          have hs := hs.2
          refine ez_goto hX 382 dX12_worksOn_378 (by decide) ?_
          refine ez_callV hX (N0 := 0) (As := [.int (M.1 119 ((17 : Int32)).toNatClampNeg), .int r38, .int (M.1 119 ((14 : Int32)).toNatClampNeg), .int (M.1 119 ((16 : Int32)).toNatClampNeg), .int (0 : Int32), .int (0 : Int32), .int (M.1 119 ((((2680 : Int32) + ((4 : Int32) * r33)) + (2 : Int32))).toNatClampNeg)]) (st := []) kc_118 (Nat.le_of_ble_eq_true rfl) lc_118 rfl (ec_X12_comes _ _ _ M (M.1 119 ((17 : Int32)).toNatClampNeg) r38 (M.1 119 ((14 : Int32)).toNatClampNeg) (M.1 119 ((16 : Int32)).toNatClampNeg) (0 : Int32) (0 : Int32) (M.1 119 ((((2680 : Int32) + ((4 : Int32) * r33)) + (2 : Int32))).toNatClampNeg) hs.1) (Or.inl rfl) wm_X12_150 wv_X12_comes we_X12_comes wy_X12_comes rfl wd_X12_comes wi_X12 (ez_rok hRm rfl) (Nat.le_of_ble_eq_true rfl) dX12_worksOn_382 ?_
          have hs := hs.2
          refine ez_nmIM (fun r39 M40 eM40 => ?_)
          have hs := hs r39 M40 eM40
          refine ez_if_eq hX 402 dX12_worksOn_385 (by decide) (fun c42 => ?_) (fun c42 => ?_)
          · -- c42 jump
            have hs := hs.1 c42
            have ht : t0 = M40 := hT.symm.trans (by simp only [et_X12_worksOn, if_neg c1, if_pos c8, er33, if_neg c34, if_pos c36, er38, eM40, if_pos c42])
            subst ht
            exact ez_vret hX hQ dX12_worksOn_402 rfl rfl
          · -- c42 on
            have hs := hs.2 c42
            refine ez_aload_n hX 6 dX12_worksOn_388 rfl ?_
            refine ez_aload_n hX 6 dX12_worksOn_389 rfl ?_
            refine ez_getr hX kc_118 rfl (Nat.le_of_ble_eq_true rfl) lc_118 (Nat.le_of_ble_eq_true rfl) inX12 125 rfl rc_118_7 wf_X12_30 dX12_worksOn_390 ?_
            refine ez_iconst hX (5 : Int32) dX12_worksOn_393 (by decide) ?_
            refine ez_iload_n hX 5 dX12_worksOn_394 rfl ?_
            refine ez_imul hX dX12_worksOn_395 ?_
            refine ez_iald hX kc_125 lc_125 hs.1 dX12_worksOn_396 ?_
            have hs := hs.2
            refine ez_iconst hX (0 : Int32) dX12_worksOn_397 (by decide) ?_
            refine ez_iload_n hX 4 dX12_worksOn_398 rfl ?_
            refine ez_callV hX (N0 := 0) (As := [.int (M40.1 125 (((5 : Int32) * (M.1 119 ((14 : Int32)).toNatClampNeg))).toNatClampNeg), .int (0 : Int32), .int (M.1 119 ((16 : Int32)).toNatClampNeg)]) (st := []) kc_118 (Nat.le_of_ble_eq_true rfl) lc_118 rfl (ec_X12_works _ _ _ M40 (M40.1 125 (((5 : Int32) * (M.1 119 ((14 : Int32)).toNatClampNeg))).toNatClampNeg) (0 : Int32) (M.1 119 ((16 : Int32)).toNatClampNeg)) (Or.inl rfl) wm_X12_154 wv_X12_works we_X12_works wy_X12_works rfl wd_X12_works wi_X12 (ez_rok hRm rfl) (Nat.le_of_ble_eq_true rfl) dX12_worksOn_399 ?_
            refine ez_nmM (fun M43 eM43 => ?_)
            have hs := hs M43 eM43
            have ht : t0 = M43 := hT.symm.trans (by simp only [et_X12_worksOn, if_neg c1, if_pos c8, er33, if_neg c34, if_pos c36, er38, eM40, if_neg c42, eM43])
            subst ht
            exact ez_vret hX hQ dX12_worksOn_402 rfl rfl

def et_X12_calls  (M : em_M) (function : Int32) (isEscape : Int32) (v : Int32) : em_M :=
  (if 0 ≤ (M.1 119 (((4 : Int32) + function)).toNatClampNeg) then let q4 := et_X12_bound M (-1 : Int32) (0 : Int32) isEscape v
  let r2 := q4.1
  let M3 := q4.2
  let M5 := et_X12_works M3 ((101 : Int32) * (M.1 119 (((4 : Int32) + function)).toNatClampNeg)) (0 : Int32) r2
  M5 else let M6 := et_X12_stands M (3 : Int32)
  M6)
def es_X12_calls  (M : em_M) (function : Int32) (isEscape : Int32) (v : Int32) : Prop :=
  vp_in ((4 : Int32) + function) 5880 ∧ (((0 ≤ (M.1 119 (((4 : Int32) + function)).toNatClampNeg)) → (es_X12_bound M (-1 : Int32) (0 : Int32) isEscape v ∧ (∀ (r2 : Int32) (M3 : em_M), et_X12_bound M (-1 : Int32) (0 : Int32) isEscape v = (r2, M3) → (
  ∀ M5 : em_M, et_X12_works M3 ((101 : Int32) * (M.1 119 (((4 : Int32) + function)).toNatClampNeg)) (0 : Int32) r2 = M5 → (
  True))))) ∧
  (¬ (0 ≤ (M.1 119 (((4 : Int32) + function)).toNatClampNeg)) → (∀ M6 : em_M, et_X12_stands M (3 : Int32) = M6 → (
  True))))
set_option maxHeartbeats 4000000 in
set_option maxRecDepth 100000 in
theorem ec_X12_calls (l : Launch) (D : em_G) (B : Nat) (M : em_M) (function : Int32) (isEscape : Int32) (v : Int32) (hs : es_X12_calls M function isEscape v) : em_C l D B yX12_calls cX12_calls 5 none 1 26 0 0 false [.ref (B + 118), .int function, .int isEscape, .int v] 132 em_R M (none) 132 em_R ((et_X12_calls M function isEscape v)) := by
  refine em_C_of RX12 [(0, .ref (B + 118)), (1, .int function), (2, .int isEscape), (3, .int v)] (by decide) rfl rfl (Nat.le_of_ble_eq_true rfl) ?_
  rintro X rfl rfl rfl hRm hnL hnm hsz hX hQ
  obtain ⟨t0, hT⟩ : ∃ tz, et_X12_calls M function isEscape v = tz := ⟨_, rfl⟩
  rw [hT] at hQ
  rw [es_X12_calls] at hs
  refine ez_aload_n hX 0 dX12_calls_0 rfl ?_
  refine ez_getr hX kc_118 rfl (Nat.le_of_ble_eq_true rfl) lc_118 (Nat.le_of_ble_eq_true rfl) inX12 119 rfl rc_118_0 wf_X12_11 dX12_calls_1 ?_
  refine ez_iconst hX (4 : Int32) dX12_calls_4 (by decide) ?_
  refine ez_iload_n hX 1 dX12_calls_5 rfl ?_
  refine ez_iadd hX dX12_calls_6 ?_
  refine ez_iald hX kc_119 lc_119 hs.1 dX12_calls_7 ?_
  have hs := hs.2
  refine ez_istore hX [(4, .int (M.1 119 (((4 : Int32) + function)).toNatClampNeg)), (0, .ref (ez_B X + 118)), (1, .int function), (2, .int isEscape), (3, .int v)] dX12_calls_8 (ez_lt hnL rfl) rfl ?_
  refine ez_iload hX 0 dX12_calls_10 rfl ?_
  refine ez_if_ge hX 23 dX12_calls_12 (by decide) (fun c1 => ?_) (fun c1 => ?_)
  · -- c1 jump
    have hs := hs.1 c1
    refine ez_aload_n hX 1 dX12_calls_23 rfl ?_
    refine ez_bipush hX (101 : Int32) dX12_calls_24 (by decide) ?_
    refine ez_iload hX 0 dX12_calls_26 rfl ?_
    refine ez_imul hX dX12_calls_28 ?_
    refine ez_iconst hX (0 : Int32) dX12_calls_29 (by decide) ?_
    refine ez_aload_n hX 1 dX12_calls_30 rfl ?_
    refine ez_iconst hX (-1 : Int32) dX12_calls_31 (by decide) ?_
    refine ez_iconst hX (0 : Int32) dX12_calls_32 (by decide) ?_
    refine ez_iload_n hX 3 dX12_calls_33 rfl ?_
    refine ez_iload_n hX 4 dX12_calls_34 rfl ?_
    refine ez_callV hX (N0 := 0) (As := [.int (-1 : Int32), .int (0 : Int32), .int isEscape, .int v]) (st := [.int (0 : Int32), .int ((101 : Int32) * (M.1 119 (((4 : Int32) + function)).toNatClampNeg)), .ref (ez_B X + 118)]) kc_118 (Nat.le_of_ble_eq_true rfl) lc_118 rfl (ec_X12_bound _ _ _ M (-1 : Int32) (0 : Int32) isEscape v hs.1) (Or.inl rfl) wm_X12_158 wv_X12_bound we_X12_bound wy_X12_bound rfl wd_X12_bound wi_X12 (ez_rok hRm rfl) (Nat.le_of_ble_eq_true rfl) dX12_calls_35 ?_
    have hs := hs.2
    refine ez_nmIM (fun r2 M3 eM3 => ?_)
    have hs := hs r2 M3 eM3
    refine ez_callV hX (N0 := 0) (As := [.int ((101 : Int32) * (M.1 119 (((4 : Int32) + function)).toNatClampNeg)), .int (0 : Int32), .int r2]) (st := []) kc_118 (Nat.le_of_ble_eq_true rfl) lc_118 rfl (ec_X12_works _ _ _ M3 ((101 : Int32) * (M.1 119 (((4 : Int32) + function)).toNatClampNeg)) (0 : Int32) r2) (Or.inl rfl) wm_X12_154 wv_X12_works we_X12_works wy_X12_works rfl wd_X12_works wi_X12 (ez_rok hRm rfl) (Nat.le_of_ble_eq_true rfl) dX12_calls_38 ?_
    refine ez_nmM (fun M5 eM5 => ?_)
    have hs := hs M5 eM5
    have ht : t0 = M5 := hT.symm.trans (by simp only [et_X12_calls, if_pos c1, eM3, eM5])
    subst ht
    exact ez_vret hX hQ dX12_calls_41 rfl rfl
  · -- c1 on
    have hs := hs.2 c1
    refine ez_aload_n hX 1 dX12_calls_15 rfl ?_
    refine ez_iconst hX (3 : Int32) dX12_calls_16 (by decide) ?_
    refine ez_callV hX (N0 := 0) (As := [.int (3 : Int32)]) (st := []) kc_118 (Nat.le_of_ble_eq_true rfl) lc_118 rfl (ec_X12_stands _ _ _ M (3 : Int32)) (Or.inl rfl) wm_X12_139 wv_X12_stands we_X12_stands wy_X12_stands rfl wd_X12_stands wi_X12 (ez_rok hRm rfl) (Nat.le_of_ble_eq_true rfl) dX12_calls_17 ?_
    refine ez_nmM (fun M6 eM6 => ?_)
    have hs := hs M6 eM6
    refine ez_goto hX 41 dX12_calls_20 (by decide) ?_
    have ht : t0 = M6 := hT.symm.trans (by simp only [et_X12_calls, if_neg c1, eM6])
    subst ht
    exact ez_vret hX hQ dX12_calls_41 rfl rfl

def et_X12_goesOnFrom_2   : Nat → em_M → Int32 → Int32 → Int32
  | 0, _, _, _ => 0
  | fu + 1, M, there, w =>
  (if w < 0 then w else (if (M.1 119 ((((3960 : Int32) + ((4 : Int32) * w)) + (2 : Int32))).toNatClampNeg) = there then w else et_X12_goesOnFrom_2 fu M there (M.1 119 ((((3960 : Int32) + ((4 : Int32) * w)) + (2 : Int32))).toNatClampNeg)))
def es_X12_goesOnFrom_2   : Nat → em_M → Int32 → Int32 → Prop
  | 0, _, _, _ => False
  | fu + 1, M, there, w =>
  ((w < 0) → (True)) ∧
  (¬ (w < 0) → (vp_in (((3960 : Int32) + ((4 : Int32) * w)) + (2 : Int32)) 5880 ∧ ((((M.1 119 ((((3960 : Int32) + ((4 : Int32) * w)) + (2 : Int32))).toNatClampNeg) = there) → (True)) ∧
  (¬ ((M.1 119 ((((3960 : Int32) + ((4 : Int32) * w)) + (2 : Int32))).toNatClampNeg) = there) → (vp_in (((3960 : Int32) + ((4 : Int32) * w)) + (2 : Int32)) 5880 ∧ (es_X12_goesOnFrom_2 fu M there (M.1 119 ((((3960 : Int32) + ((4 : Int32) * w)) + (2 : Int32))).toNatClampNeg)))))))
def et_X12_goesOnFrom  (M : em_M) (keptWinders : Int32) (there : Int32) : Int32 :=
  et_X12_goesOnFrom_2 400 M there keptWinders
def es_X12_goesOnFrom  (M : em_M) (keptWinders : Int32) (there : Int32) : Prop :=
  es_X12_goesOnFrom_2 400 M there keptWinders
set_option maxHeartbeats 4000000 in
set_option maxRecDepth 100000 in
theorem el_X12_goesOnFrom_2 (X : em_X)    (t0 : Int32) (hRm : ez_rm X = { frames := 0, cells := 0, slots := 0, locals := 0 }) (hnL : ez_nL X = 4) (hX : ez_ok X cX12_goesOnFrom RX12) (M : em_M) (hQ : ez_ret X (some .int) (some (.int t0)) 132 em_R (M) 0 0) : ∀ (fu : Nat) (there : Int32) (w : Int32), es_X12_goesOnFrom_2  fu M there w → et_X12_goesOnFrom_2  fu M there w = t0 → ez_Z X 132 em_R M 0 0 2 [(0, .ref (ez_B X + 118)), (2, .int there), (3, .int w)] [] := by
  intro fu
  induction fu with
  | zero =>
    intro there w hs hT
    exact False.elim hs
  | succ fu ih =>
    intro there w hs hT
    rw [es_X12_goesOnFrom_2] at hs
    refine ez_iload_n hX 2 dX12_goesOnFrom_2 rfl ?_
    refine ez_if_lt hX 42 dX12_goesOnFrom_3 (by decide) (fun c1 => ?_) (fun c1 => ?_)
    · -- c1 jump
      have hs := hs.1 c1
      refine ez_iload_n hX 2 dX12_goesOnFrom_42 rfl ?_
      have ht : t0 = w := hT.symm.trans (by simp only [et_X12_goesOnFrom_2, if_pos c1])
      subst ht
      exact ez_iret hX hQ dX12_goesOnFrom_43 rfl rfl
    · -- c1 on
      have hs := hs.2 c1
      refine ez_aload_n hX 0 dX12_goesOnFrom_6 rfl ?_
      refine ez_getr hX kc_118 rfl (Nat.le_of_ble_eq_true rfl) lc_118 (Nat.le_of_ble_eq_true rfl) inX12 119 rfl rc_118_0 wf_X12_11 dX12_goesOnFrom_7 ?_
      refine ez_sipush hX (3960 : Int32) dX12_goesOnFrom_10 (by decide) ?_
      refine ez_iconst hX (4 : Int32) dX12_goesOnFrom_13 (by decide) ?_
      refine ez_iload_n hX 2 dX12_goesOnFrom_14 rfl ?_
      refine ez_imul hX dX12_goesOnFrom_15 ?_
      refine ez_iadd hX dX12_goesOnFrom_16 ?_
      refine ez_iconst hX (2 : Int32) dX12_goesOnFrom_17 (by decide) ?_
      refine ez_iadd hX dX12_goesOnFrom_18 ?_
      refine ez_iald hX kc_119 lc_119 hs.1 dX12_goesOnFrom_19 ?_
      have hs := hs.2
      refine ez_iload_n hX 1 dX12_goesOnFrom_20 rfl ?_
      refine ez_icmp_eq hX 42 dX12_goesOnFrom_21 (by decide) (fun c2 => ?_) (fun c2 => ?_)
      · -- c2 jump
        have hs := hs.1 c2
        refine ez_iload_n hX 2 dX12_goesOnFrom_42 rfl ?_
        have ht : t0 = w := hT.symm.trans (by simp only [et_X12_goesOnFrom_2, if_neg c1, if_pos c2])
        subst ht
        exact ez_iret hX hQ dX12_goesOnFrom_43 rfl rfl
      · -- c2 on
        have hs := hs.2 c2
        refine ez_aload_n hX 0 dX12_goesOnFrom_24 rfl ?_
        refine ez_getr hX kc_118 rfl (Nat.le_of_ble_eq_true rfl) lc_118 (Nat.le_of_ble_eq_true rfl) inX12 119 rfl rc_118_0 wf_X12_11 dX12_goesOnFrom_25 ?_
        refine ez_sipush hX (3960 : Int32) dX12_goesOnFrom_28 (by decide) ?_
        refine ez_iconst hX (4 : Int32) dX12_goesOnFrom_31 (by decide) ?_
        refine ez_iload_n hX 2 dX12_goesOnFrom_32 rfl ?_
        refine ez_imul hX dX12_goesOnFrom_33 ?_
        refine ez_iadd hX dX12_goesOnFrom_34 ?_
        refine ez_iconst hX (2 : Int32) dX12_goesOnFrom_35 (by decide) ?_
        refine ez_iadd hX dX12_goesOnFrom_36 ?_
        refine ez_iald hX kc_119 lc_119 hs.1 dX12_goesOnFrom_37 ?_
        have hs := hs.2
        refine ez_istore_n hX [(3, .int (M.1 119 ((((3960 : Int32) + ((4 : Int32) * w)) + (2 : Int32))).toNatClampNeg)), (0, .ref (ez_B X + 118)), (2, .int there)] dX12_goesOnFrom_38 (ez_lt hnL rfl) rfl ?_
        refine ez_goto hX 2 dX12_goesOnFrom_39 (by decide) ?_
        refine ez_lv [1, 2, 0] rfl ?_
        exact ih there (M.1 119 ((((3960 : Int32) + ((4 : Int32) * w)) + (2 : Int32))).toNatClampNeg) hs (Eq.trans (by simp only [et_X12_goesOnFrom_2, if_neg c1, if_neg c2]) hT)
set_option maxHeartbeats 4000000 in
set_option maxRecDepth 100000 in
theorem ec_X12_goesOnFrom (l : Launch) (D : em_G) (B : Nat) (M : em_M) (keptWinders : Int32) (there : Int32) (hs : es_X12_goesOnFrom M keptWinders there) : em_C l D B yX12_goesOnFrom cX12_goesOnFrom 4 (some .int) 0 0 0 0 false [.ref (B + 118), .int keptWinders, .int there] 132 em_R M (some (.int (et_X12_goesOnFrom M keptWinders there))) 132 em_R (M) := by
  refine em_C_of RX12 [(0, .ref (B + 118)), (1, .int keptWinders), (2, .int there)] (by decide) rfl rfl (Nat.le_of_ble_eq_true rfl) ?_
  rintro X rfl rfl rfl hRm hnL hnm hsz hX hQ
  obtain ⟨t0, hT⟩ : ∃ tz, et_X12_goesOnFrom M keptWinders there = tz := ⟨_, rfl⟩
  rw [hT] at hQ
  rw [es_X12_goesOnFrom] at hs
  refine ez_iload_n hX 1 dX12_goesOnFrom_0 rfl ?_
  refine ez_istore_n hX [(3, .int keptWinders), (0, .ref (ez_B X + 118)), (1, .int keptWinders), (2, .int there)] dX12_goesOnFrom_1 (ez_lt hnL rfl) rfl ?_
  refine ez_lv [1, 3, 0] rfl ?_
  exact el_X12_goesOnFrom_2 X  t0 hRm hnL hX M hQ 400 there keptWinders hs (Eq.trans (by simp only [et_X12_goesOnFrom]) hT)

def et_X12_goes  (M : em_M) (escape : Int32) (isEscape : Int32) (v : Int32) : em_M :=
  (if (M.1 119 ((18 : Int32)).toNatClampNeg) = (M.1 119 ((((5240 : Int32) + ((2 : Int32) * escape)) + (1 : Int32))).toNatClampNeg) then let M15 := em_pI M 119 ((17 : Int32)).toNatClampNeg (M.1 119 (((5240 : Int32) + ((2 : Int32) * escape))).toNatClampNeg)
  let M16 := et_X12_gives M15 isEscape v
  M16 else let r2 := et_X12_goesOnFrom M (M.1 119 ((((5240 : Int32) + ((2 : Int32) * escape)) + (1 : Int32))).toNatClampNeg) (M.1 119 ((18 : Int32)).toNatClampNeg)
  (if 0 ≤ r2 then let q6 := et_X12_comes M (-1 : Int32) (13 : Int32) r2 (-1 : Int32) isEscape v escape
  let r4 := q6.1
  let M5 := q6.2
  (if r4 = 0 then M5 else let M8 := et_X12_works M5 (M5.1 125 ((((5 : Int32) * (M.1 119 (((3960 : Int32) + ((4 : Int32) * r2))).toNatClampNeg)) + (0 : Int32))).toNatClampNeg) (0 : Int32) (M5.1 119 ((((3960 : Int32) + ((4 : Int32) * r2)) + (1 : Int32))).toNatClampNeg)
  M8) else let M9 := em_pI M 119 ((18 : Int32)).toNatClampNeg (M.1 119 ((((3960 : Int32) + ((4 : Int32) * (M.1 119 ((18 : Int32)).toNatClampNeg))) + (2 : Int32))).toNatClampNeg)
  let q12 := et_X12_comes M9 (-1 : Int32) (12 : Int32) (M.1 119 ((18 : Int32)).toNatClampNeg) (-1 : Int32) isEscape v escape
  let r10 := q12.1
  let M11 := q12.2
  (if r10 = 0 then M11 else let M14 := et_X12_works M11 (M11.1 125 ((((5 : Int32) * (M9.1 119 (((3960 : Int32) + ((4 : Int32) * (M.1 119 ((18 : Int32)).toNatClampNeg)))).toNatClampNeg)) + (2 : Int32))).toNatClampNeg) (0 : Int32) (M11.1 119 ((((3960 : Int32) + ((4 : Int32) * (M.1 119 ((18 : Int32)).toNatClampNeg))) + (1 : Int32))).toNatClampNeg)
  M14)))
def es_X12_goes  (M : em_M) (escape : Int32) (isEscape : Int32) (v : Int32) : Prop :=
  vp_in (((5240 : Int32) + ((2 : Int32) * escape)) + (1 : Int32)) 5880 ∧ ((((M.1 119 ((18 : Int32)).toNatClampNeg) = (M.1 119 ((((5240 : Int32) + ((2 : Int32) * escape)) + (1 : Int32))).toNatClampNeg)) → (vp_in ((5240 : Int32) + ((2 : Int32) * escape)) 5880 ∧ (∀ M15 : em_M, em_pI M 119 ((17 : Int32)).toNatClampNeg (M.1 119 (((5240 : Int32) + ((2 : Int32) * escape))).toNatClampNeg) = M15 → (
  ∀ M16 : em_M, et_X12_gives M15 isEscape v = M16 → (
  True))))) ∧
  (¬ ((M.1 119 ((18 : Int32)).toNatClampNeg) = (M.1 119 ((((5240 : Int32) + ((2 : Int32) * escape)) + (1 : Int32))).toNatClampNeg)) → (es_X12_goesOnFrom M (M.1 119 ((((5240 : Int32) + ((2 : Int32) * escape)) + (1 : Int32))).toNatClampNeg) (M.1 119 ((18 : Int32)).toNatClampNeg) ∧ (∀ r2 : Int32, et_X12_goesOnFrom M (M.1 119 ((((5240 : Int32) + ((2 : Int32) * escape)) + (1 : Int32))).toNatClampNeg) (M.1 119 ((18 : Int32)).toNatClampNeg) = r2 → (
  ((0 ≤ r2) → (vp_in ((3960 : Int32) + ((4 : Int32) * r2)) 5880 ∧ (es_X12_comes M (-1 : Int32) (13 : Int32) r2 (-1 : Int32) isEscape v escape ∧ (∀ (r4 : Int32) (M5 : em_M), et_X12_comes M (-1 : Int32) (13 : Int32) r2 (-1 : Int32) isEscape v escape = (r4, M5) → (
  ((r4 = 0) → (True)) ∧
  (¬ (r4 = 0) → (vp_in (((5 : Int32) * (M.1 119 (((3960 : Int32) + ((4 : Int32) * r2))).toNatClampNeg)) + (0 : Int32)) 4040 ∧ (vp_in (((3960 : Int32) + ((4 : Int32) * r2)) + (1 : Int32)) 5880 ∧ (∀ M8 : em_M, et_X12_works M5 (M5.1 125 ((((5 : Int32) * (M.1 119 (((3960 : Int32) + ((4 : Int32) * r2))).toNatClampNeg)) + (0 : Int32))).toNatClampNeg) (0 : Int32) (M5.1 119 ((((3960 : Int32) + ((4 : Int32) * r2)) + (1 : Int32))).toNatClampNeg) = M8 → (
  True)))))))))) ∧
  (¬ (0 ≤ r2) → (vp_in (((3960 : Int32) + ((4 : Int32) * (M.1 119 ((18 : Int32)).toNatClampNeg))) + (2 : Int32)) 5880 ∧ (∀ M9 : em_M, em_pI M 119 ((18 : Int32)).toNatClampNeg (M.1 119 ((((3960 : Int32) + ((4 : Int32) * (M.1 119 ((18 : Int32)).toNatClampNeg))) + (2 : Int32))).toNatClampNeg) = M9 → (
  vp_in ((3960 : Int32) + ((4 : Int32) * (M.1 119 ((18 : Int32)).toNatClampNeg))) 5880 ∧ (es_X12_comes M9 (-1 : Int32) (12 : Int32) (M.1 119 ((18 : Int32)).toNatClampNeg) (-1 : Int32) isEscape v escape ∧ (∀ (r10 : Int32) (M11 : em_M), et_X12_comes M9 (-1 : Int32) (12 : Int32) (M.1 119 ((18 : Int32)).toNatClampNeg) (-1 : Int32) isEscape v escape = (r10, M11) → (
  ((r10 = 0) → (True)) ∧
  (¬ (r10 = 0) → (vp_in (((5 : Int32) * (M9.1 119 (((3960 : Int32) + ((4 : Int32) * (M.1 119 ((18 : Int32)).toNatClampNeg)))).toNatClampNeg)) + (2 : Int32)) 4040 ∧ (vp_in (((3960 : Int32) + ((4 : Int32) * (M.1 119 ((18 : Int32)).toNatClampNeg))) + (1 : Int32)) 5880 ∧ (∀ M14 : em_M, et_X12_works M11 (M11.1 125 ((((5 : Int32) * (M9.1 119 (((3960 : Int32) + ((4 : Int32) * (M.1 119 ((18 : Int32)).toNatClampNeg)))).toNatClampNeg)) + (2 : Int32))).toNatClampNeg) (0 : Int32) (M11.1 119 ((((3960 : Int32) + ((4 : Int32) * (M.1 119 ((18 : Int32)).toNatClampNeg))) + (1 : Int32))).toNatClampNeg) = M14 → (
  True)))))))))))))))))
set_option maxHeartbeats 4000000 in
set_option maxRecDepth 100000 in
theorem ec_X12_goes (l : Launch) (D : em_G) (B : Nat) (M : em_M) (escape : Int32) (isEscape : Int32) (v : Int32) (hs : es_X12_goes M escape isEscape v) : em_C l D B yX12_goes cX12_goes 9 none 2 50 0 0 false [.ref (B + 118), .int escape, .int isEscape, .int v] 132 em_R M (none) 132 em_R ((et_X12_goes M escape isEscape v)) := by
  refine em_C_of RX12 [(0, .ref (B + 118)), (1, .int escape), (2, .int isEscape), (3, .int v)] (by decide) rfl rfl (Nat.le_of_ble_eq_true rfl) ?_
  rintro X rfl rfl rfl hRm hnL hnm hsz hX hQ
  obtain ⟨t0, hT⟩ : ∃ tz, et_X12_goes M escape isEscape v = tz := ⟨_, rfl⟩
  rw [hT] at hQ
  rw [es_X12_goes] at hs
  refine ez_aload_n hX 0 dX12_goes_0 rfl ?_
  refine ez_getr hX kc_118 rfl (Nat.le_of_ble_eq_true rfl) lc_118 (Nat.le_of_ble_eq_true rfl) inX12 119 rfl rc_118_0 wf_X12_11 dX12_goes_1 ?_
  refine ez_bipush hX (18 : Int32) dX12_goes_4 (by decide) ?_
  refine ez_iald hX kc_119 lc_119 (by unfold vp_in; decide) dX12_goes_6 ?_
  refine ez_istore hX [(4, .int (M.1 119 ((18 : Int32)).toNatClampNeg)), (0, .ref (ez_B X + 118)), (1, .int escape), (2, .int isEscape), (3, .int v)] dX12_goes_7 (ez_lt hnL rfl) rfl ?_
  refine ez_aload_n hX 1 dX12_goes_9 rfl ?_
  refine ez_getr hX kc_118 rfl (Nat.le_of_ble_eq_true rfl) lc_118 (Nat.le_of_ble_eq_true rfl) inX12 119 rfl rc_118_0 wf_X12_11 dX12_goes_10 ?_
  refine ez_sipush hX (5240 : Int32) dX12_goes_13 (by decide) ?_
  refine ez_iconst hX (2 : Int32) dX12_goes_16 (by decide) ?_
  refine ez_iload_n hX 2 dX12_goes_17 rfl ?_
  refine ez_imul hX dX12_goes_18 ?_
  refine ez_iadd hX dX12_goes_19 ?_
  refine ez_iconst hX (1 : Int32) dX12_goes_20 (by decide) ?_
  refine ez_iadd hX dX12_goes_21 ?_
  refine ez_iald hX kc_119 lc_119 hs.1 dX12_goes_22 ?_
  have hs := hs.2
  refine ez_istore hX [(5, .int (M.1 119 ((((5240 : Int32) + ((2 : Int32) * escape)) + (1 : Int32))).toNatClampNeg)), (4, .int (M.1 119 ((18 : Int32)).toNatClampNeg)), (0, .ref (ez_B X + 118)), (1, .int escape), (2, .int isEscape), (3, .int v)] dX12_goes_23 (ez_lt hnL rfl) rfl ?_
  refine ez_iload hX 1 dX12_goes_25 rfl ?_
  refine ez_iload hX 0 dX12_goes_27 rfl ?_
  refine ez_icmp_ne hX 58 dX12_goes_29 (by decide) (fun c1 => ?_) (fun c1 => ?_)
  · -- c1 jump
    have hs := hs.2 c1
    refine ez_aload_n hX 2 dX12_goes_58 rfl ?_
    refine ez_iload hX 0 dX12_goes_59 rfl ?_
    refine ez_iload hX 1 dX12_goes_61 rfl ?_
    refine ez_callV hX (N0 := 0) (As := [.int (M.1 119 ((((5240 : Int32) + ((2 : Int32) * escape)) + (1 : Int32))).toNatClampNeg), .int (M.1 119 ((18 : Int32)).toNatClampNeg)]) (st := []) kc_118 (Nat.le_of_ble_eq_true rfl) lc_118 rfl (ec_X12_goesOnFrom _ _ _ M (M.1 119 ((((5240 : Int32) + ((2 : Int32) * escape)) + (1 : Int32))).toNatClampNeg) (M.1 119 ((18 : Int32)).toNatClampNeg) hs.1) (Or.inl rfl) wm_X12_179 wv_X12_goesOnFrom we_X12_goesOnFrom wy_X12_goesOnFrom rfl wd_X12_goesOnFrom wi_X12 (ez_rok hRm rfl) (Nat.le_of_ble_eq_true rfl) dX12_goes_63 ?_
    have hs := hs.2
    refine ez_nmI (fun r2 er2 => ?_)
    have hs := hs r2 er2
    refine ez_istore hX [(6, .int r2), (5, .int (M.1 119 ((((5240 : Int32) + ((2 : Int32) * escape)) + (1 : Int32))).toNatClampNeg)), (4, .int (M.1 119 ((18 : Int32)).toNatClampNeg)), (0, .ref (ez_B X + 118)), (1, .int escape), (2, .int isEscape), (3, .int v)] dX12_goes_66 (ez_lt hnL rfl) rfl ?_
    refine ez_iload hX 0 dX12_goes_68 rfl ?_
    refine ez_if_ge hX 78 dX12_goes_70 (by decide) (fun c3 => ?_) (fun c3 => ?_)
    · -- c3 jump
      have hs := hs.1 c3
      refine ez_iload hX 0 dX12_goes_78 rfl ?_
      refine ez_istore hX [(7, .int r2), (6, .int r2), (5, .int (M.1 119 ((((5240 : Int32) + ((2 : Int32) * escape)) + (1 : Int32))).toNatClampNeg)), (4, .int (M.1 119 ((18 : Int32)).toNatClampNeg)), (0, .ref (ez_B X + 118)), (1, .int escape), (2, .int isEscape), (3, .int v)] dX12_goes_80 (ez_lt hnL rfl) rfl ?_
      refine ez_iload hX 1 dX12_goes_82 rfl ?_
      refine ez_if_ge hX 109 dX12_goes_84 (by decide) (fun _ => ?_) (fun c => absurd c3 c)
      refine ez_aload_n hX 4 dX12_goes_109 rfl ?_
      refine ez_getr hX kc_118 rfl (Nat.le_of_ble_eq_true rfl) lc_118 (Nat.le_of_ble_eq_true rfl) inX12 119 rfl rc_118_0 wf_X12_11 dX12_goes_110 ?_
      refine ez_sipush hX (3960 : Int32) dX12_goes_113 (by decide) ?_
      refine ez_iconst hX (4 : Int32) dX12_goes_116 (by decide) ?_
      refine ez_iload hX 0 dX12_goes_117 rfl ?_
      refine ez_imul hX dX12_goes_119 ?_
      refine ez_iadd hX dX12_goes_120 ?_
      refine ez_iald hX kc_119 lc_119 hs.1 dX12_goes_121 ?_
      have hs := hs.2
      refine ez_istore hX [(8, .int (M.1 119 (((3960 : Int32) + ((4 : Int32) * r2))).toNatClampNeg)), (7, .int r2), (6, .int r2), (5, .int (M.1 119 ((((5240 : Int32) + ((2 : Int32) * escape)) + (1 : Int32))).toNatClampNeg)), (4, .int (M.1 119 ((18 : Int32)).toNatClampNeg)), (0, .ref (ez_B X + 118)), (1, .int escape), (2, .int isEscape), (3, .int v)] dX12_goes_122 (ez_lt hnL rfl) rfl ?_
      refine ez_aload_n hX 5 dX12_goes_124 rfl ?_
      refine ez_iconst hX (-1 : Int32) dX12_goes_125 (by decide) ?_
      refine ez_iload hX 2 dX12_goes_126 rfl ?_
      refine ez_if_ge hX 136 dX12_goes_128 (by decide) (fun _ => ?_) (fun c => absurd c3 c)
      refine ez_bipush hX (13 : Int32) dX12_goes_136 (by decide) ?_
      refine ez_iload hX 1 dX12_goes_138 rfl ?_
      refine ez_iconst hX (-1 : Int32) dX12_goes_140 (by decide) ?_
      refine ez_iload_n hX 7 dX12_goes_141 rfl ?_
      refine ez_iload_n hX 8 dX12_goes_142 rfl ?_
      refine ez_iload_n hX 6 dX12_goes_143 rfl ?_
      refine ez_callV hX (N0 := 0) (As := [.int (-1 : Int32), .int (13 : Int32), .int r2, .int (-1 : Int32), .int isEscape, .int v, .int escape]) (st := []) kc_118 (Nat.le_of_ble_eq_true rfl) lc_118 rfl (ec_X12_comes _ _ _ M (-1 : Int32) (13 : Int32) r2 (-1 : Int32) isEscape v escape hs.1) (Or.inl rfl) wm_X12_150 wv_X12_comes we_X12_comes wy_X12_comes rfl wd_X12_comes wi_X12 (ez_rok hRm rfl) (Nat.le_of_ble_eq_true rfl) dX12_goes_144 ?_
      have hs := hs.2
      refine ez_nmIM (fun r4 M5 eM5 => ?_)
      have hs := hs r4 M5 eM5
      refine ez_if_eq hX 190 dX12_goes_147 (by decide) (fun c7 => ?_) (fun c7 => ?_)
      · -- c7 jump
        have hs := hs.1 c7
        have ht : t0 = M5 := hT.symm.trans (by simp only [et_X12_goes, if_neg c1, er2, if_pos c3, eM5, if_pos c7])
        subst ht
        exact ez_vret hX hQ dX12_goes_190 rfl rfl
      · -- c7 on
        have hs := hs.2 c7
        refine ez_aload_n hX 5 dX12_goes_150 rfl ?_
        refine ez_aload_n hX 5 dX12_goes_151 rfl ?_
        refine ez_getr hX kc_118 rfl (Nat.le_of_ble_eq_true rfl) lc_118 (Nat.le_of_ble_eq_true rfl) inX12 125 rfl rc_118_7 wf_X12_30 dX12_goes_152 ?_
        refine ez_iconst hX (5 : Int32) dX12_goes_155 (by decide) ?_
        refine ez_iload hX 0 dX12_goes_156 rfl ?_
        refine ez_imul hX dX12_goes_158 ?_
        refine ez_iload hX 2 dX12_goes_159 rfl ?_
        refine ez_if_ge hX 168 dX12_goes_161 (by decide) (fun _ => ?_) (fun c => absurd c3 c)
        refine ez_iconst hX (0 : Int32) dX12_goes_168 (by decide) ?_
        refine ez_iadd hX dX12_goes_169 ?_
        refine ez_iald hX kc_125 lc_125 hs.1 dX12_goes_170 ?_
        have hs := hs.2
        refine ez_iconst hX (0 : Int32) dX12_goes_171 (by decide) ?_
        refine ez_aload_n hX 5 dX12_goes_172 rfl ?_
        refine ez_getr hX kc_118 rfl (Nat.le_of_ble_eq_true rfl) lc_118 (Nat.le_of_ble_eq_true rfl) inX12 119 rfl rc_118_0 wf_X12_11 dX12_goes_173 ?_
        refine ez_sipush hX (3960 : Int32) dX12_goes_176 (by decide) ?_
        refine ez_iconst hX (4 : Int32) dX12_goes_179 (by decide) ?_
        refine ez_iload hX 1 dX12_goes_180 rfl ?_
        refine ez_imul hX dX12_goes_182 ?_
        refine ez_iadd hX dX12_goes_183 ?_
        refine ez_iconst hX (1 : Int32) dX12_goes_184 (by decide) ?_
        refine ez_iadd hX dX12_goes_185 ?_
        refine ez_iald hX kc_119 lc_119 hs.1 dX12_goes_186 ?_
        have hs := hs.2
        refine ez_callV hX (N0 := 0) (As := [.int (M5.1 125 ((((5 : Int32) * (M.1 119 (((3960 : Int32) + ((4 : Int32) * r2))).toNatClampNeg)) + (0 : Int32))).toNatClampNeg), .int (0 : Int32), .int (M5.1 119 ((((3960 : Int32) + ((4 : Int32) * r2)) + (1 : Int32))).toNatClampNeg)]) (st := []) kc_118 (Nat.le_of_ble_eq_true rfl) lc_118 rfl (ec_X12_works _ _ _ M5 (M5.1 125 ((((5 : Int32) * (M.1 119 (((3960 : Int32) + ((4 : Int32) * r2))).toNatClampNeg)) + (0 : Int32))).toNatClampNeg) (0 : Int32) (M5.1 119 ((((3960 : Int32) + ((4 : Int32) * r2)) + (1 : Int32))).toNatClampNeg)) (Or.inl rfl) wm_X12_154 wv_X12_works we_X12_works wy_X12_works rfl wd_X12_works wi_X12 (ez_rok hRm rfl) (Nat.le_of_ble_eq_true rfl) dX12_goes_187 ?_
        refine ez_nmM (fun M8 eM8 => ?_)
        have hs := hs M8 eM8
        have ht : t0 = M8 := hT.symm.trans (by simp only [et_X12_goes, if_neg c1, er2, if_pos c3, eM5, if_neg c7, eM8])
        subst ht
        exact ez_vret hX hQ dX12_goes_190 rfl rfl
    · -- c3 on
      have hs := hs.2 c3
      refine ez_iload hX 2 dX12_goes_73 rfl ?_
      refine ez_goto hX 80 dX12_goes_75 (by decide) ?_
      refine ez_istore hX [(7, .int (M.1 119 ((18 : Int32)).toNatClampNeg)), (6, .int r2), (5, .int (M.1 119 ((((5240 : Int32) + ((2 : Int32) * escape)) + (1 : Int32))).toNatClampNeg)), (4, .int (M.1 119 ((18 : Int32)).toNatClampNeg)), (0, .ref (ez_B X + 118)), (1, .int escape), (2, .int isEscape), (3, .int v)] dX12_goes_80 (ez_lt hnL rfl) rfl ?_
      refine ez_iload hX 1 dX12_goes_82 rfl ?_
      refine ez_if_ge hX 109 dX12_goes_84 (by decide) (fun c => absurd c c3) (fun _ => ?_)
      refine ez_aload_n hX 4 dX12_goes_87 rfl ?_
      refine ez_getr hX kc_118 rfl (Nat.le_of_ble_eq_true rfl) lc_118 (Nat.le_of_ble_eq_true rfl) inX12 119 rfl rc_118_0 wf_X12_11 dX12_goes_88 ?_
      refine ez_bipush hX (18 : Int32) dX12_goes_91 (by decide) ?_
      refine ez_aload_n hX 4 dX12_goes_93 rfl ?_
      refine ez_getr hX kc_118 rfl (Nat.le_of_ble_eq_true rfl) lc_118 (Nat.le_of_ble_eq_true rfl) inX12 119 rfl rc_118_0 wf_X12_11 dX12_goes_94 ?_
      refine ez_sipush hX (3960 : Int32) dX12_goes_97 (by decide) ?_
      refine ez_iconst hX (4 : Int32) dX12_goes_100 (by decide) ?_
      refine ez_iload hX 3 dX12_goes_101 rfl ?_
      refine ez_imul hX dX12_goes_103 ?_
      refine ez_iadd hX dX12_goes_104 ?_
      refine ez_iconst hX (2 : Int32) dX12_goes_105 (by decide) ?_
      refine ez_iadd hX dX12_goes_106 ?_
      refine ez_iald hX kc_119 lc_119 hs.1 dX12_goes_107 ?_
      have hs := hs.2
      refine ez_iast hX kc_119 lc_119 (by unfold vp_in; decide) dX12_goes_108 ?_
      refine ez_nmM (fun M9 eM9 => ?_)
      have hs := hs M9 eM9
      refine ez_aload_n hX 4 dX12_goes_109 rfl ?_
      refine ez_getr hX kc_118 rfl (Nat.le_of_ble_eq_true rfl) lc_118 (Nat.le_of_ble_eq_true rfl) inX12 119 rfl rc_118_0 wf_X12_11 dX12_goes_110 ?_
      refine ez_sipush hX (3960 : Int32) dX12_goes_113 (by decide) ?_
      refine ez_iconst hX (4 : Int32) dX12_goes_116 (by decide) ?_
      refine ez_iload hX 0 dX12_goes_117 rfl ?_
      refine ez_imul hX dX12_goes_119 ?_
      refine ez_iadd hX dX12_goes_120 ?_
      refine ez_iald hX kc_119 lc_119 hs.1 dX12_goes_121 ?_
      have hs := hs.2
      refine ez_istore hX [(8, .int (M9.1 119 (((3960 : Int32) + ((4 : Int32) * (M.1 119 ((18 : Int32)).toNatClampNeg)))).toNatClampNeg)), (7, .int (M.1 119 ((18 : Int32)).toNatClampNeg)), (6, .int r2), (5, .int (M.1 119 ((((5240 : Int32) + ((2 : Int32) * escape)) + (1 : Int32))).toNatClampNeg)), (4, .int (M.1 119 ((18 : Int32)).toNatClampNeg)), (0, .ref (ez_B X + 118)), (1, .int escape), (2, .int isEscape), (3, .int v)] dX12_goes_122 (ez_lt hnL rfl) rfl ?_
      refine ez_aload_n hX 5 dX12_goes_124 rfl ?_
      refine ez_iconst hX (-1 : Int32) dX12_goes_125 (by decide) ?_
      refine ez_iload hX 2 dX12_goes_126 rfl ?_
      refine ez_if_ge hX 136 dX12_goes_128 (by decide) (fun c => absurd c c3) (fun _ => ?_)
      refine ez_bipush hX (12 : Int32) dX12_goes_131 (by decide) ?_
      refine ez_goto hX 138 dX12_goes_133 (by decide) ?_
      refine ez_iload hX 1 dX12_goes_138 rfl ?_
      refine ez_iconst hX (-1 : Int32) dX12_goes_140 (by decide) ?_
      refine ez_iload_n hX 7 dX12_goes_141 rfl ?_
      refine ez_iload_n hX 8 dX12_goes_142 rfl ?_
      refine ez_iload_n hX 6 dX12_goes_143 rfl ?_
      refine ez_callV hX (N0 := 0) (As := [.int (-1 : Int32), .int (12 : Int32), .int (M.1 119 ((18 : Int32)).toNatClampNeg), .int (-1 : Int32), .int isEscape, .int v, .int escape]) (st := []) kc_118 (Nat.le_of_ble_eq_true rfl) lc_118 rfl (ec_X12_comes _ _ _ M9 (-1 : Int32) (12 : Int32) (M.1 119 ((18 : Int32)).toNatClampNeg) (-1 : Int32) isEscape v escape hs.1) (Or.inl rfl) wm_X12_150 wv_X12_comes we_X12_comes wy_X12_comes rfl wd_X12_comes wi_X12 (ez_rok hRm rfl) (Nat.le_of_ble_eq_true rfl) dX12_goes_144 ?_
      have hs := hs.2
      refine ez_nmIM (fun r10 M11 eM11 => ?_)
      have hs := hs r10 M11 eM11
      refine ez_if_eq hX 190 dX12_goes_147 (by decide) (fun c13 => ?_) (fun c13 => ?_)
      · -- c13 jump
        have hs := hs.1 c13
        have ht : t0 = M11 := hT.symm.trans (by simp only [et_X12_goes, if_neg c1, er2, if_neg c3, eM9, eM11, if_pos c13])
        subst ht
        exact ez_vret hX hQ dX12_goes_190 rfl rfl
      · -- c13 on
        have hs := hs.2 c13
        refine ez_aload_n hX 5 dX12_goes_150 rfl ?_
        refine ez_aload_n hX 5 dX12_goes_151 rfl ?_
        refine ez_getr hX kc_118 rfl (Nat.le_of_ble_eq_true rfl) lc_118 (Nat.le_of_ble_eq_true rfl) inX12 125 rfl rc_118_7 wf_X12_30 dX12_goes_152 ?_
        refine ez_iconst hX (5 : Int32) dX12_goes_155 (by decide) ?_
        refine ez_iload hX 0 dX12_goes_156 rfl ?_
        refine ez_imul hX dX12_goes_158 ?_
        refine ez_iload hX 2 dX12_goes_159 rfl ?_
        refine ez_if_ge hX 168 dX12_goes_161 (by decide) (fun c => absurd c c3) (fun _ => ?_)
        refine ez_iconst hX (2 : Int32) dX12_goes_164 (by decide) ?_
        refine ez_goto hX 169 dX12_goes_165 (by decide) ?_
        refine ez_iadd hX dX12_goes_169 ?_
        refine ez_iald hX kc_125 lc_125 hs.1 dX12_goes_170 ?_
        have hs := hs.2
        refine ez_iconst hX (0 : Int32) dX12_goes_171 (by decide) ?_
        refine ez_aload_n hX 5 dX12_goes_172 rfl ?_
        refine ez_getr hX kc_118 rfl (Nat.le_of_ble_eq_true rfl) lc_118 (Nat.le_of_ble_eq_true rfl) inX12 119 rfl rc_118_0 wf_X12_11 dX12_goes_173 ?_
        refine ez_sipush hX (3960 : Int32) dX12_goes_176 (by decide) ?_
        refine ez_iconst hX (4 : Int32) dX12_goes_179 (by decide) ?_
        refine ez_iload hX 1 dX12_goes_180 rfl ?_
        refine ez_imul hX dX12_goes_182 ?_
        refine ez_iadd hX dX12_goes_183 ?_
        refine ez_iconst hX (1 : Int32) dX12_goes_184 (by decide) ?_
        refine ez_iadd hX dX12_goes_185 ?_
        refine ez_iald hX kc_119 lc_119 hs.1 dX12_goes_186 ?_
        have hs := hs.2
        refine ez_callV hX (N0 := 0) (As := [.int (M11.1 125 ((((5 : Int32) * (M9.1 119 (((3960 : Int32) + ((4 : Int32) * (M.1 119 ((18 : Int32)).toNatClampNeg)))).toNatClampNeg)) + (2 : Int32))).toNatClampNeg), .int (0 : Int32), .int (M11.1 119 ((((3960 : Int32) + ((4 : Int32) * (M.1 119 ((18 : Int32)).toNatClampNeg))) + (1 : Int32))).toNatClampNeg)]) (st := []) kc_118 (Nat.le_of_ble_eq_true rfl) lc_118 rfl (ec_X12_works _ _ _ M11 (M11.1 125 ((((5 : Int32) * (M9.1 119 (((3960 : Int32) + ((4 : Int32) * (M.1 119 ((18 : Int32)).toNatClampNeg)))).toNatClampNeg)) + (2 : Int32))).toNatClampNeg) (0 : Int32) (M11.1 119 ((((3960 : Int32) + ((4 : Int32) * (M.1 119 ((18 : Int32)).toNatClampNeg))) + (1 : Int32))).toNatClampNeg)) (Or.inl rfl) wm_X12_154 wv_X12_works we_X12_works wy_X12_works rfl wd_X12_works wi_X12 (ez_rok hRm rfl) (Nat.le_of_ble_eq_true rfl) dX12_goes_187 ?_
        refine ez_nmM (fun M14 eM14 => ?_)
        have hs := hs M14 eM14
        have ht : t0 = M14 := hT.symm.trans (by simp only [et_X12_goes, if_neg c1, er2, if_neg c3, eM9, eM11, if_neg c13, eM14])
        subst ht
        exact ez_vret hX hQ dX12_goes_190 rfl rfl
  · -- c1 on
    have hs := hs.1 c1
    refine ez_aload_n hX 2 dX12_goes_32 rfl ?_
    refine ez_getr hX kc_118 rfl (Nat.le_of_ble_eq_true rfl) lc_118 (Nat.le_of_ble_eq_true rfl) inX12 119 rfl rc_118_0 wf_X12_11 dX12_goes_33 ?_
    refine ez_bipush hX (17 : Int32) dX12_goes_36 (by decide) ?_
    refine ez_aload_n hX 2 dX12_goes_38 rfl ?_
    refine ez_getr hX kc_118 rfl (Nat.le_of_ble_eq_true rfl) lc_118 (Nat.le_of_ble_eq_true rfl) inX12 119 rfl rc_118_0 wf_X12_11 dX12_goes_39 ?_
    refine ez_sipush hX (5240 : Int32) dX12_goes_42 (by decide) ?_
    refine ez_iconst hX (2 : Int32) dX12_goes_45 (by decide) ?_
    refine ez_iload_n hX 3 dX12_goes_46 rfl ?_
    refine ez_imul hX dX12_goes_47 ?_
    refine ez_iadd hX dX12_goes_48 ?_
    refine ez_iald hX kc_119 lc_119 hs.1 dX12_goes_49 ?_
    have hs := hs.2
    refine ez_iast hX kc_119 lc_119 (by unfold vp_in; decide) dX12_goes_50 ?_
    refine ez_nmM (fun M15 eM15 => ?_)
    have hs := hs M15 eM15
    refine ez_aload_n hX 2 dX12_goes_51 rfl ?_
    refine ez_iload_n hX 4 dX12_goes_52 rfl ?_
    refine ez_iload_n hX 5 dX12_goes_53 rfl ?_
    refine ez_callV hX (N0 := 0) (As := [.int isEscape, .int v]) (st := []) kc_118 (Nat.le_of_ble_eq_true rfl) lc_118 rfl (ec_X12_gives _ _ _ M15 isEscape v) (Or.inl rfl) wm_X12_146 wv_X12_gives we_X12_gives wy_X12_gives rfl wd_X12_gives wi_X12 (ez_rok hRm rfl) (Nat.le_of_ble_eq_true rfl) dX12_goes_54 ?_
    refine ez_nmM (fun M16 eM16 => ?_)
    have hs := hs M16 eM16
    have ht : t0 = M16 := hT.symm.trans (by simp only [et_X12_goes, if_pos c1, eM15, eM16])
    subst ht
    exact ez_vret hX hQ dX12_goes_57 rfl rfl

def et_X12_winds  (M : em_M) (k : Int32) (what : Int32) (e : Int32) (scope : Int32) (isEscape : Int32) (v : Int32) : em_M :=
  (if what = (9 : Int32) then let q17 := et_X12_comes M (M.1 119 ((17 : Int32)).toNatClampNeg) (10 : Int32) e scope (0 : Int32) (0 : Int32) (0 : Int32)
  let r15 := q17.1
  let M16 := q17.2
  (if r15 = 0 then M16 else let M19 := em_pI M16 119 (((3960 : Int32) + ((4 : Int32) * (M.1 119 ((23 : Int32)).toNatClampNeg)))).toNatClampNeg e
  let M20 := em_pI M19 119 ((((3960 : Int32) + ((4 : Int32) * (M.1 119 ((23 : Int32)).toNatClampNeg))) + (1 : Int32))).toNatClampNeg scope
  let M21 := em_pI M20 119 ((((3960 : Int32) + ((4 : Int32) * (M.1 119 ((23 : Int32)).toNatClampNeg))) + (2 : Int32))).toNatClampNeg (M.1 119 ((18 : Int32)).toNatClampNeg)
  let M22 := em_pI M21 119 ((23 : Int32)).toNatClampNeg ((M.1 119 ((23 : Int32)).toNatClampNeg) + (1 : Int32))
  let M23 := em_pI M22 119 ((18 : Int32)).toNatClampNeg (M.1 119 ((23 : Int32)).toNatClampNeg)
  let M24 := et_X12_works M23 (M23.1 125 ((((5 : Int32) * e) + (1 : Int32))).toNatClampNeg) (0 : Int32) scope
  M24) else (if what = (10 : Int32) then let q11 := et_X12_comes M (M.1 119 ((17 : Int32)).toNatClampNeg) (11 : Int32) e scope isEscape v (0 : Int32)
  let r9 := q11.1
  let M10 := q11.2
  (if r9 = 0 then M10 else let M13 := em_pI M10 119 ((18 : Int32)).toNatClampNeg (M10.1 119 ((((3960 : Int32) + ((4 : Int32) * (M.1 119 ((18 : Int32)).toNatClampNeg))) + (2 : Int32))).toNatClampNeg)
  let M14 := et_X12_works M13 (M13.1 125 ((((5 : Int32) * e) + (2 : Int32))).toNatClampNeg) (0 : Int32) scope
  M14) else (if what = (11 : Int32) then let M8 := et_X12_gives M (M.1 119 ((k + (3 : Int32))).toNatClampNeg) (M.1 119 ((k + (4 : Int32))).toNatClampNeg)
  M8 else (if what = (13 : Int32) then let M6 := em_pI M 119 ((18 : Int32)).toNatClampNeg e
  let M7 := et_X12_goes M6 (M6.1 119 ((k + (7 : Int32))).toNatClampNeg) (M6.1 119 ((k + (3 : Int32))).toNatClampNeg) (M6.1 119 ((k + (4 : Int32))).toNatClampNeg)
  M7 else let M5 := et_X12_goes M (M.1 119 ((k + (7 : Int32))).toNatClampNeg) (M.1 119 ((k + (3 : Int32))).toNatClampNeg) (M.1 119 ((k + (4 : Int32))).toNatClampNeg)
  M5))))
def es_X12_winds  (M : em_M) (k : Int32) (what : Int32) (e : Int32) (scope : Int32) (isEscape : Int32) (v : Int32) : Prop :=
  ((what = (9 : Int32)) → (es_X12_comes M (M.1 119 ((17 : Int32)).toNatClampNeg) (10 : Int32) e scope (0 : Int32) (0 : Int32) (0 : Int32) ∧ (∀ (r15 : Int32) (M16 : em_M), et_X12_comes M (M.1 119 ((17 : Int32)).toNatClampNeg) (10 : Int32) e scope (0 : Int32) (0 : Int32) (0 : Int32) = (r15, M16) → (
  ((r15 = 0) → (True)) ∧
  (¬ (r15 = 0) → (vp_in ((3960 : Int32) + ((4 : Int32) * (M.1 119 ((23 : Int32)).toNatClampNeg))) 5880 ∧ (∀ M19 : em_M, em_pI M16 119 (((3960 : Int32) + ((4 : Int32) * (M.1 119 ((23 : Int32)).toNatClampNeg)))).toNatClampNeg e = M19 → (
  vp_in (((3960 : Int32) + ((4 : Int32) * (M.1 119 ((23 : Int32)).toNatClampNeg))) + (1 : Int32)) 5880 ∧ (∀ M20 : em_M, em_pI M19 119 ((((3960 : Int32) + ((4 : Int32) * (M.1 119 ((23 : Int32)).toNatClampNeg))) + (1 : Int32))).toNatClampNeg scope = M20 → (
  vp_in (((3960 : Int32) + ((4 : Int32) * (M.1 119 ((23 : Int32)).toNatClampNeg))) + (2 : Int32)) 5880 ∧ (∀ M21 : em_M, em_pI M20 119 ((((3960 : Int32) + ((4 : Int32) * (M.1 119 ((23 : Int32)).toNatClampNeg))) + (2 : Int32))).toNatClampNeg (M.1 119 ((18 : Int32)).toNatClampNeg) = M21 → (
  ∀ M22 : em_M, em_pI M21 119 ((23 : Int32)).toNatClampNeg ((M.1 119 ((23 : Int32)).toNatClampNeg) + (1 : Int32)) = M22 → (
  ∀ M23 : em_M, em_pI M22 119 ((18 : Int32)).toNatClampNeg (M.1 119 ((23 : Int32)).toNatClampNeg) = M23 → (
  vp_in (((5 : Int32) * e) + (1 : Int32)) 4040 ∧ (∀ M24 : em_M, et_X12_works M23 (M23.1 125 ((((5 : Int32) * e) + (1 : Int32))).toNatClampNeg) (0 : Int32) scope = M24 → (
  True)))))))))))))))) ∧
  (¬ (what = (9 : Int32)) → (((what = (10 : Int32)) → (es_X12_comes M (M.1 119 ((17 : Int32)).toNatClampNeg) (11 : Int32) e scope isEscape v (0 : Int32) ∧ (∀ (r9 : Int32) (M10 : em_M), et_X12_comes M (M.1 119 ((17 : Int32)).toNatClampNeg) (11 : Int32) e scope isEscape v (0 : Int32) = (r9, M10) → (
  ((r9 = 0) → (True)) ∧
  (¬ (r9 = 0) → (vp_in (((3960 : Int32) + ((4 : Int32) * (M.1 119 ((18 : Int32)).toNatClampNeg))) + (2 : Int32)) 5880 ∧ (∀ M13 : em_M, em_pI M10 119 ((18 : Int32)).toNatClampNeg (M10.1 119 ((((3960 : Int32) + ((4 : Int32) * (M.1 119 ((18 : Int32)).toNatClampNeg))) + (2 : Int32))).toNatClampNeg) = M13 → (
  vp_in (((5 : Int32) * e) + (2 : Int32)) 4040 ∧ (∀ M14 : em_M, et_X12_works M13 (M13.1 125 ((((5 : Int32) * e) + (2 : Int32))).toNatClampNeg) (0 : Int32) scope = M14 → (
  True)))))))))) ∧
  (¬ (what = (10 : Int32)) → (((what = (11 : Int32)) → (vp_in (k + (3 : Int32)) 5880 ∧ (vp_in (k + (4 : Int32)) 5880 ∧ (∀ M8 : em_M, et_X12_gives M (M.1 119 ((k + (3 : Int32))).toNatClampNeg) (M.1 119 ((k + (4 : Int32))).toNatClampNeg) = M8 → (
  True))))) ∧
  (¬ (what = (11 : Int32)) → (((what = (13 : Int32)) → (∀ M6 : em_M, em_pI M 119 ((18 : Int32)).toNatClampNeg e = M6 → (
  vp_in (k + (7 : Int32)) 5880 ∧ (vp_in (k + (3 : Int32)) 5880 ∧ (vp_in (k + (4 : Int32)) 5880 ∧ (es_X12_goes M6 (M6.1 119 ((k + (7 : Int32))).toNatClampNeg) (M6.1 119 ((k + (3 : Int32))).toNatClampNeg) (M6.1 119 ((k + (4 : Int32))).toNatClampNeg) ∧ (∀ M7 : em_M, et_X12_goes M6 (M6.1 119 ((k + (7 : Int32))).toNatClampNeg) (M6.1 119 ((k + (3 : Int32))).toNatClampNeg) (M6.1 119 ((k + (4 : Int32))).toNatClampNeg) = M7 → (
  True)))))))) ∧
  (¬ (what = (13 : Int32)) → (vp_in (k + (7 : Int32)) 5880 ∧ (vp_in (k + (3 : Int32)) 5880 ∧ (vp_in (k + (4 : Int32)) 5880 ∧ (es_X12_goes M (M.1 119 ((k + (7 : Int32))).toNatClampNeg) (M.1 119 ((k + (3 : Int32))).toNatClampNeg) (M.1 119 ((k + (4 : Int32))).toNatClampNeg) ∧ (∀ M5 : em_M, et_X12_goes M (M.1 119 ((k + (7 : Int32))).toNatClampNeg) (M.1 119 ((k + (3 : Int32))).toNatClampNeg) (M.1 119 ((k + (4 : Int32))).toNatClampNeg) = M5 → (
  True)))))))))))))
set_option maxHeartbeats 4000000 in
set_option maxRecDepth 100000 in
theorem ec_X12_winds (l : Launch) (D : em_G) (B : Nat) (M : em_M) (k : Int32) (what : Int32) (e : Int32) (scope : Int32) (isEscape : Int32) (v : Int32) (hs : es_X12_winds M k what e scope isEscape v) : em_C l D B yX12_winds cX12_winds 9 none 3 78 0 0 false [.ref (B + 118), .int k, .int what, .int e, .int scope, .int isEscape, .int v] 132 em_R M (none) 132 em_R ((et_X12_winds M k what e scope isEscape v)) := by
  refine em_C_of RX12 [(0, .ref (B + 118)), (1, .int k), (2, .int what), (3, .int e), (4, .int scope), (5, .int isEscape), (6, .int v)] (by decide) rfl rfl (Nat.le_of_ble_eq_true rfl) ?_
  rintro X rfl rfl rfl hRm hnL hnm hsz hX hQ
  obtain ⟨t0, hT⟩ : ∃ tz, et_X12_winds M k what e scope isEscape v = tz := ⟨_, rfl⟩
  rw [hT] at hQ
  rw [es_X12_winds] at hs
  refine ez_aload_n hX 0 dX12_winds_0 rfl ?_
  refine ez_getr hX kc_118 rfl (Nat.le_of_ble_eq_true rfl) lc_118 (Nat.le_of_ble_eq_true rfl) inX12 119 rfl rc_118_0 wf_X12_11 dX12_winds_1 ?_
  refine ez_bipush hX (18 : Int32) dX12_winds_4 (by decide) ?_
  refine ez_iald hX kc_119 lc_119 (by unfold vp_in; decide) dX12_winds_6 ?_
  refine ez_istore hX [(7, .int (M.1 119 ((18 : Int32)).toNatClampNeg)), (0, .ref (ez_B X + 118)), (1, .int k), (2, .int what), (3, .int e), (4, .int scope), (5, .int isEscape), (6, .int v)] dX12_winds_7 (ez_lt hnL rfl) rfl ?_
  refine ez_iload_n hX 3 dX12_winds_9 rfl ?_
  refine ez_bipush hX (9 : Int32) dX12_winds_10 (by decide) ?_
  refine ez_icmp_ne hX 134 dX12_winds_12 (by decide) (fun c1 => ?_) (fun c1 => ?_)
  · -- c1 jump
    have hs := hs.2 c1
    refine ez_iload_n hX 3 dX12_winds_134 rfl ?_
    refine ez_bipush hX (10 : Int32) dX12_winds_135 (by decide) ?_
    refine ez_icmp_ne hX 206 dX12_winds_137 (by decide) (fun c2 => ?_) (fun c2 => ?_)
    · -- c2 jump
      have hs := hs.2 c2
      refine ez_iload_n hX 3 dX12_winds_206 rfl ?_
      refine ez_bipush hX (11 : Int32) dX12_winds_207 (by decide) ?_
      refine ez_icmp_ne hX 235 dX12_winds_209 (by decide) (fun c3 => ?_) (fun c3 => ?_)
      · -- c3 jump
        have hs := hs.2 c3
        refine ez_iload_n hX 3 dX12_winds_235 rfl ?_
        refine ez_bipush hX (13 : Int32) dX12_winds_236 (by decide) ?_
        refine ez_icmp_ne hX 249 dX12_winds_238 (by decide) (fun c4 => ?_) (fun c4 => ?_)
        · -- c4 jump
          have hs := hs.2 c4
          refine ez_aload_n hX 1 dX12_winds_249 rfl ?_
          refine ez_aload_n hX 1 dX12_winds_250 rfl ?_
          refine ez_getr hX kc_118 rfl (Nat.le_of_ble_eq_true rfl) lc_118 (Nat.le_of_ble_eq_true rfl) inX12 119 rfl rc_118_0 wf_X12_11 dX12_winds_251 ?_
          refine ez_iload_n hX 2 dX12_winds_254 rfl ?_
          refine ez_bipush hX (7 : Int32) dX12_winds_255 (by decide) ?_
          refine ez_iadd hX dX12_winds_257 ?_
          refine ez_iald hX kc_119 lc_119 hs.1 dX12_winds_258 ?_
          have hs := hs.2
          refine ez_aload_n hX 1 dX12_winds_259 rfl ?_
          refine ez_getr hX kc_118 rfl (Nat.le_of_ble_eq_true rfl) lc_118 (Nat.le_of_ble_eq_true rfl) inX12 119 rfl rc_118_0 wf_X12_11 dX12_winds_260 ?_
          refine ez_iload_n hX 2 dX12_winds_263 rfl ?_
          refine ez_iconst hX (3 : Int32) dX12_winds_264 (by decide) ?_
          refine ez_iadd hX dX12_winds_265 ?_
          refine ez_iald hX kc_119 lc_119 hs.1 dX12_winds_266 ?_
          have hs := hs.2
          refine ez_aload_n hX 1 dX12_winds_267 rfl ?_
          refine ez_getr hX kc_118 rfl (Nat.le_of_ble_eq_true rfl) lc_118 (Nat.le_of_ble_eq_true rfl) inX12 119 rfl rc_118_0 wf_X12_11 dX12_winds_268 ?_
          refine ez_iload_n hX 2 dX12_winds_271 rfl ?_
          refine ez_iconst hX (4 : Int32) dX12_winds_272 (by decide) ?_
          refine ez_iadd hX dX12_winds_273 ?_
          refine ez_iald hX kc_119 lc_119 hs.1 dX12_winds_274 ?_
          have hs := hs.2
          refine ez_callV hX (N0 := 0) (As := [.int (M.1 119 ((k + (7 : Int32))).toNatClampNeg), .int (M.1 119 ((k + (3 : Int32))).toNatClampNeg), .int (M.1 119 ((k + (4 : Int32))).toNatClampNeg)]) (st := []) kc_118 (Nat.le_of_ble_eq_true rfl) lc_118 rfl (ec_X12_goes _ _ _ M (M.1 119 ((k + (7 : Int32))).toNatClampNeg) (M.1 119 ((k + (3 : Int32))).toNatClampNeg) (M.1 119 ((k + (4 : Int32))).toNatClampNeg) hs.1) (Or.inl rfl) wm_X12_172 wv_X12_goes we_X12_goes wy_X12_goes rfl wd_X12_goes wi_X12 (ez_rok hRm rfl) (Nat.le_of_ble_eq_true rfl) dX12_winds_275 ?_
          have hs := hs.2
          refine ez_nmM (fun M5 eM5 => ?_)
          have hs := hs M5 eM5
          have ht : t0 = M5 := hT.symm.trans (by simp only [et_X12_winds, if_neg c1, if_neg c2, if_neg c3, if_neg c4, eM5])
          subst ht
          exact ez_vret hX hQ dX12_winds_278 rfl rfl
        · -- c4 on
          have hs := hs.1 c4
          refine ez_aload_n hX 1 dX12_winds_241 rfl ?_
          refine ez_getr hX kc_118 rfl (Nat.le_of_ble_eq_true rfl) lc_118 (Nat.le_of_ble_eq_true rfl) inX12 119 rfl rc_118_0 wf_X12_11 dX12_winds_242 ?_
          refine ez_bipush hX (18 : Int32) dX12_winds_245 (by decide) ?_
          refine ez_iload_n hX 4 dX12_winds_247 rfl ?_
          refine ez_iast hX kc_119 lc_119 (by unfold vp_in; decide) dX12_winds_248 ?_
          refine ez_nmM (fun M6 eM6 => ?_)
          have hs := hs M6 eM6
          refine ez_aload_n hX 1 dX12_winds_249 rfl ?_
          refine ez_aload_n hX 1 dX12_winds_250 rfl ?_
          refine ez_getr hX kc_118 rfl (Nat.le_of_ble_eq_true rfl) lc_118 (Nat.le_of_ble_eq_true rfl) inX12 119 rfl rc_118_0 wf_X12_11 dX12_winds_251 ?_
          refine ez_iload_n hX 2 dX12_winds_254 rfl ?_
          refine ez_bipush hX (7 : Int32) dX12_winds_255 (by decide) ?_
          refine ez_iadd hX dX12_winds_257 ?_
          refine ez_iald hX kc_119 lc_119 hs.1 dX12_winds_258 ?_
          have hs := hs.2
          refine ez_aload_n hX 1 dX12_winds_259 rfl ?_
          refine ez_getr hX kc_118 rfl (Nat.le_of_ble_eq_true rfl) lc_118 (Nat.le_of_ble_eq_true rfl) inX12 119 rfl rc_118_0 wf_X12_11 dX12_winds_260 ?_
          refine ez_iload_n hX 2 dX12_winds_263 rfl ?_
          refine ez_iconst hX (3 : Int32) dX12_winds_264 (by decide) ?_
          refine ez_iadd hX dX12_winds_265 ?_
          refine ez_iald hX kc_119 lc_119 hs.1 dX12_winds_266 ?_
          have hs := hs.2
          refine ez_aload_n hX 1 dX12_winds_267 rfl ?_
          refine ez_getr hX kc_118 rfl (Nat.le_of_ble_eq_true rfl) lc_118 (Nat.le_of_ble_eq_true rfl) inX12 119 rfl rc_118_0 wf_X12_11 dX12_winds_268 ?_
          refine ez_iload_n hX 2 dX12_winds_271 rfl ?_
          refine ez_iconst hX (4 : Int32) dX12_winds_272 (by decide) ?_
          refine ez_iadd hX dX12_winds_273 ?_
          refine ez_iald hX kc_119 lc_119 hs.1 dX12_winds_274 ?_
          have hs := hs.2
          refine ez_callV hX (N0 := 0) (As := [.int (M6.1 119 ((k + (7 : Int32))).toNatClampNeg), .int (M6.1 119 ((k + (3 : Int32))).toNatClampNeg), .int (M6.1 119 ((k + (4 : Int32))).toNatClampNeg)]) (st := []) kc_118 (Nat.le_of_ble_eq_true rfl) lc_118 rfl (ec_X12_goes _ _ _ M6 (M6.1 119 ((k + (7 : Int32))).toNatClampNeg) (M6.1 119 ((k + (3 : Int32))).toNatClampNeg) (M6.1 119 ((k + (4 : Int32))).toNatClampNeg) hs.1) (Or.inl rfl) wm_X12_172 wv_X12_goes we_X12_goes wy_X12_goes rfl wd_X12_goes wi_X12 (ez_rok hRm rfl) (Nat.le_of_ble_eq_true rfl) dX12_winds_275 ?_
          have hs := hs.2
          refine ez_nmM (fun M7 eM7 => ?_)
          have hs := hs M7 eM7
          have ht : t0 = M7 := hT.symm.trans (by simp only [et_X12_winds, if_neg c1, if_neg c2, if_neg c3, if_pos c4, eM6, eM7])
          subst ht
          exact ez_vret hX hQ dX12_winds_278 rfl rfl
      · -- c3 on
        have hs := hs.1 c3
        refine ez_aload_n hX 1 dX12_winds_212 rfl ?_
        refine ez_aload_n hX 1 dX12_winds_213 rfl ?_
        refine ez_getr hX kc_118 rfl (Nat.le_of_ble_eq_true rfl) lc_118 (Nat.le_of_ble_eq_true rfl) inX12 119 rfl rc_118_0 wf_X12_11 dX12_winds_214 ?_
        refine ez_iload_n hX 2 dX12_winds_217 rfl ?_
        refine ez_iconst hX (3 : Int32) dX12_winds_218 (by decide) ?_
        refine ez_iadd hX dX12_winds_219 ?_
        refine ez_iald hX kc_119 lc_119 hs.1 dX12_winds_220 ?_
        have hs := hs.2
        refine ez_aload_n hX 1 dX12_winds_221 rfl ?_
        refine ez_getr hX kc_118 rfl (Nat.le_of_ble_eq_true rfl) lc_118 (Nat.le_of_ble_eq_true rfl) inX12 119 rfl rc_118_0 wf_X12_11 dX12_winds_222 ?_
        refine ez_iload_n hX 2 dX12_winds_225 rfl ?_
        refine ez_iconst hX (4 : Int32) dX12_winds_226 (by decide) ?_
        refine ez_iadd hX dX12_winds_227 ?_
        refine ez_iald hX kc_119 lc_119 hs.1 dX12_winds_228 ?_
        have hs := hs.2
        refine ez_callV hX (N0 := 0) (As := [.int (M.1 119 ((k + (3 : Int32))).toNatClampNeg), .int (M.1 119 ((k + (4 : Int32))).toNatClampNeg)]) (st := []) kc_118 (Nat.le_of_ble_eq_true rfl) lc_118 rfl (ec_X12_gives _ _ _ M (M.1 119 ((k + (3 : Int32))).toNatClampNeg) (M.1 119 ((k + (4 : Int32))).toNatClampNeg)) (Or.inl rfl) wm_X12_146 wv_X12_gives we_X12_gives wy_X12_gives rfl wd_X12_gives wi_X12 (ez_rok hRm rfl) (Nat.le_of_ble_eq_true rfl) dX12_winds_229 ?_
        refine ez_nmM (fun M8 eM8 => ?_)
        have hs := hs M8 eM8
        refine ez_goto hX 278 dX12_winds_232 (by decide) ?_
        have ht : t0 = M8 := hT.symm.trans (by simp only [et_X12_winds, if_neg c1, if_neg c2, if_pos c3, eM8])
        subst ht
        exact ez_vret hX hQ dX12_winds_278 rfl rfl
    · -- c2 on
      have hs := hs.1 c2
      refine ez_aload_n hX 1 dX12_winds_140 rfl ?_
      refine ez_aload_n hX 1 dX12_winds_141 rfl ?_
      refine ez_getr hX kc_118 rfl (Nat.le_of_ble_eq_true rfl) lc_118 (Nat.le_of_ble_eq_true rfl) inX12 119 rfl rc_118_0 wf_X12_11 dX12_winds_142 ?_
      refine ez_bipush hX (17 : Int32) dX12_winds_145 (by decide) ?_
      refine ez_iald hX kc_119 lc_119 (by unfold vp_in; decide) dX12_winds_147 ?_
      refine ez_bipush hX (11 : Int32) dX12_winds_148 (by decide) ?_
      refine ez_iload_n hX 4 dX12_winds_150 rfl ?_
      refine ez_iload hX 5 dX12_winds_151 rfl ?_
      refine ez_iload hX 6 dX12_winds_153 rfl ?_
      refine ez_iload hX 7 dX12_winds_155 rfl ?_
      refine ez_iconst hX (0 : Int32) dX12_winds_157 (by decide) ?_
      refine ez_callV hX (N0 := 0) (As := [.int (M.1 119 ((17 : Int32)).toNatClampNeg), .int (11 : Int32), .int e, .int scope, .int isEscape, .int v, .int (0 : Int32)]) (st := []) kc_118 (Nat.le_of_ble_eq_true rfl) lc_118 rfl (ec_X12_comes _ _ _ M (M.1 119 ((17 : Int32)).toNatClampNeg) (11 : Int32) e scope isEscape v (0 : Int32) hs.1) (Or.inl rfl) wm_X12_150 wv_X12_comes we_X12_comes wy_X12_comes rfl wd_X12_comes wi_X12 (ez_rok hRm rfl) (Nat.le_of_ble_eq_true rfl) dX12_winds_158 ?_
      have hs := hs.2
      refine ez_nmIM (fun r9 M10 eM10 => ?_)
      have hs := hs r9 M10 eM10
      refine ez_if_eq hX 278 dX12_winds_161 (by decide) (fun c12 => ?_) (fun c12 => ?_)
      · -- c12 jump
        have hs := hs.1 c12
        have ht : t0 = M10 := hT.symm.trans (by simp only [et_X12_winds, if_neg c1, if_pos c2, eM10, if_pos c12])
        subst ht
        exact ez_vret hX hQ dX12_winds_278 rfl rfl
      · -- c12 on
        have hs := hs.2 c12
        refine ez_aload_n hX 1 dX12_winds_164 rfl ?_
        refine ez_getr hX kc_118 rfl (Nat.le_of_ble_eq_true rfl) lc_118 (Nat.le_of_ble_eq_true rfl) inX12 119 rfl rc_118_0 wf_X12_11 dX12_winds_165 ?_
        refine ez_bipush hX (18 : Int32) dX12_winds_168 (by decide) ?_
        refine ez_aload_n hX 1 dX12_winds_170 rfl ?_
        refine ez_getr hX kc_118 rfl (Nat.le_of_ble_eq_true rfl) lc_118 (Nat.le_of_ble_eq_true rfl) inX12 119 rfl rc_118_0 wf_X12_11 dX12_winds_171 ?_
        refine ez_sipush hX (3960 : Int32) dX12_winds_174 (by decide) ?_
        refine ez_iconst hX (4 : Int32) dX12_winds_177 (by decide) ?_
        refine ez_iload hX 0 dX12_winds_178 rfl ?_
        refine ez_imul hX dX12_winds_180 ?_
        refine ez_iadd hX dX12_winds_181 ?_
        refine ez_iconst hX (2 : Int32) dX12_winds_182 (by decide) ?_
        refine ez_iadd hX dX12_winds_183 ?_
        refine ez_iald hX kc_119 lc_119 hs.1 dX12_winds_184 ?_
        have hs := hs.2
        refine ez_iast hX kc_119 lc_119 (by unfold vp_in; decide) dX12_winds_185 ?_
        refine ez_nmM (fun M13 eM13 => ?_)
        have hs := hs M13 eM13
        refine ez_aload_n hX 1 dX12_winds_186 rfl ?_
        refine ez_aload_n hX 1 dX12_winds_187 rfl ?_
        refine ez_getr hX kc_118 rfl (Nat.le_of_ble_eq_true rfl) lc_118 (Nat.le_of_ble_eq_true rfl) inX12 125 rfl rc_118_7 wf_X12_30 dX12_winds_188 ?_
        refine ez_iconst hX (5 : Int32) dX12_winds_191 (by decide) ?_
        refine ez_iload_n hX 4 dX12_winds_192 rfl ?_
        refine ez_imul hX dX12_winds_193 ?_
        refine ez_iconst hX (2 : Int32) dX12_winds_194 (by decide) ?_
        refine ez_iadd hX dX12_winds_195 ?_
        refine ez_iald hX kc_125 lc_125 hs.1 dX12_winds_196 ?_
        have hs := hs.2
        refine ez_iconst hX (0 : Int32) dX12_winds_197 (by decide) ?_
        refine ez_iload hX 5 dX12_winds_198 rfl ?_
        refine ez_callV hX (N0 := 0) (As := [.int (M13.1 125 ((((5 : Int32) * e) + (2 : Int32))).toNatClampNeg), .int (0 : Int32), .int scope]) (st := []) kc_118 (Nat.le_of_ble_eq_true rfl) lc_118 rfl (ec_X12_works _ _ _ M13 (M13.1 125 ((((5 : Int32) * e) + (2 : Int32))).toNatClampNeg) (0 : Int32) scope) (Or.inl rfl) wm_X12_154 wv_X12_works we_X12_works wy_X12_works rfl wd_X12_works wi_X12 (ez_rok hRm rfl) (Nat.le_of_ble_eq_true rfl) dX12_winds_200 ?_
        refine ez_nmM (fun M14 eM14 => ?_)
        have hs := hs M14 eM14
        refine ez_goto hX 278 dX12_winds_203 (by decide) ?_
        have ht : t0 = M14 := hT.symm.trans (by simp only [et_X12_winds, if_neg c1, if_pos c2, eM10, if_neg c12, eM13, eM14])
        subst ht
        exact ez_vret hX hQ dX12_winds_278 rfl rfl
  · -- c1 on
    have hs := hs.1 c1
    refine ez_aload_n hX 1 dX12_winds_15 rfl ?_
    refine ez_getr hX kc_118 rfl (Nat.le_of_ble_eq_true rfl) lc_118 (Nat.le_of_ble_eq_true rfl) inX12 119 rfl rc_118_0 wf_X12_11 dX12_winds_16 ?_
    refine ez_bipush hX (23 : Int32) dX12_winds_19 (by decide) ?_
    refine ez_iald hX kc_119 lc_119 (by unfold vp_in; decide) dX12_winds_21 ?_
    refine ez_istore hX [(8, .int (M.1 119 ((23 : Int32)).toNatClampNeg)), (7, .int (M.1 119 ((18 : Int32)).toNatClampNeg)), (0, .ref (ez_B X + 118)), (1, .int k), (2, .int what), (3, .int e), (4, .int scope), (5, .int isEscape), (6, .int v)] dX12_winds_22 (ez_lt hnL rfl) rfl ?_
    refine ez_aload_n hX 2 dX12_winds_24 rfl ?_
    refine ez_aload_n hX 2 dX12_winds_25 rfl ?_
    refine ez_getr hX kc_118 rfl (Nat.le_of_ble_eq_true rfl) lc_118 (Nat.le_of_ble_eq_true rfl) inX12 119 rfl rc_118_0 wf_X12_11 dX12_winds_26 ?_
    refine ez_bipush hX (17 : Int32) dX12_winds_29 (by decide) ?_
    refine ez_iald hX kc_119 lc_119 (by unfold vp_in; decide) dX12_winds_31 ?_
    refine ez_bipush hX (10 : Int32) dX12_winds_32 (by decide) ?_
    refine ez_iload_n hX 5 dX12_winds_34 rfl ?_
    refine ez_iload hX 6 dX12_winds_35 rfl ?_
    refine ez_iconst hX (0 : Int32) dX12_winds_37 (by decide) ?_
    refine ez_iconst hX (0 : Int32) dX12_winds_38 (by decide) ?_
    refine ez_iconst hX (0 : Int32) dX12_winds_39 (by decide) ?_
    refine ez_callV hX (N0 := 0) (As := [.int (M.1 119 ((17 : Int32)).toNatClampNeg), .int (10 : Int32), .int e, .int scope, .int (0 : Int32), .int (0 : Int32), .int (0 : Int32)]) (st := []) kc_118 (Nat.le_of_ble_eq_true rfl) lc_118 rfl (ec_X12_comes _ _ _ M (M.1 119 ((17 : Int32)).toNatClampNeg) (10 : Int32) e scope (0 : Int32) (0 : Int32) (0 : Int32) hs.1) (Or.inl rfl) wm_X12_150 wv_X12_comes we_X12_comes wy_X12_comes rfl wd_X12_comes wi_X12 (ez_rok hRm rfl) (Nat.le_of_ble_eq_true rfl) dX12_winds_40 ?_
    have hs := hs.2
    refine ez_nmIM (fun r15 M16 eM16 => ?_)
    have hs := hs r15 M16 eM16
    refine ez_if_eq hX 131 dX12_winds_43 (by decide) (fun c18 => ?_) (fun c18 => ?_)
    · -- c18 jump
      have hs := hs.1 c18
      refine ez_goto hX 278 dX12_winds_131 (by decide) ?_
      have ht : t0 = M16 := hT.symm.trans (by simp only [et_X12_winds, if_pos c1, eM16, if_pos c18])
      subst ht
      exact ez_vret hX hQ dX12_winds_278 rfl rfl
    · -- c18 on
      have hs := hs.2 c18
      refine ez_aload_n hX 2 dX12_winds_46 rfl ?_
      refine ez_getr hX kc_118 rfl (Nat.le_of_ble_eq_true rfl) lc_118 (Nat.le_of_ble_eq_true rfl) inX12 119 rfl rc_118_0 wf_X12_11 dX12_winds_47 ?_
      refine ez_sipush hX (3960 : Int32) dX12_winds_50 (by decide) ?_
      refine ez_iconst hX (4 : Int32) dX12_winds_53 (by decide) ?_
      refine ez_iload hX 0 dX12_winds_54 rfl ?_
      refine ez_imul hX dX12_winds_56 ?_
      refine ez_iadd hX dX12_winds_57 ?_
      refine ez_iload_n hX 5 dX12_winds_58 rfl ?_
      refine ez_iast hX kc_119 lc_119 hs.1 dX12_winds_59 ?_
      have hs := hs.2
      refine ez_nmM (fun M19 eM19 => ?_)
      have hs := hs M19 eM19
      refine ez_aload_n hX 2 dX12_winds_60 rfl ?_
      refine ez_getr hX kc_118 rfl (Nat.le_of_ble_eq_true rfl) lc_118 (Nat.le_of_ble_eq_true rfl) inX12 119 rfl rc_118_0 wf_X12_11 dX12_winds_61 ?_
      refine ez_sipush hX (3960 : Int32) dX12_winds_64 (by decide) ?_
      refine ez_iconst hX (4 : Int32) dX12_winds_67 (by decide) ?_
      refine ez_iload hX 0 dX12_winds_68 rfl ?_
      refine ez_imul hX dX12_winds_70 ?_
      refine ez_iadd hX dX12_winds_71 ?_
      refine ez_iconst hX (1 : Int32) dX12_winds_72 (by decide) ?_
      refine ez_iadd hX dX12_winds_73 ?_
      refine ez_iload hX 6 dX12_winds_74 rfl ?_
      refine ez_iast hX kc_119 lc_119 hs.1 dX12_winds_76 ?_
      have hs := hs.2
      refine ez_nmM (fun M20 eM20 => ?_)
      have hs := hs M20 eM20
      refine ez_aload_n hX 2 dX12_winds_77 rfl ?_
      refine ez_getr hX kc_118 rfl (Nat.le_of_ble_eq_true rfl) lc_118 (Nat.le_of_ble_eq_true rfl) inX12 119 rfl rc_118_0 wf_X12_11 dX12_winds_78 ?_
      refine ez_sipush hX (3960 : Int32) dX12_winds_81 (by decide) ?_
      refine ez_iconst hX (4 : Int32) dX12_winds_84 (by decide) ?_
      refine ez_iload hX 0 dX12_winds_85 rfl ?_
      refine ez_imul hX dX12_winds_87 ?_
      refine ez_iadd hX dX12_winds_88 ?_
      refine ez_iconst hX (2 : Int32) dX12_winds_89 (by decide) ?_
      refine ez_iadd hX dX12_winds_90 ?_
      refine ez_iload hX 1 dX12_winds_91 rfl ?_
      refine ez_iast hX kc_119 lc_119 hs.1 dX12_winds_93 ?_
      have hs := hs.2
      refine ez_nmM (fun M21 eM21 => ?_)
      have hs := hs M21 eM21
      refine ez_aload_n hX 2 dX12_winds_94 rfl ?_
      refine ez_getr hX kc_118 rfl (Nat.le_of_ble_eq_true rfl) lc_118 (Nat.le_of_ble_eq_true rfl) inX12 119 rfl rc_118_0 wf_X12_11 dX12_winds_95 ?_
      refine ez_bipush hX (23 : Int32) dX12_winds_98 (by decide) ?_
      refine ez_iload hX 0 dX12_winds_100 rfl ?_
      refine ez_iconst hX (1 : Int32) dX12_winds_102 (by decide) ?_
      refine ez_iadd hX dX12_winds_103 ?_
      refine ez_iast hX kc_119 lc_119 (by unfold vp_in; decide) dX12_winds_104 ?_
      refine ez_nmM (fun M22 eM22 => ?_)
      have hs := hs M22 eM22
      refine ez_aload_n hX 2 dX12_winds_105 rfl ?_
      refine ez_getr hX kc_118 rfl (Nat.le_of_ble_eq_true rfl) lc_118 (Nat.le_of_ble_eq_true rfl) inX12 119 rfl rc_118_0 wf_X12_11 dX12_winds_106 ?_
      refine ez_bipush hX (18 : Int32) dX12_winds_109 (by decide) ?_
      refine ez_iload hX 0 dX12_winds_111 rfl ?_
      refine ez_iast hX kc_119 lc_119 (by unfold vp_in; decide) dX12_winds_113 ?_
      refine ez_nmM (fun M23 eM23 => ?_)
      have hs := hs M23 eM23
      refine ez_aload_n hX 2 dX12_winds_114 rfl ?_
      refine ez_aload_n hX 2 dX12_winds_115 rfl ?_
      refine ez_getr hX kc_118 rfl (Nat.le_of_ble_eq_true rfl) lc_118 (Nat.le_of_ble_eq_true rfl) inX12 125 rfl rc_118_7 wf_X12_30 dX12_winds_116 ?_
      refine ez_iconst hX (5 : Int32) dX12_winds_119 (by decide) ?_
      refine ez_iload_n hX 5 dX12_winds_120 rfl ?_
      refine ez_imul hX dX12_winds_121 ?_
      refine ez_iconst hX (1 : Int32) dX12_winds_122 (by decide) ?_
      refine ez_iadd hX dX12_winds_123 ?_
      refine ez_iald hX kc_125 lc_125 hs.1 dX12_winds_124 ?_
      have hs := hs.2
      refine ez_iconst hX (0 : Int32) dX12_winds_125 (by decide) ?_
      refine ez_iload hX 6 dX12_winds_126 rfl ?_
      refine ez_callV hX (N0 := 0) (As := [.int (M23.1 125 ((((5 : Int32) * e) + (1 : Int32))).toNatClampNeg), .int (0 : Int32), .int scope]) (st := []) kc_118 (Nat.le_of_ble_eq_true rfl) lc_118 rfl (ec_X12_works _ _ _ M23 (M23.1 125 ((((5 : Int32) * e) + (1 : Int32))).toNatClampNeg) (0 : Int32) scope) (Or.inl rfl) wm_X12_154 wv_X12_works we_X12_works wy_X12_works rfl wd_X12_works wi_X12 (ez_rok hRm rfl) (Nat.le_of_ble_eq_true rfl) dX12_winds_128 ?_
      refine ez_nmM (fun M24 eM24 => ?_)
      have hs := hs M24 eM24
      refine ez_goto hX 278 dX12_winds_131 (by decide) ?_
      have ht : t0 = M24 := hT.symm.trans (by simp only [et_X12_winds, if_pos c1, eM16, if_neg c18, eM19, eM20, eM21, eM22, eM23, eM24])
      subst ht
      exact ez_vret hX hQ dX12_winds_278 rfl rfl

def et_X12_givesOn  (M : em_M) : em_M :=
  (if 0 ≤ (M.1 119 ((17 : Int32)).toNatClampNeg) then (if (M.1 119 (((120 : Int32) + ((8 : Int32) * (M.1 119 ((17 : Int32)).toNatClampNeg)))).toNatClampNeg) = (1 : Int32) then (if (M.1 119 ((19 : Int32)).toNatClampNeg) = (1 : Int32) then let M4 := et_X12_stands M (2 : Int32)
  M4 else (if (M.1 119 ((((120 : Int32) + ((8 : Int32) * (M.1 119 ((17 : Int32)).toNatClampNeg))) + (3 : Int32))).toNatClampNeg) = (1 : Int32) then let M9 := et_X12_stands M (2 : Int32)
  M9 else let M6 := em_pI M 119 ((17 : Int32)).toNatClampNeg (M.1 119 ((((120 : Int32) + ((8 : Int32) * (M.1 119 ((17 : Int32)).toNatClampNeg))) + (5 : Int32))).toNatClampNeg)
  let r7 := et_X12_made M6 (M6.1 122 ((M.1 119 ((((120 : Int32) + ((8 : Int32) * (M.1 119 ((17 : Int32)).toNatClampNeg))) + (1 : Int32))).toNatClampNeg)).toNatClampNeg) (M6.1 119 ((((120 : Int32) + ((8 : Int32) * (M.1 119 ((17 : Int32)).toNatClampNeg))) + (4 : Int32))).toNatClampNeg) (M.1 119 ((20 : Int32)).toNatClampNeg)
  let M8 := et_X12_gives M6 (0 : Int32) r7
  M8)) else (if (M.1 119 (((120 : Int32) + ((8 : Int32) * (M.1 119 ((17 : Int32)).toNatClampNeg)))).toNatClampNeg) = (2 : Int32) then (if (M.1 119 ((19 : Int32)).toNatClampNeg) = (1 : Int32) then let M12 := et_X12_stands M (2 : Int32)
  M12 else let M13 := em_pI M 119 ((17 : Int32)).toNatClampNeg (M.1 119 ((((120 : Int32) + ((8 : Int32) * (M.1 119 ((17 : Int32)).toNatClampNeg))) + (5 : Int32))).toNatClampNeg)
  (if (M.1 119 ((20 : Int32)).toNatClampNeg) = 0 then let M15 := et_X12_works M13 (M13.1 125 ((((5 : Int32) * (M.1 119 ((((120 : Int32) + ((8 : Int32) * (M.1 119 ((17 : Int32)).toNatClampNeg))) + (1 : Int32))).toNatClampNeg)) + (2 : Int32))).toNatClampNeg) (0 : Int32) (M.1 119 ((((120 : Int32) + ((8 : Int32) * (M.1 119 ((17 : Int32)).toNatClampNeg))) + (2 : Int32))).toNatClampNeg)
  M15 else let M16 := et_X12_works M13 (M13.1 125 ((((5 : Int32) * (M.1 119 ((((120 : Int32) + ((8 : Int32) * (M.1 119 ((17 : Int32)).toNatClampNeg))) + (1 : Int32))).toNatClampNeg)) + (1 : Int32))).toNatClampNeg) (0 : Int32) (M.1 119 ((((120 : Int32) + ((8 : Int32) * (M.1 119 ((17 : Int32)).toNatClampNeg))) + (2 : Int32))).toNatClampNeg)
  M16)) else (if (M.1 119 (((120 : Int32) + ((8 : Int32) * (M.1 119 ((17 : Int32)).toNatClampNeg)))).toNatClampNeg) = (7 : Int32) then (if (M.1 119 ((19 : Int32)).toNatClampNeg) = (1 : Int32) then let M19 := et_X12_stands M (2 : Int32)
  M19 else let M20 := em_pI M 119 ((17 : Int32)).toNatClampNeg (M.1 119 ((((120 : Int32) + ((8 : Int32) * (M.1 119 ((17 : Int32)).toNatClampNeg))) + (5 : Int32))).toNatClampNeg)
  (if (40 : Int32) ≤ (M20.1 119 ((12 : Int32)).toNatClampNeg) then M20 else let M22 := em_pI M20 119 (((74 : Int32) + (M20.1 119 ((12 : Int32)).toNatClampNeg))).toNatClampNeg (M.1 119 ((20 : Int32)).toNatClampNeg)
  let M23 := em_pI M22 119 ((12 : Int32)).toNatClampNeg ((M22.1 119 ((12 : Int32)).toNatClampNeg) + (1 : Int32))
  M23)) else (if (M.1 119 (((120 : Int32) + ((8 : Int32) * (M.1 119 ((17 : Int32)).toNatClampNeg)))).toNatClampNeg) = (8 : Int32) then (if (M.1 119 ((19 : Int32)).toNatClampNeg) = (1 : Int32) then let M45 := et_X12_stands M (2 : Int32)
  M45 else let M46 := em_pI M 119 ((17 : Int32)).toNatClampNeg (M.1 119 ((((120 : Int32) + ((8 : Int32) * (M.1 119 ((17 : Int32)).toNatClampNeg))) + (5 : Int32))).toNatClampNeg)
  let M47 := em_pI M46 119 (((0 : Int32) + (M46.1 123 ((M.1 119 ((((120 : Int32) + ((8 : Int32) * (M.1 119 ((17 : Int32)).toNatClampNeg))) + (1 : Int32))).toNatClampNeg)).toNatClampNeg))).toNatClampNeg (M.1 119 ((20 : Int32)).toNatClampNeg)
  M47) else let M25 := em_pI M 119 ((17 : Int32)).toNatClampNeg (M.1 119 ((((120 : Int32) + ((8 : Int32) * (M.1 119 ((17 : Int32)).toNatClampNeg))) + (5 : Int32))).toNatClampNeg)
  (if (M.1 119 (((120 : Int32) + ((8 : Int32) * (M.1 119 ((17 : Int32)).toNatClampNeg)))).toNatClampNeg) = (0 : Int32) then let q29 := et_X12_comes M25 (M25.1 119 ((17 : Int32)).toNatClampNeg) (1 : Int32) (M.1 119 ((((120 : Int32) + ((8 : Int32) * (M.1 119 ((17 : Int32)).toNatClampNeg))) + (1 : Int32))).toNatClampNeg) (M.1 119 ((((120 : Int32) + ((8 : Int32) * (M.1 119 ((17 : Int32)).toNatClampNeg))) + (2 : Int32))).toNatClampNeg) (M.1 119 ((19 : Int32)).toNatClampNeg) (M.1 119 ((20 : Int32)).toNatClampNeg) (0 : Int32)
  let r27 := q29.1
  let M28 := q29.2
  (if r27 = 0 then M28 else let M31 := et_X12_works M28 (M28.1 125 ((((5 : Int32) * (M.1 119 ((((120 : Int32) + ((8 : Int32) * (M.1 119 ((17 : Int32)).toNatClampNeg))) + (1 : Int32))).toNatClampNeg)) + (1 : Int32))).toNatClampNeg) (0 : Int32) (M.1 119 ((((120 : Int32) + ((8 : Int32) * (M.1 119 ((17 : Int32)).toNatClampNeg))) + (2 : Int32))).toNatClampNeg)
  M31)
  else (if (M.1 119 (((120 : Int32) + ((8 : Int32) * (M.1 119 ((17 : Int32)).toNatClampNeg)))).toNatClampNeg) = (3 : Int32) then let q35 := et_X12_bound M25 (M.1 119 ((((120 : Int32) + ((8 : Int32) * (M.1 119 ((17 : Int32)).toNatClampNeg))) + (2 : Int32))).toNatClampNeg) (M25.1 123 ((M.1 119 ((((120 : Int32) + ((8 : Int32) * (M.1 119 ((17 : Int32)).toNatClampNeg))) + (1 : Int32))).toNatClampNeg)).toNatClampNeg) (M.1 119 ((19 : Int32)).toNatClampNeg) (M.1 119 ((20 : Int32)).toNatClampNeg)
  let r33 := q35.1
  let M34 := q35.2
  let M36 := et_X12_works M34 (M25.1 125 ((((5 : Int32) * (M.1 119 ((((120 : Int32) + ((8 : Int32) * (M.1 119 ((17 : Int32)).toNatClampNeg))) + (1 : Int32))).toNatClampNeg)) + (1 : Int32))).toNatClampNeg) (0 : Int32) r33
  M36
  else (if (M.1 119 (((120 : Int32) + ((8 : Int32) * (M.1 119 ((17 : Int32)).toNatClampNeg)))).toNatClampNeg) = (4 : Int32) then let M38 := et_X12_works M25 (M.1 119 ((((120 : Int32) + ((8 : Int32) * (M.1 119 ((17 : Int32)).toNatClampNeg))) + (1 : Int32))).toNatClampNeg) (M25.1 119 ((((120 : Int32) + ((8 : Int32) * (M.1 119 ((17 : Int32)).toNatClampNeg))) + (7 : Int32))).toNatClampNeg) (M.1 119 ((((120 : Int32) + ((8 : Int32) * (M.1 119 ((17 : Int32)).toNatClampNeg))) + (2 : Int32))).toNatClampNeg)
  M38
  else (if (M.1 119 (((120 : Int32) + ((8 : Int32) * (M.1 119 ((17 : Int32)).toNatClampNeg)))).toNatClampNeg) = (5 : Int32) then let M40 := et_X12_calls M25 ((M25.1 122 ((M.1 119 ((((120 : Int32) + ((8 : Int32) * (M.1 119 ((17 : Int32)).toNatClampNeg))) + (1 : Int32))).toNatClampNeg)).toNatClampNeg) - (70 : Int32)) (M.1 119 ((19 : Int32)).toNatClampNeg) (M.1 119 ((20 : Int32)).toNatClampNeg)
  M40
  else (if (M.1 119 (((120 : Int32) + ((8 : Int32) * (M.1 119 ((17 : Int32)).toNatClampNeg)))).toNatClampNeg) = (6 : Int32) then let M42 := et_X12_goes M25 (M25.1 119 ((((120 : Int32) + ((8 : Int32) * (M.1 119 ((17 : Int32)).toNatClampNeg))) + (7 : Int32))).toNatClampNeg) (M.1 119 ((19 : Int32)).toNatClampNeg) (M.1 119 ((20 : Int32)).toNatClampNeg)
  M42
  else let M43 := et_X12_winds M25 ((120 : Int32) + ((8 : Int32) * (M.1 119 ((17 : Int32)).toNatClampNeg))) (M.1 119 (((120 : Int32) + ((8 : Int32) * (M.1 119 ((17 : Int32)).toNatClampNeg)))).toNatClampNeg) (M.1 119 ((((120 : Int32) + ((8 : Int32) * (M.1 119 ((17 : Int32)).toNatClampNeg))) + (1 : Int32))).toNatClampNeg) (M.1 119 ((((120 : Int32) + ((8 : Int32) * (M.1 119 ((17 : Int32)).toNatClampNeg))) + (2 : Int32))).toNatClampNeg) (M.1 119 ((19 : Int32)).toNatClampNeg) (M.1 119 ((20 : Int32)).toNatClampNeg)
  M43))))))))) else let M48 := em_pI M 119 ((8 : Int32)).toNatClampNeg (M.1 119 ((19 : Int32)).toNatClampNeg)
  let M49 := em_pI M48 119 ((9 : Int32)).toNatClampNeg (M.1 119 ((20 : Int32)).toNatClampNeg)
  let M50 := et_X12_stands M49 (0 : Int32)
  M50)
def es_X12_givesOn  (M : em_M) : Prop :=
  ((0 ≤ (M.1 119 ((17 : Int32)).toNatClampNeg)) → (vp_in ((120 : Int32) + ((8 : Int32) * (M.1 119 ((17 : Int32)).toNatClampNeg))) 5880 ∧ (vp_in (((120 : Int32) + ((8 : Int32) * (M.1 119 ((17 : Int32)).toNatClampNeg))) + (1 : Int32)) 5880 ∧ (vp_in (((120 : Int32) + ((8 : Int32) * (M.1 119 ((17 : Int32)).toNatClampNeg))) + (2 : Int32)) 5880 ∧ ((((M.1 119 (((120 : Int32) + ((8 : Int32) * (M.1 119 ((17 : Int32)).toNatClampNeg)))).toNatClampNeg) = (1 : Int32)) → ((((M.1 119 ((19 : Int32)).toNatClampNeg) = (1 : Int32)) → (∀ M4 : em_M, et_X12_stands M (2 : Int32) = M4 → (
  True))) ∧
  (¬ ((M.1 119 ((19 : Int32)).toNatClampNeg) = (1 : Int32)) → (vp_in (((120 : Int32) + ((8 : Int32) * (M.1 119 ((17 : Int32)).toNatClampNeg))) + (3 : Int32)) 5880 ∧ ((((M.1 119 ((((120 : Int32) + ((8 : Int32) * (M.1 119 ((17 : Int32)).toNatClampNeg))) + (3 : Int32))).toNatClampNeg) = (1 : Int32)) → (∀ M9 : em_M, et_X12_stands M (2 : Int32) = M9 → (
  True))) ∧
  (¬ ((M.1 119 ((((120 : Int32) + ((8 : Int32) * (M.1 119 ((17 : Int32)).toNatClampNeg))) + (3 : Int32))).toNatClampNeg) = (1 : Int32)) → (vp_in (((120 : Int32) + ((8 : Int32) * (M.1 119 ((17 : Int32)).toNatClampNeg))) + (5 : Int32)) 5880 ∧ (∀ M6 : em_M, em_pI M 119 ((17 : Int32)).toNatClampNeg (M.1 119 ((((120 : Int32) + ((8 : Int32) * (M.1 119 ((17 : Int32)).toNatClampNeg))) + (5 : Int32))).toNatClampNeg) = M6 → (
  vp_in (M.1 119 ((((120 : Int32) + ((8 : Int32) * (M.1 119 ((17 : Int32)).toNatClampNeg))) + (1 : Int32))).toNatClampNeg) 808 ∧ (vp_in (((120 : Int32) + ((8 : Int32) * (M.1 119 ((17 : Int32)).toNatClampNeg))) + (4 : Int32)) 5880 ∧ (∀ r7 : Int32, et_X12_made M6 (M6.1 122 ((M.1 119 ((((120 : Int32) + ((8 : Int32) * (M.1 119 ((17 : Int32)).toNatClampNeg))) + (1 : Int32))).toNatClampNeg)).toNatClampNeg) (M6.1 119 ((((120 : Int32) + ((8 : Int32) * (M.1 119 ((17 : Int32)).toNatClampNeg))) + (4 : Int32))).toNatClampNeg) (M.1 119 ((20 : Int32)).toNatClampNeg) = r7 → (
  ∀ M8 : em_M, et_X12_gives M6 (0 : Int32) r7 = M8 → (
  True))))))))))))) ∧
  (¬ ((M.1 119 (((120 : Int32) + ((8 : Int32) * (M.1 119 ((17 : Int32)).toNatClampNeg)))).toNatClampNeg) = (1 : Int32)) → ((((M.1 119 (((120 : Int32) + ((8 : Int32) * (M.1 119 ((17 : Int32)).toNatClampNeg)))).toNatClampNeg) = (2 : Int32)) → ((((M.1 119 ((19 : Int32)).toNatClampNeg) = (1 : Int32)) → (∀ M12 : em_M, et_X12_stands M (2 : Int32) = M12 → (
  True))) ∧
  (¬ ((M.1 119 ((19 : Int32)).toNatClampNeg) = (1 : Int32)) → (vp_in (((120 : Int32) + ((8 : Int32) * (M.1 119 ((17 : Int32)).toNatClampNeg))) + (5 : Int32)) 5880 ∧ (∀ M13 : em_M, em_pI M 119 ((17 : Int32)).toNatClampNeg (M.1 119 ((((120 : Int32) + ((8 : Int32) * (M.1 119 ((17 : Int32)).toNatClampNeg))) + (5 : Int32))).toNatClampNeg) = M13 → (
  (((M.1 119 ((20 : Int32)).toNatClampNeg) = 0) → (vp_in (((5 : Int32) * (M.1 119 ((((120 : Int32) + ((8 : Int32) * (M.1 119 ((17 : Int32)).toNatClampNeg))) + (1 : Int32))).toNatClampNeg)) + (2 : Int32)) 4040 ∧ (∀ M15 : em_M, et_X12_works M13 (M13.1 125 ((((5 : Int32) * (M.1 119 ((((120 : Int32) + ((8 : Int32) * (M.1 119 ((17 : Int32)).toNatClampNeg))) + (1 : Int32))).toNatClampNeg)) + (2 : Int32))).toNatClampNeg) (0 : Int32) (M.1 119 ((((120 : Int32) + ((8 : Int32) * (M.1 119 ((17 : Int32)).toNatClampNeg))) + (2 : Int32))).toNatClampNeg) = M15 → (
  True)))) ∧
  (¬ ((M.1 119 ((20 : Int32)).toNatClampNeg) = 0) → (vp_in (((5 : Int32) * (M.1 119 ((((120 : Int32) + ((8 : Int32) * (M.1 119 ((17 : Int32)).toNatClampNeg))) + (1 : Int32))).toNatClampNeg)) + (1 : Int32)) 4040 ∧ (∀ M16 : em_M, et_X12_works M13 (M13.1 125 ((((5 : Int32) * (M.1 119 ((((120 : Int32) + ((8 : Int32) * (M.1 119 ((17 : Int32)).toNatClampNeg))) + (1 : Int32))).toNatClampNeg)) + (1 : Int32))).toNatClampNeg) (0 : Int32) (M.1 119 ((((120 : Int32) + ((8 : Int32) * (M.1 119 ((17 : Int32)).toNatClampNeg))) + (2 : Int32))).toNatClampNeg) = M16 → (
  True)))))))))) ∧
  (¬ ((M.1 119 (((120 : Int32) + ((8 : Int32) * (M.1 119 ((17 : Int32)).toNatClampNeg)))).toNatClampNeg) = (2 : Int32)) → ((((M.1 119 (((120 : Int32) + ((8 : Int32) * (M.1 119 ((17 : Int32)).toNatClampNeg)))).toNatClampNeg) = (7 : Int32)) → ((((M.1 119 ((19 : Int32)).toNatClampNeg) = (1 : Int32)) → (∀ M19 : em_M, et_X12_stands M (2 : Int32) = M19 → (
  True))) ∧
  (¬ ((M.1 119 ((19 : Int32)).toNatClampNeg) = (1 : Int32)) → (vp_in (((120 : Int32) + ((8 : Int32) * (M.1 119 ((17 : Int32)).toNatClampNeg))) + (5 : Int32)) 5880 ∧ (∀ M20 : em_M, em_pI M 119 ((17 : Int32)).toNatClampNeg (M.1 119 ((((120 : Int32) + ((8 : Int32) * (M.1 119 ((17 : Int32)).toNatClampNeg))) + (5 : Int32))).toNatClampNeg) = M20 → (
  (((40 : Int32) ≤ (M20.1 119 ((12 : Int32)).toNatClampNeg)) → (True)) ∧
  (¬ ((40 : Int32) ≤ (M20.1 119 ((12 : Int32)).toNatClampNeg)) → (vp_in ((74 : Int32) + (M20.1 119 ((12 : Int32)).toNatClampNeg)) 5880 ∧ (∀ M22 : em_M, em_pI M20 119 (((74 : Int32) + (M20.1 119 ((12 : Int32)).toNatClampNeg))).toNatClampNeg (M.1 119 ((20 : Int32)).toNatClampNeg) = M22 → (
  ∀ M23 : em_M, em_pI M22 119 ((12 : Int32)).toNatClampNeg ((M22.1 119 ((12 : Int32)).toNatClampNeg) + (1 : Int32)) = M23 → (
  True))))))))))) ∧
  (¬ ((M.1 119 (((120 : Int32) + ((8 : Int32) * (M.1 119 ((17 : Int32)).toNatClampNeg)))).toNatClampNeg) = (7 : Int32)) → ((((M.1 119 (((120 : Int32) + ((8 : Int32) * (M.1 119 ((17 : Int32)).toNatClampNeg)))).toNatClampNeg) = (8 : Int32)) → ((((M.1 119 ((19 : Int32)).toNatClampNeg) = (1 : Int32)) → (∀ M45 : em_M, et_X12_stands M (2 : Int32) = M45 → (
  True))) ∧
  (¬ ((M.1 119 ((19 : Int32)).toNatClampNeg) = (1 : Int32)) → (vp_in (((120 : Int32) + ((8 : Int32) * (M.1 119 ((17 : Int32)).toNatClampNeg))) + (5 : Int32)) 5880 ∧ (∀ M46 : em_M, em_pI M 119 ((17 : Int32)).toNatClampNeg (M.1 119 ((((120 : Int32) + ((8 : Int32) * (M.1 119 ((17 : Int32)).toNatClampNeg))) + (5 : Int32))).toNatClampNeg) = M46 → (
  vp_in (M.1 119 ((((120 : Int32) + ((8 : Int32) * (M.1 119 ((17 : Int32)).toNatClampNeg))) + (1 : Int32))).toNatClampNeg) 808 ∧ (vp_in ((0 : Int32) + (M46.1 123 ((M.1 119 ((((120 : Int32) + ((8 : Int32) * (M.1 119 ((17 : Int32)).toNatClampNeg))) + (1 : Int32))).toNatClampNeg)).toNatClampNeg)) 5880 ∧ (∀ M47 : em_M, em_pI M46 119 (((0 : Int32) + (M46.1 123 ((M.1 119 ((((120 : Int32) + ((8 : Int32) * (M.1 119 ((17 : Int32)).toNatClampNeg))) + (1 : Int32))).toNatClampNeg)).toNatClampNeg))).toNatClampNeg (M.1 119 ((20 : Int32)).toNatClampNeg) = M47 → (
  True))))))))) ∧
  (¬ ((M.1 119 (((120 : Int32) + ((8 : Int32) * (M.1 119 ((17 : Int32)).toNatClampNeg)))).toNatClampNeg) = (8 : Int32)) → (vp_in (((120 : Int32) + ((8 : Int32) * (M.1 119 ((17 : Int32)).toNatClampNeg))) + (5 : Int32)) 5880 ∧ (∀ M25 : em_M, em_pI M 119 ((17 : Int32)).toNatClampNeg (M.1 119 ((((120 : Int32) + ((8 : Int32) * (M.1 119 ((17 : Int32)).toNatClampNeg))) + (5 : Int32))).toNatClampNeg) = M25 → (
  (((M.1 119 (((120 : Int32) + ((8 : Int32) * (M.1 119 ((17 : Int32)).toNatClampNeg)))).toNatClampNeg) = (0 : Int32)) → (es_X12_comes M25 (M25.1 119 ((17 : Int32)).toNatClampNeg) (1 : Int32) (M.1 119 ((((120 : Int32) + ((8 : Int32) * (M.1 119 ((17 : Int32)).toNatClampNeg))) + (1 : Int32))).toNatClampNeg) (M.1 119 ((((120 : Int32) + ((8 : Int32) * (M.1 119 ((17 : Int32)).toNatClampNeg))) + (2 : Int32))).toNatClampNeg) (M.1 119 ((19 : Int32)).toNatClampNeg) (M.1 119 ((20 : Int32)).toNatClampNeg) (0 : Int32) ∧ (∀ (r27 : Int32) (M28 : em_M), et_X12_comes M25 (M25.1 119 ((17 : Int32)).toNatClampNeg) (1 : Int32) (M.1 119 ((((120 : Int32) + ((8 : Int32) * (M.1 119 ((17 : Int32)).toNatClampNeg))) + (1 : Int32))).toNatClampNeg) (M.1 119 ((((120 : Int32) + ((8 : Int32) * (M.1 119 ((17 : Int32)).toNatClampNeg))) + (2 : Int32))).toNatClampNeg) (M.1 119 ((19 : Int32)).toNatClampNeg) (M.1 119 ((20 : Int32)).toNatClampNeg) (0 : Int32) = (r27, M28) → (
  ((r27 = 0) → (True)) ∧
  (¬ (r27 = 0) → (vp_in (((5 : Int32) * (M.1 119 ((((120 : Int32) + ((8 : Int32) * (M.1 119 ((17 : Int32)).toNatClampNeg))) + (1 : Int32))).toNatClampNeg)) + (1 : Int32)) 4040 ∧ (∀ M31 : em_M, et_X12_works M28 (M28.1 125 ((((5 : Int32) * (M.1 119 ((((120 : Int32) + ((8 : Int32) * (M.1 119 ((17 : Int32)).toNatClampNeg))) + (1 : Int32))).toNatClampNeg)) + (1 : Int32))).toNatClampNeg) (0 : Int32) (M.1 119 ((((120 : Int32) + ((8 : Int32) * (M.1 119 ((17 : Int32)).toNatClampNeg))) + (2 : Int32))).toNatClampNeg) = M31 → (
  True)))))))) ∧
  (¬ ((M.1 119 (((120 : Int32) + ((8 : Int32) * (M.1 119 ((17 : Int32)).toNatClampNeg)))).toNatClampNeg) = (0 : Int32)) → ((((M.1 119 (((120 : Int32) + ((8 : Int32) * (M.1 119 ((17 : Int32)).toNatClampNeg)))).toNatClampNeg) = (3 : Int32)) → (vp_in (((5 : Int32) * (M.1 119 ((((120 : Int32) + ((8 : Int32) * (M.1 119 ((17 : Int32)).toNatClampNeg))) + (1 : Int32))).toNatClampNeg)) + (1 : Int32)) 4040 ∧ (vp_in (M.1 119 ((((120 : Int32) + ((8 : Int32) * (M.1 119 ((17 : Int32)).toNatClampNeg))) + (1 : Int32))).toNatClampNeg) 808 ∧ (es_X12_bound M25 (M.1 119 ((((120 : Int32) + ((8 : Int32) * (M.1 119 ((17 : Int32)).toNatClampNeg))) + (2 : Int32))).toNatClampNeg) (M25.1 123 ((M.1 119 ((((120 : Int32) + ((8 : Int32) * (M.1 119 ((17 : Int32)).toNatClampNeg))) + (1 : Int32))).toNatClampNeg)).toNatClampNeg) (M.1 119 ((19 : Int32)).toNatClampNeg) (M.1 119 ((20 : Int32)).toNatClampNeg) ∧ (∀ (r33 : Int32) (M34 : em_M), et_X12_bound M25 (M.1 119 ((((120 : Int32) + ((8 : Int32) * (M.1 119 ((17 : Int32)).toNatClampNeg))) + (2 : Int32))).toNatClampNeg) (M25.1 123 ((M.1 119 ((((120 : Int32) + ((8 : Int32) * (M.1 119 ((17 : Int32)).toNatClampNeg))) + (1 : Int32))).toNatClampNeg)).toNatClampNeg) (M.1 119 ((19 : Int32)).toNatClampNeg) (M.1 119 ((20 : Int32)).toNatClampNeg) = (r33, M34) → (
  ∀ M36 : em_M, et_X12_works M34 (M25.1 125 ((((5 : Int32) * (M.1 119 ((((120 : Int32) + ((8 : Int32) * (M.1 119 ((17 : Int32)).toNatClampNeg))) + (1 : Int32))).toNatClampNeg)) + (1 : Int32))).toNatClampNeg) (0 : Int32) r33 = M36 → (
  True))))))) ∧
  (¬ ((M.1 119 (((120 : Int32) + ((8 : Int32) * (M.1 119 ((17 : Int32)).toNatClampNeg)))).toNatClampNeg) = (3 : Int32)) → ((((M.1 119 (((120 : Int32) + ((8 : Int32) * (M.1 119 ((17 : Int32)).toNatClampNeg)))).toNatClampNeg) = (4 : Int32)) → (vp_in (((120 : Int32) + ((8 : Int32) * (M.1 119 ((17 : Int32)).toNatClampNeg))) + (7 : Int32)) 5880 ∧ (∀ M38 : em_M, et_X12_works M25 (M.1 119 ((((120 : Int32) + ((8 : Int32) * (M.1 119 ((17 : Int32)).toNatClampNeg))) + (1 : Int32))).toNatClampNeg) (M25.1 119 ((((120 : Int32) + ((8 : Int32) * (M.1 119 ((17 : Int32)).toNatClampNeg))) + (7 : Int32))).toNatClampNeg) (M.1 119 ((((120 : Int32) + ((8 : Int32) * (M.1 119 ((17 : Int32)).toNatClampNeg))) + (2 : Int32))).toNatClampNeg) = M38 → (
  True)))) ∧
  (¬ ((M.1 119 (((120 : Int32) + ((8 : Int32) * (M.1 119 ((17 : Int32)).toNatClampNeg)))).toNatClampNeg) = (4 : Int32)) → ((((M.1 119 (((120 : Int32) + ((8 : Int32) * (M.1 119 ((17 : Int32)).toNatClampNeg)))).toNatClampNeg) = (5 : Int32)) → (vp_in (M.1 119 ((((120 : Int32) + ((8 : Int32) * (M.1 119 ((17 : Int32)).toNatClampNeg))) + (1 : Int32))).toNatClampNeg) 808 ∧ (es_X12_calls M25 ((M25.1 122 ((M.1 119 ((((120 : Int32) + ((8 : Int32) * (M.1 119 ((17 : Int32)).toNatClampNeg))) + (1 : Int32))).toNatClampNeg)).toNatClampNeg) - (70 : Int32)) (M.1 119 ((19 : Int32)).toNatClampNeg) (M.1 119 ((20 : Int32)).toNatClampNeg) ∧ (∀ M40 : em_M, et_X12_calls M25 ((M25.1 122 ((M.1 119 ((((120 : Int32) + ((8 : Int32) * (M.1 119 ((17 : Int32)).toNatClampNeg))) + (1 : Int32))).toNatClampNeg)).toNatClampNeg) - (70 : Int32)) (M.1 119 ((19 : Int32)).toNatClampNeg) (M.1 119 ((20 : Int32)).toNatClampNeg) = M40 → (
  True))))) ∧
  (¬ ((M.1 119 (((120 : Int32) + ((8 : Int32) * (M.1 119 ((17 : Int32)).toNatClampNeg)))).toNatClampNeg) = (5 : Int32)) → ((((M.1 119 (((120 : Int32) + ((8 : Int32) * (M.1 119 ((17 : Int32)).toNatClampNeg)))).toNatClampNeg) = (6 : Int32)) → (vp_in (((120 : Int32) + ((8 : Int32) * (M.1 119 ((17 : Int32)).toNatClampNeg))) + (7 : Int32)) 5880 ∧ (es_X12_goes M25 (M25.1 119 ((((120 : Int32) + ((8 : Int32) * (M.1 119 ((17 : Int32)).toNatClampNeg))) + (7 : Int32))).toNatClampNeg) (M.1 119 ((19 : Int32)).toNatClampNeg) (M.1 119 ((20 : Int32)).toNatClampNeg) ∧ (∀ M42 : em_M, et_X12_goes M25 (M25.1 119 ((((120 : Int32) + ((8 : Int32) * (M.1 119 ((17 : Int32)).toNatClampNeg))) + (7 : Int32))).toNatClampNeg) (M.1 119 ((19 : Int32)).toNatClampNeg) (M.1 119 ((20 : Int32)).toNatClampNeg) = M42 → (
  True))))) ∧
  (¬ ((M.1 119 (((120 : Int32) + ((8 : Int32) * (M.1 119 ((17 : Int32)).toNatClampNeg)))).toNatClampNeg) = (6 : Int32)) → (es_X12_winds M25 ((120 : Int32) + ((8 : Int32) * (M.1 119 ((17 : Int32)).toNatClampNeg))) (M.1 119 (((120 : Int32) + ((8 : Int32) * (M.1 119 ((17 : Int32)).toNatClampNeg)))).toNatClampNeg) (M.1 119 ((((120 : Int32) + ((8 : Int32) * (M.1 119 ((17 : Int32)).toNatClampNeg))) + (1 : Int32))).toNatClampNeg) (M.1 119 ((((120 : Int32) + ((8 : Int32) * (M.1 119 ((17 : Int32)).toNatClampNeg))) + (2 : Int32))).toNatClampNeg) (M.1 119 ((19 : Int32)).toNatClampNeg) (M.1 119 ((20 : Int32)).toNatClampNeg) ∧ (∀ M43 : em_M, et_X12_winds M25 ((120 : Int32) + ((8 : Int32) * (M.1 119 ((17 : Int32)).toNatClampNeg))) (M.1 119 (((120 : Int32) + ((8 : Int32) * (M.1 119 ((17 : Int32)).toNatClampNeg)))).toNatClampNeg) (M.1 119 ((((120 : Int32) + ((8 : Int32) * (M.1 119 ((17 : Int32)).toNatClampNeg))) + (1 : Int32))).toNatClampNeg) (M.1 119 ((((120 : Int32) + ((8 : Int32) * (M.1 119 ((17 : Int32)).toNatClampNeg))) + (2 : Int32))).toNatClampNeg) (M.1 119 ((19 : Int32)).toNatClampNeg) (M.1 119 ((20 : Int32)).toNatClampNeg) = M43 → (
  True))))))))))))))))))))))))))) ∧
  (¬ (0 ≤ (M.1 119 ((17 : Int32)).toNatClampNeg)) → (∀ M48 : em_M, em_pI M 119 ((8 : Int32)).toNatClampNeg (M.1 119 ((19 : Int32)).toNatClampNeg) = M48 → (
  ∀ M49 : em_M, em_pI M48 119 ((9 : Int32)).toNatClampNeg (M.1 119 ((20 : Int32)).toNatClampNeg) = M49 → (
  ∀ M50 : em_M, et_X12_stands M49 (0 : Int32) = M50 → (
  True)))))
set_option maxHeartbeats 4000000 in
set_option maxRecDepth 100000 in
theorem ec_X12_givesOn (l : Launch) (D : em_G) (B : Nat) (M : em_M) (hs : es_X12_givesOn M) : em_C l D B yX12_givesOn cX12_givesOn 9 none 4 106 0 0 false [.ref (B + 118)] 132 em_R M (none) 132 em_R ((et_X12_givesOn M)) := by
  refine em_C_of RX12 [(0, .ref (B + 118))] (by decide) rfl rfl (Nat.le_of_ble_eq_true rfl) ?_
  rintro X rfl rfl rfl hRm hnL hnm hsz hX hQ
  obtain ⟨t0, hT⟩ : ∃ tz, et_X12_givesOn M = tz := ⟨_, rfl⟩
  rw [hT] at hQ
  rw [es_X12_givesOn] at hs
  refine ez_aload_n hX 0 dX12_givesOn_0 rfl ?_
  refine ez_getr hX kc_118 rfl (Nat.le_of_ble_eq_true rfl) lc_118 (Nat.le_of_ble_eq_true rfl) inX12 119 rfl rc_118_0 wf_X12_11 dX12_givesOn_1 ?_
  refine ez_bipush hX (19 : Int32) dX12_givesOn_4 (by decide) ?_
  refine ez_iald hX kc_119 lc_119 (by unfold vp_in; decide) dX12_givesOn_6 ?_
  refine ez_istore_n hX [(1, .int (M.1 119 ((19 : Int32)).toNatClampNeg)), (0, .ref (ez_B X + 118))] dX12_givesOn_7 (ez_lt hnL rfl) rfl ?_
  refine ez_aload_n hX 1 dX12_givesOn_8 rfl ?_
  refine ez_getr hX kc_118 rfl (Nat.le_of_ble_eq_true rfl) lc_118 (Nat.le_of_ble_eq_true rfl) inX12 119 rfl rc_118_0 wf_X12_11 dX12_givesOn_9 ?_
  refine ez_bipush hX (20 : Int32) dX12_givesOn_12 (by decide) ?_
  refine ez_iald hX kc_119 lc_119 (by unfold vp_in; decide) dX12_givesOn_14 ?_
  refine ez_istore_n hX [(2, .int (M.1 119 ((20 : Int32)).toNatClampNeg)), (1, .int (M.1 119 ((19 : Int32)).toNatClampNeg)), (0, .ref (ez_B X + 118))] dX12_givesOn_15 (ez_lt hnL rfl) rfl ?_
  refine ez_aload_n hX 2 dX12_givesOn_16 rfl ?_
  refine ez_getr hX kc_118 rfl (Nat.le_of_ble_eq_true rfl) lc_118 (Nat.le_of_ble_eq_true rfl) inX12 119 rfl rc_118_0 wf_X12_11 dX12_givesOn_17 ?_
  refine ez_bipush hX (17 : Int32) dX12_givesOn_20 (by decide) ?_
  refine ez_iald hX kc_119 lc_119 (by unfold vp_in; decide) dX12_givesOn_22 ?_
  refine ez_istore_n hX [(3, .int (M.1 119 ((17 : Int32)).toNatClampNeg)), (2, .int (M.1 119 ((20 : Int32)).toNatClampNeg)), (1, .int (M.1 119 ((19 : Int32)).toNatClampNeg)), (0, .ref (ez_B X + 118))] dX12_givesOn_23 (ez_lt hnL rfl) rfl ?_
  refine ez_iload_n hX 0 dX12_givesOn_24 rfl ?_
  refine ez_if_ge hX 50 dX12_givesOn_25 (by decide) (fun c1 => ?_) (fun c1 => ?_)
  · -- c1 jump
    have hs := hs.1 c1
    refine ez_bipush hX (120 : Int32) dX12_givesOn_50 (by decide) ?_
    refine ez_bipush hX (8 : Int32) dX12_givesOn_52 (by decide) ?_
    refine ez_iload_n hX 0 dX12_givesOn_54 rfl ?_
    refine ez_imul hX dX12_givesOn_55 ?_
    refine ez_iadd hX dX12_givesOn_56 ?_
    refine ez_istore hX [(4, .int ((120 : Int32) + ((8 : Int32) * (M.1 119 ((17 : Int32)).toNatClampNeg)))), (3, .int (M.1 119 ((17 : Int32)).toNatClampNeg)), (2, .int (M.1 119 ((20 : Int32)).toNatClampNeg)), (1, .int (M.1 119 ((19 : Int32)).toNatClampNeg)), (0, .ref (ez_B X + 118))] dX12_givesOn_57 (ez_lt hnL rfl) rfl ?_
    refine ez_aload_n hX 4 dX12_givesOn_59 rfl ?_
    refine ez_getr hX kc_118 rfl (Nat.le_of_ble_eq_true rfl) lc_118 (Nat.le_of_ble_eq_true rfl) inX12 119 rfl rc_118_0 wf_X12_11 dX12_givesOn_60 ?_
    refine ez_iload hX 0 dX12_givesOn_63 rfl ?_
    refine ez_iald hX kc_119 lc_119 hs.1 dX12_givesOn_65 ?_
    have hs := hs.2
    refine ez_istore hX [(5, .int (M.1 119 (((120 : Int32) + ((8 : Int32) * (M.1 119 ((17 : Int32)).toNatClampNeg)))).toNatClampNeg)), (4, .int ((120 : Int32) + ((8 : Int32) * (M.1 119 ((17 : Int32)).toNatClampNeg)))), (3, .int (M.1 119 ((17 : Int32)).toNatClampNeg)), (2, .int (M.1 119 ((20 : Int32)).toNatClampNeg)), (1, .int (M.1 119 ((19 : Int32)).toNatClampNeg)), (0, .ref (ez_B X + 118))] dX12_givesOn_66 (ez_lt hnL rfl) rfl ?_
    refine ez_aload_n hX 5 dX12_givesOn_68 rfl ?_
    refine ez_getr hX kc_118 rfl (Nat.le_of_ble_eq_true rfl) lc_118 (Nat.le_of_ble_eq_true rfl) inX12 119 rfl rc_118_0 wf_X12_11 dX12_givesOn_69 ?_
    refine ez_iload hX 1 dX12_givesOn_72 rfl ?_
    refine ez_iconst hX (1 : Int32) dX12_givesOn_74 (by decide) ?_
    refine ez_iadd hX dX12_givesOn_75 ?_
    refine ez_iald hX kc_119 lc_119 hs.1 dX12_givesOn_76 ?_
    have hs := hs.2
    refine ez_istore hX [(6, .int (M.1 119 ((((120 : Int32) + ((8 : Int32) * (M.1 119 ((17 : Int32)).toNatClampNeg))) + (1 : Int32))).toNatClampNeg)), (5, .int (M.1 119 (((120 : Int32) + ((8 : Int32) * (M.1 119 ((17 : Int32)).toNatClampNeg)))).toNatClampNeg)), (4, .int ((120 : Int32) + ((8 : Int32) * (M.1 119 ((17 : Int32)).toNatClampNeg)))), (3, .int (M.1 119 ((17 : Int32)).toNatClampNeg)), (2, .int (M.1 119 ((20 : Int32)).toNatClampNeg)), (1, .int (M.1 119 ((19 : Int32)).toNatClampNeg)), (0, .ref (ez_B X + 118))] dX12_givesOn_77 (ez_lt hnL rfl) rfl ?_
    refine ez_aload_n hX 6 dX12_givesOn_79 rfl ?_
    refine ez_getr hX kc_118 rfl (Nat.le_of_ble_eq_true rfl) lc_118 (Nat.le_of_ble_eq_true rfl) inX12 119 rfl rc_118_0 wf_X12_11 dX12_givesOn_80 ?_
    refine ez_iload hX 2 dX12_givesOn_83 rfl ?_
    refine ez_iconst hX (2 : Int32) dX12_givesOn_85 (by decide) ?_
    refine ez_iadd hX dX12_givesOn_86 ?_
    refine ez_iald hX kc_119 lc_119 hs.1 dX12_givesOn_87 ?_
    have hs := hs.2
    refine ez_istore hX [(7, .int (M.1 119 ((((120 : Int32) + ((8 : Int32) * (M.1 119 ((17 : Int32)).toNatClampNeg))) + (2 : Int32))).toNatClampNeg)), (6, .int (M.1 119 ((((120 : Int32) + ((8 : Int32) * (M.1 119 ((17 : Int32)).toNatClampNeg))) + (1 : Int32))).toNatClampNeg)), (5, .int (M.1 119 (((120 : Int32) + ((8 : Int32) * (M.1 119 ((17 : Int32)).toNatClampNeg)))).toNatClampNeg)), (4, .int ((120 : Int32) + ((8 : Int32) * (M.1 119 ((17 : Int32)).toNatClampNeg)))), (3, .int (M.1 119 ((17 : Int32)).toNatClampNeg)), (2, .int (M.1 119 ((20 : Int32)).toNatClampNeg)), (1, .int (M.1 119 ((19 : Int32)).toNatClampNeg)), (0, .ref (ez_B X + 118))] dX12_givesOn_88 (ez_lt hnL rfl) rfl ?_
    refine ez_iload hX 2 dX12_givesOn_90 rfl ?_
    refine ez_iconst hX (1 : Int32) dX12_givesOn_92 (by decide) ?_
    refine ez_icmp_eq hX 116 dX12_givesOn_93 (by decide) (fun c2 => ?_) (fun c2 => ?_)
    · -- c2 jump
      have hs := hs.1 c2
      refine ez_iconst hX (1 : Int32) dX12_givesOn_116 (by decide) ?_
      refine ez_goto hX 121 dX12_givesOn_117 (by decide) ?_
      refine ez_istore hX [(8, .int (1 : Int32)), (7, .int (M.1 119 ((((120 : Int32) + ((8 : Int32) * (M.1 119 ((17 : Int32)).toNatClampNeg))) + (2 : Int32))).toNatClampNeg)), (6, .int (M.1 119 ((((120 : Int32) + ((8 : Int32) * (M.1 119 ((17 : Int32)).toNatClampNeg))) + (1 : Int32))).toNatClampNeg)), (5, .int (M.1 119 (((120 : Int32) + ((8 : Int32) * (M.1 119 ((17 : Int32)).toNatClampNeg)))).toNatClampNeg)), (4, .int ((120 : Int32) + ((8 : Int32) * (M.1 119 ((17 : Int32)).toNatClampNeg)))), (3, .int (M.1 119 ((17 : Int32)).toNatClampNeg)), (2, .int (M.1 119 ((20 : Int32)).toNatClampNeg)), (1, .int (M.1 119 ((19 : Int32)).toNatClampNeg)), (0, .ref (ez_B X + 118))] dX12_givesOn_121 (ez_lt hnL rfl) rfl ?_
      refine ez_iload hX 0 dX12_givesOn_123 rfl ?_
      refine ez_if_eq hX 158 dX12_givesOn_125 (by decide) (fun c => absurd c (by decide)) (fun _ => ?_)
      refine ez_iload_n hX 7 dX12_givesOn_128 rfl ?_
      refine ez_iconst hX (1 : Int32) dX12_givesOn_129 (by decide) ?_
      refine ez_icmp_eq hX 152 dX12_givesOn_130 (by decide) (fun c3 => ?_) (fun c3 => ?_)
      · -- c3 jump
        have hs := hs.1 c3
        refine ez_aload_n hX 8 dX12_givesOn_152 rfl ?_
        refine ez_iconst hX (2 : Int32) dX12_givesOn_153 (by decide) ?_
        refine ez_callV hX (N0 := 0) (As := [.int (2 : Int32)]) (st := []) kc_118 (Nat.le_of_ble_eq_true rfl) lc_118 rfl (ec_X12_stands _ _ _ M (2 : Int32)) (Or.inl rfl) wm_X12_139 wv_X12_stands we_X12_stands wy_X12_stands rfl wd_X12_stands wi_X12 (ez_rok hRm rfl) (Nat.le_of_ble_eq_true rfl) dX12_givesOn_154 ?_
        refine ez_nmM (fun M4 eM4 => ?_)
        have hs := hs M4 eM4
        have ht : t0 = M4 := hT.symm.trans (by simp only [et_X12_givesOn, if_pos c1, if_pos c2, if_pos c3, eM4])
        subst ht
        exact ez_vret hX hQ dX12_givesOn_157 rfl rfl
      · -- c3 on
        have hs := hs.2 c3
        refine ez_iload hX 3 dX12_givesOn_133 rfl ?_
        refine ez_iconst hX (1 : Int32) dX12_givesOn_135 (by decide) ?_
        refine ez_icmp_ne hX 158 dX12_givesOn_136 (by decide) (fun c => absurd (by rw [c2] <;> decide) c) (fun _ => ?_)
        refine ez_aload_n hX 8 dX12_givesOn_139 rfl ?_
        refine ez_getr hX kc_118 rfl (Nat.le_of_ble_eq_true rfl) lc_118 (Nat.le_of_ble_eq_true rfl) inX12 119 rfl rc_118_0 wf_X12_11 dX12_givesOn_140 ?_
        refine ez_iload hX 4 dX12_givesOn_143 rfl ?_
        refine ez_iconst hX (3 : Int32) dX12_givesOn_145 (by decide) ?_
        refine ez_iadd hX dX12_givesOn_146 ?_
        refine ez_iald hX kc_119 lc_119 hs.1 dX12_givesOn_147 ?_
        have hs := hs.2
        refine ez_iconst hX (1 : Int32) dX12_givesOn_148 (by decide) ?_
        refine ez_icmp_ne hX 158 dX12_givesOn_149 (by decide) (fun c5 => ?_) (fun c5 => ?_)
        · -- c5 jump
          have hs := hs.2 c5
          refine ez_aload_n hX 8 dX12_givesOn_158 rfl ?_
          refine ez_getr hX kc_118 rfl (Nat.le_of_ble_eq_true rfl) lc_118 (Nat.le_of_ble_eq_true rfl) inX12 119 rfl rc_118_0 wf_X12_11 dX12_givesOn_159 ?_
          refine ez_bipush hX (17 : Int32) dX12_givesOn_162 (by decide) ?_
          refine ez_aload_n hX 8 dX12_givesOn_164 rfl ?_
          refine ez_getr hX kc_118 rfl (Nat.le_of_ble_eq_true rfl) lc_118 (Nat.le_of_ble_eq_true rfl) inX12 119 rfl rc_118_0 wf_X12_11 dX12_givesOn_165 ?_
          refine ez_iload hX 4 dX12_givesOn_168 rfl ?_
          refine ez_iconst hX (5 : Int32) dX12_givesOn_170 (by decide) ?_
          refine ez_iadd hX dX12_givesOn_171 ?_
          refine ez_iald hX kc_119 lc_119 hs.1 dX12_givesOn_172 ?_
          have hs := hs.2
          refine ez_iast hX kc_119 lc_119 (by unfold vp_in; decide) dX12_givesOn_173 ?_
          refine ez_nmM (fun M6 eM6 => ?_)
          have hs := hs M6 eM6
          refine ez_iload hX 3 dX12_givesOn_174 rfl ?_
          have cx : ((M.1 119 (((120 : Int32) + ((8 : Int32) * (M.1 119 ((17 : Int32)).toNatClampNeg)))).toNatClampNeg)).toInt = 1 := by rw [c2]; rfl
          refine ez_tsIn hX (1) (95) 271 dX12_givesOn_176 cx ⟨by decide, by decide, rfl, by decide⟩ ?_
          refine ez_aload_n hX 8 dX12_givesOn_271 rfl ?_
          refine ez_iconst hX (0 : Int32) dX12_givesOn_272 (by decide) ?_
          refine ez_aload_n hX 8 dX12_givesOn_273 rfl ?_
          refine ez_getr hX kc_118 rfl (Nat.le_of_ble_eq_true rfl) lc_118 (Nat.le_of_ble_eq_true rfl) inX12 122 rfl rc_118_4 wf_X12_21 dX12_givesOn_274 ?_
          refine ez_iload hX 2 dX12_givesOn_277 rfl ?_
          refine ez_iald hX kc_122 lc_122 hs.1 dX12_givesOn_279 ?_
          have hs := hs.2
          refine ez_aload_n hX 8 dX12_givesOn_280 rfl ?_
          refine ez_getr hX kc_118 rfl (Nat.le_of_ble_eq_true rfl) lc_118 (Nat.le_of_ble_eq_true rfl) inX12 119 rfl rc_118_0 wf_X12_11 dX12_givesOn_281 ?_
          refine ez_iload hX 4 dX12_givesOn_284 rfl ?_
          refine ez_iconst hX (4 : Int32) dX12_givesOn_286 (by decide) ?_
          refine ez_iadd hX dX12_givesOn_287 ?_
          refine ez_iald hX kc_119 lc_119 hs.1 dX12_givesOn_288 ?_
          have hs := hs.2
          refine ez_iload_n hX 6 dX12_givesOn_289 rfl ?_
          refine ez_callS hX (N0 := 0) (As := [.int (M6.1 122 ((M.1 119 ((((120 : Int32) + ((8 : Int32) * (M.1 119 ((17 : Int32)).toNatClampNeg))) + (1 : Int32))).toNatClampNeg)).toNatClampNeg), .int (M6.1 119 ((((120 : Int32) + ((8 : Int32) * (M.1 119 ((17 : Int32)).toNatClampNeg))) + (4 : Int32))).toNatClampNeg), .int (M.1 119 ((20 : Int32)).toNatClampNeg)]) (st := [.int (0 : Int32), .ref (ez_B X + 118)]) (ec_X12_made _ _ _ M6 (M6.1 122 ((M.1 119 ((((120 : Int32) + ((8 : Int32) * (M.1 119 ((17 : Int32)).toNatClampNeg))) + (1 : Int32))).toNatClampNeg)).toNatClampNeg) (M6.1 119 ((((120 : Int32) + ((8 : Int32) * (M.1 119 ((17 : Int32)).toNatClampNeg))) + (4 : Int32))).toNatClampNeg) (M.1 119 ((20 : Int32)).toNatClampNeg)) (Or.inl rfl) wm_X12_165 ws_X12_made wy_X12_made rfl wd_X12_made wi_X12 (ez_rok hRm rfl) (Nat.le_of_ble_eq_true rfl) dX12_givesOn_290 ?_
          refine ez_nmI (fun r7 er7 => ?_)
          have hs := hs r7 er7
          refine ez_callV hX (N0 := 0) (As := [.int (0 : Int32), .int r7]) (st := []) kc_118 (Nat.le_of_ble_eq_true rfl) lc_118 rfl (ec_X12_gives _ _ _ M6 (0 : Int32) r7) (Or.inl rfl) wm_X12_146 wv_X12_gives we_X12_gives wy_X12_gives rfl wd_X12_gives wi_X12 (ez_rok hRm rfl) (Nat.le_of_ble_eq_true rfl) dX12_givesOn_293 ?_
          refine ez_nmM (fun M8 eM8 => ?_)
          have hs := hs M8 eM8
          refine ez_goto hX 495 dX12_givesOn_296 (by decide) ?_
          have ht : t0 = M8 := hT.symm.trans (by simp only [et_X12_givesOn, if_pos c1, if_pos c2, if_neg c3, if_neg c5, eM6, er7, eM8])
          subst ht
          exact ez_vret hX hQ dX12_givesOn_495 rfl rfl
        · -- c5 on
          have hs := hs.1 c5
          refine ez_aload_n hX 8 dX12_givesOn_152 rfl ?_
          refine ez_iconst hX (2 : Int32) dX12_givesOn_153 (by decide) ?_
          refine ez_callV hX (N0 := 0) (As := [.int (2 : Int32)]) (st := []) kc_118 (Nat.le_of_ble_eq_true rfl) lc_118 rfl (ec_X12_stands _ _ _ M (2 : Int32)) (Or.inl rfl) wm_X12_139 wv_X12_stands we_X12_stands wy_X12_stands rfl wd_X12_stands wi_X12 (ez_rok hRm rfl) (Nat.le_of_ble_eq_true rfl) dX12_givesOn_154 ?_
          refine ez_nmM (fun M9 eM9 => ?_)
          have hs := hs M9 eM9
          have ht : t0 = M9 := hT.symm.trans (by simp only [et_X12_givesOn, if_pos c1, if_pos c2, if_neg c3, if_pos c5, eM9])
          subst ht
          exact ez_vret hX hQ dX12_givesOn_157 rfl rfl
    · -- c2 on
      have hs := hs.2 c2
      refine ez_iload hX 2 dX12_givesOn_96 rfl ?_
      refine ez_iconst hX (2 : Int32) dX12_givesOn_98 (by decide) ?_
      refine ez_icmp_eq hX 116 dX12_givesOn_99 (by decide) (fun c10 => ?_) (fun c10 => ?_)
      · -- c10 jump
        have hs := hs.1 c10
        refine ez_iconst hX (1 : Int32) dX12_givesOn_116 (by decide) ?_
        refine ez_goto hX 121 dX12_givesOn_117 (by decide) ?_
        refine ez_istore hX [(8, .int (1 : Int32)), (7, .int (M.1 119 ((((120 : Int32) + ((8 : Int32) * (M.1 119 ((17 : Int32)).toNatClampNeg))) + (2 : Int32))).toNatClampNeg)), (6, .int (M.1 119 ((((120 : Int32) + ((8 : Int32) * (M.1 119 ((17 : Int32)).toNatClampNeg))) + (1 : Int32))).toNatClampNeg)), (5, .int (M.1 119 (((120 : Int32) + ((8 : Int32) * (M.1 119 ((17 : Int32)).toNatClampNeg)))).toNatClampNeg)), (4, .int ((120 : Int32) + ((8 : Int32) * (M.1 119 ((17 : Int32)).toNatClampNeg)))), (3, .int (M.1 119 ((17 : Int32)).toNatClampNeg)), (2, .int (M.1 119 ((20 : Int32)).toNatClampNeg)), (1, .int (M.1 119 ((19 : Int32)).toNatClampNeg)), (0, .ref (ez_B X + 118))] dX12_givesOn_121 (ez_lt hnL rfl) rfl ?_
        refine ez_iload hX 0 dX12_givesOn_123 rfl ?_
        refine ez_if_eq hX 158 dX12_givesOn_125 (by decide) (fun c => absurd c (by decide)) (fun _ => ?_)
        refine ez_iload_n hX 7 dX12_givesOn_128 rfl ?_
        refine ez_iconst hX (1 : Int32) dX12_givesOn_129 (by decide) ?_
        refine ez_icmp_eq hX 152 dX12_givesOn_130 (by decide) (fun c11 => ?_) (fun c11 => ?_)
        · -- c11 jump
          have hs := hs.1 c11
          refine ez_aload_n hX 8 dX12_givesOn_152 rfl ?_
          refine ez_iconst hX (2 : Int32) dX12_givesOn_153 (by decide) ?_
          refine ez_callV hX (N0 := 0) (As := [.int (2 : Int32)]) (st := []) kc_118 (Nat.le_of_ble_eq_true rfl) lc_118 rfl (ec_X12_stands _ _ _ M (2 : Int32)) (Or.inl rfl) wm_X12_139 wv_X12_stands we_X12_stands wy_X12_stands rfl wd_X12_stands wi_X12 (ez_rok hRm rfl) (Nat.le_of_ble_eq_true rfl) dX12_givesOn_154 ?_
          refine ez_nmM (fun M12 eM12 => ?_)
          have hs := hs M12 eM12
          have ht : t0 = M12 := hT.symm.trans (by simp only [et_X12_givesOn, if_pos c1, if_neg c2, if_pos c10, if_pos c11, eM12])
          subst ht
          exact ez_vret hX hQ dX12_givesOn_157 rfl rfl
        · -- c11 on
          have hs := hs.2 c11
          refine ez_iload hX 3 dX12_givesOn_133 rfl ?_
          refine ez_iconst hX (1 : Int32) dX12_givesOn_135 (by decide) ?_
          refine ez_icmp_ne hX 158 dX12_givesOn_136 (by decide) (fun _ => ?_) (fun c => absurd c (by rw [c10] <;> decide))
          refine ez_aload_n hX 8 dX12_givesOn_158 rfl ?_
          refine ez_getr hX kc_118 rfl (Nat.le_of_ble_eq_true rfl) lc_118 (Nat.le_of_ble_eq_true rfl) inX12 119 rfl rc_118_0 wf_X12_11 dX12_givesOn_159 ?_
          refine ez_bipush hX (17 : Int32) dX12_givesOn_162 (by decide) ?_
          refine ez_aload_n hX 8 dX12_givesOn_164 rfl ?_
          refine ez_getr hX kc_118 rfl (Nat.le_of_ble_eq_true rfl) lc_118 (Nat.le_of_ble_eq_true rfl) inX12 119 rfl rc_118_0 wf_X12_11 dX12_givesOn_165 ?_
          refine ez_iload hX 4 dX12_givesOn_168 rfl ?_
          refine ez_iconst hX (5 : Int32) dX12_givesOn_170 (by decide) ?_
          refine ez_iadd hX dX12_givesOn_171 ?_
          refine ez_iald hX kc_119 lc_119 hs.1 dX12_givesOn_172 ?_
          have hs := hs.2
          refine ez_iast hX kc_119 lc_119 (by unfold vp_in; decide) dX12_givesOn_173 ?_
          refine ez_nmM (fun M13 eM13 => ?_)
          have hs := hs M13 eM13
          refine ez_iload hX 3 dX12_givesOn_174 rfl ?_
          have cx : ((M.1 119 (((120 : Int32) + ((8 : Int32) * (M.1 119 ((17 : Int32)).toNatClampNeg)))).toNatClampNeg)).toInt = 2 := by rw [c10]; rfl
          refine ez_tsIn hX (2) (123) 299 dX12_givesOn_176 cx ⟨by decide, by decide, rfl, by decide⟩ ?_
          refine ez_aload_n hX 8 dX12_givesOn_299 rfl ?_
          refine ez_aload_n hX 8 dX12_givesOn_300 rfl ?_
          refine ez_getr hX kc_118 rfl (Nat.le_of_ble_eq_true rfl) lc_118 (Nat.le_of_ble_eq_true rfl) inX12 125 rfl rc_118_7 wf_X12_30 dX12_givesOn_301 ?_
          refine ez_iconst hX (5 : Int32) dX12_givesOn_304 (by decide) ?_
          refine ez_iload hX 2 dX12_givesOn_305 rfl ?_
          refine ez_imul hX dX12_givesOn_307 ?_
          refine ez_iload_n hX 6 dX12_givesOn_308 rfl ?_
          refine ez_if_eq hX 316 dX12_givesOn_309 (by decide) (fun c14 => ?_) (fun c14 => ?_)
          · -- c14 jump
            have hs := hs.1 c14
            refine ez_iconst hX (2 : Int32) dX12_givesOn_316 (by decide) ?_
            refine ez_iadd hX dX12_givesOn_317 ?_
            refine ez_iald hX kc_125 lc_125 hs.1 dX12_givesOn_318 ?_
            have hs := hs.2
            refine ez_iconst hX (0 : Int32) dX12_givesOn_319 (by decide) ?_
            refine ez_iload hX 1 dX12_givesOn_320 rfl ?_
            refine ez_callV hX (N0 := 0) (As := [.int (M13.1 125 ((((5 : Int32) * (M.1 119 ((((120 : Int32) + ((8 : Int32) * (M.1 119 ((17 : Int32)).toNatClampNeg))) + (1 : Int32))).toNatClampNeg)) + (2 : Int32))).toNatClampNeg), .int (0 : Int32), .int (M.1 119 ((((120 : Int32) + ((8 : Int32) * (M.1 119 ((17 : Int32)).toNatClampNeg))) + (2 : Int32))).toNatClampNeg)]) (st := []) kc_118 (Nat.le_of_ble_eq_true rfl) lc_118 rfl (ec_X12_works _ _ _ M13 (M13.1 125 ((((5 : Int32) * (M.1 119 ((((120 : Int32) + ((8 : Int32) * (M.1 119 ((17 : Int32)).toNatClampNeg))) + (1 : Int32))).toNatClampNeg)) + (2 : Int32))).toNatClampNeg) (0 : Int32) (M.1 119 ((((120 : Int32) + ((8 : Int32) * (M.1 119 ((17 : Int32)).toNatClampNeg))) + (2 : Int32))).toNatClampNeg)) (Or.inl rfl) wm_X12_154 wv_X12_works we_X12_works wy_X12_works rfl wd_X12_works wi_X12 (ez_rok hRm rfl) (Nat.le_of_ble_eq_true rfl) dX12_givesOn_322 ?_
            refine ez_nmM (fun M15 eM15 => ?_)
            have hs := hs M15 eM15
            refine ez_goto hX 495 dX12_givesOn_325 (by decide) ?_
            have ht : t0 = M15 := hT.symm.trans (by simp only [et_X12_givesOn, if_pos c1, if_neg c2, if_pos c10, if_neg c11, eM13, if_pos c14, eM15])
            subst ht
            exact ez_vret hX hQ dX12_givesOn_495 rfl rfl
          · -- c14 on
            have hs := hs.2 c14
            refine ez_iconst hX (1 : Int32) dX12_givesOn_312 (by decide) ?_
            refine ez_goto hX 317 dX12_givesOn_313 (by decide) ?_
            refine ez_iadd hX dX12_givesOn_317 ?_
            refine ez_iald hX kc_125 lc_125 hs.1 dX12_givesOn_318 ?_
            have hs := hs.2
            refine ez_iconst hX (0 : Int32) dX12_givesOn_319 (by decide) ?_
            refine ez_iload hX 1 dX12_givesOn_320 rfl ?_
            refine ez_callV hX (N0 := 0) (As := [.int (M13.1 125 ((((5 : Int32) * (M.1 119 ((((120 : Int32) + ((8 : Int32) * (M.1 119 ((17 : Int32)).toNatClampNeg))) + (1 : Int32))).toNatClampNeg)) + (1 : Int32))).toNatClampNeg), .int (0 : Int32), .int (M.1 119 ((((120 : Int32) + ((8 : Int32) * (M.1 119 ((17 : Int32)).toNatClampNeg))) + (2 : Int32))).toNatClampNeg)]) (st := []) kc_118 (Nat.le_of_ble_eq_true rfl) lc_118 rfl (ec_X12_works _ _ _ M13 (M13.1 125 ((((5 : Int32) * (M.1 119 ((((120 : Int32) + ((8 : Int32) * (M.1 119 ((17 : Int32)).toNatClampNeg))) + (1 : Int32))).toNatClampNeg)) + (1 : Int32))).toNatClampNeg) (0 : Int32) (M.1 119 ((((120 : Int32) + ((8 : Int32) * (M.1 119 ((17 : Int32)).toNatClampNeg))) + (2 : Int32))).toNatClampNeg)) (Or.inl rfl) wm_X12_154 wv_X12_works we_X12_works wy_X12_works rfl wd_X12_works wi_X12 (ez_rok hRm rfl) (Nat.le_of_ble_eq_true rfl) dX12_givesOn_322 ?_
            refine ez_nmM (fun M16 eM16 => ?_)
            have hs := hs M16 eM16
            refine ez_goto hX 495 dX12_givesOn_325 (by decide) ?_
            have ht : t0 = M16 := hT.symm.trans (by simp only [et_X12_givesOn, if_pos c1, if_neg c2, if_pos c10, if_neg c11, eM13, if_neg c14, eM16])
            subst ht
            exact ez_vret hX hQ dX12_givesOn_495 rfl rfl
      · -- c10 on
        have hs := hs.2 c10
        refine ez_iload hX 2 dX12_givesOn_102 rfl ?_
        refine ez_bipush hX (7 : Int32) dX12_givesOn_104 (by decide) ?_
        refine ez_icmp_eq hX 116 dX12_givesOn_106 (by decide) (fun c17 => ?_) (fun c17 => ?_)
        · -- c17 jump
          have hs := hs.1 c17
          refine ez_iconst hX (1 : Int32) dX12_givesOn_116 (by decide) ?_
          refine ez_goto hX 121 dX12_givesOn_117 (by decide) ?_
          refine ez_istore hX [(8, .int (1 : Int32)), (7, .int (M.1 119 ((((120 : Int32) + ((8 : Int32) * (M.1 119 ((17 : Int32)).toNatClampNeg))) + (2 : Int32))).toNatClampNeg)), (6, .int (M.1 119 ((((120 : Int32) + ((8 : Int32) * (M.1 119 ((17 : Int32)).toNatClampNeg))) + (1 : Int32))).toNatClampNeg)), (5, .int (M.1 119 (((120 : Int32) + ((8 : Int32) * (M.1 119 ((17 : Int32)).toNatClampNeg)))).toNatClampNeg)), (4, .int ((120 : Int32) + ((8 : Int32) * (M.1 119 ((17 : Int32)).toNatClampNeg)))), (3, .int (M.1 119 ((17 : Int32)).toNatClampNeg)), (2, .int (M.1 119 ((20 : Int32)).toNatClampNeg)), (1, .int (M.1 119 ((19 : Int32)).toNatClampNeg)), (0, .ref (ez_B X + 118))] dX12_givesOn_121 (ez_lt hnL rfl) rfl ?_
          refine ez_iload hX 0 dX12_givesOn_123 rfl ?_
          refine ez_if_eq hX 158 dX12_givesOn_125 (by decide) (fun c => absurd c (by decide)) (fun _ => ?_)
          refine ez_iload_n hX 7 dX12_givesOn_128 rfl ?_
          refine ez_iconst hX (1 : Int32) dX12_givesOn_129 (by decide) ?_
          refine ez_icmp_eq hX 152 dX12_givesOn_130 (by decide) (fun c18 => ?_) (fun c18 => ?_)
          · -- c18 jump
            have hs := hs.1 c18
            refine ez_aload_n hX 8 dX12_givesOn_152 rfl ?_
            refine ez_iconst hX (2 : Int32) dX12_givesOn_153 (by decide) ?_
            refine ez_callV hX (N0 := 0) (As := [.int (2 : Int32)]) (st := []) kc_118 (Nat.le_of_ble_eq_true rfl) lc_118 rfl (ec_X12_stands _ _ _ M (2 : Int32)) (Or.inl rfl) wm_X12_139 wv_X12_stands we_X12_stands wy_X12_stands rfl wd_X12_stands wi_X12 (ez_rok hRm rfl) (Nat.le_of_ble_eq_true rfl) dX12_givesOn_154 ?_
            refine ez_nmM (fun M19 eM19 => ?_)
            have hs := hs M19 eM19
            have ht : t0 = M19 := hT.symm.trans (by simp only [et_X12_givesOn, if_pos c1, if_neg c2, if_neg c10, if_pos c17, if_pos c18, eM19])
            subst ht
            exact ez_vret hX hQ dX12_givesOn_157 rfl rfl
          · -- c18 on
            have hs := hs.2 c18
            refine ez_iload hX 3 dX12_givesOn_133 rfl ?_
            refine ez_iconst hX (1 : Int32) dX12_givesOn_135 (by decide) ?_
            refine ez_icmp_ne hX 158 dX12_givesOn_136 (by decide) (fun _ => ?_) (fun c => absurd c (by rw [c17] <;> decide))
            refine ez_aload_n hX 8 dX12_givesOn_158 rfl ?_
            refine ez_getr hX kc_118 rfl (Nat.le_of_ble_eq_true rfl) lc_118 (Nat.le_of_ble_eq_true rfl) inX12 119 rfl rc_118_0 wf_X12_11 dX12_givesOn_159 ?_
            refine ez_bipush hX (17 : Int32) dX12_givesOn_162 (by decide) ?_
            refine ez_aload_n hX 8 dX12_givesOn_164 rfl ?_
            refine ez_getr hX kc_118 rfl (Nat.le_of_ble_eq_true rfl) lc_118 (Nat.le_of_ble_eq_true rfl) inX12 119 rfl rc_118_0 wf_X12_11 dX12_givesOn_165 ?_
            refine ez_iload hX 4 dX12_givesOn_168 rfl ?_
            refine ez_iconst hX (5 : Int32) dX12_givesOn_170 (by decide) ?_
            refine ez_iadd hX dX12_givesOn_171 ?_
            refine ez_iald hX kc_119 lc_119 hs.1 dX12_givesOn_172 ?_
            have hs := hs.2
            refine ez_iast hX kc_119 lc_119 (by unfold vp_in; decide) dX12_givesOn_173 ?_
            refine ez_nmM (fun M20 eM20 => ?_)
            have hs := hs M20 eM20
            refine ez_iload hX 3 dX12_givesOn_174 rfl ?_
            have cx : ((M.1 119 (((120 : Int32) + ((8 : Int32) * (M.1 119 ((17 : Int32)).toNatClampNeg)))).toNatClampNeg)).toInt = 7 := by rw [c17]; rfl
            refine ez_tsIn hX (7) (245) 421 dX12_givesOn_176 cx ⟨by decide, by decide, rfl, by decide⟩ ?_
            refine ez_aload_n hX 8 dX12_givesOn_421 rfl ?_
            refine ez_getr hX kc_118 rfl (Nat.le_of_ble_eq_true rfl) lc_118 (Nat.le_of_ble_eq_true rfl) inX12 119 rfl rc_118_0 wf_X12_11 dX12_givesOn_422 ?_
            refine ez_bipush hX (12 : Int32) dX12_givesOn_425 (by decide) ?_
            refine ez_iald hX kc_119 lc_119 (by unfold vp_in; decide) dX12_givesOn_427 ?_
            refine ez_bipush hX (40 : Int32) dX12_givesOn_428 (by decide) ?_
            refine ez_icmp_ge hX 495 dX12_givesOn_430 (by decide) (fun c21 => ?_) (fun c21 => ?_)
            · -- c21 jump
              have hs := hs.1 c21
              have ht : t0 = M20 := hT.symm.trans (by simp only [et_X12_givesOn, if_pos c1, if_neg c2, if_neg c10, if_pos c17, if_neg c18, eM20, if_pos c21])
              subst ht
              exact ez_vret hX hQ dX12_givesOn_495 rfl rfl
            · -- c21 on
              have hs := hs.2 c21
              refine ez_aload_n hX 8 dX12_givesOn_433 rfl ?_
              refine ez_getr hX kc_118 rfl (Nat.le_of_ble_eq_true rfl) lc_118 (Nat.le_of_ble_eq_true rfl) inX12 119 rfl rc_118_0 wf_X12_11 dX12_givesOn_434 ?_
              refine ez_bipush hX (74 : Int32) dX12_givesOn_437 (by decide) ?_
              refine ez_aload_n hX 8 dX12_givesOn_439 rfl ?_
              refine ez_getr hX kc_118 rfl (Nat.le_of_ble_eq_true rfl) lc_118 (Nat.le_of_ble_eq_true rfl) inX12 119 rfl rc_118_0 wf_X12_11 dX12_givesOn_440 ?_
              refine ez_bipush hX (12 : Int32) dX12_givesOn_443 (by decide) ?_
              refine ez_iald hX kc_119 lc_119 (by unfold vp_in; decide) dX12_givesOn_445 ?_
              refine ez_iadd hX dX12_givesOn_446 ?_
              refine ez_iload_n hX 6 dX12_givesOn_447 rfl ?_
              refine ez_iast hX kc_119 lc_119 hs.1 dX12_givesOn_448 ?_
              have hs := hs.2
              refine ez_nmM (fun M22 eM22 => ?_)
              have hs := hs M22 eM22
              refine ez_aload_n hX 8 dX12_givesOn_449 rfl ?_
              refine ez_getr hX kc_118 rfl (Nat.le_of_ble_eq_true rfl) lc_118 (Nat.le_of_ble_eq_true rfl) inX12 119 rfl rc_118_0 wf_X12_11 dX12_givesOn_450 ?_
              refine ez_bipush hX (12 : Int32) dX12_givesOn_453 (by decide) ?_
              refine ez_dup2 hX dX12_givesOn_455 rfl rfl ?_
              refine ez_iald hX kc_119 lc_119 (by unfold vp_in; decide) dX12_givesOn_456 ?_
              refine ez_iconst hX (1 : Int32) dX12_givesOn_457 (by decide) ?_
              refine ez_iadd hX dX12_givesOn_458 ?_
              refine ez_iast hX kc_119 lc_119 (by unfold vp_in; decide) dX12_givesOn_459 ?_
              refine ez_nmM (fun M23 eM23 => ?_)
              have hs := hs M23 eM23
              refine ez_goto hX 495 dX12_givesOn_460 (by decide) ?_
              have ht : t0 = M23 := hT.symm.trans (by simp only [et_X12_givesOn, if_pos c1, if_neg c2, if_neg c10, if_pos c17, if_neg c18, eM20, if_neg c21, eM22, eM23])
              subst ht
              exact ez_vret hX hQ dX12_givesOn_495 rfl rfl
        · -- c17 on
          have hs := hs.2 c17
          refine ez_iload hX 2 dX12_givesOn_109 rfl ?_
          refine ez_bipush hX (8 : Int32) dX12_givesOn_111 (by decide) ?_
          refine ez_icmp_ne hX 120 dX12_givesOn_113 (by decide) (fun c24 => ?_) (fun c24 => ?_)
          · -- c24 jump
            have hs := hs.2 c24
            refine ez_iconst hX (0 : Int32) dX12_givesOn_120 (by decide) ?_
            refine ez_istore hX [(8, .int (0 : Int32)), (7, .int (M.1 119 ((((120 : Int32) + ((8 : Int32) * (M.1 119 ((17 : Int32)).toNatClampNeg))) + (2 : Int32))).toNatClampNeg)), (6, .int (M.1 119 ((((120 : Int32) + ((8 : Int32) * (M.1 119 ((17 : Int32)).toNatClampNeg))) + (1 : Int32))).toNatClampNeg)), (5, .int (M.1 119 (((120 : Int32) + ((8 : Int32) * (M.1 119 ((17 : Int32)).toNatClampNeg)))).toNatClampNeg)), (4, .int ((120 : Int32) + ((8 : Int32) * (M.1 119 ((17 : Int32)).toNatClampNeg)))), (3, .int (M.1 119 ((17 : Int32)).toNatClampNeg)), (2, .int (M.1 119 ((20 : Int32)).toNatClampNeg)), (1, .int (M.1 119 ((19 : Int32)).toNatClampNeg)), (0, .ref (ez_B X + 118))] dX12_givesOn_121 (ez_lt hnL rfl) rfl ?_
            refine ez_iload hX 0 dX12_givesOn_123 rfl ?_
            refine ez_if_eq hX 158 dX12_givesOn_125 (by decide) (fun _ => ?_) (fun c => absurd c (by decide))
            refine ez_aload_n hX 8 dX12_givesOn_158 rfl ?_
            refine ez_getr hX kc_118 rfl (Nat.le_of_ble_eq_true rfl) lc_118 (Nat.le_of_ble_eq_true rfl) inX12 119 rfl rc_118_0 wf_X12_11 dX12_givesOn_159 ?_
            refine ez_bipush hX (17 : Int32) dX12_givesOn_162 (by decide) ?_
            refine ez_aload_n hX 8 dX12_givesOn_164 rfl ?_
            refine ez_getr hX kc_118 rfl (Nat.le_of_ble_eq_true rfl) lc_118 (Nat.le_of_ble_eq_true rfl) inX12 119 rfl rc_118_0 wf_X12_11 dX12_givesOn_165 ?_
            refine ez_iload hX 4 dX12_givesOn_168 rfl ?_
            refine ez_iconst hX (5 : Int32) dX12_givesOn_170 (by decide) ?_
            refine ez_iadd hX dX12_givesOn_171 ?_
            refine ez_iald hX kc_119 lc_119 hs.1 dX12_givesOn_172 ?_
            have hs := hs.2
            refine ez_iast hX kc_119 lc_119 (by unfold vp_in; decide) dX12_givesOn_173 ?_
            refine ez_nmM (fun M25 eM25 => ?_)
            have hs := hs M25 eM25
            refine ez_iload hX 3 dX12_givesOn_174 rfl ?_
            by_cases c26 : (M.1 119 (((120 : Int32) + ((8 : Int32) * (M.1 119 ((17 : Int32)).toNatClampNeg)))).toNatClampNeg) = (0 : Int32)
            · have cx : ((M.1 119 (((120 : Int32) + ((8 : Int32) * (M.1 119 ((17 : Int32)).toNatClampNeg)))).toNatClampNeg)).toInt = 0 := by rw [c26]; rfl
              refine ez_tsIn hX (0) (52) 228 dX12_givesOn_176 cx ⟨by decide, by decide, rfl, by decide⟩ ?_
              have hs := hs.1 c26
              refine ez_aload_n hX 8 dX12_givesOn_228 rfl ?_
              refine ez_aload_n hX 8 dX12_givesOn_229 rfl ?_
              refine ez_getr hX kc_118 rfl (Nat.le_of_ble_eq_true rfl) lc_118 (Nat.le_of_ble_eq_true rfl) inX12 119 rfl rc_118_0 wf_X12_11 dX12_givesOn_230 ?_
              refine ez_bipush hX (17 : Int32) dX12_givesOn_233 (by decide) ?_
              refine ez_iald hX kc_119 lc_119 (by unfold vp_in; decide) dX12_givesOn_235 ?_
              refine ez_iconst hX (1 : Int32) dX12_givesOn_236 (by decide) ?_
              refine ez_iload hX 2 dX12_givesOn_237 rfl ?_
              refine ez_iload hX 1 dX12_givesOn_239 rfl ?_
              refine ez_iload_n hX 7 dX12_givesOn_241 rfl ?_
              refine ez_iload_n hX 6 dX12_givesOn_242 rfl ?_
              refine ez_iconst hX (0 : Int32) dX12_givesOn_243 (by decide) ?_
              refine ez_callV hX (N0 := 0) (As := [.int (M25.1 119 ((17 : Int32)).toNatClampNeg), .int (1 : Int32), .int (M.1 119 ((((120 : Int32) + ((8 : Int32) * (M.1 119 ((17 : Int32)).toNatClampNeg))) + (1 : Int32))).toNatClampNeg), .int (M.1 119 ((((120 : Int32) + ((8 : Int32) * (M.1 119 ((17 : Int32)).toNatClampNeg))) + (2 : Int32))).toNatClampNeg), .int (M.1 119 ((19 : Int32)).toNatClampNeg), .int (M.1 119 ((20 : Int32)).toNatClampNeg), .int (0 : Int32)]) (st := []) kc_118 (Nat.le_of_ble_eq_true rfl) lc_118 rfl (ec_X12_comes _ _ _ M25 (M25.1 119 ((17 : Int32)).toNatClampNeg) (1 : Int32) (M.1 119 ((((120 : Int32) + ((8 : Int32) * (M.1 119 ((17 : Int32)).toNatClampNeg))) + (1 : Int32))).toNatClampNeg) (M.1 119 ((((120 : Int32) + ((8 : Int32) * (M.1 119 ((17 : Int32)).toNatClampNeg))) + (2 : Int32))).toNatClampNeg) (M.1 119 ((19 : Int32)).toNatClampNeg) (M.1 119 ((20 : Int32)).toNatClampNeg) (0 : Int32) hs.1) (Or.inl rfl) wm_X12_150 wv_X12_comes we_X12_comes wy_X12_comes rfl wd_X12_comes wi_X12 (ez_rok hRm rfl) (Nat.le_of_ble_eq_true rfl) dX12_givesOn_244 ?_
              have hs := hs.2
              refine ez_nmIM (fun r27 M28 eM28 => ?_)
              have hs := hs r27 M28 eM28
              refine ez_if_eq hX 495 dX12_givesOn_247 (by decide) (fun c30 => ?_) (fun c30 => ?_)
              · -- c30 jump
                have hs := hs.1 c30
                have ht : t0 = M28 := hT.symm.trans (by simp only [et_X12_givesOn, if_pos c1, if_neg c2, if_neg c10, if_neg c17, if_neg c24, eM25, if_pos c26, eM28, if_pos c30])
                subst ht
                exact ez_vret hX hQ dX12_givesOn_495 rfl rfl
              · -- c30 on
                have hs := hs.2 c30
                refine ez_aload_n hX 8 dX12_givesOn_250 rfl ?_
                refine ez_aload_n hX 8 dX12_givesOn_251 rfl ?_
                refine ez_getr hX kc_118 rfl (Nat.le_of_ble_eq_true rfl) lc_118 (Nat.le_of_ble_eq_true rfl) inX12 125 rfl rc_118_7 wf_X12_30 dX12_givesOn_252 ?_
                refine ez_iconst hX (5 : Int32) dX12_givesOn_255 (by decide) ?_
                refine ez_iload hX 2 dX12_givesOn_256 rfl ?_
                refine ez_imul hX dX12_givesOn_258 ?_
                refine ez_iconst hX (1 : Int32) dX12_givesOn_259 (by decide) ?_
                refine ez_iadd hX dX12_givesOn_260 ?_
                refine ez_iald hX kc_125 lc_125 hs.1 dX12_givesOn_261 ?_
                have hs := hs.2
                refine ez_iconst hX (0 : Int32) dX12_givesOn_262 (by decide) ?_
                refine ez_iload hX 1 dX12_givesOn_263 rfl ?_
                refine ez_callV hX (N0 := 0) (As := [.int (M28.1 125 ((((5 : Int32) * (M.1 119 ((((120 : Int32) + ((8 : Int32) * (M.1 119 ((17 : Int32)).toNatClampNeg))) + (1 : Int32))).toNatClampNeg)) + (1 : Int32))).toNatClampNeg), .int (0 : Int32), .int (M.1 119 ((((120 : Int32) + ((8 : Int32) * (M.1 119 ((17 : Int32)).toNatClampNeg))) + (2 : Int32))).toNatClampNeg)]) (st := []) kc_118 (Nat.le_of_ble_eq_true rfl) lc_118 rfl (ec_X12_works _ _ _ M28 (M28.1 125 ((((5 : Int32) * (M.1 119 ((((120 : Int32) + ((8 : Int32) * (M.1 119 ((17 : Int32)).toNatClampNeg))) + (1 : Int32))).toNatClampNeg)) + (1 : Int32))).toNatClampNeg) (0 : Int32) (M.1 119 ((((120 : Int32) + ((8 : Int32) * (M.1 119 ((17 : Int32)).toNatClampNeg))) + (2 : Int32))).toNatClampNeg)) (Or.inl rfl) wm_X12_154 wv_X12_works we_X12_works wy_X12_works rfl wd_X12_works wi_X12 (ez_rok hRm rfl) (Nat.le_of_ble_eq_true rfl) dX12_givesOn_265 ?_
                refine ez_nmM (fun M31 eM31 => ?_)
                have hs := hs M31 eM31
                refine ez_goto hX 495 dX12_givesOn_268 (by decide) ?_
                have ht : t0 = M31 := hT.symm.trans (by simp only [et_X12_givesOn, if_pos c1, if_neg c2, if_neg c10, if_neg c17, if_neg c24, eM25, if_pos c26, eM28, if_neg c30, eM31])
                subst ht
                exact ez_vret hX hQ dX12_givesOn_495 rfl rfl
            · skip
              have hs := hs.2 c26
              by_cases c32 : (M.1 119 (((120 : Int32) + ((8 : Int32) * (M.1 119 ((17 : Int32)).toNatClampNeg)))).toNatClampNeg) = (3 : Int32)
              · have cx : ((M.1 119 (((120 : Int32) + ((8 : Int32) * (M.1 119 ((17 : Int32)).toNatClampNeg)))).toNatClampNeg)).toInt = 3 := by rw [c32]; rfl
                refine ez_tsIn hX (3) (152) 328 dX12_givesOn_176 cx ⟨by decide, by decide, rfl, by decide⟩ ?_
                have hs := hs.1 c32
                refine ez_aload_n hX 8 dX12_givesOn_328 rfl ?_
                refine ez_aload_n hX 8 dX12_givesOn_329 rfl ?_
                refine ez_getr hX kc_118 rfl (Nat.le_of_ble_eq_true rfl) lc_118 (Nat.le_of_ble_eq_true rfl) inX12 125 rfl rc_118_7 wf_X12_30 dX12_givesOn_330 ?_
                refine ez_iconst hX (5 : Int32) dX12_givesOn_333 (by decide) ?_
                refine ez_iload hX 2 dX12_givesOn_334 rfl ?_
                refine ez_imul hX dX12_givesOn_336 ?_
                refine ez_iconst hX (1 : Int32) dX12_givesOn_337 (by decide) ?_
                refine ez_iadd hX dX12_givesOn_338 ?_
                refine ez_iald hX kc_125 lc_125 hs.1 dX12_givesOn_339 ?_
                have hs := hs.2
                refine ez_iconst hX (0 : Int32) dX12_givesOn_340 (by decide) ?_
                refine ez_aload_n hX 8 dX12_givesOn_341 rfl ?_
                refine ez_iload hX 1 dX12_givesOn_342 rfl ?_
                refine ez_aload_n hX 8 dX12_givesOn_344 rfl ?_
                refine ez_getr hX kc_118 rfl (Nat.le_of_ble_eq_true rfl) lc_118 (Nat.le_of_ble_eq_true rfl) inX12 123 rfl rc_118_5 wf_X12_24 dX12_givesOn_345 ?_
                refine ez_iload hX 2 dX12_givesOn_348 rfl ?_
                refine ez_iald hX kc_123 lc_123 hs.1 dX12_givesOn_350 ?_
                have hs := hs.2
                refine ez_iload_n hX 7 dX12_givesOn_351 rfl ?_
                refine ez_iload_n hX 6 dX12_givesOn_352 rfl ?_
                refine ez_callV hX (N0 := 0) (As := [.int (M.1 119 ((((120 : Int32) + ((8 : Int32) * (M.1 119 ((17 : Int32)).toNatClampNeg))) + (2 : Int32))).toNatClampNeg), .int (M25.1 123 ((M.1 119 ((((120 : Int32) + ((8 : Int32) * (M.1 119 ((17 : Int32)).toNatClampNeg))) + (1 : Int32))).toNatClampNeg)).toNatClampNeg), .int (M.1 119 ((19 : Int32)).toNatClampNeg), .int (M.1 119 ((20 : Int32)).toNatClampNeg)]) (st := [.int (0 : Int32), .int (M25.1 125 ((((5 : Int32) * (M.1 119 ((((120 : Int32) + ((8 : Int32) * (M.1 119 ((17 : Int32)).toNatClampNeg))) + (1 : Int32))).toNatClampNeg)) + (1 : Int32))).toNatClampNeg), .ref (ez_B X + 118)]) kc_118 (Nat.le_of_ble_eq_true rfl) lc_118 rfl (ec_X12_bound _ _ _ M25 (M.1 119 ((((120 : Int32) + ((8 : Int32) * (M.1 119 ((17 : Int32)).toNatClampNeg))) + (2 : Int32))).toNatClampNeg) (M25.1 123 ((M.1 119 ((((120 : Int32) + ((8 : Int32) * (M.1 119 ((17 : Int32)).toNatClampNeg))) + (1 : Int32))).toNatClampNeg)).toNatClampNeg) (M.1 119 ((19 : Int32)).toNatClampNeg) (M.1 119 ((20 : Int32)).toNatClampNeg) hs.1) (Or.inl rfl) wm_X12_158 wv_X12_bound we_X12_bound wy_X12_bound rfl wd_X12_bound wi_X12 (ez_rok hRm rfl) (Nat.le_of_ble_eq_true rfl) dX12_givesOn_353 ?_
                have hs := hs.2
                refine ez_nmIM (fun r33 M34 eM34 => ?_)
                have hs := hs r33 M34 eM34
                refine ez_callV hX (N0 := 0) (As := [.int (M25.1 125 ((((5 : Int32) * (M.1 119 ((((120 : Int32) + ((8 : Int32) * (M.1 119 ((17 : Int32)).toNatClampNeg))) + (1 : Int32))).toNatClampNeg)) + (1 : Int32))).toNatClampNeg), .int (0 : Int32), .int r33]) (st := []) kc_118 (Nat.le_of_ble_eq_true rfl) lc_118 rfl (ec_X12_works _ _ _ M34 (M25.1 125 ((((5 : Int32) * (M.1 119 ((((120 : Int32) + ((8 : Int32) * (M.1 119 ((17 : Int32)).toNatClampNeg))) + (1 : Int32))).toNatClampNeg)) + (1 : Int32))).toNatClampNeg) (0 : Int32) r33) (Or.inl rfl) wm_X12_154 wv_X12_works we_X12_works wy_X12_works rfl wd_X12_works wi_X12 (ez_rok hRm rfl) (Nat.le_of_ble_eq_true rfl) dX12_givesOn_356 ?_
                refine ez_nmM (fun M36 eM36 => ?_)
                have hs := hs M36 eM36
                refine ez_goto hX 495 dX12_givesOn_359 (by decide) ?_
                have ht : t0 = M36 := hT.symm.trans (by simp only [et_X12_givesOn, if_pos c1, if_neg c2, if_neg c10, if_neg c17, if_neg c24, eM25, if_neg c26, if_pos c32, eM34, eM36])
                subst ht
                exact ez_vret hX hQ dX12_givesOn_495 rfl rfl
              · skip
                have hs := hs.2 c32
                by_cases c37 : (M.1 119 (((120 : Int32) + ((8 : Int32) * (M.1 119 ((17 : Int32)).toNatClampNeg)))).toNatClampNeg) = (4 : Int32)
                · have cx : ((M.1 119 (((120 : Int32) + ((8 : Int32) * (M.1 119 ((17 : Int32)).toNatClampNeg)))).toNatClampNeg)).toInt = 4 := by rw [c37]; rfl
                  refine ez_tsIn hX (4) (186) 362 dX12_givesOn_176 cx ⟨by decide, by decide, rfl, by decide⟩ ?_
                  have hs := hs.1 c37
                  refine ez_aload_n hX 8 dX12_givesOn_362 rfl ?_
                  refine ez_iload hX 2 dX12_givesOn_363 rfl ?_
                  refine ez_aload_n hX 8 dX12_givesOn_365 rfl ?_
                  refine ez_getr hX kc_118 rfl (Nat.le_of_ble_eq_true rfl) lc_118 (Nat.le_of_ble_eq_true rfl) inX12 119 rfl rc_118_0 wf_X12_11 dX12_givesOn_366 ?_
                  refine ez_iload hX 4 dX12_givesOn_369 rfl ?_
                  refine ez_bipush hX (7 : Int32) dX12_givesOn_371 (by decide) ?_
                  refine ez_iadd hX dX12_givesOn_373 ?_
                  refine ez_iald hX kc_119 lc_119 hs.1 dX12_givesOn_374 ?_
                  have hs := hs.2
                  refine ez_iload hX 1 dX12_givesOn_375 rfl ?_
                  refine ez_callV hX (N0 := 0) (As := [.int (M.1 119 ((((120 : Int32) + ((8 : Int32) * (M.1 119 ((17 : Int32)).toNatClampNeg))) + (1 : Int32))).toNatClampNeg), .int (M25.1 119 ((((120 : Int32) + ((8 : Int32) * (M.1 119 ((17 : Int32)).toNatClampNeg))) + (7 : Int32))).toNatClampNeg), .int (M.1 119 ((((120 : Int32) + ((8 : Int32) * (M.1 119 ((17 : Int32)).toNatClampNeg))) + (2 : Int32))).toNatClampNeg)]) (st := []) kc_118 (Nat.le_of_ble_eq_true rfl) lc_118 rfl (ec_X12_works _ _ _ M25 (M.1 119 ((((120 : Int32) + ((8 : Int32) * (M.1 119 ((17 : Int32)).toNatClampNeg))) + (1 : Int32))).toNatClampNeg) (M25.1 119 ((((120 : Int32) + ((8 : Int32) * (M.1 119 ((17 : Int32)).toNatClampNeg))) + (7 : Int32))).toNatClampNeg) (M.1 119 ((((120 : Int32) + ((8 : Int32) * (M.1 119 ((17 : Int32)).toNatClampNeg))) + (2 : Int32))).toNatClampNeg)) (Or.inl rfl) wm_X12_154 wv_X12_works we_X12_works wy_X12_works rfl wd_X12_works wi_X12 (ez_rok hRm rfl) (Nat.le_of_ble_eq_true rfl) dX12_givesOn_377 ?_
                  refine ez_nmM (fun M38 eM38 => ?_)
                  have hs := hs M38 eM38
                  refine ez_goto hX 495 dX12_givesOn_380 (by decide) ?_
                  have ht : t0 = M38 := hT.symm.trans (by simp only [et_X12_givesOn, if_pos c1, if_neg c2, if_neg c10, if_neg c17, if_neg c24, eM25, if_neg c26, if_neg c32, if_pos c37, eM38])
                  subst ht
                  exact ez_vret hX hQ dX12_givesOn_495 rfl rfl
                · skip
                  have hs := hs.2 c37
                  by_cases c39 : (M.1 119 (((120 : Int32) + ((8 : Int32) * (M.1 119 ((17 : Int32)).toNatClampNeg)))).toNatClampNeg) = (5 : Int32)
                  · have cx : ((M.1 119 (((120 : Int32) + ((8 : Int32) * (M.1 119 ((17 : Int32)).toNatClampNeg)))).toNatClampNeg)).toInt = 5 := by rw [c39]; rfl
                    refine ez_tsIn hX (5) (207) 383 dX12_givesOn_176 cx ⟨by decide, by decide, rfl, by decide⟩ ?_
                    have hs := hs.1 c39
                    refine ez_aload_n hX 8 dX12_givesOn_383 rfl ?_
                    refine ez_aload_n hX 8 dX12_givesOn_384 rfl ?_
                    refine ez_getr hX kc_118 rfl (Nat.le_of_ble_eq_true rfl) lc_118 (Nat.le_of_ble_eq_true rfl) inX12 122 rfl rc_118_4 wf_X12_21 dX12_givesOn_385 ?_
                    refine ez_iload hX 2 dX12_givesOn_388 rfl ?_
                    refine ez_iald hX kc_122 lc_122 hs.1 dX12_givesOn_390 ?_
                    have hs := hs.2
                    refine ez_bipush hX (70 : Int32) dX12_givesOn_391 (by decide) ?_
                    refine ez_isub hX dX12_givesOn_393 ?_
                    refine ez_iload_n hX 7 dX12_givesOn_394 rfl ?_
                    refine ez_iload_n hX 6 dX12_givesOn_395 rfl ?_
                    refine ez_callV hX (N0 := 0) (As := [.int ((M25.1 122 ((M.1 119 ((((120 : Int32) + ((8 : Int32) * (M.1 119 ((17 : Int32)).toNatClampNeg))) + (1 : Int32))).toNatClampNeg)).toNatClampNeg) - (70 : Int32)), .int (M.1 119 ((19 : Int32)).toNatClampNeg), .int (M.1 119 ((20 : Int32)).toNatClampNeg)]) (st := []) kc_118 (Nat.le_of_ble_eq_true rfl) lc_118 rfl (ec_X12_calls _ _ _ M25 ((M25.1 122 ((M.1 119 ((((120 : Int32) + ((8 : Int32) * (M.1 119 ((17 : Int32)).toNatClampNeg))) + (1 : Int32))).toNatClampNeg)).toNatClampNeg) - (70 : Int32)) (M.1 119 ((19 : Int32)).toNatClampNeg) (M.1 119 ((20 : Int32)).toNatClampNeg) hs.1) (Or.inl rfl) wm_X12_169 wv_X12_calls we_X12_calls wy_X12_calls rfl wd_X12_calls wi_X12 (ez_rok hRm rfl) (Nat.le_of_ble_eq_true rfl) dX12_givesOn_396 ?_
                    have hs := hs.2
                    refine ez_nmM (fun M40 eM40 => ?_)
                    have hs := hs M40 eM40
                    refine ez_goto hX 495 dX12_givesOn_399 (by decide) ?_
                    have ht : t0 = M40 := hT.symm.trans (by simp only [et_X12_givesOn, if_pos c1, if_neg c2, if_neg c10, if_neg c17, if_neg c24, eM25, if_neg c26, if_neg c32, if_neg c37, if_pos c39, eM40])
                    subst ht
                    exact ez_vret hX hQ dX12_givesOn_495 rfl rfl
                  · skip
                    have hs := hs.2 c39
                    by_cases c41 : (M.1 119 (((120 : Int32) + ((8 : Int32) * (M.1 119 ((17 : Int32)).toNatClampNeg)))).toNatClampNeg) = (6 : Int32)
                    · have cx : ((M.1 119 (((120 : Int32) + ((8 : Int32) * (M.1 119 ((17 : Int32)).toNatClampNeg)))).toNatClampNeg)).toInt = 6 := by rw [c41]; rfl
                      refine ez_tsIn hX (6) (226) 402 dX12_givesOn_176 cx ⟨by decide, by decide, rfl, by decide⟩ ?_
                      have hs := hs.1 c41
                      refine ez_aload_n hX 8 dX12_givesOn_402 rfl ?_
                      refine ez_aload_n hX 8 dX12_givesOn_403 rfl ?_
                      refine ez_getr hX kc_118 rfl (Nat.le_of_ble_eq_true rfl) lc_118 (Nat.le_of_ble_eq_true rfl) inX12 119 rfl rc_118_0 wf_X12_11 dX12_givesOn_404 ?_
                      refine ez_iload hX 4 dX12_givesOn_407 rfl ?_
                      refine ez_bipush hX (7 : Int32) dX12_givesOn_409 (by decide) ?_
                      refine ez_iadd hX dX12_givesOn_411 ?_
                      refine ez_iald hX kc_119 lc_119 hs.1 dX12_givesOn_412 ?_
                      have hs := hs.2
                      refine ez_iload_n hX 7 dX12_givesOn_413 rfl ?_
                      refine ez_iload_n hX 6 dX12_givesOn_414 rfl ?_
                      refine ez_callV hX (N0 := 0) (As := [.int (M25.1 119 ((((120 : Int32) + ((8 : Int32) * (M.1 119 ((17 : Int32)).toNatClampNeg))) + (7 : Int32))).toNatClampNeg), .int (M.1 119 ((19 : Int32)).toNatClampNeg), .int (M.1 119 ((20 : Int32)).toNatClampNeg)]) (st := []) kc_118 (Nat.le_of_ble_eq_true rfl) lc_118 rfl (ec_X12_goes _ _ _ M25 (M25.1 119 ((((120 : Int32) + ((8 : Int32) * (M.1 119 ((17 : Int32)).toNatClampNeg))) + (7 : Int32))).toNatClampNeg) (M.1 119 ((19 : Int32)).toNatClampNeg) (M.1 119 ((20 : Int32)).toNatClampNeg) hs.1) (Or.inl rfl) wm_X12_172 wv_X12_goes we_X12_goes wy_X12_goes rfl wd_X12_goes wi_X12 (ez_rok hRm rfl) (Nat.le_of_ble_eq_true rfl) dX12_givesOn_415 ?_
                      have hs := hs.2
                      refine ez_nmM (fun M42 eM42 => ?_)
                      have hs := hs M42 eM42
                      refine ez_goto hX 495 dX12_givesOn_418 (by decide) ?_
                      have ht : t0 = M42 := hT.symm.trans (by simp only [et_X12_givesOn, if_pos c1, if_neg c2, if_neg c10, if_neg c17, if_neg c24, eM25, if_neg c26, if_neg c32, if_neg c37, if_neg c39, if_pos c41, eM42])
                      subst ht
                      exact ez_vret hX hQ dX12_givesOn_495 rfl rfl
                    · skip
                      have hs := hs.2 c41
                      refine ez_tsD hX [0, 1, 2, 3, 4, 5, 6, 7, 8] 481 dX12_givesOn_176 (List.forall_mem_cons.mpr ⟨lv_neT c26 rfl, (List.forall_mem_cons.mpr ⟨lv_neT c2 rfl, (List.forall_mem_cons.mpr ⟨lv_neT c10 rfl, (List.forall_mem_cons.mpr ⟨lv_neT c32 rfl, (List.forall_mem_cons.mpr ⟨lv_neT c37 rfl, (List.forall_mem_cons.mpr ⟨lv_neT c39 rfl, (List.forall_mem_cons.mpr ⟨lv_neT c41 rfl, (List.forall_mem_cons.mpr ⟨lv_neT c17 rfl, (List.forall_mem_cons.mpr ⟨lv_neT c24 rfl, (fun _ h => absurd h List.not_mem_nil)⟩)⟩)⟩)⟩)⟩)⟩)⟩)⟩)⟩) (by decide +kernel) (by decide) ?_
                      refine ez_aload_n hX 8 dX12_givesOn_481 rfl ?_
                      refine ez_iload hX 4 dX12_givesOn_482 rfl ?_
                      refine ez_iload hX 3 dX12_givesOn_484 rfl ?_
                      refine ez_iload hX 2 dX12_givesOn_486 rfl ?_
                      refine ez_iload hX 1 dX12_givesOn_488 rfl ?_
                      refine ez_iload_n hX 7 dX12_givesOn_490 rfl ?_
                      refine ez_iload_n hX 6 dX12_givesOn_491 rfl ?_
                      refine ez_callV hX (N0 := 0) (As := [.int ((120 : Int32) + ((8 : Int32) * (M.1 119 ((17 : Int32)).toNatClampNeg))), .int (M.1 119 (((120 : Int32) + ((8 : Int32) * (M.1 119 ((17 : Int32)).toNatClampNeg)))).toNatClampNeg), .int (M.1 119 ((((120 : Int32) + ((8 : Int32) * (M.1 119 ((17 : Int32)).toNatClampNeg))) + (1 : Int32))).toNatClampNeg), .int (M.1 119 ((((120 : Int32) + ((8 : Int32) * (M.1 119 ((17 : Int32)).toNatClampNeg))) + (2 : Int32))).toNatClampNeg), .int (M.1 119 ((19 : Int32)).toNatClampNeg), .int (M.1 119 ((20 : Int32)).toNatClampNeg)]) (st := []) kc_118 (Nat.le_of_ble_eq_true rfl) lc_118 rfl (ec_X12_winds _ _ _ M25 ((120 : Int32) + ((8 : Int32) * (M.1 119 ((17 : Int32)).toNatClampNeg))) (M.1 119 (((120 : Int32) + ((8 : Int32) * (M.1 119 ((17 : Int32)).toNatClampNeg)))).toNatClampNeg) (M.1 119 ((((120 : Int32) + ((8 : Int32) * (M.1 119 ((17 : Int32)).toNatClampNeg))) + (1 : Int32))).toNatClampNeg) (M.1 119 ((((120 : Int32) + ((8 : Int32) * (M.1 119 ((17 : Int32)).toNatClampNeg))) + (2 : Int32))).toNatClampNeg) (M.1 119 ((19 : Int32)).toNatClampNeg) (M.1 119 ((20 : Int32)).toNatClampNeg) hs.1) (Or.inl rfl) wm_X12_175 wv_X12_winds we_X12_winds wy_X12_winds rfl wd_X12_winds wi_X12 (ez_rok hRm rfl) (Nat.le_of_ble_eq_true rfl) dX12_givesOn_492 ?_
                      have hs := hs.2
                      refine ez_nmM (fun M43 eM43 => ?_)
                      have hs := hs M43 eM43
                      have ht : t0 = M43 := hT.symm.trans (by simp only [et_X12_givesOn, if_pos c1, if_neg c2, if_neg c10, if_neg c17, if_neg c24, eM25, if_neg c26, if_neg c32, if_neg c37, if_neg c39, if_neg c41, eM43])
                      subst ht
                      exact ez_vret hX hQ dX12_givesOn_495 rfl rfl
          · -- c24 on
            have hs := hs.1 c24
            refine ez_iconst hX (1 : Int32) dX12_givesOn_116 (by decide) ?_
            refine ez_goto hX 121 dX12_givesOn_117 (by decide) ?_
            refine ez_istore hX [(8, .int (1 : Int32)), (7, .int (M.1 119 ((((120 : Int32) + ((8 : Int32) * (M.1 119 ((17 : Int32)).toNatClampNeg))) + (2 : Int32))).toNatClampNeg)), (6, .int (M.1 119 ((((120 : Int32) + ((8 : Int32) * (M.1 119 ((17 : Int32)).toNatClampNeg))) + (1 : Int32))).toNatClampNeg)), (5, .int (M.1 119 (((120 : Int32) + ((8 : Int32) * (M.1 119 ((17 : Int32)).toNatClampNeg)))).toNatClampNeg)), (4, .int ((120 : Int32) + ((8 : Int32) * (M.1 119 ((17 : Int32)).toNatClampNeg)))), (3, .int (M.1 119 ((17 : Int32)).toNatClampNeg)), (2, .int (M.1 119 ((20 : Int32)).toNatClampNeg)), (1, .int (M.1 119 ((19 : Int32)).toNatClampNeg)), (0, .ref (ez_B X + 118))] dX12_givesOn_121 (ez_lt hnL rfl) rfl ?_
            refine ez_iload hX 0 dX12_givesOn_123 rfl ?_
            refine ez_if_eq hX 158 dX12_givesOn_125 (by decide) (fun c => absurd c (by decide)) (fun _ => ?_)
            refine ez_iload_n hX 7 dX12_givesOn_128 rfl ?_
            refine ez_iconst hX (1 : Int32) dX12_givesOn_129 (by decide) ?_
            refine ez_icmp_eq hX 152 dX12_givesOn_130 (by decide) (fun c44 => ?_) (fun c44 => ?_)
            · -- c44 jump
              have hs := hs.1 c44
              refine ez_aload_n hX 8 dX12_givesOn_152 rfl ?_
              refine ez_iconst hX (2 : Int32) dX12_givesOn_153 (by decide) ?_
              refine ez_callV hX (N0 := 0) (As := [.int (2 : Int32)]) (st := []) kc_118 (Nat.le_of_ble_eq_true rfl) lc_118 rfl (ec_X12_stands _ _ _ M (2 : Int32)) (Or.inl rfl) wm_X12_139 wv_X12_stands we_X12_stands wy_X12_stands rfl wd_X12_stands wi_X12 (ez_rok hRm rfl) (Nat.le_of_ble_eq_true rfl) dX12_givesOn_154 ?_
              refine ez_nmM (fun M45 eM45 => ?_)
              have hs := hs M45 eM45
              have ht : t0 = M45 := hT.symm.trans (by simp only [et_X12_givesOn, if_pos c1, if_neg c2, if_neg c10, if_neg c17, if_pos c24, if_pos c44, eM45])
              subst ht
              exact ez_vret hX hQ dX12_givesOn_157 rfl rfl
            · -- c44 on
              have hs := hs.2 c44
              refine ez_iload hX 3 dX12_givesOn_133 rfl ?_
              refine ez_iconst hX (1 : Int32) dX12_givesOn_135 (by decide) ?_
              refine ez_icmp_ne hX 158 dX12_givesOn_136 (by decide) (fun _ => ?_) (fun c => absurd c (by rw [c24] <;> decide))
              refine ez_aload_n hX 8 dX12_givesOn_158 rfl ?_
              refine ez_getr hX kc_118 rfl (Nat.le_of_ble_eq_true rfl) lc_118 (Nat.le_of_ble_eq_true rfl) inX12 119 rfl rc_118_0 wf_X12_11 dX12_givesOn_159 ?_
              refine ez_bipush hX (17 : Int32) dX12_givesOn_162 (by decide) ?_
              refine ez_aload_n hX 8 dX12_givesOn_164 rfl ?_
              refine ez_getr hX kc_118 rfl (Nat.le_of_ble_eq_true rfl) lc_118 (Nat.le_of_ble_eq_true rfl) inX12 119 rfl rc_118_0 wf_X12_11 dX12_givesOn_165 ?_
              refine ez_iload hX 4 dX12_givesOn_168 rfl ?_
              refine ez_iconst hX (5 : Int32) dX12_givesOn_170 (by decide) ?_
              refine ez_iadd hX dX12_givesOn_171 ?_
              refine ez_iald hX kc_119 lc_119 hs.1 dX12_givesOn_172 ?_
              have hs := hs.2
              refine ez_iast hX kc_119 lc_119 (by unfold vp_in; decide) dX12_givesOn_173 ?_
              refine ez_nmM (fun M46 eM46 => ?_)
              have hs := hs M46 eM46
              refine ez_iload hX 3 dX12_givesOn_174 rfl ?_
              have cx : ((M.1 119 (((120 : Int32) + ((8 : Int32) * (M.1 119 ((17 : Int32)).toNatClampNeg)))).toNatClampNeg)).toInt = 8 := by rw [c24]; rfl
              refine ez_tsIn hX (8) (287) 463 dX12_givesOn_176 cx ⟨by decide, by decide, rfl, by decide⟩ ?_
              refine ez_aload_n hX 8 dX12_givesOn_463 rfl ?_
              refine ez_getr hX kc_118 rfl (Nat.le_of_ble_eq_true rfl) lc_118 (Nat.le_of_ble_eq_true rfl) inX12 119 rfl rc_118_0 wf_X12_11 dX12_givesOn_464 ?_
              refine ez_iconst hX (0 : Int32) dX12_givesOn_467 (by decide) ?_
              refine ez_aload_n hX 8 dX12_givesOn_468 rfl ?_
              refine ez_getr hX kc_118 rfl (Nat.le_of_ble_eq_true rfl) lc_118 (Nat.le_of_ble_eq_true rfl) inX12 123 rfl rc_118_5 wf_X12_24 dX12_givesOn_469 ?_
              refine ez_iload hX 2 dX12_givesOn_472 rfl ?_
              refine ez_iald hX kc_123 lc_123 hs.1 dX12_givesOn_474 ?_
              have hs := hs.2
              refine ez_iadd hX dX12_givesOn_475 ?_
              refine ez_iload_n hX 6 dX12_givesOn_476 rfl ?_
              refine ez_iast hX kc_119 lc_119 hs.1 dX12_givesOn_477 ?_
              have hs := hs.2
              refine ez_nmM (fun M47 eM47 => ?_)
              have hs := hs M47 eM47
              refine ez_goto hX 495 dX12_givesOn_478 (by decide) ?_
              have ht : t0 = M47 := hT.symm.trans (by simp only [et_X12_givesOn, if_pos c1, if_neg c2, if_neg c10, if_neg c17, if_pos c24, if_neg c44, eM46, eM47])
              subst ht
              exact ez_vret hX hQ dX12_givesOn_495 rfl rfl
  · -- c1 on
    have hs := hs.2 c1
    refine ez_aload_n hX 3 dX12_givesOn_28 rfl ?_
    refine ez_getr hX kc_118 rfl (Nat.le_of_ble_eq_true rfl) lc_118 (Nat.le_of_ble_eq_true rfl) inX12 119 rfl rc_118_0 wf_X12_11 dX12_givesOn_29 ?_
    refine ez_bipush hX (8 : Int32) dX12_givesOn_32 (by decide) ?_
    refine ez_iload_n hX 2 dX12_givesOn_34 rfl ?_
    refine ez_iast hX kc_119 lc_119 (by unfold vp_in; decide) dX12_givesOn_35 ?_
    refine ez_nmM (fun M48 eM48 => ?_)
    have hs := hs M48 eM48
    refine ez_aload_n hX 3 dX12_givesOn_36 rfl ?_
    refine ez_getr hX kc_118 rfl (Nat.le_of_ble_eq_true rfl) lc_118 (Nat.le_of_ble_eq_true rfl) inX12 119 rfl rc_118_0 wf_X12_11 dX12_givesOn_37 ?_
    refine ez_bipush hX (9 : Int32) dX12_givesOn_40 (by decide) ?_
    refine ez_iload_n hX 1 dX12_givesOn_42 rfl ?_
    refine ez_iast hX kc_119 lc_119 (by unfold vp_in; decide) dX12_givesOn_43 ?_
    refine ez_nmM (fun M49 eM49 => ?_)
    have hs := hs M49 eM49
    refine ez_aload_n hX 3 dX12_givesOn_44 rfl ?_
    refine ez_iconst hX (0 : Int32) dX12_givesOn_45 (by decide) ?_
    refine ez_callV hX (N0 := 0) (As := [.int (0 : Int32)]) (st := []) kc_118 (Nat.le_of_ble_eq_true rfl) lc_118 rfl (ec_X12_stands _ _ _ M49 (0 : Int32)) (Or.inl rfl) wm_X12_139 wv_X12_stands we_X12_stands wy_X12_stands rfl wd_X12_stands wi_X12 (ez_rok hRm rfl) (Nat.le_of_ble_eq_true rfl) dX12_givesOn_46 ?_
    refine ez_nmM (fun M50 eM50 => ?_)
    have hs := hs M50 eM50
    have ht : t0 = M50 := hT.symm.trans (by simp only [et_X12_givesOn, if_neg c1, eM48, eM49, eM50])
    subst ht
    exact ez_vret hX hQ dX12_givesOn_49 rfl rfl

def et_X12_begins  (M : em_M) (line : Int32) : em_M :=
  let M1 := em_pI M 119 ((7 : Int32)).toNatClampNeg (-5 : Int32)
  let M2 := em_pI M1 119 ((10 : Int32)).toNatClampNeg (0 : Int32)
  let M3 := em_pI M2 119 ((11 : Int32)).toNatClampNeg (0 : Int32)
  let M4 := em_pI M3 119 ((12 : Int32)).toNatClampNeg (0 : Int32)
  let M5 := em_pI M4 119 ((17 : Int32)).toNatClampNeg (-1 : Int32)
  let M6 := em_pI M5 119 ((18 : Int32)).toNatClampNeg (-1 : Int32)
  let M7 := em_pI M6 119 ((21 : Int32)).toNatClampNeg (0 : Int32)
  let M8 := em_pI M7 119 ((22 : Int32)).toNatClampNeg (0 : Int32)
  let M9 := em_pI M8 119 ((23 : Int32)).toNatClampNeg (0 : Int32)
  let M10 := em_pI M9 119 ((24 : Int32)).toNatClampNeg (0 : Int32)
  let M11 := et_X12_works M10 ((101 : Int32) * line) (0 : Int32) (-1 : Int32)
  M11
set_option maxHeartbeats 4000000 in
set_option maxRecDepth 100000 in
theorem ec_X12_begins (l : Launch) (D : em_G) (B : Nat) (M : em_M) (line : Int32) : em_C l D B yX12_begins cX12_begins 2 none 1 23 0 0 false [.ref (B + 118), .int line] 132 em_R M (none) 132 em_R ((et_X12_begins M line)) := by
  refine em_C_of RX12 [(0, .ref (B + 118)), (1, .int line)] (by decide) rfl rfl (Nat.le_of_ble_eq_true rfl) ?_
  rintro X rfl rfl rfl hRm hnL hnm hsz hX hQ
  obtain ⟨t0, hT⟩ : ∃ tz, et_X12_begins M line = tz := ⟨_, rfl⟩
  rw [hT] at hQ
  refine ez_aload_n hX 0 dX12_begins_0 rfl ?_
  refine ez_getr hX kc_118 rfl (Nat.le_of_ble_eq_true rfl) lc_118 (Nat.le_of_ble_eq_true rfl) inX12 119 rfl rc_118_0 wf_X12_11 dX12_begins_1 ?_
  refine ez_bipush hX (7 : Int32) dX12_begins_4 (by decide) ?_
  refine ez_bipush hX (-5 : Int32) dX12_begins_6 (by decide) ?_
  refine ez_iast hX kc_119 lc_119 (by unfold vp_in; decide) dX12_begins_8 ?_
  refine ez_nmM (fun M1 eM1 => ?_)
  refine ez_aload_n hX 0 dX12_begins_9 rfl ?_
  refine ez_getr hX kc_118 rfl (Nat.le_of_ble_eq_true rfl) lc_118 (Nat.le_of_ble_eq_true rfl) inX12 119 rfl rc_118_0 wf_X12_11 dX12_begins_10 ?_
  refine ez_bipush hX (10 : Int32) dX12_begins_13 (by decide) ?_
  refine ez_iconst hX (0 : Int32) dX12_begins_15 (by decide) ?_
  refine ez_iast hX kc_119 lc_119 (by unfold vp_in; decide) dX12_begins_16 ?_
  refine ez_nmM (fun M2 eM2 => ?_)
  refine ez_aload_n hX 0 dX12_begins_17 rfl ?_
  refine ez_getr hX kc_118 rfl (Nat.le_of_ble_eq_true rfl) lc_118 (Nat.le_of_ble_eq_true rfl) inX12 119 rfl rc_118_0 wf_X12_11 dX12_begins_18 ?_
  refine ez_bipush hX (11 : Int32) dX12_begins_21 (by decide) ?_
  refine ez_iconst hX (0 : Int32) dX12_begins_23 (by decide) ?_
  refine ez_iast hX kc_119 lc_119 (by unfold vp_in; decide) dX12_begins_24 ?_
  refine ez_nmM (fun M3 eM3 => ?_)
  refine ez_aload_n hX 0 dX12_begins_25 rfl ?_
  refine ez_getr hX kc_118 rfl (Nat.le_of_ble_eq_true rfl) lc_118 (Nat.le_of_ble_eq_true rfl) inX12 119 rfl rc_118_0 wf_X12_11 dX12_begins_26 ?_
  refine ez_bipush hX (12 : Int32) dX12_begins_29 (by decide) ?_
  refine ez_iconst hX (0 : Int32) dX12_begins_31 (by decide) ?_
  refine ez_iast hX kc_119 lc_119 (by unfold vp_in; decide) dX12_begins_32 ?_
  refine ez_nmM (fun M4 eM4 => ?_)
  refine ez_aload_n hX 0 dX12_begins_33 rfl ?_
  refine ez_getr hX kc_118 rfl (Nat.le_of_ble_eq_true rfl) lc_118 (Nat.le_of_ble_eq_true rfl) inX12 119 rfl rc_118_0 wf_X12_11 dX12_begins_34 ?_
  refine ez_bipush hX (17 : Int32) dX12_begins_37 (by decide) ?_
  refine ez_iconst hX (-1 : Int32) dX12_begins_39 (by decide) ?_
  refine ez_iast hX kc_119 lc_119 (by unfold vp_in; decide) dX12_begins_40 ?_
  refine ez_nmM (fun M5 eM5 => ?_)
  refine ez_aload_n hX 0 dX12_begins_41 rfl ?_
  refine ez_getr hX kc_118 rfl (Nat.le_of_ble_eq_true rfl) lc_118 (Nat.le_of_ble_eq_true rfl) inX12 119 rfl rc_118_0 wf_X12_11 dX12_begins_42 ?_
  refine ez_bipush hX (18 : Int32) dX12_begins_45 (by decide) ?_
  refine ez_iconst hX (-1 : Int32) dX12_begins_47 (by decide) ?_
  refine ez_iast hX kc_119 lc_119 (by unfold vp_in; decide) dX12_begins_48 ?_
  refine ez_nmM (fun M6 eM6 => ?_)
  refine ez_aload_n hX 0 dX12_begins_49 rfl ?_
  refine ez_getr hX kc_118 rfl (Nat.le_of_ble_eq_true rfl) lc_118 (Nat.le_of_ble_eq_true rfl) inX12 119 rfl rc_118_0 wf_X12_11 dX12_begins_50 ?_
  refine ez_bipush hX (21 : Int32) dX12_begins_53 (by decide) ?_
  refine ez_iconst hX (0 : Int32) dX12_begins_55 (by decide) ?_
  refine ez_iast hX kc_119 lc_119 (by unfold vp_in; decide) dX12_begins_56 ?_
  refine ez_nmM (fun M7 eM7 => ?_)
  refine ez_aload_n hX 0 dX12_begins_57 rfl ?_
  refine ez_getr hX kc_118 rfl (Nat.le_of_ble_eq_true rfl) lc_118 (Nat.le_of_ble_eq_true rfl) inX12 119 rfl rc_118_0 wf_X12_11 dX12_begins_58 ?_
  refine ez_bipush hX (22 : Int32) dX12_begins_61 (by decide) ?_
  refine ez_iconst hX (0 : Int32) dX12_begins_63 (by decide) ?_
  refine ez_iast hX kc_119 lc_119 (by unfold vp_in; decide) dX12_begins_64 ?_
  refine ez_nmM (fun M8 eM8 => ?_)
  refine ez_aload_n hX 0 dX12_begins_65 rfl ?_
  refine ez_getr hX kc_118 rfl (Nat.le_of_ble_eq_true rfl) lc_118 (Nat.le_of_ble_eq_true rfl) inX12 119 rfl rc_118_0 wf_X12_11 dX12_begins_66 ?_
  refine ez_bipush hX (23 : Int32) dX12_begins_69 (by decide) ?_
  refine ez_iconst hX (0 : Int32) dX12_begins_71 (by decide) ?_
  refine ez_iast hX kc_119 lc_119 (by unfold vp_in; decide) dX12_begins_72 ?_
  refine ez_nmM (fun M9 eM9 => ?_)
  refine ez_aload_n hX 0 dX12_begins_73 rfl ?_
  refine ez_getr hX kc_118 rfl (Nat.le_of_ble_eq_true rfl) lc_118 (Nat.le_of_ble_eq_true rfl) inX12 119 rfl rc_118_0 wf_X12_11 dX12_begins_74 ?_
  refine ez_bipush hX (24 : Int32) dX12_begins_77 (by decide) ?_
  refine ez_iconst hX (0 : Int32) dX12_begins_79 (by decide) ?_
  refine ez_iast hX kc_119 lc_119 (by unfold vp_in; decide) dX12_begins_80 ?_
  refine ez_nmM (fun M10 eM10 => ?_)
  refine ez_aload_n hX 0 dX12_begins_81 rfl ?_
  refine ez_bipush hX (101 : Int32) dX12_begins_82 (by decide) ?_
  refine ez_iload_n hX 1 dX12_begins_84 rfl ?_
  refine ez_imul hX dX12_begins_85 ?_
  refine ez_iconst hX (0 : Int32) dX12_begins_86 (by decide) ?_
  refine ez_iconst hX (-1 : Int32) dX12_begins_87 (by decide) ?_
  refine ez_callV hX (N0 := 0) (As := [.int ((101 : Int32) * line), .int (0 : Int32), .int (-1 : Int32)]) (st := []) kc_118 (Nat.le_of_ble_eq_true rfl) lc_118 rfl (ec_X12_works _ _ _ M10 ((101 : Int32) * line) (0 : Int32) (-1 : Int32)) (Or.inl rfl) wm_X12_154 wv_X12_works we_X12_works wy_X12_works rfl wd_X12_works wi_X12 (ez_rok hRm rfl) (Nat.le_of_ble_eq_true rfl) dX12_begins_88 ?_
  refine ez_nmM (fun M11 eM11 => ?_)
  have ht : t0 = M11 := hT.symm.trans (by simp only [et_X12_begins, eM1, eM2, eM3, eM4, eM5, eM6, eM7, eM8, eM9, eM10, eM11])
  subst ht
  exact ez_vret hX hQ dX12_begins_91 rfl rfl

def et_X12_steps_2   : Nat → em_M → Int32 → Int32 → Int32 × em_M
  | 0, M, _, _ => (0, M)
  | fu + 1, M, n, k =>
  (if n ≤ k then (k, M) else (if (M.1 119 ((7 : Int32)).toNatClampNeg) = (-5 : Int32) then (if (M.1 119 ((13 : Int32)).toNatClampNeg) = 0 then let M9 := et_X12_worksOn M
  let M10 := em_pI M9 119 ((10 : Int32)).toNatClampNeg ((M9.1 119 ((10 : Int32)).toNatClampNeg) + (1 : Int32))
  (if (M10.1 119 ((10 : Int32)).toNatClampNeg) = (300 : Int32) then (if (M10.1 119 ((7 : Int32)).toNatClampNeg) = (-5 : Int32) then let M13 := et_X12_stands M10 (8 : Int32)
  et_X12_steps_2 fu M13 n (k + (1 : Int32)) else et_X12_steps_2 fu M10 n (k + (1 : Int32))) else et_X12_steps_2 fu M10 n (k + (1 : Int32))) else let M4 := et_X12_givesOn M
  let M5 := em_pI M4 119 ((10 : Int32)).toNatClampNeg ((M4.1 119 ((10 : Int32)).toNatClampNeg) + (1 : Int32))
  (if (M5.1 119 ((10 : Int32)).toNatClampNeg) = (300 : Int32) then (if (M5.1 119 ((7 : Int32)).toNatClampNeg) = (-5 : Int32) then let M8 := et_X12_stands M5 (8 : Int32)
  et_X12_steps_2 fu M8 n (k + (1 : Int32)) else et_X12_steps_2 fu M5 n (k + (1 : Int32))) else et_X12_steps_2 fu M5 n (k + (1 : Int32)))) else (k, M)))
def es_X12_steps_2   : Nat → em_M → Int32 → Int32 → Prop
  | 0, _, _, _ => False
  | fu + 1, M, n, k =>
  ((n ≤ k) → (True)) ∧
  (¬ (n ≤ k) → ((((M.1 119 ((7 : Int32)).toNatClampNeg) = (-5 : Int32)) → ((((M.1 119 ((13 : Int32)).toNatClampNeg) = 0) → (es_X12_worksOn M ∧ (∀ M9 : em_M, et_X12_worksOn M = M9 → (
  ∀ M10 : em_M, em_pI M9 119 ((10 : Int32)).toNatClampNeg ((M9.1 119 ((10 : Int32)).toNatClampNeg) + (1 : Int32)) = M10 → (
  (((M10.1 119 ((10 : Int32)).toNatClampNeg) = (300 : Int32)) → ((((M10.1 119 ((7 : Int32)).toNatClampNeg) = (-5 : Int32)) → (∀ M13 : em_M, et_X12_stands M10 (8 : Int32) = M13 → (
  es_X12_steps_2 fu M13 n (k + (1 : Int32))))) ∧
  (¬ ((M10.1 119 ((7 : Int32)).toNatClampNeg) = (-5 : Int32)) → (es_X12_steps_2 fu M10 n (k + (1 : Int32)))))) ∧
  (¬ ((M10.1 119 ((10 : Int32)).toNatClampNeg) = (300 : Int32)) → (es_X12_steps_2 fu M10 n (k + (1 : Int32))))))))) ∧
  (¬ ((M.1 119 ((13 : Int32)).toNatClampNeg) = 0) → (es_X12_givesOn M ∧ (∀ M4 : em_M, et_X12_givesOn M = M4 → (
  ∀ M5 : em_M, em_pI M4 119 ((10 : Int32)).toNatClampNeg ((M4.1 119 ((10 : Int32)).toNatClampNeg) + (1 : Int32)) = M5 → (
  (((M5.1 119 ((10 : Int32)).toNatClampNeg) = (300 : Int32)) → ((((M5.1 119 ((7 : Int32)).toNatClampNeg) = (-5 : Int32)) → (∀ M8 : em_M, et_X12_stands M5 (8 : Int32) = M8 → (
  es_X12_steps_2 fu M8 n (k + (1 : Int32))))) ∧
  (¬ ((M5.1 119 ((7 : Int32)).toNatClampNeg) = (-5 : Int32)) → (es_X12_steps_2 fu M5 n (k + (1 : Int32)))))) ∧
  (¬ ((M5.1 119 ((10 : Int32)).toNatClampNeg) = (300 : Int32)) → (es_X12_steps_2 fu M5 n (k + (1 : Int32))))))))))) ∧
  (¬ ((M.1 119 ((7 : Int32)).toNatClampNeg) = (-5 : Int32)) → (True))))
def et_X12_steps  (M : em_M) (n : Int32) : Int32 × em_M :=
  et_X12_steps_2 (n.toNatClampNeg + 1) M n (0 : Int32)
def es_X12_steps  (M : em_M) (n : Int32) : Prop :=
  es_X12_steps_2 (n.toNatClampNeg + 1) M n (0 : Int32)
set_option maxHeartbeats 4000000 in
set_option maxRecDepth 100000 in
theorem el_X12_steps_2 (X : em_X)    (t0 : Int32 × em_M) (hRm : ez_rm X = { frames := 5, cells := 0, slots := 0, locals := 134 }) (hnL : ez_nL X = 3) (hX : ez_ok X cX12_steps RX12) (hQ : ez_ret X (some .int) (some (.int t0.1)) 132 em_R (t0.2) 0 0) : ∀ (fu : Nat) (M : em_M) (n : Int32) (k : Int32), es_X12_steps_2  fu M n k → et_X12_steps_2  fu M n k = t0 → ez_Z X 132 em_R M 0 0 2 [(0, .ref (ez_B X + 118)), (1, .int n), (2, .int k)] [] := by
  intro fu
  induction fu with
  | zero =>
    intro M n k hs hT
    exact False.elim hs
  | succ fu ih =>
    intro M n k hs hT
    rw [es_X12_steps_2] at hs
    refine ez_iload_n hX 2 dX12_steps_2 rfl ?_
    refine ez_iload_n hX 1 dX12_steps_3 rfl ?_
    refine ez_icmp_ge hX 88 dX12_steps_4 (by decide) (fun c1 => ?_) (fun c1 => ?_)
    · -- c1 jump
      have hs := hs.1 c1
      refine ez_iload_n hX 2 dX12_steps_88 rfl ?_
      have ht : t0 = (k, M) := hT.symm.trans (by simp only [et_X12_steps_2, if_pos c1])
      subst ht
      exact ez_iret hX hQ dX12_steps_89 rfl rfl
    · -- c1 on
      have hs := hs.2 c1
      refine ez_aload_n hX 0 dX12_steps_7 rfl ?_
      refine ez_getr hX kc_118 rfl (Nat.le_of_ble_eq_true rfl) lc_118 (Nat.le_of_ble_eq_true rfl) inX12 119 rfl rc_118_0 wf_X12_11 dX12_steps_8 ?_
      refine ez_bipush hX (7 : Int32) dX12_steps_11 (by decide) ?_
      refine ez_iald hX kc_119 lc_119 (by unfold vp_in; decide) dX12_steps_13 ?_
      refine ez_bipush hX (-5 : Int32) dX12_steps_14 (by decide) ?_
      refine ez_icmp_ne hX 88 dX12_steps_16 (by decide) (fun c2 => ?_) (fun c2 => ?_)
      · -- c2 jump
        have hs := hs.2 c2
        refine ez_iload_n hX 2 dX12_steps_88 rfl ?_
        have ht : t0 = (k, M) := hT.symm.trans (by simp only [et_X12_steps_2, if_neg c1, if_neg c2])
        subst ht
        exact ez_iret hX hQ dX12_steps_89 rfl rfl
      · -- c2 on
        have hs := hs.1 c2
        refine ez_aload_n hX 0 dX12_steps_19 rfl ?_
        refine ez_getr hX kc_118 rfl (Nat.le_of_ble_eq_true rfl) lc_118 (Nat.le_of_ble_eq_true rfl) inX12 119 rfl rc_118_0 wf_X12_11 dX12_steps_20 ?_
        refine ez_bipush hX (13 : Int32) dX12_steps_23 (by decide) ?_
        refine ez_iald hX kc_119 lc_119 (by unfold vp_in; decide) dX12_steps_25 ?_
        refine ez_if_ne hX 36 dX12_steps_26 (by decide) (fun c3 => ?_) (fun c3 => ?_)
        · -- c3 jump
          have hs := hs.2 c3
          refine ez_aload_n hX 0 dX12_steps_36 rfl ?_
          refine ez_callV hX (N0 := 0) (As := []) (st := []) kc_118 (Nat.le_of_ble_eq_true rfl) lc_118 rfl (ec_X12_givesOn _ _ _ M hs.1) (Or.inl rfl) wm_X12_185 wv_X12_givesOn we_X12_givesOn wy_X12_givesOn rfl wd_X12_givesOn wi_X12 (ez_rok hRm rfl) (Nat.le_of_ble_eq_true rfl) dX12_steps_37 ?_
          have hs := hs.2
          refine ez_nmM (fun M4 eM4 => ?_)
          have hs := hs M4 eM4
          refine ez_aload_n hX 0 dX12_steps_40 rfl ?_
          refine ez_getr hX kc_118 rfl (Nat.le_of_ble_eq_true rfl) lc_118 (Nat.le_of_ble_eq_true rfl) inX12 119 rfl rc_118_0 wf_X12_11 dX12_steps_41 ?_
          refine ez_bipush hX (10 : Int32) dX12_steps_44 (by decide) ?_
          refine ez_dup2 hX dX12_steps_46 rfl rfl ?_
          refine ez_iald hX kc_119 lc_119 (by unfold vp_in; decide) dX12_steps_47 ?_
          refine ez_iconst hX (1 : Int32) dX12_steps_48 (by decide) ?_
          refine ez_iadd hX dX12_steps_49 ?_
          refine ez_iast hX kc_119 lc_119 (by unfold vp_in; decide) dX12_steps_50 ?_
          refine ez_nmM (fun M5 eM5 => ?_)
          have hs := hs M5 eM5
          refine ez_iinc hX (k + (1 : Int32)) 2 [(2, .int (k + (1 : Int32))), (0, .ref (ez_B X + 118)), (1, .int n)] dX12_steps_51 rfl rfl (ez_lt hnL rfl) rfl ?_
          refine ez_aload_n hX 1 dX12_steps_54 rfl ?_
          refine ez_getr hX kc_118 rfl (Nat.le_of_ble_eq_true rfl) lc_118 (Nat.le_of_ble_eq_true rfl) inX12 119 rfl rc_118_0 wf_X12_11 dX12_steps_55 ?_
          refine ez_bipush hX (10 : Int32) dX12_steps_58 (by decide) ?_
          refine ez_iald hX kc_119 lc_119 (by unfold vp_in; decide) dX12_steps_60 ?_
          refine ez_sipush hX (300 : Int32) dX12_steps_61 (by decide) ?_
          refine ez_icmp_ne hX 2 dX12_steps_64 (by decide) (fun c6 => ?_) (fun c6 => ?_)
          · -- c6 jump
            have hs := hs.2 c6
            refine ez_lv [1, 2, 0] rfl ?_
            exact ih M5 n (k + (1 : Int32)) hs (Eq.trans (by simp only [et_X12_steps_2, if_neg c1, if_pos c2, if_neg c3, eM4, eM5, if_neg c6]) hT)
          · -- c6 on
            have hs := hs.1 c6
            refine ez_aload_n hX 1 dX12_steps_67 rfl ?_
            refine ez_getr hX kc_118 rfl (Nat.le_of_ble_eq_true rfl) lc_118 (Nat.le_of_ble_eq_true rfl) inX12 119 rfl rc_118_0 wf_X12_11 dX12_steps_68 ?_
            refine ez_bipush hX (7 : Int32) dX12_steps_71 (by decide) ?_
            refine ez_iald hX kc_119 lc_119 (by unfold vp_in; decide) dX12_steps_73 ?_
            refine ez_bipush hX (-5 : Int32) dX12_steps_74 (by decide) ?_
            refine ez_icmp_ne hX 2 dX12_steps_76 (by decide) (fun c7 => ?_) (fun c7 => ?_)
            · -- c7 jump
              have hs := hs.2 c7
              refine ez_lv [1, 2, 0] rfl ?_
              exact ih M5 n (k + (1 : Int32)) hs (Eq.trans (by simp only [et_X12_steps_2, if_neg c1, if_pos c2, if_neg c3, eM4, eM5, if_pos c6, if_neg c7]) hT)
            · -- c7 on
              have hs := hs.1 c7
              refine ez_aload_n hX 1 dX12_steps_79 rfl ?_
              refine ez_bipush hX (8 : Int32) dX12_steps_80 (by decide) ?_
              refine ez_callV hX (N0 := 0) (As := [.int (8 : Int32)]) (st := []) kc_118 (Nat.le_of_ble_eq_true rfl) lc_118 rfl (ec_X12_stands _ _ _ M5 (8 : Int32)) (Or.inl rfl) wm_X12_139 wv_X12_stands we_X12_stands wy_X12_stands rfl wd_X12_stands wi_X12 (ez_rok hRm rfl) (Nat.le_of_ble_eq_true rfl) dX12_steps_82 ?_
              refine ez_nmM (fun M8 eM8 => ?_)
              have hs := hs M8 eM8
              refine ez_goto hX 2 dX12_steps_85 (by decide) ?_
              refine ez_lv [1, 2, 0] rfl ?_
              exact ih M8 n (k + (1 : Int32)) hs (Eq.trans (by simp only [et_X12_steps_2, if_neg c1, if_pos c2, if_neg c3, eM4, eM5, if_pos c6, if_pos c7, eM8]) hT)
        · -- c3 on
          have hs := hs.1 c3
          refine ez_aload_n hX 0 dX12_steps_29 rfl ?_
          refine ez_callV hX (N0 := 0) (As := []) (st := []) kc_118 (Nat.le_of_ble_eq_true rfl) lc_118 rfl (ec_X12_worksOn _ _ _ M hs.1) (Or.inl rfl) wm_X12_182 wv_X12_worksOn we_X12_worksOn wy_X12_worksOn rfl wd_X12_worksOn wi_X12 (ez_rok hRm rfl) (Nat.le_of_ble_eq_true rfl) dX12_steps_30 ?_
          have hs := hs.2
          refine ez_nmM (fun M9 eM9 => ?_)
          have hs := hs M9 eM9
          refine ez_goto hX 40 dX12_steps_33 (by decide) ?_
          refine ez_aload_n hX 0 dX12_steps_40 rfl ?_
          refine ez_getr hX kc_118 rfl (Nat.le_of_ble_eq_true rfl) lc_118 (Nat.le_of_ble_eq_true rfl) inX12 119 rfl rc_118_0 wf_X12_11 dX12_steps_41 ?_
          refine ez_bipush hX (10 : Int32) dX12_steps_44 (by decide) ?_
          refine ez_dup2 hX dX12_steps_46 rfl rfl ?_
          refine ez_iald hX kc_119 lc_119 (by unfold vp_in; decide) dX12_steps_47 ?_
          refine ez_iconst hX (1 : Int32) dX12_steps_48 (by decide) ?_
          refine ez_iadd hX dX12_steps_49 ?_
          refine ez_iast hX kc_119 lc_119 (by unfold vp_in; decide) dX12_steps_50 ?_
          refine ez_nmM (fun M10 eM10 => ?_)
          have hs := hs M10 eM10
          refine ez_iinc hX (k + (1 : Int32)) 2 [(2, .int (k + (1 : Int32))), (0, .ref (ez_B X + 118)), (1, .int n)] dX12_steps_51 rfl rfl (ez_lt hnL rfl) rfl ?_
          refine ez_aload_n hX 1 dX12_steps_54 rfl ?_
          refine ez_getr hX kc_118 rfl (Nat.le_of_ble_eq_true rfl) lc_118 (Nat.le_of_ble_eq_true rfl) inX12 119 rfl rc_118_0 wf_X12_11 dX12_steps_55 ?_
          refine ez_bipush hX (10 : Int32) dX12_steps_58 (by decide) ?_
          refine ez_iald hX kc_119 lc_119 (by unfold vp_in; decide) dX12_steps_60 ?_
          refine ez_sipush hX (300 : Int32) dX12_steps_61 (by decide) ?_
          refine ez_icmp_ne hX 2 dX12_steps_64 (by decide) (fun c11 => ?_) (fun c11 => ?_)
          · -- c11 jump
            have hs := hs.2 c11
            refine ez_lv [1, 2, 0] rfl ?_
            exact ih M10 n (k + (1 : Int32)) hs (Eq.trans (by simp only [et_X12_steps_2, if_neg c1, if_pos c2, if_pos c3, eM9, eM10, if_neg c11]) hT)
          · -- c11 on
            have hs := hs.1 c11
            refine ez_aload_n hX 1 dX12_steps_67 rfl ?_
            refine ez_getr hX kc_118 rfl (Nat.le_of_ble_eq_true rfl) lc_118 (Nat.le_of_ble_eq_true rfl) inX12 119 rfl rc_118_0 wf_X12_11 dX12_steps_68 ?_
            refine ez_bipush hX (7 : Int32) dX12_steps_71 (by decide) ?_
            refine ez_iald hX kc_119 lc_119 (by unfold vp_in; decide) dX12_steps_73 ?_
            refine ez_bipush hX (-5 : Int32) dX12_steps_74 (by decide) ?_
            refine ez_icmp_ne hX 2 dX12_steps_76 (by decide) (fun c12 => ?_) (fun c12 => ?_)
            · -- c12 jump
              have hs := hs.2 c12
              refine ez_lv [1, 2, 0] rfl ?_
              exact ih M10 n (k + (1 : Int32)) hs (Eq.trans (by simp only [et_X12_steps_2, if_neg c1, if_pos c2, if_pos c3, eM9, eM10, if_pos c11, if_neg c12]) hT)
            · -- c12 on
              have hs := hs.1 c12
              refine ez_aload_n hX 1 dX12_steps_79 rfl ?_
              refine ez_bipush hX (8 : Int32) dX12_steps_80 (by decide) ?_
              refine ez_callV hX (N0 := 0) (As := [.int (8 : Int32)]) (st := []) kc_118 (Nat.le_of_ble_eq_true rfl) lc_118 rfl (ec_X12_stands _ _ _ M10 (8 : Int32)) (Or.inl rfl) wm_X12_139 wv_X12_stands we_X12_stands wy_X12_stands rfl wd_X12_stands wi_X12 (ez_rok hRm rfl) (Nat.le_of_ble_eq_true rfl) dX12_steps_82 ?_
              refine ez_nmM (fun M13 eM13 => ?_)
              have hs := hs M13 eM13
              refine ez_goto hX 2 dX12_steps_85 (by decide) ?_
              refine ez_lv [1, 2, 0] rfl ?_
              exact ih M13 n (k + (1 : Int32)) hs (Eq.trans (by simp only [et_X12_steps_2, if_neg c1, if_pos c2, if_pos c3, eM9, eM10, if_pos c11, if_pos c12, eM13]) hT)
set_option maxHeartbeats 4000000 in
set_option maxRecDepth 100000 in
theorem ec_X12_steps (l : Launch) (D : em_G) (B : Nat) (M : em_M) (n : Int32) (hs : es_X12_steps M n) : em_C l D B yX12_steps cX12_steps 3 (some .int) 5 134 0 0 false [.ref (B + 118), .int n] 132 em_R M (some (.int (et_X12_steps M n).1)) 132 em_R ((et_X12_steps M n).2) := by
  refine em_C_of RX12 [(0, .ref (B + 118)), (1, .int n)] (by decide) rfl rfl (Nat.le_of_ble_eq_true rfl) ?_
  rintro X rfl rfl rfl hRm hnL hnm hsz hX hQ
  obtain ⟨t0, hT⟩ : ∃ tz, et_X12_steps M n = tz := ⟨_, rfl⟩
  rw [hT] at hQ
  rw [es_X12_steps] at hs
  refine ez_iconst hX (0 : Int32) dX12_steps_0 (by decide) ?_
  refine ez_istore_n hX [(2, .int (0 : Int32)), (0, .ref (ez_B X + 118)), (1, .int n)] dX12_steps_1 (ez_lt hnL rfl) rfl ?_
  refine ez_lv [1, 2, 0] rfl ?_
  exact el_X12_steps_2 X  t0 hRm hnL hX hQ (n.toNatClampNeg + 1) M n (0 : Int32) hs (Eq.trans (by simp only [et_X12_steps]) hT)

def et_X12_runs  (M : em_M) (line : Int32) : em_M :=
  let M1 := et_X12_begins M line
  let q4 := et_X12_steps M1 (300 : Int32)
  let r2 := q4.1
  let M3 := q4.2
  M3
def es_X12_runs  (M : em_M) (line : Int32) : Prop :=
  ∀ M1 : em_M, et_X12_begins M line = M1 → (
  es_X12_steps M1 (300 : Int32) ∧ (∀ (r2 : Int32) (M3 : em_M), et_X12_steps M1 (300 : Int32) = (r2, M3) → (
  True)))
set_option maxHeartbeats 4000000 in
set_option maxRecDepth 100000 in
theorem ec_X12_runs (l : Launch) (D : em_G) (B : Nat) (M : em_M) (line : Int32) (hs : es_X12_runs M line) : em_C l D B yX12_runs cX12_runs 3 none 6 156 0 0 false [.ref (B + 118), .int line] 132 em_R M (none) 132 em_R ((et_X12_runs M line)) := by
  refine em_C_of RX12 [(0, .ref (B + 118)), (1, .int line)] (by decide) rfl rfl (Nat.le_of_ble_eq_true rfl) ?_
  rintro X rfl rfl rfl hRm hnL hnm hsz hX hQ
  obtain ⟨t0, hT⟩ : ∃ tz, et_X12_runs M line = tz := ⟨_, rfl⟩
  rw [hT] at hQ
  rw [es_X12_runs] at hs
  refine ez_aload_n hX 0 dX12_runs_0 rfl ?_
  refine ez_iload_n hX 1 dX12_runs_1 rfl ?_
  refine ez_callV hX (N0 := 0) (As := [.int line]) (st := []) kc_118 (Nat.le_of_ble_eq_true rfl) lc_118 rfl (ec_X12_begins _ _ _ M line) (Or.inl rfl) wm_X12_188 wv_X12_begins we_X12_begins wy_X12_begins rfl wd_X12_begins wi_X12 (ez_rok hRm rfl) (Nat.le_of_ble_eq_true rfl) dX12_runs_2 ?_
  refine ez_nmM (fun M1 eM1 => ?_)
  have hs := hs M1 eM1
  refine ez_aload_n hX 0 dX12_runs_5 rfl ?_
  refine ez_sipush hX (300 : Int32) dX12_runs_6 (by decide) ?_
  refine ez_callV hX (N0 := 0) (As := [.int (300 : Int32)]) (st := []) kc_118 (Nat.le_of_ble_eq_true rfl) lc_118 rfl (ec_X12_steps _ _ _ M1 (300 : Int32) hs.1) (Or.inl rfl) wm_X12_191 wv_X12_steps we_X12_steps wy_X12_steps rfl wd_X12_steps wi_X12 (ez_rok hRm rfl) (Nat.le_of_ble_eq_true rfl) dX12_runs_9 ?_
  have hs := hs.2
  refine ez_nmIM (fun r2 M3 eM3 => ?_)
  have hs := hs r2 M3 eM3
  refine ez_istore_n hX [(2, .int r2), (0, .ref (ez_B X + 118)), (1, .int line)] dX12_runs_12 (ez_lt hnL rfl) rfl ?_
  have ht : t0 = M3 := hT.symm.trans (by simp only [et_X12_runs, eM1, eM3])
  subst ht
  exact ez_vret hX hQ dX12_runs_13 rfl rfl

def et_X12_begin  (M : em_M) (line : Int32) : Int32 × em_M :=
  let r1 := et_X12_isLine M line
  (if r1 = 0 then ((-1 : Int32), M) else let M3 := et_X12_begins M line
  ((M3.1 126 (line).toNatClampNeg), M3))
def es_X12_begin  (M : em_M) (line : Int32) : Prop :=
  ∀ r1 : Int32, et_X12_isLine M line = r1 → (
  ((r1 = 0) → (True)) ∧
  (¬ (r1 = 0) → (∀ M3 : em_M, et_X12_begins M line = M3 → (
  vp_in (line) 8 ∧ (True)))))
set_option maxHeartbeats 4000000 in
set_option maxRecDepth 100000 in
theorem ec_X12_begin (l : Launch) (D : em_G) (B : Nat) (M : em_M) (line : Int32) (hs : es_X12_begin M line) : em_C l D B yX12_begin cX12_begin 2 (some .int) 2 46 0 0 false [.ref (B + 118), .int line] 132 em_R M (some (.int (et_X12_begin M line).1)) 132 em_R ((et_X12_begin M line).2) := by
  refine em_C_of RX12 [(0, .ref (B + 118)), (1, .int line)] (by decide) rfl rfl (Nat.le_of_ble_eq_true rfl) ?_
  rintro X rfl rfl rfl hRm hnL hnm hsz hX hQ
  obtain ⟨t0, hT⟩ : ∃ tz, et_X12_begin M line = tz := ⟨_, rfl⟩
  rw [hT] at hQ
  rw [es_X12_begin] at hs
  refine ez_aload_n hX 0 dX12_begin_0 rfl ?_
  refine ez_iload_n hX 1 dX12_begin_1 rfl ?_
  refine ez_callV hX (N0 := 0) (As := [.int line]) (st := []) kc_118 (Nat.le_of_ble_eq_true rfl) lc_118 rfl (ec_X12_isLine _ _ _ M line) (Or.inl rfl) wm_X12_124 wv_X12_isLine we_X12_isLine wy_X12_isLine rfl wd_X12_isLine wi_X12 (ez_rok hRm rfl) (Nat.le_of_ble_eq_true rfl) dX12_begin_2 ?_
  refine ez_nmI (fun r1 er1 => ?_)
  have hs := hs r1 er1
  refine ez_if_ne hX 10 dX12_begin_5 (by decide) (fun c2 => ?_) (fun c2 => ?_)
  · -- c2 jump
    have hs := hs.2 c2
    refine ez_aload_n hX 0 dX12_begin_10 rfl ?_
    refine ez_iload_n hX 1 dX12_begin_11 rfl ?_
    refine ez_callV hX (N0 := 0) (As := [.int line]) (st := []) kc_118 (Nat.le_of_ble_eq_true rfl) lc_118 rfl (ec_X12_begins _ _ _ M line) (Or.inl rfl) wm_X12_188 wv_X12_begins we_X12_begins wy_X12_begins rfl wd_X12_begins wi_X12 (ez_rok hRm rfl) (Nat.le_of_ble_eq_true rfl) dX12_begin_12 ?_
    refine ez_nmM (fun M3 eM3 => ?_)
    have hs := hs M3 eM3
    refine ez_aload_n hX 0 dX12_begin_15 rfl ?_
    refine ez_getr hX kc_118 rfl (Nat.le_of_ble_eq_true rfl) lc_118 (Nat.le_of_ble_eq_true rfl) inX12 126 rfl rc_118_8 wf_X12_33 dX12_begin_16 ?_
    refine ez_iload_n hX 1 dX12_begin_19 rfl ?_
    refine ez_iald hX kc_126 lc_126 hs.1 dX12_begin_20 ?_
    have hs := hs.2
    have ht : t0 = ((M3.1 126 (line).toNatClampNeg), M3) := hT.symm.trans (by simp only [et_X12_begin, er1, if_neg c2, eM3])
    subst ht
    exact ez_iret hX hQ dX12_begin_21 rfl rfl
  · -- c2 on
    have hs := hs.1 c2
    refine ez_iconst hX (-1 : Int32) dX12_begin_8 (by decide) ?_
    have ht : t0 = ((-1 : Int32), M) := hT.symm.trans (by simp only [et_X12_begin, er1, if_pos c2])
    subst ht
    exact ez_iret hX hQ dX12_begin_9 rfl rfl

def et_X12_step  (M : em_M) (n : Int32) : Int32 × em_M :=
  let r1 := et_X12_in M ((n).toInt64) (0 : Int64) (300 : Int64)
  (if r1 = 0 then ((-2 : Int32), M) else (if (M.1 119 ((7 : Int32)).toNatClampNeg) = (-5 : Int32) then let q6 := et_X12_steps M n
  let r4 := q6.1
  let M5 := q6.2
  (r4, M5) else ((-3 : Int32), M)))
def es_X12_step  (M : em_M) (n : Int32) : Prop :=
  ∀ r1 : Int32, et_X12_in M ((n).toInt64) (0 : Int64) (300 : Int64) = r1 → (
  ((r1 = 0) → (True)) ∧
  (¬ (r1 = 0) → ((((M.1 119 ((7 : Int32)).toNatClampNeg) = (-5 : Int32)) → (es_X12_steps M n ∧ (∀ (r4 : Int32) (M5 : em_M), et_X12_steps M n = (r4, M5) → (
  True)))) ∧
  (¬ ((M.1 119 ((7 : Int32)).toNatClampNeg) = (-5 : Int32)) → (True)))))
set_option maxHeartbeats 4000000 in
set_option maxRecDepth 100000 in
theorem ec_X12_step (l : Launch) (D : em_G) (B : Nat) (M : em_M) (n : Int32) (hs : es_X12_step M n) : em_C l D B yX12_step cX12_step 2 (some .int) 6 156 0 0 false [.ref (B + 118), .int n] 132 em_R M (some (.int (et_X12_step M n).1)) 132 em_R ((et_X12_step M n).2) := by
  refine em_C_of RX12 [(0, .ref (B + 118)), (1, .int n)] (by decide) rfl rfl (Nat.le_of_ble_eq_true rfl) ?_
  rintro X rfl rfl rfl hRm hnL hnm hsz hX hQ
  obtain ⟨t0, hT⟩ : ∃ tz, et_X12_step M n = tz := ⟨_, rfl⟩
  rw [hT] at hQ
  rw [es_X12_step] at hs
  refine ez_iload_n hX 1 dX12_step_0 rfl ?_
  refine ez_i2l hX dX12_step_1 ?_
  refine ez_lconst hX (0 : Int64) dX12_step_2 (by decide) ?_
  refine ez_ldc2 hX wl_X12_194 dX12_step_3 ?_
  refine ez_callS hX (N0 := 0) (As := [.long ((n).toInt64), .long (0 : Int64), .long (300 : Int64)]) (st := []) (ec_X12_in _ _ _ M ((n).toInt64) (0 : Int64) (300 : Int64)) (Or.inl rfl) wm_X12_54 ws_X12_in wy_X12_in rfl wd_X12_in wi_X12 (ez_rok hRm rfl) (Nat.le_of_ble_eq_true rfl) dX12_step_6 ?_
  refine ez_nmI (fun r1 er1 => ?_)
  have hs := hs r1 er1
  refine ez_if_ne hX 15 dX12_step_9 (by decide) (fun c2 => ?_) (fun c2 => ?_)
  · -- c2 jump
    have hs := hs.2 c2
    refine ez_aload_n hX 0 dX12_step_15 rfl ?_
    refine ez_getr hX kc_118 rfl (Nat.le_of_ble_eq_true rfl) lc_118 (Nat.le_of_ble_eq_true rfl) inX12 119 rfl rc_118_0 wf_X12_11 dX12_step_16 ?_
    refine ez_bipush hX (7 : Int32) dX12_step_19 (by decide) ?_
    refine ez_iald hX kc_119 lc_119 (by unfold vp_in; decide) dX12_step_21 ?_
    refine ez_bipush hX (-5 : Int32) dX12_step_22 (by decide) ?_
    refine ez_icmp_ne hX 35 dX12_step_24 (by decide) (fun c3 => ?_) (fun c3 => ?_)
    · -- c3 jump
      have hs := hs.2 c3
      refine ez_bipush hX (-3 : Int32) dX12_step_35 (by decide) ?_
      have ht : t0 = ((-3 : Int32), M) := hT.symm.trans (by simp only [et_X12_step, er1, if_neg c2, if_neg c3])
      subst ht
      exact ez_iret hX hQ dX12_step_37 rfl rfl
    · -- c3 on
      have hs := hs.1 c3
      refine ez_aload_n hX 0 dX12_step_27 rfl ?_
      refine ez_iload_n hX 1 dX12_step_28 rfl ?_
      refine ez_callV hX (N0 := 0) (As := [.int n]) (st := []) kc_118 (Nat.le_of_ble_eq_true rfl) lc_118 rfl (ec_X12_steps _ _ _ M n hs.1) (Or.inl rfl) wm_X12_191 wv_X12_steps we_X12_steps wy_X12_steps rfl wd_X12_steps wi_X12 (ez_rok hRm rfl) (Nat.le_of_ble_eq_true rfl) dX12_step_29 ?_
      have hs := hs.2
      refine ez_nmIM (fun r4 M5 eM5 => ?_)
      have hs := hs r4 M5 eM5
      refine ez_goto hX 37 dX12_step_32 (by decide) ?_
      have ht : t0 = (r4, M5) := hT.symm.trans (by simp only [et_X12_step, er1, if_neg c2, if_pos c3, eM5])
      subst ht
      exact ez_iret hX hQ dX12_step_37 rfl rfl
  · -- c2 on
    have hs := hs.1 c2
    refine ez_bipush hX (-2 : Int32) dX12_step_12 (by decide) ?_
    have ht : t0 = ((-2 : Int32), M) := hT.symm.trans (by simp only [et_X12_step, er1, if_pos c2])
    subst ht
    exact ez_iret hX hQ dX12_step_14 rfl rfl

def et_X12_run  (M : em_M) (line : Int32) : Int32 × em_M :=
  let r1 := et_X12_isLine M line
  (if r1 = 0 then ((-1 : Int32), M) else let M3 := et_X12_runs M line
  ((M3.1 119 ((7 : Int32)).toNatClampNeg), M3))
def es_X12_run  (M : em_M) (line : Int32) : Prop :=
  ∀ r1 : Int32, et_X12_isLine M line = r1 → (
  ((r1 = 0) → (True)) ∧
  (¬ (r1 = 0) → (es_X12_runs M line ∧ (∀ M3 : em_M, et_X12_runs M line = M3 → (
  True)))))
set_option maxHeartbeats 4000000 in
set_option maxRecDepth 100000 in
theorem ec_X12_run (l : Launch) (D : em_G) (B : Nat) (M : em_M) (line : Int32) (hs : es_X12_run M line) : em_C l D B yX12_run cX12_run 2 (some .int) 7 178 0 0 false [.ref (B + 118), .int line] 132 em_R M (some (.int (et_X12_run M line).1)) 132 em_R ((et_X12_run M line).2) := by
  refine em_C_of RX12 [(0, .ref (B + 118)), (1, .int line)] (by decide) rfl rfl (Nat.le_of_ble_eq_true rfl) ?_
  rintro X rfl rfl rfl hRm hnL hnm hsz hX hQ
  obtain ⟨t0, hT⟩ : ∃ tz, et_X12_run M line = tz := ⟨_, rfl⟩
  rw [hT] at hQ
  rw [es_X12_run] at hs
  refine ez_aload_n hX 0 dX12_run_0 rfl ?_
  refine ez_iload_n hX 1 dX12_run_1 rfl ?_
  refine ez_callV hX (N0 := 0) (As := [.int line]) (st := []) kc_118 (Nat.le_of_ble_eq_true rfl) lc_118 rfl (ec_X12_isLine _ _ _ M line) (Or.inl rfl) wm_X12_124 wv_X12_isLine we_X12_isLine wy_X12_isLine rfl wd_X12_isLine wi_X12 (ez_rok hRm rfl) (Nat.le_of_ble_eq_true rfl) dX12_run_2 ?_
  refine ez_nmI (fun r1 er1 => ?_)
  have hs := hs r1 er1
  refine ez_if_ne hX 10 dX12_run_5 (by decide) (fun c2 => ?_) (fun c2 => ?_)
  · -- c2 jump
    have hs := hs.2 c2
    refine ez_aload_n hX 0 dX12_run_10 rfl ?_
    refine ez_iload_n hX 1 dX12_run_11 rfl ?_
    refine ez_callV hX (N0 := 0) (As := [.int line]) (st := []) kc_118 (Nat.le_of_ble_eq_true rfl) lc_118 rfl (ec_X12_runs _ _ _ M line hs.1) (Or.inl rfl) wm_X12_196 wv_X12_runs we_X12_runs wy_X12_runs rfl wd_X12_runs wi_X12 (ez_rok hRm rfl) (Nat.le_of_ble_eq_true rfl) dX12_run_12 ?_
    have hs := hs.2
    refine ez_nmM (fun M3 eM3 => ?_)
    have hs := hs M3 eM3
    refine ez_aload_n hX 0 dX12_run_15 rfl ?_
    refine ez_getr hX kc_118 rfl (Nat.le_of_ble_eq_true rfl) lc_118 (Nat.le_of_ble_eq_true rfl) inX12 119 rfl rc_118_0 wf_X12_11 dX12_run_16 ?_
    refine ez_bipush hX (7 : Int32) dX12_run_19 (by decide) ?_
    refine ez_iald hX kc_119 lc_119 (by unfold vp_in; decide) dX12_run_21 ?_
    have ht : t0 = ((M3.1 119 ((7 : Int32)).toNatClampNeg), M3) := hT.symm.trans (by simp only [et_X12_run, er1, if_neg c2, eM3])
    subst ht
    exact ez_iret hX hQ dX12_run_22 rfl rfl
  · -- c2 on
    have hs := hs.1 c2
    refine ez_iconst hX (-1 : Int32) dX12_run_8 (by decide) ?_
    have ht : t0 = ((-1 : Int32), M) := hT.symm.trans (by simp only [et_X12_run, er1, if_pos c2])
    subst ht
    exact ez_iret hX hQ dX12_run_9 rfl rfl

def et_X12_latest  (M : em_M) : Int32 :=
  (if 0 ≤ (M.1 119 ((17 : Int32)).toNatClampNeg) then (if (2 : Int32) ≤ (M.1 119 (((120 : Int32) + ((8 : Int32) * (M.1 119 ((17 : Int32)).toNatClampNeg)))).toNatClampNeg) then (if (9 : Int32) ≤ (M.1 119 (((120 : Int32) + ((8 : Int32) * (M.1 119 ((17 : Int32)).toNatClampNeg)))).toNatClampNeg) then (if (12 : Int32) ≤ (M.1 119 (((120 : Int32) + ((8 : Int32) * (M.1 119 ((17 : Int32)).toNatClampNeg)))).toNatClampNeg) then ((M.1 119 (((120 : Int32) + ((8 : Int32) * (M.1 119 ((17 : Int32)).toNatClampNeg)))).toNatClampNeg) - (3 : Int32)) else (8 : Int32)) else ((M.1 119 (((120 : Int32) + ((8 : Int32) * (M.1 119 ((17 : Int32)).toNatClampNeg)))).toNatClampNeg) - (1 : Int32))) else (0 : Int32)) else (-5 : Int32))
def es_X12_latest  (M : em_M) : Prop :=
  ((0 ≤ (M.1 119 ((17 : Int32)).toNatClampNeg)) → (vp_in ((120 : Int32) + ((8 : Int32) * (M.1 119 ((17 : Int32)).toNatClampNeg))) 5880 ∧ ((((2 : Int32) ≤ (M.1 119 (((120 : Int32) + ((8 : Int32) * (M.1 119 ((17 : Int32)).toNatClampNeg)))).toNatClampNeg)) → ((((9 : Int32) ≤ (M.1 119 (((120 : Int32) + ((8 : Int32) * (M.1 119 ((17 : Int32)).toNatClampNeg)))).toNatClampNeg)) → ((((12 : Int32) ≤ (M.1 119 (((120 : Int32) + ((8 : Int32) * (M.1 119 ((17 : Int32)).toNatClampNeg)))).toNatClampNeg)) → (True)) ∧
  (¬ ((12 : Int32) ≤ (M.1 119 (((120 : Int32) + ((8 : Int32) * (M.1 119 ((17 : Int32)).toNatClampNeg)))).toNatClampNeg)) → (True)))) ∧
  (¬ ((9 : Int32) ≤ (M.1 119 (((120 : Int32) + ((8 : Int32) * (M.1 119 ((17 : Int32)).toNatClampNeg)))).toNatClampNeg)) → (True)))) ∧
  (¬ ((2 : Int32) ≤ (M.1 119 (((120 : Int32) + ((8 : Int32) * (M.1 119 ((17 : Int32)).toNatClampNeg)))).toNatClampNeg)) → (True))))) ∧
  (¬ (0 ≤ (M.1 119 ((17 : Int32)).toNatClampNeg)) → (True))
set_option maxHeartbeats 4000000 in
set_option maxRecDepth 100000 in
theorem ec_X12_latest (l : Launch) (D : em_G) (B : Nat) (M : em_M) (hs : es_X12_latest M) : em_C l D B yX12_latest cX12_latest 2 (some .int) 0 0 0 0 false [.ref (B + 118)] 132 em_R M (some (.int (et_X12_latest M))) 132 em_R (M) := by
  refine em_C_of RX12 [(0, .ref (B + 118))] (by decide) rfl rfl (Nat.le_of_ble_eq_true rfl) ?_
  rintro X rfl rfl rfl hRm hnL hnm hsz hX hQ
  obtain ⟨t0, hT⟩ : ∃ tz, et_X12_latest M = tz := ⟨_, rfl⟩
  rw [hT] at hQ
  rw [es_X12_latest] at hs
  refine ez_aload_n hX 0 dX12_latest_0 rfl ?_
  refine ez_getr hX kc_118 rfl (Nat.le_of_ble_eq_true rfl) lc_118 (Nat.le_of_ble_eq_true rfl) inX12 119 rfl rc_118_0 wf_X12_11 dX12_latest_1 ?_
  refine ez_bipush hX (17 : Int32) dX12_latest_4 (by decide) ?_
  refine ez_iald hX kc_119 lc_119 (by unfold vp_in; decide) dX12_latest_6 ?_
  refine ez_if_ge hX 13 dX12_latest_7 (by decide) (fun c1 => ?_) (fun c1 => ?_)
  · -- c1 jump
    have hs := hs.1 c1
    refine ez_aload_n hX 0 dX12_latest_13 rfl ?_
    refine ez_getr hX kc_118 rfl (Nat.le_of_ble_eq_true rfl) lc_118 (Nat.le_of_ble_eq_true rfl) inX12 119 rfl rc_118_0 wf_X12_11 dX12_latest_14 ?_
    refine ez_bipush hX (120 : Int32) dX12_latest_17 (by decide) ?_
    refine ez_bipush hX (8 : Int32) dX12_latest_19 (by decide) ?_
    refine ez_aload_n hX 0 dX12_latest_21 rfl ?_
    refine ez_getr hX kc_118 rfl (Nat.le_of_ble_eq_true rfl) lc_118 (Nat.le_of_ble_eq_true rfl) inX12 119 rfl rc_118_0 wf_X12_11 dX12_latest_22 ?_
    refine ez_bipush hX (17 : Int32) dX12_latest_25 (by decide) ?_
    refine ez_iald hX kc_119 lc_119 (by unfold vp_in; decide) dX12_latest_27 ?_
    refine ez_imul hX dX12_latest_28 ?_
    refine ez_iadd hX dX12_latest_29 ?_
    refine ez_iald hX kc_119 lc_119 hs.1 dX12_latest_30 ?_
    have hs := hs.2
    refine ez_istore_n hX [(1, .int (M.1 119 (((120 : Int32) + ((8 : Int32) * (M.1 119 ((17 : Int32)).toNatClampNeg)))).toNatClampNeg)), (0, .ref (ez_B X + 118))] dX12_latest_31 (ez_lt hnL rfl) rfl ?_
    refine ez_iload_n hX 0 dX12_latest_32 rfl ?_
    refine ez_iconst hX (2 : Int32) dX12_latest_33 (by decide) ?_
    refine ez_icmp_ge hX 41 dX12_latest_34 (by decide) (fun c2 => ?_) (fun c2 => ?_)
    · -- c2 jump
      have hs := hs.1 c2
      refine ez_iload_n hX 0 dX12_latest_41 rfl ?_
      refine ez_bipush hX (9 : Int32) dX12_latest_42 (by decide) ?_
      refine ez_icmp_ge hX 53 dX12_latest_44 (by decide) (fun c3 => ?_) (fun c3 => ?_)
      · -- c3 jump
        have hs := hs.1 c3
        refine ez_iload_n hX 0 dX12_latest_53 rfl ?_
        refine ez_bipush hX (12 : Int32) dX12_latest_54 (by decide) ?_
        refine ez_icmp_ge hX 64 dX12_latest_56 (by decide) (fun c4 => ?_) (fun c4 => ?_)
        · -- c4 jump
          have hs := hs.1 c4
          refine ez_iload_n hX 0 dX12_latest_64 rfl ?_
          refine ez_iconst hX (3 : Int32) dX12_latest_65 (by decide) ?_
          refine ez_isub hX dX12_latest_66 ?_
          have ht : t0 = ((M.1 119 (((120 : Int32) + ((8 : Int32) * (M.1 119 ((17 : Int32)).toNatClampNeg)))).toNatClampNeg) - (3 : Int32)) := hT.symm.trans (by simp only [et_X12_latest, if_pos c1, if_pos c2, if_pos c3, if_pos c4])
          subst ht
          exact ez_iret hX hQ dX12_latest_67 rfl rfl
        · -- c4 on
          have hs := hs.2 c4
          refine ez_bipush hX (8 : Int32) dX12_latest_59 (by decide) ?_
          refine ez_goto hX 67 dX12_latest_61 (by decide) ?_
          have ht : t0 = (8 : Int32) := hT.symm.trans (by simp only [et_X12_latest, if_pos c1, if_pos c2, if_pos c3, if_neg c4])
          subst ht
          exact ez_iret hX hQ dX12_latest_67 rfl rfl
      · -- c3 on
        have hs := hs.2 c3
        refine ez_iload_n hX 0 dX12_latest_47 rfl ?_
        refine ez_iconst hX (1 : Int32) dX12_latest_48 (by decide) ?_
        refine ez_isub hX dX12_latest_49 ?_
        refine ez_goto hX 67 dX12_latest_50 (by decide) ?_
        have ht : t0 = ((M.1 119 (((120 : Int32) + ((8 : Int32) * (M.1 119 ((17 : Int32)).toNatClampNeg)))).toNatClampNeg) - (1 : Int32)) := hT.symm.trans (by simp only [et_X12_latest, if_pos c1, if_pos c2, if_neg c3])
        subst ht
        exact ez_iret hX hQ dX12_latest_67 rfl rfl
    · -- c2 on
      have hs := hs.2 c2
      refine ez_iconst hX (0 : Int32) dX12_latest_37 (by decide) ?_
      refine ez_goto hX 67 dX12_latest_38 (by decide) ?_
      have ht : t0 = (0 : Int32) := hT.symm.trans (by simp only [et_X12_latest, if_pos c1, if_neg c2])
      subst ht
      exact ez_iret hX hQ dX12_latest_67 rfl rfl
  · -- c1 on
    have hs := hs.2 c1
    refine ez_bipush hX (-5 : Int32) dX12_latest_10 (by decide) ?_
    have ht : t0 = (-5 : Int32) := hT.symm.trans (by simp only [et_X12_latest, if_neg c1])
    subst ht
    exact ez_iret hX hQ dX12_latest_12 rfl rfl

def et_X12_winders_10   : Nat → em_M → Int32 → Int32 → Int32
  | 0, _, _, _ => 0
  | fu + 1, M, n, w =>
  (if w < 0 then n else et_X12_winders_10 fu M (n + (1 : Int32)) (M.1 119 ((((3960 : Int32) + ((4 : Int32) * w)) + (2 : Int32))).toNatClampNeg))
def es_X12_winders_10   : Nat → em_M → Int32 → Int32 → Prop
  | 0, _, _, _ => False
  | fu + 1, M, n, w =>
  ((w < 0) → (True)) ∧
  (¬ (w < 0) → (vp_in (((3960 : Int32) + ((4 : Int32) * w)) + (2 : Int32)) 5880 ∧ (es_X12_winders_10 fu M (n + (1 : Int32)) (M.1 119 ((((3960 : Int32) + ((4 : Int32) * w)) + (2 : Int32))).toNatClampNeg))))
def et_X12_winders  (M : em_M) : Int32 :=
  et_X12_winders_10 400 M (0 : Int32) (M.1 119 ((18 : Int32)).toNatClampNeg)
def es_X12_winders  (M : em_M) : Prop :=
  es_X12_winders_10 400 M (0 : Int32) (M.1 119 ((18 : Int32)).toNatClampNeg)
set_option maxHeartbeats 4000000 in
set_option maxRecDepth 100000 in
theorem el_X12_winders_10 (X : em_X)    (t0 : Int32) (hRm : ez_rm X = { frames := 0, cells := 0, slots := 0, locals := 0 }) (hnL : ez_nL X = 3) (hX : ez_ok X cX12_winders RX12) (M : em_M) (hQ : ez_ret X (some .int) (some (.int t0)) 132 em_R (M) 0 0) : ∀ (fu : Nat) (n : Int32) (w : Int32), es_X12_winders_10  fu M n w → et_X12_winders_10  fu M n w = t0 → ez_Z X 132 em_R M 0 0 10 [(0, .ref (ez_B X + 118)), (1, .int n), (2, .int w)] [] := by
  intro fu
  induction fu with
  | zero =>
    intro n w hs hT
    exact False.elim hs
  | succ fu ih =>
    intro n w hs hT
    rw [es_X12_winders_10] at hs
    refine ez_iload_n hX 2 dX12_winders_10 rfl ?_
    refine ez_if_lt hX 35 dX12_winders_11 (by decide) (fun c1 => ?_) (fun c1 => ?_)
    · -- c1 jump
      have hs := hs.1 c1
      refine ez_iload_n hX 1 dX12_winders_35 rfl ?_
      have ht : t0 = n := hT.symm.trans (by simp only [et_X12_winders_10, if_pos c1])
      subst ht
      exact ez_iret hX hQ dX12_winders_36 rfl rfl
    · -- c1 on
      have hs := hs.2 c1
      refine ez_iinc hX (n + (1 : Int32)) 1 [(1, .int (n + (1 : Int32))), (0, .ref (ez_B X + 118)), (2, .int w)] dX12_winders_14 rfl rfl (ez_lt hnL rfl) rfl ?_
      refine ez_aload_n hX 1 dX12_winders_17 rfl ?_
      refine ez_getr hX kc_118 rfl (Nat.le_of_ble_eq_true rfl) lc_118 (Nat.le_of_ble_eq_true rfl) inX12 119 rfl rc_118_0 wf_X12_11 dX12_winders_18 ?_
      refine ez_sipush hX (3960 : Int32) dX12_winders_21 (by decide) ?_
      refine ez_iconst hX (4 : Int32) dX12_winders_24 (by decide) ?_
      refine ez_iload_n hX 2 dX12_winders_25 rfl ?_
      refine ez_imul hX dX12_winders_26 ?_
      refine ez_iadd hX dX12_winders_27 ?_
      refine ez_iconst hX (2 : Int32) dX12_winders_28 (by decide) ?_
      refine ez_iadd hX dX12_winders_29 ?_
      refine ez_iald hX kc_119 lc_119 hs.1 dX12_winders_30 ?_
      have hs := hs.2
      refine ez_istore_n hX [(2, .int (M.1 119 ((((3960 : Int32) + ((4 : Int32) * w)) + (2 : Int32))).toNatClampNeg)), (1, .int (n + (1 : Int32))), (0, .ref (ez_B X + 118))] dX12_winders_31 (ez_lt hnL rfl) rfl ?_
      refine ez_goto hX 10 dX12_winders_32 (by decide) ?_
      refine ez_lv [2, 1, 0] rfl ?_
      exact ih (n + (1 : Int32)) (M.1 119 ((((3960 : Int32) + ((4 : Int32) * w)) + (2 : Int32))).toNatClampNeg) hs (Eq.trans (by simp only [et_X12_winders_10, if_neg c1]) hT)
set_option maxHeartbeats 4000000 in
set_option maxRecDepth 100000 in
theorem ec_X12_winders (l : Launch) (D : em_G) (B : Nat) (M : em_M) (hs : es_X12_winders M) : em_C l D B yX12_winders cX12_winders 3 (some .int) 0 0 0 0 false [.ref (B + 118)] 132 em_R M (some (.int (et_X12_winders M))) 132 em_R (M) := by
  refine em_C_of RX12 [(0, .ref (B + 118))] (by decide) rfl rfl (Nat.le_of_ble_eq_true rfl) ?_
  rintro X rfl rfl rfl hRm hnL hnm hsz hX hQ
  obtain ⟨t0, hT⟩ : ∃ tz, et_X12_winders M = tz := ⟨_, rfl⟩
  rw [hT] at hQ
  rw [es_X12_winders] at hs
  refine ez_iconst hX (0 : Int32) dX12_winders_0 (by decide) ?_
  refine ez_istore_n hX [(1, .int (0 : Int32)), (0, .ref (ez_B X + 118))] dX12_winders_1 (ez_lt hnL rfl) rfl ?_
  refine ez_aload_n hX 1 dX12_winders_2 rfl ?_
  refine ez_getr hX kc_118 rfl (Nat.le_of_ble_eq_true rfl) lc_118 (Nat.le_of_ble_eq_true rfl) inX12 119 rfl rc_118_0 wf_X12_11 dX12_winders_3 ?_
  refine ez_bipush hX (18 : Int32) dX12_winders_6 (by decide) ?_
  refine ez_iald hX kc_119 lc_119 (by unfold vp_in; decide) dX12_winders_8 ?_
  refine ez_istore_n hX [(2, .int (M.1 119 ((18 : Int32)).toNatClampNeg)), (1, .int (0 : Int32)), (0, .ref (ez_B X + 118))] dX12_winders_9 (ez_lt hnL rfl) rfl ?_
  refine ez_lv [2, 1, 0] rfl ?_
  exact el_X12_winders_10 X  t0 hRm hnL hX M hQ 400 (0 : Int32) (M.1 119 ((18 : Int32)).toNatClampNeg) hs (Eq.trans (by simp only [et_X12_winders]) hT)

def et_X12_toldOf  (M : em_M) (what : Int32) : Int64 :=
  (if what = (0 : Int32) then ((M.1 119 ((7 : Int32)).toNatClampNeg)).toInt64
  else (if what = (1 : Int32) then (if (M.1 119 ((7 : Int32)).toNatClampNeg) = 0 then (if (M.1 119 ((8 : Int32)).toNatClampNeg) = 0 then ((M.1 119 ((9 : Int32)).toNatClampNeg)).toInt64 else (-9223372036854775808 : Int64)) else (-9223372036854775808 : Int64))
  else (if what = (2 : Int32) then ((M.1 119 ((10 : Int32)).toNatClampNeg)).toInt64
  else (if what = (3 : Int32) then ((M.1 119 ((11 : Int32)).toNatClampNeg)).toInt64
  else (if what = (4 : Int32) then ((M.1 119 ((12 : Int32)).toNatClampNeg)).toInt64
  else let r8 := et_X12_in M ((what).toInt64) (40 : Int64) ((((39 : Int32) + (M.1 119 ((12 : Int32)).toNatClampNeg))).toInt64)
  (if r8 = 0 then (-9223372036854775808 : Int64) else ((M.1 119 ((((74 : Int32) + what) - (40 : Int32))).toNatClampNeg)).toInt64))))))
def es_X12_toldOf  (M : em_M) (what : Int32) : Prop :=
  ((what = (0 : Int32)) → (True)) ∧
  (¬ (what = (0 : Int32)) → (((what = (1 : Int32)) → ((((M.1 119 ((7 : Int32)).toNatClampNeg) = 0) → ((((M.1 119 ((8 : Int32)).toNatClampNeg) = 0) → (True)) ∧
  (¬ ((M.1 119 ((8 : Int32)).toNatClampNeg) = 0) → (True)))) ∧
  (¬ ((M.1 119 ((7 : Int32)).toNatClampNeg) = 0) → (True)))) ∧
  (¬ (what = (1 : Int32)) → (((what = (2 : Int32)) → (True)) ∧
  (¬ (what = (2 : Int32)) → (((what = (3 : Int32)) → (True)) ∧
  (¬ (what = (3 : Int32)) → (((what = (4 : Int32)) → (True)) ∧
  (¬ (what = (4 : Int32)) → (∀ r8 : Int32, et_X12_in M ((what).toInt64) (40 : Int64) ((((39 : Int32) + (M.1 119 ((12 : Int32)).toNatClampNeg))).toInt64) = r8 → (
  ((r8 = 0) → (True)) ∧
  (¬ (r8 = 0) → (vp_in (((74 : Int32) + what) - (40 : Int32)) 5880 ∧ (True))))))))))))))
set_option maxHeartbeats 4000000 in
set_option maxRecDepth 100000 in
theorem ec_X12_toldOf (l : Launch) (D : em_G) (B : Nat) (M : em_M) (what : Int32) (hs : es_X12_toldOf M what) : em_C l D B yX12_toldOf cX12_toldOf 2 (some .long) 1 25 0 0 false [.ref (B + 118), .int what] 132 em_R M (some (.long (et_X12_toldOf M what))) 132 em_R (M) := by
  refine em_C_of RX12 [(0, .ref (B + 118)), (1, .int what)] (by decide) rfl rfl (Nat.le_of_ble_eq_true rfl) ?_
  rintro X rfl rfl rfl hRm hnL hnm hsz hX hQ
  obtain ⟨t0, hT⟩ : ∃ tz, et_X12_toldOf M what = tz := ⟨_, rfl⟩
  rw [hT] at hQ
  rw [es_X12_toldOf] at hs
  refine ez_iload_n hX 1 dX12_toldOf_0 rfl ?_
  by_cases c1 : what = (0 : Int32)
  · have cx : (what).toInt = 0 := by rw [c1]; rfl
    refine ez_tsIn hX (0) (35) 36 dX12_toldOf_1 cx ⟨by decide, by decide, rfl, by decide⟩ ?_
    have hs := hs.1 c1
    refine ez_aload_n hX 0 dX12_toldOf_36 rfl ?_
    refine ez_getr hX kc_118 rfl (Nat.le_of_ble_eq_true rfl) lc_118 (Nat.le_of_ble_eq_true rfl) inX12 119 rfl rc_118_0 wf_X12_11 dX12_toldOf_37 ?_
    refine ez_bipush hX (7 : Int32) dX12_toldOf_40 (by decide) ?_
    refine ez_iald hX kc_119 lc_119 (by unfold vp_in; decide) dX12_toldOf_42 ?_
    refine ez_i2l hX dX12_toldOf_43 ?_
    have ht : t0 = ((M.1 119 ((7 : Int32)).toNatClampNeg)).toInt64 := hT.symm.trans (by simp only [et_X12_toldOf, if_pos c1])
    subst ht
    exact ez_lret hX hQ dX12_toldOf_44 rfl rfl
  · skip
    have hs := hs.2 c1
    by_cases c2 : what = (1 : Int32)
    · have cx : (what).toInt = 1 := by rw [c2]; rfl
      refine ez_tsIn hX (1) (44) 45 dX12_toldOf_1 cx ⟨by decide, by decide, rfl, by decide⟩ ?_
      have hs := hs.1 c2
      refine ez_aload_n hX 0 dX12_toldOf_45 rfl ?_
      refine ez_getr hX kc_118 rfl (Nat.le_of_ble_eq_true rfl) lc_118 (Nat.le_of_ble_eq_true rfl) inX12 119 rfl rc_118_0 wf_X12_11 dX12_toldOf_46 ?_
      refine ez_bipush hX (7 : Int32) dX12_toldOf_49 (by decide) ?_
      refine ez_iald hX kc_119 lc_119 (by unfold vp_in; decide) dX12_toldOf_51 ?_
      refine ez_if_ne hX 76 dX12_toldOf_52 (by decide) (fun c3 => ?_) (fun c3 => ?_)
      · -- c3 jump
        have hs := hs.2 c3
        refine ez_ldc2 hX wl_X12_134 dX12_toldOf_76 ?_
        have ht : t0 = (-9223372036854775808 : Int64) := hT.symm.trans (by simp only [et_X12_toldOf, if_neg c1, if_pos c2, if_neg c3])
        subst ht
        exact ez_lret hX hQ dX12_toldOf_79 rfl rfl
      · -- c3 on
        have hs := hs.1 c3
        refine ez_aload_n hX 0 dX12_toldOf_55 rfl ?_
        refine ez_getr hX kc_118 rfl (Nat.le_of_ble_eq_true rfl) lc_118 (Nat.le_of_ble_eq_true rfl) inX12 119 rfl rc_118_0 wf_X12_11 dX12_toldOf_56 ?_
        refine ez_bipush hX (8 : Int32) dX12_toldOf_59 (by decide) ?_
        refine ez_iald hX kc_119 lc_119 (by unfold vp_in; decide) dX12_toldOf_61 ?_
        refine ez_if_ne hX 76 dX12_toldOf_62 (by decide) (fun c4 => ?_) (fun c4 => ?_)
        · -- c4 jump
          have hs := hs.2 c4
          refine ez_ldc2 hX wl_X12_134 dX12_toldOf_76 ?_
          have ht : t0 = (-9223372036854775808 : Int64) := hT.symm.trans (by simp only [et_X12_toldOf, if_neg c1, if_pos c2, if_pos c3, if_neg c4])
          subst ht
          exact ez_lret hX hQ dX12_toldOf_79 rfl rfl
        · -- c4 on
          have hs := hs.1 c4
          refine ez_aload_n hX 0 dX12_toldOf_65 rfl ?_
          refine ez_getr hX kc_118 rfl (Nat.le_of_ble_eq_true rfl) lc_118 (Nat.le_of_ble_eq_true rfl) inX12 119 rfl rc_118_0 wf_X12_11 dX12_toldOf_66 ?_
          refine ez_bipush hX (9 : Int32) dX12_toldOf_69 (by decide) ?_
          refine ez_iald hX kc_119 lc_119 (by unfold vp_in; decide) dX12_toldOf_71 ?_
          refine ez_i2l hX dX12_toldOf_72 ?_
          refine ez_goto hX 79 dX12_toldOf_73 (by decide) ?_
          have ht : t0 = ((M.1 119 ((9 : Int32)).toNatClampNeg)).toInt64 := hT.symm.trans (by simp only [et_X12_toldOf, if_neg c1, if_pos c2, if_pos c3, if_pos c4])
          subst ht
          exact ez_lret hX hQ dX12_toldOf_79 rfl rfl
    · skip
      have hs := hs.2 c2
      by_cases c5 : what = (2 : Int32)
      · have cx : (what).toInt = 2 := by rw [c5]; rfl
        refine ez_tsIn hX (2) (79) 80 dX12_toldOf_1 cx ⟨by decide, by decide, rfl, by decide⟩ ?_
        have hs := hs.1 c5
        refine ez_aload_n hX 0 dX12_toldOf_80 rfl ?_
        refine ez_getr hX kc_118 rfl (Nat.le_of_ble_eq_true rfl) lc_118 (Nat.le_of_ble_eq_true rfl) inX12 119 rfl rc_118_0 wf_X12_11 dX12_toldOf_81 ?_
        refine ez_bipush hX (10 : Int32) dX12_toldOf_84 (by decide) ?_
        refine ez_iald hX kc_119 lc_119 (by unfold vp_in; decide) dX12_toldOf_86 ?_
        refine ez_i2l hX dX12_toldOf_87 ?_
        have ht : t0 = ((M.1 119 ((10 : Int32)).toNatClampNeg)).toInt64 := hT.symm.trans (by simp only [et_X12_toldOf, if_neg c1, if_neg c2, if_pos c5])
        subst ht
        exact ez_lret hX hQ dX12_toldOf_88 rfl rfl
      · skip
        have hs := hs.2 c5
        by_cases c6 : what = (3 : Int32)
        · have cx : (what).toInt = 3 := by rw [c6]; rfl
          refine ez_tsIn hX (3) (88) 89 dX12_toldOf_1 cx ⟨by decide, by decide, rfl, by decide⟩ ?_
          have hs := hs.1 c6
          refine ez_aload_n hX 0 dX12_toldOf_89 rfl ?_
          refine ez_getr hX kc_118 rfl (Nat.le_of_ble_eq_true rfl) lc_118 (Nat.le_of_ble_eq_true rfl) inX12 119 rfl rc_118_0 wf_X12_11 dX12_toldOf_90 ?_
          refine ez_bipush hX (11 : Int32) dX12_toldOf_93 (by decide) ?_
          refine ez_iald hX kc_119 lc_119 (by unfold vp_in; decide) dX12_toldOf_95 ?_
          refine ez_i2l hX dX12_toldOf_96 ?_
          have ht : t0 = ((M.1 119 ((11 : Int32)).toNatClampNeg)).toInt64 := hT.symm.trans (by simp only [et_X12_toldOf, if_neg c1, if_neg c2, if_neg c5, if_pos c6])
          subst ht
          exact ez_lret hX hQ dX12_toldOf_97 rfl rfl
        · skip
          have hs := hs.2 c6
          by_cases c7 : what = (4 : Int32)
          · have cx : (what).toInt = 4 := by rw [c7]; rfl
            refine ez_tsIn hX (4) (97) 98 dX12_toldOf_1 cx ⟨by decide, by decide, rfl, by decide⟩ ?_
            have hs := hs.1 c7
            refine ez_aload_n hX 0 dX12_toldOf_98 rfl ?_
            refine ez_getr hX kc_118 rfl (Nat.le_of_ble_eq_true rfl) lc_118 (Nat.le_of_ble_eq_true rfl) inX12 119 rfl rc_118_0 wf_X12_11 dX12_toldOf_99 ?_
            refine ez_bipush hX (12 : Int32) dX12_toldOf_102 (by decide) ?_
            refine ez_iald hX kc_119 lc_119 (by unfold vp_in; decide) dX12_toldOf_104 ?_
            refine ez_i2l hX dX12_toldOf_105 ?_
            have ht : t0 = ((M.1 119 ((12 : Int32)).toNatClampNeg)).toInt64 := hT.symm.trans (by simp only [et_X12_toldOf, if_neg c1, if_neg c2, if_neg c5, if_neg c6, if_pos c7])
            subst ht
            exact ez_lret hX hQ dX12_toldOf_106 rfl rfl
          · skip
            have hs := hs.2 c7
            refine ez_tsD hX [0, 1, 2, 3, 4] 107 dX12_toldOf_1 (List.forall_mem_cons.mpr ⟨lv_neT c1 rfl, (List.forall_mem_cons.mpr ⟨lv_neT c2 rfl, (List.forall_mem_cons.mpr ⟨lv_neT c5 rfl, (List.forall_mem_cons.mpr ⟨lv_neT c6 rfl, (List.forall_mem_cons.mpr ⟨lv_neT c7 rfl, (fun _ h => absurd h List.not_mem_nil)⟩)⟩)⟩)⟩)⟩) (by decide +kernel) (by decide) ?_
            refine ez_iload_n hX 1 dX12_toldOf_107 rfl ?_
            refine ez_i2l hX dX12_toldOf_108 ?_
            refine ez_ldc2 hX wl_X12_199 dX12_toldOf_109 ?_
            refine ez_bipush hX (39 : Int32) dX12_toldOf_112 (by decide) ?_
            refine ez_aload_n hX 0 dX12_toldOf_114 rfl ?_
            refine ez_getr hX kc_118 rfl (Nat.le_of_ble_eq_true rfl) lc_118 (Nat.le_of_ble_eq_true rfl) inX12 119 rfl rc_118_0 wf_X12_11 dX12_toldOf_115 ?_
            refine ez_bipush hX (12 : Int32) dX12_toldOf_118 (by decide) ?_
            refine ez_iald hX kc_119 lc_119 (by unfold vp_in; decide) dX12_toldOf_120 ?_
            refine ez_iadd hX dX12_toldOf_121 ?_
            refine ez_i2l hX dX12_toldOf_122 ?_
            refine ez_callS hX (N0 := 0) (As := [.long ((what).toInt64), .long (40 : Int64), .long ((((39 : Int32) + (M.1 119 ((12 : Int32)).toNatClampNeg))).toInt64)]) (st := []) (ec_X12_in _ _ _ M ((what).toInt64) (40 : Int64) ((((39 : Int32) + (M.1 119 ((12 : Int32)).toNatClampNeg))).toInt64)) (Or.inl rfl) wm_X12_54 ws_X12_in wy_X12_in rfl wd_X12_in wi_X12 (ez_rok hRm rfl) (Nat.le_of_ble_eq_true rfl) dX12_toldOf_123 ?_
            refine ez_nmI (fun r8 er8 => ?_)
            have hs := hs r8 er8
            refine ez_if_eq hX 145 dX12_toldOf_126 (by decide) (fun c9 => ?_) (fun c9 => ?_)
            · -- c9 jump
              have hs := hs.1 c9
              refine ez_ldc2 hX wl_X12_134 dX12_toldOf_145 ?_
              have ht : t0 = (-9223372036854775808 : Int64) := hT.symm.trans (by simp only [et_X12_toldOf, if_neg c1, if_neg c2, if_neg c5, if_neg c6, if_neg c7, er8, if_pos c9])
              subst ht
              exact ez_lret hX hQ dX12_toldOf_148 rfl rfl
            · -- c9 on
              have hs := hs.2 c9
              refine ez_aload_n hX 0 dX12_toldOf_129 rfl ?_
              refine ez_getr hX kc_118 rfl (Nat.le_of_ble_eq_true rfl) lc_118 (Nat.le_of_ble_eq_true rfl) inX12 119 rfl rc_118_0 wf_X12_11 dX12_toldOf_130 ?_
              refine ez_bipush hX (74 : Int32) dX12_toldOf_133 (by decide) ?_
              refine ez_iload_n hX 1 dX12_toldOf_135 rfl ?_
              refine ez_iadd hX dX12_toldOf_136 ?_
              refine ez_bipush hX (40 : Int32) dX12_toldOf_137 (by decide) ?_
              refine ez_isub hX dX12_toldOf_139 ?_
              refine ez_iald hX kc_119 lc_119 hs.1 dX12_toldOf_140 ?_
              have hs := hs.2
              refine ez_i2l hX dX12_toldOf_141 ?_
              refine ez_goto hX 148 dX12_toldOf_142 (by decide) ?_
              have ht : t0 = ((M.1 119 ((((74 : Int32) + what) - (40 : Int32))).toNatClampNeg)).toInt64 := hT.symm.trans (by simp only [et_X12_toldOf, if_neg c1, if_neg c2, if_neg c5, if_neg c6, if_neg c7, er8, if_neg c9])
              subst ht
              exact ez_lret hX hQ dX12_toldOf_148 rfl rfl

def et_X12_told  (M : em_M) (what : Int32) : Int64 :=
  let r1 := et_X12_in M ((what).toInt64) (5 : Int64) (8 : Int64)
  (if r1 = 0 then let r3 := et_X12_in M ((what).toInt64) (10 : Int64) (13 : Int64)
  (if r3 = 0 then let r5 := et_X12_in M ((what).toInt64) (20 : Int64) (22 : Int64)
  (if r5 = 0 then let r7 := et_X12_toldOf M what
  r7 else ((M.1 119 ((((4 : Int32) + what) - (20 : Int32))).toNatClampNeg)).toInt64) else ((M.1 119 ((((0 : Int32) + what) - (10 : Int32))).toNatClampNeg)).toInt64) else (if (M.1 119 ((7 : Int32)).toNatClampNeg) = (-5 : Int32) then (if what = (5 : Int32) then let r14 := et_X12_frames M (M.1 119 ((17 : Int32)).toNatClampNeg)
  (r14).toInt64 else (if what = (6 : Int32) then let r13 := et_X12_winders M
  (r13).toInt64 else (if what = (7 : Int32) then ((M.1 119 ((13 : Int32)).toNatClampNeg)).toInt64 else let r12 := et_X12_latest M
  (r12).toInt64))) else (-9223372036854775808 : Int64)))
def es_X12_told  (M : em_M) (what : Int32) : Prop :=
  ∀ r1 : Int32, et_X12_in M ((what).toInt64) (5 : Int64) (8 : Int64) = r1 → (
  ((r1 = 0) → (∀ r3 : Int32, et_X12_in M ((what).toInt64) (10 : Int64) (13 : Int64) = r3 → (
  ((r3 = 0) → (∀ r5 : Int32, et_X12_in M ((what).toInt64) (20 : Int64) (22 : Int64) = r5 → (
  ((r5 = 0) → (es_X12_toldOf M what ∧ (∀ r7 : Int64, et_X12_toldOf M what = r7 → (
  True)))) ∧
  (¬ (r5 = 0) → (vp_in (((4 : Int32) + what) - (20 : Int32)) 5880 ∧ (True)))))) ∧
  (¬ (r3 = 0) → (vp_in (((0 : Int32) + what) - (10 : Int32)) 5880 ∧ (True)))))) ∧
  (¬ (r1 = 0) → ((((M.1 119 ((7 : Int32)).toNatClampNeg) = (-5 : Int32)) → (((what = (5 : Int32)) → (es_X12_frames M (M.1 119 ((17 : Int32)).toNatClampNeg) ∧ (∀ r14 : Int32, et_X12_frames M (M.1 119 ((17 : Int32)).toNatClampNeg) = r14 → (
  True)))) ∧
  (¬ (what = (5 : Int32)) → (((what = (6 : Int32)) → (es_X12_winders M ∧ (∀ r13 : Int32, et_X12_winders M = r13 → (
  True)))) ∧
  (¬ (what = (6 : Int32)) → (((what = (7 : Int32)) → (True)) ∧
  (¬ (what = (7 : Int32)) → (es_X12_latest M ∧ (∀ r12 : Int32, et_X12_latest M = r12 → (
  True)))))))))) ∧
  (¬ ((M.1 119 ((7 : Int32)).toNatClampNeg) = (-5 : Int32)) → (True)))))
set_option maxHeartbeats 4000000 in
set_option maxRecDepth 100000 in
theorem ec_X12_told (l : Launch) (D : em_G) (B : Nat) (M : em_M) (what : Int32) (hs : es_X12_told M what) : em_C l D B yX12_told cX12_told 2 (some .long) 2 46 0 0 false [.ref (B + 118), .int what] 132 em_R M (some (.long (et_X12_told M what))) 132 em_R (M) := by
  refine em_C_of RX12 [(0, .ref (B + 118)), (1, .int what)] (by decide) rfl rfl (Nat.le_of_ble_eq_true rfl) ?_
  rintro X rfl rfl rfl hRm hnL hnm hsz hX hQ
  obtain ⟨t0, hT⟩ : ∃ tz, et_X12_told M what = tz := ⟨_, rfl⟩
  rw [hT] at hQ
  rw [es_X12_told] at hs
  refine ez_iload_n hX 1 dX12_told_0 rfl ?_
  refine ez_i2l hX dX12_told_1 ?_
  refine ez_ldc2 hX wl_X12_201 dX12_told_2 ?_
  refine ez_ldc2 hX wl_X12_203 dX12_told_5 ?_
  refine ez_callS hX (N0 := 0) (As := [.long ((what).toInt64), .long (5 : Int64), .long (8 : Int64)]) (st := []) (ec_X12_in _ _ _ M ((what).toInt64) (5 : Int64) (8 : Int64)) (Or.inl rfl) wm_X12_54 ws_X12_in wy_X12_in rfl wd_X12_in wi_X12 (ez_rok hRm rfl) (Nat.le_of_ble_eq_true rfl) dX12_told_8 ?_
  refine ez_nmI (fun r1 er1 => ?_)
  have hs := hs r1 er1
  refine ez_if_eq hX 87 dX12_told_11 (by decide) (fun c2 => ?_) (fun c2 => ?_)
  · -- c2 jump
    have hs := hs.1 c2
    refine ez_iload_n hX 1 dX12_told_87 rfl ?_
    refine ez_i2l hX dX12_told_88 ?_
    refine ez_ldc2 hX wl_X12_211 dX12_told_89 ?_
    refine ez_ldc2 hX wl_X12_213 dX12_told_92 ?_
    refine ez_callS hX (N0 := 0) (As := [.long ((what).toInt64), .long (10 : Int64), .long (13 : Int64)]) (st := []) (ec_X12_in _ _ _ M ((what).toInt64) (10 : Int64) (13 : Int64)) (Or.inl rfl) wm_X12_54 ws_X12_in wy_X12_in rfl wd_X12_in wi_X12 (ez_rok hRm rfl) (Nat.le_of_ble_eq_true rfl) dX12_told_95 ?_
    refine ez_nmI (fun r3 er3 => ?_)
    have hs := hs r3 er3
    refine ez_if_eq hX 114 dX12_told_98 (by decide) (fun c4 => ?_) (fun c4 => ?_)
    · -- c4 jump
      have hs := hs.1 c4
      refine ez_iload_n hX 1 dX12_told_114 rfl ?_
      refine ez_i2l hX dX12_told_115 ?_
      refine ez_ldc2 hX wl_X12_215 dX12_told_116 ?_
      refine ez_ldc2 hX wl_X12_217 dX12_told_119 ?_
      refine ez_callS hX (N0 := 0) (As := [.long ((what).toInt64), .long (20 : Int64), .long (22 : Int64)]) (st := []) (ec_X12_in _ _ _ M ((what).toInt64) (20 : Int64) (22 : Int64)) (Or.inl rfl) wm_X12_54 ws_X12_in wy_X12_in rfl wd_X12_in wi_X12 (ez_rok hRm rfl) (Nat.le_of_ble_eq_true rfl) dX12_told_122 ?_
      refine ez_nmI (fun r5 er5 => ?_)
      have hs := hs r5 er5
      refine ez_if_eq hX 143 dX12_told_125 (by decide) (fun c6 => ?_) (fun c6 => ?_)
      · -- c6 jump
        have hs := hs.1 c6
        refine ez_aload_n hX 0 dX12_told_143 rfl ?_
        refine ez_iload_n hX 1 dX12_told_144 rfl ?_
        refine ez_callV hX (N0 := 0) (As := [.int what]) (st := []) kc_118 (Nat.le_of_ble_eq_true rfl) lc_118 rfl (ec_X12_toldOf _ _ _ M what hs.1) (Or.inl rfl) wm_X12_219 wv_X12_toldOf we_X12_toldOf wy_X12_toldOf rfl wd_X12_toldOf wi_X12 (ez_rok hRm rfl) (Nat.le_of_ble_eq_true rfl) dX12_told_145 ?_
        have hs := hs.2
        refine ez_nmL (fun r7 er7 => ?_)
        have hs := hs r7 er7
        have ht : t0 = r7 := hT.symm.trans (by simp only [et_X12_told, er1, if_pos c2, er3, if_pos c4, er5, if_pos c6, er7])
        subst ht
        exact ez_lret hX hQ dX12_told_148 rfl rfl
      · -- c6 on
        have hs := hs.2 c6
        refine ez_aload_n hX 0 dX12_told_128 rfl ?_
        refine ez_getr hX kc_118 rfl (Nat.le_of_ble_eq_true rfl) lc_118 (Nat.le_of_ble_eq_true rfl) inX12 119 rfl rc_118_0 wf_X12_11 dX12_told_129 ?_
        refine ez_iconst hX (4 : Int32) dX12_told_132 (by decide) ?_
        refine ez_iload_n hX 1 dX12_told_133 rfl ?_
        refine ez_iadd hX dX12_told_134 ?_
        refine ez_bipush hX (20 : Int32) dX12_told_135 (by decide) ?_
        refine ez_isub hX dX12_told_137 ?_
        refine ez_iald hX kc_119 lc_119 hs.1 dX12_told_138 ?_
        have hs := hs.2
        refine ez_i2l hX dX12_told_139 ?_
        refine ez_goto hX 148 dX12_told_140 (by decide) ?_
        have ht : t0 = ((M.1 119 ((((4 : Int32) + what) - (20 : Int32))).toNatClampNeg)).toInt64 := hT.symm.trans (by simp only [et_X12_told, er1, if_pos c2, er3, if_pos c4, er5, if_neg c6])
        subst ht
        exact ez_lret hX hQ dX12_told_148 rfl rfl
    · -- c4 on
      have hs := hs.2 c4
      refine ez_aload_n hX 0 dX12_told_101 rfl ?_
      refine ez_getr hX kc_118 rfl (Nat.le_of_ble_eq_true rfl) lc_118 (Nat.le_of_ble_eq_true rfl) inX12 119 rfl rc_118_0 wf_X12_11 dX12_told_102 ?_
      refine ez_iconst hX (0 : Int32) dX12_told_105 (by decide) ?_
      refine ez_iload_n hX 1 dX12_told_106 rfl ?_
      refine ez_iadd hX dX12_told_107 ?_
      refine ez_bipush hX (10 : Int32) dX12_told_108 (by decide) ?_
      refine ez_isub hX dX12_told_110 ?_
      refine ez_iald hX kc_119 lc_119 hs.1 dX12_told_111 ?_
      have hs := hs.2
      refine ez_i2l hX dX12_told_112 ?_
      have ht : t0 = ((M.1 119 ((((0 : Int32) + what) - (10 : Int32))).toNatClampNeg)).toInt64 := hT.symm.trans (by simp only [et_X12_told, er1, if_pos c2, er3, if_neg c4])
      subst ht
      exact ez_lret hX hQ dX12_told_113 rfl rfl
  · -- c2 on
    have hs := hs.2 c2
    refine ez_aload_n hX 0 dX12_told_14 rfl ?_
    refine ez_getr hX kc_118 rfl (Nat.le_of_ble_eq_true rfl) lc_118 (Nat.le_of_ble_eq_true rfl) inX12 119 rfl rc_118_0 wf_X12_11 dX12_told_15 ?_
    refine ez_bipush hX (7 : Int32) dX12_told_18 (by decide) ?_
    refine ez_iald hX kc_119 lc_119 (by unfold vp_in; decide) dX12_told_20 ?_
    refine ez_bipush hX (-5 : Int32) dX12_told_21 (by decide) ?_
    refine ez_icmp_eq hX 30 dX12_told_23 (by decide) (fun c8 => ?_) (fun c8 => ?_)
    · -- c8 jump
      have hs := hs.1 c8
      refine ez_iload_n hX 1 dX12_told_30 rfl ?_
      refine ez_iconst hX (5 : Int32) dX12_told_31 (by decide) ?_
      refine ez_icmp_ne hX 50 dX12_told_32 (by decide) (fun c9 => ?_) (fun c9 => ?_)
      · -- c9 jump
        have hs := hs.2 c9
        refine ez_iload_n hX 1 dX12_told_50 rfl ?_
        refine ez_bipush hX (6 : Int32) dX12_told_51 (by decide) ?_
        refine ez_icmp_ne hX 64 dX12_told_53 (by decide) (fun c10 => ?_) (fun c10 => ?_)
        · -- c10 jump
          have hs := hs.2 c10
          refine ez_iload_n hX 1 dX12_told_64 rfl ?_
          refine ez_bipush hX (7 : Int32) dX12_told_65 (by decide) ?_
          refine ez_icmp_ne hX 81 dX12_told_67 (by decide) (fun c11 => ?_) (fun c11 => ?_)
          · -- c11 jump
            have hs := hs.2 c11
            refine ez_aload_n hX 0 dX12_told_81 rfl ?_
            refine ez_callV hX (N0 := 0) (As := []) (st := []) kc_118 (Nat.le_of_ble_eq_true rfl) lc_118 rfl (ec_X12_latest _ _ _ M hs.1) (Or.inl rfl) wm_X12_208 wv_X12_latest we_X12_latest wy_X12_latest rfl wd_X12_latest wi_X12 (ez_rok hRm rfl) (Nat.le_of_ble_eq_true rfl) dX12_told_82 ?_
            have hs := hs.2
            refine ez_nmI (fun r12 er12 => ?_)
            have hs := hs r12 er12
            refine ez_i2l hX dX12_told_85 ?_
            have ht : t0 = (r12).toInt64 := hT.symm.trans (by simp only [et_X12_told, er1, if_neg c2, if_pos c8, if_neg c9, if_neg c10, if_neg c11, er12])
            subst ht
            exact ez_lret hX hQ dX12_told_86 rfl rfl
          · -- c11 on
            have hs := hs.1 c11
            refine ez_aload_n hX 0 dX12_told_70 rfl ?_
            refine ez_getr hX kc_118 rfl (Nat.le_of_ble_eq_true rfl) lc_118 (Nat.le_of_ble_eq_true rfl) inX12 119 rfl rc_118_0 wf_X12_11 dX12_told_71 ?_
            refine ez_bipush hX (13 : Int32) dX12_told_74 (by decide) ?_
            refine ez_iald hX kc_119 lc_119 (by unfold vp_in; decide) dX12_told_76 ?_
            refine ez_i2l hX dX12_told_77 ?_
            refine ez_goto hX 86 dX12_told_78 (by decide) ?_
            have ht : t0 = ((M.1 119 ((13 : Int32)).toNatClampNeg)).toInt64 := hT.symm.trans (by simp only [et_X12_told, er1, if_neg c2, if_pos c8, if_neg c9, if_neg c10, if_pos c11])
            subst ht
            exact ez_lret hX hQ dX12_told_86 rfl rfl
        · -- c10 on
          have hs := hs.1 c10
          refine ez_aload_n hX 0 dX12_told_56 rfl ?_
          refine ez_callV hX (N0 := 0) (As := []) (st := []) kc_118 (Nat.le_of_ble_eq_true rfl) lc_118 rfl (ec_X12_winders _ _ _ M hs.1) (Or.inl rfl) wm_X12_205 wv_X12_winders we_X12_winders wy_X12_winders rfl wd_X12_winders wi_X12 (ez_rok hRm rfl) (Nat.le_of_ble_eq_true rfl) dX12_told_57 ?_
          have hs := hs.2
          refine ez_nmI (fun r13 er13 => ?_)
          have hs := hs r13 er13
          refine ez_i2l hX dX12_told_60 ?_
          refine ez_goto hX 86 dX12_told_61 (by decide) ?_
          have ht : t0 = (r13).toInt64 := hT.symm.trans (by simp only [et_X12_told, er1, if_neg c2, if_pos c8, if_neg c9, if_pos c10, er13])
          subst ht
          exact ez_lret hX hQ dX12_told_86 rfl rfl
      · -- c9 on
        have hs := hs.1 c9
        refine ez_aload_n hX 0 dX12_told_35 rfl ?_
        refine ez_aload_n hX 0 dX12_told_36 rfl ?_
        refine ez_getr hX kc_118 rfl (Nat.le_of_ble_eq_true rfl) lc_118 (Nat.le_of_ble_eq_true rfl) inX12 119 rfl rc_118_0 wf_X12_11 dX12_told_37 ?_
        refine ez_bipush hX (17 : Int32) dX12_told_40 (by decide) ?_
        refine ez_iald hX kc_119 lc_119 (by unfold vp_in; decide) dX12_told_42 ?_
        refine ez_callV hX (N0 := 0) (As := [.int (M.1 119 ((17 : Int32)).toNatClampNeg)]) (st := []) kc_118 (Nat.le_of_ble_eq_true rfl) lc_118 rfl (ec_X12_frames _ _ _ M (M.1 119 ((17 : Int32)).toNatClampNeg) hs.1) (Or.inl rfl) wm_X12_136 wv_X12_frames we_X12_frames wy_X12_frames rfl wd_X12_frames wi_X12 (ez_rok hRm rfl) (Nat.le_of_ble_eq_true rfl) dX12_told_43 ?_
        have hs := hs.2
        refine ez_nmI (fun r14 er14 => ?_)
        have hs := hs r14 er14
        refine ez_i2l hX dX12_told_46 ?_
        refine ez_goto hX 86 dX12_told_47 (by decide) ?_
        have ht : t0 = (r14).toInt64 := hT.symm.trans (by simp only [et_X12_told, er1, if_neg c2, if_pos c8, if_pos c9, er14])
        subst ht
        exact ez_lret hX hQ dX12_told_86 rfl rfl
    · -- c8 on
      have hs := hs.2 c8
      refine ez_ldc2 hX wl_X12_134 dX12_told_26 ?_
      have ht : t0 = (-9223372036854775808 : Int64) := hT.symm.trans (by simp only [et_X12_told, er1, if_neg c2, if_neg c8])
      subst ht
      exact ez_lret hX hQ dX12_told_29 rfl rfl

def et_X12_on  (M : em_M) (line : Int32) (what : Int32) : Int64 × em_M :=
  let r1 := et_X12_isLine M line
  (if r1 = 0 then ((-9223372036854775808 : Int64), M) else let r3 := et_X12_in M ((what).toInt64) (5 : Int64) (39 : Int64)
  (if r3 = 0 then let M5 := et_X12_copies 119 5880 120 5880 M
  let M6 := et_X12_runs M5 line
  let r7 := et_X12_toldOf M6 what
  let M8 := et_X12_copies 120 5880 119 5880 M6
  (r7, M8) else ((-9223372036854775808 : Int64), M)))
def es_X12_on  (M : em_M) (line : Int32) (what : Int32) : Prop :=
  ∀ r1 : Int32, et_X12_isLine M line = r1 → (
  ((r1 = 0) → (True)) ∧
  (¬ (r1 = 0) → (∀ r3 : Int32, et_X12_in M ((what).toInt64) (5 : Int64) (39 : Int64) = r3 → (
  ((r3 = 0) → (es_X12_copies 119 5880 120 5880 M ∧ (∀ M5 : em_M, et_X12_copies 119 5880 120 5880 M = M5 → (
  es_X12_runs M5 line ∧ (∀ M6 : em_M, et_X12_runs M5 line = M6 → (
  es_X12_toldOf M6 what ∧ (∀ r7 : Int64, et_X12_toldOf M6 what = r7 → (
  es_X12_copies 120 5880 119 5880 M6 ∧ (∀ M8 : em_M, et_X12_copies 120 5880 119 5880 M6 = M8 → (
  True)))))))))) ∧
  (¬ (r3 = 0) → (True))))))
set_option maxHeartbeats 4000000 in
set_option maxRecDepth 100000 in
theorem ec_X12_on (l : Launch) (D : em_G) (B : Nat) (M : em_M) (line : Int32) (what : Int32) (hs : es_X12_on M line what) : em_C l D B yX12_on cX12_on 5 (some .long) 7 178 0 0 false [.ref (B + 118), .int line, .int what] 132 em_R M (some (.long (et_X12_on M line what).1)) 132 em_R ((et_X12_on M line what).2) := by
  refine em_C_of RX12 [(0, .ref (B + 118)), (1, .int line), (2, .int what)] (by decide) rfl rfl (Nat.le_of_ble_eq_true rfl) ?_
  rintro X rfl rfl rfl hRm hnL hnm hsz hX hQ
  obtain ⟨t0, hT⟩ : ∃ tz, et_X12_on M line what = tz := ⟨_, rfl⟩
  rw [hT] at hQ
  rw [es_X12_on] at hs
  refine ez_aload_n hX 0 dX12_on_0 rfl ?_
  refine ez_iload_n hX 1 dX12_on_1 rfl ?_
  refine ez_callV hX (N0 := 0) (As := [.int line]) (st := []) kc_118 (Nat.le_of_ble_eq_true rfl) lc_118 rfl (ec_X12_isLine _ _ _ M line) (Or.inl rfl) wm_X12_124 wv_X12_isLine we_X12_isLine wy_X12_isLine rfl wd_X12_isLine wi_X12 (ez_rok hRm rfl) (Nat.le_of_ble_eq_true rfl) dX12_on_2 ?_
  refine ez_nmI (fun r1 er1 => ?_)
  have hs := hs r1 er1
  refine ez_if_eq hX 22 dX12_on_5 (by decide) (fun c2 => ?_) (fun c2 => ?_)
  · -- c2 jump
    have hs := hs.1 c2
    refine ez_ldc2 hX wl_X12_134 dX12_on_22 ?_
    have ht : t0 = ((-9223372036854775808 : Int64), M) := hT.symm.trans (by simp only [et_X12_on, er1, if_pos c2])
    subst ht
    exact ez_lret hX hQ dX12_on_25 rfl rfl
  · -- c2 on
    have hs := hs.2 c2
    refine ez_iload_n hX 2 dX12_on_8 rfl ?_
    refine ez_i2l hX dX12_on_9 ?_
    refine ez_ldc2 hX wl_X12_201 dX12_on_10 ?_
    refine ez_ldc2 hX wl_X12_223 dX12_on_13 ?_
    refine ez_callS hX (N0 := 0) (As := [.long ((what).toInt64), .long (5 : Int64), .long (39 : Int64)]) (st := []) (ec_X12_in _ _ _ M ((what).toInt64) (5 : Int64) (39 : Int64)) (Or.inl rfl) wm_X12_54 ws_X12_in wy_X12_in rfl wd_X12_in wi_X12 (ez_rok hRm rfl) (Nat.le_of_ble_eq_true rfl) dX12_on_16 ?_
    refine ez_nmI (fun r3 er3 => ?_)
    have hs := hs r3 er3
    refine ez_if_eq hX 26 dX12_on_19 (by decide) (fun c4 => ?_) (fun c4 => ?_)
    · -- c4 jump
      have hs := hs.1 c4
      refine ez_aload_n hX 0 dX12_on_26 rfl ?_
      refine ez_getr hX kc_118 rfl (Nat.le_of_ble_eq_true rfl) lc_118 (Nat.le_of_ble_eq_true rfl) inX12 119 rfl rc_118_0 wf_X12_11 dX12_on_27 ?_
      refine ez_aload_n hX 0 dX12_on_30 rfl ?_
      refine ez_getr hX kc_118 rfl (Nat.le_of_ble_eq_true rfl) lc_118 (Nat.le_of_ble_eq_true rfl) inX12 120 rfl rc_118_1 wf_X12_15 dX12_on_31 ?_
      refine ez_callS hX (N0 := 0) (As := [.ref (ez_B X + 119), .ref (ez_B X + 120)]) (st := []) (ec_X12_copies _ _ _ 119 5880 kc_119 lc_119 120 5880 kc_120 lc_120 M hs.1) (Or.inl rfl) wm_X12_225 ws_X12_copies wy_X12_copies rfl wd_X12_copies wi_X12 (ez_rok hRm rfl) (Nat.le_of_ble_eq_true rfl) dX12_on_34 ?_
      have hs := hs.2
      refine ez_nmM (fun M5 eM5 => ?_)
      have hs := hs M5 eM5
      refine ez_aload_n hX 0 dX12_on_37 rfl ?_
      refine ez_iload_n hX 1 dX12_on_38 rfl ?_
      refine ez_callV hX (N0 := 0) (As := [.int line]) (st := []) kc_118 (Nat.le_of_ble_eq_true rfl) lc_118 rfl (ec_X12_runs _ _ _ M5 line hs.1) (Or.inl rfl) wm_X12_196 wv_X12_runs we_X12_runs wy_X12_runs rfl wd_X12_runs wi_X12 (ez_rok hRm rfl) (Nat.le_of_ble_eq_true rfl) dX12_on_39 ?_
      have hs := hs.2
      refine ez_nmM (fun M6 eM6 => ?_)
      have hs := hs M6 eM6
      refine ez_aload_n hX 0 dX12_on_42 rfl ?_
      refine ez_iload_n hX 2 dX12_on_43 rfl ?_
      refine ez_callV hX (N0 := 0) (As := [.int what]) (st := []) kc_118 (Nat.le_of_ble_eq_true rfl) lc_118 rfl (ec_X12_toldOf _ _ _ M6 what hs.1) (Or.inl rfl) wm_X12_219 wv_X12_toldOf we_X12_toldOf wy_X12_toldOf rfl wd_X12_toldOf wi_X12 (ez_rok hRm rfl) (Nat.le_of_ble_eq_true rfl) dX12_on_44 ?_
      have hs := hs.2
      refine ez_nmL (fun r7 er7 => ?_)
      have hs := hs r7 er7
      refine ez_lstore_n hX [(3, .long r7), (0, .ref (ez_B X + 118)), (1, .int line), (2, .int what)] dX12_on_47 (ez_lt hnL rfl) rfl ?_
      refine ez_aload_n hX 1 dX12_on_48 rfl ?_
      refine ez_getr hX kc_118 rfl (Nat.le_of_ble_eq_true rfl) lc_118 (Nat.le_of_ble_eq_true rfl) inX12 120 rfl rc_118_1 wf_X12_15 dX12_on_49 ?_
      refine ez_aload_n hX 1 dX12_on_52 rfl ?_
      refine ez_getr hX kc_118 rfl (Nat.le_of_ble_eq_true rfl) lc_118 (Nat.le_of_ble_eq_true rfl) inX12 119 rfl rc_118_0 wf_X12_11 dX12_on_53 ?_
      refine ez_callS hX (N0 := 0) (As := [.ref (ez_B X + 120), .ref (ez_B X + 119)]) (st := []) (ec_X12_copies _ _ _ 120 5880 kc_120 lc_120 119 5880 kc_119 lc_119 M6 hs.1) (Or.inl rfl) wm_X12_225 ws_X12_copies wy_X12_copies rfl wd_X12_copies wi_X12 (ez_rok hRm rfl) (Nat.le_of_ble_eq_true rfl) dX12_on_56 ?_
      have hs := hs.2
      refine ez_nmM (fun M8 eM8 => ?_)
      have hs := hs M8 eM8
      refine ez_lload_n hX 0 dX12_on_59 rfl ?_
      have ht : t0 = (r7, M8) := hT.symm.trans (by simp only [et_X12_on, er1, if_neg c2, er3, if_pos c4, eM5, eM6, er7, eM8])
      subst ht
      exact ez_lret hX hQ dX12_on_60 rfl rfl
    · -- c4 on
      have hs := hs.2 c4
      refine ez_ldc2 hX wl_X12_134 dX12_on_22 ?_
      have ht : t0 = ((-9223372036854775808 : Int64), M) := hT.symm.trans (by simp only [et_X12_on, er1, if_neg c2, er3, if_neg c4])
      subst ht
      exact ez_lret hX hQ dX12_on_25 rfl rfl

def et_X12_see  (M : em_M) (place : Int32) (v : Int32) : Int32 × em_M :=
  (if place = (-1 : Int32) then let M8 := em_pI M 119 ((25 : Int32)).toNatClampNeg (0 : Int32)
  ((0 : Int32), M8) else let r2 := et_X12_in M ((place).toInt64) (0 : Int64) (39 : Int64)
  (if r2 = 0 then ((-2 : Int32), M) else (if (M.1 119 ((25 : Int32)).toNatClampNeg) = (5 : Int32) then ((-4 : Int32), M) else let M5 := em_pI M 119 (((28 : Int32) + ((2 : Int32) * (M.1 119 ((25 : Int32)).toNatClampNeg)))).toNatClampNeg place
  let M6 := em_pI M5 119 ((((28 : Int32) + ((2 : Int32) * (M.1 119 ((25 : Int32)).toNatClampNeg))) + (1 : Int32))).toNatClampNeg v
  let M7 := em_pI M6 119 ((25 : Int32)).toNatClampNeg ((M.1 119 ((25 : Int32)).toNatClampNeg) + (1 : Int32))
  (((M.1 119 ((25 : Int32)).toNatClampNeg) + (1 : Int32)), M7))))
def es_X12_see  (M : em_M) (place : Int32) (v : Int32) : Prop :=
  ((place = (-1 : Int32)) → (∀ M8 : em_M, em_pI M 119 ((25 : Int32)).toNatClampNeg (0 : Int32) = M8 → (
  True))) ∧
  (¬ (place = (-1 : Int32)) → (∀ r2 : Int32, et_X12_in M ((place).toInt64) (0 : Int64) (39 : Int64) = r2 → (
  ((r2 = 0) → (True)) ∧
  (¬ (r2 = 0) → ((((M.1 119 ((25 : Int32)).toNatClampNeg) = (5 : Int32)) → (True)) ∧
  (¬ ((M.1 119 ((25 : Int32)).toNatClampNeg) = (5 : Int32)) → (vp_in ((28 : Int32) + ((2 : Int32) * (M.1 119 ((25 : Int32)).toNatClampNeg))) 5880 ∧ (∀ M5 : em_M, em_pI M 119 (((28 : Int32) + ((2 : Int32) * (M.1 119 ((25 : Int32)).toNatClampNeg)))).toNatClampNeg place = M5 → (
  vp_in (((28 : Int32) + ((2 : Int32) * (M.1 119 ((25 : Int32)).toNatClampNeg))) + (1 : Int32)) 5880 ∧ (∀ M6 : em_M, em_pI M5 119 ((((28 : Int32) + ((2 : Int32) * (M.1 119 ((25 : Int32)).toNatClampNeg))) + (1 : Int32))).toNatClampNeg v = M6 → (
  ∀ M7 : em_M, em_pI M6 119 ((25 : Int32)).toNatClampNeg ((M.1 119 ((25 : Int32)).toNatClampNeg) + (1 : Int32)) = M7 → (
  True))))))))))))
set_option maxHeartbeats 4000000 in
set_option maxRecDepth 100000 in
theorem ec_X12_see (l : Launch) (D : em_G) (B : Nat) (M : em_M) (place : Int32) (v : Int32) (hs : es_X12_see M place v) : em_C l D B yX12_see cX12_see 4 (some .int) 1 25 0 0 false [.ref (B + 118), .int place, .int v] 132 em_R M (some (.int (et_X12_see M place v).1)) 132 em_R ((et_X12_see M place v).2) := by
  refine em_C_of RX12 [(0, .ref (B + 118)), (1, .int place), (2, .int v)] (by decide) rfl rfl (Nat.le_of_ble_eq_true rfl) ?_
  rintro X rfl rfl rfl hRm hnL hnm hsz hX hQ
  obtain ⟨t0, hT⟩ : ∃ tz, et_X12_see M place v = tz := ⟨_, rfl⟩
  rw [hT] at hQ
  rw [es_X12_see] at hs
  refine ez_iload_n hX 1 dX12_see_0 rfl ?_
  refine ez_iconst hX (-1 : Int32) dX12_see_1 (by decide) ?_
  refine ez_icmp_ne hX 15 dX12_see_2 (by decide) (fun c1 => ?_) (fun c1 => ?_)
  · -- c1 jump
    have hs := hs.2 c1
    refine ez_iload_n hX 1 dX12_see_15 rfl ?_
    refine ez_i2l hX dX12_see_16 ?_
    refine ez_lconst hX (0 : Int64) dX12_see_17 (by decide) ?_
    refine ez_ldc2 hX wl_X12_223 dX12_see_18 ?_
    refine ez_callS hX (N0 := 0) (As := [.long ((place).toInt64), .long (0 : Int64), .long (39 : Int64)]) (st := []) (ec_X12_in _ _ _ M ((place).toInt64) (0 : Int64) (39 : Int64)) (Or.inl rfl) wm_X12_54 ws_X12_in wy_X12_in rfl wd_X12_in wi_X12 (ez_rok hRm rfl) (Nat.le_of_ble_eq_true rfl) dX12_see_21 ?_
    refine ez_nmI (fun r2 er2 => ?_)
    have hs := hs r2 er2
    refine ez_if_ne hX 30 dX12_see_24 (by decide) (fun c3 => ?_) (fun c3 => ?_)
    · -- c3 jump
      have hs := hs.2 c3
      refine ez_aload_n hX 0 dX12_see_30 rfl ?_
      refine ez_getr hX kc_118 rfl (Nat.le_of_ble_eq_true rfl) lc_118 (Nat.le_of_ble_eq_true rfl) inX12 119 rfl rc_118_0 wf_X12_11 dX12_see_31 ?_
      refine ez_bipush hX (25 : Int32) dX12_see_34 (by decide) ?_
      refine ez_iald hX kc_119 lc_119 (by unfold vp_in; decide) dX12_see_36 ?_
      refine ez_istore_n hX [(3, .int (M.1 119 ((25 : Int32)).toNatClampNeg)), (0, .ref (ez_B X + 118)), (1, .int place), (2, .int v)] dX12_see_37 (ez_lt hnL rfl) rfl ?_
      refine ez_iload_n hX 0 dX12_see_38 rfl ?_
      refine ez_iconst hX (5 : Int32) dX12_see_39 (by decide) ?_
      refine ez_icmp_ne hX 46 dX12_see_40 (by decide) (fun c4 => ?_) (fun c4 => ?_)
      · -- c4 jump
        have hs := hs.2 c4
        refine ez_aload_n hX 1 dX12_see_46 rfl ?_
        refine ez_getr hX kc_118 rfl (Nat.le_of_ble_eq_true rfl) lc_118 (Nat.le_of_ble_eq_true rfl) inX12 119 rfl rc_118_0 wf_X12_11 dX12_see_47 ?_
        refine ez_bipush hX (28 : Int32) dX12_see_50 (by decide) ?_
        refine ez_iconst hX (2 : Int32) dX12_see_52 (by decide) ?_
        refine ez_iload_n hX 0 dX12_see_53 rfl ?_
        refine ez_imul hX dX12_see_54 ?_
        refine ez_iadd hX dX12_see_55 ?_
        refine ez_iload_n hX 2 dX12_see_56 rfl ?_
        refine ez_iast hX kc_119 lc_119 hs.1 dX12_see_57 ?_
        have hs := hs.2
        refine ez_nmM (fun M5 eM5 => ?_)
        have hs := hs M5 eM5
        refine ez_aload_n hX 1 dX12_see_58 rfl ?_
        refine ez_getr hX kc_118 rfl (Nat.le_of_ble_eq_true rfl) lc_118 (Nat.le_of_ble_eq_true rfl) inX12 119 rfl rc_118_0 wf_X12_11 dX12_see_59 ?_
        refine ez_bipush hX (28 : Int32) dX12_see_62 (by decide) ?_
        refine ez_iconst hX (2 : Int32) dX12_see_64 (by decide) ?_
        refine ez_iload_n hX 0 dX12_see_65 rfl ?_
        refine ez_imul hX dX12_see_66 ?_
        refine ez_iadd hX dX12_see_67 ?_
        refine ez_iconst hX (1 : Int32) dX12_see_68 (by decide) ?_
        refine ez_iadd hX dX12_see_69 ?_
        refine ez_iload_n hX 3 dX12_see_70 rfl ?_
        refine ez_iast hX kc_119 lc_119 hs.1 dX12_see_71 ?_
        have hs := hs.2
        refine ez_nmM (fun M6 eM6 => ?_)
        have hs := hs M6 eM6
        refine ez_aload_n hX 1 dX12_see_72 rfl ?_
        refine ez_getr hX kc_118 rfl (Nat.le_of_ble_eq_true rfl) lc_118 (Nat.le_of_ble_eq_true rfl) inX12 119 rfl rc_118_0 wf_X12_11 dX12_see_73 ?_
        refine ez_bipush hX (25 : Int32) dX12_see_76 (by decide) ?_
        refine ez_iload_n hX 0 dX12_see_78 rfl ?_
        refine ez_iconst hX (1 : Int32) dX12_see_79 (by decide) ?_
        refine ez_iadd hX dX12_see_80 ?_
        refine ez_iast hX kc_119 lc_119 (by unfold vp_in; decide) dX12_see_81 ?_
        refine ez_nmM (fun M7 eM7 => ?_)
        have hs := hs M7 eM7
        refine ez_iload_n hX 0 dX12_see_82 rfl ?_
        refine ez_iconst hX (1 : Int32) dX12_see_83 (by decide) ?_
        refine ez_iadd hX dX12_see_84 ?_
        have ht : t0 = (((M.1 119 ((25 : Int32)).toNatClampNeg) + (1 : Int32)), M7) := hT.symm.trans (by simp only [et_X12_see, if_neg c1, er2, if_neg c3, if_neg c4, eM5, eM6, eM7])
        subst ht
        exact ez_iret hX hQ dX12_see_85 rfl rfl
      · -- c4 on
        have hs := hs.1 c4
        refine ez_bipush hX (-4 : Int32) dX12_see_43 (by decide) ?_
        have ht : t0 = ((-4 : Int32), M) := hT.symm.trans (by simp only [et_X12_see, if_neg c1, er2, if_neg c3, if_pos c4])
        subst ht
        exact ez_iret hX hQ dX12_see_45 rfl rfl
    · -- c3 on
      have hs := hs.1 c3
      refine ez_bipush hX (-2 : Int32) dX12_see_27 (by decide) ?_
      have ht : t0 = ((-2 : Int32), M) := hT.symm.trans (by simp only [et_X12_see, if_neg c1, er2, if_pos c3])
      subst ht
      exact ez_iret hX hQ dX12_see_29 rfl rfl
  · -- c1 on
    have hs := hs.1 c1
    refine ez_aload_n hX 0 dX12_see_5 rfl ?_
    refine ez_getr hX kc_118 rfl (Nat.le_of_ble_eq_true rfl) lc_118 (Nat.le_of_ble_eq_true rfl) inX12 119 rfl rc_118_0 wf_X12_11 dX12_see_6 ?_
    refine ez_bipush hX (25 : Int32) dX12_see_9 (by decide) ?_
    refine ez_iconst hX (0 : Int32) dX12_see_11 (by decide) ?_
    refine ez_iast hX kc_119 lc_119 (by unfold vp_in; decide) dX12_see_12 ?_
    refine ez_nmM (fun M8 eM8 => ?_)
    have hs := hs M8 eM8
    refine ez_iconst hX (0 : Int32) dX12_see_13 (by decide) ?_
    have ht : t0 = ((0 : Int32), M8) := hT.symm.trans (by simp only [et_X12_see, if_pos c1, eM8])
    subst ht
    exact ez_iret hX hQ dX12_see_14 rfl rfl

def et_X12_isSeen_2   : Nat → em_M → Int32 → Int32
  | 0, _, _ => 0
  | fu + 1, M, k =>
  (if (M.1 119 ((25 : Int32)).toNatClampNeg) ≤ k then (1 : Int32) else (if (M.1 119 ((12 : Int32)).toNatClampNeg) ≤ (M.1 119 (((28 : Int32) + ((2 : Int32) * k))).toNatClampNeg) then (0 : Int32) else (if (M.1 119 (((74 : Int32) + (M.1 119 (((28 : Int32) + ((2 : Int32) * k))).toNatClampNeg))).toNatClampNeg) = (M.1 119 ((((28 : Int32) + ((2 : Int32) * k)) + (1 : Int32))).toNatClampNeg) then et_X12_isSeen_2 fu M (k + (1 : Int32)) else (0 : Int32))))
def es_X12_isSeen_2   : Nat → em_M → Int32 → Prop
  | 0, _, _ => False
  | fu + 1, M, k =>
  (((M.1 119 ((25 : Int32)).toNatClampNeg) ≤ k) → (True)) ∧
  (¬ ((M.1 119 ((25 : Int32)).toNatClampNeg) ≤ k) → (vp_in ((28 : Int32) + ((2 : Int32) * k)) 5880 ∧ ((((M.1 119 ((12 : Int32)).toNatClampNeg) ≤ (M.1 119 (((28 : Int32) + ((2 : Int32) * k))).toNatClampNeg)) → (True)) ∧
  (¬ ((M.1 119 ((12 : Int32)).toNatClampNeg) ≤ (M.1 119 (((28 : Int32) + ((2 : Int32) * k))).toNatClampNeg)) → (vp_in ((74 : Int32) + (M.1 119 (((28 : Int32) + ((2 : Int32) * k))).toNatClampNeg)) 5880 ∧ (vp_in (((28 : Int32) + ((2 : Int32) * k)) + (1 : Int32)) 5880 ∧ ((((M.1 119 (((74 : Int32) + (M.1 119 (((28 : Int32) + ((2 : Int32) * k))).toNatClampNeg))).toNatClampNeg) = (M.1 119 ((((28 : Int32) + ((2 : Int32) * k)) + (1 : Int32))).toNatClampNeg)) → (es_X12_isSeen_2 fu M (k + (1 : Int32)))) ∧
  (¬ ((M.1 119 (((74 : Int32) + (M.1 119 (((28 : Int32) + ((2 : Int32) * k))).toNatClampNeg))).toNatClampNeg) = (M.1 119 ((((28 : Int32) + ((2 : Int32) * k)) + (1 : Int32))).toNatClampNeg)) → (True)))))))))
def et_X12_isSeen  (M : em_M) : Int32 :=
  et_X12_isSeen_2 7 M (0 : Int32)
def es_X12_isSeen  (M : em_M) : Prop :=
  es_X12_isSeen_2 7 M (0 : Int32)
set_option maxHeartbeats 4000000 in
set_option maxRecDepth 100000 in
theorem el_X12_isSeen_2 (X : em_X)    (t0 : Int32) (hRm : ez_rm X = { frames := 0, cells := 0, slots := 0, locals := 0 }) (hnL : ez_nL X = 3) (hX : ez_ok X cX12_isSeen RX12) (M : em_M) (hQ : ez_ret X (some .boolean) (some (.int t0)) 132 em_R (M) 0 0) : ∀ (fu : Nat) (k : Int32), es_X12_isSeen_2  fu M k → et_X12_isSeen_2  fu M k = t0 → ez_Z X 132 em_R M 0 0 2 [(0, .ref (ez_B X + 118)), (1, .int k)] [] := by
  intro fu
  induction fu with
  | zero =>
    intro k hs hT
    exact False.elim hs
  | succ fu ih =>
    intro k hs hT
    rw [es_X12_isSeen_2] at hs
    refine ez_iload_n hX 1 dX12_isSeen_2 rfl ?_
    refine ez_aload_n hX 0 dX12_isSeen_3 rfl ?_
    refine ez_getr hX kc_118 rfl (Nat.le_of_ble_eq_true rfl) lc_118 (Nat.le_of_ble_eq_true rfl) inX12 119 rfl rc_118_0 wf_X12_11 dX12_isSeen_4 ?_
    refine ez_bipush hX (25 : Int32) dX12_isSeen_7 (by decide) ?_
    refine ez_iald hX kc_119 lc_119 (by unfold vp_in; decide) dX12_isSeen_9 ?_
    refine ez_icmp_ge hX 69 dX12_isSeen_10 (by decide) (fun c1 => ?_) (fun c1 => ?_)
    · -- c1 jump
      have hs := hs.1 c1
      refine ez_iconst hX (1 : Int32) dX12_isSeen_69 (by decide) ?_
      have ht : t0 = (1 : Int32) := hT.symm.trans (by simp only [et_X12_isSeen_2, if_pos c1])
      subst ht
      exact ez_zret hX hQ dX12_isSeen_70 rfl rfl rfl
    · -- c1 on
      have hs := hs.2 c1
      refine ez_aload_n hX 0 dX12_isSeen_13 rfl ?_
      refine ez_getr hX kc_118 rfl (Nat.le_of_ble_eq_true rfl) lc_118 (Nat.le_of_ble_eq_true rfl) inX12 119 rfl rc_118_0 wf_X12_11 dX12_isSeen_14 ?_
      refine ez_bipush hX (28 : Int32) dX12_isSeen_17 (by decide) ?_
      refine ez_iconst hX (2 : Int32) dX12_isSeen_19 (by decide) ?_
      refine ez_iload_n hX 1 dX12_isSeen_20 rfl ?_
      refine ez_imul hX dX12_isSeen_21 ?_
      refine ez_iadd hX dX12_isSeen_22 ?_
      refine ez_iald hX kc_119 lc_119 hs.1 dX12_isSeen_23 ?_
      have hs := hs.2
      refine ez_istore_n hX [(2, .int (M.1 119 (((28 : Int32) + ((2 : Int32) * k))).toNatClampNeg)), (0, .ref (ez_B X + 118)), (1, .int k)] dX12_isSeen_24 (ez_lt hnL rfl) rfl ?_
      refine ez_iload_n hX 0 dX12_isSeen_25 rfl ?_
      refine ez_aload_n hX 1 dX12_isSeen_26 rfl ?_
      refine ez_getr hX kc_118 rfl (Nat.le_of_ble_eq_true rfl) lc_118 (Nat.le_of_ble_eq_true rfl) inX12 119 rfl rc_118_0 wf_X12_11 dX12_isSeen_27 ?_
      refine ez_bipush hX (12 : Int32) dX12_isSeen_30 (by decide) ?_
      refine ez_iald hX kc_119 lc_119 (by unfold vp_in; decide) dX12_isSeen_32 ?_
      refine ez_icmp_ge hX 61 dX12_isSeen_33 (by decide) (fun c2 => ?_) (fun c2 => ?_)
      · -- c2 jump
        have hs := hs.1 c2
        refine ez_iconst hX (0 : Int32) dX12_isSeen_61 (by decide) ?_
        have ht : t0 = (0 : Int32) := hT.symm.trans (by simp only [et_X12_isSeen_2, if_neg c1, if_pos c2])
        subst ht
        exact ez_zret hX hQ dX12_isSeen_62 rfl rfl rfl
      · -- c2 on
        have hs := hs.2 c2
        refine ez_aload_n hX 1 dX12_isSeen_36 rfl ?_
        refine ez_getr hX kc_118 rfl (Nat.le_of_ble_eq_true rfl) lc_118 (Nat.le_of_ble_eq_true rfl) inX12 119 rfl rc_118_0 wf_X12_11 dX12_isSeen_37 ?_
        refine ez_bipush hX (74 : Int32) dX12_isSeen_40 (by decide) ?_
        refine ez_iload_n hX 0 dX12_isSeen_42 rfl ?_
        refine ez_iadd hX dX12_isSeen_43 ?_
        refine ez_iald hX kc_119 lc_119 hs.1 dX12_isSeen_44 ?_
        have hs := hs.2
        refine ez_aload_n hX 1 dX12_isSeen_45 rfl ?_
        refine ez_getr hX kc_118 rfl (Nat.le_of_ble_eq_true rfl) lc_118 (Nat.le_of_ble_eq_true rfl) inX12 119 rfl rc_118_0 wf_X12_11 dX12_isSeen_46 ?_
        refine ez_bipush hX (28 : Int32) dX12_isSeen_49 (by decide) ?_
        refine ez_iconst hX (2 : Int32) dX12_isSeen_51 (by decide) ?_
        refine ez_iload_n hX 2 dX12_isSeen_52 rfl ?_
        refine ez_imul hX dX12_isSeen_53 ?_
        refine ez_iadd hX dX12_isSeen_54 ?_
        refine ez_iconst hX (1 : Int32) dX12_isSeen_55 (by decide) ?_
        refine ez_iadd hX dX12_isSeen_56 ?_
        refine ez_iald hX kc_119 lc_119 hs.1 dX12_isSeen_57 ?_
        have hs := hs.2
        refine ez_icmp_eq hX 63 dX12_isSeen_58 (by decide) (fun c3 => ?_) (fun c3 => ?_)
        · -- c3 jump
          have hs := hs.1 c3
          refine ez_iinc hX (k + (1 : Int32)) 2 [(1, .int (k + (1 : Int32))), (2, .int (M.1 119 (((28 : Int32) + ((2 : Int32) * k))).toNatClampNeg)), (0, .ref (ez_B X + 118))] dX12_isSeen_63 rfl rfl (ez_lt hnL rfl) rfl ?_
          refine ez_goto hX 2 dX12_isSeen_66 (by decide) ?_
          refine ez_lv [2, 0] rfl ?_
          exact ih (k + (1 : Int32)) hs (Eq.trans (by simp only [et_X12_isSeen_2, if_neg c1, if_neg c2, if_pos c3]) hT)
        · -- c3 on
          have hs := hs.2 c3
          refine ez_iconst hX (0 : Int32) dX12_isSeen_61 (by decide) ?_
          have ht : t0 = (0 : Int32) := hT.symm.trans (by simp only [et_X12_isSeen_2, if_neg c1, if_neg c2, if_neg c3])
          subst ht
          exact ez_zret hX hQ dX12_isSeen_62 rfl rfl rfl
set_option maxHeartbeats 4000000 in
set_option maxRecDepth 100000 in
theorem ec_X12_isSeen (l : Launch) (D : em_G) (B : Nat) (M : em_M) (hs : es_X12_isSeen M) : em_C l D B yX12_isSeen cX12_isSeen 3 (some .boolean) 0 0 0 0 false [.ref (B + 118)] 132 em_R M (some (.int (et_X12_isSeen M))) 132 em_R (M) := by
  refine em_C_of RX12 [(0, .ref (B + 118))] (by decide) rfl rfl (Nat.le_of_ble_eq_true rfl) ?_
  rintro X rfl rfl rfl hRm hnL hnm hsz hX hQ
  obtain ⟨t0, hT⟩ : ∃ tz, et_X12_isSeen M = tz := ⟨_, rfl⟩
  rw [hT] at hQ
  rw [es_X12_isSeen] at hs
  refine ez_iconst hX (0 : Int32) dX12_isSeen_0 (by decide) ?_
  refine ez_istore_n hX [(1, .int (0 : Int32)), (0, .ref (ez_B X + 118))] dX12_isSeen_1 (ez_lt hnL rfl) rfl ?_
  refine ez_lv [1, 0] rfl ?_
  exact el_X12_isSeen_2 X  t0 hRm hnL hX M hQ 7 (0 : Int32) hs (Eq.trans (by simp only [et_X12_isSeen]) hT)

def et_X12_fits_49   : Nat → em_M → Int32 → Int32 → Int32 → Int32 → Int32 → Int32 → Int32 × em_M
  | 0, M, _, _, _, _, _, _ => (0, M)
  | fu + 1, M, line, name, what, n, least, v =>
  (if v < 0 then (if what = 0 then (n, M) else (least, M)) else let M10 := em_pI M 119 (((0 : Int32) + name)).toNatClampNeg v
  let M11 := et_X12_runs M10 line
  let r12 := et_X12_isSeen M11
  (if r12 = 0 then let M14 := et_X12_copies 120 5880 119 5880 M11
  et_X12_fits_49 fu M14 line name what n least (v + (-1 : Int32)) else let M15 := et_X12_copies 120 5880 119 5880 M11
  et_X12_fits_49 fu M15 line name what (n + (1 : Int32)) v (v + (-1 : Int32))))
def es_X12_fits_49   : Nat → em_M → Int32 → Int32 → Int32 → Int32 → Int32 → Int32 → Prop
  | 0, _, _, _, _, _, _, _ => False
  | fu + 1, M, line, name, what, n, least, v =>
  ((v < 0) → (((what = 0) → (True)) ∧
  (¬ (what = 0) → (True)))) ∧
  (¬ (v < 0) → (vp_in ((0 : Int32) + name) 5880 ∧ (∀ M10 : em_M, em_pI M 119 (((0 : Int32) + name)).toNatClampNeg v = M10 → (
  es_X12_runs M10 line ∧ (∀ M11 : em_M, et_X12_runs M10 line = M11 → (
  es_X12_isSeen M11 ∧ (∀ r12 : Int32, et_X12_isSeen M11 = r12 → (
  ((r12 = 0) → (es_X12_copies 120 5880 119 5880 M11 ∧ (∀ M14 : em_M, et_X12_copies 120 5880 119 5880 M11 = M14 → (
  es_X12_fits_49 fu M14 line name what n least (v + (-1 : Int32)))))) ∧
  (¬ (r12 = 0) → (es_X12_copies 120 5880 119 5880 M11 ∧ (∀ M15 : em_M, et_X12_copies 120 5880 119 5880 M11 = M15 → (
  es_X12_fits_49 fu M15 line name what (n + (1 : Int32)) v (v + (-1 : Int32))))))))))))))
def et_X12_fits  (M : em_M) (line : Int32) (name : Int32) (what : Int32) : Int32 × em_M :=
  let r1 := et_X12_isLine M line
  (if r1 = 0 then ((-1 : Int32), M) else let r3 := et_X12_isName M name
  (if r3 = 0 then ((-1 : Int32), M) else let r5 := et_X12_in M ((what).toInt64) (0 : Int64) (1 : Int64)
  (if r5 = 0 then ((-1 : Int32), M) else let M7 := et_X12_copies 119 5880 120 5880 M
  et_X12_fits_49 21 M7 line name what (0 : Int32) (-5 : Int32) (19 : Int32))))
def es_X12_fits  (M : em_M) (line : Int32) (name : Int32) (what : Int32) : Prop :=
  ∀ r1 : Int32, et_X12_isLine M line = r1 → (
  ((r1 = 0) → (True)) ∧
  (¬ (r1 = 0) → (∀ r3 : Int32, et_X12_isName M name = r3 → (
  ((r3 = 0) → (True)) ∧
  (¬ (r3 = 0) → (∀ r5 : Int32, et_X12_in M ((what).toInt64) (0 : Int64) (1 : Int64) = r5 → (
  ((r5 = 0) → (True)) ∧
  (¬ (r5 = 0) → (es_X12_copies 119 5880 120 5880 M ∧ (∀ M7 : em_M, et_X12_copies 119 5880 120 5880 M = M7 → (
  es_X12_fits_49 21 M7 line name what (0 : Int32) (-5 : Int32) (19 : Int32))))))))))))
set_option maxHeartbeats 4000000 in
set_option maxRecDepth 100000 in
theorem el_X12_fits_49 (X : em_X)    (t0 : Int32 × em_M) (hRm : ez_rm X = { frames := 7, cells := 0, slots := 0, locals := 178 }) (hnL : ez_nL X = 7) (hX : ez_ok X cX12_fits RX12) (hQ : ez_ret X (some .int) (some (.int t0.1)) 132 em_R (t0.2) 0 0) : ∀ (fu : Nat) (M : em_M) (line : Int32) (name : Int32) (what : Int32) (n : Int32) (least : Int32) (v : Int32), es_X12_fits_49  fu M line name what n least v → et_X12_fits_49  fu M line name what n least v = t0 → ez_Z X 132 em_R M 0 0 49 [(0, .ref (ez_B X + 118)), (1, .int line), (2, .int name), (3, .int what), (4, .int n), (5, .int least), (6, .int v)] [] := by
  intro fu
  induction fu with
  | zero =>
    intro M line name what n least v hs hT
    exact False.elim hs
  | succ fu ih =>
    intro M line name what n least v hs hT
    rw [es_X12_fits_49] at hs
    refine ez_iload hX 6 dX12_fits_49 rfl ?_
    refine ez_if_lt hX 100 dX12_fits_51 (by decide) (fun c8 => ?_) (fun c8 => ?_)
    · -- c8 jump
      have hs := hs.1 c8
      refine ez_iload_n hX 3 dX12_fits_100 rfl ?_
      refine ez_if_ne hX 109 dX12_fits_101 (by decide) (fun c9 => ?_) (fun c9 => ?_)
      · -- c9 jump
        have hs := hs.2 c9
        refine ez_iload hX 5 dX12_fits_109 rfl ?_
        have ht : t0 = (least, M) := hT.symm.trans (by simp only [et_X12_fits_49, if_pos c8, if_neg c9])
        subst ht
        exact ez_iret hX hQ dX12_fits_111 rfl rfl
      · -- c9 on
        have hs := hs.1 c9
        refine ez_iload hX 4 dX12_fits_104 rfl ?_
        refine ez_goto hX 111 dX12_fits_106 (by decide) ?_
        have ht : t0 = (n, M) := hT.symm.trans (by simp only [et_X12_fits_49, if_pos c8, if_pos c9])
        subst ht
        exact ez_iret hX hQ dX12_fits_111 rfl rfl
    · -- c8 on
      have hs := hs.2 c8
      refine ez_aload_n hX 0 dX12_fits_54 rfl ?_
      refine ez_getr hX kc_118 rfl (Nat.le_of_ble_eq_true rfl) lc_118 (Nat.le_of_ble_eq_true rfl) inX12 119 rfl rc_118_0 wf_X12_11 dX12_fits_55 ?_
      refine ez_iconst hX (0 : Int32) dX12_fits_58 (by decide) ?_
      refine ez_iload_n hX 2 dX12_fits_59 rfl ?_
      refine ez_iadd hX dX12_fits_60 ?_
      refine ez_iload hX 6 dX12_fits_61 rfl ?_
      refine ez_iast hX kc_119 lc_119 hs.1 dX12_fits_63 ?_
      have hs := hs.2
      refine ez_nmM (fun M10 eM10 => ?_)
      have hs := hs M10 eM10
      refine ez_aload_n hX 0 dX12_fits_64 rfl ?_
      refine ez_iload_n hX 1 dX12_fits_65 rfl ?_
      refine ez_callV hX (N0 := 0) (As := [.int line]) (st := []) kc_118 (Nat.le_of_ble_eq_true rfl) lc_118 rfl (ec_X12_runs _ _ _ M10 line hs.1) (Or.inl rfl) wm_X12_196 wv_X12_runs we_X12_runs wy_X12_runs rfl wd_X12_runs wi_X12 (ez_rok hRm rfl) (Nat.le_of_ble_eq_true rfl) dX12_fits_66 ?_
      have hs := hs.2
      refine ez_nmM (fun M11 eM11 => ?_)
      have hs := hs M11 eM11
      refine ez_aload_n hX 0 dX12_fits_69 rfl ?_
      refine ez_callV hX (N0 := 0) (As := []) (st := []) kc_118 (Nat.le_of_ble_eq_true rfl) lc_118 rfl (ec_X12_isSeen _ _ _ M11 hs.1) (Or.inl rfl) wm_X12_229 wv_X12_isSeen we_X12_isSeen wy_X12_isSeen rfl wd_X12_isSeen wi_X12 (ez_rok hRm rfl) (Nat.le_of_ble_eq_true rfl) dX12_fits_70 ?_
      have hs := hs.2
      refine ez_nmI (fun r12 er12 => ?_)
      have hs := hs r12 er12
      refine ez_if_eq hX 83 dX12_fits_73 (by decide) (fun c13 => ?_) (fun c13 => ?_)
      · -- c13 jump
        have hs := hs.1 c13
        refine ez_aload_n hX 0 dX12_fits_83 rfl ?_
        refine ez_getr hX kc_118 rfl (Nat.le_of_ble_eq_true rfl) lc_118 (Nat.le_of_ble_eq_true rfl) inX12 120 rfl rc_118_1 wf_X12_15 dX12_fits_84 ?_
        refine ez_aload_n hX 0 dX12_fits_87 rfl ?_
        refine ez_getr hX kc_118 rfl (Nat.le_of_ble_eq_true rfl) lc_118 (Nat.le_of_ble_eq_true rfl) inX12 119 rfl rc_118_0 wf_X12_11 dX12_fits_88 ?_
        refine ez_callS hX (N0 := 0) (As := [.ref (ez_B X + 120), .ref (ez_B X + 119)]) (st := []) (ec_X12_copies _ _ _ 120 5880 kc_120 lc_120 119 5880 kc_119 lc_119 M11 hs.1) (Or.inl rfl) wm_X12_225 ws_X12_copies wy_X12_copies rfl wd_X12_copies wi_X12 (ez_rok hRm rfl) (Nat.le_of_ble_eq_true rfl) dX12_fits_91 ?_
        have hs := hs.2
        refine ez_nmM (fun M14 eM14 => ?_)
        have hs := hs M14 eM14
        refine ez_iinc hX (v + (-1 : Int32)) 6 [(6, .int (v + (-1 : Int32))), (0, .ref (ez_B X + 118)), (1, .int line), (2, .int name), (3, .int what), (4, .int n), (5, .int least)] dX12_fits_94 rfl rfl (ez_lt hnL rfl) rfl ?_
        refine ez_goto hX 49 dX12_fits_97 (by decide) ?_
        refine ez_lv [1, 2, 3, 4, 5, 6, 0] rfl ?_
        exact ih M14 line name what n least (v + (-1 : Int32)) hs (Eq.trans (by simp only [et_X12_fits_49, if_neg c8, eM10, eM11, er12, if_pos c13, eM14]) hT)
      · -- c13 on
        have hs := hs.2 c13
        refine ez_iinc hX (n + (1 : Int32)) 4 [(4, .int (n + (1 : Int32))), (0, .ref (ez_B X + 118)), (1, .int line), (2, .int name), (3, .int what), (5, .int least), (6, .int v)] dX12_fits_76 rfl rfl (ez_lt hnL rfl) rfl ?_
        refine ez_iload hX 6 dX12_fits_79 rfl ?_
        refine ez_istore hX [(5, .int v), (4, .int (n + (1 : Int32))), (0, .ref (ez_B X + 118)), (1, .int line), (2, .int name), (3, .int what), (6, .int v)] dX12_fits_81 (ez_lt hnL rfl) rfl ?_
        refine ez_aload_n hX 2 dX12_fits_83 rfl ?_
        refine ez_getr hX kc_118 rfl (Nat.le_of_ble_eq_true rfl) lc_118 (Nat.le_of_ble_eq_true rfl) inX12 120 rfl rc_118_1 wf_X12_15 dX12_fits_84 ?_
        refine ez_aload_n hX 2 dX12_fits_87 rfl ?_
        refine ez_getr hX kc_118 rfl (Nat.le_of_ble_eq_true rfl) lc_118 (Nat.le_of_ble_eq_true rfl) inX12 119 rfl rc_118_0 wf_X12_11 dX12_fits_88 ?_
        refine ez_callS hX (N0 := 0) (As := [.ref (ez_B X + 120), .ref (ez_B X + 119)]) (st := []) (ec_X12_copies _ _ _ 120 5880 kc_120 lc_120 119 5880 kc_119 lc_119 M11 hs.1) (Or.inl rfl) wm_X12_225 ws_X12_copies wy_X12_copies rfl wd_X12_copies wi_X12 (ez_rok hRm rfl) (Nat.le_of_ble_eq_true rfl) dX12_fits_91 ?_
        have hs := hs.2
        refine ez_nmM (fun M15 eM15 => ?_)
        have hs := hs M15 eM15
        refine ez_iinc hX (v + (-1 : Int32)) 6 [(6, .int (v + (-1 : Int32))), (5, .int v), (4, .int (n + (1 : Int32))), (0, .ref (ez_B X + 118)), (1, .int line), (2, .int name), (3, .int what)] dX12_fits_94 rfl rfl (ez_lt hnL rfl) rfl ?_
        refine ez_goto hX 49 dX12_fits_97 (by decide) ?_
        refine ez_lv [3, 4, 5, 6, 2, 1, 0] rfl ?_
        exact ih M15 line name what (n + (1 : Int32)) v (v + (-1 : Int32)) hs (Eq.trans (by simp only [et_X12_fits_49, if_neg c8, eM10, eM11, er12, if_neg c13, eM15]) hT)
set_option maxHeartbeats 4000000 in
set_option maxRecDepth 100000 in
theorem ec_X12_fits (l : Launch) (D : em_G) (B : Nat) (M : em_M) (line : Int32) (name : Int32) (what : Int32) (hs : es_X12_fits M line name what) : em_C l D B yX12_fits cX12_fits 7 (some .int) 7 178 0 0 false [.ref (B + 118), .int line, .int name, .int what] 132 em_R M (some (.int (et_X12_fits M line name what).1)) 132 em_R ((et_X12_fits M line name what).2) := by
  refine em_C_of RX12 [(0, .ref (B + 118)), (1, .int line), (2, .int name), (3, .int what)] (by decide) rfl rfl (Nat.le_of_ble_eq_true rfl) ?_
  rintro X rfl rfl rfl hRm hnL hnm hsz hX hQ
  obtain ⟨t0, hT⟩ : ∃ tz, et_X12_fits M line name what = tz := ⟨_, rfl⟩
  rw [hT] at hQ
  rw [es_X12_fits] at hs
  refine ez_aload_n hX 0 dX12_fits_0 rfl ?_
  refine ez_iload_n hX 1 dX12_fits_1 rfl ?_
  refine ez_callV hX (N0 := 0) (As := [.int line]) (st := []) kc_118 (Nat.le_of_ble_eq_true rfl) lc_118 rfl (ec_X12_isLine _ _ _ M line) (Or.inl rfl) wm_X12_124 wv_X12_isLine we_X12_isLine wy_X12_isLine rfl wd_X12_isLine wi_X12 (ez_rok hRm rfl) (Nat.le_of_ble_eq_true rfl) dX12_fits_2 ?_
  refine ez_nmI (fun r1 er1 => ?_)
  have hs := hs r1 er1
  refine ez_if_eq hX 25 dX12_fits_5 (by decide) (fun c2 => ?_) (fun c2 => ?_)
  · -- c2 jump
    have hs := hs.1 c2
    refine ez_iconst hX (-1 : Int32) dX12_fits_25 (by decide) ?_
    have ht : t0 = ((-1 : Int32), M) := hT.symm.trans (by simp only [et_X12_fits, er1, if_pos c2])
    subst ht
    exact ez_iret hX hQ dX12_fits_26 rfl rfl
  · -- c2 on
    have hs := hs.2 c2
    refine ez_iload_n hX 2 dX12_fits_8 rfl ?_
    refine ez_callS hX (N0 := 0) (As := [.int name]) (st := []) (ec_X12_isName _ _ _ M name) (Or.inl rfl) wm_X12_131 ws_X12_isName wy_X12_isName rfl wd_X12_isName wi_X12 (ez_rok hRm rfl) (Nat.le_of_ble_eq_true rfl) dX12_fits_9 ?_
    refine ez_nmI (fun r3 er3 => ?_)
    have hs := hs r3 er3
    refine ez_if_eq hX 25 dX12_fits_12 (by decide) (fun c4 => ?_) (fun c4 => ?_)
    · -- c4 jump
      have hs := hs.1 c4
      refine ez_iconst hX (-1 : Int32) dX12_fits_25 (by decide) ?_
      have ht : t0 = ((-1 : Int32), M) := hT.symm.trans (by simp only [et_X12_fits, er1, if_neg c2, er3, if_pos c4])
      subst ht
      exact ez_iret hX hQ dX12_fits_26 rfl rfl
    · -- c4 on
      have hs := hs.2 c4
      refine ez_iload_n hX 3 dX12_fits_15 rfl ?_
      refine ez_i2l hX dX12_fits_16 ?_
      refine ez_lconst hX (0 : Int64) dX12_fits_17 (by decide) ?_
      refine ez_lconst hX (1 : Int64) dX12_fits_18 (by decide) ?_
      refine ez_callS hX (N0 := 0) (As := [.long ((what).toInt64), .long (0 : Int64), .long (1 : Int64)]) (st := []) (ec_X12_in _ _ _ M ((what).toInt64) (0 : Int64) (1 : Int64)) (Or.inl rfl) wm_X12_54 ws_X12_in wy_X12_in rfl wd_X12_in wi_X12 (ez_rok hRm rfl) (Nat.le_of_ble_eq_true rfl) dX12_fits_19 ?_
      refine ez_nmI (fun r5 er5 => ?_)
      have hs := hs r5 er5
      refine ez_if_ne hX 27 dX12_fits_22 (by decide) (fun c6 => ?_) (fun c6 => ?_)
      · -- c6 jump
        have hs := hs.2 c6
        refine ez_iconst hX (0 : Int32) dX12_fits_27 (by decide) ?_
        refine ez_istore hX [(4, .int (0 : Int32)), (0, .ref (ez_B X + 118)), (1, .int line), (2, .int name), (3, .int what)] dX12_fits_28 (ez_lt hnL rfl) rfl ?_
        refine ez_bipush hX (-5 : Int32) dX12_fits_30 (by decide) ?_
        refine ez_istore hX [(5, .int (-5 : Int32)), (4, .int (0 : Int32)), (0, .ref (ez_B X + 118)), (1, .int line), (2, .int name), (3, .int what)] dX12_fits_32 (ez_lt hnL rfl) rfl ?_
        refine ez_aload_n hX 2 dX12_fits_34 rfl ?_
        refine ez_getr hX kc_118 rfl (Nat.le_of_ble_eq_true rfl) lc_118 (Nat.le_of_ble_eq_true rfl) inX12 119 rfl rc_118_0 wf_X12_11 dX12_fits_35 ?_
        refine ez_aload_n hX 2 dX12_fits_38 rfl ?_
        refine ez_getr hX kc_118 rfl (Nat.le_of_ble_eq_true rfl) lc_118 (Nat.le_of_ble_eq_true rfl) inX12 120 rfl rc_118_1 wf_X12_15 dX12_fits_39 ?_
        refine ez_callS hX (N0 := 0) (As := [.ref (ez_B X + 119), .ref (ez_B X + 120)]) (st := []) (ec_X12_copies _ _ _ 119 5880 kc_119 lc_119 120 5880 kc_120 lc_120 M hs.1) (Or.inl rfl) wm_X12_225 ws_X12_copies wy_X12_copies rfl wd_X12_copies wi_X12 (ez_rok hRm rfl) (Nat.le_of_ble_eq_true rfl) dX12_fits_42 ?_
        have hs := hs.2
        refine ez_nmM (fun M7 eM7 => ?_)
        have hs := hs M7 eM7
        refine ez_bipush hX (19 : Int32) dX12_fits_45 (by decide) ?_
        refine ez_istore hX [(6, .int (19 : Int32)), (5, .int (-5 : Int32)), (4, .int (0 : Int32)), (0, .ref (ez_B X + 118)), (1, .int line), (2, .int name), (3, .int what)] dX12_fits_47 (ez_lt hnL rfl) rfl ?_
        refine ez_lv [3, 4, 5, 6, 2, 1, 0] rfl ?_
        exact el_X12_fits_49 X  t0 hRm hnL hX hQ 21 M7 line name what (0 : Int32) (-5 : Int32) (19 : Int32) hs (Eq.trans (by simp only [et_X12_fits, er1, if_neg c2, er3, if_neg c4, er5, if_neg c6, eM7]) hT)
      · -- c6 on
        have hs := hs.1 c6
        refine ez_iconst hX (-1 : Int32) dX12_fits_25 (by decide) ?_
        have ht : t0 = ((-1 : Int32), M) := hT.symm.trans (by simp only [et_X12_fits, er1, if_neg c2, er3, if_neg c4, er5, if_pos c6])
        subst ht
        exact ez_iret hX hQ dX12_fits_26 rfl rfl

def et_X12_alike_169   : Nat → em_M → Int32 → Int32 → Int32 × em_M
  | 0, M, _, _ => (0, M)
  | fu + 1, M, same, k =>
  (if (M.1 119 ((12 : Int32)).toNatClampNeg) ≤ k then let M13 := et_X12_copies 120 5880 119 5880 M
  (if same = 0 then ((0 : Int32), M13) else ((1 : Int32), M13)) else (if same = 0 then et_X12_alike_169 fu M (0 : Int32) (k + (1 : Int32)) else (if (M.1 119 (((74 : Int32) + k)).toNatClampNeg) = (M.1 128 (((74 : Int32) + k)).toNatClampNeg) then et_X12_alike_169 fu M (1 : Int32) (k + (1 : Int32)) else et_X12_alike_169 fu M (0 : Int32) (k + (1 : Int32)))))
def es_X12_alike_169   : Nat → em_M → Int32 → Int32 → Prop
  | 0, _, _, _ => False
  | fu + 1, M, same, k =>
  (((M.1 119 ((12 : Int32)).toNatClampNeg) ≤ k) → (es_X12_copies 120 5880 119 5880 M ∧ (∀ M13 : em_M, et_X12_copies 120 5880 119 5880 M = M13 → (
  ((same = 0) → (True)) ∧
  (¬ (same = 0) → (True)))))) ∧
  (¬ ((M.1 119 ((12 : Int32)).toNatClampNeg) ≤ k) → (((same = 0) → (es_X12_alike_169 fu M (0 : Int32) (k + (1 : Int32)))) ∧
  (¬ (same = 0) → (vp_in ((74 : Int32) + k) 5880 ∧ (vp_in ((74 : Int32) + k) 5880 ∧ ((((M.1 119 (((74 : Int32) + k)).toNatClampNeg) = (M.1 128 (((74 : Int32) + k)).toNatClampNeg)) → (es_X12_alike_169 fu M (1 : Int32) (k + (1 : Int32)))) ∧
  (¬ ((M.1 119 (((74 : Int32) + k)).toNatClampNeg) = (M.1 128 (((74 : Int32) + k)).toNatClampNeg)) → (es_X12_alike_169 fu M (0 : Int32) (k + (1 : Int32))))))))))
def et_X12_alike  (M : em_M) (line : Int32) (second : Int32) : Int32 × em_M :=
  let r1 := et_X12_isLine M line
  (if r1 = 0 then ((-1 : Int32), M) else let r3 := et_X12_isLine M second
  (if r3 = 0 then ((-1 : Int32), M) else let M5 := et_X12_copies 119 5880 120 5880 M
  let M6 := et_X12_runs M5 line
  let M7 := et_X12_copies 119 5880 128 5880 M6
  let M8 := et_X12_copies 120 5880 119 5880 M7
  let M9 := et_X12_runs M8 second
  (if (M9.1 119 ((7 : Int32)).toNatClampNeg) = (M9.1 128 ((7 : Int32)).toNatClampNeg) then (if (M9.1 119 ((12 : Int32)).toNatClampNeg) = (M9.1 128 ((12 : Int32)).toNatClampNeg) then (if (M9.1 119 ((7 : Int32)).toNatClampNeg) = 0 then (if (M9.1 119 ((8 : Int32)).toNatClampNeg) = (M9.1 128 ((8 : Int32)).toNatClampNeg) then (if (M9.1 119 ((8 : Int32)).toNatClampNeg) = (1 : Int32) then et_X12_alike_169 42 M9 (1 : Int32) (0 : Int32) else (if (M9.1 119 ((9 : Int32)).toNatClampNeg) = (M9.1 128 ((9 : Int32)).toNatClampNeg) then et_X12_alike_169 42 M9 (1 : Int32) (0 : Int32) else et_X12_alike_169 42 M9 (0 : Int32) (0 : Int32))) else et_X12_alike_169 42 M9 (0 : Int32) (0 : Int32)) else et_X12_alike_169 42 M9 (1 : Int32) (0 : Int32)) else (if (M9.1 119 ((7 : Int32)).toNatClampNeg) = 0 then et_X12_alike_169 42 M9 (0 : Int32) (0 : Int32) else et_X12_alike_169 42 M9 (0 : Int32) (0 : Int32))) else (if (M9.1 119 ((7 : Int32)).toNatClampNeg) = 0 then et_X12_alike_169 42 M9 (0 : Int32) (0 : Int32) else et_X12_alike_169 42 M9 (0 : Int32) (0 : Int32)))))
def es_X12_alike  (M : em_M) (line : Int32) (second : Int32) : Prop :=
  ∀ r1 : Int32, et_X12_isLine M line = r1 → (
  ((r1 = 0) → (True)) ∧
  (¬ (r1 = 0) → (∀ r3 : Int32, et_X12_isLine M second = r3 → (
  ((r3 = 0) → (True)) ∧
  (¬ (r3 = 0) → (es_X12_copies 119 5880 120 5880 M ∧ (∀ M5 : em_M, et_X12_copies 119 5880 120 5880 M = M5 → (
  es_X12_runs M5 line ∧ (∀ M6 : em_M, et_X12_runs M5 line = M6 → (
  es_X12_copies 119 5880 128 5880 M6 ∧ (∀ M7 : em_M, et_X12_copies 119 5880 128 5880 M6 = M7 → (
  es_X12_copies 120 5880 119 5880 M7 ∧ (∀ M8 : em_M, et_X12_copies 120 5880 119 5880 M7 = M8 → (
  es_X12_runs M8 second ∧ (∀ M9 : em_M, et_X12_runs M8 second = M9 → (
  (((M9.1 119 ((7 : Int32)).toNatClampNeg) = (M9.1 128 ((7 : Int32)).toNatClampNeg)) → ((((M9.1 119 ((12 : Int32)).toNatClampNeg) = (M9.1 128 ((12 : Int32)).toNatClampNeg)) → ((((M9.1 119 ((7 : Int32)).toNatClampNeg) = 0) → ((((M9.1 119 ((8 : Int32)).toNatClampNeg) = (M9.1 128 ((8 : Int32)).toNatClampNeg)) → ((((M9.1 119 ((8 : Int32)).toNatClampNeg) = (1 : Int32)) → (es_X12_alike_169 42 M9 (1 : Int32) (0 : Int32))) ∧
  (¬ ((M9.1 119 ((8 : Int32)).toNatClampNeg) = (1 : Int32)) → ((((M9.1 119 ((9 : Int32)).toNatClampNeg) = (M9.1 128 ((9 : Int32)).toNatClampNeg)) → (es_X12_alike_169 42 M9 (1 : Int32) (0 : Int32))) ∧
  (¬ ((M9.1 119 ((9 : Int32)).toNatClampNeg) = (M9.1 128 ((9 : Int32)).toNatClampNeg)) → (es_X12_alike_169 42 M9 (0 : Int32) (0 : Int32))))))) ∧
  (¬ ((M9.1 119 ((8 : Int32)).toNatClampNeg) = (M9.1 128 ((8 : Int32)).toNatClampNeg)) → (es_X12_alike_169 42 M9 (0 : Int32) (0 : Int32))))) ∧
  (¬ ((M9.1 119 ((7 : Int32)).toNatClampNeg) = 0) → (es_X12_alike_169 42 M9 (1 : Int32) (0 : Int32))))) ∧
  (¬ ((M9.1 119 ((12 : Int32)).toNatClampNeg) = (M9.1 128 ((12 : Int32)).toNatClampNeg)) → ((((M9.1 119 ((7 : Int32)).toNatClampNeg) = 0) → (es_X12_alike_169 42 M9 (0 : Int32) (0 : Int32))) ∧
  (¬ ((M9.1 119 ((7 : Int32)).toNatClampNeg) = 0) → (es_X12_alike_169 42 M9 (0 : Int32) (0 : Int32))))))) ∧
  (¬ ((M9.1 119 ((7 : Int32)).toNatClampNeg) = (M9.1 128 ((7 : Int32)).toNatClampNeg)) → ((((M9.1 119 ((7 : Int32)).toNatClampNeg) = 0) → (es_X12_alike_169 42 M9 (0 : Int32) (0 : Int32))) ∧
  (¬ ((M9.1 119 ((7 : Int32)).toNatClampNeg) = 0) → (es_X12_alike_169 42 M9 (0 : Int32) (0 : Int32)))))))))))))))))))))
set_option maxHeartbeats 4000000 in
set_option maxRecDepth 100000 in
theorem el_X12_alike_169 (X : em_X)    (t0 : Int32 × em_M) (hRm : ez_rm X = { frames := 7, cells := 0, slots := 0, locals := 178 }) (hnL : ez_nL X = 5) (hX : ez_ok X cX12_alike RX12) (hQ : ez_ret X (some .int) (some (.int t0.1)) 132 em_R (t0.2) 0 0) : ∀ (fu : Nat) (M : em_M) (same : Int32) (k : Int32), es_X12_alike_169  fu M same k → et_X12_alike_169  fu M same k = t0 → ez_Z X 132 em_R M 0 0 169 [(0, .ref (ez_B X + 118)), (3, .int same), (4, .int k)] [] := by
  intro fu
  induction fu with
  | zero =>
    intro M same k hs hT
    exact False.elim hs
  | succ fu ih =>
    intro M same k hs hT
    rw [es_X12_alike_169] at hs
    refine ez_iload hX 2 dX12_alike_169 rfl ?_
    refine ez_aload_n hX 0 dX12_alike_171 rfl ?_
    refine ez_getr hX kc_118 rfl (Nat.le_of_ble_eq_true rfl) lc_118 (Nat.le_of_ble_eq_true rfl) inX12 119 rfl rc_118_0 wf_X12_11 dX12_alike_172 ?_
    refine ez_bipush hX (12 : Int32) dX12_alike_175 (by decide) ?_
    refine ez_iald hX kc_119 lc_119 (by unfold vp_in; decide) dX12_alike_177 ?_
    refine ez_icmp_ge hX 220 dX12_alike_178 (by decide) (fun c12 => ?_) (fun c12 => ?_)
    · -- c12 jump
      have hs := hs.1 c12
      refine ez_aload_n hX 0 dX12_alike_220 rfl ?_
      refine ez_getr hX kc_118 rfl (Nat.le_of_ble_eq_true rfl) lc_118 (Nat.le_of_ble_eq_true rfl) inX12 120 rfl rc_118_1 wf_X12_15 dX12_alike_221 ?_
      refine ez_aload_n hX 0 dX12_alike_224 rfl ?_
      refine ez_getr hX kc_118 rfl (Nat.le_of_ble_eq_true rfl) lc_118 (Nat.le_of_ble_eq_true rfl) inX12 119 rfl rc_118_0 wf_X12_11 dX12_alike_225 ?_
      refine ez_callS hX (N0 := 0) (As := [.ref (ez_B X + 120), .ref (ez_B X + 119)]) (st := []) (ec_X12_copies _ _ _ 120 5880 kc_120 lc_120 119 5880 kc_119 lc_119 M hs.1) (Or.inl rfl) wm_X12_225 ws_X12_copies wy_X12_copies rfl wd_X12_copies wi_X12 (ez_rok hRm rfl) (Nat.le_of_ble_eq_true rfl) dX12_alike_228 ?_
      have hs := hs.2
      refine ez_nmM (fun M13 eM13 => ?_)
      have hs := hs M13 eM13
      refine ez_iload_n hX 1 dX12_alike_231 rfl ?_
      refine ez_if_eq hX 239 dX12_alike_232 (by decide) (fun c14 => ?_) (fun c14 => ?_)
      · -- c14 jump
        have hs := hs.1 c14
        refine ez_iconst hX (0 : Int32) dX12_alike_239 (by decide) ?_
        have ht : t0 = ((0 : Int32), M13) := hT.symm.trans (by simp only [et_X12_alike_169, if_pos c12, eM13, if_pos c14])
        subst ht
        exact ez_iret hX hQ dX12_alike_240 rfl rfl
      · -- c14 on
        have hs := hs.2 c14
        refine ez_iconst hX (1 : Int32) dX12_alike_235 (by decide) ?_
        refine ez_goto hX 240 dX12_alike_236 (by decide) ?_
        have ht : t0 = ((1 : Int32), M13) := hT.symm.trans (by simp only [et_X12_alike_169, if_pos c12, eM13, if_neg c14])
        subst ht
        exact ez_iret hX hQ dX12_alike_240 rfl rfl
    · -- c12 on
      have hs := hs.2 c12
      refine ez_iload_n hX 1 dX12_alike_181 rfl ?_
      refine ez_if_eq hX 212 dX12_alike_182 (by decide) (fun c15 => ?_) (fun c15 => ?_)
      · -- c15 jump
        have hs := hs.1 c15
        refine ez_iconst hX (0 : Int32) dX12_alike_212 (by decide) ?_
        refine ez_istore_n hX [(3, .int (0 : Int32)), (0, .ref (ez_B X + 118)), (4, .int k)] dX12_alike_213 (ez_lt hnL rfl) rfl ?_
        refine ez_iinc hX (k + (1 : Int32)) 2 [(4, .int (k + (1 : Int32))), (3, .int (0 : Int32)), (0, .ref (ez_B X + 118))] dX12_alike_214 rfl rfl (ez_lt hnL rfl) rfl ?_
        refine ez_goto hX 169 dX12_alike_217 (by decide) ?_
        refine ez_lv [2, 1, 0] rfl ?_
        exact ih M (0 : Int32) (k + (1 : Int32)) hs (Eq.trans (by simp only [et_X12_alike_169, if_neg c12, if_pos c15]) hT)
      · -- c15 on
        have hs := hs.2 c15
        refine ez_aload_n hX 0 dX12_alike_185 rfl ?_
        refine ez_getr hX kc_118 rfl (Nat.le_of_ble_eq_true rfl) lc_118 (Nat.le_of_ble_eq_true rfl) inX12 119 rfl rc_118_0 wf_X12_11 dX12_alike_186 ?_
        refine ez_bipush hX (74 : Int32) dX12_alike_189 (by decide) ?_
        refine ez_iload hX 2 dX12_alike_191 rfl ?_
        refine ez_iadd hX dX12_alike_193 ?_
        refine ez_iald hX kc_119 lc_119 hs.1 dX12_alike_194 ?_
        have hs := hs.2
        refine ez_aload_n hX 0 dX12_alike_195 rfl ?_
        refine ez_getr hX kc_118 rfl (Nat.le_of_ble_eq_true rfl) lc_118 (Nat.le_of_ble_eq_true rfl) inX12 128 rfl rc_118_15 wf_X12_39 dX12_alike_196 ?_
        refine ez_bipush hX (74 : Int32) dX12_alike_199 (by decide) ?_
        refine ez_iload hX 2 dX12_alike_201 rfl ?_
        refine ez_iadd hX dX12_alike_203 ?_
        refine ez_iald hX kc_128 lc_128 hs.1 dX12_alike_204 ?_
        have hs := hs.2
        refine ez_icmp_ne hX 212 dX12_alike_205 (by decide) (fun c16 => ?_) (fun c16 => ?_)
        · -- c16 jump
          have hs := hs.2 c16
          refine ez_iconst hX (0 : Int32) dX12_alike_212 (by decide) ?_
          refine ez_istore_n hX [(3, .int (0 : Int32)), (0, .ref (ez_B X + 118)), (4, .int k)] dX12_alike_213 (ez_lt hnL rfl) rfl ?_
          refine ez_iinc hX (k + (1 : Int32)) 2 [(4, .int (k + (1 : Int32))), (3, .int (0 : Int32)), (0, .ref (ez_B X + 118))] dX12_alike_214 rfl rfl (ez_lt hnL rfl) rfl ?_
          refine ez_goto hX 169 dX12_alike_217 (by decide) ?_
          refine ez_lv [2, 1, 0] rfl ?_
          exact ih M (0 : Int32) (k + (1 : Int32)) hs (Eq.trans (by simp only [et_X12_alike_169, if_neg c12, if_neg c15, if_neg c16]) hT)
        · -- c16 on
          have hs := hs.1 c16
          refine ez_iconst hX (1 : Int32) dX12_alike_208 (by decide) ?_
          refine ez_goto hX 213 dX12_alike_209 (by decide) ?_
          refine ez_istore_n hX [(3, .int (1 : Int32)), (0, .ref (ez_B X + 118)), (4, .int k)] dX12_alike_213 (ez_lt hnL rfl) rfl ?_
          refine ez_iinc hX (k + (1 : Int32)) 2 [(4, .int (k + (1 : Int32))), (3, .int (1 : Int32)), (0, .ref (ez_B X + 118))] dX12_alike_214 rfl rfl (ez_lt hnL rfl) rfl ?_
          refine ez_goto hX 169 dX12_alike_217 (by decide) ?_
          refine ez_lv [2, 1, 0] rfl ?_
          exact ih M (1 : Int32) (k + (1 : Int32)) hs (Eq.trans (by simp only [et_X12_alike_169, if_neg c12, if_neg c15, if_pos c16]) hT)
set_option maxHeartbeats 4000000 in
set_option maxRecDepth 100000 in
theorem ec_X12_alike (l : Launch) (D : em_G) (B : Nat) (M : em_M) (line : Int32) (second : Int32) (hs : es_X12_alike M line second) : em_C l D B yX12_alike cX12_alike 5 (some .int) 7 178 0 0 false [.ref (B + 118), .int line, .int second] 132 em_R M (some (.int (et_X12_alike M line second).1)) 132 em_R ((et_X12_alike M line second).2) := by
  refine em_C_of RX12 [(0, .ref (B + 118)), (1, .int line), (2, .int second)] (by decide) rfl rfl (Nat.le_of_ble_eq_true rfl) ?_
  rintro X rfl rfl rfl hRm hnL hnm hsz hX hQ
  obtain ⟨t0, hT⟩ : ∃ tz, et_X12_alike M line second = tz := ⟨_, rfl⟩
  rw [hT] at hQ
  rw [es_X12_alike] at hs
  refine ez_aload_n hX 0 dX12_alike_0 rfl ?_
  refine ez_iload_n hX 1 dX12_alike_1 rfl ?_
  refine ez_callV hX (N0 := 0) (As := [.int line]) (st := []) kc_118 (Nat.le_of_ble_eq_true rfl) lc_118 rfl (ec_X12_isLine _ _ _ M line) (Or.inl rfl) wm_X12_124 wv_X12_isLine we_X12_isLine wy_X12_isLine rfl wd_X12_isLine wi_X12 (ez_rok hRm rfl) (Nat.le_of_ble_eq_true rfl) dX12_alike_2 ?_
  refine ez_nmI (fun r1 er1 => ?_)
  have hs := hs r1 er1
  refine ez_if_eq hX 16 dX12_alike_5 (by decide) (fun c2 => ?_) (fun c2 => ?_)
  · -- c2 jump
    have hs := hs.1 c2
    refine ez_iconst hX (-1 : Int32) dX12_alike_16 (by decide) ?_
    have ht : t0 = ((-1 : Int32), M) := hT.symm.trans (by simp only [et_X12_alike, er1, if_pos c2])
    subst ht
    exact ez_iret hX hQ dX12_alike_17 rfl rfl
  · -- c2 on
    have hs := hs.2 c2
    refine ez_aload_n hX 0 dX12_alike_8 rfl ?_
    refine ez_iload_n hX 2 dX12_alike_9 rfl ?_
    refine ez_callV hX (N0 := 0) (As := [.int second]) (st := []) kc_118 (Nat.le_of_ble_eq_true rfl) lc_118 rfl (ec_X12_isLine _ _ _ M second) (Or.inl rfl) wm_X12_124 wv_X12_isLine we_X12_isLine wy_X12_isLine rfl wd_X12_isLine wi_X12 (ez_rok hRm rfl) (Nat.le_of_ble_eq_true rfl) dX12_alike_10 ?_
    refine ez_nmI (fun r3 er3 => ?_)
    have hs := hs r3 er3
    refine ez_if_ne hX 18 dX12_alike_13 (by decide) (fun c4 => ?_) (fun c4 => ?_)
    · -- c4 jump
      have hs := hs.2 c4
      refine ez_aload_n hX 0 dX12_alike_18 rfl ?_
      refine ez_getr hX kc_118 rfl (Nat.le_of_ble_eq_true rfl) lc_118 (Nat.le_of_ble_eq_true rfl) inX12 119 rfl rc_118_0 wf_X12_11 dX12_alike_19 ?_
      refine ez_aload_n hX 0 dX12_alike_22 rfl ?_
      refine ez_getr hX kc_118 rfl (Nat.le_of_ble_eq_true rfl) lc_118 (Nat.le_of_ble_eq_true rfl) inX12 120 rfl rc_118_1 wf_X12_15 dX12_alike_23 ?_
      refine ez_callS hX (N0 := 0) (As := [.ref (ez_B X + 119), .ref (ez_B X + 120)]) (st := []) (ec_X12_copies _ _ _ 119 5880 kc_119 lc_119 120 5880 kc_120 lc_120 M hs.1) (Or.inl rfl) wm_X12_225 ws_X12_copies wy_X12_copies rfl wd_X12_copies wi_X12 (ez_rok hRm rfl) (Nat.le_of_ble_eq_true rfl) dX12_alike_26 ?_
      have hs := hs.2
      refine ez_nmM (fun M5 eM5 => ?_)
      have hs := hs M5 eM5
      refine ez_aload_n hX 0 dX12_alike_29 rfl ?_
      refine ez_iload_n hX 1 dX12_alike_30 rfl ?_
      refine ez_callV hX (N0 := 0) (As := [.int line]) (st := []) kc_118 (Nat.le_of_ble_eq_true rfl) lc_118 rfl (ec_X12_runs _ _ _ M5 line hs.1) (Or.inl rfl) wm_X12_196 wv_X12_runs we_X12_runs wy_X12_runs rfl wd_X12_runs wi_X12 (ez_rok hRm rfl) (Nat.le_of_ble_eq_true rfl) dX12_alike_31 ?_
      have hs := hs.2
      refine ez_nmM (fun M6 eM6 => ?_)
      have hs := hs M6 eM6
      refine ez_aload_n hX 0 dX12_alike_34 rfl ?_
      refine ez_getr hX kc_118 rfl (Nat.le_of_ble_eq_true rfl) lc_118 (Nat.le_of_ble_eq_true rfl) inX12 119 rfl rc_118_0 wf_X12_11 dX12_alike_35 ?_
      refine ez_aload_n hX 0 dX12_alike_38 rfl ?_
      refine ez_getr hX kc_118 rfl (Nat.le_of_ble_eq_true rfl) lc_118 (Nat.le_of_ble_eq_true rfl) inX12 128 rfl rc_118_15 wf_X12_39 dX12_alike_39 ?_
      refine ez_callS hX (N0 := 0) (As := [.ref (ez_B X + 119), .ref (ez_B X + 128)]) (st := []) (ec_X12_copies _ _ _ 119 5880 kc_119 lc_119 128 5880 kc_128 lc_128 M6 hs.1) (Or.inl rfl) wm_X12_225 ws_X12_copies wy_X12_copies rfl wd_X12_copies wi_X12 (ez_rok hRm rfl) (Nat.le_of_ble_eq_true rfl) dX12_alike_42 ?_
      have hs := hs.2
      refine ez_nmM (fun M7 eM7 => ?_)
      have hs := hs M7 eM7
      refine ez_aload_n hX 0 dX12_alike_45 rfl ?_
      refine ez_getr hX kc_118 rfl (Nat.le_of_ble_eq_true rfl) lc_118 (Nat.le_of_ble_eq_true rfl) inX12 120 rfl rc_118_1 wf_X12_15 dX12_alike_46 ?_
      refine ez_aload_n hX 0 dX12_alike_49 rfl ?_
      refine ez_getr hX kc_118 rfl (Nat.le_of_ble_eq_true rfl) lc_118 (Nat.le_of_ble_eq_true rfl) inX12 119 rfl rc_118_0 wf_X12_11 dX12_alike_50 ?_
      refine ez_callS hX (N0 := 0) (As := [.ref (ez_B X + 120), .ref (ez_B X + 119)]) (st := []) (ec_X12_copies _ _ _ 120 5880 kc_120 lc_120 119 5880 kc_119 lc_119 M7 hs.1) (Or.inl rfl) wm_X12_225 ws_X12_copies wy_X12_copies rfl wd_X12_copies wi_X12 (ez_rok hRm rfl) (Nat.le_of_ble_eq_true rfl) dX12_alike_53 ?_
      have hs := hs.2
      refine ez_nmM (fun M8 eM8 => ?_)
      have hs := hs M8 eM8
      refine ez_aload_n hX 0 dX12_alike_56 rfl ?_
      refine ez_iload_n hX 2 dX12_alike_57 rfl ?_
      refine ez_callV hX (N0 := 0) (As := [.int second]) (st := []) kc_118 (Nat.le_of_ble_eq_true rfl) lc_118 rfl (ec_X12_runs _ _ _ M8 second hs.1) (Or.inl rfl) wm_X12_196 wv_X12_runs we_X12_runs wy_X12_runs rfl wd_X12_runs wi_X12 (ez_rok hRm rfl) (Nat.le_of_ble_eq_true rfl) dX12_alike_58 ?_
      have hs := hs.2
      refine ez_nmM (fun M9 eM9 => ?_)
      have hs := hs M9 eM9
      refine ez_aload_n hX 0 dX12_alike_61 rfl ?_
      refine ez_getr hX kc_118 rfl (Nat.le_of_ble_eq_true rfl) lc_118 (Nat.le_of_ble_eq_true rfl) inX12 119 rfl rc_118_0 wf_X12_11 dX12_alike_62 ?_
      refine ez_bipush hX (7 : Int32) dX12_alike_65 (by decide) ?_
      refine ez_iald hX kc_119 lc_119 (by unfold vp_in; decide) dX12_alike_67 ?_
      refine ez_aload_n hX 0 dX12_alike_68 rfl ?_
      refine ez_getr hX kc_118 rfl (Nat.le_of_ble_eq_true rfl) lc_118 (Nat.le_of_ble_eq_true rfl) inX12 128 rfl rc_118_15 wf_X12_39 dX12_alike_69 ?_
      refine ez_bipush hX (7 : Int32) dX12_alike_72 (by decide) ?_
      refine ez_iald hX kc_128 lc_128 (by unfold vp_in; decide) dX12_alike_74 ?_
      refine ez_icmp_ne hX 99 dX12_alike_75 (by decide) (fun c10 => ?_) (fun c10 => ?_)
      · -- c10 jump
        have hs := hs.2 c10
        refine ez_iconst hX (0 : Int32) dX12_alike_99 (by decide) ?_
        refine ez_istore_n hX [(3, .int (0 : Int32)), (0, .ref (ez_B X + 118)), (1, .int line), (2, .int second)] dX12_alike_100 (ez_lt hnL rfl) rfl ?_
        refine ez_aload_n hX 1 dX12_alike_101 rfl ?_
        refine ez_getr hX kc_118 rfl (Nat.le_of_ble_eq_true rfl) lc_118 (Nat.le_of_ble_eq_true rfl) inX12 119 rfl rc_118_0 wf_X12_11 dX12_alike_102 ?_
        refine ez_bipush hX (7 : Int32) dX12_alike_105 (by decide) ?_
        refine ez_iald hX kc_119 lc_119 (by unfold vp_in; decide) dX12_alike_107 ?_
        refine ez_if_ne hX 166 dX12_alike_108 (by decide) (fun c11 => ?_) (fun c11 => ?_)
        · -- c11 jump
          have hs := hs.2 c11
          refine ez_iconst hX (0 : Int32) dX12_alike_166 (by decide) ?_
          refine ez_istore hX [(4, .int (0 : Int32)), (3, .int (0 : Int32)), (0, .ref (ez_B X + 118)), (1, .int line), (2, .int second)] dX12_alike_167 (ez_lt hnL rfl) rfl ?_
          refine ez_lv [2, 1, 0] rfl ?_
          exact el_X12_alike_169 X  t0 hRm hnL hX hQ 42 M9 (0 : Int32) (0 : Int32) hs (Eq.trans (by simp only [et_X12_alike, er1, if_neg c2, er3, if_neg c4, eM5, eM6, eM7, eM8, eM9, if_neg c10, if_neg c11]) hT)
        · -- c11 on
          have hs := hs.1 c11
          refine ez_iload_n hX 0 dX12_alike_111 rfl ?_
          refine ez_if_eq hX 164 dX12_alike_112 (by decide) (fun _ => ?_) (fun c => absurd c (by decide))
          refine ez_iconst hX (0 : Int32) dX12_alike_164 (by decide) ?_
          refine ez_istore_n hX [(3, .int (0 : Int32)), (0, .ref (ez_B X + 118)), (1, .int line), (2, .int second)] dX12_alike_165 (ez_lt hnL rfl) rfl ?_
          refine ez_iconst hX (0 : Int32) dX12_alike_166 (by decide) ?_
          refine ez_istore hX [(4, .int (0 : Int32)), (3, .int (0 : Int32)), (0, .ref (ez_B X + 118)), (1, .int line), (2, .int second)] dX12_alike_167 (ez_lt hnL rfl) rfl ?_
          refine ez_lv [2, 1, 0] rfl ?_
          exact el_X12_alike_169 X  t0 hRm hnL hX hQ 42 M9 (0 : Int32) (0 : Int32) hs (Eq.trans (by simp only [et_X12_alike, er1, if_neg c2, er3, if_neg c4, eM5, eM6, eM7, eM8, eM9, if_neg c10, if_pos c11]) hT)
      · -- c10 on
        have hs := hs.1 c10
        refine ez_aload_n hX 0 dX12_alike_78 rfl ?_
        refine ez_getr hX kc_118 rfl (Nat.le_of_ble_eq_true rfl) lc_118 (Nat.le_of_ble_eq_true rfl) inX12 119 rfl rc_118_0 wf_X12_11 dX12_alike_79 ?_
        refine ez_bipush hX (12 : Int32) dX12_alike_82 (by decide) ?_
        refine ez_iald hX kc_119 lc_119 (by unfold vp_in; decide) dX12_alike_84 ?_
        refine ez_aload_n hX 0 dX12_alike_85 rfl ?_
        refine ez_getr hX kc_118 rfl (Nat.le_of_ble_eq_true rfl) lc_118 (Nat.le_of_ble_eq_true rfl) inX12 128 rfl rc_118_15 wf_X12_39 dX12_alike_86 ?_
        refine ez_bipush hX (12 : Int32) dX12_alike_89 (by decide) ?_
        refine ez_iald hX kc_128 lc_128 (by unfold vp_in; decide) dX12_alike_91 ?_
        refine ez_icmp_ne hX 99 dX12_alike_92 (by decide) (fun c17 => ?_) (fun c17 => ?_)
        · -- c17 jump
          have hs := hs.2 c17
          refine ez_iconst hX (0 : Int32) dX12_alike_99 (by decide) ?_
          refine ez_istore_n hX [(3, .int (0 : Int32)), (0, .ref (ez_B X + 118)), (1, .int line), (2, .int second)] dX12_alike_100 (ez_lt hnL rfl) rfl ?_
          refine ez_aload_n hX 1 dX12_alike_101 rfl ?_
          refine ez_getr hX kc_118 rfl (Nat.le_of_ble_eq_true rfl) lc_118 (Nat.le_of_ble_eq_true rfl) inX12 119 rfl rc_118_0 wf_X12_11 dX12_alike_102 ?_
          refine ez_bipush hX (7 : Int32) dX12_alike_105 (by decide) ?_
          refine ez_iald hX kc_119 lc_119 (by unfold vp_in; decide) dX12_alike_107 ?_
          refine ez_if_ne hX 166 dX12_alike_108 (by decide) (fun c18 => ?_) (fun c18 => ?_)
          · -- c18 jump
            have hs := hs.2 c18
            refine ez_iconst hX (0 : Int32) dX12_alike_166 (by decide) ?_
            refine ez_istore hX [(4, .int (0 : Int32)), (3, .int (0 : Int32)), (0, .ref (ez_B X + 118)), (1, .int line), (2, .int second)] dX12_alike_167 (ez_lt hnL rfl) rfl ?_
            refine ez_lv [2, 1, 0] rfl ?_
            exact el_X12_alike_169 X  t0 hRm hnL hX hQ 42 M9 (0 : Int32) (0 : Int32) hs (Eq.trans (by simp only [et_X12_alike, er1, if_neg c2, er3, if_neg c4, eM5, eM6, eM7, eM8, eM9, if_pos c10, if_neg c17, if_neg c18]) hT)
          · -- c18 on
            have hs := hs.1 c18
            refine ez_iload_n hX 0 dX12_alike_111 rfl ?_
            refine ez_if_eq hX 164 dX12_alike_112 (by decide) (fun _ => ?_) (fun c => absurd c (by decide))
            refine ez_iconst hX (0 : Int32) dX12_alike_164 (by decide) ?_
            refine ez_istore_n hX [(3, .int (0 : Int32)), (0, .ref (ez_B X + 118)), (1, .int line), (2, .int second)] dX12_alike_165 (ez_lt hnL rfl) rfl ?_
            refine ez_iconst hX (0 : Int32) dX12_alike_166 (by decide) ?_
            refine ez_istore hX [(4, .int (0 : Int32)), (3, .int (0 : Int32)), (0, .ref (ez_B X + 118)), (1, .int line), (2, .int second)] dX12_alike_167 (ez_lt hnL rfl) rfl ?_
            refine ez_lv [2, 1, 0] rfl ?_
            exact el_X12_alike_169 X  t0 hRm hnL hX hQ 42 M9 (0 : Int32) (0 : Int32) hs (Eq.trans (by simp only [et_X12_alike, er1, if_neg c2, er3, if_neg c4, eM5, eM6, eM7, eM8, eM9, if_pos c10, if_neg c17, if_pos c18]) hT)
        · -- c17 on
          have hs := hs.1 c17
          refine ez_iconst hX (1 : Int32) dX12_alike_95 (by decide) ?_
          refine ez_goto hX 100 dX12_alike_96 (by decide) ?_
          refine ez_istore_n hX [(3, .int (1 : Int32)), (0, .ref (ez_B X + 118)), (1, .int line), (2, .int second)] dX12_alike_100 (ez_lt hnL rfl) rfl ?_
          refine ez_aload_n hX 1 dX12_alike_101 rfl ?_
          refine ez_getr hX kc_118 rfl (Nat.le_of_ble_eq_true rfl) lc_118 (Nat.le_of_ble_eq_true rfl) inX12 119 rfl rc_118_0 wf_X12_11 dX12_alike_102 ?_
          refine ez_bipush hX (7 : Int32) dX12_alike_105 (by decide) ?_
          refine ez_iald hX kc_119 lc_119 (by unfold vp_in; decide) dX12_alike_107 ?_
          refine ez_if_ne hX 166 dX12_alike_108 (by decide) (fun c19 => ?_) (fun c19 => ?_)
          · -- c19 jump
            have hs := hs.2 c19
            refine ez_iconst hX (0 : Int32) dX12_alike_166 (by decide) ?_
            refine ez_istore hX [(4, .int (0 : Int32)), (3, .int (1 : Int32)), (0, .ref (ez_B X + 118)), (1, .int line), (2, .int second)] dX12_alike_167 (ez_lt hnL rfl) rfl ?_
            refine ez_lv [2, 1, 0] rfl ?_
            exact el_X12_alike_169 X  t0 hRm hnL hX hQ 42 M9 (1 : Int32) (0 : Int32) hs (Eq.trans (by simp only [et_X12_alike, er1, if_neg c2, er3, if_neg c4, eM5, eM6, eM7, eM8, eM9, if_pos c10, if_pos c17, if_neg c19]) hT)
          · -- c19 on
            have hs := hs.1 c19
            refine ez_iload_n hX 0 dX12_alike_111 rfl ?_
            refine ez_if_eq hX 164 dX12_alike_112 (by decide) (fun c => absurd c (by decide)) (fun _ => ?_)
            refine ez_aload_n hX 1 dX12_alike_115 rfl ?_
            refine ez_getr hX kc_118 rfl (Nat.le_of_ble_eq_true rfl) lc_118 (Nat.le_of_ble_eq_true rfl) inX12 119 rfl rc_118_0 wf_X12_11 dX12_alike_116 ?_
            refine ez_bipush hX (8 : Int32) dX12_alike_119 (by decide) ?_
            refine ez_iald hX kc_119 lc_119 (by unfold vp_in; decide) dX12_alike_121 ?_
            refine ez_aload_n hX 1 dX12_alike_122 rfl ?_
            refine ez_getr hX kc_118 rfl (Nat.le_of_ble_eq_true rfl) lc_118 (Nat.le_of_ble_eq_true rfl) inX12 128 rfl rc_118_15 wf_X12_39 dX12_alike_123 ?_
            refine ez_bipush hX (8 : Int32) dX12_alike_126 (by decide) ?_
            refine ez_iald hX kc_128 lc_128 (by unfold vp_in; decide) dX12_alike_128 ?_
            refine ez_icmp_ne hX 164 dX12_alike_129 (by decide) (fun c20 => ?_) (fun c20 => ?_)
            · -- c20 jump
              have hs := hs.2 c20
              refine ez_iconst hX (0 : Int32) dX12_alike_164 (by decide) ?_
              refine ez_istore_n hX [(3, .int (0 : Int32)), (0, .ref (ez_B X + 118)), (1, .int line), (2, .int second)] dX12_alike_165 (ez_lt hnL rfl) rfl ?_
              refine ez_iconst hX (0 : Int32) dX12_alike_166 (by decide) ?_
              refine ez_istore hX [(4, .int (0 : Int32)), (3, .int (0 : Int32)), (0, .ref (ez_B X + 118)), (1, .int line), (2, .int second)] dX12_alike_167 (ez_lt hnL rfl) rfl ?_
              refine ez_lv [2, 1, 0] rfl ?_
              exact el_X12_alike_169 X  t0 hRm hnL hX hQ 42 M9 (0 : Int32) (0 : Int32) hs (Eq.trans (by simp only [et_X12_alike, er1, if_neg c2, er3, if_neg c4, eM5, eM6, eM7, eM8, eM9, if_pos c10, if_pos c17, if_pos c19, if_neg c20]) hT)
            · -- c20 on
              have hs := hs.1 c20
              refine ez_aload_n hX 1 dX12_alike_132 rfl ?_
              refine ez_getr hX kc_118 rfl (Nat.le_of_ble_eq_true rfl) lc_118 (Nat.le_of_ble_eq_true rfl) inX12 119 rfl rc_118_0 wf_X12_11 dX12_alike_133 ?_
              refine ez_bipush hX (8 : Int32) dX12_alike_136 (by decide) ?_
              refine ez_iald hX kc_119 lc_119 (by unfold vp_in; decide) dX12_alike_138 ?_
              refine ez_iconst hX (1 : Int32) dX12_alike_139 (by decide) ?_
              refine ez_icmp_eq hX 160 dX12_alike_140 (by decide) (fun c21 => ?_) (fun c21 => ?_)
              · -- c21 jump
                have hs := hs.1 c21
                refine ez_iconst hX (1 : Int32) dX12_alike_160 (by decide) ?_
                refine ez_goto hX 165 dX12_alike_161 (by decide) ?_
                refine ez_istore_n hX [(3, .int (1 : Int32)), (0, .ref (ez_B X + 118)), (1, .int line), (2, .int second)] dX12_alike_165 (ez_lt hnL rfl) rfl ?_
                refine ez_iconst hX (0 : Int32) dX12_alike_166 (by decide) ?_
                refine ez_istore hX [(4, .int (0 : Int32)), (3, .int (1 : Int32)), (0, .ref (ez_B X + 118)), (1, .int line), (2, .int second)] dX12_alike_167 (ez_lt hnL rfl) rfl ?_
                refine ez_lv [2, 1, 0] rfl ?_
                exact el_X12_alike_169 X  t0 hRm hnL hX hQ 42 M9 (1 : Int32) (0 : Int32) hs (Eq.trans (by simp only [et_X12_alike, er1, if_neg c2, er3, if_neg c4, eM5, eM6, eM7, eM8, eM9, if_pos c10, if_pos c17, if_pos c19, if_pos c20, if_pos c21]) hT)
              · -- c21 on
                have hs := hs.2 c21
                refine ez_aload_n hX 1 dX12_alike_143 rfl ?_
                refine ez_getr hX kc_118 rfl (Nat.le_of_ble_eq_true rfl) lc_118 (Nat.le_of_ble_eq_true rfl) inX12 119 rfl rc_118_0 wf_X12_11 dX12_alike_144 ?_
                refine ez_bipush hX (9 : Int32) dX12_alike_147 (by decide) ?_
                refine ez_iald hX kc_119 lc_119 (by unfold vp_in; decide) dX12_alike_149 ?_
                refine ez_aload_n hX 1 dX12_alike_150 rfl ?_
                refine ez_getr hX kc_118 rfl (Nat.le_of_ble_eq_true rfl) lc_118 (Nat.le_of_ble_eq_true rfl) inX12 128 rfl rc_118_15 wf_X12_39 dX12_alike_151 ?_
                refine ez_bipush hX (9 : Int32) dX12_alike_154 (by decide) ?_
                refine ez_iald hX kc_128 lc_128 (by unfold vp_in; decide) dX12_alike_156 ?_
                refine ez_icmp_ne hX 164 dX12_alike_157 (by decide) (fun c22 => ?_) (fun c22 => ?_)
                · -- c22 jump
                  have hs := hs.2 c22
                  refine ez_iconst hX (0 : Int32) dX12_alike_164 (by decide) ?_
                  refine ez_istore_n hX [(3, .int (0 : Int32)), (0, .ref (ez_B X + 118)), (1, .int line), (2, .int second)] dX12_alike_165 (ez_lt hnL rfl) rfl ?_
                  refine ez_iconst hX (0 : Int32) dX12_alike_166 (by decide) ?_
                  refine ez_istore hX [(4, .int (0 : Int32)), (3, .int (0 : Int32)), (0, .ref (ez_B X + 118)), (1, .int line), (2, .int second)] dX12_alike_167 (ez_lt hnL rfl) rfl ?_
                  refine ez_lv [2, 1, 0] rfl ?_
                  exact el_X12_alike_169 X  t0 hRm hnL hX hQ 42 M9 (0 : Int32) (0 : Int32) hs (Eq.trans (by simp only [et_X12_alike, er1, if_neg c2, er3, if_neg c4, eM5, eM6, eM7, eM8, eM9, if_pos c10, if_pos c17, if_pos c19, if_pos c20, if_neg c21, if_neg c22]) hT)
                · -- c22 on
                  have hs := hs.1 c22
                  refine ez_iconst hX (1 : Int32) dX12_alike_160 (by decide) ?_
                  refine ez_goto hX 165 dX12_alike_161 (by decide) ?_
                  refine ez_istore_n hX [(3, .int (1 : Int32)), (0, .ref (ez_B X + 118)), (1, .int line), (2, .int second)] dX12_alike_165 (ez_lt hnL rfl) rfl ?_
                  refine ez_iconst hX (0 : Int32) dX12_alike_166 (by decide) ?_
                  refine ez_istore hX [(4, .int (0 : Int32)), (3, .int (1 : Int32)), (0, .ref (ez_B X + 118)), (1, .int line), (2, .int second)] dX12_alike_167 (ez_lt hnL rfl) rfl ?_
                  refine ez_lv [2, 1, 0] rfl ?_
                  exact el_X12_alike_169 X  t0 hRm hnL hX hQ 42 M9 (1 : Int32) (0 : Int32) hs (Eq.trans (by simp only [et_X12_alike, er1, if_neg c2, er3, if_neg c4, eM5, eM6, eM7, eM8, eM9, if_pos c10, if_pos c17, if_pos c19, if_pos c20, if_neg c21, if_pos c22]) hT)
    · -- c4 on
      have hs := hs.1 c4
      refine ez_iconst hX (-1 : Int32) dX12_alike_16 (by decide) ?_
      have ht : t0 = ((-1 : Int32), M) := hT.symm.trans (by simp only [et_X12_alike, er1, if_neg c2, er3, if_pos c4])
      subst ht
      exact ez_iret hX hQ dX12_alike_17 rfl rfl

theorem ez_lgc {x y : Int64} (h : ¬ lg_cmp x y = 0) : ¬ x = y := fun q => h (by subst q; simp [lg_cmp])

def et_X12_lowest_17   : Nat → em_M → Int64 → Int64 → Int32 → Int64 → Int64 → Int64
  | 0, _, _, _, _, _, _ => 0
  | fu + 1, M, above, below, part, a, b =>
  (if (lg_cmp b (0 : Int64)) = 0 then (if part = 0 then (above / a) else (below / a)) else et_X12_lowest_17 fu M above below part b (a - a / b * b))
def es_X12_lowest_17   : Nat → em_M → Int64 → Int64 → Int32 → Int64 → Int64 → Prop
  | 0, _, _, _, _, _, _ => False
  | fu + 1, M, above, below, part, a, b =>
  (((lg_cmp b (0 : Int64)) = 0) → (((part = 0) → ((¬ a = 0) ∧ (True))) ∧
  (¬ (part = 0) → ((¬ a = 0) ∧ (True))))) ∧
  (¬ ((lg_cmp b (0 : Int64)) = 0) → (es_X12_lowest_17 fu M above below part b (a - a / b * b)))
def et_X12_lowest  (M : em_M) (above : Int64) (below : Int64) (part : Int32) : Int64 :=
  (if 0 ≤ (lg_cmp above (0 : Int64)) then et_X12_lowest_17 100 M above below part above below else et_X12_lowest_17 100 M above below part (- above) below)
def es_X12_lowest  (M : em_M) (above : Int64) (below : Int64) (part : Int32) : Prop :=
  ((0 ≤ (lg_cmp above (0 : Int64))) → (es_X12_lowest_17 100 M above below part above below)) ∧
  (¬ (0 ≤ (lg_cmp above (0 : Int64))) → (es_X12_lowest_17 100 M above below part (- above) below))
set_option maxHeartbeats 4000000 in
set_option maxRecDepth 100000 in
theorem el_X12_lowest_17 (X : em_X)    (t0 : Int64) (hRm : ez_rm X = { frames := 0, cells := 0, slots := 0, locals := 0 }) (hnL : ez_nL X = 11) (hX : ez_ok X cX12_lowest RX12) (M : em_M) (hQ : ez_ret X (some .long) (some (.long t0)) 132 em_R (M) 0 0) : ∀ (fu : Nat) (above : Int64) (below : Int64) (part : Int32) (a : Int64) (b : Int64), es_X12_lowest_17  fu M above below part a b → et_X12_lowest_17  fu M above below part a b = t0 → ez_Z X 132 em_R M 0 0 17 [(0, .long above), (2, .long below), (4, .int part), (5, .long a), (7, .long b)] [] := by
  intro fu
  induction fu with
  | zero =>
    intro above below part a b hs hT
    exact False.elim hs
  | succ fu ih =>
    intro above below part a b hs hT
    rw [es_X12_lowest_17] at hs
    refine ez_lload hX 4 dX12_lowest_17 rfl ?_
    refine ez_lconst hX (0 : Int64) dX12_lowest_19 (by decide) ?_
    refine ez_lcmp hX dX12_lowest_20 ?_
    refine ez_if_eq hX 42 dX12_lowest_21 (by decide) (fun c2 => ?_) (fun c2 => ?_)
    · -- c2 jump
      have hs := hs.1 c2
      refine ez_iload hX 2 dX12_lowest_42 rfl ?_
      refine ez_if_ne hX 51 dX12_lowest_44 (by decide) (fun c3 => ?_) (fun c3 => ?_)
      · -- c3 jump
        have hs := hs.2 c3
        refine ez_lload_n hX 1 dX12_lowest_51 rfl ?_
        refine ez_lload hX 3 dX12_lowest_52 rfl ?_
        refine ez_ldiv hX dX12_lowest_54 hs.1 ?_
        have hs := hs.2
        have ht : t0 = (below / a) := hT.symm.trans (by simp only [et_X12_lowest_17, if_pos c2, if_neg c3])
        subst ht
        exact ez_lret hX hQ dX12_lowest_55 rfl rfl
      · -- c3 on
        have hs := hs.1 c3
        refine ez_lload_n hX 0 dX12_lowest_47 rfl ?_
        refine ez_goto hX 52 dX12_lowest_48 (by decide) ?_
        refine ez_lload hX 3 dX12_lowest_52 rfl ?_
        refine ez_ldiv hX dX12_lowest_54 hs.1 ?_
        have hs := hs.2
        have ht : t0 = (above / a) := hT.symm.trans (by simp only [et_X12_lowest_17, if_pos c2, if_pos c3])
        subst ht
        exact ez_lret hX hQ dX12_lowest_55 rfl rfl
    · -- c2 on
      have hs := hs.2 c2
      refine ez_lload hX 3 dX12_lowest_24 rfl ?_
      refine ez_lload hX 4 dX12_lowest_26 rfl ?_
      refine ez_lrem hX dX12_lowest_28 (ez_lgc c2) ?_
      refine ez_lstore hX [(9, .long (a - a / b * b)), (0, .long above), (2, .long below), (4, .int part), (5, .long a), (7, .long b)] dX12_lowest_29 (ez_lt hnL rfl) rfl ?_
      refine ez_lload hX 5 dX12_lowest_31 rfl ?_
      refine ez_lstore hX [(5, .long b), (9, .long (a - a / b * b)), (0, .long above), (2, .long below), (4, .int part), (7, .long b)] dX12_lowest_33 (ez_lt hnL rfl) rfl ?_
      refine ez_lload hX 1 dX12_lowest_35 rfl ?_
      refine ez_lstore hX [(7, .long (a - a / b * b)), (5, .long b), (9, .long (a - a / b * b)), (0, .long above), (2, .long below), (4, .int part)] dX12_lowest_37 (ez_lt hnL rfl) rfl ?_
      refine ez_goto hX 17 dX12_lowest_39 (by decide) ?_
      refine ez_lv [3, 4, 5, 1, 0] rfl ?_
      exact ih above below part b (a - a / b * b) hs (Eq.trans (by simp only [et_X12_lowest_17, if_neg c2]) hT)
set_option maxHeartbeats 4000000 in
set_option maxRecDepth 100000 in
theorem ec_X12_lowest (l : Launch) (D : em_G) (B : Nat) (M : em_M) (above : Int64) (below : Int64) (part : Int32) (hs : es_X12_lowest M above below part) : em_C l D B yX12_lowest cX12_lowest 11 (some .long) 0 0 0 0 false [.long above, .long below, .int part] 132 em_R M (some (.long (et_X12_lowest M above below part))) 132 em_R (M) := by
  refine em_C_of RX12 [(0, .long above), (2, .long below), (4, .int part)] (by decide) rfl rfl (Nat.le_of_ble_eq_true rfl) ?_
  rintro X rfl rfl rfl hRm hnL hnm hsz hX hQ
  obtain ⟨t0, hT⟩ : ∃ tz, et_X12_lowest M above below part = tz := ⟨_, rfl⟩
  rw [hT] at hQ
  rw [es_X12_lowest] at hs
  refine ez_lload_n hX 0 dX12_lowest_0 rfl ?_
  refine ez_lconst hX (0 : Int64) dX12_lowest_1 (by decide) ?_
  refine ez_lcmp hX dX12_lowest_2 ?_
  refine ez_if_ge hX 11 dX12_lowest_3 (by decide) (fun c1 => ?_) (fun c1 => ?_)
  · -- c1 jump
    have hs := hs.1 c1
    refine ez_lload_n hX 0 dX12_lowest_11 rfl ?_
    refine ez_lstore hX [(5, .long above), (0, .long above), (2, .long below), (4, .int part)] dX12_lowest_12 (ez_lt hnL rfl) rfl ?_
    refine ez_lload_n hX 2 dX12_lowest_14 rfl ?_
    refine ez_lstore hX [(7, .long below), (5, .long above), (0, .long above), (2, .long below), (4, .int part)] dX12_lowest_15 (ez_lt hnL rfl) rfl ?_
    refine ez_lv [2, 3, 4, 1, 0] rfl ?_
    exact el_X12_lowest_17 X  t0 hRm hnL hX M hQ 100 above below part above below hs (Eq.trans (by simp only [et_X12_lowest, if_pos c1]) hT)
  · -- c1 on
    have hs := hs.2 c1
    refine ez_lload_n hX 0 dX12_lowest_6 rfl ?_
    refine ez_lneg hX dX12_lowest_7 ?_
    refine ez_goto hX 12 dX12_lowest_8 (by decide) ?_
    refine ez_lstore hX [(5, .long (- above)), (0, .long above), (2, .long below), (4, .int part)] dX12_lowest_12 (ez_lt hnL rfl) rfl ?_
    refine ez_lload_n hX 2 dX12_lowest_14 rfl ?_
    refine ez_lstore hX [(7, .long below), (5, .long (- above)), (0, .long above), (2, .long below), (4, .int part)] dX12_lowest_15 (ez_lt hnL rfl) rfl ?_
    refine ez_lv [2, 3, 4, 1, 0] rfl ?_
    exact el_X12_lowest_17 X  t0 hRm hnL hX M hQ 100 above below part (- above) below hs (Eq.trans (by simp only [et_X12_lowest, if_neg c1]) hT)

def et_X12_odds_46   : Nat → em_M → Int32 → Int32 → Int32 → Int64 → Int32 → Int64 × em_M
  | 0, M, _, _, _, _, _ => (0, M)
  | fu + 1, M, line, name, part, so, v =>
  (if (10 : Int32) ≤ v then let r9 := et_X12_lowest M so (10 : Int64) part
  (r9, M) else let M10 := em_pI M 119 (((0 : Int32) + name)).toNatClampNeg v
  let M11 := et_X12_runs M10 line
  (if (M11.1 119 ((7 : Int32)).toNatClampNeg) = 0 then (if (M11.1 119 ((8 : Int32)).toNatClampNeg) = 0 then (if (M11.1 119 ((9 : Int32)).toNatClampNeg) = 0 then let M17 := et_X12_copies 120 5880 119 5880 M11
  et_X12_odds_46 fu M17 line name part (so + (0 : Int64)) (v + (1 : Int32)) else let M18 := et_X12_copies 120 5880 119 5880 M11
  et_X12_odds_46 fu M18 line name part (so + (1 : Int64)) (v + (1 : Int32))) else let M15 := et_X12_copies 120 5880 119 5880 M11
  et_X12_odds_46 fu M15 line name part (so + (0 : Int64)) (v + (1 : Int32))) else let M13 := et_X12_copies 120 5880 119 5880 M11
  et_X12_odds_46 fu M13 line name part (so + (0 : Int64)) (v + (1 : Int32))))
def es_X12_odds_46   : Nat → em_M → Int32 → Int32 → Int32 → Int64 → Int32 → Prop
  | 0, _, _, _, _, _, _ => False
  | fu + 1, M, line, name, part, so, v =>
  (((10 : Int32) ≤ v) → (es_X12_lowest M so (10 : Int64) part ∧ (∀ r9 : Int64, et_X12_lowest M so (10 : Int64) part = r9 → (
  True)))) ∧
  (¬ ((10 : Int32) ≤ v) → (vp_in ((0 : Int32) + name) 5880 ∧ (∀ M10 : em_M, em_pI M 119 (((0 : Int32) + name)).toNatClampNeg v = M10 → (
  es_X12_runs M10 line ∧ (∀ M11 : em_M, et_X12_runs M10 line = M11 → (
  (((M11.1 119 ((7 : Int32)).toNatClampNeg) = 0) → ((((M11.1 119 ((8 : Int32)).toNatClampNeg) = 0) → ((((M11.1 119 ((9 : Int32)).toNatClampNeg) = 0) → (es_X12_copies 120 5880 119 5880 M11 ∧ (∀ M17 : em_M, et_X12_copies 120 5880 119 5880 M11 = M17 → (
  es_X12_odds_46 fu M17 line name part (so + (0 : Int64)) (v + (1 : Int32)))))) ∧
  (¬ ((M11.1 119 ((9 : Int32)).toNatClampNeg) = 0) → (es_X12_copies 120 5880 119 5880 M11 ∧ (∀ M18 : em_M, et_X12_copies 120 5880 119 5880 M11 = M18 → (
  es_X12_odds_46 fu M18 line name part (so + (1 : Int64)) (v + (1 : Int32)))))))) ∧
  (¬ ((M11.1 119 ((8 : Int32)).toNatClampNeg) = 0) → (es_X12_copies 120 5880 119 5880 M11 ∧ (∀ M15 : em_M, et_X12_copies 120 5880 119 5880 M11 = M15 → (
  es_X12_odds_46 fu M15 line name part (so + (0 : Int64)) (v + (1 : Int32)))))))) ∧
  (¬ ((M11.1 119 ((7 : Int32)).toNatClampNeg) = 0) → (es_X12_copies 120 5880 119 5880 M11 ∧ (∀ M13 : em_M, et_X12_copies 120 5880 119 5880 M11 = M13 → (
  es_X12_odds_46 fu M13 line name part (so + (0 : Int64)) (v + (1 : Int32))))))))))))
def et_X12_odds  (M : em_M) (line : Int32) (name : Int32) (part : Int32) : Int64 × em_M :=
  let r1 := et_X12_isLine M line
  (if r1 = 0 then ((-9223372036854775808 : Int64), M) else let r3 := et_X12_isName M name
  (if r3 = 0 then ((-9223372036854775808 : Int64), M) else let r5 := et_X12_in M ((part).toInt64) (0 : Int64) (1 : Int64)
  (if r5 = 0 then ((-9223372036854775808 : Int64), M) else let M7 := et_X12_copies 119 5880 120 5880 M
  et_X12_odds_46 11 M7 line name part (0 : Int64) (0 : Int32))))
def es_X12_odds  (M : em_M) (line : Int32) (name : Int32) (part : Int32) : Prop :=
  ∀ r1 : Int32, et_X12_isLine M line = r1 → (
  ((r1 = 0) → (True)) ∧
  (¬ (r1 = 0) → (∀ r3 : Int32, et_X12_isName M name = r3 → (
  ((r3 = 0) → (True)) ∧
  (¬ (r3 = 0) → (∀ r5 : Int32, et_X12_in M ((part).toInt64) (0 : Int64) (1 : Int64) = r5 → (
  ((r5 = 0) → (True)) ∧
  (¬ (r5 = 0) → (es_X12_copies 119 5880 120 5880 M ∧ (∀ M7 : em_M, et_X12_copies 119 5880 120 5880 M = M7 → (
  es_X12_odds_46 11 M7 line name part (0 : Int64) (0 : Int32))))))))))))
set_option maxHeartbeats 4000000 in
set_option maxRecDepth 100000 in
theorem el_X12_odds_46 (X : em_X)    (t0 : Int64 × em_M) (hRm : ez_rm X = { frames := 7, cells := 0, slots := 0, locals := 178 }) (hnL : ez_nL X = 7) (hX : ez_ok X cX12_odds RX12) (hQ : ez_ret X (some .long) (some (.long t0.1)) 132 em_R (t0.2) 0 0) : ∀ (fu : Nat) (M : em_M) (line : Int32) (name : Int32) (part : Int32) (so : Int64) (v : Int32), es_X12_odds_46  fu M line name part so v → et_X12_odds_46  fu M line name part so v = t0 → ez_Z X 132 em_R M 0 0 46 [(0, .ref (ez_B X + 118)), (1, .int line), (2, .int name), (3, .int part), (4, .long so), (6, .int v)] [] := by
  intro fu
  induction fu with
  | zero =>
    intro M line name part so v hs hT
    exact False.elim hs
  | succ fu ih =>
    intro M line name part so v hs hT
    rw [es_X12_odds_46] at hs
    refine ez_iload hX 5 dX12_odds_46 rfl ?_
    refine ez_bipush hX (10 : Int32) dX12_odds_48 (by decide) ?_
    refine ez_icmp_ge hX 125 dX12_odds_50 (by decide) (fun c8 => ?_) (fun c8 => ?_)
    · -- c8 jump
      have hs := hs.1 c8
      refine ez_lload hX 4 dX12_odds_125 rfl ?_
      refine ez_ldc2 hX wl_X12_211 dX12_odds_127 ?_
      refine ez_iload_n hX 3 dX12_odds_130 rfl ?_
      refine ez_callS hX (N0 := 0) (As := [.long so, .long (10 : Int64), .int part]) (st := []) (ec_X12_lowest _ _ _ M so (10 : Int64) part hs.1) (Or.inl rfl) wm_X12_233 ws_X12_lowest wy_X12_lowest rfl wd_X12_lowest wi_X12 (ez_rok hRm rfl) (Nat.le_of_ble_eq_true rfl) dX12_odds_131 ?_
      have hs := hs.2
      refine ez_nmL (fun r9 er9 => ?_)
      have hs := hs r9 er9
      have ht : t0 = (r9, M) := hT.symm.trans (by simp only [et_X12_odds_46, if_pos c8, er9])
      subst ht
      exact ez_lret hX hQ dX12_odds_134 rfl rfl
    · -- c8 on
      have hs := hs.2 c8
      refine ez_aload_n hX 0 dX12_odds_53 rfl ?_
      refine ez_getr hX kc_118 rfl (Nat.le_of_ble_eq_true rfl) lc_118 (Nat.le_of_ble_eq_true rfl) inX12 119 rfl rc_118_0 wf_X12_11 dX12_odds_54 ?_
      refine ez_iconst hX (0 : Int32) dX12_odds_57 (by decide) ?_
      refine ez_iload_n hX 2 dX12_odds_58 rfl ?_
      refine ez_iadd hX dX12_odds_59 ?_
      refine ez_iload hX 5 dX12_odds_60 rfl ?_
      refine ez_iast hX kc_119 lc_119 hs.1 dX12_odds_62 ?_
      have hs := hs.2
      refine ez_nmM (fun M10 eM10 => ?_)
      have hs := hs M10 eM10
      refine ez_aload_n hX 0 dX12_odds_63 rfl ?_
      refine ez_iload_n hX 1 dX12_odds_64 rfl ?_
      refine ez_callV hX (N0 := 0) (As := [.int line]) (st := []) kc_118 (Nat.le_of_ble_eq_true rfl) lc_118 rfl (ec_X12_runs _ _ _ M10 line hs.1) (Or.inl rfl) wm_X12_196 wv_X12_runs we_X12_runs wy_X12_runs rfl wd_X12_runs wi_X12 (ez_rok hRm rfl) (Nat.le_of_ble_eq_true rfl) dX12_odds_65 ?_
      have hs := hs.2
      refine ez_nmM (fun M11 eM11 => ?_)
      have hs := hs M11 eM11
      refine ez_lload hX 4 dX12_odds_68 rfl ?_
      refine ez_aload_n hX 0 dX12_odds_70 rfl ?_
      refine ez_getr hX kc_118 rfl (Nat.le_of_ble_eq_true rfl) lc_118 (Nat.le_of_ble_eq_true rfl) inX12 119 rfl rc_118_0 wf_X12_11 dX12_odds_71 ?_
      refine ez_bipush hX (7 : Int32) dX12_odds_74 (by decide) ?_
      refine ez_iald hX kc_119 lc_119 (by unfold vp_in; decide) dX12_odds_76 ?_
      refine ez_if_ne hX 104 dX12_odds_77 (by decide) (fun c12 => ?_) (fun c12 => ?_)
      · -- c12 jump
        have hs := hs.2 c12
        refine ez_lconst hX (0 : Int64) dX12_odds_104 (by decide) ?_
        refine ez_ladd hX dX12_odds_105 ?_
        refine ez_lstore hX [(4, .long (so + (0 : Int64))), (0, .ref (ez_B X + 118)), (1, .int line), (2, .int name), (3, .int part), (6, .int v)] dX12_odds_106 (ez_lt hnL rfl) rfl ?_
        refine ez_aload_n hX 1 dX12_odds_108 rfl ?_
        refine ez_getr hX kc_118 rfl (Nat.le_of_ble_eq_true rfl) lc_118 (Nat.le_of_ble_eq_true rfl) inX12 120 rfl rc_118_1 wf_X12_15 dX12_odds_109 ?_
        refine ez_aload_n hX 1 dX12_odds_112 rfl ?_
        refine ez_getr hX kc_118 rfl (Nat.le_of_ble_eq_true rfl) lc_118 (Nat.le_of_ble_eq_true rfl) inX12 119 rfl rc_118_0 wf_X12_11 dX12_odds_113 ?_
        refine ez_callS hX (N0 := 0) (As := [.ref (ez_B X + 120), .ref (ez_B X + 119)]) (st := []) (ec_X12_copies _ _ _ 120 5880 kc_120 lc_120 119 5880 kc_119 lc_119 M11 hs.1) (Or.inl rfl) wm_X12_225 ws_X12_copies wy_X12_copies rfl wd_X12_copies wi_X12 (ez_rok hRm rfl) (Nat.le_of_ble_eq_true rfl) dX12_odds_116 ?_
        have hs := hs.2
        refine ez_nmM (fun M13 eM13 => ?_)
        have hs := hs M13 eM13
        refine ez_iinc hX (v + (1 : Int32)) 5 [(6, .int (v + (1 : Int32))), (4, .long (so + (0 : Int64))), (0, .ref (ez_B X + 118)), (1, .int line), (2, .int name), (3, .int part)] dX12_odds_119 rfl rfl (ez_lt hnL rfl) rfl ?_
        refine ez_goto hX 46 dX12_odds_122 (by decide) ?_
        refine ez_lv [2, 3, 4, 5, 1, 0] rfl ?_
        exact ih M13 line name part (so + (0 : Int64)) (v + (1 : Int32)) hs (Eq.trans (by simp only [et_X12_odds_46, if_neg c8, eM10, eM11, if_neg c12, eM13]) hT)
      · -- c12 on
        have hs := hs.1 c12
        refine ez_aload_n hX 0 dX12_odds_80 rfl ?_
        refine ez_getr hX kc_118 rfl (Nat.le_of_ble_eq_true rfl) lc_118 (Nat.le_of_ble_eq_true rfl) inX12 119 rfl rc_118_0 wf_X12_11 dX12_odds_81 ?_
        refine ez_bipush hX (8 : Int32) dX12_odds_84 (by decide) ?_
        refine ez_iald hX kc_119 lc_119 (by unfold vp_in; decide) dX12_odds_86 ?_
        refine ez_if_ne hX 104 dX12_odds_87 (by decide) (fun c14 => ?_) (fun c14 => ?_)
        · -- c14 jump
          have hs := hs.2 c14
          refine ez_lconst hX (0 : Int64) dX12_odds_104 (by decide) ?_
          refine ez_ladd hX dX12_odds_105 ?_
          refine ez_lstore hX [(4, .long (so + (0 : Int64))), (0, .ref (ez_B X + 118)), (1, .int line), (2, .int name), (3, .int part), (6, .int v)] dX12_odds_106 (ez_lt hnL rfl) rfl ?_
          refine ez_aload_n hX 1 dX12_odds_108 rfl ?_
          refine ez_getr hX kc_118 rfl (Nat.le_of_ble_eq_true rfl) lc_118 (Nat.le_of_ble_eq_true rfl) inX12 120 rfl rc_118_1 wf_X12_15 dX12_odds_109 ?_
          refine ez_aload_n hX 1 dX12_odds_112 rfl ?_
          refine ez_getr hX kc_118 rfl (Nat.le_of_ble_eq_true rfl) lc_118 (Nat.le_of_ble_eq_true rfl) inX12 119 rfl rc_118_0 wf_X12_11 dX12_odds_113 ?_
          refine ez_callS hX (N0 := 0) (As := [.ref (ez_B X + 120), .ref (ez_B X + 119)]) (st := []) (ec_X12_copies _ _ _ 120 5880 kc_120 lc_120 119 5880 kc_119 lc_119 M11 hs.1) (Or.inl rfl) wm_X12_225 ws_X12_copies wy_X12_copies rfl wd_X12_copies wi_X12 (ez_rok hRm rfl) (Nat.le_of_ble_eq_true rfl) dX12_odds_116 ?_
          have hs := hs.2
          refine ez_nmM (fun M15 eM15 => ?_)
          have hs := hs M15 eM15
          refine ez_iinc hX (v + (1 : Int32)) 5 [(6, .int (v + (1 : Int32))), (4, .long (so + (0 : Int64))), (0, .ref (ez_B X + 118)), (1, .int line), (2, .int name), (3, .int part)] dX12_odds_119 rfl rfl (ez_lt hnL rfl) rfl ?_
          refine ez_goto hX 46 dX12_odds_122 (by decide) ?_
          refine ez_lv [2, 3, 4, 5, 1, 0] rfl ?_
          exact ih M15 line name part (so + (0 : Int64)) (v + (1 : Int32)) hs (Eq.trans (by simp only [et_X12_odds_46, if_neg c8, eM10, eM11, if_pos c12, if_neg c14, eM15]) hT)
        · -- c14 on
          have hs := hs.1 c14
          refine ez_aload_n hX 0 dX12_odds_90 rfl ?_
          refine ez_getr hX kc_118 rfl (Nat.le_of_ble_eq_true rfl) lc_118 (Nat.le_of_ble_eq_true rfl) inX12 119 rfl rc_118_0 wf_X12_11 dX12_odds_91 ?_
          refine ez_bipush hX (9 : Int32) dX12_odds_94 (by decide) ?_
          refine ez_iald hX kc_119 lc_119 (by unfold vp_in; decide) dX12_odds_96 ?_
          refine ez_if_eq hX 104 dX12_odds_97 (by decide) (fun c16 => ?_) (fun c16 => ?_)
          · -- c16 jump
            have hs := hs.1 c16
            refine ez_lconst hX (0 : Int64) dX12_odds_104 (by decide) ?_
            refine ez_ladd hX dX12_odds_105 ?_
            refine ez_lstore hX [(4, .long (so + (0 : Int64))), (0, .ref (ez_B X + 118)), (1, .int line), (2, .int name), (3, .int part), (6, .int v)] dX12_odds_106 (ez_lt hnL rfl) rfl ?_
            refine ez_aload_n hX 1 dX12_odds_108 rfl ?_
            refine ez_getr hX kc_118 rfl (Nat.le_of_ble_eq_true rfl) lc_118 (Nat.le_of_ble_eq_true rfl) inX12 120 rfl rc_118_1 wf_X12_15 dX12_odds_109 ?_
            refine ez_aload_n hX 1 dX12_odds_112 rfl ?_
            refine ez_getr hX kc_118 rfl (Nat.le_of_ble_eq_true rfl) lc_118 (Nat.le_of_ble_eq_true rfl) inX12 119 rfl rc_118_0 wf_X12_11 dX12_odds_113 ?_
            refine ez_callS hX (N0 := 0) (As := [.ref (ez_B X + 120), .ref (ez_B X + 119)]) (st := []) (ec_X12_copies _ _ _ 120 5880 kc_120 lc_120 119 5880 kc_119 lc_119 M11 hs.1) (Or.inl rfl) wm_X12_225 ws_X12_copies wy_X12_copies rfl wd_X12_copies wi_X12 (ez_rok hRm rfl) (Nat.le_of_ble_eq_true rfl) dX12_odds_116 ?_
            have hs := hs.2
            refine ez_nmM (fun M17 eM17 => ?_)
            have hs := hs M17 eM17
            refine ez_iinc hX (v + (1 : Int32)) 5 [(6, .int (v + (1 : Int32))), (4, .long (so + (0 : Int64))), (0, .ref (ez_B X + 118)), (1, .int line), (2, .int name), (3, .int part)] dX12_odds_119 rfl rfl (ez_lt hnL rfl) rfl ?_
            refine ez_goto hX 46 dX12_odds_122 (by decide) ?_
            refine ez_lv [2, 3, 4, 5, 1, 0] rfl ?_
            exact ih M17 line name part (so + (0 : Int64)) (v + (1 : Int32)) hs (Eq.trans (by simp only [et_X12_odds_46, if_neg c8, eM10, eM11, if_pos c12, if_pos c14, if_pos c16, eM17]) hT)
          · -- c16 on
            have hs := hs.2 c16
            refine ez_lconst hX (1 : Int64) dX12_odds_100 (by decide) ?_
            refine ez_goto hX 105 dX12_odds_101 (by decide) ?_
            refine ez_ladd hX dX12_odds_105 ?_
            refine ez_lstore hX [(4, .long (so + (1 : Int64))), (0, .ref (ez_B X + 118)), (1, .int line), (2, .int name), (3, .int part), (6, .int v)] dX12_odds_106 (ez_lt hnL rfl) rfl ?_
            refine ez_aload_n hX 1 dX12_odds_108 rfl ?_
            refine ez_getr hX kc_118 rfl (Nat.le_of_ble_eq_true rfl) lc_118 (Nat.le_of_ble_eq_true rfl) inX12 120 rfl rc_118_1 wf_X12_15 dX12_odds_109 ?_
            refine ez_aload_n hX 1 dX12_odds_112 rfl ?_
            refine ez_getr hX kc_118 rfl (Nat.le_of_ble_eq_true rfl) lc_118 (Nat.le_of_ble_eq_true rfl) inX12 119 rfl rc_118_0 wf_X12_11 dX12_odds_113 ?_
            refine ez_callS hX (N0 := 0) (As := [.ref (ez_B X + 120), .ref (ez_B X + 119)]) (st := []) (ec_X12_copies _ _ _ 120 5880 kc_120 lc_120 119 5880 kc_119 lc_119 M11 hs.1) (Or.inl rfl) wm_X12_225 ws_X12_copies wy_X12_copies rfl wd_X12_copies wi_X12 (ez_rok hRm rfl) (Nat.le_of_ble_eq_true rfl) dX12_odds_116 ?_
            have hs := hs.2
            refine ez_nmM (fun M18 eM18 => ?_)
            have hs := hs M18 eM18
            refine ez_iinc hX (v + (1 : Int32)) 5 [(6, .int (v + (1 : Int32))), (4, .long (so + (1 : Int64))), (0, .ref (ez_B X + 118)), (1, .int line), (2, .int name), (3, .int part)] dX12_odds_119 rfl rfl (ez_lt hnL rfl) rfl ?_
            refine ez_goto hX 46 dX12_odds_122 (by decide) ?_
            refine ez_lv [2, 3, 4, 5, 1, 0] rfl ?_
            exact ih M18 line name part (so + (1 : Int64)) (v + (1 : Int32)) hs (Eq.trans (by simp only [et_X12_odds_46, if_neg c8, eM10, eM11, if_pos c12, if_pos c14, if_neg c16, eM18]) hT)
set_option maxHeartbeats 4000000 in
set_option maxRecDepth 100000 in
theorem ec_X12_odds (l : Launch) (D : em_G) (B : Nat) (M : em_M) (line : Int32) (name : Int32) (part : Int32) (hs : es_X12_odds M line name part) : em_C l D B yX12_odds cX12_odds 7 (some .long) 7 178 0 0 false [.ref (B + 118), .int line, .int name, .int part] 132 em_R M (some (.long (et_X12_odds M line name part).1)) 132 em_R ((et_X12_odds M line name part).2) := by
  refine em_C_of RX12 [(0, .ref (B + 118)), (1, .int line), (2, .int name), (3, .int part)] (by decide) rfl rfl (Nat.le_of_ble_eq_true rfl) ?_
  rintro X rfl rfl rfl hRm hnL hnm hsz hX hQ
  obtain ⟨t0, hT⟩ : ∃ tz, et_X12_odds M line name part = tz := ⟨_, rfl⟩
  rw [hT] at hQ
  rw [es_X12_odds] at hs
  refine ez_aload_n hX 0 dX12_odds_0 rfl ?_
  refine ez_iload_n hX 1 dX12_odds_1 rfl ?_
  refine ez_callV hX (N0 := 0) (As := [.int line]) (st := []) kc_118 (Nat.le_of_ble_eq_true rfl) lc_118 rfl (ec_X12_isLine _ _ _ M line) (Or.inl rfl) wm_X12_124 wv_X12_isLine we_X12_isLine wy_X12_isLine rfl wd_X12_isLine wi_X12 (ez_rok hRm rfl) (Nat.le_of_ble_eq_true rfl) dX12_odds_2 ?_
  refine ez_nmI (fun r1 er1 => ?_)
  have hs := hs r1 er1
  refine ez_if_eq hX 25 dX12_odds_5 (by decide) (fun c2 => ?_) (fun c2 => ?_)
  · -- c2 jump
    have hs := hs.1 c2
    refine ez_ldc2 hX wl_X12_134 dX12_odds_25 ?_
    have ht : t0 = ((-9223372036854775808 : Int64), M) := hT.symm.trans (by simp only [et_X12_odds, er1, if_pos c2])
    subst ht
    exact ez_lret hX hQ dX12_odds_28 rfl rfl
  · -- c2 on
    have hs := hs.2 c2
    refine ez_iload_n hX 2 dX12_odds_8 rfl ?_
    refine ez_callS hX (N0 := 0) (As := [.int name]) (st := []) (ec_X12_isName _ _ _ M name) (Or.inl rfl) wm_X12_131 ws_X12_isName wy_X12_isName rfl wd_X12_isName wi_X12 (ez_rok hRm rfl) (Nat.le_of_ble_eq_true rfl) dX12_odds_9 ?_
    refine ez_nmI (fun r3 er3 => ?_)
    have hs := hs r3 er3
    refine ez_if_eq hX 25 dX12_odds_12 (by decide) (fun c4 => ?_) (fun c4 => ?_)
    · -- c4 jump
      have hs := hs.1 c4
      refine ez_ldc2 hX wl_X12_134 dX12_odds_25 ?_
      have ht : t0 = ((-9223372036854775808 : Int64), M) := hT.symm.trans (by simp only [et_X12_odds, er1, if_neg c2, er3, if_pos c4])
      subst ht
      exact ez_lret hX hQ dX12_odds_28 rfl rfl
    · -- c4 on
      have hs := hs.2 c4
      refine ez_iload_n hX 3 dX12_odds_15 rfl ?_
      refine ez_i2l hX dX12_odds_16 ?_
      refine ez_lconst hX (0 : Int64) dX12_odds_17 (by decide) ?_
      refine ez_lconst hX (1 : Int64) dX12_odds_18 (by decide) ?_
      refine ez_callS hX (N0 := 0) (As := [.long ((part).toInt64), .long (0 : Int64), .long (1 : Int64)]) (st := []) (ec_X12_in _ _ _ M ((part).toInt64) (0 : Int64) (1 : Int64)) (Or.inl rfl) wm_X12_54 ws_X12_in wy_X12_in rfl wd_X12_in wi_X12 (ez_rok hRm rfl) (Nat.le_of_ble_eq_true rfl) dX12_odds_19 ?_
      refine ez_nmI (fun r5 er5 => ?_)
      have hs := hs r5 er5
      refine ez_if_ne hX 29 dX12_odds_22 (by decide) (fun c6 => ?_) (fun c6 => ?_)
      · -- c6 jump
        have hs := hs.2 c6
        refine ez_lconst hX (0 : Int64) dX12_odds_29 (by decide) ?_
        refine ez_lstore hX [(4, .long (0 : Int64)), (0, .ref (ez_B X + 118)), (1, .int line), (2, .int name), (3, .int part)] dX12_odds_30 (ez_lt hnL rfl) rfl ?_
        refine ez_aload_n hX 1 dX12_odds_32 rfl ?_
        refine ez_getr hX kc_118 rfl (Nat.le_of_ble_eq_true rfl) lc_118 (Nat.le_of_ble_eq_true rfl) inX12 119 rfl rc_118_0 wf_X12_11 dX12_odds_33 ?_
        refine ez_aload_n hX 1 dX12_odds_36 rfl ?_
        refine ez_getr hX kc_118 rfl (Nat.le_of_ble_eq_true rfl) lc_118 (Nat.le_of_ble_eq_true rfl) inX12 120 rfl rc_118_1 wf_X12_15 dX12_odds_37 ?_
        refine ez_callS hX (N0 := 0) (As := [.ref (ez_B X + 119), .ref (ez_B X + 120)]) (st := []) (ec_X12_copies _ _ _ 119 5880 kc_119 lc_119 120 5880 kc_120 lc_120 M hs.1) (Or.inl rfl) wm_X12_225 ws_X12_copies wy_X12_copies rfl wd_X12_copies wi_X12 (ez_rok hRm rfl) (Nat.le_of_ble_eq_true rfl) dX12_odds_40 ?_
        have hs := hs.2
        refine ez_nmM (fun M7 eM7 => ?_)
        have hs := hs M7 eM7
        refine ez_iconst hX (0 : Int32) dX12_odds_43 (by decide) ?_
        refine ez_istore hX [(6, .int (0 : Int32)), (4, .long (0 : Int64)), (0, .ref (ez_B X + 118)), (1, .int line), (2, .int name), (3, .int part)] dX12_odds_44 (ez_lt hnL rfl) rfl ?_
        refine ez_lv [2, 3, 4, 5, 1, 0] rfl ?_
        exact el_X12_odds_46 X  t0 hRm hnL hX hQ 11 M7 line name part (0 : Int64) (0 : Int32) hs (Eq.trans (by simp only [et_X12_odds, er1, if_neg c2, er3, if_neg c4, er5, if_neg c6, eM7]) hT)
      · -- c6 on
        have hs := hs.1 c6
        refine ez_ldc2 hX wl_X12_134 dX12_odds_25 ?_
        have ht : t0 = ((-9223372036854775808 : Int64), M) := hT.symm.trans (by simp only [et_X12_odds, er1, if_neg c2, er3, if_neg c4, er5, if_pos c6])
        subst ht
        exact ez_lret hX hQ dX12_odds_28 rfl rfl

def et_X12_mean_52   : Nat → em_M → Int32 → Int32 → Int64 → Int32 → Int32 → Int64 × em_M
  | 0, M, _, _, _, _, _ => (0, M)
  | fu + 1, M, line, part, sum, n, k =>
  (if n ≤ k then let M8 := et_X12_copies 120 5880 119 5880 M
  (if n = 0 then ((-9223372036854775808 : Int64), M8) else let r10 := et_X12_lowest M8 sum ((n).toInt64) part
  (r10, M8)) else et_X12_mean_52 fu M line part (sum + ((M.1 119 (((74 : Int32) + k)).toNatClampNeg)).toInt64) n (k + (1 : Int32)))
def es_X12_mean_52   : Nat → em_M → Int32 → Int32 → Int64 → Int32 → Int32 → Prop
  | 0, _, _, _, _, _, _ => False
  | fu + 1, M, line, part, sum, n, k =>
  ((n ≤ k) → (es_X12_copies 120 5880 119 5880 M ∧ (∀ M8 : em_M, et_X12_copies 120 5880 119 5880 M = M8 → (
  ((n = 0) → (True)) ∧
  (¬ (n = 0) → (es_X12_lowest M8 sum ((n).toInt64) part ∧ (∀ r10 : Int64, et_X12_lowest M8 sum ((n).toInt64) part = r10 → (
  True)))))))) ∧
  (¬ (n ≤ k) → (vp_in ((74 : Int32) + k) 5880 ∧ (es_X12_mean_52 fu M line part (sum + ((M.1 119 (((74 : Int32) + k)).toNatClampNeg)).toInt64) n (k + (1 : Int32)))))
def et_X12_mean  (M : em_M) (line : Int32) (part : Int32) : Int64 × em_M :=
  let r1 := et_X12_isLine M line
  (if r1 = 0 then ((-9223372036854775808 : Int64), M) else let r3 := et_X12_in M ((part).toInt64) (0 : Int64) (1 : Int64)
  (if r3 = 0 then ((-9223372036854775808 : Int64), M) else let M5 := et_X12_copies 119 5880 120 5880 M
  let M6 := et_X12_runs M5 line
  et_X12_mean_52 42 M6 line part (0 : Int64) (M6.1 119 ((12 : Int32)).toNatClampNeg) (0 : Int32)))
def es_X12_mean  (M : em_M) (line : Int32) (part : Int32) : Prop :=
  ∀ r1 : Int32, et_X12_isLine M line = r1 → (
  ((r1 = 0) → (True)) ∧
  (¬ (r1 = 0) → (∀ r3 : Int32, et_X12_in M ((part).toInt64) (0 : Int64) (1 : Int64) = r3 → (
  ((r3 = 0) → (True)) ∧
  (¬ (r3 = 0) → (es_X12_copies 119 5880 120 5880 M ∧ (∀ M5 : em_M, et_X12_copies 119 5880 120 5880 M = M5 → (
  es_X12_runs M5 line ∧ (∀ M6 : em_M, et_X12_runs M5 line = M6 → (
  es_X12_mean_52 42 M6 line part (0 : Int64) (M6.1 119 ((12 : Int32)).toNatClampNeg) (0 : Int32)))))))))))
set_option maxHeartbeats 4000000 in
set_option maxRecDepth 100000 in
theorem el_X12_mean_52 (X : em_X)    (t0 : Int64 × em_M) (hRm : ez_rm X = { frames := 7, cells := 0, slots := 0, locals := 178 }) (hnL : ez_nL X = 7) (hX : ez_ok X cX12_mean RX12) (hQ : ez_ret X (some .long) (some (.long t0.1)) 132 em_R (t0.2) 0 0) : ∀ (fu : Nat) (M : em_M) (line : Int32) (part : Int32) (sum : Int64) (n : Int32) (k : Int32), es_X12_mean_52  fu M line part sum n k → et_X12_mean_52  fu M line part sum n k = t0 → ez_Z X 132 em_R M 0 0 52 [(0, .ref (ez_B X + 118)), (1, .int line), (2, .int part), (3, .long sum), (5, .int n), (6, .int k)] [] := by
  intro fu
  induction fu with
  | zero =>
    intro M line part sum n k hs hT
    exact False.elim hs
  | succ fu ih =>
    intro M line part sum n k hs hT
    rw [es_X12_mean_52] at hs
    refine ez_iload hX 5 dX12_mean_52 rfl ?_
    refine ez_iload hX 4 dX12_mean_54 rfl ?_
    refine ez_icmp_ge hX 79 dX12_mean_56 (by decide) (fun c7 => ?_) (fun c7 => ?_)
    · -- c7 jump
      have hs := hs.1 c7
      refine ez_aload_n hX 0 dX12_mean_79 rfl ?_
      refine ez_getr hX kc_118 rfl (Nat.le_of_ble_eq_true rfl) lc_118 (Nat.le_of_ble_eq_true rfl) inX12 120 rfl rc_118_1 wf_X12_15 dX12_mean_80 ?_
      refine ez_aload_n hX 0 dX12_mean_83 rfl ?_
      refine ez_getr hX kc_118 rfl (Nat.le_of_ble_eq_true rfl) lc_118 (Nat.le_of_ble_eq_true rfl) inX12 119 rfl rc_118_0 wf_X12_11 dX12_mean_84 ?_
      refine ez_callS hX (N0 := 0) (As := [.ref (ez_B X + 120), .ref (ez_B X + 119)]) (st := []) (ec_X12_copies _ _ _ 120 5880 kc_120 lc_120 119 5880 kc_119 lc_119 M hs.1) (Or.inl rfl) wm_X12_225 ws_X12_copies wy_X12_copies rfl wd_X12_copies wi_X12 (ez_rok hRm rfl) (Nat.le_of_ble_eq_true rfl) dX12_mean_87 ?_
      have hs := hs.2
      refine ez_nmM (fun M8 eM8 => ?_)
      have hs := hs M8 eM8
      refine ez_iload hX 4 dX12_mean_90 rfl ?_
      refine ez_if_ne hX 101 dX12_mean_92 (by decide) (fun c9 => ?_) (fun c9 => ?_)
      · -- c9 jump
        have hs := hs.2 c9
        refine ez_lload_n hX 3 dX12_mean_101 rfl ?_
        refine ez_iload hX 4 dX12_mean_102 rfl ?_
        refine ez_i2l hX dX12_mean_104 ?_
        refine ez_iload_n hX 2 dX12_mean_105 rfl ?_
        refine ez_callS hX (N0 := 0) (As := [.long sum, .long ((n).toInt64), .int part]) (st := []) (ec_X12_lowest _ _ _ M8 sum ((n).toInt64) part hs.1) (Or.inl rfl) wm_X12_233 ws_X12_lowest wy_X12_lowest rfl wd_X12_lowest wi_X12 (ez_rok hRm rfl) (Nat.le_of_ble_eq_true rfl) dX12_mean_106 ?_
        have hs := hs.2
        refine ez_nmL (fun r10 er10 => ?_)
        have hs := hs r10 er10
        have ht : t0 = (r10, M8) := hT.symm.trans (by simp only [et_X12_mean_52, if_pos c7, eM8, if_neg c9, er10])
        subst ht
        exact ez_lret hX hQ dX12_mean_109 rfl rfl
      · -- c9 on
        have hs := hs.1 c9
        refine ez_ldc2 hX wl_X12_134 dX12_mean_95 ?_
        refine ez_goto hX 109 dX12_mean_98 (by decide) ?_
        have ht : t0 = ((-9223372036854775808 : Int64), M8) := hT.symm.trans (by simp only [et_X12_mean_52, if_pos c7, eM8, if_pos c9])
        subst ht
        exact ez_lret hX hQ dX12_mean_109 rfl rfl
    · -- c7 on
      have hs := hs.2 c7
      refine ez_lload_n hX 3 dX12_mean_59 rfl ?_
      refine ez_aload_n hX 0 dX12_mean_60 rfl ?_
      refine ez_getr hX kc_118 rfl (Nat.le_of_ble_eq_true rfl) lc_118 (Nat.le_of_ble_eq_true rfl) inX12 119 rfl rc_118_0 wf_X12_11 dX12_mean_61 ?_
      refine ez_bipush hX (74 : Int32) dX12_mean_64 (by decide) ?_
      refine ez_iload hX 5 dX12_mean_66 rfl ?_
      refine ez_iadd hX dX12_mean_68 ?_
      refine ez_iald hX kc_119 lc_119 hs.1 dX12_mean_69 ?_
      have hs := hs.2
      refine ez_i2l hX dX12_mean_70 ?_
      refine ez_ladd hX dX12_mean_71 ?_
      refine ez_lstore_n hX [(3, .long (sum + ((M.1 119 (((74 : Int32) + k)).toNatClampNeg)).toInt64)), (0, .ref (ez_B X + 118)), (1, .int line), (2, .int part), (5, .int n), (6, .int k)] dX12_mean_72 (ez_lt hnL rfl) rfl ?_
      refine ez_iinc hX (k + (1 : Int32)) 5 [(6, .int (k + (1 : Int32))), (3, .long (sum + ((M.1 119 (((74 : Int32) + k)).toNatClampNeg)).toInt64)), (0, .ref (ez_B X + 118)), (1, .int line), (2, .int part), (5, .int n)] dX12_mean_73 rfl rfl (ez_lt hnL rfl) rfl ?_
      refine ez_goto hX 52 dX12_mean_76 (by decide) ?_
      refine ez_lv [2, 3, 4, 1, 5, 0] rfl ?_
      exact ih M line part (sum + ((M.1 119 (((74 : Int32) + k)).toNatClampNeg)).toInt64) n (k + (1 : Int32)) hs (Eq.trans (by simp only [et_X12_mean_52, if_neg c7]) hT)
set_option maxHeartbeats 4000000 in
set_option maxRecDepth 100000 in
theorem ec_X12_mean (l : Launch) (D : em_G) (B : Nat) (M : em_M) (line : Int32) (part : Int32) (hs : es_X12_mean M line part) : em_C l D B yX12_mean cX12_mean 7 (some .long) 7 178 0 0 false [.ref (B + 118), .int line, .int part] 132 em_R M (some (.long (et_X12_mean M line part).1)) 132 em_R ((et_X12_mean M line part).2) := by
  refine em_C_of RX12 [(0, .ref (B + 118)), (1, .int line), (2, .int part)] (by decide) rfl rfl (Nat.le_of_ble_eq_true rfl) ?_
  rintro X rfl rfl rfl hRm hnL hnm hsz hX hQ
  obtain ⟨t0, hT⟩ : ∃ tz, et_X12_mean M line part = tz := ⟨_, rfl⟩
  rw [hT] at hQ
  rw [es_X12_mean] at hs
  refine ez_aload_n hX 0 dX12_mean_0 rfl ?_
  refine ez_iload_n hX 1 dX12_mean_1 rfl ?_
  refine ez_callV hX (N0 := 0) (As := [.int line]) (st := []) kc_118 (Nat.le_of_ble_eq_true rfl) lc_118 rfl (ec_X12_isLine _ _ _ M line) (Or.inl rfl) wm_X12_124 wv_X12_isLine we_X12_isLine wy_X12_isLine rfl wd_X12_isLine wi_X12 (ez_rok hRm rfl) (Nat.le_of_ble_eq_true rfl) dX12_mean_2 ?_
  refine ez_nmI (fun r1 er1 => ?_)
  have hs := hs r1 er1
  refine ez_if_eq hX 18 dX12_mean_5 (by decide) (fun c2 => ?_) (fun c2 => ?_)
  · -- c2 jump
    have hs := hs.1 c2
    refine ez_ldc2 hX wl_X12_134 dX12_mean_18 ?_
    have ht : t0 = ((-9223372036854775808 : Int64), M) := hT.symm.trans (by simp only [et_X12_mean, er1, if_pos c2])
    subst ht
    exact ez_lret hX hQ dX12_mean_21 rfl rfl
  · -- c2 on
    have hs := hs.2 c2
    refine ez_iload_n hX 2 dX12_mean_8 rfl ?_
    refine ez_i2l hX dX12_mean_9 ?_
    refine ez_lconst hX (0 : Int64) dX12_mean_10 (by decide) ?_
    refine ez_lconst hX (1 : Int64) dX12_mean_11 (by decide) ?_
    refine ez_callS hX (N0 := 0) (As := [.long ((part).toInt64), .long (0 : Int64), .long (1 : Int64)]) (st := []) (ec_X12_in _ _ _ M ((part).toInt64) (0 : Int64) (1 : Int64)) (Or.inl rfl) wm_X12_54 ws_X12_in wy_X12_in rfl wd_X12_in wi_X12 (ez_rok hRm rfl) (Nat.le_of_ble_eq_true rfl) dX12_mean_12 ?_
    refine ez_nmI (fun r3 er3 => ?_)
    have hs := hs r3 er3
    refine ez_if_ne hX 22 dX12_mean_15 (by decide) (fun c4 => ?_) (fun c4 => ?_)
    · -- c4 jump
      have hs := hs.2 c4
      refine ez_aload_n hX 0 dX12_mean_22 rfl ?_
      refine ez_getr hX kc_118 rfl (Nat.le_of_ble_eq_true rfl) lc_118 (Nat.le_of_ble_eq_true rfl) inX12 119 rfl rc_118_0 wf_X12_11 dX12_mean_23 ?_
      refine ez_aload_n hX 0 dX12_mean_26 rfl ?_
      refine ez_getr hX kc_118 rfl (Nat.le_of_ble_eq_true rfl) lc_118 (Nat.le_of_ble_eq_true rfl) inX12 120 rfl rc_118_1 wf_X12_15 dX12_mean_27 ?_
      refine ez_callS hX (N0 := 0) (As := [.ref (ez_B X + 119), .ref (ez_B X + 120)]) (st := []) (ec_X12_copies _ _ _ 119 5880 kc_119 lc_119 120 5880 kc_120 lc_120 M hs.1) (Or.inl rfl) wm_X12_225 ws_X12_copies wy_X12_copies rfl wd_X12_copies wi_X12 (ez_rok hRm rfl) (Nat.le_of_ble_eq_true rfl) dX12_mean_30 ?_
      have hs := hs.2
      refine ez_nmM (fun M5 eM5 => ?_)
      have hs := hs M5 eM5
      refine ez_aload_n hX 0 dX12_mean_33 rfl ?_
      refine ez_iload_n hX 1 dX12_mean_34 rfl ?_
      refine ez_callV hX (N0 := 0) (As := [.int line]) (st := []) kc_118 (Nat.le_of_ble_eq_true rfl) lc_118 rfl (ec_X12_runs _ _ _ M5 line hs.1) (Or.inl rfl) wm_X12_196 wv_X12_runs we_X12_runs wy_X12_runs rfl wd_X12_runs wi_X12 (ez_rok hRm rfl) (Nat.le_of_ble_eq_true rfl) dX12_mean_35 ?_
      have hs := hs.2
      refine ez_nmM (fun M6 eM6 => ?_)
      have hs := hs M6 eM6
      refine ez_lconst hX (0 : Int64) dX12_mean_38 (by decide) ?_
      refine ez_lstore_n hX [(3, .long (0 : Int64)), (0, .ref (ez_B X + 118)), (1, .int line), (2, .int part)] dX12_mean_39 (ez_lt hnL rfl) rfl ?_
      refine ez_aload_n hX 1 dX12_mean_40 rfl ?_
      refine ez_getr hX kc_118 rfl (Nat.le_of_ble_eq_true rfl) lc_118 (Nat.le_of_ble_eq_true rfl) inX12 119 rfl rc_118_0 wf_X12_11 dX12_mean_41 ?_
      refine ez_bipush hX (12 : Int32) dX12_mean_44 (by decide) ?_
      refine ez_iald hX kc_119 lc_119 (by unfold vp_in; decide) dX12_mean_46 ?_
      refine ez_istore hX [(5, .int (M6.1 119 ((12 : Int32)).toNatClampNeg)), (3, .long (0 : Int64)), (0, .ref (ez_B X + 118)), (1, .int line), (2, .int part)] dX12_mean_47 (ez_lt hnL rfl) rfl ?_
      refine ez_iconst hX (0 : Int32) dX12_mean_49 (by decide) ?_
      refine ez_istore hX [(6, .int (0 : Int32)), (5, .int (M6.1 119 ((12 : Int32)).toNatClampNeg)), (3, .long (0 : Int64)), (0, .ref (ez_B X + 118)), (1, .int line), (2, .int part)] dX12_mean_50 (ez_lt hnL rfl) rfl ?_
      refine ez_lv [3, 4, 5, 2, 1, 0] rfl ?_
      exact el_X12_mean_52 X  t0 hRm hnL hX hQ 42 M6 line part (0 : Int64) (M6.1 119 ((12 : Int32)).toNatClampNeg) (0 : Int32) hs (Eq.trans (by simp only [et_X12_mean, er1, if_neg c2, er3, if_neg c4, eM5, eM6]) hT)
    · -- c4 on
      have hs := hs.1 c4
      refine ez_ldc2 hX wl_X12_134 dX12_mean_18 ?_
      have ht : t0 = ((-9223372036854775808 : Int64), M) := hT.symm.trans (by simp only [et_X12_mean, er1, if_neg c2, er3, if_pos c4])
      subst ht
      exact ez_lret hX hQ dX12_mean_21 rfl rfl

def et_X12_plan  (M : em_M) (what : Int32) (n : Int32) : Int32 × em_M :=
  (if what = (-1 : Int32) then let M23 := em_pI M 119 ((26 : Int32)).toNatClampNeg (0 : Int32)
  ((0 : Int32), M23) else (if what = 0 then let r17 := et_X12_isLine M n
  (if r17 = 0 then ((-1 : Int32), M) else (if (M.1 119 ((26 : Int32)).toNatClampNeg) = (10 : Int32) then ((-4 : Int32), M) else let M20 := em_pI M 119 (((38 : Int32) + ((2 : Int32) * (M.1 119 ((26 : Int32)).toNatClampNeg)))).toNatClampNeg what
  let M21 := em_pI M20 119 ((((38 : Int32) + ((2 : Int32) * (M.1 119 ((26 : Int32)).toNatClampNeg))) + (1 : Int32))).toNatClampNeg n
  let M22 := em_pI M21 119 ((26 : Int32)).toNatClampNeg ((M.1 119 ((26 : Int32)).toNatClampNeg) + (1 : Int32))
  (((M.1 119 ((26 : Int32)).toNatClampNeg) + (1 : Int32)), M22))) else (if what = (1 : Int32) then let r11 := et_X12_isName M n
  (if r11 = 0 then ((-1 : Int32), M) else (if (M.1 119 ((26 : Int32)).toNatClampNeg) = (10 : Int32) then ((-4 : Int32), M) else let M14 := em_pI M 119 (((38 : Int32) + ((2 : Int32) * (M.1 119 ((26 : Int32)).toNatClampNeg)))).toNatClampNeg what
  let M15 := em_pI M14 119 ((((38 : Int32) + ((2 : Int32) * (M.1 119 ((26 : Int32)).toNatClampNeg))) + (1 : Int32))).toNatClampNeg n
  let M16 := em_pI M15 119 ((26 : Int32)).toNatClampNeg ((M.1 119 ((26 : Int32)).toNatClampNeg) + (1 : Int32))
  (((M.1 119 ((26 : Int32)).toNatClampNeg) + (1 : Int32)), M16))) else (if what = (2 : Int32) then let r5 := et_X12_in M ((n).toInt64) (0 : Int64) (2 : Int64)
  (if r5 = 0 then ((-1 : Int32), M) else (if (M.1 119 ((26 : Int32)).toNatClampNeg) = (10 : Int32) then ((-4 : Int32), M) else let M8 := em_pI M 119 (((38 : Int32) + ((2 : Int32) * (M.1 119 ((26 : Int32)).toNatClampNeg)))).toNatClampNeg what
  let M9 := em_pI M8 119 ((((38 : Int32) + ((2 : Int32) * (M.1 119 ((26 : Int32)).toNatClampNeg))) + (1 : Int32))).toNatClampNeg n
  let M10 := em_pI M9 119 ((26 : Int32)).toNatClampNeg ((M.1 119 ((26 : Int32)).toNatClampNeg) + (1 : Int32))
  (((M.1 119 ((26 : Int32)).toNatClampNeg) + (1 : Int32)), M10))) else ((-1 : Int32), M)))))
def es_X12_plan  (M : em_M) (what : Int32) (n : Int32) : Prop :=
  ((what = (-1 : Int32)) → (∀ M23 : em_M, em_pI M 119 ((26 : Int32)).toNatClampNeg (0 : Int32) = M23 → (
  True))) ∧
  (¬ (what = (-1 : Int32)) → (((what = 0) → (∀ r17 : Int32, et_X12_isLine M n = r17 → (
  ((r17 = 0) → (True)) ∧
  (¬ (r17 = 0) → ((((M.1 119 ((26 : Int32)).toNatClampNeg) = (10 : Int32)) → (True)) ∧
  (¬ ((M.1 119 ((26 : Int32)).toNatClampNeg) = (10 : Int32)) → (vp_in ((38 : Int32) + ((2 : Int32) * (M.1 119 ((26 : Int32)).toNatClampNeg))) 5880 ∧ (∀ M20 : em_M, em_pI M 119 (((38 : Int32) + ((2 : Int32) * (M.1 119 ((26 : Int32)).toNatClampNeg)))).toNatClampNeg what = M20 → (
  vp_in (((38 : Int32) + ((2 : Int32) * (M.1 119 ((26 : Int32)).toNatClampNeg))) + (1 : Int32)) 5880 ∧ (∀ M21 : em_M, em_pI M20 119 ((((38 : Int32) + ((2 : Int32) * (M.1 119 ((26 : Int32)).toNatClampNeg))) + (1 : Int32))).toNatClampNeg n = M21 → (
  ∀ M22 : em_M, em_pI M21 119 ((26 : Int32)).toNatClampNeg ((M.1 119 ((26 : Int32)).toNatClampNeg) + (1 : Int32)) = M22 → (
  True)))))))))))) ∧
  (¬ (what = 0) → (((what = (1 : Int32)) → (∀ r11 : Int32, et_X12_isName M n = r11 → (
  ((r11 = 0) → (True)) ∧
  (¬ (r11 = 0) → ((((M.1 119 ((26 : Int32)).toNatClampNeg) = (10 : Int32)) → (True)) ∧
  (¬ ((M.1 119 ((26 : Int32)).toNatClampNeg) = (10 : Int32)) → (vp_in ((38 : Int32) + ((2 : Int32) * (M.1 119 ((26 : Int32)).toNatClampNeg))) 5880 ∧ (∀ M14 : em_M, em_pI M 119 (((38 : Int32) + ((2 : Int32) * (M.1 119 ((26 : Int32)).toNatClampNeg)))).toNatClampNeg what = M14 → (
  vp_in (((38 : Int32) + ((2 : Int32) * (M.1 119 ((26 : Int32)).toNatClampNeg))) + (1 : Int32)) 5880 ∧ (∀ M15 : em_M, em_pI M14 119 ((((38 : Int32) + ((2 : Int32) * (M.1 119 ((26 : Int32)).toNatClampNeg))) + (1 : Int32))).toNatClampNeg n = M15 → (
  ∀ M16 : em_M, em_pI M15 119 ((26 : Int32)).toNatClampNeg ((M.1 119 ((26 : Int32)).toNatClampNeg) + (1 : Int32)) = M16 → (
  True)))))))))))) ∧
  (¬ (what = (1 : Int32)) → (((what = (2 : Int32)) → (∀ r5 : Int32, et_X12_in M ((n).toInt64) (0 : Int64) (2 : Int64) = r5 → (
  ((r5 = 0) → (True)) ∧
  (¬ (r5 = 0) → ((((M.1 119 ((26 : Int32)).toNatClampNeg) = (10 : Int32)) → (True)) ∧
  (¬ ((M.1 119 ((26 : Int32)).toNatClampNeg) = (10 : Int32)) → (vp_in ((38 : Int32) + ((2 : Int32) * (M.1 119 ((26 : Int32)).toNatClampNeg))) 5880 ∧ (∀ M8 : em_M, em_pI M 119 (((38 : Int32) + ((2 : Int32) * (M.1 119 ((26 : Int32)).toNatClampNeg)))).toNatClampNeg what = M8 → (
  vp_in (((38 : Int32) + ((2 : Int32) * (M.1 119 ((26 : Int32)).toNatClampNeg))) + (1 : Int32)) 5880 ∧ (∀ M9 : em_M, em_pI M8 119 ((((38 : Int32) + ((2 : Int32) * (M.1 119 ((26 : Int32)).toNatClampNeg))) + (1 : Int32))).toNatClampNeg n = M9 → (
  ∀ M10 : em_M, em_pI M9 119 ((26 : Int32)).toNatClampNeg ((M.1 119 ((26 : Int32)).toNatClampNeg) + (1 : Int32)) = M10 → (
  True)))))))))))) ∧
  (¬ (what = (2 : Int32)) → (True))))))))
set_option maxHeartbeats 4000000 in
set_option maxRecDepth 100000 in
theorem ec_X12_plan (l : Launch) (D : em_G) (B : Nat) (M : em_M) (what : Int32) (n : Int32) (hs : es_X12_plan M what n) : em_C l D B yX12_plan cX12_plan 5 (some .int) 2 46 0 0 false [.ref (B + 118), .int what, .int n] 132 em_R M (some (.int (et_X12_plan M what n).1)) 132 em_R ((et_X12_plan M what n).2) := by
  refine em_C_of RX12 [(0, .ref (B + 118)), (1, .int what), (2, .int n)] (by decide) rfl rfl (Nat.le_of_ble_eq_true rfl) ?_
  rintro X rfl rfl rfl hRm hnL hnm hsz hX hQ
  obtain ⟨t0, hT⟩ : ∃ tz, et_X12_plan M what n = tz := ⟨_, rfl⟩
  rw [hT] at hQ
  rw [es_X12_plan] at hs
  refine ez_iload_n hX 1 dX12_plan_0 rfl ?_
  refine ez_iconst hX (-1 : Int32) dX12_plan_1 (by decide) ?_
  refine ez_icmp_ne hX 15 dX12_plan_2 (by decide) (fun c1 => ?_) (fun c1 => ?_)
  · -- c1 jump
    have hs := hs.2 c1
    refine ez_iload_n hX 1 dX12_plan_15 rfl ?_
    refine ez_if_ne hX 27 dX12_plan_16 (by decide) (fun c2 => ?_) (fun c2 => ?_)
    · -- c2 jump
      have hs := hs.2 c2
      refine ez_iload_n hX 1 dX12_plan_27 rfl ?_
      refine ez_iconst hX (1 : Int32) dX12_plan_28 (by decide) ?_
      refine ez_icmp_ne hX 39 dX12_plan_29 (by decide) (fun c3 => ?_) (fun c3 => ?_)
      · -- c3 jump
        have hs := hs.2 c3
        refine ez_iload_n hX 1 dX12_plan_39 rfl ?_
        refine ez_iconst hX (2 : Int32) dX12_plan_40 (by decide) ?_
        refine ez_icmp_ne hX 60 dX12_plan_41 (by decide) (fun c4 => ?_) (fun c4 => ?_)
        · -- c4 jump
          have hs := hs.2 c4
          refine ez_iconst hX (0 : Int32) dX12_plan_60 (by decide) ?_
          refine ez_istore_n hX [(3, .int (0 : Int32)), (0, .ref (ez_B X + 118)), (1, .int what), (2, .int n)] dX12_plan_61 (ez_lt hnL rfl) rfl ?_
          refine ez_iload_n hX 0 dX12_plan_62 rfl ?_
          refine ez_if_ne hX 68 dX12_plan_63 (by decide) (fun c => absurd c (by decide)) (fun _ => ?_)
          refine ez_iconst hX (-1 : Int32) dX12_plan_66 (by decide) ?_
          have ht : t0 = ((-1 : Int32), M) := hT.symm.trans (by simp only [et_X12_plan, if_neg c1, if_neg c2, if_neg c3, if_neg c4])
          subst ht
          exact ez_iret hX hQ dX12_plan_67 rfl rfl
        · -- c4 on
          have hs := hs.1 c4
          refine ez_iload_n hX 2 dX12_plan_44 rfl ?_
          refine ez_i2l hX dX12_plan_45 ?_
          refine ez_lconst hX (0 : Int64) dX12_plan_46 (by decide) ?_
          refine ez_ldc2 hX wl_X12_129 dX12_plan_47 ?_
          refine ez_callS hX (N0 := 0) (As := [.long ((n).toInt64), .long (0 : Int64), .long (2 : Int64)]) (st := []) (ec_X12_in _ _ _ M ((n).toInt64) (0 : Int64) (2 : Int64)) (Or.inl rfl) wm_X12_54 ws_X12_in wy_X12_in rfl wd_X12_in wi_X12 (ez_rok hRm rfl) (Nat.le_of_ble_eq_true rfl) dX12_plan_50 ?_
          refine ez_nmI (fun r5 er5 => ?_)
          have hs := hs r5 er5
          refine ez_if_eq hX 60 dX12_plan_53 (by decide) (fun c6 => ?_) (fun c6 => ?_)
          · -- c6 jump
            have hs := hs.1 c6
            refine ez_iconst hX (0 : Int32) dX12_plan_60 (by decide) ?_
            refine ez_istore_n hX [(3, .int (0 : Int32)), (0, .ref (ez_B X + 118)), (1, .int what), (2, .int n)] dX12_plan_61 (ez_lt hnL rfl) rfl ?_
            refine ez_iload_n hX 0 dX12_plan_62 rfl ?_
            refine ez_if_ne hX 68 dX12_plan_63 (by decide) (fun c => absurd c (by decide)) (fun _ => ?_)
            refine ez_iconst hX (-1 : Int32) dX12_plan_66 (by decide) ?_
            have ht : t0 = ((-1 : Int32), M) := hT.symm.trans (by simp only [et_X12_plan, if_neg c1, if_neg c2, if_neg c3, if_pos c4, er5, if_pos c6])
            subst ht
            exact ez_iret hX hQ dX12_plan_67 rfl rfl
          · -- c6 on
            have hs := hs.2 c6
            refine ez_iconst hX (1 : Int32) dX12_plan_56 (by decide) ?_
            refine ez_goto hX 61 dX12_plan_57 (by decide) ?_
            refine ez_istore_n hX [(3, .int (1 : Int32)), (0, .ref (ez_B X + 118)), (1, .int what), (2, .int n)] dX12_plan_61 (ez_lt hnL rfl) rfl ?_
            refine ez_iload_n hX 0 dX12_plan_62 rfl ?_
            refine ez_if_ne hX 68 dX12_plan_63 (by decide) (fun _ => ?_) (fun c => absurd c (by decide))
            refine ez_aload_n hX 1 dX12_plan_68 rfl ?_
            refine ez_getr hX kc_118 rfl (Nat.le_of_ble_eq_true rfl) lc_118 (Nat.le_of_ble_eq_true rfl) inX12 119 rfl rc_118_0 wf_X12_11 dX12_plan_69 ?_
            refine ez_bipush hX (26 : Int32) dX12_plan_72 (by decide) ?_
            refine ez_iald hX kc_119 lc_119 (by unfold vp_in; decide) dX12_plan_74 ?_
            refine ez_istore hX [(4, .int (M.1 119 ((26 : Int32)).toNatClampNeg)), (3, .int (1 : Int32)), (0, .ref (ez_B X + 118)), (1, .int what), (2, .int n)] dX12_plan_75 (ez_lt hnL rfl) rfl ?_
            refine ez_iload hX 0 dX12_plan_77 rfl ?_
            refine ez_bipush hX (10 : Int32) dX12_plan_79 (by decide) ?_
            refine ez_icmp_ne hX 87 dX12_plan_81 (by decide) (fun c7 => ?_) (fun c7 => ?_)
            · -- c7 jump
              have hs := hs.2 c7
              refine ez_aload_n hX 2 dX12_plan_87 rfl ?_
              refine ez_getr hX kc_118 rfl (Nat.le_of_ble_eq_true rfl) lc_118 (Nat.le_of_ble_eq_true rfl) inX12 119 rfl rc_118_0 wf_X12_11 dX12_plan_88 ?_
              refine ez_bipush hX (38 : Int32) dX12_plan_91 (by decide) ?_
              refine ez_iconst hX (2 : Int32) dX12_plan_93 (by decide) ?_
              refine ez_iload hX 0 dX12_plan_94 rfl ?_
              refine ez_imul hX dX12_plan_96 ?_
              refine ez_iadd hX dX12_plan_97 ?_
              refine ez_iload_n hX 3 dX12_plan_98 rfl ?_
              refine ez_iast hX kc_119 lc_119 hs.1 dX12_plan_99 ?_
              have hs := hs.2
              refine ez_nmM (fun M8 eM8 => ?_)
              have hs := hs M8 eM8
              refine ez_aload_n hX 2 dX12_plan_100 rfl ?_
              refine ez_getr hX kc_118 rfl (Nat.le_of_ble_eq_true rfl) lc_118 (Nat.le_of_ble_eq_true rfl) inX12 119 rfl rc_118_0 wf_X12_11 dX12_plan_101 ?_
              refine ez_bipush hX (38 : Int32) dX12_plan_104 (by decide) ?_
              refine ez_iconst hX (2 : Int32) dX12_plan_106 (by decide) ?_
              refine ez_iload hX 0 dX12_plan_107 rfl ?_
              refine ez_imul hX dX12_plan_109 ?_
              refine ez_iadd hX dX12_plan_110 ?_
              refine ez_iconst hX (1 : Int32) dX12_plan_111 (by decide) ?_
              refine ez_iadd hX dX12_plan_112 ?_
              refine ez_iload_n hX 4 dX12_plan_113 rfl ?_
              refine ez_iast hX kc_119 lc_119 hs.1 dX12_plan_114 ?_
              have hs := hs.2
              refine ez_nmM (fun M9 eM9 => ?_)
              have hs := hs M9 eM9
              refine ez_aload_n hX 2 dX12_plan_115 rfl ?_
              refine ez_getr hX kc_118 rfl (Nat.le_of_ble_eq_true rfl) lc_118 (Nat.le_of_ble_eq_true rfl) inX12 119 rfl rc_118_0 wf_X12_11 dX12_plan_116 ?_
              refine ez_bipush hX (26 : Int32) dX12_plan_119 (by decide) ?_
              refine ez_iload hX 0 dX12_plan_121 rfl ?_
              refine ez_iconst hX (1 : Int32) dX12_plan_123 (by decide) ?_
              refine ez_iadd hX dX12_plan_124 ?_
              refine ez_iast hX kc_119 lc_119 (by unfold vp_in; decide) dX12_plan_125 ?_
              refine ez_nmM (fun M10 eM10 => ?_)
              have hs := hs M10 eM10
              refine ez_iload hX 0 dX12_plan_126 rfl ?_
              refine ez_iconst hX (1 : Int32) dX12_plan_128 (by decide) ?_
              refine ez_iadd hX dX12_plan_129 ?_
              have ht : t0 = (((M.1 119 ((26 : Int32)).toNatClampNeg) + (1 : Int32)), M10) := hT.symm.trans (by simp only [et_X12_plan, if_neg c1, if_neg c2, if_neg c3, if_pos c4, er5, if_neg c6, if_neg c7, eM8, eM9, eM10])
              subst ht
              exact ez_iret hX hQ dX12_plan_130 rfl rfl
            · -- c7 on
              have hs := hs.1 c7
              refine ez_bipush hX (-4 : Int32) dX12_plan_84 (by decide) ?_
              have ht : t0 = ((-4 : Int32), M) := hT.symm.trans (by simp only [et_X12_plan, if_neg c1, if_neg c2, if_neg c3, if_pos c4, er5, if_neg c6, if_pos c7])
              subst ht
              exact ez_iret hX hQ dX12_plan_86 rfl rfl
      · -- c3 on
        have hs := hs.1 c3
        refine ez_iload_n hX 2 dX12_plan_32 rfl ?_
        refine ez_callS hX (N0 := 0) (As := [.int n]) (st := []) (ec_X12_isName _ _ _ M n) (Or.inl rfl) wm_X12_131 ws_X12_isName wy_X12_isName rfl wd_X12_isName wi_X12 (ez_rok hRm rfl) (Nat.le_of_ble_eq_true rfl) dX12_plan_33 ?_
        refine ez_nmI (fun r11 er11 => ?_)
        have hs := hs r11 er11
        refine ez_if_ne hX 56 dX12_plan_36 (by decide) (fun c12 => ?_) (fun c12 => ?_)
        · -- c12 jump
          have hs := hs.2 c12
          refine ez_iconst hX (1 : Int32) dX12_plan_56 (by decide) ?_
          refine ez_goto hX 61 dX12_plan_57 (by decide) ?_
          refine ez_istore_n hX [(3, .int (1 : Int32)), (0, .ref (ez_B X + 118)), (1, .int what), (2, .int n)] dX12_plan_61 (ez_lt hnL rfl) rfl ?_
          refine ez_iload_n hX 0 dX12_plan_62 rfl ?_
          refine ez_if_ne hX 68 dX12_plan_63 (by decide) (fun _ => ?_) (fun c => absurd c (by decide))
          refine ez_aload_n hX 1 dX12_plan_68 rfl ?_
          refine ez_getr hX kc_118 rfl (Nat.le_of_ble_eq_true rfl) lc_118 (Nat.le_of_ble_eq_true rfl) inX12 119 rfl rc_118_0 wf_X12_11 dX12_plan_69 ?_
          refine ez_bipush hX (26 : Int32) dX12_plan_72 (by decide) ?_
          refine ez_iald hX kc_119 lc_119 (by unfold vp_in; decide) dX12_plan_74 ?_
          refine ez_istore hX [(4, .int (M.1 119 ((26 : Int32)).toNatClampNeg)), (3, .int (1 : Int32)), (0, .ref (ez_B X + 118)), (1, .int what), (2, .int n)] dX12_plan_75 (ez_lt hnL rfl) rfl ?_
          refine ez_iload hX 0 dX12_plan_77 rfl ?_
          refine ez_bipush hX (10 : Int32) dX12_plan_79 (by decide) ?_
          refine ez_icmp_ne hX 87 dX12_plan_81 (by decide) (fun c13 => ?_) (fun c13 => ?_)
          · -- c13 jump
            have hs := hs.2 c13
            refine ez_aload_n hX 2 dX12_plan_87 rfl ?_
            refine ez_getr hX kc_118 rfl (Nat.le_of_ble_eq_true rfl) lc_118 (Nat.le_of_ble_eq_true rfl) inX12 119 rfl rc_118_0 wf_X12_11 dX12_plan_88 ?_
            refine ez_bipush hX (38 : Int32) dX12_plan_91 (by decide) ?_
            refine ez_iconst hX (2 : Int32) dX12_plan_93 (by decide) ?_
            refine ez_iload hX 0 dX12_plan_94 rfl ?_
            refine ez_imul hX dX12_plan_96 ?_
            refine ez_iadd hX dX12_plan_97 ?_
            refine ez_iload_n hX 3 dX12_plan_98 rfl ?_
            refine ez_iast hX kc_119 lc_119 hs.1 dX12_plan_99 ?_
            have hs := hs.2
            refine ez_nmM (fun M14 eM14 => ?_)
            have hs := hs M14 eM14
            refine ez_aload_n hX 2 dX12_plan_100 rfl ?_
            refine ez_getr hX kc_118 rfl (Nat.le_of_ble_eq_true rfl) lc_118 (Nat.le_of_ble_eq_true rfl) inX12 119 rfl rc_118_0 wf_X12_11 dX12_plan_101 ?_
            refine ez_bipush hX (38 : Int32) dX12_plan_104 (by decide) ?_
            refine ez_iconst hX (2 : Int32) dX12_plan_106 (by decide) ?_
            refine ez_iload hX 0 dX12_plan_107 rfl ?_
            refine ez_imul hX dX12_plan_109 ?_
            refine ez_iadd hX dX12_plan_110 ?_
            refine ez_iconst hX (1 : Int32) dX12_plan_111 (by decide) ?_
            refine ez_iadd hX dX12_plan_112 ?_
            refine ez_iload_n hX 4 dX12_plan_113 rfl ?_
            refine ez_iast hX kc_119 lc_119 hs.1 dX12_plan_114 ?_
            have hs := hs.2
            refine ez_nmM (fun M15 eM15 => ?_)
            have hs := hs M15 eM15
            refine ez_aload_n hX 2 dX12_plan_115 rfl ?_
            refine ez_getr hX kc_118 rfl (Nat.le_of_ble_eq_true rfl) lc_118 (Nat.le_of_ble_eq_true rfl) inX12 119 rfl rc_118_0 wf_X12_11 dX12_plan_116 ?_
            refine ez_bipush hX (26 : Int32) dX12_plan_119 (by decide) ?_
            refine ez_iload hX 0 dX12_plan_121 rfl ?_
            refine ez_iconst hX (1 : Int32) dX12_plan_123 (by decide) ?_
            refine ez_iadd hX dX12_plan_124 ?_
            refine ez_iast hX kc_119 lc_119 (by unfold vp_in; decide) dX12_plan_125 ?_
            refine ez_nmM (fun M16 eM16 => ?_)
            have hs := hs M16 eM16
            refine ez_iload hX 0 dX12_plan_126 rfl ?_
            refine ez_iconst hX (1 : Int32) dX12_plan_128 (by decide) ?_
            refine ez_iadd hX dX12_plan_129 ?_
            have ht : t0 = (((M.1 119 ((26 : Int32)).toNatClampNeg) + (1 : Int32)), M16) := hT.symm.trans (by simp only [et_X12_plan, if_neg c1, if_neg c2, if_pos c3, er11, if_neg c12, if_neg c13, eM14, eM15, eM16])
            subst ht
            exact ez_iret hX hQ dX12_plan_130 rfl rfl
          · -- c13 on
            have hs := hs.1 c13
            refine ez_bipush hX (-4 : Int32) dX12_plan_84 (by decide) ?_
            have ht : t0 = ((-4 : Int32), M) := hT.symm.trans (by simp only [et_X12_plan, if_neg c1, if_neg c2, if_pos c3, er11, if_neg c12, if_pos c13])
            subst ht
            exact ez_iret hX hQ dX12_plan_86 rfl rfl
        · -- c12 on
          have hs := hs.1 c12
          refine ez_iload_n hX 1 dX12_plan_39 rfl ?_
          refine ez_iconst hX (2 : Int32) dX12_plan_40 (by decide) ?_
          refine ez_icmp_ne hX 60 dX12_plan_41 (by decide) (fun _ => ?_) (fun c => absurd c (by rw [c3] <;> decide))
          refine ez_iconst hX (0 : Int32) dX12_plan_60 (by decide) ?_
          refine ez_istore_n hX [(3, .int (0 : Int32)), (0, .ref (ez_B X + 118)), (1, .int what), (2, .int n)] dX12_plan_61 (ez_lt hnL rfl) rfl ?_
          refine ez_iload_n hX 0 dX12_plan_62 rfl ?_
          refine ez_if_ne hX 68 dX12_plan_63 (by decide) (fun c => absurd c (by decide)) (fun _ => ?_)
          refine ez_iconst hX (-1 : Int32) dX12_plan_66 (by decide) ?_
          have ht : t0 = ((-1 : Int32), M) := hT.symm.trans (by simp only [et_X12_plan, if_neg c1, if_neg c2, if_pos c3, er11, if_pos c12])
          subst ht
          exact ez_iret hX hQ dX12_plan_67 rfl rfl
    · -- c2 on
      have hs := hs.1 c2
      refine ez_aload_n hX 0 dX12_plan_19 rfl ?_
      refine ez_iload_n hX 2 dX12_plan_20 rfl ?_
      refine ez_callV hX (N0 := 0) (As := [.int n]) (st := []) kc_118 (Nat.le_of_ble_eq_true rfl) lc_118 rfl (ec_X12_isLine _ _ _ M n) (Or.inl rfl) wm_X12_124 wv_X12_isLine we_X12_isLine wy_X12_isLine rfl wd_X12_isLine wi_X12 (ez_rok hRm rfl) (Nat.le_of_ble_eq_true rfl) dX12_plan_21 ?_
      refine ez_nmI (fun r17 er17 => ?_)
      have hs := hs r17 er17
      refine ez_if_ne hX 56 dX12_plan_24 (by decide) (fun c18 => ?_) (fun c18 => ?_)
      · -- c18 jump
        have hs := hs.2 c18
        refine ez_iconst hX (1 : Int32) dX12_plan_56 (by decide) ?_
        refine ez_goto hX 61 dX12_plan_57 (by decide) ?_
        refine ez_istore_n hX [(3, .int (1 : Int32)), (0, .ref (ez_B X + 118)), (1, .int what), (2, .int n)] dX12_plan_61 (ez_lt hnL rfl) rfl ?_
        refine ez_iload_n hX 0 dX12_plan_62 rfl ?_
        refine ez_if_ne hX 68 dX12_plan_63 (by decide) (fun _ => ?_) (fun c => absurd c (by decide))
        refine ez_aload_n hX 1 dX12_plan_68 rfl ?_
        refine ez_getr hX kc_118 rfl (Nat.le_of_ble_eq_true rfl) lc_118 (Nat.le_of_ble_eq_true rfl) inX12 119 rfl rc_118_0 wf_X12_11 dX12_plan_69 ?_
        refine ez_bipush hX (26 : Int32) dX12_plan_72 (by decide) ?_
        refine ez_iald hX kc_119 lc_119 (by unfold vp_in; decide) dX12_plan_74 ?_
        refine ez_istore hX [(4, .int (M.1 119 ((26 : Int32)).toNatClampNeg)), (3, .int (1 : Int32)), (0, .ref (ez_B X + 118)), (1, .int what), (2, .int n)] dX12_plan_75 (ez_lt hnL rfl) rfl ?_
        refine ez_iload hX 0 dX12_plan_77 rfl ?_
        refine ez_bipush hX (10 : Int32) dX12_plan_79 (by decide) ?_
        refine ez_icmp_ne hX 87 dX12_plan_81 (by decide) (fun c19 => ?_) (fun c19 => ?_)
        · -- c19 jump
          have hs := hs.2 c19
          refine ez_aload_n hX 2 dX12_plan_87 rfl ?_
          refine ez_getr hX kc_118 rfl (Nat.le_of_ble_eq_true rfl) lc_118 (Nat.le_of_ble_eq_true rfl) inX12 119 rfl rc_118_0 wf_X12_11 dX12_plan_88 ?_
          refine ez_bipush hX (38 : Int32) dX12_plan_91 (by decide) ?_
          refine ez_iconst hX (2 : Int32) dX12_plan_93 (by decide) ?_
          refine ez_iload hX 0 dX12_plan_94 rfl ?_
          refine ez_imul hX dX12_plan_96 ?_
          refine ez_iadd hX dX12_plan_97 ?_
          refine ez_iload_n hX 3 dX12_plan_98 rfl ?_
          refine ez_iast hX kc_119 lc_119 hs.1 dX12_plan_99 ?_
          have hs := hs.2
          refine ez_nmM (fun M20 eM20 => ?_)
          have hs := hs M20 eM20
          refine ez_aload_n hX 2 dX12_plan_100 rfl ?_
          refine ez_getr hX kc_118 rfl (Nat.le_of_ble_eq_true rfl) lc_118 (Nat.le_of_ble_eq_true rfl) inX12 119 rfl rc_118_0 wf_X12_11 dX12_plan_101 ?_
          refine ez_bipush hX (38 : Int32) dX12_plan_104 (by decide) ?_
          refine ez_iconst hX (2 : Int32) dX12_plan_106 (by decide) ?_
          refine ez_iload hX 0 dX12_plan_107 rfl ?_
          refine ez_imul hX dX12_plan_109 ?_
          refine ez_iadd hX dX12_plan_110 ?_
          refine ez_iconst hX (1 : Int32) dX12_plan_111 (by decide) ?_
          refine ez_iadd hX dX12_plan_112 ?_
          refine ez_iload_n hX 4 dX12_plan_113 rfl ?_
          refine ez_iast hX kc_119 lc_119 hs.1 dX12_plan_114 ?_
          have hs := hs.2
          refine ez_nmM (fun M21 eM21 => ?_)
          have hs := hs M21 eM21
          refine ez_aload_n hX 2 dX12_plan_115 rfl ?_
          refine ez_getr hX kc_118 rfl (Nat.le_of_ble_eq_true rfl) lc_118 (Nat.le_of_ble_eq_true rfl) inX12 119 rfl rc_118_0 wf_X12_11 dX12_plan_116 ?_
          refine ez_bipush hX (26 : Int32) dX12_plan_119 (by decide) ?_
          refine ez_iload hX 0 dX12_plan_121 rfl ?_
          refine ez_iconst hX (1 : Int32) dX12_plan_123 (by decide) ?_
          refine ez_iadd hX dX12_plan_124 ?_
          refine ez_iast hX kc_119 lc_119 (by unfold vp_in; decide) dX12_plan_125 ?_
          refine ez_nmM (fun M22 eM22 => ?_)
          have hs := hs M22 eM22
          refine ez_iload hX 0 dX12_plan_126 rfl ?_
          refine ez_iconst hX (1 : Int32) dX12_plan_128 (by decide) ?_
          refine ez_iadd hX dX12_plan_129 ?_
          have ht : t0 = (((M.1 119 ((26 : Int32)).toNatClampNeg) + (1 : Int32)), M22) := hT.symm.trans (by simp only [et_X12_plan, if_neg c1, if_pos c2, er17, if_neg c18, if_neg c19, eM20, eM21, eM22])
          subst ht
          exact ez_iret hX hQ dX12_plan_130 rfl rfl
        · -- c19 on
          have hs := hs.1 c19
          refine ez_bipush hX (-4 : Int32) dX12_plan_84 (by decide) ?_
          have ht : t0 = ((-4 : Int32), M) := hT.symm.trans (by simp only [et_X12_plan, if_neg c1, if_pos c2, er17, if_neg c18, if_pos c19])
          subst ht
          exact ez_iret hX hQ dX12_plan_86 rfl rfl
      · -- c18 on
        have hs := hs.1 c18
        refine ez_iload_n hX 1 dX12_plan_27 rfl ?_
        refine ez_iconst hX (1 : Int32) dX12_plan_28 (by decide) ?_
        refine ez_icmp_ne hX 39 dX12_plan_29 (by decide) (fun _ => ?_) (fun c => absurd c (by rw [c2] <;> decide))
        refine ez_iload_n hX 1 dX12_plan_39 rfl ?_
        refine ez_iconst hX (2 : Int32) dX12_plan_40 (by decide) ?_
        refine ez_icmp_ne hX 60 dX12_plan_41 (by decide) (fun _ => ?_) (fun c => absurd c (by rw [c2] <;> decide))
        refine ez_iconst hX (0 : Int32) dX12_plan_60 (by decide) ?_
        refine ez_istore_n hX [(3, .int (0 : Int32)), (0, .ref (ez_B X + 118)), (1, .int what), (2, .int n)] dX12_plan_61 (ez_lt hnL rfl) rfl ?_
        refine ez_iload_n hX 0 dX12_plan_62 rfl ?_
        refine ez_if_ne hX 68 dX12_plan_63 (by decide) (fun c => absurd c (by decide)) (fun _ => ?_)
        refine ez_iconst hX (-1 : Int32) dX12_plan_66 (by decide) ?_
        have ht : t0 = ((-1 : Int32), M) := hT.symm.trans (by simp only [et_X12_plan, if_neg c1, if_pos c2, er17, if_pos c18])
        subst ht
        exact ez_iret hX hQ dX12_plan_67 rfl rfl
  · -- c1 on
    have hs := hs.1 c1
    refine ez_aload_n hX 0 dX12_plan_5 rfl ?_
    refine ez_getr hX kc_118 rfl (Nat.le_of_ble_eq_true rfl) lc_118 (Nat.le_of_ble_eq_true rfl) inX12 119 rfl rc_118_0 wf_X12_11 dX12_plan_6 ?_
    refine ez_bipush hX (26 : Int32) dX12_plan_9 (by decide) ?_
    refine ez_iconst hX (0 : Int32) dX12_plan_11 (by decide) ?_
    refine ez_iast hX kc_119 lc_119 (by unfold vp_in; decide) dX12_plan_12 ?_
    refine ez_nmM (fun M23 eM23 => ?_)
    have hs := hs M23 eM23
    refine ez_iconst hX (0 : Int32) dX12_plan_13 (by decide) ?_
    have ht : t0 = ((0 : Int32), M23) := hT.symm.trans (by simp only [et_X12_plan, if_pos c1, eM23])
    subst ht
    exact ez_iret hX hQ dX12_plan_14 rfl rfl

def et_X12_ends_24   : Nat → em_M → Int32 → Int32 → Int64 × em_M
  | 0, M, _, _ => (0, M)
  | fu + 1, M, name, k =>
  (if (M.1 119 ((26 : Int32)).toNatClampNeg) ≤ k then let M5 := et_X12_copies 120 5880 119 5880 M
  (((M.1 119 (((0 : Int32) + name)).toNatClampNeg)).toInt64, M5) else (if (M.1 119 (((38 : Int32) + ((2 : Int32) * k))).toNatClampNeg) = 0 then let M10 := et_X12_runs M (M.1 119 ((((38 : Int32) + ((2 : Int32) * k)) + (1 : Int32))).toNatClampNeg)
  et_X12_ends_24 fu M10 name (k + (1 : Int32)) else (if (M.1 119 (((38 : Int32) + ((2 : Int32) * k))).toNatClampNeg) = (1 : Int32) then let M9 := em_pI M 119 (((0 : Int32) + (M.1 119 ((((38 : Int32) + ((2 : Int32) * k)) + (1 : Int32))).toNatClampNeg))).toNatClampNeg (0 : Int32)
  et_X12_ends_24 fu M9 name (k + (1 : Int32)) else let M8 := em_pI M 119 (((4 : Int32) + (M.1 119 ((((38 : Int32) + ((2 : Int32) * k)) + (1 : Int32))).toNatClampNeg))).toNatClampNeg (-5 : Int32)
  et_X12_ends_24 fu M8 name (k + (1 : Int32)))))
def es_X12_ends_24   : Nat → em_M → Int32 → Int32 → Prop
  | 0, _, _, _ => False
  | fu + 1, M, name, k =>
  (((M.1 119 ((26 : Int32)).toNatClampNeg) ≤ k) → (vp_in ((0 : Int32) + name) 5880 ∧ (es_X12_copies 120 5880 119 5880 M ∧ (∀ M5 : em_M, et_X12_copies 120 5880 119 5880 M = M5 → (
  True))))) ∧
  (¬ ((M.1 119 ((26 : Int32)).toNatClampNeg) ≤ k) → (vp_in (((38 : Int32) + ((2 : Int32) * k)) + (1 : Int32)) 5880 ∧ (vp_in ((38 : Int32) + ((2 : Int32) * k)) 5880 ∧ ((((M.1 119 (((38 : Int32) + ((2 : Int32) * k))).toNatClampNeg) = 0) → (es_X12_runs M (M.1 119 ((((38 : Int32) + ((2 : Int32) * k)) + (1 : Int32))).toNatClampNeg) ∧ (∀ M10 : em_M, et_X12_runs M (M.1 119 ((((38 : Int32) + ((2 : Int32) * k)) + (1 : Int32))).toNatClampNeg) = M10 → (
  es_X12_ends_24 fu M10 name (k + (1 : Int32)))))) ∧
  (¬ ((M.1 119 (((38 : Int32) + ((2 : Int32) * k))).toNatClampNeg) = 0) → (vp_in ((38 : Int32) + ((2 : Int32) * k)) 5880 ∧ ((((M.1 119 (((38 : Int32) + ((2 : Int32) * k))).toNatClampNeg) = (1 : Int32)) → (vp_in ((0 : Int32) + (M.1 119 ((((38 : Int32) + ((2 : Int32) * k)) + (1 : Int32))).toNatClampNeg)) 5880 ∧ (∀ M9 : em_M, em_pI M 119 (((0 : Int32) + (M.1 119 ((((38 : Int32) + ((2 : Int32) * k)) + (1 : Int32))).toNatClampNeg))).toNatClampNeg (0 : Int32) = M9 → (
  es_X12_ends_24 fu M9 name (k + (1 : Int32)))))) ∧
  (¬ ((M.1 119 (((38 : Int32) + ((2 : Int32) * k))).toNatClampNeg) = (1 : Int32)) → (vp_in ((4 : Int32) + (M.1 119 ((((38 : Int32) + ((2 : Int32) * k)) + (1 : Int32))).toNatClampNeg)) 5880 ∧ (∀ M8 : em_M, em_pI M 119 (((4 : Int32) + (M.1 119 ((((38 : Int32) + ((2 : Int32) * k)) + (1 : Int32))).toNatClampNeg))).toNatClampNeg (-5 : Int32) = M8 → (
  es_X12_ends_24 fu M8 name (k + (1 : Int32)))))))))))))
def et_X12_ends  (M : em_M) (name : Int32) : Int64 × em_M :=
  let r1 := et_X12_isName M name
  (if r1 = 0 then ((-9223372036854775808 : Int64), M) else let M3 := et_X12_copies 119 5880 120 5880 M
  et_X12_ends_24 11 M3 name (0 : Int32))
def es_X12_ends  (M : em_M) (name : Int32) : Prop :=
  ∀ r1 : Int32, et_X12_isName M name = r1 → (
  ((r1 = 0) → (True)) ∧
  (¬ (r1 = 0) → (es_X12_copies 119 5880 120 5880 M ∧ (∀ M3 : em_M, et_X12_copies 119 5880 120 5880 M = M3 → (
  es_X12_ends_24 11 M3 name (0 : Int32))))))
set_option maxHeartbeats 4000000 in
set_option maxRecDepth 100000 in
theorem el_X12_ends_24 (X : em_X)    (t0 : Int64 × em_M) (hRm : ez_rm X = { frames := 7, cells := 0, slots := 0, locals := 178 }) (hnL : ez_nL X = 4) (hX : ez_ok X cX12_ends RX12) (hQ : ez_ret X (some .long) (some (.long t0.1)) 132 em_R (t0.2) 0 0) : ∀ (fu : Nat) (M : em_M) (name : Int32) (k : Int32), es_X12_ends_24  fu M name k → et_X12_ends_24  fu M name k = t0 → ez_Z X 132 em_R M 0 0 24 [(0, .ref (ez_B X + 118)), (1, .int name), (2, .int k)] [] := by
  intro fu
  induction fu with
  | zero =>
    intro M name k hs hT
    exact False.elim hs
  | succ fu ih =>
    intro M name k hs hT
    rw [es_X12_ends_24] at hs
    refine ez_iload_n hX 2 dX12_ends_24 rfl ?_
    refine ez_aload_n hX 0 dX12_ends_25 rfl ?_
    refine ez_getr hX kc_118 rfl (Nat.le_of_ble_eq_true rfl) lc_118 (Nat.le_of_ble_eq_true rfl) inX12 119 rfl rc_118_0 wf_X12_11 dX12_ends_26 ?_
    refine ez_bipush hX (26 : Int32) dX12_ends_29 (by decide) ?_
    refine ez_iald hX kc_119 lc_119 (by unfold vp_in; decide) dX12_ends_31 ?_
    refine ez_icmp_ge hX 114 dX12_ends_32 (by decide) (fun c4 => ?_) (fun c4 => ?_)
    · -- c4 jump
      have hs := hs.1 c4
      refine ez_aload_n hX 0 dX12_ends_114 rfl ?_
      refine ez_getr hX kc_118 rfl (Nat.le_of_ble_eq_true rfl) lc_118 (Nat.le_of_ble_eq_true rfl) inX12 119 rfl rc_118_0 wf_X12_11 dX12_ends_115 ?_
      refine ez_iconst hX (0 : Int32) dX12_ends_118 (by decide) ?_
      refine ez_iload_n hX 1 dX12_ends_119 rfl ?_
      refine ez_iadd hX dX12_ends_120 ?_
      refine ez_iald hX kc_119 lc_119 hs.1 dX12_ends_121 ?_
      have hs := hs.2
      refine ez_i2l hX dX12_ends_122 ?_
      refine ez_lstore_n hX [(2, .long (((M.1 119 (((0 : Int32) + name)).toNatClampNeg)).toInt64)), (0, .ref (ez_B X + 118)), (1, .int name)] dX12_ends_123 (ez_lt hnL rfl) rfl ?_
      refine ez_aload_n hX 1 dX12_ends_124 rfl ?_
      refine ez_getr hX kc_118 rfl (Nat.le_of_ble_eq_true rfl) lc_118 (Nat.le_of_ble_eq_true rfl) inX12 120 rfl rc_118_1 wf_X12_15 dX12_ends_125 ?_
      refine ez_aload_n hX 1 dX12_ends_128 rfl ?_
      refine ez_getr hX kc_118 rfl (Nat.le_of_ble_eq_true rfl) lc_118 (Nat.le_of_ble_eq_true rfl) inX12 119 rfl rc_118_0 wf_X12_11 dX12_ends_129 ?_
      refine ez_callS hX (N0 := 0) (As := [.ref (ez_B X + 120), .ref (ez_B X + 119)]) (st := []) (ec_X12_copies _ _ _ 120 5880 kc_120 lc_120 119 5880 kc_119 lc_119 M hs.1) (Or.inl rfl) wm_X12_225 ws_X12_copies wy_X12_copies rfl wd_X12_copies wi_X12 (ez_rok hRm rfl) (Nat.le_of_ble_eq_true rfl) dX12_ends_132 ?_
      have hs := hs.2
      refine ez_nmM (fun M5 eM5 => ?_)
      have hs := hs M5 eM5
      refine ez_lload_n hX 0 dX12_ends_135 rfl ?_
      have ht : t0 = (((M.1 119 (((0 : Int32) + name)).toNatClampNeg)).toInt64, M5) := hT.symm.trans (by simp only [et_X12_ends_24, if_pos c4, eM5])
      subst ht
      exact ez_lret hX hQ dX12_ends_136 rfl rfl
    · -- c4 on
      have hs := hs.2 c4
      refine ez_aload_n hX 0 dX12_ends_35 rfl ?_
      refine ez_getr hX kc_118 rfl (Nat.le_of_ble_eq_true rfl) lc_118 (Nat.le_of_ble_eq_true rfl) inX12 119 rfl rc_118_0 wf_X12_11 dX12_ends_36 ?_
      refine ez_bipush hX (38 : Int32) dX12_ends_39 (by decide) ?_
      refine ez_iconst hX (2 : Int32) dX12_ends_41 (by decide) ?_
      refine ez_iload_n hX 2 dX12_ends_42 rfl ?_
      refine ez_imul hX dX12_ends_43 ?_
      refine ez_iadd hX dX12_ends_44 ?_
      refine ez_iconst hX (1 : Int32) dX12_ends_45 (by decide) ?_
      refine ez_iadd hX dX12_ends_46 ?_
      refine ez_iald hX kc_119 lc_119 hs.1 dX12_ends_47 ?_
      have hs := hs.2
      refine ez_istore_n hX [(3, .int (M.1 119 ((((38 : Int32) + ((2 : Int32) * k)) + (1 : Int32))).toNatClampNeg)), (0, .ref (ez_B X + 118)), (1, .int name), (2, .int k)] dX12_ends_48 (ez_lt hnL rfl) rfl ?_
      refine ez_aload_n hX 1 dX12_ends_49 rfl ?_
      refine ez_getr hX kc_118 rfl (Nat.le_of_ble_eq_true rfl) lc_118 (Nat.le_of_ble_eq_true rfl) inX12 119 rfl rc_118_0 wf_X12_11 dX12_ends_50 ?_
      refine ez_bipush hX (38 : Int32) dX12_ends_53 (by decide) ?_
      refine ez_iconst hX (2 : Int32) dX12_ends_55 (by decide) ?_
      refine ez_iload_n hX 3 dX12_ends_56 rfl ?_
      refine ez_imul hX dX12_ends_57 ?_
      refine ez_iadd hX dX12_ends_58 ?_
      refine ez_iald hX kc_119 lc_119 hs.1 dX12_ends_59 ?_
      have hs := hs.2
      refine ez_if_ne hX 71 dX12_ends_60 (by decide) (fun c6 => ?_) (fun c6 => ?_)
      · -- c6 jump
        have hs := hs.2 c6
        refine ez_aload_n hX 1 dX12_ends_71 rfl ?_
        refine ez_getr hX kc_118 rfl (Nat.le_of_ble_eq_true rfl) lc_118 (Nat.le_of_ble_eq_true rfl) inX12 119 rfl rc_118_0 wf_X12_11 dX12_ends_72 ?_
        refine ez_bipush hX (38 : Int32) dX12_ends_75 (by decide) ?_
        refine ez_iconst hX (2 : Int32) dX12_ends_77 (by decide) ?_
        refine ez_iload_n hX 3 dX12_ends_78 rfl ?_
        refine ez_imul hX dX12_ends_79 ?_
        refine ez_iadd hX dX12_ends_80 ?_
        refine ez_iald hX kc_119 lc_119 hs.1 dX12_ends_81 ?_
        have hs := hs.2
        refine ez_iconst hX (1 : Int32) dX12_ends_82 (by decide) ?_
        refine ez_icmp_ne hX 98 dX12_ends_83 (by decide) (fun c7 => ?_) (fun c7 => ?_)
        · -- c7 jump
          have hs := hs.2 c7
          refine ez_aload_n hX 1 dX12_ends_98 rfl ?_
          refine ez_getr hX kc_118 rfl (Nat.le_of_ble_eq_true rfl) lc_118 (Nat.le_of_ble_eq_true rfl) inX12 119 rfl rc_118_0 wf_X12_11 dX12_ends_99 ?_
          refine ez_iconst hX (4 : Int32) dX12_ends_102 (by decide) ?_
          refine ez_iload_n hX 0 dX12_ends_103 rfl ?_
          refine ez_iadd hX dX12_ends_104 ?_
          refine ez_bipush hX (-5 : Int32) dX12_ends_105 (by decide) ?_
          refine ez_iast hX kc_119 lc_119 hs.1 dX12_ends_107 ?_
          have hs := hs.2
          refine ez_nmM (fun M8 eM8 => ?_)
          have hs := hs M8 eM8
          refine ez_iinc hX (k + (1 : Int32)) 3 [(2, .int (k + (1 : Int32))), (3, .int (M.1 119 ((((38 : Int32) + ((2 : Int32) * k)) + (1 : Int32))).toNatClampNeg)), (0, .ref (ez_B X + 118)), (1, .int name)] dX12_ends_108 rfl rfl (ez_lt hnL rfl) rfl ?_
          refine ez_goto hX 24 dX12_ends_111 (by decide) ?_
          refine ez_lv [2, 3, 0] rfl ?_
          exact ih M8 name (k + (1 : Int32)) hs (Eq.trans (by simp only [et_X12_ends_24, if_neg c4, if_neg c6, if_neg c7, eM8]) hT)
        · -- c7 on
          have hs := hs.1 c7
          refine ez_aload_n hX 1 dX12_ends_86 rfl ?_
          refine ez_getr hX kc_118 rfl (Nat.le_of_ble_eq_true rfl) lc_118 (Nat.le_of_ble_eq_true rfl) inX12 119 rfl rc_118_0 wf_X12_11 dX12_ends_87 ?_
          refine ez_iconst hX (0 : Int32) dX12_ends_90 (by decide) ?_
          refine ez_iload_n hX 0 dX12_ends_91 rfl ?_
          refine ez_iadd hX dX12_ends_92 ?_
          refine ez_iconst hX (0 : Int32) dX12_ends_93 (by decide) ?_
          refine ez_iast hX kc_119 lc_119 hs.1 dX12_ends_94 ?_
          have hs := hs.2
          refine ez_nmM (fun M9 eM9 => ?_)
          have hs := hs M9 eM9
          refine ez_goto hX 108 dX12_ends_95 (by decide) ?_
          refine ez_iinc hX (k + (1 : Int32)) 3 [(2, .int (k + (1 : Int32))), (3, .int (M.1 119 ((((38 : Int32) + ((2 : Int32) * k)) + (1 : Int32))).toNatClampNeg)), (0, .ref (ez_B X + 118)), (1, .int name)] dX12_ends_108 rfl rfl (ez_lt hnL rfl) rfl ?_
          refine ez_goto hX 24 dX12_ends_111 (by decide) ?_
          refine ez_lv [2, 3, 0] rfl ?_
          exact ih M9 name (k + (1 : Int32)) hs (Eq.trans (by simp only [et_X12_ends_24, if_neg c4, if_neg c6, if_pos c7, eM9]) hT)
      · -- c6 on
        have hs := hs.1 c6
        refine ez_aload_n hX 1 dX12_ends_63 rfl ?_
        refine ez_iload_n hX 0 dX12_ends_64 rfl ?_
        refine ez_callV hX (N0 := 0) (As := [.int (M.1 119 ((((38 : Int32) + ((2 : Int32) * k)) + (1 : Int32))).toNatClampNeg)]) (st := []) kc_118 (Nat.le_of_ble_eq_true rfl) lc_118 rfl (ec_X12_runs _ _ _ M (M.1 119 ((((38 : Int32) + ((2 : Int32) * k)) + (1 : Int32))).toNatClampNeg) hs.1) (Or.inl rfl) wm_X12_196 wv_X12_runs we_X12_runs wy_X12_runs rfl wd_X12_runs wi_X12 (ez_rok hRm rfl) (Nat.le_of_ble_eq_true rfl) dX12_ends_65 ?_
        have hs := hs.2
        refine ez_nmM (fun M10 eM10 => ?_)
        have hs := hs M10 eM10
        refine ez_goto hX 108 dX12_ends_68 (by decide) ?_
        refine ez_iinc hX (k + (1 : Int32)) 3 [(2, .int (k + (1 : Int32))), (3, .int (M.1 119 ((((38 : Int32) + ((2 : Int32) * k)) + (1 : Int32))).toNatClampNeg)), (0, .ref (ez_B X + 118)), (1, .int name)] dX12_ends_108 rfl rfl (ez_lt hnL rfl) rfl ?_
        refine ez_goto hX 24 dX12_ends_111 (by decide) ?_
        refine ez_lv [2, 3, 0] rfl ?_
        exact ih M10 name (k + (1 : Int32)) hs (Eq.trans (by simp only [et_X12_ends_24, if_neg c4, if_pos c6, eM10]) hT)
set_option maxHeartbeats 4000000 in
set_option maxRecDepth 100000 in
theorem ec_X12_ends (l : Launch) (D : em_G) (B : Nat) (M : em_M) (name : Int32) (hs : es_X12_ends M name) : em_C l D B yX12_ends cX12_ends 4 (some .long) 7 178 0 0 false [.ref (B + 118), .int name] 132 em_R M (some (.long (et_X12_ends M name).1)) 132 em_R ((et_X12_ends M name).2) := by
  refine em_C_of RX12 [(0, .ref (B + 118)), (1, .int name)] (by decide) rfl rfl (Nat.le_of_ble_eq_true rfl) ?_
  rintro X rfl rfl rfl hRm hnL hnm hsz hX hQ
  obtain ⟨t0, hT⟩ : ∃ tz, et_X12_ends M name = tz := ⟨_, rfl⟩
  rw [hT] at hQ
  rw [es_X12_ends] at hs
  refine ez_iload_n hX 1 dX12_ends_0 rfl ?_
  refine ez_callS hX (N0 := 0) (As := [.int name]) (st := []) (ec_X12_isName _ _ _ M name) (Or.inl rfl) wm_X12_131 ws_X12_isName wy_X12_isName rfl wd_X12_isName wi_X12 (ez_rok hRm rfl) (Nat.le_of_ble_eq_true rfl) dX12_ends_1 ?_
  refine ez_nmI (fun r1 er1 => ?_)
  have hs := hs r1 er1
  refine ez_if_ne hX 11 dX12_ends_4 (by decide) (fun c2 => ?_) (fun c2 => ?_)
  · -- c2 jump
    have hs := hs.2 c2
    refine ez_aload_n hX 0 dX12_ends_11 rfl ?_
    refine ez_getr hX kc_118 rfl (Nat.le_of_ble_eq_true rfl) lc_118 (Nat.le_of_ble_eq_true rfl) inX12 119 rfl rc_118_0 wf_X12_11 dX12_ends_12 ?_
    refine ez_aload_n hX 0 dX12_ends_15 rfl ?_
    refine ez_getr hX kc_118 rfl (Nat.le_of_ble_eq_true rfl) lc_118 (Nat.le_of_ble_eq_true rfl) inX12 120 rfl rc_118_1 wf_X12_15 dX12_ends_16 ?_
    refine ez_callS hX (N0 := 0) (As := [.ref (ez_B X + 119), .ref (ez_B X + 120)]) (st := []) (ec_X12_copies _ _ _ 119 5880 kc_119 lc_119 120 5880 kc_120 lc_120 M hs.1) (Or.inl rfl) wm_X12_225 ws_X12_copies wy_X12_copies rfl wd_X12_copies wi_X12 (ez_rok hRm rfl) (Nat.le_of_ble_eq_true rfl) dX12_ends_19 ?_
    have hs := hs.2
    refine ez_nmM (fun M3 eM3 => ?_)
    have hs := hs M3 eM3
    refine ez_iconst hX (0 : Int32) dX12_ends_22 (by decide) ?_
    refine ez_istore_n hX [(2, .int (0 : Int32)), (0, .ref (ez_B X + 118)), (1, .int name)] dX12_ends_23 (ez_lt hnL rfl) rfl ?_
    refine ez_lv [1, 2, 0] rfl ?_
    exact el_X12_ends_24 X  t0 hRm hnL hX hQ 11 M3 name (0 : Int32) hs (Eq.trans (by simp only [et_X12_ends, er1, if_neg c2, eM3]) hT)
  · -- c2 on
    have hs := hs.1 c2
    refine ez_ldc2 hX wl_X12_134 dX12_ends_7 ?_
    have ht : t0 = ((-9223372036854775808 : Int64), M) := hT.symm.trans (by simp only [et_X12_ends, er1, if_pos c2])
    subst ht
    exact ez_lret hX hQ dX12_ends_10 rfl rfl

def et_X12_book  (M : em_M) (name : Int32) (v : Int32) : Int32 × em_M :=
  (if name = (-1 : Int32) then let M8 := em_pI M 119 ((27 : Int32)).toNatClampNeg (0 : Int32)
  ((0 : Int32), M8) else let r2 := et_X12_isName M name
  (if r2 = 0 then ((-1 : Int32), M) else (if (M.1 119 ((27 : Int32)).toNatClampNeg) = (8 : Int32) then ((-4 : Int32), M) else let M5 := em_pI M 119 (((58 : Int32) + ((2 : Int32) * (M.1 119 ((27 : Int32)).toNatClampNeg)))).toNatClampNeg name
  let M6 := em_pI M5 119 ((((58 : Int32) + ((2 : Int32) * (M.1 119 ((27 : Int32)).toNatClampNeg))) + (1 : Int32))).toNatClampNeg v
  let M7 := em_pI M6 119 ((27 : Int32)).toNatClampNeg ((M.1 119 ((27 : Int32)).toNatClampNeg) + (1 : Int32))
  (((M.1 119 ((27 : Int32)).toNatClampNeg) + (1 : Int32)), M7))))
def es_X12_book  (M : em_M) (name : Int32) (v : Int32) : Prop :=
  ((name = (-1 : Int32)) → (∀ M8 : em_M, em_pI M 119 ((27 : Int32)).toNatClampNeg (0 : Int32) = M8 → (
  True))) ∧
  (¬ (name = (-1 : Int32)) → (∀ r2 : Int32, et_X12_isName M name = r2 → (
  ((r2 = 0) → (True)) ∧
  (¬ (r2 = 0) → ((((M.1 119 ((27 : Int32)).toNatClampNeg) = (8 : Int32)) → (True)) ∧
  (¬ ((M.1 119 ((27 : Int32)).toNatClampNeg) = (8 : Int32)) → (vp_in ((58 : Int32) + ((2 : Int32) * (M.1 119 ((27 : Int32)).toNatClampNeg))) 5880 ∧ (∀ M5 : em_M, em_pI M 119 (((58 : Int32) + ((2 : Int32) * (M.1 119 ((27 : Int32)).toNatClampNeg)))).toNatClampNeg name = M5 → (
  vp_in (((58 : Int32) + ((2 : Int32) * (M.1 119 ((27 : Int32)).toNatClampNeg))) + (1 : Int32)) 5880 ∧ (∀ M6 : em_M, em_pI M5 119 ((((58 : Int32) + ((2 : Int32) * (M.1 119 ((27 : Int32)).toNatClampNeg))) + (1 : Int32))).toNatClampNeg v = M6 → (
  ∀ M7 : em_M, em_pI M6 119 ((27 : Int32)).toNatClampNeg ((M.1 119 ((27 : Int32)).toNatClampNeg) + (1 : Int32)) = M7 → (
  True))))))))))))
set_option maxHeartbeats 4000000 in
set_option maxRecDepth 100000 in
theorem ec_X12_book (l : Launch) (D : em_G) (B : Nat) (M : em_M) (name : Int32) (v : Int32) (hs : es_X12_book M name v) : em_C l D B yX12_book cX12_book 4 (some .int) 2 45 0 0 false [.ref (B + 118), .int name, .int v] 132 em_R M (some (.int (et_X12_book M name v).1)) 132 em_R ((et_X12_book M name v).2) := by
  refine em_C_of RX12 [(0, .ref (B + 118)), (1, .int name), (2, .int v)] (by decide) rfl rfl (Nat.le_of_ble_eq_true rfl) ?_
  rintro X rfl rfl rfl hRm hnL hnm hsz hX hQ
  obtain ⟨t0, hT⟩ : ∃ tz, et_X12_book M name v = tz := ⟨_, rfl⟩
  rw [hT] at hQ
  rw [es_X12_book] at hs
  refine ez_iload_n hX 1 dX12_book_0 rfl ?_
  refine ez_iconst hX (-1 : Int32) dX12_book_1 (by decide) ?_
  refine ez_icmp_ne hX 15 dX12_book_2 (by decide) (fun c1 => ?_) (fun c1 => ?_)
  · -- c1 jump
    have hs := hs.2 c1
    refine ez_iload_n hX 1 dX12_book_15 rfl ?_
    refine ez_callS hX (N0 := 0) (As := [.int name]) (st := []) (ec_X12_isName _ _ _ M name) (Or.inl rfl) wm_X12_131 ws_X12_isName wy_X12_isName rfl wd_X12_isName wi_X12 (ez_rok hRm rfl) (Nat.le_of_ble_eq_true rfl) dX12_book_16 ?_
    refine ez_nmI (fun r2 er2 => ?_)
    have hs := hs r2 er2
    refine ez_if_ne hX 24 dX12_book_19 (by decide) (fun c3 => ?_) (fun c3 => ?_)
    · -- c3 jump
      have hs := hs.2 c3
      refine ez_aload_n hX 0 dX12_book_24 rfl ?_
      refine ez_getr hX kc_118 rfl (Nat.le_of_ble_eq_true rfl) lc_118 (Nat.le_of_ble_eq_true rfl) inX12 119 rfl rc_118_0 wf_X12_11 dX12_book_25 ?_
      refine ez_bipush hX (27 : Int32) dX12_book_28 (by decide) ?_
      refine ez_iald hX kc_119 lc_119 (by unfold vp_in; decide) dX12_book_30 ?_
      refine ez_istore_n hX [(3, .int (M.1 119 ((27 : Int32)).toNatClampNeg)), (0, .ref (ez_B X + 118)), (1, .int name), (2, .int v)] dX12_book_31 (ez_lt hnL rfl) rfl ?_
      refine ez_iload_n hX 0 dX12_book_32 rfl ?_
      refine ez_bipush hX (8 : Int32) dX12_book_33 (by decide) ?_
      refine ez_icmp_ne hX 41 dX12_book_35 (by decide) (fun c4 => ?_) (fun c4 => ?_)
      · -- c4 jump
        have hs := hs.2 c4
        refine ez_aload_n hX 1 dX12_book_41 rfl ?_
        refine ez_getr hX kc_118 rfl (Nat.le_of_ble_eq_true rfl) lc_118 (Nat.le_of_ble_eq_true rfl) inX12 119 rfl rc_118_0 wf_X12_11 dX12_book_42 ?_
        refine ez_bipush hX (58 : Int32) dX12_book_45 (by decide) ?_
        refine ez_iconst hX (2 : Int32) dX12_book_47 (by decide) ?_
        refine ez_iload_n hX 0 dX12_book_48 rfl ?_
        refine ez_imul hX dX12_book_49 ?_
        refine ez_iadd hX dX12_book_50 ?_
        refine ez_iload_n hX 2 dX12_book_51 rfl ?_
        refine ez_iast hX kc_119 lc_119 hs.1 dX12_book_52 ?_
        have hs := hs.2
        refine ez_nmM (fun M5 eM5 => ?_)
        have hs := hs M5 eM5
        refine ez_aload_n hX 1 dX12_book_53 rfl ?_
        refine ez_getr hX kc_118 rfl (Nat.le_of_ble_eq_true rfl) lc_118 (Nat.le_of_ble_eq_true rfl) inX12 119 rfl rc_118_0 wf_X12_11 dX12_book_54 ?_
        refine ez_bipush hX (58 : Int32) dX12_book_57 (by decide) ?_
        refine ez_iconst hX (2 : Int32) dX12_book_59 (by decide) ?_
        refine ez_iload_n hX 0 dX12_book_60 rfl ?_
        refine ez_imul hX dX12_book_61 ?_
        refine ez_iadd hX dX12_book_62 ?_
        refine ez_iconst hX (1 : Int32) dX12_book_63 (by decide) ?_
        refine ez_iadd hX dX12_book_64 ?_
        refine ez_iload_n hX 3 dX12_book_65 rfl ?_
        refine ez_iast hX kc_119 lc_119 hs.1 dX12_book_66 ?_
        have hs := hs.2
        refine ez_nmM (fun M6 eM6 => ?_)
        have hs := hs M6 eM6
        refine ez_aload_n hX 1 dX12_book_67 rfl ?_
        refine ez_getr hX kc_118 rfl (Nat.le_of_ble_eq_true rfl) lc_118 (Nat.le_of_ble_eq_true rfl) inX12 119 rfl rc_118_0 wf_X12_11 dX12_book_68 ?_
        refine ez_bipush hX (27 : Int32) dX12_book_71 (by decide) ?_
        refine ez_iload_n hX 0 dX12_book_73 rfl ?_
        refine ez_iconst hX (1 : Int32) dX12_book_74 (by decide) ?_
        refine ez_iadd hX dX12_book_75 ?_
        refine ez_iast hX kc_119 lc_119 (by unfold vp_in; decide) dX12_book_76 ?_
        refine ez_nmM (fun M7 eM7 => ?_)
        have hs := hs M7 eM7
        refine ez_iload_n hX 0 dX12_book_77 rfl ?_
        refine ez_iconst hX (1 : Int32) dX12_book_78 (by decide) ?_
        refine ez_iadd hX dX12_book_79 ?_
        have ht : t0 = (((M.1 119 ((27 : Int32)).toNatClampNeg) + (1 : Int32)), M7) := hT.symm.trans (by simp only [et_X12_book, if_neg c1, er2, if_neg c3, if_neg c4, eM5, eM6, eM7])
        subst ht
        exact ez_iret hX hQ dX12_book_80 rfl rfl
      · -- c4 on
        have hs := hs.1 c4
        refine ez_bipush hX (-4 : Int32) dX12_book_38 (by decide) ?_
        have ht : t0 = ((-4 : Int32), M) := hT.symm.trans (by simp only [et_X12_book, if_neg c1, er2, if_neg c3, if_pos c4])
        subst ht
        exact ez_iret hX hQ dX12_book_40 rfl rfl
    · -- c3 on
      have hs := hs.1 c3
      refine ez_iconst hX (-1 : Int32) dX12_book_22 (by decide) ?_
      have ht : t0 = ((-1 : Int32), M) := hT.symm.trans (by simp only [et_X12_book, if_neg c1, er2, if_pos c3])
      subst ht
      exact ez_iret hX hQ dX12_book_23 rfl rfl
  · -- c1 on
    have hs := hs.1 c1
    refine ez_aload_n hX 0 dX12_book_5 rfl ?_
    refine ez_getr hX kc_118 rfl (Nat.le_of_ble_eq_true rfl) lc_118 (Nat.le_of_ble_eq_true rfl) inX12 119 rfl rc_118_0 wf_X12_11 dX12_book_6 ?_
    refine ez_bipush hX (27 : Int32) dX12_book_9 (by decide) ?_
    refine ez_iconst hX (0 : Int32) dX12_book_11 (by decide) ?_
    refine ez_iast hX kc_119 lc_119 (by unfold vp_in; decide) dX12_book_12 ?_
    refine ez_nmM (fun M8 eM8 => ?_)
    have hs := hs M8 eM8
    refine ez_iconst hX (0 : Int32) dX12_book_13 (by decide) ?_
    have ht : t0 = ((0 : Int32), M8) := hT.symm.trans (by simp only [et_X12_book, if_pos c1, eM8])
    subst ht
    exact ez_iret hX hQ dX12_book_14 rfl rfl

def et_X12_looked_2   : Nat → em_M → Int32 → Int32
  | 0, _, _ => 0
  | fu + 1, M, k =>
  (if (M.1 119 ((27 : Int32)).toNatClampNeg) ≤ k then (-5 : Int32) else (if (M.1 119 (((0 : Int32) + (M.1 119 (((58 : Int32) + ((2 : Int32) * k))).toNatClampNeg))).toNatClampNeg) = (M.1 119 ((((58 : Int32) + ((2 : Int32) * k)) + (1 : Int32))).toNatClampNeg) then et_X12_looked_2 fu M (k + (1 : Int32)) else k))
def es_X12_looked_2   : Nat → em_M → Int32 → Prop
  | 0, _, _ => False
  | fu + 1, M, k =>
  (((M.1 119 ((27 : Int32)).toNatClampNeg) ≤ k) → (True)) ∧
  (¬ ((M.1 119 ((27 : Int32)).toNatClampNeg) ≤ k) → (vp_in ((58 : Int32) + ((2 : Int32) * k)) 5880 ∧ (vp_in ((0 : Int32) + (M.1 119 (((58 : Int32) + ((2 : Int32) * k))).toNatClampNeg)) 5880 ∧ (vp_in (((58 : Int32) + ((2 : Int32) * k)) + (1 : Int32)) 5880 ∧ ((((M.1 119 (((0 : Int32) + (M.1 119 (((58 : Int32) + ((2 : Int32) * k))).toNatClampNeg))).toNatClampNeg) = (M.1 119 ((((58 : Int32) + ((2 : Int32) * k)) + (1 : Int32))).toNatClampNeg)) → (es_X12_looked_2 fu M (k + (1 : Int32)))) ∧
  (¬ ((M.1 119 (((0 : Int32) + (M.1 119 (((58 : Int32) + ((2 : Int32) * k))).toNatClampNeg))).toNatClampNeg) = (M.1 119 ((((58 : Int32) + ((2 : Int32) * k)) + (1 : Int32))).toNatClampNeg)) → (True)))))))
def et_X12_looked  (M : em_M) : Int32 :=
  et_X12_looked_2 9 M (0 : Int32)
def es_X12_looked  (M : em_M) : Prop :=
  es_X12_looked_2 9 M (0 : Int32)
set_option maxHeartbeats 4000000 in
set_option maxRecDepth 100000 in
theorem el_X12_looked_2 (X : em_X)    (t0 : Int32) (hRm : ez_rm X = { frames := 0, cells := 0, slots := 0, locals := 0 }) (hnL : ez_nL X = 2) (hX : ez_ok X cX12_looked RX12) (M : em_M) (hQ : ez_ret X (some .int) (some (.int t0)) 132 em_R (M) 0 0) : ∀ (fu : Nat) (k : Int32), es_X12_looked_2  fu M k → et_X12_looked_2  fu M k = t0 → ez_Z X 132 em_R M 0 0 2 [(0, .ref (ez_B X + 118)), (1, .int k)] [] := by
  intro fu
  induction fu with
  | zero =>
    intro k hs hT
    exact False.elim hs
  | succ fu ih =>
    intro k hs hT
    rw [es_X12_looked_2] at hs
    refine ez_iload_n hX 1 dX12_looked_2 rfl ?_
    refine ez_aload_n hX 0 dX12_looked_3 rfl ?_
    refine ez_getr hX kc_118 rfl (Nat.le_of_ble_eq_true rfl) lc_118 (Nat.le_of_ble_eq_true rfl) inX12 119 rfl rc_118_0 wf_X12_11 dX12_looked_4 ?_
    refine ez_bipush hX (27 : Int32) dX12_looked_7 (by decide) ?_
    refine ez_iald hX kc_119 lc_119 (by unfold vp_in; decide) dX12_looked_9 ?_
    refine ez_icmp_ge hX 55 dX12_looked_10 (by decide) (fun c1 => ?_) (fun c1 => ?_)
    · -- c1 jump
      have hs := hs.1 c1
      refine ez_bipush hX (-5 : Int32) dX12_looked_55 (by decide) ?_
      have ht : t0 = (-5 : Int32) := hT.symm.trans (by simp only [et_X12_looked_2, if_pos c1])
      subst ht
      exact ez_iret hX hQ dX12_looked_57 rfl rfl
    · -- c1 on
      have hs := hs.2 c1
      refine ez_aload_n hX 0 dX12_looked_13 rfl ?_
      refine ez_getr hX kc_118 rfl (Nat.le_of_ble_eq_true rfl) lc_118 (Nat.le_of_ble_eq_true rfl) inX12 119 rfl rc_118_0 wf_X12_11 dX12_looked_14 ?_
      refine ez_iconst hX (0 : Int32) dX12_looked_17 (by decide) ?_
      refine ez_aload_n hX 0 dX12_looked_18 rfl ?_
      refine ez_getr hX kc_118 rfl (Nat.le_of_ble_eq_true rfl) lc_118 (Nat.le_of_ble_eq_true rfl) inX12 119 rfl rc_118_0 wf_X12_11 dX12_looked_19 ?_
      refine ez_bipush hX (58 : Int32) dX12_looked_22 (by decide) ?_
      refine ez_iconst hX (2 : Int32) dX12_looked_24 (by decide) ?_
      refine ez_iload_n hX 1 dX12_looked_25 rfl ?_
      refine ez_imul hX dX12_looked_26 ?_
      refine ez_iadd hX dX12_looked_27 ?_
      refine ez_iald hX kc_119 lc_119 hs.1 dX12_looked_28 ?_
      have hs := hs.2
      refine ez_iadd hX dX12_looked_29 ?_
      refine ez_iald hX kc_119 lc_119 hs.1 dX12_looked_30 ?_
      have hs := hs.2
      refine ez_aload_n hX 0 dX12_looked_31 rfl ?_
      refine ez_getr hX kc_118 rfl (Nat.le_of_ble_eq_true rfl) lc_118 (Nat.le_of_ble_eq_true rfl) inX12 119 rfl rc_118_0 wf_X12_11 dX12_looked_32 ?_
      refine ez_bipush hX (58 : Int32) dX12_looked_35 (by decide) ?_
      refine ez_iconst hX (2 : Int32) dX12_looked_37 (by decide) ?_
      refine ez_iload_n hX 1 dX12_looked_38 rfl ?_
      refine ez_imul hX dX12_looked_39 ?_
      refine ez_iadd hX dX12_looked_40 ?_
      refine ez_iconst hX (1 : Int32) dX12_looked_41 (by decide) ?_
      refine ez_iadd hX dX12_looked_42 ?_
      refine ez_iald hX kc_119 lc_119 hs.1 dX12_looked_43 ?_
      have hs := hs.2
      refine ez_icmp_eq hX 49 dX12_looked_44 (by decide) (fun c2 => ?_) (fun c2 => ?_)
      · -- c2 jump
        have hs := hs.1 c2
        refine ez_iinc hX (k + (1 : Int32)) 1 [(1, .int (k + (1 : Int32))), (0, .ref (ez_B X + 118))] dX12_looked_49 rfl rfl (ez_lt hnL rfl) rfl ?_
        refine ez_goto hX 2 dX12_looked_52 (by decide) ?_
        refine ez_lv [1, 0] rfl ?_
        exact ih (k + (1 : Int32)) hs (Eq.trans (by simp only [et_X12_looked_2, if_neg c1, if_pos c2]) hT)
      · -- c2 on
        have hs := hs.2 c2
        refine ez_iload_n hX 1 dX12_looked_47 rfl ?_
        have ht : t0 = k := hT.symm.trans (by simp only [et_X12_looked_2, if_neg c1, if_neg c2])
        subst ht
        exact ez_iret hX hQ dX12_looked_48 rfl rfl
set_option maxHeartbeats 4000000 in
set_option maxRecDepth 100000 in
theorem ec_X12_looked (l : Launch) (D : em_G) (B : Nat) (M : em_M) (hs : es_X12_looked M) : em_C l D B yX12_looked cX12_looked 2 (some .int) 0 0 0 0 false [.ref (B + 118)] 132 em_R M (some (.int (et_X12_looked M))) 132 em_R (M) := by
  refine em_C_of RX12 [(0, .ref (B + 118))] (by decide) rfl rfl (Nat.le_of_ble_eq_true rfl) ?_
  rintro X rfl rfl rfl hRm hnL hnm hsz hX hQ
  obtain ⟨t0, hT⟩ : ∃ tz, et_X12_looked M = tz := ⟨_, rfl⟩
  rw [hT] at hQ
  rw [es_X12_looked] at hs
  refine ez_iconst hX (0 : Int32) dX12_looked_0 (by decide) ?_
  refine ez_istore_n hX [(1, .int (0 : Int32)), (0, .ref (ez_B X + 118))] dX12_looked_1 (ez_lt hnL rfl) rfl ?_
  refine ez_lv [1, 0] rfl ?_
  exact el_X12_looked_2 X  t0 hRm hnL hX M hQ 9 (0 : Int32) hs (Eq.trans (by simp only [et_X12_looked]) hT)

def et_X12_image  (M : em_M) : Int32 × em_M :=
  let M1 := et_X12_copies 119 5880 121 5880 M
  let M2 := em_pI M1 118 3 (1 : Int32)
  ((M2.1 118 9), M2)
def es_X12_image  (M : em_M) : Prop :=
  es_X12_copies 119 5880 121 5880 M ∧ (∀ M1 : em_M, et_X12_copies 119 5880 121 5880 M = M1 → (
  ∀ M2 : em_M, em_pI M1 118 3 (1 : Int32) = M2 → (
  True)))
set_option maxHeartbeats 4000000 in
set_option maxRecDepth 100000 in
theorem ec_X12_image (l : Launch) (D : em_G) (B : Nat) (M : em_M) (hs : es_X12_image M) : em_C l D B yX12_image cX12_image 1 (some .int) 1 22 0 0 false [.ref (B + 118)] 132 em_R M (some (.int (et_X12_image M).1)) 132 em_R ((et_X12_image M).2) := by
  refine em_C_of RX12 [(0, .ref (B + 118))] (by decide) rfl rfl (Nat.le_of_ble_eq_true rfl) ?_
  rintro X rfl rfl rfl hRm hnL hnm hsz hX hQ
  obtain ⟨t0, hT⟩ : ∃ tz, et_X12_image M = tz := ⟨_, rfl⟩
  rw [hT] at hQ
  rw [es_X12_image] at hs
  refine ez_aload_n hX 0 dX12_image_0 rfl ?_
  refine ez_getr hX kc_118 rfl (Nat.le_of_ble_eq_true rfl) lc_118 (Nat.le_of_ble_eq_true rfl) inX12 119 rfl rc_118_0 wf_X12_11 dX12_image_1 ?_
  refine ez_aload_n hX 0 dX12_image_4 rfl ?_
  refine ez_getr hX kc_118 rfl (Nat.le_of_ble_eq_true rfl) lc_118 (Nat.le_of_ble_eq_true rfl) inX12 121 rfl rc_118_2 wf_X12_18 dX12_image_5 ?_
  refine ez_callS hX (N0 := 0) (As := [.ref (ez_B X + 119), .ref (ez_B X + 121)]) (st := []) (ec_X12_copies _ _ _ 119 5880 kc_119 lc_119 121 5880 kc_121 lc_121 M hs.1) (Or.inl rfl) wm_X12_225 ws_X12_copies wy_X12_copies rfl wd_X12_copies wi_X12 (ez_rok hRm rfl) (Nat.le_of_ble_eq_true rfl) dX12_image_8 ?_
  have hs := hs.2
  refine ez_nmM (fun M1 eM1 => ?_)
  have hs := hs M1 eM1
  refine ez_aload_n hX 0 dX12_image_11 rfl ?_
  refine ez_iconst hX (1 : Int32) dX12_image_12 (by decide) ?_
  refine ez_puti hX kc_118 rfl (Nat.le_of_ble_eq_true rfl) lc_118 (Nat.le_of_ble_eq_true rfl) inX12 tyX12 tyX12_ok nmX12 (1 : Int32) rfl wf_X12_237 rfl rfl rfl dX12_image_13 ?_
  refine ez_nmM (fun M2 eM2 => ?_)
  have hs := hs M2 eM2
  refine ez_aload_n hX 0 dX12_image_16 rfl ?_
  refine ez_geti hX kc_118 rfl (Nat.le_of_ble_eq_true rfl) lc_118 (Nat.le_of_ble_eq_true rfl) inX12 rfl wf_X12_72 dX12_image_17 ?_
  have ht : t0 = ((M2.1 118 9), M2) := hT.symm.trans (by simp only [et_X12_image, eM1, eM2])
  subst ht
  exact ez_iret hX hQ dX12_image_20 rfl rfl

def et_X12_undo  (M : em_M) : Int32 × em_M :=
  (if (M.1 118 3) = 0 then ((-3 : Int32), M) else let M2 := et_X12_copies 121 5880 119 5880 M
  ((M2.1 118 9), M2))
def es_X12_undo  (M : em_M) : Prop :=
  (((M.1 118 3) = 0) → (True)) ∧
  (¬ ((M.1 118 3) = 0) → (es_X12_copies 121 5880 119 5880 M ∧ (∀ M2 : em_M, et_X12_copies 121 5880 119 5880 M = M2 → (
  True))))
set_option maxHeartbeats 4000000 in
set_option maxRecDepth 100000 in
theorem ec_X12_undo (l : Launch) (D : em_G) (B : Nat) (M : em_M) (hs : es_X12_undo M) : em_C l D B yX12_undo cX12_undo 1 (some .int) 1 22 0 0 false [.ref (B + 118)] 132 em_R M (some (.int (et_X12_undo M).1)) 132 em_R ((et_X12_undo M).2) := by
  refine em_C_of RX12 [(0, .ref (B + 118))] (by decide) rfl rfl (Nat.le_of_ble_eq_true rfl) ?_
  rintro X rfl rfl rfl hRm hnL hnm hsz hX hQ
  obtain ⟨t0, hT⟩ : ∃ tz, et_X12_undo M = tz := ⟨_, rfl⟩
  rw [hT] at hQ
  rw [es_X12_undo] at hs
  refine ez_aload_n hX 0 dX12_undo_0 rfl ?_
  refine ez_geti hX kc_118 rfl (Nat.le_of_ble_eq_true rfl) lc_118 (Nat.le_of_ble_eq_true rfl) inX12 rfl wf_X12_237 dX12_undo_1 ?_
  refine ez_if_ne hX 10 dX12_undo_4 (by decide) (fun c1 => ?_) (fun c1 => ?_)
  · -- c1 jump
    have hs := hs.2 c1
    refine ez_aload_n hX 0 dX12_undo_10 rfl ?_
    refine ez_getr hX kc_118 rfl (Nat.le_of_ble_eq_true rfl) lc_118 (Nat.le_of_ble_eq_true rfl) inX12 121 rfl rc_118_2 wf_X12_18 dX12_undo_11 ?_
    refine ez_aload_n hX 0 dX12_undo_14 rfl ?_
    refine ez_getr hX kc_118 rfl (Nat.le_of_ble_eq_true rfl) lc_118 (Nat.le_of_ble_eq_true rfl) inX12 119 rfl rc_118_0 wf_X12_11 dX12_undo_15 ?_
    refine ez_callS hX (N0 := 0) (As := [.ref (ez_B X + 121), .ref (ez_B X + 119)]) (st := []) (ec_X12_copies _ _ _ 121 5880 kc_121 lc_121 119 5880 kc_119 lc_119 M hs.1) (Or.inl rfl) wm_X12_225 ws_X12_copies wy_X12_copies rfl wd_X12_copies wi_X12 (ez_rok hRm rfl) (Nat.le_of_ble_eq_true rfl) dX12_undo_18 ?_
    have hs := hs.2
    refine ez_nmM (fun M2 eM2 => ?_)
    have hs := hs M2 eM2
    refine ez_aload_n hX 0 dX12_undo_21 rfl ?_
    refine ez_geti hX kc_118 rfl (Nat.le_of_ble_eq_true rfl) lc_118 (Nat.le_of_ble_eq_true rfl) inX12 rfl wf_X12_72 dX12_undo_22 ?_
    have ht : t0 = ((M2.1 118 9), M2) := hT.symm.trans (by simp only [et_X12_undo, if_neg c1, eM2])
    subst ht
    exact ez_iret hX hQ dX12_undo_25 rfl rfl
  · -- c1 on
    have hs := hs.1 c1
    refine ez_bipush hX (-3 : Int32) dX12_undo_7 (by decide) ?_
    have ht : t0 = ((-3 : Int32), M) := hT.symm.trans (by simp only [et_X12_undo, if_pos c1])
    subst ht
    exact ez_iret hX hQ dX12_undo_9 rfl rfl

def et_X12_count  (M : em_M) (what : Int32) : Int32 :=
  (if what = (0 : Int32) then (M.1 118 9)
  else (if what = (1 : Int32) then (M.1 119 ((25 : Int32)).toNatClampNeg)
  else (if what = (2 : Int32) then (M.1 119 ((26 : Int32)).toNatClampNeg)
  else (if what = (3 : Int32) then (M.1 119 ((27 : Int32)).toNatClampNeg)
  else (if what = (4 : Int32) then (M.1 118 11)
  else (-2 : Int32))))))
set_option maxHeartbeats 4000000 in
set_option maxRecDepth 100000 in
theorem ec_X12_count (l : Launch) (D : em_G) (B : Nat) (M : em_M) (what : Int32) : em_C l D B yX12_count cX12_count 2 (some .int) 0 0 0 0 false [.ref (B + 118), .int what] 132 em_R M (some (.int (et_X12_count M what))) 132 em_R (M) := by
  refine em_C_of RX12 [(0, .ref (B + 118)), (1, .int what)] (by decide) rfl rfl (Nat.le_of_ble_eq_true rfl) ?_
  rintro X rfl rfl rfl hRm hnL hnm hsz hX hQ
  obtain ⟨t0, hT⟩ : ∃ tz, et_X12_count M what = tz := ⟨_, rfl⟩
  rw [hT] at hQ
  refine ez_iload_n hX 1 dX12_count_0 rfl ?_
  by_cases c1 : what = (0 : Int32)
  · have cx : (what).toInt = 0 := by rw [c1]; rfl
    refine ez_tsIn hX (0) (35) 36 dX12_count_1 cx ⟨by decide, by decide, rfl, by decide⟩ ?_
    refine ez_aload_n hX 0 dX12_count_36 rfl ?_
    refine ez_geti hX kc_118 rfl (Nat.le_of_ble_eq_true rfl) lc_118 (Nat.le_of_ble_eq_true rfl) inX12 rfl wf_X12_72 dX12_count_37 ?_
    have ht : t0 = (M.1 118 9) := hT.symm.trans (by simp only [et_X12_count, if_pos c1])
    subst ht
    exact ez_iret hX hQ dX12_count_40 rfl rfl
  · skip
    by_cases c2 : what = (1 : Int32)
    · have cx : (what).toInt = 1 := by rw [c2]; rfl
      refine ez_tsIn hX (1) (40) 41 dX12_count_1 cx ⟨by decide, by decide, rfl, by decide⟩ ?_
      refine ez_aload_n hX 0 dX12_count_41 rfl ?_
      refine ez_getr hX kc_118 rfl (Nat.le_of_ble_eq_true rfl) lc_118 (Nat.le_of_ble_eq_true rfl) inX12 119 rfl rc_118_0 wf_X12_11 dX12_count_42 ?_
      refine ez_bipush hX (25 : Int32) dX12_count_45 (by decide) ?_
      refine ez_iald hX kc_119 lc_119 (by unfold vp_in; decide) dX12_count_47 ?_
      have ht : t0 = (M.1 119 ((25 : Int32)).toNatClampNeg) := hT.symm.trans (by simp only [et_X12_count, if_neg c1, if_pos c2])
      subst ht
      exact ez_iret hX hQ dX12_count_48 rfl rfl
    · skip
      by_cases c3 : what = (2 : Int32)
      · have cx : (what).toInt = 2 := by rw [c3]; rfl
        refine ez_tsIn hX (2) (48) 49 dX12_count_1 cx ⟨by decide, by decide, rfl, by decide⟩ ?_
        refine ez_aload_n hX 0 dX12_count_49 rfl ?_
        refine ez_getr hX kc_118 rfl (Nat.le_of_ble_eq_true rfl) lc_118 (Nat.le_of_ble_eq_true rfl) inX12 119 rfl rc_118_0 wf_X12_11 dX12_count_50 ?_
        refine ez_bipush hX (26 : Int32) dX12_count_53 (by decide) ?_
        refine ez_iald hX kc_119 lc_119 (by unfold vp_in; decide) dX12_count_55 ?_
        have ht : t0 = (M.1 119 ((26 : Int32)).toNatClampNeg) := hT.symm.trans (by simp only [et_X12_count, if_neg c1, if_neg c2, if_pos c3])
        subst ht
        exact ez_iret hX hQ dX12_count_56 rfl rfl
      · skip
        by_cases c4 : what = (3 : Int32)
        · have cx : (what).toInt = 3 := by rw [c4]; rfl
          refine ez_tsIn hX (3) (56) 57 dX12_count_1 cx ⟨by decide, by decide, rfl, by decide⟩ ?_
          refine ez_aload_n hX 0 dX12_count_57 rfl ?_
          refine ez_getr hX kc_118 rfl (Nat.le_of_ble_eq_true rfl) lc_118 (Nat.le_of_ble_eq_true rfl) inX12 119 rfl rc_118_0 wf_X12_11 dX12_count_58 ?_
          refine ez_bipush hX (27 : Int32) dX12_count_61 (by decide) ?_
          refine ez_iald hX kc_119 lc_119 (by unfold vp_in; decide) dX12_count_63 ?_
          have ht : t0 = (M.1 119 ((27 : Int32)).toNatClampNeg) := hT.symm.trans (by simp only [et_X12_count, if_neg c1, if_neg c2, if_neg c3, if_pos c4])
          subst ht
          exact ez_iret hX hQ dX12_count_64 rfl rfl
        · skip
          by_cases c5 : what = (4 : Int32)
          · have cx : (what).toInt = 4 := by rw [c5]; rfl
            refine ez_tsIn hX (4) (64) 65 dX12_count_1 cx ⟨by decide, by decide, rfl, by decide⟩ ?_
            refine ez_aload_n hX 0 dX12_count_65 rfl ?_
            refine ez_geti hX kc_118 rfl (Nat.le_of_ble_eq_true rfl) lc_118 (Nat.le_of_ble_eq_true rfl) inX12 rfl wf_X12_58 dX12_count_66 ?_
            have ht : t0 = (M.1 118 11) := hT.symm.trans (by simp only [et_X12_count, if_neg c1, if_neg c2, if_neg c3, if_neg c4, if_pos c5])
            subst ht
            exact ez_iret hX hQ dX12_count_69 rfl rfl
          · skip
            refine ez_tsD hX [0, 1, 2, 3, 4] 70 dX12_count_1 (List.forall_mem_cons.mpr ⟨lv_neT c1 rfl, (List.forall_mem_cons.mpr ⟨lv_neT c2 rfl, (List.forall_mem_cons.mpr ⟨lv_neT c3 rfl, (List.forall_mem_cons.mpr ⟨lv_neT c4 rfl, (List.forall_mem_cons.mpr ⟨lv_neT c5 rfl, (fun _ h => absurd h List.not_mem_nil)⟩)⟩)⟩)⟩)⟩) (by decide +kernel) (by decide) ?_
            refine ez_bipush hX (-2 : Int32) dX12_count_70 (by decide) ?_
            have ht : t0 = (-2 : Int32) := hT.symm.trans (by simp only [et_X12_count, if_neg c1, if_neg c2, if_neg c3, if_neg c4, if_neg c5])
            subst ht
            exact ez_iret hX hQ dX12_count_72 rfl rfl

def et_X12_judge_39   : Nat → em_M → Int32 → Int32 → Int32 → Int32
  | 0, _, _, _, _ => 0
  | fu + 1, M, tape, i, k =>
  (if (M.1 119 ((12 : Int32)).toNatClampNeg) ≤ k then (-5 : Int32) else (if (M.1 129 (tape).toNatClampNeg) = (-1 : Int32) then ((100 : Int32) + k) else (if i < 0 then ((100 : Int32) + k) else (if k < ((M.1 130 (tape).toNatClampNeg) - i) then (if (lg_cmp (M.2 131 (((((60 : Int32) * tape) + i) + k)).toNatClampNeg) ((M.1 119 (((74 : Int32) + k)).toNatClampNeg)).toInt64) = 0 then et_X12_judge_39 fu M tape i (k + (1 : Int32)) else k) else ((100 : Int32) + k)))))
def es_X12_judge_39   : Nat → em_M → Int32 → Int32 → Int32 → Prop
  | 0, _, _, _, _ => False
  | fu + 1, M, tape, i, k =>
  (((M.1 119 ((12 : Int32)).toNatClampNeg) ≤ k) → (True)) ∧
  (¬ ((M.1 119 ((12 : Int32)).toNatClampNeg) ≤ k) → (vp_in (tape) 6 ∧ ((((M.1 129 (tape).toNatClampNeg) = (-1 : Int32)) → (True)) ∧
  (¬ ((M.1 129 (tape).toNatClampNeg) = (-1 : Int32)) → (((i < 0) → (True)) ∧
  (¬ (i < 0) → (vp_in (tape) 6 ∧ (((k < ((M.1 130 (tape).toNatClampNeg) - i)) → (vp_in ((((60 : Int32) * tape) + i) + k) 360 ∧ (vp_in ((74 : Int32) + k) 5880 ∧ ((((lg_cmp (M.2 131 (((((60 : Int32) * tape) + i) + k)).toNatClampNeg) ((M.1 119 (((74 : Int32) + k)).toNatClampNeg)).toInt64) = 0) → (es_X12_judge_39 fu M tape i (k + (1 : Int32)))) ∧
  (¬ ((lg_cmp (M.2 131 (((((60 : Int32) * tape) + i) + k)).toNatClampNeg) ((M.1 119 (((74 : Int32) + k)).toNatClampNeg)).toInt64) = 0) → (True)))))) ∧
  (¬ (k < ((M.1 130 (tape).toNatClampNeg) - i)) → (True))))))))))
def et_X12_judge  (M : em_M) (tape : Int32) (i : Int32) : Int32 :=
  let r1 := et_X12_in M ((tape).toInt64) (0 : Int64) (5 : Int64)
  (if r1 = 0 then (-1 : Int32) else (if (M.1 129 (tape).toNatClampNeg) = (-1 : Int32) then et_X12_judge_39 42 M tape i (0 : Int32) else (if (M.1 129 (tape).toNatClampNeg) = (2 : Int32) then et_X12_judge_39 42 M tape i (0 : Int32) else (-12 : Int32))))
def es_X12_judge  (M : em_M) (tape : Int32) (i : Int32) : Prop :=
  ∀ r1 : Int32, et_X12_in M ((tape).toInt64) (0 : Int64) (5 : Int64) = r1 → (
  ((r1 = 0) → (True)) ∧
  (¬ (r1 = 0) → (vp_in (tape) 6 ∧ ((((M.1 129 (tape).toNatClampNeg) = (-1 : Int32)) → (es_X12_judge_39 42 M tape i (0 : Int32))) ∧
  (¬ ((M.1 129 (tape).toNatClampNeg) = (-1 : Int32)) → (vp_in (tape) 6 ∧ ((((M.1 129 (tape).toNatClampNeg) = (2 : Int32)) → (es_X12_judge_39 42 M tape i (0 : Int32))) ∧
  (¬ ((M.1 129 (tape).toNatClampNeg) = (2 : Int32)) → (True)))))))))
set_option maxHeartbeats 4000000 in
set_option maxRecDepth 100000 in
theorem el_X12_judge_39 (X : em_X)    (t0 : Int32) (hRm : ez_rm X = { frames := 1, cells := 0, slots := 0, locals := 25 }) (hnL : ez_nL X = 4) (hX : ez_ok X cX12_judge RX12) (M : em_M) (hQ : ez_ret X (some .int) (some (.int t0)) 132 em_R (M) 0 0) : ∀ (fu : Nat) (tape : Int32) (i : Int32) (k : Int32), es_X12_judge_39  fu M tape i k → et_X12_judge_39  fu M tape i k = t0 → ez_Z X 132 em_R M 0 0 39 [(0, .ref (ez_B X + 118)), (1, .int tape), (2, .int i), (3, .int k)] [] := by
  intro fu
  induction fu with
  | zero =>
    intro tape i k hs hT
    exact False.elim hs
  | succ fu ih =>
    intro tape i k hs hT
    rw [es_X12_judge_39] at hs
    refine ez_iload_n hX 3 dX12_judge_39 rfl ?_
    refine ez_aload_n hX 0 dX12_judge_40 rfl ?_
    refine ez_getr hX kc_118 rfl (Nat.le_of_ble_eq_true rfl) lc_118 (Nat.le_of_ble_eq_true rfl) inX12 119 rfl rc_118_0 wf_X12_11 dX12_judge_41 ?_
    refine ez_bipush hX (12 : Int32) dX12_judge_44 (by decide) ?_
    refine ez_iald hX kc_119 lc_119 (by unfold vp_in; decide) dX12_judge_46 ?_
    refine ez_icmp_ge hX 116 dX12_judge_47 (by decide) (fun c4 => ?_) (fun c4 => ?_)
    · -- c4 jump
      have hs := hs.1 c4
      refine ez_bipush hX (-5 : Int32) dX12_judge_116 (by decide) ?_
      have ht : t0 = (-5 : Int32) := hT.symm.trans (by simp only [et_X12_judge_39, if_pos c4])
      subst ht
      exact ez_iret hX hQ dX12_judge_118 rfl rfl
    · -- c4 on
      have hs := hs.2 c4
      refine ez_aload_n hX 0 dX12_judge_50 rfl ?_
      refine ez_getr hX kc_118 rfl (Nat.le_of_ble_eq_true rfl) lc_118 (Nat.le_of_ble_eq_true rfl) inX12 129 rfl rc_118_16 wf_X12_42 dX12_judge_51 ?_
      refine ez_iload_n hX 1 dX12_judge_54 rfl ?_
      refine ez_iald hX kc_129 lc_129 hs.1 dX12_judge_55 ?_
      have hs := hs.2
      refine ez_iconst hX (-1 : Int32) dX12_judge_56 (by decide) ?_
      refine ez_icmp_eq hX 76 dX12_judge_57 (by decide) (fun c5 => ?_) (fun c5 => ?_)
      · -- c5 jump
        have hs := hs.1 c5
        refine ez_bipush hX (100 : Int32) dX12_judge_76 (by decide) ?_
        refine ez_iload_n hX 3 dX12_judge_78 rfl ?_
        refine ez_iadd hX dX12_judge_79 ?_
        have ht : t0 = ((100 : Int32) + k) := hT.symm.trans (by simp only [et_X12_judge_39, if_neg c4, if_pos c5])
        subst ht
        exact ez_iret hX hQ dX12_judge_80 rfl rfl
      · -- c5 on
        have hs := hs.2 c5
        refine ez_iload_n hX 2 dX12_judge_60 rfl ?_
        refine ez_if_lt hX 76 dX12_judge_61 (by decide) (fun c6 => ?_) (fun c6 => ?_)
        · -- c6 jump
          have hs := hs.1 c6
          refine ez_bipush hX (100 : Int32) dX12_judge_76 (by decide) ?_
          refine ez_iload_n hX 3 dX12_judge_78 rfl ?_
          refine ez_iadd hX dX12_judge_79 ?_
          have ht : t0 = ((100 : Int32) + k) := hT.symm.trans (by simp only [et_X12_judge_39, if_neg c4, if_neg c5, if_pos c6])
          subst ht
          exact ez_iret hX hQ dX12_judge_80 rfl rfl
        · -- c6 on
          have hs := hs.2 c6
          refine ez_iload_n hX 3 dX12_judge_64 rfl ?_
          refine ez_aload_n hX 0 dX12_judge_65 rfl ?_
          refine ez_getr hX kc_118 rfl (Nat.le_of_ble_eq_true rfl) lc_118 (Nat.le_of_ble_eq_true rfl) inX12 130 rfl rc_118_17 wf_X12_45 dX12_judge_66 ?_
          refine ez_iload_n hX 1 dX12_judge_69 rfl ?_
          refine ez_iald hX kc_130 lc_130 hs.1 dX12_judge_70 ?_
          have hs := hs.2
          refine ez_iload_n hX 2 dX12_judge_71 rfl ?_
          refine ez_isub hX dX12_judge_72 ?_
          refine ez_icmp_lt hX 81 dX12_judge_73 (by decide) (fun c7 => ?_) (fun c7 => ?_)
          · -- c7 jump
            have hs := hs.1 c7
            refine ez_aload_n hX 0 dX12_judge_81 rfl ?_
            refine ez_getr hX kc_118 rfl (Nat.le_of_ble_eq_true rfl) lc_118 (Nat.le_of_ble_eq_true rfl) inX12 131 rfl rc_118_18 wf_X12_48 dX12_judge_82 ?_
            refine ez_bipush hX (60 : Int32) dX12_judge_85 (by decide) ?_
            refine ez_iload_n hX 1 dX12_judge_87 rfl ?_
            refine ez_imul hX dX12_judge_88 ?_
            refine ez_iload_n hX 2 dX12_judge_89 rfl ?_
            refine ez_iadd hX dX12_judge_90 ?_
            refine ez_iload_n hX 3 dX12_judge_91 rfl ?_
            refine ez_iadd hX dX12_judge_92 ?_
            refine ez_lald hX kc_131 lc_131 hs.1 dX12_judge_93 ?_
            have hs := hs.2
            refine ez_aload_n hX 0 dX12_judge_94 rfl ?_
            refine ez_getr hX kc_118 rfl (Nat.le_of_ble_eq_true rfl) lc_118 (Nat.le_of_ble_eq_true rfl) inX12 119 rfl rc_118_0 wf_X12_11 dX12_judge_95 ?_
            refine ez_bipush hX (74 : Int32) dX12_judge_98 (by decide) ?_
            refine ez_iload_n hX 3 dX12_judge_100 rfl ?_
            refine ez_iadd hX dX12_judge_101 ?_
            refine ez_iald hX kc_119 lc_119 hs.1 dX12_judge_102 ?_
            have hs := hs.2
            refine ez_i2l hX dX12_judge_103 ?_
            refine ez_lcmp hX dX12_judge_104 ?_
            refine ez_if_eq hX 110 dX12_judge_105 (by decide) (fun c8 => ?_) (fun c8 => ?_)
            · -- c8 jump
              have hs := hs.1 c8
              refine ez_iinc hX (k + (1 : Int32)) 3 [(3, .int (k + (1 : Int32))), (0, .ref (ez_B X + 118)), (1, .int tape), (2, .int i)] dX12_judge_110 rfl rfl (ez_lt hnL rfl) rfl ?_
              refine ez_goto hX 39 dX12_judge_113 (by decide) ?_
              refine ez_lv [1, 2, 3, 0] rfl ?_
              exact ih tape i (k + (1 : Int32)) hs (Eq.trans (by simp only [et_X12_judge_39, if_neg c4, if_neg c5, if_neg c6, if_pos c7, if_pos c8]) hT)
            · -- c8 on
              have hs := hs.2 c8
              refine ez_iload_n hX 3 dX12_judge_108 rfl ?_
              have ht : t0 = k := hT.symm.trans (by simp only [et_X12_judge_39, if_neg c4, if_neg c5, if_neg c6, if_pos c7, if_neg c8])
              subst ht
              exact ez_iret hX hQ dX12_judge_109 rfl rfl
          · -- c7 on
            have hs := hs.2 c7
            refine ez_bipush hX (100 : Int32) dX12_judge_76 (by decide) ?_
            refine ez_iload_n hX 3 dX12_judge_78 rfl ?_
            refine ez_iadd hX dX12_judge_79 ?_
            have ht : t0 = ((100 : Int32) + k) := hT.symm.trans (by simp only [et_X12_judge_39, if_neg c4, if_neg c5, if_neg c6, if_neg c7])
            subst ht
            exact ez_iret hX hQ dX12_judge_80 rfl rfl
set_option maxHeartbeats 4000000 in
set_option maxRecDepth 100000 in
theorem ec_X12_judge (l : Launch) (D : em_G) (B : Nat) (M : em_M) (tape : Int32) (i : Int32) (hs : es_X12_judge M tape i) : em_C l D B yX12_judge cX12_judge 4 (some .int) 1 25 0 0 false [.ref (B + 118), .int tape, .int i] 132 em_R M (some (.int (et_X12_judge M tape i))) 132 em_R (M) := by
  refine em_C_of RX12 [(0, .ref (B + 118)), (1, .int tape), (2, .int i)] (by decide) rfl rfl (Nat.le_of_ble_eq_true rfl) ?_
  rintro X rfl rfl rfl hRm hnL hnm hsz hX hQ
  obtain ⟨t0, hT⟩ : ∃ tz, et_X12_judge M tape i = tz := ⟨_, rfl⟩
  rw [hT] at hQ
  rw [es_X12_judge] at hs
  refine ez_iload_n hX 1 dX12_judge_0 rfl ?_
  refine ez_i2l hX dX12_judge_1 ?_
  refine ez_lconst hX (0 : Int64) dX12_judge_2 (by decide) ?_
  refine ez_ldc2 hX wl_X12_201 dX12_judge_3 ?_
  refine ez_callS hX (N0 := 0) (As := [.long ((tape).toInt64), .long (0 : Int64), .long (5 : Int64)]) (st := []) (ec_X12_in _ _ _ M ((tape).toInt64) (0 : Int64) (5 : Int64)) (Or.inl rfl) wm_X12_54 ws_X12_in wy_X12_in rfl wd_X12_in wi_X12 (ez_rok hRm rfl) (Nat.le_of_ble_eq_true rfl) dX12_judge_6 ?_
  refine ez_nmI (fun r1 er1 => ?_)
  have hs := hs r1 er1
  refine ez_if_ne hX 14 dX12_judge_9 (by decide) (fun c2 => ?_) (fun c2 => ?_)
  · -- c2 jump
    have hs := hs.2 c2
    refine ez_aload_n hX 0 dX12_judge_14 rfl ?_
    refine ez_getr hX kc_118 rfl (Nat.le_of_ble_eq_true rfl) lc_118 (Nat.le_of_ble_eq_true rfl) inX12 129 rfl rc_118_16 wf_X12_42 dX12_judge_15 ?_
    refine ez_iload_n hX 1 dX12_judge_18 rfl ?_
    refine ez_iald hX kc_129 lc_129 hs.1 dX12_judge_19 ?_
    have hs := hs.2
    refine ez_iconst hX (-1 : Int32) dX12_judge_20 (by decide) ?_
    refine ez_icmp_eq hX 37 dX12_judge_21 (by decide) (fun c3 => ?_) (fun c3 => ?_)
    · -- c3 jump
      have hs := hs.1 c3
      refine ez_iconst hX (0 : Int32) dX12_judge_37 (by decide) ?_
      refine ez_istore_n hX [(3, .int (0 : Int32)), (0, .ref (ez_B X + 118)), (1, .int tape), (2, .int i)] dX12_judge_38 (ez_lt hnL rfl) rfl ?_
      refine ez_lv [1, 2, 3, 0] rfl ?_
      exact el_X12_judge_39 X  t0 hRm hnL hX M hQ 42 tape i (0 : Int32) hs (Eq.trans (by simp only [et_X12_judge, er1, if_neg c2, if_pos c3]) hT)
    · -- c3 on
      have hs := hs.2 c3
      refine ez_aload_n hX 0 dX12_judge_24 rfl ?_
      refine ez_getr hX kc_118 rfl (Nat.le_of_ble_eq_true rfl) lc_118 (Nat.le_of_ble_eq_true rfl) inX12 129 rfl rc_118_16 wf_X12_42 dX12_judge_25 ?_
      refine ez_iload_n hX 1 dX12_judge_28 rfl ?_
      refine ez_iald hX kc_129 lc_129 hs.1 dX12_judge_29 ?_
      have hs := hs.2
      refine ez_iconst hX (2 : Int32) dX12_judge_30 (by decide) ?_
      refine ez_icmp_eq hX 37 dX12_judge_31 (by decide) (fun c9 => ?_) (fun c9 => ?_)
      · -- c9 jump
        have hs := hs.1 c9
        refine ez_iconst hX (0 : Int32) dX12_judge_37 (by decide) ?_
        refine ez_istore_n hX [(3, .int (0 : Int32)), (0, .ref (ez_B X + 118)), (1, .int tape), (2, .int i)] dX12_judge_38 (ez_lt hnL rfl) rfl ?_
        refine ez_lv [1, 2, 3, 0] rfl ?_
        exact el_X12_judge_39 X  t0 hRm hnL hX M hQ 42 tape i (0 : Int32) hs (Eq.trans (by simp only [et_X12_judge, er1, if_neg c2, if_neg c3, if_pos c9]) hT)
      · -- c9 on
        have hs := hs.2 c9
        refine ez_bipush hX (-12 : Int32) dX12_judge_34 (by decide) ?_
        have ht : t0 = (-12 : Int32) := hT.symm.trans (by simp only [et_X12_judge, er1, if_neg c2, if_neg c3, if_neg c9])
        subst ht
        exact ez_iret hX hQ dX12_judge_36 rfl rfl
  · -- c2 on
    have hs := hs.1 c2
    refine ez_iconst hX (-1 : Int32) dX12_judge_12 (by decide) ?_
    have ht : t0 = (-1 : Int32) := hT.symm.trans (by simp only [et_X12_judge, er1, if_pos c2])
    subst ht
    exact ez_iret hX hQ dX12_judge_13 rfl rfl

def et_X12_tape_80   : Nat → em_M → Int32 → Int32 → Int32 × em_M
  | 0, M, _, _ => (0, M)
  | fu + 1, M, tape, k =>
  (if (60 : Int32) ≤ k then ((1 : Int32), M) else let M9 := em_pL M 131 ((((60 : Int32) * tape) + k)).toNatClampNeg (0 : Int64)
  et_X12_tape_80 fu M9 tape (k + (1 : Int32)))
def es_X12_tape_80   : Nat → em_M → Int32 → Int32 → Prop
  | 0, _, _, _ => False
  | fu + 1, M, tape, k =>
  (((60 : Int32) ≤ k) → (True)) ∧
  (¬ ((60 : Int32) ≤ k) → (vp_in (((60 : Int32) * tape) + k) 360 ∧ (∀ M9 : em_M, em_pL M 131 ((((60 : Int32) * tape) + k)).toNatClampNeg (0 : Int64) = M9 → (
  es_X12_tape_80 fu M9 tape (k + (1 : Int32))))))
def et_X12_tape  (M : em_M) (tape : Int32) (sort : Int32) (n : Int32) : Int32 × em_M :=
  let r1 := et_X12_in M ((tape).toInt64) (0 : Int64) (5 : Int64)
  (if r1 = 0 then ((-1 : Int32), M) else let r3 := et_X12_in M ((sort).toInt64) (-1 : Int64) (4 : Int64)
  (if r3 = 0 then ((-2 : Int32), M) else (if sort = (-1 : Int32) then let M6 := em_pI M 129 (tape).toNatClampNeg sort
  let M7 := em_pI M6 130 (tape).toNatClampNeg (0 : Int32)
  et_X12_tape_80 61 M7 tape (0 : Int32) else (if n ≤ (60 : Int32) then (if 0 ≤ n then let M12 := em_pI M 129 (tape).toNatClampNeg sort
  let M13 := em_pI M12 130 (tape).toNatClampNeg n
  et_X12_tape_80 61 M13 tape (0 : Int32) else ((-14 : Int32), M)) else ((-2 : Int32), M)))))
def es_X12_tape  (M : em_M) (tape : Int32) (sort : Int32) (n : Int32) : Prop :=
  ∀ r1 : Int32, et_X12_in M ((tape).toInt64) (0 : Int64) (5 : Int64) = r1 → (
  ((r1 = 0) → (True)) ∧
  (¬ (r1 = 0) → (∀ r3 : Int32, et_X12_in M ((sort).toInt64) (-1 : Int64) (4 : Int64) = r3 → (
  ((r3 = 0) → (True)) ∧
  (¬ (r3 = 0) → (((sort = (-1 : Int32)) → (vp_in (tape) 6 ∧ (∀ M6 : em_M, em_pI M 129 (tape).toNatClampNeg sort = M6 → (
  vp_in (tape) 6 ∧ (∀ M7 : em_M, em_pI M6 130 (tape).toNatClampNeg (0 : Int32) = M7 → (
  es_X12_tape_80 61 M7 tape (0 : Int32))))))) ∧
  (¬ (sort = (-1 : Int32)) → (((n ≤ (60 : Int32)) → (((0 ≤ n) → (vp_in (tape) 6 ∧ (∀ M12 : em_M, em_pI M 129 (tape).toNatClampNeg sort = M12 → (
  vp_in (tape) 6 ∧ (∀ M13 : em_M, em_pI M12 130 (tape).toNatClampNeg n = M13 → (
  es_X12_tape_80 61 M13 tape (0 : Int32))))))) ∧
  (¬ (0 ≤ n) → (True)))) ∧
  (¬ (n ≤ (60 : Int32)) → (True))))))))))
set_option maxHeartbeats 4000000 in
set_option maxRecDepth 100000 in
theorem el_X12_tape_80 (X : em_X)    (t0 : Int32 × em_M) (hRm : ez_rm X = { frames := 1, cells := 0, slots := 0, locals := 25 }) (hnL : ez_nL X = 5) (hX : ez_ok X cX12_tape RX12) (hQ : ez_ret X (some .int) (some (.int t0.1)) 132 em_R (t0.2) 0 0) : ∀ (fu : Nat) (M : em_M) (tape : Int32) (k : Int32), es_X12_tape_80  fu M tape k → et_X12_tape_80  fu M tape k = t0 → ez_Z X 132 em_R M 0 0 80 [(0, .ref (ez_B X + 118)), (1, .int tape), (4, .int k)] [] := by
  intro fu
  induction fu with
  | zero =>
    intro M tape k hs hT
    exact False.elim hs
  | succ fu ih =>
    intro M tape k hs hT
    rw [es_X12_tape_80] at hs
    refine ez_iload hX 2 dX12_tape_80 rfl ?_
    refine ez_bipush hX (60 : Int32) dX12_tape_82 (by decide) ?_
    refine ez_icmp_ge hX 106 dX12_tape_84 (by decide) (fun c8 => ?_) (fun c8 => ?_)
    · -- c8 jump
      have hs := hs.1 c8
      refine ez_iconst hX (1 : Int32) dX12_tape_106 (by decide) ?_
      have ht : t0 = ((1 : Int32), M) := hT.symm.trans (by simp only [et_X12_tape_80, if_pos c8])
      subst ht
      exact ez_iret hX hQ dX12_tape_107 rfl rfl
    · -- c8 on
      have hs := hs.2 c8
      refine ez_aload_n hX 0 dX12_tape_87 rfl ?_
      refine ez_getr hX kc_118 rfl (Nat.le_of_ble_eq_true rfl) lc_118 (Nat.le_of_ble_eq_true rfl) inX12 131 rfl rc_118_18 wf_X12_48 dX12_tape_88 ?_
      refine ez_bipush hX (60 : Int32) dX12_tape_91 (by decide) ?_
      refine ez_iload_n hX 1 dX12_tape_93 rfl ?_
      refine ez_imul hX dX12_tape_94 ?_
      refine ez_iload hX 2 dX12_tape_95 rfl ?_
      refine ez_iadd hX dX12_tape_97 ?_
      refine ez_lconst hX (0 : Int64) dX12_tape_98 (by decide) ?_
      refine ez_last hX kc_131 lc_131 hs.1 dX12_tape_99 ?_
      have hs := hs.2
      refine ez_nmM (fun M9 eM9 => ?_)
      have hs := hs M9 eM9
      refine ez_iinc hX (k + (1 : Int32)) 2 [(4, .int (k + (1 : Int32))), (0, .ref (ez_B X + 118)), (1, .int tape)] dX12_tape_100 rfl rfl (ez_lt hnL rfl) rfl ?_
      refine ez_goto hX 80 dX12_tape_103 (by decide) ?_
      refine ez_lv [1, 2, 0] rfl ?_
      exact ih M9 tape (k + (1 : Int32)) hs (Eq.trans (by simp only [et_X12_tape_80, if_neg c8, eM9]) hT)
set_option maxHeartbeats 4000000 in
set_option maxRecDepth 100000 in
theorem ec_X12_tape (l : Launch) (D : em_G) (B : Nat) (M : em_M) (tape : Int32) (sort : Int32) (n : Int32) (hs : es_X12_tape M tape sort n) : em_C l D B yX12_tape cX12_tape 5 (some .int) 1 25 0 0 false [.ref (B + 118), .int tape, .int sort, .int n] 132 em_R M (some (.int (et_X12_tape M tape sort n).1)) 132 em_R ((et_X12_tape M tape sort n).2) := by
  refine em_C_of RX12 [(0, .ref (B + 118)), (1, .int tape), (2, .int sort), (3, .int n)] (by decide) rfl rfl (Nat.le_of_ble_eq_true rfl) ?_
  rintro X rfl rfl rfl hRm hnL hnm hsz hX hQ
  obtain ⟨t0, hT⟩ : ∃ tz, et_X12_tape M tape sort n = tz := ⟨_, rfl⟩
  rw [hT] at hQ
  rw [es_X12_tape] at hs
  refine ez_iload_n hX 1 dX12_tape_0 rfl ?_
  refine ez_i2l hX dX12_tape_1 ?_
  refine ez_lconst hX (0 : Int64) dX12_tape_2 (by decide) ?_
  refine ez_ldc2 hX wl_X12_201 dX12_tape_3 ?_
  refine ez_callS hX (N0 := 0) (As := [.long ((tape).toInt64), .long (0 : Int64), .long (5 : Int64)]) (st := []) (ec_X12_in _ _ _ M ((tape).toInt64) (0 : Int64) (5 : Int64)) (Or.inl rfl) wm_X12_54 ws_X12_in wy_X12_in rfl wd_X12_in wi_X12 (ez_rok hRm rfl) (Nat.le_of_ble_eq_true rfl) dX12_tape_6 ?_
  refine ez_nmI (fun r1 er1 => ?_)
  have hs := hs r1 er1
  refine ez_if_ne hX 14 dX12_tape_9 (by decide) (fun c2 => ?_) (fun c2 => ?_)
  · -- c2 jump
    have hs := hs.2 c2
    refine ez_iload_n hX 2 dX12_tape_14 rfl ?_
    refine ez_i2l hX dX12_tape_15 ?_
    refine ez_ldc2 hX wl_X12_241 dX12_tape_16 ?_
    refine ez_ldc2 hX wl_X12_243 dX12_tape_19 ?_
    refine ez_callS hX (N0 := 0) (As := [.long ((sort).toInt64), .long (-1 : Int64), .long (4 : Int64)]) (st := []) (ec_X12_in _ _ _ M ((sort).toInt64) (-1 : Int64) (4 : Int64)) (Or.inl rfl) wm_X12_54 ws_X12_in wy_X12_in rfl wd_X12_in wi_X12 (ez_rok hRm rfl) (Nat.le_of_ble_eq_true rfl) dX12_tape_22 ?_
    refine ez_nmI (fun r3 er3 => ?_)
    have hs := hs r3 er3
    refine ez_if_eq hX 39 dX12_tape_25 (by decide) (fun c4 => ?_) (fun c4 => ?_)
    · -- c4 jump
      have hs := hs.1 c4
      refine ez_bipush hX (-2 : Int32) dX12_tape_39 (by decide) ?_
      have ht : t0 = ((-2 : Int32), M) := hT.symm.trans (by simp only [et_X12_tape, er1, if_neg c2, er3, if_pos c4])
      subst ht
      exact ez_iret hX hQ dX12_tape_41 rfl rfl
    · -- c4 on
      have hs := hs.2 c4
      refine ez_iload_n hX 2 dX12_tape_28 rfl ?_
      refine ez_iconst hX (-1 : Int32) dX12_tape_29 (by decide) ?_
      refine ez_icmp_eq hX 42 dX12_tape_30 (by decide) (fun c5 => ?_) (fun c5 => ?_)
      · -- c5 jump
        have hs := hs.1 c5
        refine ez_iload_n hX 2 dX12_tape_42 rfl ?_
        refine ez_iconst hX (-1 : Int32) dX12_tape_43 (by decide) ?_
        refine ez_icmp_eq hX 54 dX12_tape_44 (by decide) (fun _ => ?_) (fun c => absurd (by rw [c5] <;> decide) c)
        refine ez_aload_n hX 0 dX12_tape_54 rfl ?_
        refine ez_getr hX kc_118 rfl (Nat.le_of_ble_eq_true rfl) lc_118 (Nat.le_of_ble_eq_true rfl) inX12 129 rfl rc_118_16 wf_X12_42 dX12_tape_55 ?_
        refine ez_iload_n hX 1 dX12_tape_58 rfl ?_
        refine ez_iload_n hX 2 dX12_tape_59 rfl ?_
        refine ez_iast hX kc_129 lc_129 hs.1 dX12_tape_60 ?_
        have hs := hs.2
        refine ez_nmM (fun M6 eM6 => ?_)
        have hs := hs M6 eM6
        refine ez_aload_n hX 0 dX12_tape_61 rfl ?_
        refine ez_getr hX kc_118 rfl (Nat.le_of_ble_eq_true rfl) lc_118 (Nat.le_of_ble_eq_true rfl) inX12 130 rfl rc_118_17 wf_X12_45 dX12_tape_62 ?_
        refine ez_iload_n hX 1 dX12_tape_65 rfl ?_
        refine ez_iload_n hX 2 dX12_tape_66 rfl ?_
        refine ez_iconst hX (-1 : Int32) dX12_tape_67 (by decide) ?_
        refine ez_icmp_ne hX 75 dX12_tape_68 (by decide) (fun c => absurd (by rw [c5] <;> decide) c) (fun _ => ?_)
        refine ez_iconst hX (0 : Int32) dX12_tape_71 (by decide) ?_
        refine ez_goto hX 76 dX12_tape_72 (by decide) ?_
        refine ez_iast hX kc_130 lc_130 hs.1 dX12_tape_76 ?_
        have hs := hs.2
        refine ez_nmM (fun M7 eM7 => ?_)
        have hs := hs M7 eM7
        refine ez_iconst hX (0 : Int32) dX12_tape_77 (by decide) ?_
        refine ez_istore hX [(4, .int (0 : Int32)), (0, .ref (ez_B X + 118)), (1, .int tape), (2, .int sort), (3, .int n)] dX12_tape_78 (ez_lt hnL rfl) rfl ?_
        refine ez_lv [1, 2, 0] rfl ?_
        exact el_X12_tape_80 X  t0 hRm hnL hX hQ 61 M7 tape (0 : Int32) hs (Eq.trans (by simp only [et_X12_tape, er1, if_neg c2, er3, if_neg c4, if_pos c5, eM6, eM7]) hT)
      · -- c5 on
        have hs := hs.2 c5
        refine ez_iload_n hX 3 dX12_tape_33 rfl ?_
        refine ez_bipush hX (60 : Int32) dX12_tape_34 (by decide) ?_
        refine ez_icmp_le hX 42 dX12_tape_36 (by decide) (fun c10 => ?_) (fun c10 => ?_)
        · -- c10 jump
          have hs := hs.1 c10
          refine ez_iload_n hX 2 dX12_tape_42 rfl ?_
          refine ez_iconst hX (-1 : Int32) dX12_tape_43 (by decide) ?_
          refine ez_icmp_eq hX 54 dX12_tape_44 (by decide) (fun c => absurd c c5) (fun _ => ?_)
          refine ez_iload_n hX 3 dX12_tape_47 rfl ?_
          refine ez_if_ge hX 54 dX12_tape_48 (by decide) (fun c11 => ?_) (fun c11 => ?_)
          · -- c11 jump
            have hs := hs.1 c11
            refine ez_aload_n hX 0 dX12_tape_54 rfl ?_
            refine ez_getr hX kc_118 rfl (Nat.le_of_ble_eq_true rfl) lc_118 (Nat.le_of_ble_eq_true rfl) inX12 129 rfl rc_118_16 wf_X12_42 dX12_tape_55 ?_
            refine ez_iload_n hX 1 dX12_tape_58 rfl ?_
            refine ez_iload_n hX 2 dX12_tape_59 rfl ?_
            refine ez_iast hX kc_129 lc_129 hs.1 dX12_tape_60 ?_
            have hs := hs.2
            refine ez_nmM (fun M12 eM12 => ?_)
            have hs := hs M12 eM12
            refine ez_aload_n hX 0 dX12_tape_61 rfl ?_
            refine ez_getr hX kc_118 rfl (Nat.le_of_ble_eq_true rfl) lc_118 (Nat.le_of_ble_eq_true rfl) inX12 130 rfl rc_118_17 wf_X12_45 dX12_tape_62 ?_
            refine ez_iload_n hX 1 dX12_tape_65 rfl ?_
            refine ez_iload_n hX 2 dX12_tape_66 rfl ?_
            refine ez_iconst hX (-1 : Int32) dX12_tape_67 (by decide) ?_
            refine ez_icmp_ne hX 75 dX12_tape_68 (by decide) (fun _ => ?_) (fun c => absurd c c5)
            refine ez_iload_n hX 3 dX12_tape_75 rfl ?_
            refine ez_iast hX kc_130 lc_130 hs.1 dX12_tape_76 ?_
            have hs := hs.2
            refine ez_nmM (fun M13 eM13 => ?_)
            have hs := hs M13 eM13
            refine ez_iconst hX (0 : Int32) dX12_tape_77 (by decide) ?_
            refine ez_istore hX [(4, .int (0 : Int32)), (0, .ref (ez_B X + 118)), (1, .int tape), (2, .int sort), (3, .int n)] dX12_tape_78 (ez_lt hnL rfl) rfl ?_
            refine ez_lv [1, 2, 0] rfl ?_
            exact el_X12_tape_80 X  t0 hRm hnL hX hQ 61 M13 tape (0 : Int32) hs (Eq.trans (by simp only [et_X12_tape, er1, if_neg c2, er3, if_neg c4, if_neg c5, if_pos c10, if_pos c11, eM12, eM13]) hT)
          · -- c11 on
            have hs := hs.2 c11
            refine ez_bipush hX (-14 : Int32) dX12_tape_51 (by decide) ?_
            have ht : t0 = ((-14 : Int32), M) := hT.symm.trans (by simp only [et_X12_tape, er1, if_neg c2, er3, if_neg c4, if_neg c5, if_pos c10, if_neg c11])
            subst ht
            exact ez_iret hX hQ dX12_tape_53 rfl rfl
        · -- c10 on
          have hs := hs.2 c10
          refine ez_bipush hX (-2 : Int32) dX12_tape_39 (by decide) ?_
          have ht : t0 = ((-2 : Int32), M) := hT.symm.trans (by simp only [et_X12_tape, er1, if_neg c2, er3, if_neg c4, if_neg c5, if_neg c10])
          subst ht
          exact ez_iret hX hQ dX12_tape_41 rfl rfl
  · -- c2 on
    have hs := hs.1 c2
    refine ez_iconst hX (-1 : Int32) dX12_tape_12 (by decide) ?_
    have ht : t0 = ((-1 : Int32), M) := hT.symm.trans (by simp only [et_X12_tape, er1, if_pos c2])
    subst ht
    exact ez_iret hX hQ dX12_tape_13 rfl rfl

def et_X12_lowestBits  (M : em_M) (sort : Int32) (v : Int64) : Int64 :=
  (if sort = (0 : Int32) then (((v).toInt32).toInt8.toInt32).toInt64
  else (if sort = (1 : Int32) then (((v).toInt32).toInt16.toInt32).toInt64
  else (if sort = (2 : Int32) then ((v).toInt32).toInt64
  else (if sort = (3 : Int32) then v
  else (if (lg_cmp v (0 : Int64)) = 0 then (0 : Int64) else (1 : Int64))))))
set_option maxHeartbeats 4000000 in
set_option maxRecDepth 100000 in
theorem ec_X12_lowestBits (l : Launch) (D : em_G) (B : Nat) (M : em_M) (sort : Int32) (v : Int64) : em_C l D B yX12_lowestBits cX12_lowestBits 3 (some .long) 0 0 0 0 false [.int sort, .long v] 132 em_R M (some (.long (et_X12_lowestBits M sort v))) 132 em_R (M) := by
  refine em_C_of RX12 [(0, .int sort), (1, .long v)] (by decide) rfl rfl (Nat.le_of_ble_eq_true rfl) ?_
  rintro X rfl rfl rfl hRm hnL hnm hsz hX hQ
  obtain ⟨t0, hT⟩ : ∃ tz, et_X12_lowestBits M sort v = tz := ⟨_, rfl⟩
  rw [hT] at hQ
  refine ez_iload_n hX 0 dX12_lowestBits_0 rfl ?_
  by_cases c1 : sort = (0 : Int32)
  · have cx : (sort).toInt = 0 := by rw [c1]; rfl
    refine ez_tsIn hX (0) (31) 32 dX12_lowestBits_1 cx ⟨by decide, by decide, rfl, by decide⟩ ?_
    refine ez_lload_n hX 1 dX12_lowestBits_32 rfl ?_
    refine ez_l2i hX dX12_lowestBits_33 ?_
    refine ez_i2b hX dX12_lowestBits_34 ?_
    refine ez_i2l hX dX12_lowestBits_35 ?_
    have ht : t0 = (((v).toInt32).toInt8.toInt32).toInt64 := hT.symm.trans (by simp only [et_X12_lowestBits, if_pos c1])
    subst ht
    exact ez_lret hX hQ dX12_lowestBits_36 rfl rfl
  · skip
    by_cases c2 : sort = (1 : Int32)
    · have cx : (sort).toInt = 1 := by rw [c2]; rfl
      refine ez_tsIn hX (1) (36) 37 dX12_lowestBits_1 cx ⟨by decide, by decide, rfl, by decide⟩ ?_
      refine ez_lload_n hX 1 dX12_lowestBits_37 rfl ?_
      refine ez_l2i hX dX12_lowestBits_38 ?_
      refine ez_i2s hX dX12_lowestBits_39 ?_
      refine ez_i2l hX dX12_lowestBits_40 ?_
      have ht : t0 = (((v).toInt32).toInt16.toInt32).toInt64 := hT.symm.trans (by simp only [et_X12_lowestBits, if_neg c1, if_pos c2])
      subst ht
      exact ez_lret hX hQ dX12_lowestBits_41 rfl rfl
    · skip
      by_cases c3 : sort = (2 : Int32)
      · have cx : (sort).toInt = 2 := by rw [c3]; rfl
        refine ez_tsIn hX (2) (41) 42 dX12_lowestBits_1 cx ⟨by decide, by decide, rfl, by decide⟩ ?_
        refine ez_lload_n hX 1 dX12_lowestBits_42 rfl ?_
        refine ez_l2i hX dX12_lowestBits_43 ?_
        refine ez_i2l hX dX12_lowestBits_44 ?_
        have ht : t0 = ((v).toInt32).toInt64 := hT.symm.trans (by simp only [et_X12_lowestBits, if_neg c1, if_neg c2, if_pos c3])
        subst ht
        exact ez_lret hX hQ dX12_lowestBits_45 rfl rfl
      · skip
        by_cases c4 : sort = (3 : Int32)
        · have cx : (sort).toInt = 3 := by rw [c4]; rfl
          refine ez_tsIn hX (3) (45) 46 dX12_lowestBits_1 cx ⟨by decide, by decide, rfl, by decide⟩ ?_
          refine ez_lload_n hX 1 dX12_lowestBits_46 rfl ?_
          have ht : t0 = v := hT.symm.trans (by simp only [et_X12_lowestBits, if_neg c1, if_neg c2, if_neg c3, if_pos c4])
          subst ht
          exact ez_lret hX hQ dX12_lowestBits_47 rfl rfl
        · skip
          refine ez_tsD hX [0, 1, 2, 3] 48 dX12_lowestBits_1 (List.forall_mem_cons.mpr ⟨lv_neT c1 rfl, (List.forall_mem_cons.mpr ⟨lv_neT c2 rfl, (List.forall_mem_cons.mpr ⟨lv_neT c3 rfl, (List.forall_mem_cons.mpr ⟨lv_neT c4 rfl, (fun _ h => absurd h List.not_mem_nil)⟩)⟩)⟩)⟩) (by decide +kernel) (by decide) ?_
          refine ez_lload_n hX 1 dX12_lowestBits_48 rfl ?_
          refine ez_lconst hX (0 : Int64) dX12_lowestBits_49 (by decide) ?_
          refine ez_lcmp hX dX12_lowestBits_50 ?_
          refine ez_if_ne hX 58 dX12_lowestBits_51 (by decide) (fun c5 => ?_) (fun c5 => ?_)
          · -- c5 jump
            refine ez_lconst hX (1 : Int64) dX12_lowestBits_58 (by decide) ?_
            have ht : t0 = (1 : Int64) := hT.symm.trans (by simp only [et_X12_lowestBits, if_neg c1, if_neg c2, if_neg c3, if_neg c4, if_neg c5])
            subst ht
            exact ez_lret hX hQ dX12_lowestBits_59 rfl rfl
          · -- c5 on
            refine ez_lconst hX (0 : Int64) dX12_lowestBits_54 (by decide) ?_
            refine ez_goto hX 59 dX12_lowestBits_55 (by decide) ?_
            have ht : t0 = (0 : Int64) := hT.symm.trans (by simp only [et_X12_lowestBits, if_neg c1, if_neg c2, if_neg c3, if_neg c4, if_pos c5])
            subst ht
            exact ez_lret hX hQ dX12_lowestBits_59 rfl rfl

def et_X12_item  (M : em_M) (tape : Int32) (i : Int32) (v : Int64) : Int32 × em_M :=
  let r1 := et_X12_in M ((tape).toInt64) (0 : Int64) (5 : Int64)
  (if r1 = 0 then ((-1 : Int32), M) else (if (M.1 129 (tape).toNatClampNeg) = (-1 : Int32) then ((-11 : Int32), M) else let r4 := et_X12_in M ((i).toInt64) (0 : Int64) ((((M.1 130 (tape).toNatClampNeg) - (1 : Int32))).toInt64)
  (if r4 = 0 then ((-13 : Int32), M) else let r6 := et_X12_lowestBits M (M.1 129 (tape).toNatClampNeg) v
  let M7 := em_pL M 131 ((((60 : Int32) * tape) + i)).toNatClampNeg r6
  ((1 : Int32), M7))))
def es_X12_item  (M : em_M) (tape : Int32) (i : Int32) (v : Int64) : Prop :=
  ∀ r1 : Int32, et_X12_in M ((tape).toInt64) (0 : Int64) (5 : Int64) = r1 → (
  ((r1 = 0) → (True)) ∧
  (¬ (r1 = 0) → (vp_in (tape) 6 ∧ ((((M.1 129 (tape).toNatClampNeg) = (-1 : Int32)) → (True)) ∧
  (¬ ((M.1 129 (tape).toNatClampNeg) = (-1 : Int32)) → (vp_in (tape) 6 ∧ (∀ r4 : Int32, et_X12_in M ((i).toInt64) (0 : Int64) ((((M.1 130 (tape).toNatClampNeg) - (1 : Int32))).toInt64) = r4 → (
  ((r4 = 0) → (True)) ∧
  (¬ (r4 = 0) → (vp_in (tape) 6 ∧ (∀ r6 : Int64, et_X12_lowestBits M (M.1 129 (tape).toNatClampNeg) v = r6 → (
  vp_in (((60 : Int32) * tape) + i) 360 ∧ (∀ M7 : em_M, em_pL M 131 ((((60 : Int32) * tape) + i)).toNatClampNeg r6 = M7 → (
  True))))))))))))))
set_option maxHeartbeats 4000000 in
set_option maxRecDepth 100000 in
theorem ec_X12_item (l : Launch) (D : em_G) (B : Nat) (M : em_M) (tape : Int32) (i : Int32) (v : Int64) (hs : es_X12_item M tape i v) : em_C l D B yX12_item cX12_item 5 (some .int) 1 25 0 0 false [.ref (B + 118), .int tape, .int i, .long v] 132 em_R M (some (.int (et_X12_item M tape i v).1)) 132 em_R ((et_X12_item M tape i v).2) := by
  refine em_C_of RX12 [(0, .ref (B + 118)), (1, .int tape), (2, .int i), (3, .long v)] (by decide) rfl rfl (Nat.le_of_ble_eq_true rfl) ?_
  rintro X rfl rfl rfl hRm hnL hnm hsz hX hQ
  obtain ⟨t0, hT⟩ : ∃ tz, et_X12_item M tape i v = tz := ⟨_, rfl⟩
  rw [hT] at hQ
  rw [es_X12_item] at hs
  refine ez_iload_n hX 1 dX12_item_0 rfl ?_
  refine ez_i2l hX dX12_item_1 ?_
  refine ez_lconst hX (0 : Int64) dX12_item_2 (by decide) ?_
  refine ez_ldc2 hX wl_X12_201 dX12_item_3 ?_
  refine ez_callS hX (N0 := 0) (As := [.long ((tape).toInt64), .long (0 : Int64), .long (5 : Int64)]) (st := []) (ec_X12_in _ _ _ M ((tape).toInt64) (0 : Int64) (5 : Int64)) (Or.inl rfl) wm_X12_54 ws_X12_in wy_X12_in rfl wd_X12_in wi_X12 (ez_rok hRm rfl) (Nat.le_of_ble_eq_true rfl) dX12_item_6 ?_
  refine ez_nmI (fun r1 er1 => ?_)
  have hs := hs r1 er1
  refine ez_if_ne hX 14 dX12_item_9 (by decide) (fun c2 => ?_) (fun c2 => ?_)
  · -- c2 jump
    have hs := hs.2 c2
    refine ez_aload_n hX 0 dX12_item_14 rfl ?_
    refine ez_getr hX kc_118 rfl (Nat.le_of_ble_eq_true rfl) lc_118 (Nat.le_of_ble_eq_true rfl) inX12 129 rfl rc_118_16 wf_X12_42 dX12_item_15 ?_
    refine ez_iload_n hX 1 dX12_item_18 rfl ?_
    refine ez_iald hX kc_129 lc_129 hs.1 dX12_item_19 ?_
    have hs := hs.2
    refine ez_iconst hX (-1 : Int32) dX12_item_20 (by decide) ?_
    refine ez_icmp_ne hX 27 dX12_item_21 (by decide) (fun c3 => ?_) (fun c3 => ?_)
    · -- c3 jump
      have hs := hs.2 c3
      refine ez_iload_n hX 2 dX12_item_27 rfl ?_
      refine ez_i2l hX dX12_item_28 ?_
      refine ez_lconst hX (0 : Int64) dX12_item_29 (by decide) ?_
      refine ez_aload_n hX 0 dX12_item_30 rfl ?_
      refine ez_getr hX kc_118 rfl (Nat.le_of_ble_eq_true rfl) lc_118 (Nat.le_of_ble_eq_true rfl) inX12 130 rfl rc_118_17 wf_X12_45 dX12_item_31 ?_
      refine ez_iload_n hX 1 dX12_item_34 rfl ?_
      refine ez_iald hX kc_130 lc_130 hs.1 dX12_item_35 ?_
      have hs := hs.2
      refine ez_iconst hX (1 : Int32) dX12_item_36 (by decide) ?_
      refine ez_isub hX dX12_item_37 ?_
      refine ez_i2l hX dX12_item_38 ?_
      refine ez_callS hX (N0 := 0) (As := [.long ((i).toInt64), .long (0 : Int64), .long ((((M.1 130 (tape).toNatClampNeg) - (1 : Int32))).toInt64)]) (st := []) (ec_X12_in _ _ _ M ((i).toInt64) (0 : Int64) ((((M.1 130 (tape).toNatClampNeg) - (1 : Int32))).toInt64)) (Or.inl rfl) wm_X12_54 ws_X12_in wy_X12_in rfl wd_X12_in wi_X12 (ez_rok hRm rfl) (Nat.le_of_ble_eq_true rfl) dX12_item_39 ?_
      refine ez_nmI (fun r4 er4 => ?_)
      have hs := hs r4 er4
      refine ez_if_ne hX 48 dX12_item_42 (by decide) (fun c5 => ?_) (fun c5 => ?_)
      · -- c5 jump
        have hs := hs.2 c5
        refine ez_aload_n hX 0 dX12_item_48 rfl ?_
        refine ez_getr hX kc_118 rfl (Nat.le_of_ble_eq_true rfl) lc_118 (Nat.le_of_ble_eq_true rfl) inX12 131 rfl rc_118_18 wf_X12_48 dX12_item_49 ?_
        refine ez_bipush hX (60 : Int32) dX12_item_52 (by decide) ?_
        refine ez_iload_n hX 1 dX12_item_54 rfl ?_
        refine ez_imul hX dX12_item_55 ?_
        refine ez_iload_n hX 2 dX12_item_56 rfl ?_
        refine ez_iadd hX dX12_item_57 ?_
        refine ez_aload_n hX 0 dX12_item_58 rfl ?_
        refine ez_getr hX kc_118 rfl (Nat.le_of_ble_eq_true rfl) lc_118 (Nat.le_of_ble_eq_true rfl) inX12 129 rfl rc_118_16 wf_X12_42 dX12_item_59 ?_
        refine ez_iload_n hX 1 dX12_item_62 rfl ?_
        refine ez_iald hX kc_129 lc_129 hs.1 dX12_item_63 ?_
        have hs := hs.2
        refine ez_lload_n hX 3 dX12_item_64 rfl ?_
        refine ez_callS hX (N0 := 0) (As := [.int (M.1 129 (tape).toNatClampNeg), .long v]) (st := [.int (((60 : Int32) * tape) + i), .ref (ez_B X + 131)]) (ec_X12_lowestBits _ _ _ M (M.1 129 (tape).toNatClampNeg) v) (Or.inl rfl) wm_X12_245 ws_X12_lowestBits wy_X12_lowestBits rfl wd_X12_lowestBits wi_X12 (ez_rok hRm rfl) (Nat.le_of_ble_eq_true rfl) dX12_item_65 ?_
        refine ez_nmL (fun r6 er6 => ?_)
        have hs := hs r6 er6
        refine ez_last hX kc_131 lc_131 hs.1 dX12_item_68 ?_
        have hs := hs.2
        refine ez_nmM (fun M7 eM7 => ?_)
        have hs := hs M7 eM7
        refine ez_iconst hX (1 : Int32) dX12_item_69 (by decide) ?_
        have ht : t0 = ((1 : Int32), M7) := hT.symm.trans (by simp only [et_X12_item, er1, if_neg c2, if_neg c3, er4, if_neg c5, er6, eM7])
        subst ht
        exact ez_iret hX hQ dX12_item_70 rfl rfl
      · -- c5 on
        have hs := hs.1 c5
        refine ez_bipush hX (-13 : Int32) dX12_item_45 (by decide) ?_
        have ht : t0 = ((-13 : Int32), M) := hT.symm.trans (by simp only [et_X12_item, er1, if_neg c2, if_neg c3, er4, if_pos c5])
        subst ht
        exact ez_iret hX hQ dX12_item_47 rfl rfl
    · -- c3 on
      have hs := hs.1 c3
      refine ez_bipush hX (-11 : Int32) dX12_item_24 (by decide) ?_
      have ht : t0 = ((-11 : Int32), M) := hT.symm.trans (by simp only [et_X12_item, er1, if_neg c2, if_pos c3])
      subst ht
      exact ez_iret hX hQ dX12_item_26 rfl rfl
  · -- c2 on
    have hs := hs.1 c2
    refine ez_iconst hX (-1 : Int32) dX12_item_12 (by decide) ?_
    have ht : t0 = ((-1 : Int32), M) := hT.symm.trans (by simp only [et_X12_item, er1, if_pos c2])
    subst ht
    exact ez_iret hX hQ dX12_item_13 rfl rfl

def et_X12_read  (M : em_M) (tape : Int32) (i : Int32) : Int64 :=
  let r1 := et_X12_in M ((tape).toInt64) (0 : Int64) (5 : Int64)
  (if r1 = 0 then (-9223372036854775808 : Int64) else let r3 := et_X12_in M ((i).toInt64) (0 : Int64) ((((M.1 130 (tape).toNatClampNeg) - (1 : Int32))).toInt64)
  (if r3 = 0 then (-9223372036854775808 : Int64) else (M.2 131 ((((60 : Int32) * tape) + i)).toNatClampNeg)))
def es_X12_read  (M : em_M) (tape : Int32) (i : Int32) : Prop :=
  ∀ r1 : Int32, et_X12_in M ((tape).toInt64) (0 : Int64) (5 : Int64) = r1 → (
  ((r1 = 0) → (True)) ∧
  (¬ (r1 = 0) → (vp_in (tape) 6 ∧ (∀ r3 : Int32, et_X12_in M ((i).toInt64) (0 : Int64) ((((M.1 130 (tape).toNatClampNeg) - (1 : Int32))).toInt64) = r3 → (
  ((r3 = 0) → (True)) ∧
  (¬ (r3 = 0) → (vp_in (((60 : Int32) * tape) + i) 360 ∧ (True))))))))
set_option maxHeartbeats 4000000 in
set_option maxRecDepth 100000 in
theorem ec_X12_read (l : Launch) (D : em_G) (B : Nat) (M : em_M) (tape : Int32) (i : Int32) (hs : es_X12_read M tape i) : em_C l D B yX12_read cX12_read 3 (some .long) 1 25 0 0 false [.ref (B + 118), .int tape, .int i] 132 em_R M (some (.long (et_X12_read M tape i))) 132 em_R (M) := by
  refine em_C_of RX12 [(0, .ref (B + 118)), (1, .int tape), (2, .int i)] (by decide) rfl rfl (Nat.le_of_ble_eq_true rfl) ?_
  rintro X rfl rfl rfl hRm hnL hnm hsz hX hQ
  obtain ⟨t0, hT⟩ : ∃ tz, et_X12_read M tape i = tz := ⟨_, rfl⟩
  rw [hT] at hQ
  rw [es_X12_read] at hs
  refine ez_iload_n hX 1 dX12_read_0 rfl ?_
  refine ez_i2l hX dX12_read_1 ?_
  refine ez_lconst hX (0 : Int64) dX12_read_2 (by decide) ?_
  refine ez_ldc2 hX wl_X12_201 dX12_read_3 ?_
  refine ez_callS hX (N0 := 0) (As := [.long ((tape).toInt64), .long (0 : Int64), .long (5 : Int64)]) (st := []) (ec_X12_in _ _ _ M ((tape).toInt64) (0 : Int64) (5 : Int64)) (Or.inl rfl) wm_X12_54 ws_X12_in wy_X12_in rfl wd_X12_in wi_X12 (ez_rok hRm rfl) (Nat.le_of_ble_eq_true rfl) dX12_read_6 ?_
  refine ez_nmI (fun r1 er1 => ?_)
  have hs := hs r1 er1
  refine ez_if_eq hX 44 dX12_read_9 (by decide) (fun c2 => ?_) (fun c2 => ?_)
  · -- c2 jump
    have hs := hs.1 c2
    refine ez_ldc2 hX wl_X12_134 dX12_read_44 ?_
    have ht : t0 = (-9223372036854775808 : Int64) := hT.symm.trans (by simp only [et_X12_read, er1, if_pos c2])
    subst ht
    exact ez_lret hX hQ dX12_read_47 rfl rfl
  · -- c2 on
    have hs := hs.2 c2
    refine ez_iload_n hX 2 dX12_read_12 rfl ?_
    refine ez_i2l hX dX12_read_13 ?_
    refine ez_lconst hX (0 : Int64) dX12_read_14 (by decide) ?_
    refine ez_aload_n hX 0 dX12_read_15 rfl ?_
    refine ez_getr hX kc_118 rfl (Nat.le_of_ble_eq_true rfl) lc_118 (Nat.le_of_ble_eq_true rfl) inX12 130 rfl rc_118_17 wf_X12_45 dX12_read_16 ?_
    refine ez_iload_n hX 1 dX12_read_19 rfl ?_
    refine ez_iald hX kc_130 lc_130 hs.1 dX12_read_20 ?_
    have hs := hs.2
    refine ez_iconst hX (1 : Int32) dX12_read_21 (by decide) ?_
    refine ez_isub hX dX12_read_22 ?_
    refine ez_i2l hX dX12_read_23 ?_
    refine ez_callS hX (N0 := 0) (As := [.long ((i).toInt64), .long (0 : Int64), .long ((((M.1 130 (tape).toNatClampNeg) - (1 : Int32))).toInt64)]) (st := []) (ec_X12_in _ _ _ M ((i).toInt64) (0 : Int64) ((((M.1 130 (tape).toNatClampNeg) - (1 : Int32))).toInt64)) (Or.inl rfl) wm_X12_54 ws_X12_in wy_X12_in rfl wd_X12_in wi_X12 (ez_rok hRm rfl) (Nat.le_of_ble_eq_true rfl) dX12_read_24 ?_
    refine ez_nmI (fun r3 er3 => ?_)
    have hs := hs r3 er3
    refine ez_if_eq hX 44 dX12_read_27 (by decide) (fun c4 => ?_) (fun c4 => ?_)
    · -- c4 jump
      have hs := hs.1 c4
      refine ez_ldc2 hX wl_X12_134 dX12_read_44 ?_
      have ht : t0 = (-9223372036854775808 : Int64) := hT.symm.trans (by simp only [et_X12_read, er1, if_neg c2, er3, if_pos c4])
      subst ht
      exact ez_lret hX hQ dX12_read_47 rfl rfl
    · -- c4 on
      have hs := hs.2 c4
      refine ez_aload_n hX 0 dX12_read_30 rfl ?_
      refine ez_getr hX kc_118 rfl (Nat.le_of_ble_eq_true rfl) lc_118 (Nat.le_of_ble_eq_true rfl) inX12 131 rfl rc_118_18 wf_X12_48 dX12_read_31 ?_
      refine ez_bipush hX (60 : Int32) dX12_read_34 (by decide) ?_
      refine ez_iload_n hX 1 dX12_read_36 rfl ?_
      refine ez_imul hX dX12_read_37 ?_
      refine ez_iload_n hX 2 dX12_read_38 rfl ?_
      refine ez_iadd hX dX12_read_39 ?_
      refine ez_lald hX kc_131 lc_131 hs.1 dX12_read_40 ?_
      have hs := hs.2
      refine ez_goto hX 47 dX12_read_41 (by decide) ?_
      have ht : t0 = (M.2 131 ((((60 : Int32) * tape) + i)).toNatClampNeg) := hT.symm.trans (by simp only [et_X12_read, er1, if_neg c2, er3, if_neg c4])
      subst ht
      exact ez_lret hX hQ dX12_read_47 rfl rfl

def et_X12_shift_135   : Nat → em_M → Int32 → Int32 → Int32 → Int32 → Int32 → Int32 → Int32 × em_M
  | 0, M, _, _, _, _, _, _ => (0, M)
  | fu + 1, M, tape, i, other, j, n, k =>
  (if n ≤ k then (n, M) else (if j ≤ i then let M17 := em_pL M 131 (((((60 : Int32) * other) + j) + k)).toNatClampNeg (M.2 131 (((((60 : Int32) * tape) + i) + k)).toNatClampNeg)
  et_X12_shift_135 fu M17 tape i other j n (k + (1 : Int32)) else let M18 := em_pL M 131 (((((60 : Int32) * other) + j) + ((n - (1 : Int32)) - k))).toNatClampNeg (M.2 131 (((((60 : Int32) * tape) + i) + ((n - (1 : Int32)) - k))).toNatClampNeg)
  et_X12_shift_135 fu M18 tape i other j n (k + (1 : Int32))))
def es_X12_shift_135   : Nat → em_M → Int32 → Int32 → Int32 → Int32 → Int32 → Int32 → Prop
  | 0, _, _, _, _, _, _, _ => False
  | fu + 1, M, tape, i, other, j, n, k =>
  ((n ≤ k) → (True)) ∧
  (¬ (n ≤ k) → (((j ≤ i) → (vp_in ((((60 : Int32) * tape) + i) + k) 360 ∧ (vp_in ((((60 : Int32) * other) + j) + k) 360 ∧ (∀ M17 : em_M, em_pL M 131 (((((60 : Int32) * other) + j) + k)).toNatClampNeg (M.2 131 (((((60 : Int32) * tape) + i) + k)).toNatClampNeg) = M17 → (
  es_X12_shift_135 fu M17 tape i other j n (k + (1 : Int32))))))) ∧
  (¬ (j ≤ i) → (vp_in ((((60 : Int32) * tape) + i) + ((n - (1 : Int32)) - k)) 360 ∧ (vp_in ((((60 : Int32) * other) + j) + ((n - (1 : Int32)) - k)) 360 ∧ (∀ M18 : em_M, em_pL M 131 (((((60 : Int32) * other) + j) + ((n - (1 : Int32)) - k))).toNatClampNeg (M.2 131 (((((60 : Int32) * tape) + i) + ((n - (1 : Int32)) - k))).toNatClampNeg) = M18 → (
  es_X12_shift_135 fu M18 tape i other j n (k + (1 : Int32)))))))))
def et_X12_shift  (M : em_M) (tape : Int32) (i : Int32) (other : Int32) (j : Int32) (n : Int32) : Int32 × em_M :=
  let r1 := et_X12_in M ((tape).toInt64) (0 : Int64) (5 : Int64)
  (if r1 = 0 then ((-1 : Int32), M) else let r3 := et_X12_in M ((other).toInt64) (0 : Int64) (5 : Int64)
  (if r3 = 0 then ((-1 : Int32), M) else (if (M.1 129 (tape).toNatClampNeg) = (-1 : Int32) then ((-11 : Int32), M) else (if (M.1 129 (other).toNatClampNeg) = (-1 : Int32) then ((-11 : Int32), M) else (if (M.1 129 (tape).toNatClampNeg) = (M.1 129 (other).toNatClampNeg) then (if n < 0 then ((-13 : Int32), M) else (if i < 0 then ((-13 : Int32), M) else (if j < 0 then ((-13 : Int32), M) else (if (M.1 130 (tape).toNatClampNeg) < i then ((-13 : Int32), M) else (if (M.1 130 (other).toNatClampNeg) < j then ((-13 : Int32), M) else (if ((M.1 130 (tape).toNatClampNeg) - i) < n then ((-13 : Int32), M) else (if n ≤ ((M.1 130 (other).toNatClampNeg) - j) then et_X12_shift_135 (n.toNatClampNeg + 1) M tape i other j n (0 : Int32) else ((-13 : Int32), M)))))))) else ((-12 : Int32), M))))))
def es_X12_shift  (M : em_M) (tape : Int32) (i : Int32) (other : Int32) (j : Int32) (n : Int32) : Prop :=
  ∀ r1 : Int32, et_X12_in M ((tape).toInt64) (0 : Int64) (5 : Int64) = r1 → (
  ((r1 = 0) → (True)) ∧
  (¬ (r1 = 0) → (∀ r3 : Int32, et_X12_in M ((other).toInt64) (0 : Int64) (5 : Int64) = r3 → (
  ((r3 = 0) → (True)) ∧
  (¬ (r3 = 0) → (vp_in (tape) 6 ∧ ((((M.1 129 (tape).toNatClampNeg) = (-1 : Int32)) → (True)) ∧
  (¬ ((M.1 129 (tape).toNatClampNeg) = (-1 : Int32)) → (vp_in (other) 6 ∧ ((((M.1 129 (other).toNatClampNeg) = (-1 : Int32)) → (True)) ∧
  (¬ ((M.1 129 (other).toNatClampNeg) = (-1 : Int32)) → (vp_in (tape) 6 ∧ (vp_in (other) 6 ∧ ((((M.1 129 (tape).toNatClampNeg) = (M.1 129 (other).toNatClampNeg)) → (((n < 0) → (True)) ∧
  (¬ (n < 0) → (((i < 0) → (True)) ∧
  (¬ (i < 0) → (((j < 0) → (True)) ∧
  (¬ (j < 0) → (vp_in (tape) 6 ∧ ((((M.1 130 (tape).toNatClampNeg) < i) → (True)) ∧
  (¬ ((M.1 130 (tape).toNatClampNeg) < i) → (vp_in (other) 6 ∧ ((((M.1 130 (other).toNatClampNeg) < j) → (True)) ∧
  (¬ ((M.1 130 (other).toNatClampNeg) < j) → (vp_in (tape) 6 ∧ (((((M.1 130 (tape).toNatClampNeg) - i) < n) → (True)) ∧
  (¬ (((M.1 130 (tape).toNatClampNeg) - i) < n) → (vp_in (other) 6 ∧ (((n ≤ ((M.1 130 (other).toNatClampNeg) - j)) → (es_X12_shift_135 (n.toNatClampNeg + 1) M tape i other j n (0 : Int32))) ∧
  (¬ (n ≤ ((M.1 130 (other).toNatClampNeg) - j)) → (True)))))))))))))))))))) ∧
  (¬ ((M.1 129 (tape).toNatClampNeg) = (M.1 129 (other).toNatClampNeg)) → (True))))))))))))))))
set_option maxHeartbeats 4000000 in
set_option maxRecDepth 100000 in
theorem el_X12_shift_135 (X : em_X)    (t0 : Int32 × em_M) (hRm : ez_rm X = { frames := 1, cells := 0, slots := 0, locals := 25 }) (hnL : ez_nL X = 8) (hX : ez_ok X cX12_shift RX12) (hQ : ez_ret X (some .int) (some (.int t0.1)) 132 em_R (t0.2) 0 0) : ∀ (fu : Nat) (M : em_M) (tape : Int32) (i : Int32) (other : Int32) (j : Int32) (n : Int32) (k : Int32), es_X12_shift_135  fu M tape i other j n k → et_X12_shift_135  fu M tape i other j n k = t0 → ez_Z X 132 em_R M 0 0 135 [(0, .ref (ez_B X + 118)), (1, .int tape), (2, .int i), (3, .int other), (4, .int j), (5, .int n), (6, .int k)] [] := by
  intro fu
  induction fu with
  | zero =>
    intro M tape i other j n k hs hT
    exact False.elim hs
  | succ fu ih =>
    intro M tape i other j n k hs hT
    rw [es_X12_shift_135] at hs
    refine ez_iload hX 6 dX12_shift_135 rfl ?_
    refine ez_iload hX 5 dX12_shift_137 rfl ?_
    refine ez_icmp_ge hX 197 dX12_shift_139 (by decide) (fun c15 => ?_) (fun c15 => ?_)
    · -- c15 jump
      have hs := hs.1 c15
      refine ez_iload hX 5 dX12_shift_197 rfl ?_
      have ht : t0 = (n, M) := hT.symm.trans (by simp only [et_X12_shift_135, if_pos c15])
      subst ht
      exact ez_iret hX hQ dX12_shift_199 rfl rfl
    · -- c15 on
      have hs := hs.2 c15
      refine ez_iload_n hX 2 dX12_shift_142 rfl ?_
      refine ez_iload hX 4 dX12_shift_143 rfl ?_
      refine ez_icmp_ge hX 158 dX12_shift_145 (by decide) (fun c16 => ?_) (fun c16 => ?_)
      · -- c16 jump
        have hs := hs.1 c16
        refine ez_iload hX 6 dX12_shift_158 rfl ?_
        refine ez_istore hX [(7, .int k), (0, .ref (ez_B X + 118)), (1, .int tape), (2, .int i), (3, .int other), (4, .int j), (5, .int n), (6, .int k)] dX12_shift_160 (ez_lt hnL rfl) rfl ?_
        refine ez_aload_n hX 1 dX12_shift_162 rfl ?_
        refine ez_getr hX kc_118 rfl (Nat.le_of_ble_eq_true rfl) lc_118 (Nat.le_of_ble_eq_true rfl) inX12 131 rfl rc_118_18 wf_X12_48 dX12_shift_163 ?_
        refine ez_bipush hX (60 : Int32) dX12_shift_166 (by decide) ?_
        refine ez_iload_n hX 4 dX12_shift_168 rfl ?_
        refine ez_imul hX dX12_shift_169 ?_
        refine ez_iload hX 5 dX12_shift_170 rfl ?_
        refine ez_iadd hX dX12_shift_172 ?_
        refine ez_iload hX 0 dX12_shift_173 rfl ?_
        refine ez_iadd hX dX12_shift_175 ?_
        refine ez_aload_n hX 1 dX12_shift_176 rfl ?_
        refine ez_getr hX kc_118 rfl (Nat.le_of_ble_eq_true rfl) lc_118 (Nat.le_of_ble_eq_true rfl) inX12 131 rfl rc_118_18 wf_X12_48 dX12_shift_177 ?_
        refine ez_bipush hX (60 : Int32) dX12_shift_180 (by decide) ?_
        refine ez_iload_n hX 2 dX12_shift_182 rfl ?_
        refine ez_imul hX dX12_shift_183 ?_
        refine ez_iload_n hX 3 dX12_shift_184 rfl ?_
        refine ez_iadd hX dX12_shift_185 ?_
        refine ez_iload hX 0 dX12_shift_186 rfl ?_
        refine ez_iadd hX dX12_shift_188 ?_
        refine ez_lald hX kc_131 lc_131 hs.1 dX12_shift_189 ?_
        have hs := hs.2
        refine ez_last hX kc_131 lc_131 hs.1 dX12_shift_190 ?_
        have hs := hs.2
        refine ez_nmM (fun M17 eM17 => ?_)
        have hs := hs M17 eM17
        refine ez_iinc hX (k + (1 : Int32)) 7 [(6, .int (k + (1 : Int32))), (7, .int k), (0, .ref (ez_B X + 118)), (1, .int tape), (2, .int i), (3, .int other), (4, .int j), (5, .int n)] dX12_shift_191 rfl rfl (ez_lt hnL rfl) rfl ?_
        refine ez_goto hX 135 dX12_shift_194 (by decide) ?_
        refine ez_lv [2, 3, 4, 5, 6, 7, 0] rfl ?_
        exact ih M17 tape i other j n (k + (1 : Int32)) hs (Eq.trans (by simp only [et_X12_shift_135, if_neg c15, if_pos c16, eM17]) hT)
      · -- c16 on
        have hs := hs.2 c16
        refine ez_iload hX 5 dX12_shift_148 rfl ?_
        refine ez_iconst hX (1 : Int32) dX12_shift_150 (by decide) ?_
        refine ez_isub hX dX12_shift_151 ?_
        refine ez_iload hX 6 dX12_shift_152 rfl ?_
        refine ez_isub hX dX12_shift_154 ?_
        refine ez_goto hX 160 dX12_shift_155 (by decide) ?_
        refine ez_istore hX [(7, .int ((n - (1 : Int32)) - k)), (0, .ref (ez_B X + 118)), (1, .int tape), (2, .int i), (3, .int other), (4, .int j), (5, .int n), (6, .int k)] dX12_shift_160 (ez_lt hnL rfl) rfl ?_
        refine ez_aload_n hX 1 dX12_shift_162 rfl ?_
        refine ez_getr hX kc_118 rfl (Nat.le_of_ble_eq_true rfl) lc_118 (Nat.le_of_ble_eq_true rfl) inX12 131 rfl rc_118_18 wf_X12_48 dX12_shift_163 ?_
        refine ez_bipush hX (60 : Int32) dX12_shift_166 (by decide) ?_
        refine ez_iload_n hX 4 dX12_shift_168 rfl ?_
        refine ez_imul hX dX12_shift_169 ?_
        refine ez_iload hX 5 dX12_shift_170 rfl ?_
        refine ez_iadd hX dX12_shift_172 ?_
        refine ez_iload hX 0 dX12_shift_173 rfl ?_
        refine ez_iadd hX dX12_shift_175 ?_
        refine ez_aload_n hX 1 dX12_shift_176 rfl ?_
        refine ez_getr hX kc_118 rfl (Nat.le_of_ble_eq_true rfl) lc_118 (Nat.le_of_ble_eq_true rfl) inX12 131 rfl rc_118_18 wf_X12_48 dX12_shift_177 ?_
        refine ez_bipush hX (60 : Int32) dX12_shift_180 (by decide) ?_
        refine ez_iload_n hX 2 dX12_shift_182 rfl ?_
        refine ez_imul hX dX12_shift_183 ?_
        refine ez_iload_n hX 3 dX12_shift_184 rfl ?_
        refine ez_iadd hX dX12_shift_185 ?_
        refine ez_iload hX 0 dX12_shift_186 rfl ?_
        refine ez_iadd hX dX12_shift_188 ?_
        refine ez_lald hX kc_131 lc_131 hs.1 dX12_shift_189 ?_
        have hs := hs.2
        refine ez_last hX kc_131 lc_131 hs.1 dX12_shift_190 ?_
        have hs := hs.2
        refine ez_nmM (fun M18 eM18 => ?_)
        have hs := hs M18 eM18
        refine ez_iinc hX (k + (1 : Int32)) 7 [(6, .int (k + (1 : Int32))), (7, .int ((n - (1 : Int32)) - k)), (0, .ref (ez_B X + 118)), (1, .int tape), (2, .int i), (3, .int other), (4, .int j), (5, .int n)] dX12_shift_191 rfl rfl (ez_lt hnL rfl) rfl ?_
        refine ez_goto hX 135 dX12_shift_194 (by decide) ?_
        refine ez_lv [2, 3, 4, 5, 6, 7, 0] rfl ?_
        exact ih M18 tape i other j n (k + (1 : Int32)) hs (Eq.trans (by simp only [et_X12_shift_135, if_neg c15, if_neg c16, eM18]) hT)
set_option maxHeartbeats 4000000 in
set_option maxRecDepth 100000 in
theorem ec_X12_shift (l : Launch) (D : em_G) (B : Nat) (M : em_M) (tape : Int32) (i : Int32) (other : Int32) (j : Int32) (n : Int32) (hs : es_X12_shift M tape i other j n) : em_C l D B yX12_shift cX12_shift 8 (some .int) 1 25 0 0 false [.ref (B + 118), .int tape, .int i, .int other, .int j, .int n] 132 em_R M (some (.int (et_X12_shift M tape i other j n).1)) 132 em_R ((et_X12_shift M tape i other j n).2) := by
  refine em_C_of RX12 [(0, .ref (B + 118)), (1, .int tape), (2, .int i), (3, .int other), (4, .int j), (5, .int n)] (by decide) rfl rfl (Nat.le_of_ble_eq_true rfl) ?_
  rintro X rfl rfl rfl hRm hnL hnm hsz hX hQ
  obtain ⟨t0, hT⟩ : ∃ tz, et_X12_shift M tape i other j n = tz := ⟨_, rfl⟩
  rw [hT] at hQ
  rw [es_X12_shift] at hs
  refine ez_iload_n hX 1 dX12_shift_0 rfl ?_
  refine ez_i2l hX dX12_shift_1 ?_
  refine ez_lconst hX (0 : Int64) dX12_shift_2 (by decide) ?_
  refine ez_ldc2 hX wl_X12_201 dX12_shift_3 ?_
  refine ez_callS hX (N0 := 0) (As := [.long ((tape).toInt64), .long (0 : Int64), .long (5 : Int64)]) (st := []) (ec_X12_in _ _ _ M ((tape).toInt64) (0 : Int64) (5 : Int64)) (Or.inl rfl) wm_X12_54 ws_X12_in wy_X12_in rfl wd_X12_in wi_X12 (ez_rok hRm rfl) (Nat.le_of_ble_eq_true rfl) dX12_shift_6 ?_
  refine ez_nmI (fun r1 er1 => ?_)
  have hs := hs r1 er1
  refine ez_if_eq hX 24 dX12_shift_9 (by decide) (fun c2 => ?_) (fun c2 => ?_)
  · -- c2 jump
    have hs := hs.1 c2
    refine ez_iconst hX (-1 : Int32) dX12_shift_24 (by decide) ?_
    have ht : t0 = ((-1 : Int32), M) := hT.symm.trans (by simp only [et_X12_shift, er1, if_pos c2])
    subst ht
    exact ez_iret hX hQ dX12_shift_25 rfl rfl
  · -- c2 on
    have hs := hs.2 c2
    refine ez_iload_n hX 3 dX12_shift_12 rfl ?_
    refine ez_i2l hX dX12_shift_13 ?_
    refine ez_lconst hX (0 : Int64) dX12_shift_14 (by decide) ?_
    refine ez_ldc2 hX wl_X12_201 dX12_shift_15 ?_
    refine ez_callS hX (N0 := 0) (As := [.long ((other).toInt64), .long (0 : Int64), .long (5 : Int64)]) (st := []) (ec_X12_in _ _ _ M ((other).toInt64) (0 : Int64) (5 : Int64)) (Or.inl rfl) wm_X12_54 ws_X12_in wy_X12_in rfl wd_X12_in wi_X12 (ez_rok hRm rfl) (Nat.le_of_ble_eq_true rfl) dX12_shift_18 ?_
    refine ez_nmI (fun r3 er3 => ?_)
    have hs := hs r3 er3
    refine ez_if_ne hX 26 dX12_shift_21 (by decide) (fun c4 => ?_) (fun c4 => ?_)
    · -- c4 jump
      have hs := hs.2 c4
      refine ez_aload_n hX 0 dX12_shift_26 rfl ?_
      refine ez_getr hX kc_118 rfl (Nat.le_of_ble_eq_true rfl) lc_118 (Nat.le_of_ble_eq_true rfl) inX12 129 rfl rc_118_16 wf_X12_42 dX12_shift_27 ?_
      refine ez_iload_n hX 1 dX12_shift_30 rfl ?_
      refine ez_iald hX kc_129 lc_129 hs.1 dX12_shift_31 ?_
      have hs := hs.2
      refine ez_iconst hX (-1 : Int32) dX12_shift_32 (by decide) ?_
      refine ez_icmp_eq hX 46 dX12_shift_33 (by decide) (fun c5 => ?_) (fun c5 => ?_)
      · -- c5 jump
        have hs := hs.1 c5
        refine ez_bipush hX (-11 : Int32) dX12_shift_46 (by decide) ?_
        have ht : t0 = ((-11 : Int32), M) := hT.symm.trans (by simp only [et_X12_shift, er1, if_neg c2, er3, if_neg c4, if_pos c5])
        subst ht
        exact ez_iret hX hQ dX12_shift_48 rfl rfl
      · -- c5 on
        have hs := hs.2 c5
        refine ez_aload_n hX 0 dX12_shift_36 rfl ?_
        refine ez_getr hX kc_118 rfl (Nat.le_of_ble_eq_true rfl) lc_118 (Nat.le_of_ble_eq_true rfl) inX12 129 rfl rc_118_16 wf_X12_42 dX12_shift_37 ?_
        refine ez_iload_n hX 3 dX12_shift_40 rfl ?_
        refine ez_iald hX kc_129 lc_129 hs.1 dX12_shift_41 ?_
        have hs := hs.2
        refine ez_iconst hX (-1 : Int32) dX12_shift_42 (by decide) ?_
        refine ez_icmp_ne hX 49 dX12_shift_43 (by decide) (fun c6 => ?_) (fun c6 => ?_)
        · -- c6 jump
          have hs := hs.2 c6
          refine ez_aload_n hX 0 dX12_shift_49 rfl ?_
          refine ez_getr hX kc_118 rfl (Nat.le_of_ble_eq_true rfl) lc_118 (Nat.le_of_ble_eq_true rfl) inX12 129 rfl rc_118_16 wf_X12_42 dX12_shift_50 ?_
          refine ez_iload_n hX 1 dX12_shift_53 rfl ?_
          refine ez_iald hX kc_129 lc_129 hs.1 dX12_shift_54 ?_
          have hs := hs.2
          refine ez_aload_n hX 0 dX12_shift_55 rfl ?_
          refine ez_getr hX kc_118 rfl (Nat.le_of_ble_eq_true rfl) lc_118 (Nat.le_of_ble_eq_true rfl) inX12 129 rfl rc_118_16 wf_X12_42 dX12_shift_56 ?_
          refine ez_iload_n hX 3 dX12_shift_59 rfl ?_
          refine ez_iald hX kc_129 lc_129 hs.1 dX12_shift_60 ?_
          have hs := hs.2
          refine ez_icmp_eq hX 67 dX12_shift_61 (by decide) (fun c7 => ?_) (fun c7 => ?_)
          · -- c7 jump
            have hs := hs.1 c7
            refine ez_iload hX 5 dX12_shift_67 rfl ?_
            refine ez_if_lt hX 129 dX12_shift_69 (by decide) (fun c8 => ?_) (fun c8 => ?_)
            · -- c8 jump
              have hs := hs.1 c8
              refine ez_bipush hX (-13 : Int32) dX12_shift_129 (by decide) ?_
              have ht : t0 = ((-13 : Int32), M) := hT.symm.trans (by simp only [et_X12_shift, er1, if_neg c2, er3, if_neg c4, if_neg c5, if_neg c6, if_pos c7, if_pos c8])
              subst ht
              exact ez_iret hX hQ dX12_shift_131 rfl rfl
            · -- c8 on
              have hs := hs.2 c8
              refine ez_iload_n hX 2 dX12_shift_72 rfl ?_
              refine ez_if_lt hX 129 dX12_shift_73 (by decide) (fun c9 => ?_) (fun c9 => ?_)
              · -- c9 jump
                have hs := hs.1 c9
                refine ez_bipush hX (-13 : Int32) dX12_shift_129 (by decide) ?_
                have ht : t0 = ((-13 : Int32), M) := hT.symm.trans (by simp only [et_X12_shift, er1, if_neg c2, er3, if_neg c4, if_neg c5, if_neg c6, if_pos c7, if_neg c8, if_pos c9])
                subst ht
                exact ez_iret hX hQ dX12_shift_131 rfl rfl
              · -- c9 on
                have hs := hs.2 c9
                refine ez_iload hX 4 dX12_shift_76 rfl ?_
                refine ez_if_lt hX 129 dX12_shift_78 (by decide) (fun c10 => ?_) (fun c10 => ?_)
                · -- c10 jump
                  have hs := hs.1 c10
                  refine ez_bipush hX (-13 : Int32) dX12_shift_129 (by decide) ?_
                  have ht : t0 = ((-13 : Int32), M) := hT.symm.trans (by simp only [et_X12_shift, er1, if_neg c2, er3, if_neg c4, if_neg c5, if_neg c6, if_pos c7, if_neg c8, if_neg c9, if_pos c10])
                  subst ht
                  exact ez_iret hX hQ dX12_shift_131 rfl rfl
                · -- c10 on
                  have hs := hs.2 c10
                  refine ez_iload_n hX 2 dX12_shift_81 rfl ?_
                  refine ez_aload_n hX 0 dX12_shift_82 rfl ?_
                  refine ez_getr hX kc_118 rfl (Nat.le_of_ble_eq_true rfl) lc_118 (Nat.le_of_ble_eq_true rfl) inX12 130 rfl rc_118_17 wf_X12_45 dX12_shift_83 ?_
                  refine ez_iload_n hX 1 dX12_shift_86 rfl ?_
                  refine ez_iald hX kc_130 lc_130 hs.1 dX12_shift_87 ?_
                  have hs := hs.2
                  refine ez_icmp_gt hX 129 dX12_shift_88 (by decide) (fun c11 => ?_) (fun c11 => ?_)
                  · -- c11 jump
                    have hs := hs.1 c11
                    refine ez_bipush hX (-13 : Int32) dX12_shift_129 (by decide) ?_
                    have ht : t0 = ((-13 : Int32), M) := hT.symm.trans (by simp only [et_X12_shift, er1, if_neg c2, er3, if_neg c4, if_neg c5, if_neg c6, if_pos c7, if_neg c8, if_neg c9, if_neg c10, if_pos c11])
                    subst ht
                    exact ez_iret hX hQ dX12_shift_131 rfl rfl
                  · -- c11 on
                    have hs := hs.2 c11
                    refine ez_iload hX 4 dX12_shift_91 rfl ?_
                    refine ez_aload_n hX 0 dX12_shift_93 rfl ?_
                    refine ez_getr hX kc_118 rfl (Nat.le_of_ble_eq_true rfl) lc_118 (Nat.le_of_ble_eq_true rfl) inX12 130 rfl rc_118_17 wf_X12_45 dX12_shift_94 ?_
                    refine ez_iload_n hX 3 dX12_shift_97 rfl ?_
                    refine ez_iald hX kc_130 lc_130 hs.1 dX12_shift_98 ?_
                    have hs := hs.2
                    refine ez_icmp_gt hX 129 dX12_shift_99 (by decide) (fun c12 => ?_) (fun c12 => ?_)
                    · -- c12 jump
                      have hs := hs.1 c12
                      refine ez_bipush hX (-13 : Int32) dX12_shift_129 (by decide) ?_
                      have ht : t0 = ((-13 : Int32), M) := hT.symm.trans (by simp only [et_X12_shift, er1, if_neg c2, er3, if_neg c4, if_neg c5, if_neg c6, if_pos c7, if_neg c8, if_neg c9, if_neg c10, if_neg c11, if_pos c12])
                      subst ht
                      exact ez_iret hX hQ dX12_shift_131 rfl rfl
                    · -- c12 on
                      have hs := hs.2 c12
                      refine ez_iload hX 5 dX12_shift_102 rfl ?_
                      refine ez_aload_n hX 0 dX12_shift_104 rfl ?_
                      refine ez_getr hX kc_118 rfl (Nat.le_of_ble_eq_true rfl) lc_118 (Nat.le_of_ble_eq_true rfl) inX12 130 rfl rc_118_17 wf_X12_45 dX12_shift_105 ?_
                      refine ez_iload_n hX 1 dX12_shift_108 rfl ?_
                      refine ez_iald hX kc_130 lc_130 hs.1 dX12_shift_109 ?_
                      have hs := hs.2
                      refine ez_iload_n hX 2 dX12_shift_110 rfl ?_
                      refine ez_isub hX dX12_shift_111 ?_
                      refine ez_icmp_gt hX 129 dX12_shift_112 (by decide) (fun c13 => ?_) (fun c13 => ?_)
                      · -- c13 jump
                        have hs := hs.1 c13
                        refine ez_bipush hX (-13 : Int32) dX12_shift_129 (by decide) ?_
                        have ht : t0 = ((-13 : Int32), M) := hT.symm.trans (by simp only [et_X12_shift, er1, if_neg c2, er3, if_neg c4, if_neg c5, if_neg c6, if_pos c7, if_neg c8, if_neg c9, if_neg c10, if_neg c11, if_neg c12, if_pos c13])
                        subst ht
                        exact ez_iret hX hQ dX12_shift_131 rfl rfl
                      · -- c13 on
                        have hs := hs.2 c13
                        refine ez_iload hX 5 dX12_shift_115 rfl ?_
                        refine ez_aload_n hX 0 dX12_shift_117 rfl ?_
                        refine ez_getr hX kc_118 rfl (Nat.le_of_ble_eq_true rfl) lc_118 (Nat.le_of_ble_eq_true rfl) inX12 130 rfl rc_118_17 wf_X12_45 dX12_shift_118 ?_
                        refine ez_iload_n hX 3 dX12_shift_121 rfl ?_
                        refine ez_iald hX kc_130 lc_130 hs.1 dX12_shift_122 ?_
                        have hs := hs.2
                        refine ez_iload hX 4 dX12_shift_123 rfl ?_
                        refine ez_isub hX dX12_shift_125 ?_
                        refine ez_icmp_le hX 132 dX12_shift_126 (by decide) (fun c14 => ?_) (fun c14 => ?_)
                        · -- c14 jump
                          have hs := hs.1 c14
                          refine ez_iconst hX (0 : Int32) dX12_shift_132 (by decide) ?_
                          refine ez_istore hX [(6, .int (0 : Int32)), (0, .ref (ez_B X + 118)), (1, .int tape), (2, .int i), (3, .int other), (4, .int j), (5, .int n)] dX12_shift_133 (ez_lt hnL rfl) rfl ?_
                          refine ez_lv [1, 2, 3, 4, 5, 6, 0] rfl ?_
                          exact el_X12_shift_135 X  t0 hRm hnL hX hQ (n.toNatClampNeg + 1) M tape i other j n (0 : Int32) hs (Eq.trans (by simp only [et_X12_shift, er1, if_neg c2, er3, if_neg c4, if_neg c5, if_neg c6, if_pos c7, if_neg c8, if_neg c9, if_neg c10, if_neg c11, if_neg c12, if_neg c13, if_pos c14]) hT)
                        · -- c14 on
                          have hs := hs.2 c14
                          refine ez_bipush hX (-13 : Int32) dX12_shift_129 (by decide) ?_
                          have ht : t0 = ((-13 : Int32), M) := hT.symm.trans (by simp only [et_X12_shift, er1, if_neg c2, er3, if_neg c4, if_neg c5, if_neg c6, if_pos c7, if_neg c8, if_neg c9, if_neg c10, if_neg c11, if_neg c12, if_neg c13, if_neg c14])
                          subst ht
                          exact ez_iret hX hQ dX12_shift_131 rfl rfl
          · -- c7 on
            have hs := hs.2 c7
            refine ez_bipush hX (-12 : Int32) dX12_shift_64 (by decide) ?_
            have ht : t0 = ((-12 : Int32), M) := hT.symm.trans (by simp only [et_X12_shift, er1, if_neg c2, er3, if_neg c4, if_neg c5, if_neg c6, if_neg c7])
            subst ht
            exact ez_iret hX hQ dX12_shift_66 rfl rfl
        · -- c6 on
          have hs := hs.1 c6
          refine ez_bipush hX (-11 : Int32) dX12_shift_46 (by decide) ?_
          have ht : t0 = ((-11 : Int32), M) := hT.symm.trans (by simp only [et_X12_shift, er1, if_neg c2, er3, if_neg c4, if_neg c5, if_pos c6])
          subst ht
          exact ez_iret hX hQ dX12_shift_48 rfl rfl
    · -- c4 on
      have hs := hs.1 c4
      refine ez_iconst hX (-1 : Int32) dX12_shift_24 (by decide) ?_
      have ht : t0 = ((-1 : Int32), M) := hT.symm.trans (by simp only [et_X12_shift, er1, if_neg c2, er3, if_pos c4])
      subst ht
      exact ez_iret hX hQ dX12_shift_25 rfl rfl
